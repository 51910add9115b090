section
-- PART A is the skeleton's own text (kit/laws/SKELETON.whole.lean.txt)
-- ===== PART A: goes FIRST, ahead of the names: the tables' words, and 'selects' of the private methods out of them =====
/-- a private method of a class that the tables say can be made, by its rows of tables_1 -/
def lw_okq (q : MethodName × Nat) : Prop := (q.1.cls ≠ "java/lang/invoke/MethodHandle" ∧ q.1.cls ≠ "java/lang/invoke/VarHandle") ∧ Cond.instantiable q.1.cls q.2 ∈ tables_1 ∧ Cond.privateMethod q.1 ∈ tables_1 ∧ Cond.instanceMethod q.1 ∈ tables_1
theorem lw_p0 : lw_okq (⟨"ExpressionDesk$Store", "keep", "(IIJILExpressionDesk$Row;)I"⟩, 4) := ⟨⟨by decide +kernel, by decide +kernel⟩, List.mem_of_getElem? (i := 32) (by decide +kernel), List.mem_of_getElem? (i := 286) (by decide +kernel), List.mem_of_getElem? (i := 287) (by decide +kernel)⟩
theorem lw_p1 : lw_okq (⟨"java/util/ArrayList", "add", "(Ljava/lang/Object;[Ljava/lang/Object;I)V"⟩, 3) := ⟨⟨by decide +kernel, by decide +kernel⟩, List.mem_of_getElem? (i := 38) (by decide +kernel), List.mem_of_getElem? (i := 336) (by decide +kernel), List.mem_of_getElem? (i := 337) (by decide +kernel)⟩
theorem lw_p2 : lw_okq (⟨"java/util/ArrayList", "grow", "()[Ljava/lang/Object;"⟩, 3) := ⟨⟨by decide +kernel, by decide +kernel⟩, List.mem_of_getElem? (i := 38) (by decide +kernel), List.mem_of_getElem? (i := 340) (by decide +kernel), List.mem_of_getElem? (i := 341) (by decide +kernel)⟩
theorem lw_p3 : lw_okq (⟨"java/util/ArrayList", "grow", "(I)[Ljava/lang/Object;"⟩, 3) := ⟨⟨by decide +kernel, by decide +kernel⟩, List.mem_of_getElem? (i := 38) (by decide +kernel), List.mem_of_getElem? (i := 344) (by decide +kernel), List.mem_of_getElem? (i := 345) (by decide +kernel)⟩
theorem lw_p4 : lw_okq (⟨"ExpressionDesk$Value", "comparedByBytes", "(LExpressionDesk$Value;)I"⟩, 6) := ⟨⟨by decide +kernel, by decide +kernel⟩, List.mem_of_getElem? (i := 64) (by decide +kernel), List.mem_of_getElem? (i := 483) (by decide +kernel), List.mem_of_getElem? (i := 484) (by decide +kernel)⟩
theorem lw_p5 : lw_okq (⟨"ExpressionDesk$Expression", "isRight", "()Z"⟩, 9) := ⟨⟨by decide +kernel, by decide +kernel⟩, List.mem_of_getElem? (i := 154) (by decide +kernel), List.mem_of_getElem? (i := 523) (by decide +kernel), List.mem_of_getElem? (i := 524) (by decide +kernel)⟩
theorem lw_p6 : lw_okq (⟨"ExpressionDesk$Expression", "performWithErrors", "(II)I"⟩, 9) := ⟨⟨by decide +kernel, by decide +kernel⟩, List.mem_of_getElem? (i := 154) (by decide +kernel), List.mem_of_getElem? (i := 535) (by decide +kernel), List.mem_of_getElem? (i := 536) (by decide +kernel)⟩
theorem lw_p7 : lw_okq (⟨"ExpressionDesk$Expression", "boundTo", "(I)I"⟩, 9) := ⟨⟨by decide +kernel, by decide +kernel⟩, List.mem_of_getElem? (i := 154) (by decide +kernel), List.mem_of_getElem? (i := 540) (by decide +kernel), List.mem_of_getElem? (i := 541) (by decide +kernel)⟩
theorem lw_p8 : lw_okq (⟨"ExpressionDesk$Expression", "decidedBy", "(I)I"⟩, 9) := ⟨⟨by decide +kernel, by decide +kernel⟩, List.mem_of_getElem? (i := 154) (by decide +kernel), List.mem_of_getElem? (i := 545) (by decide +kernel), List.mem_of_getElem? (i := 546) (by decide +kernel)⟩
theorem lw_p9 : lw_okq (⟨"ExpressionDesk$Expression", "taken", "(I)LExpressionDesk$Value;"⟩, 9) := ⟨⟨by decide +kernel, by decide +kernel⟩, List.mem_of_getElem? (i := 154) (by decide +kernel), List.mem_of_getElem? (i := 549) (by decide +kernel), List.mem_of_getElem? (i := 550) (by decide +kernel)⟩
theorem lw_p10 : lw_okq (⟨"ExpressionDesk$Expression", "numberTaken", "(I)I"⟩, 9) := ⟨⟨by decide +kernel, by decide +kernel⟩, List.mem_of_getElem? (i := 154) (by decide +kernel), List.mem_of_getElem? (i := 553) (by decide +kernel), List.mem_of_getElem? (i := 554) (by decide +kernel)⟩
theorem lw_p11 : lw_okq (⟨"ExpressionDesk$Expression", "chosen", "()I"⟩, 9) := ⟨⟨by decide +kernel, by decide +kernel⟩, List.mem_of_getElem? (i := 154) (by decide +kernel), List.mem_of_getElem? (i := 561) (by decide +kernel), List.mem_of_getElem? (i := 562) (by decide +kernel)⟩
theorem lw_p12 : lw_okq (⟨"ExpressionDesk$Expression", "firstGood", "(I)I"⟩, 9) := ⟨⟨by decide +kernel, by decide +kernel⟩, List.mem_of_getElem? (i := 154) (by decide +kernel), List.mem_of_getElem? (i := 565) (by decide +kernel), List.mem_of_getElem? (i := 566) (by decide +kernel)⟩
theorem lw_p13 : lw_okq (⟨"ExpressionDesk$Expression", "among", "(I)I"⟩, 9) := ⟨⟨by decide +kernel, by decide +kernel⟩, List.mem_of_getElem? (i := 154) (by decide +kernel), List.mem_of_getElem? (i := 569) (by decide +kernel), List.mem_of_getElem? (i := 570) (by decide +kernel)⟩
theorem lw_p14 : lw_okq (⟨"ExpressionDesk$Expression", "equal", "(II)I"⟩, 9) := ⟨⟨by decide +kernel, by decide +kernel⟩, List.mem_of_getElem? (i := 154) (by decide +kernel), List.mem_of_getElem? (i := 573) (by decide +kernel), List.mem_of_getElem? (i := 574) (by decide +kernel)⟩
theorem lw_p15 : lw_okq (⟨"ExpressionDesk$Expression", "hasTakenError", "(I)Z"⟩, 9) := ⟨⟨by decide +kernel, by decide +kernel⟩, List.mem_of_getElem? (i := 154) (by decide +kernel), List.mem_of_getElem? (i := 579) (by decide +kernel), List.mem_of_getElem? (i := 580) (by decide +kernel)⟩
def lw_privs_1 : List (MethodName × Nat) := [(⟨"ExpressionDesk$Store", "keep", "(IIJILExpressionDesk$Row;)I"⟩, 4), (⟨"java/util/ArrayList", "add", "(Ljava/lang/Object;[Ljava/lang/Object;I)V"⟩, 3), (⟨"java/util/ArrayList", "grow", "()[Ljava/lang/Object;"⟩, 3), (⟨"java/util/ArrayList", "grow", "(I)[Ljava/lang/Object;"⟩, 3), (⟨"ExpressionDesk$Value", "comparedByBytes", "(LExpressionDesk$Value;)I"⟩, 6), (⟨"ExpressionDesk$Expression", "isRight", "()Z"⟩, 9), (⟨"ExpressionDesk$Expression", "performWithErrors", "(II)I"⟩, 9), (⟨"ExpressionDesk$Expression", "boundTo", "(I)I"⟩, 9), (⟨"ExpressionDesk$Expression", "decidedBy", "(I)I"⟩, 9), (⟨"ExpressionDesk$Expression", "taken", "(I)LExpressionDesk$Value;"⟩, 9), (⟨"ExpressionDesk$Expression", "numberTaken", "(I)I"⟩, 9), (⟨"ExpressionDesk$Expression", "chosen", "()I"⟩, 9), (⟨"ExpressionDesk$Expression", "firstGood", "(I)I"⟩, 9), (⟨"ExpressionDesk$Expression", "among", "(I)I"⟩, 9), (⟨"ExpressionDesk$Expression", "equal", "(II)I"⟩, 9), (⟨"ExpressionDesk$Expression", "hasTakenError", "(I)Z"⟩, 9)]
theorem lw_r1 : ∀ q ∈ lw_privs_1, lw_okq q := List.forall_mem_cons.mpr ⟨lw_p0, List.forall_mem_cons.mpr ⟨lw_p1, List.forall_mem_cons.mpr ⟨lw_p2, List.forall_mem_cons.mpr ⟨lw_p3, List.forall_mem_cons.mpr ⟨lw_p4, List.forall_mem_cons.mpr ⟨lw_p5, List.forall_mem_cons.mpr ⟨lw_p6, List.forall_mem_cons.mpr ⟨lw_p7, List.forall_mem_cons.mpr ⟨lw_p8, List.forall_mem_cons.mpr ⟨lw_p9, List.forall_mem_cons.mpr ⟨lw_p10, List.forall_mem_cons.mpr ⟨lw_p11, List.forall_mem_cons.mpr ⟨lw_p12, List.forall_mem_cons.mpr ⟨lw_p13, List.forall_mem_cons.mpr ⟨lw_p14, List.forall_mem_cons.mpr ⟨lw_p15, fun _ h => absurd h List.not_mem_nil⟩⟩⟩⟩⟩⟩⟩⟩⟩⟩⟩⟩⟩⟩⟩⟩
theorem lw_p16 : lw_okq (⟨"ExpressionDesk$Expression", "performOnValues", "(II)I"⟩, 9) := ⟨⟨by decide +kernel, by decide +kernel⟩, List.mem_of_getElem? (i := 154) (by decide +kernel), List.mem_of_getElem? (i := 583) (by decide +kernel), List.mem_of_getElem? (i := 584) (by decide +kernel)⟩
theorem lw_p17 : lw_okq (⟨"ExpressionDesk$Expression", "judged", "(II)I"⟩, 9) := ⟨⟨by decide +kernel, by decide +kernel⟩, List.mem_of_getElem? (i := 154) (by decide +kernel), List.mem_of_getElem? (i := 587) (by decide +kernel), List.mem_of_getElem? (i := 588) (by decide +kernel)⟩
theorem lw_p18 : lw_okq (⟨"ExpressionDesk$Expression", "compared", "(I)I"⟩, 9) := ⟨⟨by decide +kernel, by decide +kernel⟩, List.mem_of_getElem? (i := 154) (by decide +kernel), List.mem_of_getElem? (i := 591) (by decide +kernel), List.mem_of_getElem? (i := 592) (by decide +kernel)⟩
theorem lw_p19 : lw_okq (⟨"ExpressionDesk$Expression", "reckoned", "(I)I"⟩, 9) := ⟨⟨by decide +kernel, by decide +kernel⟩, List.mem_of_getElem? (i := 154) (by decide +kernel), List.mem_of_getElem? (i := 596) (by decide +kernel), List.mem_of_getElem? (i := 597) (by decide +kernel)⟩
theorem lw_p20 : lw_okq (⟨"ExpressionDesk$Reckoner", "settle", "(ZJJ)V"⟩, 4) := ⟨⟨by decide +kernel, by decide +kernel⟩, List.mem_of_getElem? (i := 162) (by decide +kernel), List.mem_of_getElem? (i := 612) (by decide +kernel), List.mem_of_getElem? (i := 613) (by decide +kernel)⟩
theorem lw_p21 : lw_okq (⟨"ExpressionDesk$Expression", "ofNumber", "(I)I"⟩, 9) := ⟨⟨by decide +kernel, by decide +kernel⟩, List.mem_of_getElem? (i := 154) (by decide +kernel), List.mem_of_getElem? (i := 636) (by decide +kernel), List.mem_of_getElem? (i := 637) (by decide +kernel)⟩
theorem lw_p22 : lw_okq (⟨"ExpressionDesk$Expression", "chained", "(I)I"⟩, 9) := ⟨⟨by decide +kernel, by decide +kernel⟩, List.mem_of_getElem? (i := 154) (by decide +kernel), List.mem_of_getElem? (i := 646) (by decide +kernel), List.mem_of_getElem? (i := 647) (by decide +kernel)⟩
theorem lw_p23 : lw_okq (⟨"ExpressionDesk$Expression", "ofText", "(I)I"⟩, 9) := ⟨⟨by decide +kernel, by decide +kernel⟩, List.mem_of_getElem? (i := 154) (by decide +kernel), List.mem_of_getElem? (i := 662) (by decide +kernel), List.mem_of_getElem? (i := 663) (by decide +kernel)⟩
theorem lw_p24 : lw_okq (⟨"ExpressionDesk$Expression", "part", "(LExpressionDesk$Value;LExpressionDesk$Value;LExpressionDesk$Value;)I"⟩, 9) := ⟨⟨by decide +kernel, by decide +kernel⟩, List.mem_of_getElem? (i := 154) (by decide +kernel), List.mem_of_getElem? (i := 666) (by decide +kernel), List.mem_of_getElem? (i := 667) (by decide +kernel)⟩
theorem lw_p25 : lw_okq (⟨"ExpressionDesk$Expression", "turned", "(LExpressionDesk$Value;III)I"⟩, 9) := ⟨⟨by decide +kernel, by decide +kernel⟩, List.mem_of_getElem? (i := 154) (by decide +kernel), List.mem_of_getElem? (i := 676) (by decide +kernel), List.mem_of_getElem? (i := 677) (by decide +kernel)⟩
theorem lw_p26 : lw_okq (⟨"ExpressionDesk$Expression", "searched", "(I)I"⟩, 9) := ⟨⟨by decide +kernel, by decide +kernel⟩, List.mem_of_getElem? (i := 154) (by decide +kernel), List.mem_of_getElem? (i := 681) (by decide +kernel), List.mem_of_getElem? (i := 682) (by decide +kernel)⟩
theorem lw_p27 : lw_okq (⟨"ExpressionDesk$Expression", "cut", "(LExpressionDesk$Value;III)I"⟩, 9) := ⟨⟨by decide +kernel, by decide +kernel⟩, List.mem_of_getElem? (i := 154) (by decide +kernel), List.mem_of_getElem? (i := 691) (by decide +kernel), List.mem_of_getElem? (i := 692) (by decide +kernel)⟩
theorem lw_p28 : lw_okq (⟨"ExpressionDesk$Expression", "ofAny", "(I)I"⟩, 9) := ⟨⟨by decide +kernel, by decide +kernel⟩, List.mem_of_getElem? (i := 154) (by decide +kernel), List.mem_of_getElem? (i := 695) (by decide +kernel), List.mem_of_getElem? (i := 696) (by decide +kernel)⟩
theorem lw_p29 : lw_okq (⟨"ExpressionDesk$Expression", "tagText", "(LExpressionDesk$Value;)I"⟩, 9) := ⟨⟨by decide +kernel, by decide +kernel⟩, List.mem_of_getElem? (i := 154) (by decide +kernel), List.mem_of_getElem? (i := 765) (by decide +kernel), List.mem_of_getElem? (i := 766) (by decide +kernel)⟩
theorem lw_p30 : lw_okq (⟨"ExpressionDesk$Expression", "typeName", "(LExpressionDesk$Value;)I"⟩, 9) := ⟨⟨by decide +kernel, by decide +kernel⟩, List.mem_of_getElem? (i := 154) (by decide +kernel), List.mem_of_getElem? (i := 770) (by decide +kernel), List.mem_of_getElem? (i := 771) (by decide +kernel)⟩
theorem lw_p31 : lw_okq (⟨"ExpressionDesk$Gathering", "isThere", "(I)Z"⟩, 9) := ⟨⟨by decide +kernel, by decide +kernel⟩, List.mem_of_getElem? (i := 214) (by decide +kernel), List.mem_of_getElem? (i := 800) (by decide +kernel), List.mem_of_getElem? (i := 801) (by decide +kernel)⟩
def lw_privs_2 : List (MethodName × Nat) := [(⟨"ExpressionDesk$Expression", "performOnValues", "(II)I"⟩, 9), (⟨"ExpressionDesk$Expression", "judged", "(II)I"⟩, 9), (⟨"ExpressionDesk$Expression", "compared", "(I)I"⟩, 9), (⟨"ExpressionDesk$Expression", "reckoned", "(I)I"⟩, 9), (⟨"ExpressionDesk$Reckoner", "settle", "(ZJJ)V"⟩, 4), (⟨"ExpressionDesk$Expression", "ofNumber", "(I)I"⟩, 9), (⟨"ExpressionDesk$Expression", "chained", "(I)I"⟩, 9), (⟨"ExpressionDesk$Expression", "ofText", "(I)I"⟩, 9), (⟨"ExpressionDesk$Expression", "part", "(LExpressionDesk$Value;LExpressionDesk$Value;LExpressionDesk$Value;)I"⟩, 9), (⟨"ExpressionDesk$Expression", "turned", "(LExpressionDesk$Value;III)I"⟩, 9), (⟨"ExpressionDesk$Expression", "searched", "(I)I"⟩, 9), (⟨"ExpressionDesk$Expression", "cut", "(LExpressionDesk$Value;III)I"⟩, 9), (⟨"ExpressionDesk$Expression", "ofAny", "(I)I"⟩, 9), (⟨"ExpressionDesk$Expression", "tagText", "(LExpressionDesk$Value;)I"⟩, 9), (⟨"ExpressionDesk$Expression", "typeName", "(LExpressionDesk$Value;)I"⟩, 9), (⟨"ExpressionDesk$Gathering", "isThere", "(I)Z"⟩, 9)]
theorem lw_r2 : ∀ q ∈ lw_privs_2, lw_okq q := List.forall_mem_cons.mpr ⟨lw_p16, List.forall_mem_cons.mpr ⟨lw_p17, List.forall_mem_cons.mpr ⟨lw_p18, List.forall_mem_cons.mpr ⟨lw_p19, List.forall_mem_cons.mpr ⟨lw_p20, List.forall_mem_cons.mpr ⟨lw_p21, List.forall_mem_cons.mpr ⟨lw_p22, List.forall_mem_cons.mpr ⟨lw_p23, List.forall_mem_cons.mpr ⟨lw_p24, List.forall_mem_cons.mpr ⟨lw_p25, List.forall_mem_cons.mpr ⟨lw_p26, List.forall_mem_cons.mpr ⟨lw_p27, List.forall_mem_cons.mpr ⟨lw_p28, List.forall_mem_cons.mpr ⟨lw_p29, List.forall_mem_cons.mpr ⟨lw_p30, List.forall_mem_cons.mpr ⟨lw_p31, fun _ h => absurd h List.not_mem_nil⟩⟩⟩⟩⟩⟩⟩⟩⟩⟩⟩⟩⟩⟩⟩⟩
theorem lw_p32 : lw_okq (⟨"ExpressionDesk$Gathering", "countGood", "()I"⟩, 9) := ⟨⟨by decide +kernel, by decide +kernel⟩, List.mem_of_getElem? (i := 214) (by decide +kernel), List.mem_of_getElem? (i := 812) (by decide +kernel), List.mem_of_getElem? (i := 813) (by decide +kernel)⟩
theorem lw_p33 : lw_okq (⟨"ExpressionDesk$Gathering", "reckonSum", "()V"⟩, 9) := ⟨⟨by decide +kernel, by decide +kernel⟩, List.mem_of_getElem? (i := 214) (by decide +kernel), List.mem_of_getElem? (i := 817) (by decide +kernel), List.mem_of_getElem? (i := 818) (by decide +kernel)⟩
theorem lw_p34 : lw_okq (⟨"ExpressionDesk$Gathering", "outermost", "(I)I"⟩, 9) := ⟨⟨by decide +kernel, by decide +kernel⟩, List.mem_of_getElem? (i := 214) (by decide +kernel), List.mem_of_getElem? (i := 826) (by decide +kernel), List.mem_of_getElem? (i := 827) (by decide +kernel)⟩
theorem lw_p35 : lw_okq (⟨"ExpressionDesk$Gathering", "joined", "()I"⟩, 9) := ⟨⟨by decide +kernel, by decide +kernel⟩, List.mem_of_getElem? (i := 214) (by decide +kernel), List.mem_of_getElem? (i := 831) (by decide +kernel), List.mem_of_getElem? (i := 832) (by decide +kernel)⟩
theorem lw_p36 : lw_okq (⟨"ExpressionDesk$Gathering", "putAll", "([I)Z"⟩, 9) := ⟨⟨by decide +kernel, by decide +kernel⟩, List.mem_of_getElem? (i := 214) (by decide +kernel), List.mem_of_getElem? (i := 835) (by decide +kernel), List.mem_of_getElem? (i := 836) (by decide +kernel)⟩
theorem lw_p37 : lw_okq (⟨"ExpressionDesk$Gathering", "sortGathered", "()V"⟩, 9) := ⟨⟨by decide +kernel, by decide +kernel⟩, List.mem_of_getElem? (i := 214) (by decide +kernel), List.mem_of_getElem? (i := 842) (by decide +kernel), List.mem_of_getElem? (i := 843) (by decide +kernel)⟩
theorem lw_p38 : lw_okq (⟨"ExpressionDeskModel", "numbered", "(JIZ)I"⟩, 34) := ⟨⟨by decide +kernel, by decide +kernel⟩, List.mem_of_getElem? (i := 847) (by decide +kernel), List.mem_of_getElem? (i := 972) (by decide +kernel), List.mem_of_getElem? (i := 973) (by decide +kernel)⟩
theorem lw_p39 : lw_okq (⟨"ExpressionDeskModel", "number", "([IIZ)I"⟩, 34) := ⟨⟨by decide +kernel, by decide +kernel⟩, List.mem_of_getElem? (i := 847) (by decide +kernel), List.mem_of_getElem? (i := 980) (by decide +kernel), List.mem_of_getElem? (i := 981) (by decide +kernel)⟩
theorem lw_p40 : lw_okq (⟨"ExpressionDeskModel", "start", "(II)V"⟩, 34) := ⟨⟨by decide +kernel, by decide +kernel⟩, List.mem_of_getElem? (i := 847) (by decide +kernel), List.mem_of_getElem? (i := 984) (by decide +kernel), List.mem_of_getElem? (i := 985) (by decide +kernel)⟩
theorem lw_p41 : lw_okq (⟨"ExpressionDeskModel", "keep", "()I"⟩, 34) := ⟨⟨by decide +kernel, by decide +kernel⟩, List.mem_of_getElem? (i := 847) (by decide +kernel), List.mem_of_getElem? (i := 991) (by decide +kernel), List.mem_of_getElem? (i := 992) (by decide +kernel)⟩
theorem lw_p42 : lw_okq (⟨"ExpressionDeskModel", "isIt", "(I)Z"⟩, 34) := ⟨⟨by decide +kernel, by decide +kernel⟩, List.mem_of_getElem? (i := 847) (by decide +kernel), List.mem_of_getElem? (i := 995) (by decide +kernel), List.mem_of_getElem? (i := 996) (by decide +kernel)⟩
theorem lw_p43 : lw_okq (⟨"ExpressionDeskModel", "letter", "(I)V"⟩, 34) := ⟨⟨by decide +kernel, by decide +kernel⟩, List.mem_of_getElem? (i := 847) (by decide +kernel), List.mem_of_getElem? (i := 1015) (by decide +kernel), List.mem_of_getElem? (i := 1016) (by decide +kernel)⟩
theorem lw_p44 : lw_okq (⟨"ExpressionDeskModel", "isValue", "(I)Z"⟩, 34) := ⟨⟨by decide +kernel, by decide +kernel⟩, List.mem_of_getElem? (i := 847) (by decide +kernel), List.mem_of_getElem? (i := 1023) (by decide +kernel), List.mem_of_getElem? (i := 1024) (by decide +kernel)⟩
theorem lw_p45 : lw_okq (⟨"ExpressionDeskModel", "orderOf", "(II)I"⟩, 34) := ⟨⟨by decide +kernel, by decide +kernel⟩, List.mem_of_getElem? (i := 847) (by decide +kernel), List.mem_of_getElem? (i := 1043) (by decide +kernel), List.mem_of_getElem? (i := 1044) (by decide +kernel)⟩
theorem lw_p46 : lw_okq (⟨"ExpressionDeskModel", "rank", "(I)I"⟩, 34) := ⟨⟨by decide +kernel, by decide +kernel⟩, List.mem_of_getElem? (i := 847) (by decide +kernel), List.mem_of_getElem? (i := 1047) (by decide +kernel), List.mem_of_getElem? (i := 1048) (by decide +kernel)⟩
theorem lw_p47 : lw_okq (⟨"ExpressionDeskModel", "isNumber", "(I)Z"⟩, 34) := ⟨⟨by decide +kernel, by decide +kernel⟩, List.mem_of_getElem? (i := 847) (by decide +kernel), List.mem_of_getElem? (i := 1051) (by decide +kernel), List.mem_of_getElem? (i := 1052) (by decide +kernel)⟩
def lw_privs_3 : List (MethodName × Nat) := [(⟨"ExpressionDesk$Gathering", "countGood", "()I"⟩, 9), (⟨"ExpressionDesk$Gathering", "reckonSum", "()V"⟩, 9), (⟨"ExpressionDesk$Gathering", "outermost", "(I)I"⟩, 9), (⟨"ExpressionDesk$Gathering", "joined", "()I"⟩, 9), (⟨"ExpressionDesk$Gathering", "putAll", "([I)Z"⟩, 9), (⟨"ExpressionDesk$Gathering", "sortGathered", "()V"⟩, 9), (⟨"ExpressionDeskModel", "numbered", "(JIZ)I"⟩, 34), (⟨"ExpressionDeskModel", "number", "([IIZ)I"⟩, 34), (⟨"ExpressionDeskModel", "start", "(II)V"⟩, 34), (⟨"ExpressionDeskModel", "keep", "()I"⟩, 34), (⟨"ExpressionDeskModel", "isIt", "(I)Z"⟩, 34), (⟨"ExpressionDeskModel", "letter", "(I)V"⟩, 34), (⟨"ExpressionDeskModel", "isValue", "(I)Z"⟩, 34), (⟨"ExpressionDeskModel", "orderOf", "(II)I"⟩, 34), (⟨"ExpressionDeskModel", "rank", "(I)I"⟩, 34), (⟨"ExpressionDeskModel", "isNumber", "(I)Z"⟩, 34)]
theorem lw_r3 : ∀ q ∈ lw_privs_3, lw_okq q := List.forall_mem_cons.mpr ⟨lw_p32, List.forall_mem_cons.mpr ⟨lw_p33, List.forall_mem_cons.mpr ⟨lw_p34, List.forall_mem_cons.mpr ⟨lw_p35, List.forall_mem_cons.mpr ⟨lw_p36, List.forall_mem_cons.mpr ⟨lw_p37, List.forall_mem_cons.mpr ⟨lw_p38, List.forall_mem_cons.mpr ⟨lw_p39, List.forall_mem_cons.mpr ⟨lw_p40, List.forall_mem_cons.mpr ⟨lw_p41, List.forall_mem_cons.mpr ⟨lw_p42, List.forall_mem_cons.mpr ⟨lw_p43, List.forall_mem_cons.mpr ⟨lw_p44, List.forall_mem_cons.mpr ⟨lw_p45, List.forall_mem_cons.mpr ⟨lw_p46, List.forall_mem_cons.mpr ⟨lw_p47, fun _ h => absurd h List.not_mem_nil⟩⟩⟩⟩⟩⟩⟩⟩⟩⟩⟩⟩⟩⟩⟩⟩
theorem lw_p48 : lw_okq (⟨"ExpressionDeskModel", "orderNumbers", "(II)I"⟩, 34) := ⟨⟨by decide +kernel, by decide +kernel⟩, List.mem_of_getElem? (i := 847) (by decide +kernel), List.mem_of_getElem? (i := 1055) (by decide +kernel), List.mem_of_getElem? (i := 1056) (by decide +kernel)⟩
theorem lw_p49 : lw_okq (⟨"ExpressionDeskModel", "lay", "(I[I)V"⟩, 34) := ⟨⟨by decide +kernel, by decide +kernel⟩, List.mem_of_getElem? (i := 847) (by decide +kernel), List.mem_of_getElem? (i := 1059) (by decide +kernel), List.mem_of_getElem? (i := 1060) (by decide +kernel)⟩
theorem lw_p50 : lw_okq (⟨"ExpressionDeskModel", "orderBytes", "(II)I"⟩, 34) := ⟨⟨by decide +kernel, by decide +kernel⟩, List.mem_of_getElem? (i := 847) (by decide +kernel), List.mem_of_getElem? (i := 1066) (by decide +kernel), List.mem_of_getElem? (i := 1067) (by decide +kernel)⟩
theorem lw_p51 : lw_okq (⟨"ExpressionDeskModel", "isRight", "()Z"⟩, 34) := ⟨⟨by decide +kernel, by decide +kernel⟩, List.mem_of_getElem? (i := 847) (by decide +kernel), List.mem_of_getElem? (i := 1086) (by decide +kernel), List.mem_of_getElem? (i := 1087) (by decide +kernel)⟩
theorem lw_p52 : lw_okq (⟨"ExpressionDeskModel", "takes", "(I)I"⟩, 34) := ⟨⟨by decide +kernel, by decide +kernel⟩, List.mem_of_getElem? (i := 847) (by decide +kernel), List.mem_of_getElem? (i := 1090) (by decide +kernel), List.mem_of_getElem? (i := 1091) (by decide +kernel)⟩
theorem lw_p53 : lw_okq (⟨"ExpressionDeskModel", "done", "(II)I"⟩, 34) := ⟨⟨by decide +kernel, by decide +kernel⟩, List.mem_of_getElem? (i := 847) (by decide +kernel), List.mem_of_getElem? (i := 1094) (by decide +kernel), List.mem_of_getElem? (i := 1095) (by decide +kernel)⟩
theorem lw_p54 : lw_okq (⟨"ExpressionDeskModel", "ofItsOwn", "(II)I"⟩, 34) := ⟨⟨by decide +kernel, by decide +kernel⟩, List.mem_of_getElem? (i := 847) (by decide +kernel), List.mem_of_getElem? (i := 1098) (by decide +kernel), List.mem_of_getElem? (i := 1099) (by decide +kernel)⟩
theorem lw_p55 : lw_okq (⟨"ExpressionDeskModel", "bindingOf", "(I)I"⟩, 34) := ⟨⟨by decide +kernel, by decide +kernel⟩, List.mem_of_getElem? (i := 847) (by decide +kernel), List.mem_of_getElem? (i := 1102) (by decide +kernel), List.mem_of_getElem? (i := 1103) (by decide +kernel)⟩
theorem lw_p56 : lw_okq (⟨"ExpressionDeskModel", "both", "(III)I"⟩, 34) := ⟨⟨by decide +kernel, by decide +kernel⟩, List.mem_of_getElem? (i := 847) (by decide +kernel), List.mem_of_getElem? (i := 1107) (by decide +kernel), List.mem_of_getElem? (i := 1108) (by decide +kernel)⟩
theorem lw_p57 : lw_okq (⟨"ExpressionDeskModel", "truthOf", "(I)I"⟩, 34) := ⟨⟨by decide +kernel, by decide +kernel⟩, List.mem_of_getElem? (i := 847) (by decide +kernel), List.mem_of_getElem? (i := 1111) (by decide +kernel), List.mem_of_getElem? (i := 1112) (by decide +kernel)⟩
theorem lw_p58 : lw_okq (⟨"ExpressionDeskModel", "given", "(I)I"⟩, 34) := ⟨⟨by decide +kernel, by decide +kernel⟩, List.mem_of_getElem? (i := 847) (by decide +kernel), List.mem_of_getElem? (i := 1118) (by decide +kernel), List.mem_of_getElem? (i := 1119) (by decide +kernel)⟩
theorem lw_p59 : lw_okq (⟨"ExpressionDeskModel", "isIn", "(II)I"⟩, 34) := ⟨⟨by decide +kernel, by decide +kernel⟩, List.mem_of_getElem? (i := 847) (by decide +kernel), List.mem_of_getElem? (i := 1122) (by decide +kernel), List.mem_of_getElem? (i := 1123) (by decide +kernel)⟩
theorem lw_p60 : lw_okq (⟨"ExpressionDeskModel", "equal", "(II)I"⟩, 34) := ⟨⟨by decide +kernel, by decide +kernel⟩, List.mem_of_getElem? (i := 847) (by decide +kernel), List.mem_of_getElem? (i := 1126) (by decide +kernel), List.mem_of_getElem? (i := 1127) (by decide +kernel)⟩
theorem lw_p61 : lw_okq (⟨"ExpressionDeskModel", "rowOf", "(II)I"⟩, 34) := ⟨⟨by decide +kernel, by decide +kernel⟩, List.mem_of_getElem? (i := 847) (by decide +kernel), List.mem_of_getElem? (i := 1130) (by decide +kernel), List.mem_of_getElem? (i := 1131) (by decide +kernel)⟩
theorem lw_p62 : lw_okq (⟨"ExpressionDeskModel", "isPlain", "(I)Z"⟩, 34) := ⟨⟨by decide +kernel, by decide +kernel⟩, List.mem_of_getElem? (i := 847) (by decide +kernel), List.mem_of_getElem? (i := 1134) (by decide +kernel), List.mem_of_getElem? (i := 1135) (by decide +kernel)⟩
theorem lw_p63 : lw_okq (⟨"ExpressionDeskModel", "letterAll", "(III)V"⟩, 34) := ⟨⟨by decide +kernel, by decide +kernel⟩, List.mem_of_getElem? (i := 847) (by decide +kernel), List.mem_of_getElem? (i := 1138) (by decide +kernel), List.mem_of_getElem? (i := 1139) (by decide +kernel)⟩
def lw_privs_4 : List (MethodName × Nat) := [(⟨"ExpressionDeskModel", "orderNumbers", "(II)I"⟩, 34), (⟨"ExpressionDeskModel", "lay", "(I[I)V"⟩, 34), (⟨"ExpressionDeskModel", "orderBytes", "(II)I"⟩, 34), (⟨"ExpressionDeskModel", "isRight", "()Z"⟩, 34), (⟨"ExpressionDeskModel", "takes", "(I)I"⟩, 34), (⟨"ExpressionDeskModel", "done", "(II)I"⟩, 34), (⟨"ExpressionDeskModel", "ofItsOwn", "(II)I"⟩, 34), (⟨"ExpressionDeskModel", "bindingOf", "(I)I"⟩, 34), (⟨"ExpressionDeskModel", "both", "(III)I"⟩, 34), (⟨"ExpressionDeskModel", "truthOf", "(I)I"⟩, 34), (⟨"ExpressionDeskModel", "given", "(I)I"⟩, 34), (⟨"ExpressionDeskModel", "isIn", "(II)I"⟩, 34), (⟨"ExpressionDeskModel", "equal", "(II)I"⟩, 34), (⟨"ExpressionDeskModel", "rowOf", "(II)I"⟩, 34), (⟨"ExpressionDeskModel", "isPlain", "(I)Z"⟩, 34), (⟨"ExpressionDeskModel", "letterAll", "(III)V"⟩, 34)]
theorem lw_r4 : ∀ q ∈ lw_privs_4, lw_okq q := List.forall_mem_cons.mpr ⟨lw_p48, List.forall_mem_cons.mpr ⟨lw_p49, List.forall_mem_cons.mpr ⟨lw_p50, List.forall_mem_cons.mpr ⟨lw_p51, List.forall_mem_cons.mpr ⟨lw_p52, List.forall_mem_cons.mpr ⟨lw_p53, List.forall_mem_cons.mpr ⟨lw_p54, List.forall_mem_cons.mpr ⟨lw_p55, List.forall_mem_cons.mpr ⟨lw_p56, List.forall_mem_cons.mpr ⟨lw_p57, List.forall_mem_cons.mpr ⟨lw_p58, List.forall_mem_cons.mpr ⟨lw_p59, List.forall_mem_cons.mpr ⟨lw_p60, List.forall_mem_cons.mpr ⟨lw_p61, List.forall_mem_cons.mpr ⟨lw_p62, List.forall_mem_cons.mpr ⟨lw_p63, fun _ h => absurd h List.not_mem_nil⟩⟩⟩⟩⟩⟩⟩⟩⟩⟩⟩⟩⟩⟩⟩⟩
theorem lw_p64 : lw_okq (⟨"ExpressionDeskModel", "some", "(III)I"⟩, 34) := ⟨⟨by decide +kernel, by decide +kernel⟩, List.mem_of_getElem? (i := 847) (by decide +kernel), List.mem_of_getElem? (i := 1142) (by decide +kernel), List.mem_of_getElem? (i := 1143) (by decide +kernel)⟩
theorem lw_p65 : lw_okq (⟨"ExpressionDeskModel", "two", "(III)I"⟩, 34) := ⟨⟨by decide +kernel, by decide +kernel⟩, List.mem_of_getElem? (i := 847) (by decide +kernel), List.mem_of_getElem? (i := 1147) (by decide +kernel), List.mem_of_getElem? (i := 1148) (by decide +kernel)⟩
theorem lw_p66 : lw_okq (⟨"ExpressionDeskModel", "less", "(II)I"⟩, 34) := ⟨⟨by decide +kernel, by decide +kernel⟩, List.mem_of_getElem? (i := 847) (by decide +kernel), List.mem_of_getElem? (i := 1154) (by decide +kernel), List.mem_of_getElem? (i := 1155) (by decide +kernel)⟩
theorem lw_p67 : lw_okq (⟨"ExpressionDeskModel", "around", "(III)I"⟩, 34) := ⟨⟨by decide +kernel, by decide +kernel⟩, List.mem_of_getElem? (i := 847) (by decide +kernel), List.mem_of_getElem? (i := 1158) (by decide +kernel), List.mem_of_getElem? (i := 1159) (by decide +kernel)⟩
theorem lw_p68 : lw_okq (⟨"ExpressionDeskModel", "goWith", "(II)Z"⟩, 34) := ⟨⟨by decide +kernel, by decide +kernel⟩, List.mem_of_getElem? (i := 847) (by decide +kernel), List.mem_of_getElem? (i := 1162) (by decide +kernel), List.mem_of_getElem? (i := 1163) (by decide +kernel)⟩
theorem lw_p69 : lw_okq (⟨"ExpressionDeskModel", "within", "(II)I"⟩, 34) := ⟨⟨by decide +kernel, by decide +kernel⟩, List.mem_of_getElem? (i := 847) (by decide +kernel), List.mem_of_getElem? (i := 1166) (by decide +kernel), List.mem_of_getElem? (i := 1167) (by decide +kernel)⟩
theorem lw_p70 : lw_okq (⟨"ExpressionDeskModel", "isAt", "(III)Z"⟩, 34) := ⟨⟨by decide +kernel, by decide +kernel⟩, List.mem_of_getElem? (i := 847) (by decide +kernel), List.mem_of_getElem? (i := 1170) (by decide +kernel), List.mem_of_getElem? (i := 1171) (by decide +kernel)⟩
theorem lw_p71 : lw_okq (⟨"ExpressionDeskModel", "piece", "(III)I"⟩, 34) := ⟨⟨by decide +kernel, by decide +kernel⟩, List.mem_of_getElem? (i := 847) (by decide +kernel), List.mem_of_getElem? (i := 1174) (by decide +kernel), List.mem_of_getElem? (i := 1175) (by decide +kernel)⟩
theorem lw_p72 : lw_okq (⟨"ExpressionDeskModel", "sum", "(III)I"⟩, 34) := ⟨⟨by decide +kernel, by decide +kernel⟩, List.mem_of_getElem? (i := 847) (by decide +kernel), List.mem_of_getElem? (i := 1178) (by decide +kernel), List.mem_of_getElem? (i := 1179) (by decide +kernel)⟩
theorem lw_p73 : lw_okq (⟨"ExpressionDeskModel", "areWholes", "(II)Z"⟩, 34) := ⟨⟨by decide +kernel, by decide +kernel⟩, List.mem_of_getElem? (i := 847) (by decide +kernel), List.mem_of_getElem? (i := 1185) (by decide +kernel), List.mem_of_getElem? (i := 1186) (by decide +kernel)⟩
theorem lw_p74 : lw_okq (⟨"ExpressionDeskModel", "product", "(II)I"⟩, 34) := ⟨⟨by decide +kernel, by decide +kernel⟩, List.mem_of_getElem? (i := 847) (by decide +kernel), List.mem_of_getElem? (i := 1189) (by decide +kernel), List.mem_of_getElem? (i := 1190) (by decide +kernel)⟩
theorem lw_p75 : lw_okq (⟨"ExpressionDeskModel", "quotient", "(II)I"⟩, 34) := ⟨⟨by decide +kernel, by decide +kernel⟩, List.mem_of_getElem? (i := 847) (by decide +kernel), List.mem_of_getElem? (i := 1199) (by decide +kernel), List.mem_of_getElem? (i := 1200) (by decide +kernel)⟩
theorem lw_p76 : lw_okq (⟨"ExpressionDeskModel", "one", "(II)I"⟩, 34) := ⟨⟨by decide +kernel, by decide +kernel⟩, List.mem_of_getElem? (i := 847) (by decide +kernel), List.mem_of_getElem? (i := 1203) (by decide +kernel), List.mem_of_getElem? (i := 1204) (by decide +kernel)⟩
theorem lw_p77 : lw_okq (⟨"ExpressionDeskModel", "turned", "(IZ)I"⟩, 34) := ⟨⟨by decide +kernel, by decide +kernel⟩, List.mem_of_getElem? (i := 847) (by decide +kernel), List.mem_of_getElem? (i := 1207) (by decide +kernel), List.mem_of_getElem? (i := 1208) (by decide +kernel)⟩
theorem lw_p78 : lw_okq (⟨"ExpressionDeskModel", "wholeOf", "(II)I"⟩, 34) := ⟨⟨by decide +kernel, by decide +kernel⟩, List.mem_of_getElem? (i := 847) (by decide +kernel), List.mem_of_getElem? (i := 1211) (by decide +kernel), List.mem_of_getElem? (i := 1212) (by decide +kernel)⟩
theorem lw_p79 : lw_okq (⟨"ExpressionDeskModel", "cased", "(II)I"⟩, 34) := ⟨⟨by decide +kernel, by decide +kernel⟩, List.mem_of_getElem? (i := 847) (by decide +kernel), List.mem_of_getElem? (i := 1215) (by decide +kernel), List.mem_of_getElem? (i := 1216) (by decide +kernel)⟩
def lw_privs_5 : List (MethodName × Nat) := [(⟨"ExpressionDeskModel", "some", "(III)I"⟩, 34), (⟨"ExpressionDeskModel", "two", "(III)I"⟩, 34), (⟨"ExpressionDeskModel", "less", "(II)I"⟩, 34), (⟨"ExpressionDeskModel", "around", "(III)I"⟩, 34), (⟨"ExpressionDeskModel", "goWith", "(II)Z"⟩, 34), (⟨"ExpressionDeskModel", "within", "(II)I"⟩, 34), (⟨"ExpressionDeskModel", "isAt", "(III)Z"⟩, 34), (⟨"ExpressionDeskModel", "piece", "(III)I"⟩, 34), (⟨"ExpressionDeskModel", "sum", "(III)I"⟩, 34), (⟨"ExpressionDeskModel", "areWholes", "(II)Z"⟩, 34), (⟨"ExpressionDeskModel", "product", "(II)I"⟩, 34), (⟨"ExpressionDeskModel", "quotient", "(II)I"⟩, 34), (⟨"ExpressionDeskModel", "one", "(II)I"⟩, 34), (⟨"ExpressionDeskModel", "turned", "(IZ)I"⟩, 34), (⟨"ExpressionDeskModel", "wholeOf", "(II)I"⟩, 34), (⟨"ExpressionDeskModel", "cased", "(II)I"⟩, 34)]
theorem lw_r5 : ∀ q ∈ lw_privs_5, lw_okq q := List.forall_mem_cons.mpr ⟨lw_p64, List.forall_mem_cons.mpr ⟨lw_p65, List.forall_mem_cons.mpr ⟨lw_p66, List.forall_mem_cons.mpr ⟨lw_p67, List.forall_mem_cons.mpr ⟨lw_p68, List.forall_mem_cons.mpr ⟨lw_p69, List.forall_mem_cons.mpr ⟨lw_p70, List.forall_mem_cons.mpr ⟨lw_p71, List.forall_mem_cons.mpr ⟨lw_p72, List.forall_mem_cons.mpr ⟨lw_p73, List.forall_mem_cons.mpr ⟨lw_p74, List.forall_mem_cons.mpr ⟨lw_p75, List.forall_mem_cons.mpr ⟨lw_p76, List.forall_mem_cons.mpr ⟨lw_p77, List.forall_mem_cons.mpr ⟨lw_p78, List.forall_mem_cons.mpr ⟨lw_p79, fun _ h => absurd h List.not_mem_nil⟩⟩⟩⟩⟩⟩⟩⟩⟩⟩⟩⟩⟩⟩⟩⟩
theorem lw_p80 : lw_okq (⟨"ExpressionDeskModel", "string", "(I)Z"⟩, 34) := ⟨⟨by decide +kernel, by decide +kernel⟩, List.mem_of_getElem? (i := 847) (by decide +kernel), List.mem_of_getElem? (i := 1219) (by decide +kernel), List.mem_of_getElem? (i := 1220) (by decide +kernel)⟩
theorem lw_p81 : lw_okq (⟨"ExpressionDeskModel", "digitsOf", "(I)V"⟩, 34) := ⟨⟨by decide +kernel, by decide +kernel⟩, List.mem_of_getElem? (i := 847) (by decide +kernel), List.mem_of_getElem? (i := 1223) (by decide +kernel), List.mem_of_getElem? (i := 1224) (by decide +kernel)⟩
theorem lw_p82 : lw_okq (⟨"ExpressionDeskModel", "stringOfNumber", "(I)V"⟩, 34) := ⟨⟨by decide +kernel, by decide +kernel⟩, List.mem_of_getElem? (i := 847) (by decide +kernel), List.mem_of_getElem? (i := 1227) (by decide +kernel), List.mem_of_getElem? (i := 1228) (by decide +kernel)⟩
theorem lw_p83 : lw_okq (⟨"ExpressionDeskModel", "spell", "(Ljava/lang/String;)V"⟩, 34) := ⟨⟨by decide +kernel, by decide +kernel⟩, List.mem_of_getElem? (i := 847) (by decide +kernel), List.mem_of_getElem? (i := 1232) (by decide +kernel), List.mem_of_getElem? (i := 1233) (by decide +kernel)⟩
theorem lw_p84 : lw_okq (⟨"ExpressionDeskModel", "sumAll", "()Z"⟩, 34) := ⟨⟨by decide +kernel, by decide +kernel⟩, List.mem_of_getElem? (i := 847) (by decide +kernel), List.mem_of_getElem? (i := 1257) (by decide +kernel), List.mem_of_getElem? (i := 1258) (by decide +kernel)⟩
theorem lw_p85 : lw_okq (⟨"ExpressionDeskModel", "isFit", "()Z"⟩, 34) := ⟨⟨by decide +kernel, by decide +kernel⟩, List.mem_of_getElem? (i := 847) (by decide +kernel), List.mem_of_getElem? (i := 1261) (by decide +kernel), List.mem_of_getElem? (i := 1262) (by decide +kernel)⟩
theorem lw_p86 : lw_okq (⟨"ExpressionDeskModel", "extreme", "(I)I"⟩, 34) := ⟨⟨by decide +kernel, by decide +kernel⟩, List.mem_of_getElem? (i := 847) (by decide +kernel), List.mem_of_getElem? (i := 1265) (by decide +kernel), List.mem_of_getElem? (i := 1266) (by decide +kernel)⟩
theorem lw_p87 : lw_okq (⟨"ExpressionDeskModel", "average", "()I"⟩, 34) := ⟨⟨by decide +kernel, by decide +kernel⟩, List.mem_of_getElem? (i := 847) (by decide +kernel), List.mem_of_getElem? (i := 1269) (by decide +kernel), List.mem_of_getElem? (i := 1270) (by decide +kernel)⟩
theorem lw_p88 : lw_okq (⟨"ExpressionDeskModel", "row", "()I"⟩, 34) := ⟨⟨by decide +kernel, by decide +kernel⟩, List.mem_of_getElem? (i := 847) (by decide +kernel), List.mem_of_getElem? (i := 1273) (by decide +kernel), List.mem_of_getElem? (i := 1274) (by decide +kernel)⟩
def lw_privs_6 : List (MethodName × Nat) := [(⟨"ExpressionDeskModel", "string", "(I)Z"⟩, 34), (⟨"ExpressionDeskModel", "digitsOf", "(I)V"⟩, 34), (⟨"ExpressionDeskModel", "stringOfNumber", "(I)V"⟩, 34), (⟨"ExpressionDeskModel", "spell", "(Ljava/lang/String;)V"⟩, 34), (⟨"ExpressionDeskModel", "sumAll", "()Z"⟩, 34), (⟨"ExpressionDeskModel", "isFit", "()Z"⟩, 34), (⟨"ExpressionDeskModel", "extreme", "(I)I"⟩, 34), (⟨"ExpressionDeskModel", "average", "()I"⟩, 34), (⟨"ExpressionDeskModel", "row", "()I"⟩, 34)]
theorem lw_r6 : ∀ q ∈ lw_privs_6, lw_okq q := List.forall_mem_cons.mpr ⟨lw_p80, List.forall_mem_cons.mpr ⟨lw_p81, List.forall_mem_cons.mpr ⟨lw_p82, List.forall_mem_cons.mpr ⟨lw_p83, List.forall_mem_cons.mpr ⟨lw_p84, List.forall_mem_cons.mpr ⟨lw_p85, List.forall_mem_cons.mpr ⟨lw_p86, List.forall_mem_cons.mpr ⟨lw_p87, List.forall_mem_cons.mpr ⟨lw_p88, fun _ h => absurd h List.not_mem_nil⟩⟩⟩⟩⟩⟩⟩⟩⟩
def lw_privs : List (MethodName × Nat) := lw_privs_1 ++ (lw_privs_2 ++ (lw_privs_3 ++ (lw_privs_4 ++ (lw_privs_5 ++ (lw_privs_6)))))
def lw_tbl : List Cond := k2_sels lw_privs ++ tables_1
theorem lw_privs_ok : ∀ q ∈ lw_privs, lw_okq q := by
  show ∀ q ∈ lw_privs_1 ++ (lw_privs_2 ++ (lw_privs_3 ++ (lw_privs_4 ++ (lw_privs_5 ++ (lw_privs_6))))), lw_okq q
  exact List.forall_mem_append.mpr ⟨lw_r1, List.forall_mem_append.mpr ⟨lw_r2, List.forall_mem_append.mpr ⟨lw_r3, List.forall_mem_append.mpr ⟨lw_r4, List.forall_mem_append.mpr ⟨lw_r5, lw_r6⟩⟩⟩⟩⟩
/-! NAMES: classes with their fields in the order of the tables; constant static arrays -/
def R_D : String := "ExpressionDesk"
def F_D : u_T := fun k => match k with
  | 0 => ("ExpressionDesk", "store", "LExpressionDesk$Store;", true)
  | 1 => ("ExpressionDesk", "tape", "LExpressionDesk$Row;", true)
  | 2 => ("ExpressionDesk", "expression", "LExpressionDesk$Expression;", true)
  | _ => ("ExpressionDesk", "gathering", "LExpressionDesk$Gathering;", true)
def f_D : Nat → FieldType := fun k => match k with
  | 0 => .object "ExpressionDesk$Store"
  | 1 => .object "ExpressionDesk$Row"
  | 2 => .object "ExpressionDesk$Expression"
  | _ => .object "ExpressionDesk$Gathering"
def R_S : String := "ExpressionDesk$Store"
def F_S : u_T := fun k => match k with
  | 0 => ("ExpressionDesk$Store", "kept", "Ljava/util/ArrayList;", true)
  | 1 => ("ExpressionDesk$Store", "heads", "[I", true)
  | 2 => ("ExpressionDesk$Store", "none", "LExpressionDesk$Value;", true)
  | _ => ("ExpressionDesk$Store", "empty", "LExpressionDesk$Row;", true)
def f_S : Nat → FieldType := fun k => match k with
  | 0 => .object "java/util/ArrayList"
  | 1 => .array (.int)
  | 2 => .object "ExpressionDesk$Value"
  | _ => .object "ExpressionDesk$Row"
def R_AL : String := "java/util/ArrayList"
def F_AL : u_T := fun k => match k with
  | 0 => ("java/util/ArrayList", "elementData", "[Ljava/lang/Object;", false)
  | 1 => ("java/util/ArrayList", "size", "I", false)
  | _ => ("java/util/AbstractList", "modCount", "I", false)
def f_AL : Nat → FieldType := fun k => match k with
  | 0 => .array (.object "java/lang/Object")
  | 1 => .int
  | _ => .int
def R_V : String := "ExpressionDesk$Value"
def F_V : u_T := fun k => match k with
  | 0 => ("ExpressionDesk$Value", "kind", "I", true)
  | 1 => ("ExpressionDesk$Value", "extra", "I", true)
  | 2 => ("ExpressionDesk$Value", "amount", "J", true)
  | 3 => ("ExpressionDesk$Value", "scale", "I", true)
  | 4 => ("ExpressionDesk$Value", "bytes", "[B", true)
  | _ => ("ExpressionDesk$Value", "next", "I", true)
def f_V : Nat → FieldType := fun k => match k with
  | 0 => .int
  | 1 => .int
  | 2 => .long
  | 3 => .int
  | 4 => .array (.byte)
  | _ => .int
def R_R : String := "ExpressionDesk$Row"
def F_R : u_T := fun k => match k with
  | 0 => ("ExpressionDesk$Row", "bytes", "[B", true)
  | 1 => ("ExpressionDesk$Row", "length", "I", false)
  | _ => ("ExpressionDesk$Row", "isTooLong", "Z", false)
def f_R : Nat → FieldType := fun k => match k with
  | 0 => .array (.byte)
  | 1 => .int
  | _ => .boolean
def R_E : String := "ExpressionDesk$Expression"
def F_E : u_T := fun k => match k with
  | 0 => ("ExpressionDesk$Expression", "store", "LExpressionDesk$Store;", true)
  | 1 => ("ExpressionDesk$Expression", "operations", "[I", true)
  | 2 => ("ExpressionDesk$Expression", "numbers", "[I", true)
  | 3 => ("ExpressionDesk$Expression", "bound", "[I", true)
  | 4 => ("ExpressionDesk$Expression", "stack", "[I", true)
  | 5 => ("ExpressionDesk$Expression", "row", "LExpressionDesk$Row;", true)
  | 6 => ("ExpressionDesk$Expression", "reckoner", "LExpressionDesk$Reckoner;", true)
  | 7 => ("ExpressionDesk$Expression", "length", "I", false)
  | _ => ("ExpressionDesk$Expression", "top", "I", false)
def f_E : Nat → FieldType := fun k => match k with
  | 0 => .object "ExpressionDesk$Store"
  | 1 => .array (.int)
  | 2 => .array (.int)
  | 3 => .array (.int)
  | 4 => .array (.int)
  | 5 => .object "ExpressionDesk$Row"
  | 6 => .object "ExpressionDesk$Reckoner"
  | 7 => .int
  | _ => .int
def R_K : String := "ExpressionDesk$Reckoner"
def F_K : u_T := fun k => match k with
  | 0 => ("ExpressionDesk$Reckoner", "isGood", "Z", false)
  | 1 => ("ExpressionDesk$Reckoner", "isWhole", "Z", false)
  | 2 => ("ExpressionDesk$Reckoner", "amount", "J", false)
  | _ => ("ExpressionDesk$Reckoner", "scale", "I", false)
def f_K : Nat → FieldType := fun k => match k with
  | 0 => .boolean
  | 1 => .boolean
  | 2 => .long
  | _ => .int
def R_G : String := "ExpressionDesk$Gathering"
def F_G : u_T := fun k => match k with
  | 0 => ("ExpressionDesk$Gathering", "store", "LExpressionDesk$Store;", true)
  | 1 => ("ExpressionDesk$Gathering", "gathered", "[I", true)
  | 2 => ("ExpressionDesk$Gathering", "sorted", "[I", true)
  | 3 => ("ExpressionDesk$Gathering", "row", "LExpressionDesk$Row;", true)
  | 4 => ("ExpressionDesk$Gathering", "reckoner", "LExpressionDesk$Reckoner;", true)
  | 5 => ("ExpressionDesk$Gathering", "sort", "I", false)
  | 6 => ("ExpressionDesk$Gathering", "once", "Z", false)
  | 7 => ("ExpressionDesk$Gathering", "between", "I", false)
  | _ => ("ExpressionDesk$Gathering", "count", "I", false)
def f_G : Nat → FieldType := fun k => match k with
  | 0 => .object "ExpressionDesk$Store"
  | 1 => .array (.int)
  | 2 => .array (.int)
  | 3 => .object "ExpressionDesk$Row"
  | 4 => .object "ExpressionDesk$Reckoner"
  | 5 => .int
  | 6 => .boolean
  | 7 => .int
  | _ => .int
def R_M : String := "ExpressionDeskModel"
def F_M : u_T := fun k => match k with
  | 0 => ("ExpressionDeskModel", "count", "I", false)
  | 1 => ("ExpressionDeskModel", "kinds", "[I", true)
  | 2 => ("ExpressionDeskModel", "extras", "[I", true)
  | 3 => ("ExpressionDeskModel", "signs", "[I", true)
  | 4 => ("ExpressionDeskModel", "scales", "[I", true)
  | 5 => ("ExpressionDeskModel", "digits", "[I", true)
  | 6 => ("ExpressionDeskModel", "sizes", "[I", true)
  | 7 => ("ExpressionDeskModel", "bytes", "[I", true)
  | 8 => ("ExpressionDeskModel", "tape", "[I", true)
  | 9 => ("ExpressionDeskModel", "size", "I", false)
  | 10 => ("ExpressionDeskModel", "kind", "I", false)
  | 11 => ("ExpressionDeskModel", "extra", "I", false)
  | 12 => ("ExpressionDeskModel", "sign", "I", false)
  | 13 => ("ExpressionDeskModel", "scale", "I", false)
  | 14 => ("ExpressionDeskModel", "unscaled", "[I", true)
  | 15 => ("ExpressionDeskModel", "letters", "[I", true)
  | 16 => ("ExpressionDeskModel", "letterCount", "I", false)
  | 17 => ("ExpressionDeskModel", "x", "[I", true)
  | 18 => ("ExpressionDeskModel", "y", "[I", true)
  | 19 => ("ExpressionDeskModel", "z", "[I", true)
  | 20 => ("ExpressionDeskModel", "operations", "[I", true)
  | 21 => ("ExpressionDeskModel", "numbers", "[I", true)
  | 22 => ("ExpressionDeskModel", "words", "I", false)
  | 23 => ("ExpressionDeskModel", "bound", "[I", true)
  | 24 => ("ExpressionDeskModel", "stack", "[I", true)
  | 25 => ("ExpressionDeskModel", "gathered", "[I", true)
  | 26 => ("ExpressionDeskModel", "many", "I", false)
  | 27 => ("ExpressionDeskModel", "sort", "I", false)
  | 28 => ("ExpressionDeskModel", "once", "Z", false)
  | 29 => ("ExpressionDeskModel", "between", "I", false)
  | 30 => ("ExpressionDeskModel", "total", "[I", true)
  | 31 => ("ExpressionDeskModel", "totalSign", "I", false)
  | 32 => ("ExpressionDeskModel", "totalWhole", "Z", false)
  | _ => ("ExpressionDeskModel", "ranks", "[I", true)
def f_M : Nat → FieldType := fun k => match k with
  | 0 => .int
  | 1 => .array (.int)
  | 2 => .array (.int)
  | 3 => .array (.int)
  | 4 => .array (.int)
  | 5 => .array (.int)
  | 6 => .array (.int)
  | 7 => .array (.int)
  | 8 => .array (.int)
  | 9 => .int
  | 10 => .int
  | 11 => .int
  | 12 => .int
  | 13 => .int
  | 14 => .array (.int)
  | 15 => .array (.int)
  | 16 => .int
  | 17 => .array (.int)
  | 18 => .array (.int)
  | 19 => .array (.int)
  | 20 => .array (.int)
  | 21 => .array (.int)
  | 22 => .int
  | 23 => .array (.int)
  | 24 => .array (.int)
  | 25 => .array (.int)
  | 26 => .int
  | 27 => .int
  | 28 => .boolean
  | 29 => .int
  | 30 => .array (.int)
  | 31 => .int
  | 32 => .boolean
  | _ => .array (.int)
abbrev classes : List vw_C := [(R_D, F_D, 4), (R_S, F_S, 4), (R_AL, F_AL, 3), (R_V, F_V, 6), (R_R, F_R, 3), (R_E, F_E, 9), (R_K, F_K, 4), (R_G, F_G, 9), (R_M, F_M, 34)]
abbrev statics : List (String × String × String) := [("ExpressionDesk", "POWERS", "[J"), ("ExpressionDesk", "NO_BYTES", "[B"), ("ExpressionDesk$Expression", "TAKES", "[I"), ("ExpressionDesk$Expression", "TYPE_NAMES", "[I"), ("java/util/ArrayList", "DEFAULTCAPACITY_EMPTY_ELEMENTDATA", "[Ljava/lang/Object;")]
/-! THE WORDS that every contract takes: all of the tables' that a call keeps; and those that are kept by a law of their own -/
def hp_T : List Cond := lw_tbl.filter goodWord
theorem hp_T_ok : ∀ w ∈ hp_T, (w.onTables && w.keeps) = true ∨ ∃ ty, w = .arrayClass ty := fun w h => good_of_word (List.mem_filter.mp h).2
def hp_isN : Cond → Bool
  | .methodLinkNest _ _ _ _ => true
  | .fieldLinkNest _ _ _ _ _ _ => true
  | .castable _ _ => true
  | .arrayOver (.object _) => true
  | _ => false
def hp_Nst : List Cond := lw_tbl.filter hp_isN
theorem hp_Nst_ok : ∀ w ∈ hp_Nst, (∀ u U : State, u.vm = U.vm → va_Nw w u → va_Nw w U) ∧ ∀ s U : State, s.WarmedH U.vm → va_Nw w s → va_Nw w U := by
  intro w h
  have h2 := (List.mem_filter.mp h).2
  cases w <;> try (exact absurd (show false = true from h2) (by decide))
  case methodLinkNest => exact ⟨fun u U hv hZ => va_Nw.same rfl hv hZ, fun s U hW hZ => va_Nw.warmM hW hZ⟩
  case fieldLinkNest => exact ⟨fun u U hv hZ => va_Nw.same rfl hv hZ, fun s U hW hZ => va_Nw.warmF hW hZ⟩
  case castable => exact ⟨fun u U hv hZ => va_Nw.same rfl hv hZ, fun s U hW hZ => va_Nw.warmC hW hZ⟩
  case arrayOver t =>
    cases t <;> try (exact absurd (show false = true from h2) (by decide))
    exact ⟨fun u U hv hZ => va_AO.moved (by rw [hv]; exact Vm.Alike.refl _) hZ, fun s U hW hZ => va_AO.moved hW.alike hZ⟩
theorem hp_i1 {w : Cond} (j : Nat) (hj : tables_1_1[j]? = some w) (hg : goodWord w = true) : w ∈ hp_T := by
  have h := List.mem_of_getElem? hj
  exact List.mem_filter.mpr ⟨List.mem_append_right _ (show w ∈ tables_1 from List.mem_append_left _ h), hg⟩
theorem hp_n1 {w : Cond} (j : Nat) (hj : tables_1_1[j]? = some w) (hg : hp_isN w = true) : w ∈ hp_Nst := by
  have h := List.mem_of_getElem? hj
  exact List.mem_filter.mpr ⟨List.mem_append_right _ (show w ∈ tables_1 from List.mem_append_left _ h), hg⟩
theorem hp_i2 {w : Cond} (j : Nat) (hj : tables_1_2[j]? = some w) (hg : goodWord w = true) : w ∈ hp_T := by
  have h := List.mem_of_getElem? hj
  exact List.mem_filter.mpr ⟨List.mem_append_right _ (show w ∈ tables_1 from List.mem_append_right _ (List.mem_append_left _ h)), hg⟩
theorem hp_n2 {w : Cond} (j : Nat) (hj : tables_1_2[j]? = some w) (hg : hp_isN w = true) : w ∈ hp_Nst := by
  have h := List.mem_of_getElem? hj
  exact List.mem_filter.mpr ⟨List.mem_append_right _ (show w ∈ tables_1 from List.mem_append_right _ (List.mem_append_left _ h)), hg⟩
theorem hp_i3 {w : Cond} (j : Nat) (hj : tables_1_3[j]? = some w) (hg : goodWord w = true) : w ∈ hp_T := by
  have h := List.mem_of_getElem? hj
  exact List.mem_filter.mpr ⟨List.mem_append_right _ (show w ∈ tables_1 from List.mem_append_right _ (List.mem_append_right _ (List.mem_append_left _ h))), hg⟩
theorem hp_n3 {w : Cond} (j : Nat) (hj : tables_1_3[j]? = some w) (hg : hp_isN w = true) : w ∈ hp_Nst := by
  have h := List.mem_of_getElem? hj
  exact List.mem_filter.mpr ⟨List.mem_append_right _ (show w ∈ tables_1 from List.mem_append_right _ (List.mem_append_right _ (List.mem_append_left _ h))), hg⟩
theorem hp_i4 {w : Cond} (j : Nat) (hj : tables_1_4[j]? = some w) (hg : goodWord w = true) : w ∈ hp_T := by
  have h := List.mem_of_getElem? hj
  exact List.mem_filter.mpr ⟨List.mem_append_right _ (show w ∈ tables_1 from List.mem_append_right _ (List.mem_append_right _ (List.mem_append_right _ (List.mem_append_left _ h)))), hg⟩
theorem hp_n4 {w : Cond} (j : Nat) (hj : tables_1_4[j]? = some w) (hg : hp_isN w = true) : w ∈ hp_Nst := by
  have h := List.mem_of_getElem? hj
  exact List.mem_filter.mpr ⟨List.mem_append_right _ (show w ∈ tables_1 from List.mem_append_right _ (List.mem_append_right _ (List.mem_append_right _ (List.mem_append_left _ h)))), hg⟩
theorem hp_i5 {w : Cond} (j : Nat) (hj : tables_1_5[j]? = some w) (hg : goodWord w = true) : w ∈ hp_T := by
  have h := List.mem_of_getElem? hj
  exact List.mem_filter.mpr ⟨List.mem_append_right _ (show w ∈ tables_1 from List.mem_append_right _ (List.mem_append_right _ (List.mem_append_right _ (List.mem_append_right _ (List.mem_append_left _ h))))), hg⟩
theorem hp_n5 {w : Cond} (j : Nat) (hj : tables_1_5[j]? = some w) (hg : hp_isN w = true) : w ∈ hp_Nst := by
  have h := List.mem_of_getElem? hj
  exact List.mem_filter.mpr ⟨List.mem_append_right _ (show w ∈ tables_1 from List.mem_append_right _ (List.mem_append_right _ (List.mem_append_right _ (List.mem_append_right _ (List.mem_append_left _ h))))), hg⟩
theorem hp_i6 {w : Cond} (j : Nat) (hj : tables_1_6[j]? = some w) (hg : goodWord w = true) : w ∈ hp_T := by
  have h := List.mem_of_getElem? hj
  exact List.mem_filter.mpr ⟨List.mem_append_right _ (show w ∈ tables_1 from List.mem_append_right _ (List.mem_append_right _ (List.mem_append_right _ (List.mem_append_right _ (List.mem_append_right _ (h)))))), hg⟩
theorem hp_n6 {w : Cond} (j : Nat) (hj : tables_1_6[j]? = some w) (hg : hp_isN w = true) : w ∈ hp_Nst := by
  have h := List.mem_of_getElem? hj
  exact List.mem_filter.mpr ⟨List.mem_append_right _ (show w ∈ tables_1 from List.mem_append_right _ (List.mem_append_right _ (List.mem_append_right _ (List.mem_append_right _ (List.mem_append_right _ (h)))))), hg⟩
theorem n_D : ∀ a, a < 4 → ∀ b, b < 4 → a ≠ b → (F_D a).2.1 ≠ (F_D b).2.1 := by decide +kernel
theorem t_D : ∀ k, k < 4 → parseFieldDescriptor (F_D k).2.2.1 = some (f_D k) := by decide +kernel
theorem n_S : ∀ a, a < 4 → ∀ b, b < 4 → a ≠ b → (F_S a).2.1 ≠ (F_S b).2.1 := by decide +kernel
theorem t_S : ∀ k, k < 4 → parseFieldDescriptor (F_S k).2.2.1 = some (f_S k) := by decide +kernel
theorem n_AL : ∀ a, a < 3 → ∀ b, b < 3 → a ≠ b → (F_AL a).2.1 ≠ (F_AL b).2.1 := by decide +kernel
theorem t_AL : ∀ k, k < 3 → parseFieldDescriptor (F_AL k).2.2.1 = some (f_AL k) := by decide +kernel
theorem n_V : ∀ a, a < 6 → ∀ b, b < 6 → a ≠ b → (F_V a).2.1 ≠ (F_V b).2.1 := by decide +kernel
theorem t_V : ∀ k, k < 6 → parseFieldDescriptor (F_V k).2.2.1 = some (f_V k) := by decide +kernel
theorem n_R : ∀ a, a < 3 → ∀ b, b < 3 → a ≠ b → (F_R a).2.1 ≠ (F_R b).2.1 := by decide +kernel
theorem t_R : ∀ k, k < 3 → parseFieldDescriptor (F_R k).2.2.1 = some (f_R k) := by decide +kernel
theorem n_E : ∀ a, a < 9 → ∀ b, b < 9 → a ≠ b → (F_E a).2.1 ≠ (F_E b).2.1 := by decide +kernel
theorem t_E : ∀ k, k < 9 → parseFieldDescriptor (F_E k).2.2.1 = some (f_E k) := by decide +kernel
theorem n_K : ∀ a, a < 4 → ∀ b, b < 4 → a ≠ b → (F_K a).2.1 ≠ (F_K b).2.1 := by decide +kernel
theorem t_K : ∀ k, k < 4 → parseFieldDescriptor (F_K k).2.2.1 = some (f_K k) := by decide +kernel
theorem n_G : ∀ a, a < 9 → ∀ b, b < 9 → a ≠ b → (F_G a).2.1 ≠ (F_G b).2.1 := by decide +kernel
theorem t_G : ∀ k, k < 9 → parseFieldDescriptor (F_G k).2.2.1 = some (f_G k) := by decide +kernel
theorem n_M : ∀ a, a < 34 → ∀ b, b < 34 → a ≠ b → (F_M a).2.1 ≠ (F_M b).2.1 := by decide +kernel
theorem t_M : ∀ k, k < 34 → parseFieldDescriptor (F_M k).2.2.1 = some (f_M k) := by decide +kernel
theorem hp_is {w : Cond} (j : Nat) (hj : (k2_sels lw_privs)[j]? = some w) (hg : goodWord w = true) : w ∈ hp_T := List.mem_filter.mpr ⟨List.mem_append_left _ (List.mem_of_getElem? hj), hg⟩
end
section
theorem w_1 : Cond.initialized "ExpressionDesk" ∈ hp_T := hp_i1 1 (by rfl) (by rfl)
theorem w_2 : Cond.initialized "ExpressionDesk$Store" ∈ hp_T := hp_i1 2 (by rfl) (by rfl)
theorem w_3 : Cond.initialized "java/util/AbstractCollection" ∈ hp_T := hp_i1 3 (by rfl) (by rfl)
theorem w_4 : Cond.initialized "java/util/AbstractList" ∈ hp_T := hp_i1 4 (by rfl) (by rfl)
theorem w_5 : Cond.initialized "java/util/ArrayList" ∈ hp_T := hp_i1 5 (by rfl) (by rfl)
theorem w_6 : Cond.initialized "ExpressionDesk$Value" ∈ hp_T := hp_i1 6 (by rfl) (by rfl)
theorem w_7 : Cond.initialized "ExpressionDesk$Row" ∈ hp_T := hp_i1 7 (by rfl) (by rfl)
theorem w_8 : Cond.initialized "ExpressionDesk$Expression" ∈ hp_T := hp_i1 8 (by rfl) (by rfl)
theorem w_9 : Cond.initialized "ExpressionDesk$Reckoner" ∈ hp_T := hp_i1 9 (by rfl) (by rfl)
theorem w_10 : Cond.initialized "ExpressionDesk$Gathering" ∈ hp_T := hp_i1 10 (by rfl) (by rfl)
theorem w_11 : Cond.initialized "ExpressionDeskModel" ∈ hp_T := hp_i1 11 (by rfl) (by rfl)
theorem w_12 : Cond.initialized "java/util/Objects" ∈ hp_T := hp_i1 12 (by rfl) (by rfl)
theorem w_14 : Cond.initialized "java/util/Arrays" ∈ hp_T := hp_i1 14 (by rfl) (by rfl)
theorem w_15 : Cond.initialized "java/lang/Math" ∈ hp_T := hp_i1 15 (by rfl) (by rfl)
theorem w_17 : Cond.initialized "jdk/internal/util/ArraysSupport" ∈ hp_T := hp_i1 17 (by rfl) (by rfl)
theorem w_18 : Cond.initialized "java/lang/Long" ∈ hp_T := hp_i1 18 (by rfl) (by rfl)
theorem w_19 : Cond.initialized "java/lang/Integer" ∈ hp_T := hp_i1 19 (by rfl) (by rfl)
theorem w_20 : Cond.initialized "java/lang/String" ∈ hp_T := hp_i1 20 (by rfl) (by rfl)
theorem w_22 : Cond.initialized "java/lang/StringUTF16" ∈ hp_T := hp_i1 22 (by rfl) (by rfl)
theorem w_23 : Cond.classLink "ExpressionDeskLaw" 7 "ExpressionDesk" ∈ hp_T := hp_i1 23 (by rfl) (by rfl)
theorem w_24 : Cond.instantiable "ExpressionDesk" 4 ∈ hp_T := hp_i1 24 (by rfl) (by rfl)
theorem w_25 : Cond.methodLink "ExpressionDeskLaw" 9 (⟨"ExpressionDesk", "<init>", "()V"⟩ : MethodName) ∈ hp_T := hp_i1 25 (by rfl) (by rfl)
theorem w_26 : Cond.instanceMethod (⟨"ExpressionDesk", "<init>", "()V"⟩ : MethodName) ∈ hp_T := hp_i1 26 (by rfl) (by rfl)
theorem w_27 : Cond.code (⟨"ExpressionDesk", "<init>", "()V"⟩ : MethodName) prog_1_method_1_code 1 (Option.none : Option Jvm.ClassFile.FieldType) ∈ hp_T := hp_i1 27 (by rfl) (by rfl)
theorem w_28 : Cond.methodLink "ExpressionDesk" 1 (⟨"java/lang/Object", "<init>", "()V"⟩ : MethodName) ∈ hp_T := hp_i1 28 (by rfl) (by rfl)
theorem w_29 : Cond.instanceMethod (⟨"java/lang/Object", "<init>", "()V"⟩ : MethodName) ∈ hp_T := hp_i1 29 (by rfl) (by rfl)
theorem w_30 : Cond.code (⟨"java/lang/Object", "<init>", "()V"⟩ : MethodName) object_method_1_code 1 (Option.none : Option Jvm.ClassFile.FieldType) ∈ hp_T := hp_i1 30 (by rfl) (by rfl)
theorem w_31 : Cond.classLink "ExpressionDesk" 7 "ExpressionDesk$Store" ∈ hp_T := hp_i1 31 (by rfl) (by rfl)
theorem w_32 : Cond.instantiable "ExpressionDesk$Store" 4 ∈ hp_T := hp_i1 32 (by rfl) (by rfl)
theorem w_33 : Cond.methodLinkNest "ExpressionDesk" 9 (⟨"ExpressionDesk$Store", "<init>", "()V"⟩ : MethodName) "ExpressionDesk" ∈ hp_Nst := hp_n1 33 (by rfl) (by rfl)
theorem w_34 : Cond.instanceMethod (⟨"ExpressionDesk$Store", "<init>", "()V"⟩ : MethodName) ∈ hp_T := hp_i1 34 (by rfl) (by rfl)
theorem w_35 : Cond.code (⟨"ExpressionDesk$Store", "<init>", "()V"⟩ : MethodName) prog_6_method_1_code 1 (Option.none : Option Jvm.ClassFile.FieldType) ∈ hp_T := hp_i1 35 (by rfl) (by rfl)
theorem w_36 : Cond.methodLink "ExpressionDesk$Store" 3 (⟨"java/lang/Object", "<init>", "()V"⟩ : MethodName) ∈ hp_T := hp_i1 36 (by rfl) (by rfl)
theorem w_37 : Cond.classLink "ExpressionDesk$Store" 9 "java/util/ArrayList" ∈ hp_T := hp_i1 37 (by rfl) (by rfl)
theorem w_38 : Cond.instantiable "java/util/ArrayList" 3 ∈ hp_T := hp_i1 38 (by rfl) (by rfl)
theorem w_39 : Cond.methodLink "ExpressionDesk$Store" 11 (⟨"java/util/ArrayList", "<init>", "()V"⟩ : MethodName) ∈ hp_T := hp_i1 39 (by rfl) (by rfl)
theorem w_40 : Cond.instanceMethod (⟨"java/util/ArrayList", "<init>", "()V"⟩ : MethodName) ∈ hp_T := hp_i1 40 (by rfl) (by rfl)
theorem w_41 : Cond.code (⟨"java/util/ArrayList", "<init>", "()V"⟩ : MethodName) prog_22_method_2_code 1 (Option.none : Option Jvm.ClassFile.FieldType) ∈ hp_T := hp_i1 41 (by rfl) (by rfl)
theorem w_42 : Cond.methodLink "java/util/ArrayList" 1 (⟨"java/util/AbstractList", "<init>", "()V"⟩ : MethodName) ∈ hp_T := hp_i1 42 (by rfl) (by rfl)
theorem w_43 : Cond.instanceMethod (⟨"java/util/AbstractList", "<init>", "()V"⟩ : MethodName) ∈ hp_T := hp_i1 43 (by rfl) (by rfl)
theorem w_44 : Cond.code (⟨"java/util/AbstractList", "<init>", "()V"⟩ : MethodName) prog_21_method_1_code 1 (Option.none : Option Jvm.ClassFile.FieldType) ∈ hp_T := hp_i1 44 (by rfl) (by rfl)
theorem w_45 : Cond.methodLink "java/util/AbstractList" 1 (⟨"java/util/AbstractCollection", "<init>", "()V"⟩ : MethodName) ∈ hp_T := hp_i1 45 (by rfl) (by rfl)
theorem w_46 : Cond.instanceMethod (⟨"java/util/AbstractCollection", "<init>", "()V"⟩ : MethodName) ∈ hp_T := hp_i1 46 (by rfl) (by rfl)
theorem w_47 : Cond.code (⟨"java/util/AbstractCollection", "<init>", "()V"⟩ : MethodName) prog_20_method_1_code 1 (Option.none : Option Jvm.ClassFile.FieldType) ∈ hp_T := hp_i1 47 (by rfl) (by rfl)
theorem w_48 : Cond.methodLink "java/util/AbstractCollection" 1 (⟨"java/lang/Object", "<init>", "()V"⟩ : MethodName) ∈ hp_T := hp_i1 48 (by rfl) (by rfl)
theorem w_49 : Cond.fieldLink "java/util/ArrayList" 39 "java/util/ArrayList" "DEFAULTCAPACITY_EMPTY_ELEMENTDATA" "[Ljava/lang/Object;" ∈ hp_T := hp_i1 49 (by rfl) (by rfl)
theorem w_51 : Cond.fieldLink "java/util/ArrayList" 9 "java/util/ArrayList" "elementData" "[Ljava/lang/Object;" ∈ hp_T := hp_i1 51 (by rfl) (by rfl)
theorem w_52 : Cond.fieldLink "java/util/ArrayList" 48 "java/util/ArrayList" "size" "I" ∈ hp_T := hp_i1 52 (by rfl) (by rfl)
theorem w_53 : Cond.fieldLink "java/util/AbstractList" 7 "java/util/AbstractList" "modCount" "I" ∈ hp_T := hp_i1 53 (by rfl) (by rfl)
theorem w_54 : Cond.fieldLink "java/util/ArrayList" 63 "java/util/ArrayList" "modCount" "I" ∈ hp_T := hp_i1 54 (by rfl) (by rfl)
theorem w_55 : Cond.sameField "java/util/ArrayList" "java/util/AbstractList" "modCount" "I" ∈ hp_T := hp_i1 55 (by rfl) (by rfl)
theorem w_56 : Cond.lays "java/util/ArrayList" "java/util/ArrayList" "elementData" "[Ljava/lang/Object;" ∈ hp_T := hp_i1 56 (by rfl) (by rfl)
theorem w_58 : Cond.lays "java/util/ArrayList" "java/util/ArrayList" "size" "I" ∈ hp_T := hp_i1 58 (by rfl) (by rfl)
theorem w_60 : Cond.lays "java/util/ArrayList" "java/util/AbstractList" "modCount" "I" ∈ hp_T := hp_i1 60 (by rfl) (by rfl)
theorem w_63 : Cond.classLink "ExpressionDesk$Store" 22 "ExpressionDesk$Value" ∈ hp_T := hp_i1 63 (by rfl) (by rfl)
theorem w_64 : Cond.instantiable "ExpressionDesk$Value" 6 ∈ hp_T := hp_i1 64 (by rfl) (by rfl)
theorem w_65 : Cond.fieldLinkNest "ExpressionDesk$Store" 24 "ExpressionDesk" "NO_BYTES" "[B" "ExpressionDesk" ∈ hp_Nst := hp_n1 65 (by rfl) (by rfl)
theorem w_67 : Cond.methodLink "ExpressionDesk$Store" 28 (⟨"ExpressionDesk$Value", "<init>", "(IIJI[BI)V"⟩ : MethodName) ∈ hp_T := hp_i1 67 (by rfl) (by rfl)
theorem w_68 : Cond.instanceMethod (⟨"ExpressionDesk$Value", "<init>", "(IIJI[BI)V"⟩ : MethodName) ∈ hp_T := hp_i1 68 (by rfl) (by rfl)
theorem w_69 : Cond.code (⟨"ExpressionDesk$Value", "<init>", "(IIJI[BI)V"⟩ : MethodName) prog_7_method_1_code 8 (Option.none : Option Jvm.ClassFile.FieldType) ∈ hp_T := hp_i1 69 (by rfl) (by rfl)
theorem w_70 : Cond.methodLink "ExpressionDesk$Value" 3 (⟨"java/lang/Object", "<init>", "()V"⟩ : MethodName) ∈ hp_T := hp_i1 70 (by rfl) (by rfl)
theorem w_71 : Cond.fieldLink "ExpressionDesk$Value" 9 "ExpressionDesk$Value" "kind" "I" ∈ hp_T := hp_i1 71 (by rfl) (by rfl)
theorem w_72 : Cond.fieldLink "ExpressionDesk$Gathering" 46 "ExpressionDesk$Value" "kind" "I" ∈ hp_T := hp_i1 72 (by rfl) (by rfl)
theorem w_73 : Cond.fieldLink "ExpressionDesk$Row" 64 "ExpressionDesk$Value" "kind" "I" ∈ hp_T := hp_i1 73 (by rfl) (by rfl)
theorem w_74 : Cond.fieldLink "ExpressionDesk" 84 "ExpressionDesk$Value" "kind" "I" ∈ hp_T := hp_i1 74 (by rfl) (by rfl)
theorem w_75 : Cond.fieldLink "ExpressionDesk$Store" 81 "ExpressionDesk$Value" "kind" "I" ∈ hp_T := hp_i1 75 (by rfl) (by rfl)
theorem w_76 : Cond.fieldLink "ExpressionDesk$Expression" 93 "ExpressionDesk$Value" "kind" "I" ∈ hp_T := hp_i1 76 (by rfl) (by rfl)
theorem w_77 : Cond.fieldLink "ExpressionDesk$Value" 15 "ExpressionDesk$Value" "extra" "I" ∈ hp_T := hp_i1 77 (by rfl) (by rfl)
theorem w_78 : Cond.fieldLink "ExpressionDesk$Row" 67 "ExpressionDesk$Value" "extra" "I" ∈ hp_T := hp_i1 78 (by rfl) (by rfl)
theorem w_79 : Cond.fieldLink "ExpressionDesk" 89 "ExpressionDesk$Value" "extra" "I" ∈ hp_T := hp_i1 79 (by rfl) (by rfl)
theorem w_80 : Cond.fieldLink "ExpressionDesk$Store" 84 "ExpressionDesk$Value" "extra" "I" ∈ hp_T := hp_i1 80 (by rfl) (by rfl)
theorem w_81 : Cond.fieldLink "ExpressionDesk$Expression" 208 "ExpressionDesk$Value" "extra" "I" ∈ hp_T := hp_i1 81 (by rfl) (by rfl)
theorem w_82 : Cond.fieldLink "ExpressionDesk$Value" 18 "ExpressionDesk$Value" "amount" "J" ∈ hp_T := hp_i1 82 (by rfl) (by rfl)
theorem w_83 : Cond.fieldLink "ExpressionDesk$Row" 54 "ExpressionDesk$Value" "amount" "J" ∈ hp_T := hp_i1 83 (by rfl) (by rfl)
theorem w_84 : Cond.fieldLink "ExpressionDesk$Gathering" 104 "ExpressionDesk$Value" "amount" "J" ∈ hp_T := hp_i1 84 (by rfl) (by rfl)
theorem w_85 : Cond.fieldLink "ExpressionDesk" 99 "ExpressionDesk$Value" "amount" "J" ∈ hp_T := hp_i1 85 (by rfl) (by rfl)
theorem w_86 : Cond.fieldLink "ExpressionDesk$Store" 87 "ExpressionDesk$Value" "amount" "J" ∈ hp_T := hp_i1 86 (by rfl) (by rfl)
theorem w_87 : Cond.fieldLink "ExpressionDesk$Expression" 157 "ExpressionDesk$Value" "amount" "J" ∈ hp_T := hp_i1 87 (by rfl) (by rfl)
theorem w_88 : Cond.fieldLink "ExpressionDesk$Value" 22 "ExpressionDesk$Value" "scale" "I" ∈ hp_T := hp_i1 88 (by rfl) (by rfl)
theorem w_89 : Cond.fieldLink "ExpressionDesk$Gathering" 108 "ExpressionDesk$Value" "scale" "I" ∈ hp_T := hp_i1 89 (by rfl) (by rfl)
theorem w_90 : Cond.fieldLink "ExpressionDesk$Row" 74 "ExpressionDesk$Value" "scale" "I" ∈ hp_T := hp_i1 90 (by rfl) (by rfl)
theorem w_91 : Cond.fieldLink "ExpressionDesk" 92 "ExpressionDesk$Value" "scale" "I" ∈ hp_T := hp_i1 91 (by rfl) (by rfl)
theorem w_92 : Cond.fieldLink "ExpressionDesk$Store" 88 "ExpressionDesk$Value" "scale" "I" ∈ hp_T := hp_i1 92 (by rfl) (by rfl)
theorem w_93 : Cond.fieldLink "ExpressionDesk$Expression" 161 "ExpressionDesk$Value" "scale" "I" ∈ hp_T := hp_i1 93 (by rfl) (by rfl)
theorem w_94 : Cond.fieldLink "ExpressionDesk$Value" 25 "ExpressionDesk$Value" "bytes" "[B" ∈ hp_T := hp_i1 94 (by rfl) (by rfl)
theorem w_95 : Cond.fieldLink "ExpressionDesk$Row" 77 "ExpressionDesk$Value" "bytes" "[B" ∈ hp_T := hp_i1 95 (by rfl) (by rfl)
theorem w_96 : Cond.fieldLink "ExpressionDesk" 95 "ExpressionDesk$Value" "bytes" "[B" ∈ hp_T := hp_i1 96 (by rfl) (by rfl)
theorem w_97 : Cond.fieldLink "ExpressionDesk$Store" 89 "ExpressionDesk$Value" "bytes" "[B" ∈ hp_T := hp_i1 97 (by rfl) (by rfl)
theorem w_98 : Cond.fieldLink "ExpressionDesk$Gathering" 129 "ExpressionDesk$Value" "bytes" "[B" ∈ hp_T := hp_i1 98 (by rfl) (by rfl)
theorem w_99 : Cond.fieldLink "ExpressionDesk$Expression" 214 "ExpressionDesk$Value" "bytes" "[B" ∈ hp_T := hp_i1 99 (by rfl) (by rfl)
theorem w_100 : Cond.fieldLink "ExpressionDesk$Value" 29 "ExpressionDesk$Value" "next" "I" ∈ hp_T := hp_i1 100 (by rfl) (by rfl)
theorem w_101 : Cond.fieldLink "ExpressionDesk$Store" 96 "ExpressionDesk$Value" "next" "I" ∈ hp_T := hp_i1 101 (by rfl) (by rfl)
theorem w_102 : Cond.laysFinal "ExpressionDesk$Value" "ExpressionDesk$Value" "kind" "I" ∈ hp_T := hp_i1 102 (by rfl) (by rfl)
theorem w_104 : Cond.laysFinal "ExpressionDesk$Value" "ExpressionDesk$Value" "extra" "I" ∈ hp_T := hp_i1 104 (by rfl) (by rfl)
theorem w_106 : Cond.laysFinal "ExpressionDesk$Value" "ExpressionDesk$Value" "amount" "J" ∈ hp_T := hp_i1 106 (by rfl) (by rfl)
theorem w_108 : Cond.laysFinal "ExpressionDesk$Value" "ExpressionDesk$Value" "scale" "I" ∈ hp_T := hp_i1 108 (by rfl) (by rfl)
theorem w_110 : Cond.laysFinal "ExpressionDesk$Value" "ExpressionDesk$Value" "bytes" "[B" ∈ hp_T := hp_i1 110 (by rfl) (by rfl)
theorem w_112 : Cond.laysFinal "ExpressionDesk$Value" "ExpressionDesk$Value" "next" "I" ∈ hp_T := hp_i1 112 (by rfl) (by rfl)
theorem w_115 : (Cond.arrayClass FieldType.int) ∈ hp_T := hp_i1 115 (by rfl) (by rfl)
theorem w_116 : Cond.classLink "ExpressionDesk$Store" 35 "ExpressionDesk$Row" ∈ hp_T := hp_i1 116 (by rfl) (by rfl)
theorem w_117 : Cond.instantiable "ExpressionDesk$Row" 3 ∈ hp_T := hp_i1 117 (by rfl) (by rfl)
theorem w_118 : Cond.methodLinkNest "ExpressionDesk$Store" 37 (⟨"ExpressionDesk$Row", "<init>", "()V"⟩ : MethodName) "ExpressionDesk" ∈ hp_Nst := hp_n1 118 (by rfl) (by rfl)
theorem w_119 : Cond.instanceMethod (⟨"ExpressionDesk$Row", "<init>", "()V"⟩ : MethodName) ∈ hp_T := hp_i1 119 (by rfl) (by rfl)
theorem w_120 : Cond.code (⟨"ExpressionDesk$Row", "<init>", "()V"⟩ : MethodName) prog_5_method_1_code 1 (Option.none : Option Jvm.ClassFile.FieldType) ∈ hp_T := hp_i1 120 (by rfl) (by rfl)
theorem w_121 : Cond.methodLink "ExpressionDesk$Row" 3 (⟨"java/lang/Object", "<init>", "()V"⟩ : MethodName) ∈ hp_T := hp_i1 121 (by rfl) (by rfl)
theorem w_122 : Cond.fieldLink "ExpressionDesk$Row" 9 "ExpressionDesk$Row" "bytes" "[B" ∈ hp_T := hp_i1 122 (by rfl) (by rfl)
theorem w_123 : Cond.fieldLink "ExpressionDesk$Store" 102 "ExpressionDesk$Row" "bytes" "[B" ∈ hp_T := hp_i1 123 (by rfl) (by rfl)
theorem w_124 : Cond.fieldLink "ExpressionDesk$Row" 15 "ExpressionDesk$Row" "length" "I" ∈ hp_T := hp_i1 124 (by rfl) (by rfl)
theorem w_125 : Cond.fieldLink "ExpressionDesk" 39 "ExpressionDesk$Row" "length" "I" ∈ hp_T := hp_i1 125 (by rfl) (by rfl)
theorem w_126 : Cond.fieldLink "ExpressionDesk$Store" 99 "ExpressionDesk$Row" "length" "I" ∈ hp_T := hp_i1 126 (by rfl) (by rfl)
theorem w_127 : Cond.fieldLink "ExpressionDesk$Row" 19 "ExpressionDesk$Row" "isTooLong" "Z" ∈ hp_T := hp_i1 127 (by rfl) (by rfl)
theorem w_128 : Cond.fieldLink "ExpressionDesk$Store" 54 "ExpressionDesk$Row" "isTooLong" "Z" ∈ hp_T := hp_i1 128 (by rfl) (by rfl)
theorem w_129 : Cond.fieldLink "ExpressionDesk$Gathering" 144 "ExpressionDesk$Row" "isTooLong" "Z" ∈ hp_T := hp_i1 129 (by rfl) (by rfl)
theorem w_130 : Cond.laysFinal "ExpressionDesk$Row" "ExpressionDesk$Row" "bytes" "[B" ∈ hp_T := hp_i1 130 (by rfl) (by rfl)
theorem w_132 : Cond.lays "ExpressionDesk$Row" "ExpressionDesk$Row" "length" "I" ∈ hp_T := hp_i1 132 (by rfl) (by rfl)
theorem w_134 : Cond.lays "ExpressionDesk$Row" "ExpressionDesk$Row" "isTooLong" "Z" ∈ hp_T := hp_i1 134 (by rfl) (by rfl)
theorem w_137 : (Cond.arrayClass FieldType.byte) ∈ hp_T := hp_i1 137 (by rfl) (by rfl)
theorem w_138 : Cond.fieldLink "ExpressionDesk$Store" 12 "ExpressionDesk$Store" "kept" "Ljava/util/ArrayList;" ∈ hp_T := hp_i1 138 (by rfl) (by rfl)
theorem w_139 : Cond.fieldLink "ExpressionDesk$Store" 18 "ExpressionDesk$Store" "heads" "[I" ∈ hp_T := hp_i1 139 (by rfl) (by rfl)
theorem w_140 : Cond.fieldLink "ExpressionDesk$Store" 31 "ExpressionDesk$Store" "none" "LExpressionDesk$Value;" ∈ hp_T := hp_i1 140 (by rfl) (by rfl)
theorem w_141 : Cond.fieldLink "ExpressionDesk$Store" 38 "ExpressionDesk$Store" "empty" "LExpressionDesk$Row;" ∈ hp_T := hp_i1 141 (by rfl) (by rfl)
theorem w_142 : Cond.laysFinal "ExpressionDesk$Store" "ExpressionDesk$Store" "kept" "Ljava/util/ArrayList;" ∈ hp_T := hp_i1 142 (by rfl) (by rfl)
theorem w_144 : Cond.laysFinal "ExpressionDesk$Store" "ExpressionDesk$Store" "heads" "[I" ∈ hp_T := hp_i1 144 (by rfl) (by rfl)
theorem w_146 : Cond.laysFinal "ExpressionDesk$Store" "ExpressionDesk$Store" "none" "LExpressionDesk$Value;" ∈ hp_T := hp_i1 146 (by rfl) (by rfl)
theorem w_148 : Cond.laysFinal "ExpressionDesk$Store" "ExpressionDesk$Store" "empty" "LExpressionDesk$Row;" ∈ hp_T := hp_i1 148 (by rfl) (by rfl)
theorem w_151 : Cond.classLink "ExpressionDesk" 16 "ExpressionDesk$Row" ∈ hp_T := hp_i1 151 (by rfl) (by rfl)
theorem w_152 : Cond.methodLinkNest "ExpressionDesk" 18 (⟨"ExpressionDesk$Row", "<init>", "()V"⟩ : MethodName) "ExpressionDesk" ∈ hp_Nst := hp_n1 152 (by rfl) (by rfl)
theorem w_153 : Cond.classLink "ExpressionDesk" 23 "ExpressionDesk$Expression" ∈ hp_T := hp_i1 153 (by rfl) (by rfl)
theorem w_154 : Cond.instantiable "ExpressionDesk$Expression" 9 ∈ hp_T := hp_i1 154 (by rfl) (by rfl)
theorem w_155 : Cond.methodLink "ExpressionDesk" 25 (⟨"ExpressionDesk$Expression", "<init>", "(LExpressionDesk$Store;)V"⟩ : MethodName) ∈ hp_T := hp_i1 155 (by rfl) (by rfl)
theorem w_156 : Cond.instanceMethod (⟨"ExpressionDesk$Expression", "<init>", "(LExpressionDesk$Store;)V"⟩ : MethodName) ∈ hp_T := hp_i1 156 (by rfl) (by rfl)
theorem w_157 : Cond.code (⟨"ExpressionDesk$Expression", "<init>", "(LExpressionDesk$Store;)V"⟩ : MethodName) prog_2_method_1_code 2 (Option.none : Option Jvm.ClassFile.FieldType) ∈ hp_T := hp_i1 157 (by rfl) (by rfl)
theorem w_158 : Cond.methodLink "ExpressionDesk$Expression" 3 (⟨"java/lang/Object", "<init>", "()V"⟩ : MethodName) ∈ hp_T := hp_i1 158 (by rfl) (by rfl)
theorem w_159 : Cond.classLink "ExpressionDesk$Expression" 24 "ExpressionDesk$Row" ∈ hp_T := hp_i1 159 (by rfl) (by rfl)
theorem w_160 : Cond.methodLinkNest "ExpressionDesk$Expression" 26 (⟨"ExpressionDesk$Row", "<init>", "()V"⟩ : MethodName) "ExpressionDesk" ∈ hp_Nst := hp_n1 160 (by rfl) (by rfl)
theorem w_161 : Cond.classLink "ExpressionDesk$Expression" 31 "ExpressionDesk$Reckoner" ∈ hp_T := hp_i1 161 (by rfl) (by rfl)
theorem w_162 : Cond.instantiable "ExpressionDesk$Reckoner" 4 ∈ hp_T := hp_i1 162 (by rfl) (by rfl)
theorem w_163 : Cond.methodLinkNest "ExpressionDesk$Expression" 33 (⟨"ExpressionDesk$Reckoner", "<init>", "()V"⟩ : MethodName) "ExpressionDesk" ∈ hp_Nst := hp_n1 163 (by rfl) (by rfl)
theorem w_164 : Cond.instanceMethod (⟨"ExpressionDesk$Reckoner", "<init>", "()V"⟩ : MethodName) ∈ hp_T := hp_i1 164 (by rfl) (by rfl)
theorem w_165 : Cond.code (⟨"ExpressionDesk$Reckoner", "<init>", "()V"⟩ : MethodName) prog_4_method_1_code 1 (Option.none : Option Jvm.ClassFile.FieldType) ∈ hp_T := hp_i1 165 (by rfl) (by rfl)
theorem w_166 : Cond.methodLink "ExpressionDesk$Reckoner" 3 (⟨"java/lang/Object", "<init>", "()V"⟩ : MethodName) ∈ hp_T := hp_i1 166 (by rfl) (by rfl)
theorem w_167 : Cond.fieldLink "ExpressionDesk$Reckoner" 9 "ExpressionDesk$Reckoner" "isGood" "Z" ∈ hp_T := hp_i1 167 (by rfl) (by rfl)
theorem w_168 : Cond.fieldLink "ExpressionDesk$Gathering" 97 "ExpressionDesk$Reckoner" "isGood" "Z" ∈ hp_T := hp_i1 168 (by rfl) (by rfl)
theorem w_169 : Cond.fieldLink "ExpressionDesk$Store" 58 "ExpressionDesk$Reckoner" "isGood" "Z" ∈ hp_T := hp_i1 169 (by rfl) (by rfl)
theorem w_170 : Cond.fieldLink "ExpressionDesk$Reckoner" 15 "ExpressionDesk$Reckoner" "isWhole" "Z" ∈ hp_T := hp_i1 170 (by rfl) (by rfl)
theorem w_171 : Cond.fieldLink "ExpressionDesk$Store" 63 "ExpressionDesk$Reckoner" "isWhole" "Z" ∈ hp_T := hp_i1 171 (by rfl) (by rfl)
theorem w_172 : Cond.fieldLink "ExpressionDesk$Reckoner" 18 "ExpressionDesk$Reckoner" "amount" "J" ∈ hp_T := hp_i1 172 (by rfl) (by rfl)
theorem w_173 : Cond.fieldLink "ExpressionDesk$Store" 66 "ExpressionDesk$Reckoner" "amount" "J" ∈ hp_T := hp_i1 173 (by rfl) (by rfl)
theorem w_174 : Cond.fieldLink "ExpressionDesk$Reckoner" 22 "ExpressionDesk$Reckoner" "scale" "I" ∈ hp_T := hp_i1 174 (by rfl) (by rfl)
theorem w_175 : Cond.fieldLink "ExpressionDesk$Store" 70 "ExpressionDesk$Reckoner" "scale" "I" ∈ hp_T := hp_i1 175 (by rfl) (by rfl)
theorem w_176 : Cond.lays "ExpressionDesk$Reckoner" "ExpressionDesk$Reckoner" "isGood" "Z" ∈ hp_T := hp_i1 176 (by rfl) (by rfl)
theorem w_178 : Cond.lays "ExpressionDesk$Reckoner" "ExpressionDesk$Reckoner" "isWhole" "Z" ∈ hp_T := hp_i1 178 (by rfl) (by rfl)
theorem w_180 : Cond.lays "ExpressionDesk$Reckoner" "ExpressionDesk$Reckoner" "amount" "J" ∈ hp_T := hp_i1 180 (by rfl) (by rfl)
theorem w_182 : Cond.lays "ExpressionDesk$Reckoner" "ExpressionDesk$Reckoner" "scale" "I" ∈ hp_T := hp_i1 182 (by rfl) (by rfl)
theorem w_185 : Cond.fieldLink "ExpressionDesk$Expression" 38 "ExpressionDesk$Expression" "store" "LExpressionDesk$Store;" ∈ hp_T := hp_i1 185 (by rfl) (by rfl)
theorem w_186 : Cond.fieldLink "ExpressionDesk$Expression" 9 "ExpressionDesk$Expression" "operations" "[I" ∈ hp_T := hp_i1 186 (by rfl) (by rfl)
theorem w_187 : Cond.fieldLink "ExpressionDesk$Expression" 15 "ExpressionDesk$Expression" "numbers" "[I" ∈ hp_T := hp_i1 187 (by rfl) (by rfl)
theorem w_188 : Cond.fieldLink "ExpressionDesk$Expression" 18 "ExpressionDesk$Expression" "bound" "[I" ∈ hp_T := hp_i1 188 (by rfl) (by rfl)
theorem w_189 : Cond.fieldLink "ExpressionDesk$Expression" 21 "ExpressionDesk$Expression" "stack" "[I" ∈ hp_T := hp_i1 189 (by rfl) (by rfl)
theorem w_190 : Cond.fieldLink "ExpressionDesk$Expression" 27 "ExpressionDesk$Expression" "row" "LExpressionDesk$Row;" ∈ hp_T := hp_i1 190 (by rfl) (by rfl)
theorem w_191 : Cond.fieldLink "ExpressionDesk$Expression" 34 "ExpressionDesk$Expression" "reckoner" "LExpressionDesk$Reckoner;" ∈ hp_T := hp_i1 191 (by rfl) (by rfl)
theorem w_192 : Cond.fieldLink "ExpressionDesk$Expression" 46 "ExpressionDesk$Expression" "length" "I" ∈ hp_T := hp_i1 192 (by rfl) (by rfl)
theorem w_193 : Cond.fieldLink "ExpressionDesk$Expression" 60 "ExpressionDesk$Expression" "top" "I" ∈ hp_T := hp_i1 193 (by rfl) (by rfl)
theorem w_194 : Cond.laysFinal "ExpressionDesk$Expression" "ExpressionDesk$Expression" "store" "LExpressionDesk$Store;" ∈ hp_T := hp_i1 194 (by rfl) (by rfl)
theorem w_196 : Cond.laysFinal "ExpressionDesk$Expression" "ExpressionDesk$Expression" "operations" "[I" ∈ hp_T := hp_i1 196 (by rfl) (by rfl)
theorem w_198 : Cond.laysFinal "ExpressionDesk$Expression" "ExpressionDesk$Expression" "numbers" "[I" ∈ hp_T := hp_i1 198 (by rfl) (by rfl)
theorem w_200 : Cond.laysFinal "ExpressionDesk$Expression" "ExpressionDesk$Expression" "bound" "[I" ∈ hp_T := hp_i1 200 (by rfl) (by rfl)
theorem w_202 : Cond.laysFinal "ExpressionDesk$Expression" "ExpressionDesk$Expression" "stack" "[I" ∈ hp_T := hp_i1 202 (by rfl) (by rfl)
theorem w_204 : Cond.laysFinal "ExpressionDesk$Expression" "ExpressionDesk$Expression" "row" "LExpressionDesk$Row;" ∈ hp_T := hp_i1 204 (by rfl) (by rfl)
theorem w_206 : Cond.laysFinal "ExpressionDesk$Expression" "ExpressionDesk$Expression" "reckoner" "LExpressionDesk$Reckoner;" ∈ hp_T := hp_i1 206 (by rfl) (by rfl)
theorem w_208 : Cond.lays "ExpressionDesk$Expression" "ExpressionDesk$Expression" "length" "I" ∈ hp_T := hp_i1 208 (by rfl) (by rfl)
theorem w_210 : Cond.lays "ExpressionDesk$Expression" "ExpressionDesk$Expression" "top" "I" ∈ hp_T := hp_i1 210 (by rfl) (by rfl)
theorem w_213 : Cond.classLink "ExpressionDesk" 32 "ExpressionDesk$Gathering" ∈ hp_T := hp_i1 213 (by rfl) (by rfl)
theorem w_214 : Cond.instantiable "ExpressionDesk$Gathering" 9 ∈ hp_T := hp_i1 214 (by rfl) (by rfl)
theorem w_215 : Cond.methodLink "ExpressionDesk" 34 (⟨"ExpressionDesk$Gathering", "<init>", "(LExpressionDesk$Store;)V"⟩ : MethodName) ∈ hp_T := hp_i1 215 (by rfl) (by rfl)
theorem w_216 : Cond.instanceMethod (⟨"ExpressionDesk$Gathering", "<init>", "(LExpressionDesk$Store;)V"⟩ : MethodName) ∈ hp_T := hp_i1 216 (by rfl) (by rfl)
theorem w_217 : Cond.code (⟨"ExpressionDesk$Gathering", "<init>", "(LExpressionDesk$Store;)V"⟩ : MethodName) prog_3_method_1_code 2 (Option.none : Option Jvm.ClassFile.FieldType) ∈ hp_T := hp_i1 217 (by rfl) (by rfl)
theorem w_218 : Cond.methodLink "ExpressionDesk$Gathering" 3 (⟨"java/lang/Object", "<init>", "()V"⟩ : MethodName) ∈ hp_T := hp_i1 218 (by rfl) (by rfl)
theorem w_219 : Cond.classLink "ExpressionDesk$Gathering" 18 "ExpressionDesk$Row" ∈ hp_T := hp_i1 219 (by rfl) (by rfl)
theorem w_220 : Cond.methodLinkNest "ExpressionDesk$Gathering" 20 (⟨"ExpressionDesk$Row", "<init>", "()V"⟩ : MethodName) "ExpressionDesk" ∈ hp_Nst := hp_n1 220 (by rfl) (by rfl)
theorem w_221 : Cond.classLink "ExpressionDesk$Gathering" 25 "ExpressionDesk$Reckoner" ∈ hp_T := hp_i1 221 (by rfl) (by rfl)
theorem w_222 : Cond.methodLinkNest "ExpressionDesk$Gathering" 27 (⟨"ExpressionDesk$Reckoner", "<init>", "()V"⟩ : MethodName) "ExpressionDesk" ∈ hp_Nst := hp_n1 222 (by rfl) (by rfl)
theorem w_223 : Cond.fieldLink "ExpressionDesk$Gathering" 36 "ExpressionDesk$Gathering" "store" "LExpressionDesk$Store;" ∈ hp_T := hp_i1 223 (by rfl) (by rfl)
theorem w_224 : Cond.fieldLink "ExpressionDesk$Gathering" 9 "ExpressionDesk$Gathering" "gathered" "[I" ∈ hp_T := hp_i1 224 (by rfl) (by rfl)
theorem w_225 : Cond.fieldLink "ExpressionDesk$Gathering" 15 "ExpressionDesk$Gathering" "sorted" "[I" ∈ hp_T := hp_i1 225 (by rfl) (by rfl)
theorem w_226 : Cond.fieldLink "ExpressionDesk$Gathering" 21 "ExpressionDesk$Gathering" "row" "LExpressionDesk$Row;" ∈ hp_T := hp_i1 226 (by rfl) (by rfl)
theorem w_227 : Cond.fieldLink "ExpressionDesk$Gathering" 28 "ExpressionDesk$Gathering" "reckoner" "LExpressionDesk$Reckoner;" ∈ hp_T := hp_i1 227 (by rfl) (by rfl)
theorem w_228 : Cond.fieldLink "ExpressionDesk$Gathering" 32 "ExpressionDesk$Gathering" "sort" "I" ∈ hp_T := hp_i1 228 (by rfl) (by rfl)
theorem w_229 : Cond.fieldLink "ExpressionDesk$Gathering" 51 "ExpressionDesk$Gathering" "once" "Z" ∈ hp_T := hp_i1 229 (by rfl) (by rfl)
theorem w_230 : Cond.fieldLink "ExpressionDesk$Gathering" 55 "ExpressionDesk$Gathering" "between" "I" ∈ hp_T := hp_i1 230 (by rfl) (by rfl)
theorem w_231 : Cond.fieldLink "ExpressionDesk$Gathering" 58 "ExpressionDesk$Gathering" "count" "I" ∈ hp_T := hp_i1 231 (by rfl) (by rfl)
theorem w_232 : Cond.laysFinal "ExpressionDesk$Gathering" "ExpressionDesk$Gathering" "store" "LExpressionDesk$Store;" ∈ hp_T := hp_i1 232 (by rfl) (by rfl)
theorem w_234 : Cond.laysFinal "ExpressionDesk$Gathering" "ExpressionDesk$Gathering" "gathered" "[I" ∈ hp_T := hp_i1 234 (by rfl) (by rfl)
theorem w_236 : Cond.laysFinal "ExpressionDesk$Gathering" "ExpressionDesk$Gathering" "sorted" "[I" ∈ hp_T := hp_i1 236 (by rfl) (by rfl)
theorem w_238 : Cond.laysFinal "ExpressionDesk$Gathering" "ExpressionDesk$Gathering" "row" "LExpressionDesk$Row;" ∈ hp_T := hp_i1 238 (by rfl) (by rfl)
theorem w_240 : Cond.laysFinal "ExpressionDesk$Gathering" "ExpressionDesk$Gathering" "reckoner" "LExpressionDesk$Reckoner;" ∈ hp_T := hp_i2 0 (by rfl) (by rfl)
theorem w_242 : Cond.lays "ExpressionDesk$Gathering" "ExpressionDesk$Gathering" "sort" "I" ∈ hp_T := hp_i2 2 (by rfl) (by rfl)
theorem w_244 : Cond.lays "ExpressionDesk$Gathering" "ExpressionDesk$Gathering" "once" "Z" ∈ hp_T := hp_i2 4 (by rfl) (by rfl)
theorem w_246 : Cond.lays "ExpressionDesk$Gathering" "ExpressionDesk$Gathering" "between" "I" ∈ hp_T := hp_i2 6 (by rfl) (by rfl)
theorem w_248 : Cond.lays "ExpressionDesk$Gathering" "ExpressionDesk$Gathering" "count" "I" ∈ hp_T := hp_i2 8 (by rfl) (by rfl)
theorem w_251 : Cond.fieldLink "ExpressionDesk" 10 "ExpressionDesk" "store" "LExpressionDesk$Store;" ∈ hp_T := hp_i2 11 (by rfl) (by rfl)
theorem w_252 : Cond.fieldLink "ExpressionDesk" 19 "ExpressionDesk" "tape" "LExpressionDesk$Row;" ∈ hp_T := hp_i2 12 (by rfl) (by rfl)
theorem w_253 : Cond.fieldLink "ExpressionDesk" 28 "ExpressionDesk" "expression" "LExpressionDesk$Expression;" ∈ hp_T := hp_i2 13 (by rfl) (by rfl)
theorem w_254 : Cond.fieldLink "ExpressionDesk" 35 "ExpressionDesk" "gathering" "LExpressionDesk$Gathering;" ∈ hp_T := hp_i2 14 (by rfl) (by rfl)
theorem w_255 : Cond.laysFinal "ExpressionDesk" "ExpressionDesk" "store" "LExpressionDesk$Store;" ∈ hp_T := hp_i2 15 (by rfl) (by rfl)
theorem w_257 : Cond.laysFinal "ExpressionDesk" "ExpressionDesk" "tape" "LExpressionDesk$Row;" ∈ hp_T := hp_i2 17 (by rfl) (by rfl)
theorem w_259 : Cond.laysFinal "ExpressionDesk" "ExpressionDesk" "expression" "LExpressionDesk$Expression;" ∈ hp_T := hp_i2 19 (by rfl) (by rfl)
theorem w_261 : Cond.laysFinal "ExpressionDesk" "ExpressionDesk" "gathering" "LExpressionDesk$Gathering;" ∈ hp_T := hp_i2 21 (by rfl) (by rfl)
theorem w_264 : Cond.methodLink "ExpressionDeskLaw" 15 (⟨"ExpressionDesk", "type", "(JI)I"⟩ : MethodName) ∈ hp_T := hp_i2 24 (by rfl) (by rfl)
theorem w_265 : Cond.instanceMethod (⟨"ExpressionDesk", "type", "(JI)I"⟩ : MethodName) ∈ hp_T := hp_i2 25 (by rfl) (by rfl)
theorem w_266 : Cond.selects "ExpressionDesk" (⟨"ExpressionDesk", "type", "(JI)I"⟩ : MethodName) (⟨"ExpressionDesk", "type", "(JI)I"⟩ : MethodName) ∈ hp_T := hp_i2 26 (by rfl) (by rfl)
theorem w_267 : Cond.code (⟨"ExpressionDesk", "type", "(JI)I"⟩ : MethodName) prog_1_method_2_code 5 (Option.some Jvm.ClassFile.FieldType.int) ∈ hp_T := hp_i2 27 (by rfl) (by rfl)
theorem w_268 : Cond.methodLink "ExpressionDesk" 43 (⟨"ExpressionDesk$Row", "put", "(I)V"⟩ : MethodName) ∈ hp_T := hp_i2 28 (by rfl) (by rfl)
theorem w_269 : Cond.instanceMethod (⟨"ExpressionDesk$Row", "put", "(I)V"⟩ : MethodName) ∈ hp_T := hp_i2 29 (by rfl) (by rfl)
theorem w_270 : Cond.selects "ExpressionDesk$Row" (⟨"ExpressionDesk$Row", "put", "(I)V"⟩ : MethodName) (⟨"ExpressionDesk$Row", "put", "(I)V"⟩ : MethodName) ∈ hp_T := hp_i2 30 (by rfl) (by rfl)
theorem w_271 : Cond.code (⟨"ExpressionDesk$Row", "put", "(I)V"⟩ : MethodName) prog_5_method_3_code 2 (Option.none : Option Jvm.ClassFile.FieldType) ∈ hp_T := hp_i2 31 (by rfl) (by rfl)
theorem w_272 : Cond.methodLink "ExpressionDeskLaw" 20 (⟨"ExpressionDesk", "whole", "(J)I"⟩ : MethodName) ∈ hp_T := hp_i2 32 (by rfl) (by rfl)
theorem w_273 : Cond.instanceMethod (⟨"ExpressionDesk", "whole", "(J)I"⟩ : MethodName) ∈ hp_T := hp_i2 33 (by rfl) (by rfl)
theorem w_274 : Cond.selects "ExpressionDesk" (⟨"ExpressionDesk", "whole", "(J)I"⟩ : MethodName) (⟨"ExpressionDesk", "whole", "(J)I"⟩ : MethodName) ∈ hp_T := hp_i2 34 (by rfl) (by rfl)
theorem w_275 : Cond.code (⟨"ExpressionDesk", "whole", "(J)I"⟩ : MethodName) prog_1_method_3_code 3 (Option.some Jvm.ClassFile.FieldType.int) ∈ hp_T := hp_i2 35 (by rfl) (by rfl)
theorem w_276 : Cond.methodLink "ExpressionDesk" 47 (⟨"ExpressionDesk", "isInSize", "(J)Z"⟩ : MethodName) ∈ hp_T := hp_i2 36 (by rfl) (by rfl)
theorem w_277 : Cond.static (⟨"ExpressionDesk", "isInSize", "(J)Z"⟩ : MethodName) ∈ hp_T := hp_i2 37 (by rfl) (by rfl)
theorem w_278 : Cond.code (⟨"ExpressionDesk", "isInSize", "(J)Z"⟩ : MethodName) prog_1_method_21_code 2 (Option.some Jvm.ClassFile.FieldType.boolean) ∈ hp_T := hp_i2 38 (by rfl) (by rfl)
theorem w_279 : Cond.constantLong "ExpressionDesk" 136 (-1000000000000000000) ∈ hp_T := hp_i2 39 (by rfl) (by rfl)
theorem w_280 : Cond.constantLong "ExpressionDesk" 138 1000000000000000000 ∈ hp_T := hp_i2 40 (by rfl) (by rfl)
theorem w_281 : Cond.methodLink "ExpressionDesk" 51 (⟨"ExpressionDesk$Store", "keepNumber", "(IJI)I"⟩ : MethodName) ∈ hp_T := hp_i2 41 (by rfl) (by rfl)
theorem w_282 : Cond.instanceMethod (⟨"ExpressionDesk$Store", "keepNumber", "(IJI)I"⟩ : MethodName) ∈ hp_T := hp_i2 42 (by rfl) (by rfl)
theorem w_283 : Cond.selects "ExpressionDesk$Store" (⟨"ExpressionDesk$Store", "keepNumber", "(IJI)I"⟩ : MethodName) (⟨"ExpressionDesk$Store", "keepNumber", "(IJI)I"⟩ : MethodName) ∈ hp_T := hp_i2 43 (by rfl) (by rfl)
theorem w_284 : Cond.code (⟨"ExpressionDesk$Store", "keepNumber", "(IJI)I"⟩ : MethodName) prog_6_method_5_code 5 (Option.some Jvm.ClassFile.FieldType.int) ∈ hp_T := hp_i2 44 (by rfl) (by rfl)
theorem w_285 : Cond.methodLink "ExpressionDesk$Store" 50 (⟨"ExpressionDesk$Store", "keep", "(IIJILExpressionDesk$Row;)I"⟩ : MethodName) ∈ hp_T := hp_i2 45 (by rfl) (by rfl)
theorem w_287 : Cond.instanceMethod (⟨"ExpressionDesk$Store", "keep", "(IIJILExpressionDesk$Row;)I"⟩ : MethodName) ∈ hp_T := hp_i2 47 (by rfl) (by rfl)
theorem w_288 : Cond.code (⟨"ExpressionDesk$Store", "keep", "(IIJILExpressionDesk$Row;)I"⟩ : MethodName) prog_6_method_9_code 11 (Option.some Jvm.ClassFile.FieldType.int) ∈ hp_T := hp_i2 48 (by rfl) (by rfl)
theorem w_289 : Cond.methodLink "ExpressionDesk$Store" 78 (⟨"ExpressionDesk$Store", "chainOf", "(IIJILExpressionDesk$Row;)I"⟩ : MethodName) ∈ hp_T := hp_i2 49 (by rfl) (by rfl)
theorem w_290 : Cond.static (⟨"ExpressionDesk$Store", "chainOf", "(IIJILExpressionDesk$Row;)I"⟩ : MethodName) ∈ hp_T := hp_i2 50 (by rfl) (by rfl)
theorem w_291 : Cond.code (⟨"ExpressionDesk$Store", "chainOf", "(IIJILExpressionDesk$Row;)I"⟩ : MethodName) prog_6_method_10_code 9 (Option.some Jvm.ClassFile.FieldType.int) ∈ hp_T := hp_i2 51 (by rfl) (by rfl)
theorem w_292 : Cond.constantLong "ExpressionDesk$Store" 113 31 ∈ hp_T := hp_i2 52 (by rfl) (by rfl)
theorem w_293 : Cond.methodLink "ExpressionDesk$Store" 42 (⟨"java/util/ArrayList", "size", "()I"⟩ : MethodName) ∈ hp_T := hp_i2 53 (by rfl) (by rfl)
theorem w_294 : Cond.instanceMethod (⟨"java/util/ArrayList", "size", "()I"⟩ : MethodName) ∈ hp_T := hp_i2 54 (by rfl) (by rfl)
theorem w_295 : Cond.selects "java/util/ArrayList" (⟨"java/util/ArrayList", "size", "()I"⟩ : MethodName) (⟨"java/util/ArrayList", "size", "()I"⟩ : MethodName) ∈ hp_T := hp_i2 55 (by rfl) (by rfl)
theorem w_296 : Cond.code (⟨"java/util/ArrayList", "size", "()I"⟩ : MethodName) prog_22_method_8_code 1 (Option.some Jvm.ClassFile.FieldType.int) ∈ hp_T := hp_i2 56 (by rfl) (by rfl)
theorem w_297 : Cond.methodLink "ExpressionDesk$Store" 46 (⟨"java/util/ArrayList", "get", "(I)Ljava/lang/Object;"⟩ : MethodName) ∈ hp_T := hp_i2 57 (by rfl) (by rfl)
theorem w_298 : Cond.instanceMethod (⟨"java/util/ArrayList", "get", "(I)Ljava/lang/Object;"⟩ : MethodName) ∈ hp_T := hp_i2 58 (by rfl) (by rfl)
theorem w_299 : Cond.selects "java/util/ArrayList" (⟨"java/util/ArrayList", "get", "(I)Ljava/lang/Object;"⟩ : MethodName) (⟨"java/util/ArrayList", "get", "(I)Ljava/lang/Object;"⟩ : MethodName) ∈ hp_T := hp_i2 59 (by rfl) (by rfl)
theorem w_300 : Cond.code (⟨"java/util/ArrayList", "get", "(I)Ljava/lang/Object;"⟩ : MethodName) prog_22_method_20_code 2 (Option.some (Jvm.ClassFile.FieldType.object "java/lang/Object")) ∈ hp_T := hp_i2 60 (by rfl) (by rfl)
theorem w_301 : Cond.methodLink "java/util/ArrayList" 118 (⟨"java/util/Objects", "checkIndex", "(II)I"⟩ : MethodName) ∈ hp_T := hp_i2 61 (by rfl) (by rfl)
theorem w_302 : Cond.static (⟨"java/util/Objects", "checkIndex", "(II)I"⟩ : MethodName) ∈ hp_T := hp_i2 62 (by rfl) (by rfl)
theorem w_303 : Cond.code (⟨"java/util/Objects", "checkIndex", "(II)I"⟩ : MethodName) prog_26_method_17_code 2 (Option.some Jvm.ClassFile.FieldType.int) ∈ hp_T := hp_i2 63 (by rfl) (by rfl)
theorem w_307 : Cond.methodLink "java/util/ArrayList" 123 (⟨"java/util/ArrayList", "elementData", "(I)Ljava/lang/Object;"⟩ : MethodName) ∈ hp_T := hp_i2 67 (by rfl) (by rfl)
theorem w_308 : Cond.instanceMethod (⟨"java/util/ArrayList", "elementData", "(I)Ljava/lang/Object;"⟩ : MethodName) ∈ hp_T := hp_i2 68 (by rfl) (by rfl)
theorem w_309 : Cond.selects "java/util/ArrayList" (⟨"java/util/ArrayList", "elementData", "(I)Ljava/lang/Object;"⟩ : MethodName) (⟨"java/util/ArrayList", "elementData", "(I)Ljava/lang/Object;"⟩ : MethodName) ∈ hp_T := hp_i2 69 (by rfl) (by rfl)
theorem w_310 : Cond.code (⟨"java/util/ArrayList", "elementData", "(I)Ljava/lang/Object;"⟩ : MethodName) prog_22_method_18_code 2 (Option.some (Jvm.ClassFile.FieldType.object "java/lang/Object")) ∈ hp_T := hp_i2 70 (by rfl) (by rfl)
theorem w_311 : Cond.methodLink "ExpressionDesk$Store" 92 (⟨"ExpressionDesk$Row", "holds", "([B)Z"⟩ : MethodName) ∈ hp_T := hp_i2 71 (by rfl) (by rfl)
theorem w_312 : Cond.instanceMethod (⟨"ExpressionDesk$Row", "holds", "([B)Z"⟩ : MethodName) ∈ hp_T := hp_i2 72 (by rfl) (by rfl)
theorem w_313 : Cond.selects "ExpressionDesk$Row" (⟨"ExpressionDesk$Row", "holds", "([B)Z"⟩ : MethodName) (⟨"ExpressionDesk$Row", "holds", "([B)Z"⟩ : MethodName) ∈ hp_T := hp_i2 73 (by rfl) (by rfl)
theorem w_314 : Cond.code (⟨"ExpressionDesk$Row", "holds", "([B)Z"⟩ : MethodName) prog_5_method_9_code 3 (Option.some Jvm.ClassFile.FieldType.boolean) ∈ hp_T := hp_i2 74 (by rfl) (by rfl)
theorem w_315 : Cond.methodLink "ExpressionDesk$Store" 103 (⟨"java/util/Arrays", "copyOf", "([BI)[B"⟩ : MethodName) ∈ hp_T := hp_i2 75 (by rfl) (by rfl)
theorem w_316 : Cond.static (⟨"java/util/Arrays", "copyOf", "([BI)[B"⟩ : MethodName) ∈ hp_T := hp_i2 76 (by rfl) (by rfl)
theorem w_317 : Cond.code (⟨"java/util/Arrays", "copyOf", "([BI)[B"⟩ : MethodName) prog_23_method_121_code 3 (Option.some (Jvm.ClassFile.FieldType.array Jvm.ClassFile.FieldType.byte)) ∈ hp_T := hp_i2 77 (by rfl) (by rfl)
theorem w_325 : Cond.methodLink "java/util/Arrays" 304 (⟨"java/lang/Math", "min", "(II)I"⟩ : MethodName) ∈ hp_T := hp_i2 85 (by rfl) (by rfl)
theorem w_326 : Cond.static (⟨"java/lang/Math", "min", "(II)I"⟩ : MethodName) ∈ hp_T := hp_i2 86 (by rfl) (by rfl)
theorem w_327 : Cond.code (⟨"java/lang/Math", "min", "(II)I"⟩ : MethodName) prog_15_method_69_code 2 (Option.some Jvm.ClassFile.FieldType.int) ∈ hp_T := hp_i2 87 (by rfl) (by rfl)
theorem w_331 : Cond.methodLink "ExpressionDesk$Store" 109 (⟨"java/util/ArrayList", "add", "(Ljava/lang/Object;)Z"⟩ : MethodName) ∈ hp_T := hp_i2 91 (by rfl) (by rfl)
theorem w_332 : Cond.instanceMethod (⟨"java/util/ArrayList", "add", "(Ljava/lang/Object;)Z"⟩ : MethodName) ∈ hp_T := hp_i2 92 (by rfl) (by rfl)
theorem w_333 : Cond.selects "java/util/ArrayList" (⟨"java/util/ArrayList", "add", "(Ljava/lang/Object;)Z"⟩ : MethodName) (⟨"java/util/ArrayList", "add", "(Ljava/lang/Object;)Z"⟩ : MethodName) ∈ hp_T := hp_i2 93 (by rfl) (by rfl)
theorem w_334 : Cond.code (⟨"java/util/ArrayList", "add", "(Ljava/lang/Object;)Z"⟩ : MethodName) prog_22_method_25_code 2 (Option.some Jvm.ClassFile.FieldType.boolean) ∈ hp_T := hp_i2 94 (by rfl) (by rfl)
theorem w_335 : Cond.methodLink "java/util/ArrayList" 131 (⟨"java/util/ArrayList", "add", "(Ljava/lang/Object;[Ljava/lang/Object;I)V"⟩ : MethodName) ∈ hp_T := hp_i2 95 (by rfl) (by rfl)
theorem w_337 : Cond.instanceMethod (⟨"java/util/ArrayList", "add", "(Ljava/lang/Object;[Ljava/lang/Object;I)V"⟩ : MethodName) ∈ hp_T := hp_i2 97 (by rfl) (by rfl)
theorem w_338 : Cond.code (⟨"java/util/ArrayList", "add", "(Ljava/lang/Object;[Ljava/lang/Object;I)V"⟩ : MethodName) prog_22_method_24_code 4 (Option.none : Option Jvm.ClassFile.FieldType) ∈ hp_T := hp_i2 98 (by rfl) (by rfl)
theorem w_339 : Cond.methodLink "java/util/ArrayList" 129 (⟨"java/util/ArrayList", "grow", "()[Ljava/lang/Object;"⟩ : MethodName) ∈ hp_T := hp_i2 99 (by rfl) (by rfl)
theorem w_341 : Cond.instanceMethod (⟨"java/util/ArrayList", "grow", "()[Ljava/lang/Object;"⟩ : MethodName) ∈ hp_T := hp_i2 101 (by rfl) (by rfl)
theorem w_342 : Cond.code (⟨"java/util/ArrayList", "grow", "()[Ljava/lang/Object;"⟩ : MethodName) prog_22_method_7_code 1 (Option.some (Jvm.ClassFile.FieldType.array (Jvm.ClassFile.FieldType.object "java/lang/Object"))) ∈ hp_T := hp_i2 102 (by rfl) (by rfl)
theorem w_343 : Cond.methodLink "java/util/ArrayList" 69 (⟨"java/util/ArrayList", "grow", "(I)[Ljava/lang/Object;"⟩ : MethodName) ∈ hp_T := hp_i2 103 (by rfl) (by rfl)
theorem w_345 : Cond.instanceMethod (⟨"java/util/ArrayList", "grow", "(I)[Ljava/lang/Object;"⟩ : MethodName) ∈ hp_T := hp_i2 105 (by rfl) (by rfl)
theorem w_346 : Cond.code (⟨"java/util/ArrayList", "grow", "(I)[Ljava/lang/Object;"⟩ : MethodName) prog_22_method_6_code 4 (Option.some (Jvm.ClassFile.FieldType.array (Jvm.ClassFile.FieldType.object "java/lang/Object"))) ∈ hp_T := hp_i2 106 (by rfl) (by rfl)
theorem w_350 : Cond.methodLink "jdk/internal/util/ArraysSupport" 194 (⟨"java/lang/Math", "max", "(II)I"⟩ : MethodName) ∈ hp_T := hp_i2 110 (by rfl) (by rfl)
theorem w_351 : Cond.static (⟨"java/lang/Math", "max", "(II)I"⟩ : MethodName) ∈ hp_T := hp_i2 111 (by rfl) (by rfl)
theorem w_352 : Cond.code (⟨"java/lang/Math", "max", "(II)I"⟩ : MethodName) prog_15_method_65_code 2 (Option.some Jvm.ClassFile.FieldType.int) ∈ hp_T := hp_i2 112 (by rfl) (by rfl)
theorem w_353 : Cond.constant "jdk/internal/util/ArraysSupport" 200 2147483639 ∈ hp_T := hp_i2 113 (by rfl) (by rfl)
theorem w_354 : Cond.methodLink "jdk/internal/util/ArraysSupport" 201 (⟨"jdk/internal/util/ArraysSupport", "hugeLength", "(II)I"⟩ : MethodName) ∈ hp_T := hp_i2 114 (by rfl) (by rfl)
theorem w_355 : Cond.static (⟨"jdk/internal/util/ArraysSupport", "hugeLength", "(II)I"⟩ : MethodName) ∈ hp_T := hp_i2 115 (by rfl) (by rfl)
theorem w_356 : Cond.code (⟨"jdk/internal/util/ArraysSupport", "hugeLength", "(II)I"⟩ : MethodName) prog_29_method_28_code 3 (Option.some Jvm.ClassFile.FieldType.int) ∈ hp_T := hp_i2 116 (by rfl) (by rfl)
theorem w_381 : Cond.methodLink "ExpressionDeskLaw" 25 (⟨"ExpressionDesk", "decimal", "(JI)I"⟩ : MethodName) ∈ hp_T := hp_i2 141 (by rfl) (by rfl)
theorem w_382 : Cond.instanceMethod (⟨"ExpressionDesk", "decimal", "(JI)I"⟩ : MethodName) ∈ hp_T := hp_i2 142 (by rfl) (by rfl)
theorem w_383 : Cond.selects "ExpressionDesk" (⟨"ExpressionDesk", "decimal", "(JI)I"⟩ : MethodName) (⟨"ExpressionDesk", "decimal", "(JI)I"⟩ : MethodName) ∈ hp_T := hp_i2 143 (by rfl) (by rfl)
theorem w_384 : Cond.code (⟨"ExpressionDesk", "decimal", "(JI)I"⟩ : MethodName) prog_1_method_4_code 7 (Option.some Jvm.ClassFile.FieldType.int) ∈ hp_T := hp_i2 144 (by rfl) (by rfl)
theorem w_385 : Cond.constantLong "ExpressionDesk" 55 10 ∈ hp_T := hp_i2 145 (by rfl) (by rfl)
theorem w_386 : Cond.methodLink "ExpressionDeskLaw" 29 (⟨"ExpressionDesk", "truth", "(Z)I"⟩ : MethodName) ∈ hp_T := hp_i2 146 (by rfl) (by rfl)
theorem w_387 : Cond.instanceMethod (⟨"ExpressionDesk", "truth", "(Z)I"⟩ : MethodName) ∈ hp_T := hp_i2 147 (by rfl) (by rfl)
theorem w_388 : Cond.selects "ExpressionDesk" (⟨"ExpressionDesk", "truth", "(Z)I"⟩ : MethodName) (⟨"ExpressionDesk", "truth", "(Z)I"⟩ : MethodName) ∈ hp_T := hp_i2 148 (by rfl) (by rfl)
theorem w_389 : Cond.code (⟨"ExpressionDesk", "truth", "(Z)I"⟩ : MethodName) prog_1_method_5_code 2 (Option.some Jvm.ClassFile.FieldType.int) ∈ hp_T := hp_i2 149 (by rfl) (by rfl)
theorem w_390 : Cond.methodLink "ExpressionDesk" 57 (⟨"ExpressionDesk$Store", "keepTruth", "(Z)I"⟩ : MethodName) ∈ hp_T := hp_i2 150 (by rfl) (by rfl)
theorem w_391 : Cond.instanceMethod (⟨"ExpressionDesk$Store", "keepTruth", "(Z)I"⟩ : MethodName) ∈ hp_T := hp_i2 151 (by rfl) (by rfl)
theorem w_392 : Cond.selects "ExpressionDesk$Store" (⟨"ExpressionDesk$Store", "keepTruth", "(Z)I"⟩ : MethodName) (⟨"ExpressionDesk$Store", "keepTruth", "(Z)I"⟩ : MethodName) ∈ hp_T := hp_i2 152 (by rfl) (by rfl)
theorem w_393 : Cond.code (⟨"ExpressionDesk$Store", "keepTruth", "(Z)I"⟩ : MethodName) prog_6_method_6_code 2 (Option.some Jvm.ClassFile.FieldType.int) ∈ hp_T := hp_i2 153 (by rfl) (by rfl)
theorem w_394 : Cond.methodLink "ExpressionDeskLaw" 34 (⟨"ExpressionDesk", "named", "(II)I"⟩ : MethodName) ∈ hp_T := hp_i2 154 (by rfl) (by rfl)
theorem w_395 : Cond.instanceMethod (⟨"ExpressionDesk", "named", "(II)I"⟩ : MethodName) ∈ hp_T := hp_i2 155 (by rfl) (by rfl)
theorem w_396 : Cond.selects "ExpressionDesk" (⟨"ExpressionDesk", "named", "(II)I"⟩ : MethodName) (⟨"ExpressionDesk", "named", "(II)I"⟩ : MethodName) ∈ hp_T := hp_i2 156 (by rfl) (by rfl)
theorem w_397 : Cond.code (⟨"ExpressionDesk", "named", "(II)I"⟩ : MethodName) prog_1_method_6_code 3 (Option.some Jvm.ClassFile.FieldType.int) ∈ hp_T := hp_i2 157 (by rfl) (by rfl)
theorem w_398 : Cond.methodLink "ExpressionDesk" 61 (⟨"ExpressionDesk$Store", "keepNumbered", "(II)I"⟩ : MethodName) ∈ hp_T := hp_i2 158 (by rfl) (by rfl)
theorem w_399 : Cond.instanceMethod (⟨"ExpressionDesk$Store", "keepNumbered", "(II)I"⟩ : MethodName) ∈ hp_T := hp_i2 159 (by rfl) (by rfl)
theorem w_400 : Cond.selects "ExpressionDesk$Store" (⟨"ExpressionDesk$Store", "keepNumbered", "(II)I"⟩ : MethodName) (⟨"ExpressionDesk$Store", "keepNumbered", "(II)I"⟩ : MethodName) ∈ hp_T := hp_i2 160 (by rfl) (by rfl)
theorem w_401 : Cond.code (⟨"ExpressionDesk$Store", "keepNumbered", "(II)I"⟩ : MethodName) prog_6_method_4_code 3 (Option.some Jvm.ClassFile.FieldType.int) ∈ hp_T := hp_i2 161 (by rfl) (by rfl)
theorem w_402 : Cond.methodLink "ExpressionDeskLaw" 39 (⟨"ExpressionDesk", "text", "(II)I"⟩ : MethodName) ∈ hp_T := hp_i2 162 (by rfl) (by rfl)
theorem w_403 : Cond.instanceMethod (⟨"ExpressionDesk", "text", "(II)I"⟩ : MethodName) ∈ hp_T := hp_i2 163 (by rfl) (by rfl)
theorem w_404 : Cond.selects "ExpressionDesk" (⟨"ExpressionDesk", "text", "(II)I"⟩ : MethodName) (⟨"ExpressionDesk", "text", "(II)I"⟩ : MethodName) ∈ hp_T := hp_i2 164 (by rfl) (by rfl)
theorem w_405 : Cond.code (⟨"ExpressionDesk", "text", "(II)I"⟩ : MethodName) prog_1_method_7_code 5 (Option.some Jvm.ClassFile.FieldType.int) ∈ hp_T := hp_i2 165 (by rfl) (by rfl)
theorem w_406 : Cond.methodLink "ExpressionDesk" 65 (⟨"ExpressionDesk", "isTextKind", "(II)Z"⟩ : MethodName) ∈ hp_T := hp_i2 166 (by rfl) (by rfl)
theorem w_407 : Cond.static (⟨"ExpressionDesk", "isTextKind", "(II)Z"⟩ : MethodName) ∈ hp_T := hp_i2 167 (by rfl) (by rfl)
theorem w_408 : Cond.code (⟨"ExpressionDesk", "isTextKind", "(II)Z"⟩ : MethodName) prog_1_method_22_code 2 (Option.some Jvm.ClassFile.FieldType.boolean) ∈ hp_T := hp_i2 168 (by rfl) (by rfl)
theorem w_409 : Cond.methodLink "ExpressionDesk" 69 (⟨"ExpressionDesk$Row", "isText", "()Z"⟩ : MethodName) ∈ hp_T := hp_i2 169 (by rfl) (by rfl)
theorem w_410 : Cond.instanceMethod (⟨"ExpressionDesk$Row", "isText", "()Z"⟩ : MethodName) ∈ hp_T := hp_i2 170 (by rfl) (by rfl)
theorem w_411 : Cond.selects "ExpressionDesk$Row" (⟨"ExpressionDesk$Row", "isText", "()Z"⟩ : MethodName) (⟨"ExpressionDesk$Row", "isText", "()Z"⟩ : MethodName) ∈ hp_T := hp_i2 171 (by rfl) (by rfl)
theorem w_412 : Cond.code (⟨"ExpressionDesk$Row", "isText", "()Z"⟩ : MethodName) prog_5_method_8_code 2 (Option.some Jvm.ClassFile.FieldType.boolean) ∈ hp_T := hp_i2 172 (by rfl) (by rfl)
theorem w_413 : Cond.methodLink "ExpressionDesk" 73 (⟨"ExpressionDesk$Store", "keepRow", "(IILExpressionDesk$Row;)I"⟩ : MethodName) ∈ hp_T := hp_i2 173 (by rfl) (by rfl)
theorem w_414 : Cond.instanceMethod (⟨"ExpressionDesk$Store", "keepRow", "(IILExpressionDesk$Row;)I"⟩ : MethodName) ∈ hp_T := hp_i2 174 (by rfl) (by rfl)
theorem w_415 : Cond.selects "ExpressionDesk$Store" (⟨"ExpressionDesk$Store", "keepRow", "(IILExpressionDesk$Row;)I"⟩ : MethodName) (⟨"ExpressionDesk$Store", "keepRow", "(IILExpressionDesk$Row;)I"⟩ : MethodName) ∈ hp_T := hp_i2 175 (by rfl) (by rfl)
theorem w_416 : Cond.code (⟨"ExpressionDesk$Store", "keepRow", "(IILExpressionDesk$Row;)I"⟩ : MethodName) prog_6_method_7_code 4 (Option.some Jvm.ClassFile.FieldType.int) ∈ hp_T := hp_i2 176 (by rfl) (by rfl)
theorem w_417 : Cond.methodLink "ExpressionDesk" 77 (⟨"ExpressionDesk$Row", "clear", "()V"⟩ : MethodName) ∈ hp_T := hp_i2 177 (by rfl) (by rfl)
theorem w_418 : Cond.instanceMethod (⟨"ExpressionDesk$Row", "clear", "()V"⟩ : MethodName) ∈ hp_T := hp_i2 178 (by rfl) (by rfl)
theorem w_419 : Cond.selects "ExpressionDesk$Row" (⟨"ExpressionDesk$Row", "clear", "()V"⟩ : MethodName) (⟨"ExpressionDesk$Row", "clear", "()V"⟩ : MethodName) ∈ hp_T := hp_i2 179 (by rfl) (by rfl)
theorem w_420 : Cond.code (⟨"ExpressionDesk$Row", "clear", "()V"⟩ : MethodName) prog_5_method_2_code 1 (Option.none : Option Jvm.ClassFile.FieldType) ∈ hp_T := hp_i2 180 (by rfl) (by rfl)
theorem w_421 : Cond.methodLink "ExpressionDeskLaw" 43 (⟨"ExpressionDesk", "told", "(II)I"⟩ : MethodName) ∈ hp_T := hp_i2 181 (by rfl) (by rfl)
theorem w_422 : Cond.instanceMethod (⟨"ExpressionDesk", "told", "(II)I"⟩ : MethodName) ∈ hp_T := hp_i2 182 (by rfl) (by rfl)
theorem w_423 : Cond.selects "ExpressionDesk" (⟨"ExpressionDesk", "told", "(II)I"⟩ : MethodName) (⟨"ExpressionDesk", "told", "(II)I"⟩ : MethodName) ∈ hp_T := hp_i2 183 (by rfl) (by rfl)
theorem w_424 : Cond.code (⟨"ExpressionDesk", "told", "(II)I"⟩ : MethodName) prog_1_method_8_code 4 (Option.some Jvm.ClassFile.FieldType.int) ∈ hp_T := hp_i2 184 (by rfl) (by rfl)
theorem w_425 : Cond.methodLink "ExpressionDesk" 80 (⟨"ExpressionDesk$Store", "at", "(I)LExpressionDesk$Value;"⟩ : MethodName) ∈ hp_T := hp_i2 185 (by rfl) (by rfl)
theorem w_426 : Cond.instanceMethod (⟨"ExpressionDesk$Store", "at", "(I)LExpressionDesk$Value;"⟩ : MethodName) ∈ hp_T := hp_i2 186 (by rfl) (by rfl)
theorem w_427 : Cond.selects "ExpressionDesk$Store" (⟨"ExpressionDesk$Store", "at", "(I)LExpressionDesk$Value;"⟩ : MethodName) (⟨"ExpressionDesk$Store", "at", "(I)LExpressionDesk$Value;"⟩ : MethodName) ∈ hp_T := hp_i2 187 (by rfl) (by rfl)
theorem w_428 : Cond.code (⟨"ExpressionDesk$Store", "at", "(I)LExpressionDesk$Value;"⟩ : MethodName) prog_6_method_3_code 2 (Option.some (Jvm.ClassFile.FieldType.object "ExpressionDesk$Value")) ∈ hp_T := hp_i2 188 (by rfl) (by rfl)
theorem w_429 : Cond.methodLink "ExpressionDeskLaw" 47 (⟨"ExpressionDesk", "amount", "(I)J"⟩ : MethodName) ∈ hp_T := hp_i2 189 (by rfl) (by rfl)
theorem w_430 : Cond.instanceMethod (⟨"ExpressionDesk", "amount", "(I)J"⟩ : MethodName) ∈ hp_T := hp_i2 190 (by rfl) (by rfl)
theorem w_431 : Cond.selects "ExpressionDesk" (⟨"ExpressionDesk", "amount", "(I)J"⟩ : MethodName) (⟨"ExpressionDesk", "amount", "(I)J"⟩ : MethodName) ∈ hp_T := hp_i2 191 (by rfl) (by rfl)
theorem w_432 : Cond.code (⟨"ExpressionDesk", "amount", "(I)J"⟩ : MethodName) prog_1_method_9_code 2 (Option.some Jvm.ClassFile.FieldType.long) ∈ hp_T := hp_i2 192 (by rfl) (by rfl)
theorem w_433 : Cond.methodLink "ExpressionDeskLaw" 52 (⟨"ExpressionDesk", "byteOf", "(II)I"⟩ : MethodName) ∈ hp_T := hp_i2 193 (by rfl) (by rfl)
theorem w_434 : Cond.instanceMethod (⟨"ExpressionDesk", "byteOf", "(II)I"⟩ : MethodName) ∈ hp_T := hp_i2 194 (by rfl) (by rfl)
theorem w_435 : Cond.selects "ExpressionDesk" (⟨"ExpressionDesk", "byteOf", "(II)I"⟩ : MethodName) (⟨"ExpressionDesk", "byteOf", "(II)I"⟩ : MethodName) ∈ hp_T := hp_i2 195 (by rfl) (by rfl)
theorem w_436 : Cond.code (⟨"ExpressionDesk", "byteOf", "(II)I"⟩ : MethodName) prog_1_method_10_code 4 (Option.some Jvm.ClassFile.FieldType.int) ∈ hp_T := hp_i2 196 (by rfl) (by rfl)
theorem w_437 : Cond.methodLink "ExpressionDeskLaw" 56 (⟨"ExpressionDesk", "values", "()I"⟩ : MethodName) ∈ hp_T := hp_i2 197 (by rfl) (by rfl)
theorem w_438 : Cond.instanceMethod (⟨"ExpressionDesk", "values", "()I"⟩ : MethodName) ∈ hp_T := hp_i2 198 (by rfl) (by rfl)
theorem w_439 : Cond.selects "ExpressionDesk" (⟨"ExpressionDesk", "values", "()I"⟩ : MethodName) (⟨"ExpressionDesk", "values", "()I"⟩ : MethodName) ∈ hp_T := hp_i2 199 (by rfl) (by rfl)
theorem w_440 : Cond.code (⟨"ExpressionDesk", "values", "()I"⟩ : MethodName) prog_1_method_11_code 1 (Option.some Jvm.ClassFile.FieldType.int) ∈ hp_T := hp_i2 200 (by rfl) (by rfl)
theorem w_441 : Cond.methodLink "ExpressionDesk" 103 (⟨"ExpressionDesk$Store", "count", "()I"⟩ : MethodName) ∈ hp_T := hp_i2 201 (by rfl) (by rfl)
theorem w_442 : Cond.instanceMethod (⟨"ExpressionDesk$Store", "count", "()I"⟩ : MethodName) ∈ hp_T := hp_i2 202 (by rfl) (by rfl)
theorem w_443 : Cond.selects "ExpressionDesk$Store" (⟨"ExpressionDesk$Store", "count", "()I"⟩ : MethodName) (⟨"ExpressionDesk$Store", "count", "()I"⟩ : MethodName) ∈ hp_T := hp_i2 203 (by rfl) (by rfl)
theorem w_444 : Cond.code (⟨"ExpressionDesk$Store", "count", "()I"⟩ : MethodName) prog_6_method_2_code 1 (Option.some Jvm.ClassFile.FieldType.int) ∈ hp_T := hp_i2 204 (by rfl) (by rfl)
theorem w_445 : Cond.methodLink "ExpressionDeskLaw" 61 (⟨"ExpressionDesk", "order", "(II)I"⟩ : MethodName) ∈ hp_T := hp_i2 205 (by rfl) (by rfl)
theorem w_446 : Cond.instanceMethod (⟨"ExpressionDesk", "order", "(II)I"⟩ : MethodName) ∈ hp_T := hp_i2 206 (by rfl) (by rfl)
theorem w_447 : Cond.selects "ExpressionDesk" (⟨"ExpressionDesk", "order", "(II)I"⟩ : MethodName) (⟨"ExpressionDesk", "order", "(II)I"⟩ : MethodName) ∈ hp_T := hp_i2 207 (by rfl) (by rfl)
theorem w_448 : Cond.code (⟨"ExpressionDesk", "order", "(II)I"⟩ : MethodName) prog_1_method_12_code 5 (Option.some Jvm.ClassFile.FieldType.int) ∈ hp_T := hp_i2 208 (by rfl) (by rfl)
theorem w_449 : Cond.methodLink "ExpressionDesk" 107 (⟨"ExpressionDesk$Value", "comparedTo", "(LExpressionDesk$Value;)I"⟩ : MethodName) ∈ hp_T := hp_i2 209 (by rfl) (by rfl)
theorem w_450 : Cond.instanceMethod (⟨"ExpressionDesk$Value", "comparedTo", "(LExpressionDesk$Value;)I"⟩ : MethodName) ∈ hp_T := hp_i2 210 (by rfl) (by rfl)
theorem w_451 : Cond.selects "ExpressionDesk$Value" (⟨"ExpressionDesk$Value", "comparedTo", "(LExpressionDesk$Value;)I"⟩ : MethodName) (⟨"ExpressionDesk$Value", "comparedTo", "(LExpressionDesk$Value;)I"⟩ : MethodName) ∈ hp_T := hp_i2 211 (by rfl) (by rfl)
theorem w_452 : Cond.code (⟨"ExpressionDesk$Value", "comparedTo", "(LExpressionDesk$Value;)I"⟩ : MethodName) prog_7_method_5_code 3 (Option.some Jvm.ClassFile.FieldType.int) ∈ hp_T := hp_i2 212 (by rfl) (by rfl)
theorem w_453 : Cond.methodLink "ExpressionDesk$Value" 32 (⟨"ExpressionDesk$Value", "isNumber", "()Z"⟩ : MethodName) ∈ hp_T := hp_i2 213 (by rfl) (by rfl)
theorem w_454 : Cond.instanceMethod (⟨"ExpressionDesk$Value", "isNumber", "()Z"⟩ : MethodName) ∈ hp_T := hp_i2 214 (by rfl) (by rfl)
theorem w_455 : Cond.selects "ExpressionDesk$Value" (⟨"ExpressionDesk$Value", "isNumber", "()Z"⟩ : MethodName) (⟨"ExpressionDesk$Value", "isNumber", "()Z"⟩ : MethodName) ∈ hp_T := hp_i2 215 (by rfl) (by rfl)
theorem w_456 : Cond.code (⟨"ExpressionDesk$Value", "isNumber", "()Z"⟩ : MethodName) prog_7_method_2_code 1 (Option.some Jvm.ClassFile.FieldType.boolean) ∈ hp_T := hp_i2 216 (by rfl) (by rfl)
theorem w_457 : Cond.methodLink "ExpressionDesk$Value" 36 (⟨"ExpressionDesk$Value", "comparedByAmount", "(LExpressionDesk$Value;)I"⟩ : MethodName) ∈ hp_T := hp_i2 217 (by rfl) (by rfl)
theorem w_458 : Cond.instanceMethod (⟨"ExpressionDesk$Value", "comparedByAmount", "(LExpressionDesk$Value;)I"⟩ : MethodName) ∈ hp_T := hp_i2 218 (by rfl) (by rfl)
theorem w_459 : Cond.selects "ExpressionDesk$Value" (⟨"ExpressionDesk$Value", "comparedByAmount", "(LExpressionDesk$Value;)I"⟩ : MethodName) (⟨"ExpressionDesk$Value", "comparedByAmount", "(LExpressionDesk$Value;)I"⟩ : MethodName) ∈ hp_T := hp_i2 219 (by rfl) (by rfl)
theorem w_460 : Cond.code (⟨"ExpressionDesk$Value", "comparedByAmount", "(LExpressionDesk$Value;)I"⟩ : MethodName) prog_7_method_6_code 3 (Option.some Jvm.ClassFile.FieldType.int) ∈ hp_T := hp_i2 220 (by rfl) (by rfl)
theorem w_461 : Cond.methodLinkNest "ExpressionDesk$Value" 49 (⟨"ExpressionDesk", "power", "(I)J"⟩ : MethodName) "ExpressionDesk" ∈ hp_Nst := hp_n2 221 (by rfl) (by rfl)
theorem w_462 : Cond.static (⟨"ExpressionDesk", "power", "(I)J"⟩ : MethodName) ∈ hp_T := hp_i2 222 (by rfl) (by rfl)
theorem w_463 : Cond.code (⟨"ExpressionDesk", "power", "(I)J"⟩ : MethodName) prog_1_method_23_code 1 (Option.some Jvm.ClassFile.FieldType.long) ∈ hp_T := hp_i2 223 (by rfl) (by rfl)
theorem w_464 : Cond.fieldLink "ExpressionDesk" 140 "ExpressionDesk" "POWERS" "[J" ∈ hp_T := hp_i2 224 (by rfl) (by rfl)
theorem w_466 : Cond.methodLink "ExpressionDesk$Value" 53 (⟨"java/lang/Math", "floorDiv", "(JJ)J"⟩ : MethodName) ∈ hp_T := hp_i2 226 (by rfl) (by rfl)
theorem w_467 : Cond.static (⟨"java/lang/Math", "floorDiv", "(JJ)J"⟩ : MethodName) ∈ hp_T := hp_i2 227 (by rfl) (by rfl)
theorem w_468 : Cond.code (⟨"java/lang/Math", "floorDiv", "(JJ)J"⟩ : MethodName) prog_15_method_49_code 6 (Option.some Jvm.ClassFile.FieldType.long) ∈ hp_T := hp_i2 228 (by rfl) (by rfl)
theorem w_469 : Cond.methodLink "ExpressionDesk$Value" 59 (⟨"java/lang/Long", "compare", "(JJ)I"⟩ : MethodName) ∈ hp_T := hp_i2 229 (by rfl) (by rfl)
theorem w_470 : Cond.static (⟨"java/lang/Long", "compare", "(JJ)I"⟩ : MethodName) ∈ hp_T := hp_i2 230 (by rfl) (by rfl)
theorem w_471 : Cond.code (⟨"java/lang/Long", "compare", "(JJ)I"⟩ : MethodName) prog_14_method_42_code 4 (Option.some Jvm.ClassFile.FieldType.int) ∈ hp_T := hp_i2 231 (by rfl) (by rfl)
theorem w_472 : Cond.methodLinkNest "ExpressionDesk$Value" 64 (⟨"ExpressionDesk", "billionths", "(JI)J"⟩ : MethodName) "ExpressionDesk" ∈ hp_Nst := hp_n2 232 (by rfl) (by rfl)
theorem w_473 : Cond.static (⟨"ExpressionDesk", "billionths", "(JI)J"⟩ : MethodName) ∈ hp_T := hp_i2 233 (by rfl) (by rfl)
theorem w_474 : Cond.code (⟨"ExpressionDesk", "billionths", "(JI)J"⟩ : MethodName) prog_1_method_24_code 3 (Option.some Jvm.ClassFile.FieldType.long) ∈ hp_T := hp_i2 234 (by rfl) (by rfl)
theorem w_475 : Cond.methodLink "ExpressionDesk" 144 (⟨"ExpressionDesk", "power", "(I)J"⟩ : MethodName) ∈ hp_T := hp_i2 235 (by rfl) (by rfl)
theorem w_476 : Cond.methodLink "ExpressionDesk" 148 (⟨"java/lang/Math", "floorMod", "(JJ)J"⟩ : MethodName) ∈ hp_T := hp_i2 236 (by rfl) (by rfl)
theorem w_477 : Cond.static (⟨"java/lang/Math", "floorMod", "(JJ)J"⟩ : MethodName) ∈ hp_T := hp_i2 237 (by rfl) (by rfl)
theorem w_478 : Cond.code (⟨"java/lang/Math", "floorMod", "(JJ)J"⟩ : MethodName) prog_15_method_52_code 6 (Option.some Jvm.ClassFile.FieldType.long) ∈ hp_T := hp_i2 238 (by rfl) (by rfl)
theorem w_479 : Cond.methodLink "ExpressionDesk$Value" 40 (⟨"java/lang/Integer", "compare", "(II)I"⟩ : MethodName) ∈ hp_T := hp_i2 239 (by rfl) (by rfl)
theorem w_480 : Cond.static (⟨"java/lang/Integer", "compare", "(II)I"⟩ : MethodName) ∈ hp_T := hp_i3 0 (by rfl) (by rfl)
theorem w_481 : Cond.code (⟨"java/lang/Integer", "compare", "(II)I"⟩ : MethodName) prog_12_method_40_code 2 (Option.some Jvm.ClassFile.FieldType.int) ∈ hp_T := hp_i3 1 (by rfl) (by rfl)
theorem w_482 : Cond.methodLink "ExpressionDesk$Value" 46 (⟨"ExpressionDesk$Value", "comparedByBytes", "(LExpressionDesk$Value;)I"⟩ : MethodName) ∈ hp_T := hp_i3 2 (by rfl) (by rfl)
theorem w_484 : Cond.instanceMethod (⟨"ExpressionDesk$Value", "comparedByBytes", "(LExpressionDesk$Value;)I"⟩ : MethodName) ∈ hp_T := hp_i3 4 (by rfl) (by rfl)
theorem w_485 : Cond.code (⟨"ExpressionDesk$Value", "comparedByBytes", "(LExpressionDesk$Value;)I"⟩ : MethodName) prog_7_method_7_code 3 (Option.some Jvm.ClassFile.FieldType.int) ∈ hp_T := hp_i3 5 (by rfl) (by rfl)
theorem w_486 : Cond.methodLink "ExpressionDeskLaw" 65 (⟨"ExpressionDesk", "word", "(II)I"⟩ : MethodName) ∈ hp_T := hp_i3 6 (by rfl) (by rfl)
theorem w_487 : Cond.instanceMethod (⟨"ExpressionDesk", "word", "(II)I"⟩ : MethodName) ∈ hp_T := hp_i3 7 (by rfl) (by rfl)
theorem w_488 : Cond.selects "ExpressionDesk" (⟨"ExpressionDesk", "word", "(II)I"⟩ : MethodName) (⟨"ExpressionDesk", "word", "(II)I"⟩ : MethodName) ∈ hp_T := hp_i3 8 (by rfl) (by rfl)
theorem w_489 : Cond.code (⟨"ExpressionDesk", "word", "(II)I"⟩ : MethodName) prog_1_method_13_code 3 (Option.some Jvm.ClassFile.FieldType.int) ∈ hp_T := hp_i3 9 (by rfl) (by rfl)
theorem w_490 : Cond.methodLink "ExpressionDesk" 111 (⟨"ExpressionDesk$Expression", "append", "(II)I"⟩ : MethodName) ∈ hp_T := hp_i3 10 (by rfl) (by rfl)
theorem w_491 : Cond.instanceMethod (⟨"ExpressionDesk$Expression", "append", "(II)I"⟩ : MethodName) ∈ hp_T := hp_i3 11 (by rfl) (by rfl)
theorem w_492 : Cond.selects "ExpressionDesk$Expression" (⟨"ExpressionDesk$Expression", "append", "(II)I"⟩ : MethodName) (⟨"ExpressionDesk$Expression", "append", "(II)I"⟩ : MethodName) ∈ hp_T := hp_i3 12 (by rfl) (by rfl)
theorem w_493 : Cond.code (⟨"ExpressionDesk$Expression", "append", "(II)I"⟩ : MethodName) prog_2_method_2_code 4 (Option.some Jvm.ClassFile.FieldType.int) ∈ hp_T := hp_i3 13 (by rfl) (by rfl)
theorem w_494 : Cond.methodLink "ExpressionDesk$Expression" 42 (⟨"ExpressionDesk$Expression", "takesMany", "(I)Z"⟩ : MethodName) ∈ hp_T := hp_i3 14 (by rfl) (by rfl)
theorem w_495 : Cond.static (⟨"ExpressionDesk$Expression", "takesMany", "(I)Z"⟩ : MethodName) ∈ hp_T := hp_i3 15 (by rfl) (by rfl)
theorem w_496 : Cond.code (⟨"ExpressionDesk$Expression", "takesMany", "(I)Z"⟩ : MethodName) prog_2_method_8_code 1 (Option.some Jvm.ClassFile.FieldType.boolean) ∈ hp_T := hp_i3 16 (by rfl) (by rfl)
theorem w_497 : Cond.methodLink "ExpressionDeskLaw" 69 (⟨"ExpressionDesk", "begin", "()I"⟩ : MethodName) ∈ hp_T := hp_i3 17 (by rfl) (by rfl)
theorem w_498 : Cond.instanceMethod (⟨"ExpressionDesk", "begin", "()I"⟩ : MethodName) ∈ hp_T := hp_i3 18 (by rfl) (by rfl)
theorem w_499 : Cond.selects "ExpressionDesk" (⟨"ExpressionDesk", "begin", "()I"⟩ : MethodName) (⟨"ExpressionDesk", "begin", "()I"⟩ : MethodName) ∈ hp_T := hp_i3 19 (by rfl) (by rfl)
theorem w_500 : Cond.code (⟨"ExpressionDesk", "begin", "()I"⟩ : MethodName) prog_1_method_14_code 1 (Option.some Jvm.ClassFile.FieldType.int) ∈ hp_T := hp_i3 20 (by rfl) (by rfl)
theorem w_501 : Cond.methodLink "ExpressionDesk" 114 (⟨"ExpressionDesk$Expression", "restart", "()I"⟩ : MethodName) ∈ hp_T := hp_i3 21 (by rfl) (by rfl)
theorem w_502 : Cond.instanceMethod (⟨"ExpressionDesk$Expression", "restart", "()I"⟩ : MethodName) ∈ hp_T := hp_i3 22 (by rfl) (by rfl)
theorem w_503 : Cond.selects "ExpressionDesk$Expression" (⟨"ExpressionDesk$Expression", "restart", "()I"⟩ : MethodName) (⟨"ExpressionDesk$Expression", "restart", "()I"⟩ : MethodName) ∈ hp_T := hp_i3 23 (by rfl) (by rfl)
theorem w_504 : Cond.code (⟨"ExpressionDesk$Expression", "restart", "()I"⟩ : MethodName) prog_2_method_3_code 2 (Option.some Jvm.ClassFile.FieldType.int) ∈ hp_T := hp_i3 24 (by rfl) (by rfl)
theorem w_505 : Cond.methodLink "ExpressionDeskLaw" 73 (⟨"ExpressionDesk", "bind", "(II)Z"⟩ : MethodName) ∈ hp_T := hp_i3 25 (by rfl) (by rfl)
theorem w_506 : Cond.instanceMethod (⟨"ExpressionDesk", "bind", "(II)Z"⟩ : MethodName) ∈ hp_T := hp_i3 26 (by rfl) (by rfl)
theorem w_507 : Cond.selects "ExpressionDesk" (⟨"ExpressionDesk", "bind", "(II)Z"⟩ : MethodName) (⟨"ExpressionDesk", "bind", "(II)Z"⟩ : MethodName) ∈ hp_T := hp_i3 27 (by rfl) (by rfl)
theorem w_508 : Cond.code (⟨"ExpressionDesk", "bind", "(II)Z"⟩ : MethodName) prog_1_method_15_code 3 (Option.some Jvm.ClassFile.FieldType.boolean) ∈ hp_T := hp_i3 28 (by rfl) (by rfl)
theorem w_509 : Cond.methodLink "ExpressionDesk" 117 (⟨"ExpressionDesk$Expression", "let", "(II)Z"⟩ : MethodName) ∈ hp_T := hp_i3 29 (by rfl) (by rfl)
theorem w_510 : Cond.instanceMethod (⟨"ExpressionDesk$Expression", "let", "(II)Z"⟩ : MethodName) ∈ hp_T := hp_i3 30 (by rfl) (by rfl)
theorem w_511 : Cond.selects "ExpressionDesk$Expression" (⟨"ExpressionDesk$Expression", "let", "(II)Z"⟩ : MethodName) (⟨"ExpressionDesk$Expression", "let", "(II)Z"⟩ : MethodName) ∈ hp_T := hp_i3 31 (by rfl) (by rfl)
theorem w_512 : Cond.code (⟨"ExpressionDesk$Expression", "let", "(II)Z"⟩ : MethodName) prog_2_method_4_code 3 (Option.some Jvm.ClassFile.FieldType.boolean) ∈ hp_T := hp_i3 32 (by rfl) (by rfl)
theorem w_513 : Cond.methodLink "ExpressionDesk$Expression" 50 (⟨"ExpressionDesk$Store", "count", "()I"⟩ : MethodName) ∈ hp_T := hp_i3 33 (by rfl) (by rfl)
theorem w_514 : Cond.methodLink "ExpressionDeskLaw" 78 (⟨"ExpressionDesk", "run", "()I"⟩ : MethodName) ∈ hp_T := hp_i3 34 (by rfl) (by rfl)
theorem w_515 : Cond.instanceMethod (⟨"ExpressionDesk", "run", "()I"⟩ : MethodName) ∈ hp_T := hp_i3 35 (by rfl) (by rfl)
theorem w_516 : Cond.selects "ExpressionDesk" (⟨"ExpressionDesk", "run", "()I"⟩ : MethodName) (⟨"ExpressionDesk", "run", "()I"⟩ : MethodName) ∈ hp_T := hp_i3 36 (by rfl) (by rfl)
theorem w_517 : Cond.code (⟨"ExpressionDesk", "run", "()I"⟩ : MethodName) prog_1_method_16_code 1 (Option.some Jvm.ClassFile.FieldType.int) ∈ hp_T := hp_i3 37 (by rfl) (by rfl)
theorem w_518 : Cond.methodLink "ExpressionDesk" 120 (⟨"ExpressionDesk$Expression", "evaluate", "()I"⟩ : MethodName) ∈ hp_T := hp_i3 38 (by rfl) (by rfl)
theorem w_519 : Cond.instanceMethod (⟨"ExpressionDesk$Expression", "evaluate", "()I"⟩ : MethodName) ∈ hp_T := hp_i3 39 (by rfl) (by rfl)
theorem w_520 : Cond.selects "ExpressionDesk$Expression" (⟨"ExpressionDesk$Expression", "evaluate", "()I"⟩ : MethodName) (⟨"ExpressionDesk$Expression", "evaluate", "()I"⟩ : MethodName) ∈ hp_T := hp_i3 40 (by rfl) (by rfl)
theorem w_521 : Cond.code (⟨"ExpressionDesk$Expression", "evaluate", "()I"⟩ : MethodName) prog_2_method_5_code 4 (Option.some Jvm.ClassFile.FieldType.int) ∈ hp_T := hp_i3 41 (by rfl) (by rfl)
theorem w_522 : Cond.methodLink "ExpressionDesk$Expression" 56 (⟨"ExpressionDesk$Expression", "isRight", "()Z"⟩ : MethodName) ∈ hp_T := hp_i3 42 (by rfl) (by rfl)
theorem w_524 : Cond.instanceMethod (⟨"ExpressionDesk$Expression", "isRight", "()Z"⟩ : MethodName) ∈ hp_T := hp_i3 44 (by rfl) (by rfl)
theorem w_525 : Cond.code (⟨"ExpressionDesk$Expression", "isRight", "()Z"⟩ : MethodName) prog_2_method_6_code 3 (Option.some Jvm.ClassFile.FieldType.boolean) ∈ hp_T := hp_i3 45 (by rfl) (by rfl)
theorem w_526 : Cond.methodLink "ExpressionDesk$Expression" 63 (⟨"ExpressionDesk$Expression", "takenBy", "(II)I"⟩ : MethodName) ∈ hp_T := hp_i3 46 (by rfl) (by rfl)
theorem w_527 : Cond.static (⟨"ExpressionDesk$Expression", "takenBy", "(II)I"⟩ : MethodName) ∈ hp_T := hp_i3 47 (by rfl) (by rfl)
theorem w_528 : Cond.code (⟨"ExpressionDesk$Expression", "takenBy", "(II)I"⟩ : MethodName) prog_2_method_7_code 2 (Option.some Jvm.ClassFile.FieldType.int) ∈ hp_T := hp_i3 48 (by rfl) (by rfl)
theorem w_529 : Cond.fieldLink "ExpressionDesk$Expression" 79 "ExpressionDesk$Expression" "TAKES" "[I" ∈ hp_T := hp_i3 49 (by rfl) (by rfl)
theorem w_531 : Cond.methodLink "ExpressionDesk$Expression" 67 (⟨"ExpressionDesk$Expression", "bearsErrors", "(I)Z"⟩ : MethodName) ∈ hp_T := hp_i3 51 (by rfl) (by rfl)
theorem w_532 : Cond.static (⟨"ExpressionDesk$Expression", "bearsErrors", "(I)Z"⟩ : MethodName) ∈ hp_T := hp_i3 52 (by rfl) (by rfl)
theorem w_533 : Cond.code (⟨"ExpressionDesk$Expression", "bearsErrors", "(I)Z"⟩ : MethodName) prog_2_method_9_code 1 (Option.some Jvm.ClassFile.FieldType.boolean) ∈ hp_T := hp_i3 53 (by rfl) (by rfl)
theorem w_534 : Cond.methodLink "ExpressionDesk$Expression" 70 (⟨"ExpressionDesk$Expression", "performWithErrors", "(II)I"⟩ : MethodName) ∈ hp_T := hp_i3 54 (by rfl) (by rfl)
theorem w_536 : Cond.instanceMethod (⟨"ExpressionDesk$Expression", "performWithErrors", "(II)I"⟩ : MethodName) ∈ hp_T := hp_i3 56 (by rfl) (by rfl)
theorem w_537 : Cond.code (⟨"ExpressionDesk$Expression", "performWithErrors", "(II)I"⟩ : MethodName) prog_2_method_13_code 3 (Option.some Jvm.ClassFile.FieldType.int) ∈ hp_T := hp_i3 57 (by rfl) (by rfl)
theorem w_538 : Cond.methodLink "ExpressionDesk$Expression" 86 (⟨"ExpressionDesk$Store", "at", "(I)LExpressionDesk$Value;"⟩ : MethodName) ∈ hp_T := hp_i3 58 (by rfl) (by rfl)
theorem w_539 : Cond.methodLink "ExpressionDesk$Expression" 98 (⟨"ExpressionDesk$Expression", "boundTo", "(I)I"⟩ : MethodName) ∈ hp_T := hp_i3 59 (by rfl) (by rfl)
theorem w_541 : Cond.instanceMethod (⟨"ExpressionDesk$Expression", "boundTo", "(I)I"⟩ : MethodName) ∈ hp_T := hp_i3 61 (by rfl) (by rfl)
theorem w_542 : Cond.code (⟨"ExpressionDesk$Expression", "boundTo", "(I)I"⟩ : MethodName) prog_2_method_15_code 2 (Option.some Jvm.ClassFile.FieldType.int) ∈ hp_T := hp_i3 62 (by rfl) (by rfl)
theorem w_543 : Cond.methodLink "ExpressionDesk$Expression" 101 (⟨"ExpressionDesk$Store", "keepTruth", "(Z)I"⟩ : MethodName) ∈ hp_T := hp_i3 63 (by rfl) (by rfl)
theorem w_544 : Cond.methodLink "ExpressionDesk$Expression" 105 (⟨"ExpressionDesk$Expression", "decidedBy", "(I)I"⟩ : MethodName) ∈ hp_T := hp_i3 64 (by rfl) (by rfl)
theorem w_546 : Cond.instanceMethod (⟨"ExpressionDesk$Expression", "decidedBy", "(I)I"⟩ : MethodName) ∈ hp_T := hp_i3 66 (by rfl) (by rfl)
theorem w_547 : Cond.code (⟨"ExpressionDesk$Expression", "decidedBy", "(I)I"⟩ : MethodName) prog_2_method_17_code 4 (Option.some Jvm.ClassFile.FieldType.int) ∈ hp_T := hp_i3 67 (by rfl) (by rfl)
theorem w_548 : Cond.methodLink "ExpressionDesk$Expression" 90 (⟨"ExpressionDesk$Expression", "taken", "(I)LExpressionDesk$Value;"⟩ : MethodName) ∈ hp_T := hp_i3 68 (by rfl) (by rfl)
theorem w_550 : Cond.instanceMethod (⟨"ExpressionDesk$Expression", "taken", "(I)LExpressionDesk$Value;"⟩ : MethodName) ∈ hp_T := hp_i3 70 (by rfl) (by rfl)
theorem w_551 : Cond.code (⟨"ExpressionDesk$Expression", "taken", "(I)LExpressionDesk$Value;"⟩ : MethodName) prog_2_method_11_code 2 (Option.some (Jvm.ClassFile.FieldType.object "ExpressionDesk$Value")) ∈ hp_T := hp_i3 71 (by rfl) (by rfl)
theorem w_552 : Cond.methodLink "ExpressionDesk$Expression" 82 (⟨"ExpressionDesk$Expression", "numberTaken", "(I)I"⟩ : MethodName) ∈ hp_T := hp_i3 72 (by rfl) (by rfl)
theorem w_554 : Cond.instanceMethod (⟨"ExpressionDesk$Expression", "numberTaken", "(I)I"⟩ : MethodName) ∈ hp_T := hp_i3 74 (by rfl) (by rfl)
theorem w_555 : Cond.code (⟨"ExpressionDesk$Expression", "numberTaken", "(I)I"⟩ : MethodName) prog_2_method_10_code 3 (Option.some Jvm.ClassFile.FieldType.int) ∈ hp_T := hp_i3 75 (by rfl) (by rfl)
theorem w_556 : Cond.methodLink "ExpressionDesk$Expression" 117 (⟨"ExpressionDesk$Value", "truthOf", "()I"⟩ : MethodName) ∈ hp_T := hp_i3 76 (by rfl) (by rfl)
theorem w_557 : Cond.instanceMethod (⟨"ExpressionDesk$Value", "truthOf", "()I"⟩ : MethodName) ∈ hp_T := hp_i3 77 (by rfl) (by rfl)
theorem w_558 : Cond.selects "ExpressionDesk$Value" (⟨"ExpressionDesk$Value", "truthOf", "()I"⟩ : MethodName) (⟨"ExpressionDesk$Value", "truthOf", "()I"⟩ : MethodName) ∈ hp_T := hp_i3 78 (by rfl) (by rfl)
theorem w_559 : Cond.code (⟨"ExpressionDesk$Value", "truthOf", "()I"⟩ : MethodName) prog_7_method_4_code 1 (Option.some Jvm.ClassFile.FieldType.int) ∈ hp_T := hp_i3 79 (by rfl) (by rfl)
theorem w_560 : Cond.methodLink "ExpressionDesk$Expression" 108 (⟨"ExpressionDesk$Expression", "chosen", "()I"⟩ : MethodName) ∈ hp_T := hp_i3 80 (by rfl) (by rfl)
theorem w_562 : Cond.instanceMethod (⟨"ExpressionDesk$Expression", "chosen", "()I"⟩ : MethodName) ∈ hp_T := hp_i3 82 (by rfl) (by rfl)
theorem w_563 : Cond.code (⟨"ExpressionDesk$Expression", "chosen", "()I"⟩ : MethodName) prog_2_method_18_code 2 (Option.some Jvm.ClassFile.FieldType.int) ∈ hp_T := hp_i3 83 (by rfl) (by rfl)
theorem w_564 : Cond.methodLink "ExpressionDesk$Expression" 111 (⟨"ExpressionDesk$Expression", "firstGood", "(I)I"⟩ : MethodName) ∈ hp_T := hp_i3 84 (by rfl) (by rfl)
theorem w_566 : Cond.instanceMethod (⟨"ExpressionDesk$Expression", "firstGood", "(I)I"⟩ : MethodName) ∈ hp_T := hp_i3 86 (by rfl) (by rfl)
theorem w_567 : Cond.code (⟨"ExpressionDesk$Expression", "firstGood", "(I)I"⟩ : MethodName) prog_2_method_19_code 3 (Option.some Jvm.ClassFile.FieldType.int) ∈ hp_T := hp_i3 87 (by rfl) (by rfl)
theorem w_568 : Cond.methodLink "ExpressionDesk$Expression" 114 (⟨"ExpressionDesk$Expression", "among", "(I)I"⟩ : MethodName) ∈ hp_T := hp_i3 88 (by rfl) (by rfl)
theorem w_570 : Cond.instanceMethod (⟨"ExpressionDesk$Expression", "among", "(I)I"⟩ : MethodName) ∈ hp_T := hp_i3 90 (by rfl) (by rfl)
theorem w_571 : Cond.code (⟨"ExpressionDesk$Expression", "among", "(I)I"⟩ : MethodName) prog_2_method_20_code 5 (Option.some Jvm.ClassFile.FieldType.int) ∈ hp_T := hp_i3 91 (by rfl) (by rfl)
theorem w_572 : Cond.methodLink "ExpressionDesk$Expression" 123 (⟨"ExpressionDesk$Expression", "equal", "(II)I"⟩ : MethodName) ∈ hp_T := hp_i3 92 (by rfl) (by rfl)
theorem w_574 : Cond.instanceMethod (⟨"ExpressionDesk$Expression", "equal", "(II)I"⟩ : MethodName) ∈ hp_T := hp_i3 94 (by rfl) (by rfl)
theorem w_575 : Cond.code (⟨"ExpressionDesk$Expression", "equal", "(II)I"⟩ : MethodName) prog_2_method_21_code 6 (Option.some Jvm.ClassFile.FieldType.int) ∈ hp_T := hp_i3 95 (by rfl) (by rfl)
theorem w_576 : Cond.methodLink "ExpressionDesk$Expression" 147 (⟨"ExpressionDesk$Value", "isNumber", "()Z"⟩ : MethodName) ∈ hp_T := hp_i3 96 (by rfl) (by rfl)
theorem w_577 : Cond.methodLink "ExpressionDesk$Expression" 150 (⟨"ExpressionDesk$Value", "comparedByAmount", "(LExpressionDesk$Value;)I"⟩ : MethodName) ∈ hp_T := hp_i3 97 (by rfl) (by rfl)
theorem w_578 : Cond.methodLink "ExpressionDesk$Expression" 73 (⟨"ExpressionDesk$Expression", "hasTakenError", "(I)Z"⟩ : MethodName) ∈ hp_T := hp_i3 98 (by rfl) (by rfl)
theorem w_580 : Cond.instanceMethod (⟨"ExpressionDesk$Expression", "hasTakenError", "(I)Z"⟩ : MethodName) ∈ hp_T := hp_i3 100 (by rfl) (by rfl)
theorem w_581 : Cond.code (⟨"ExpressionDesk$Expression", "hasTakenError", "(I)Z"⟩ : MethodName) prog_2_method_12_code 3 (Option.some Jvm.ClassFile.FieldType.boolean) ∈ hp_T := hp_i3 101 (by rfl) (by rfl)
theorem w_582 : Cond.methodLink "ExpressionDesk$Expression" 76 (⟨"ExpressionDesk$Expression", "performOnValues", "(II)I"⟩ : MethodName) ∈ hp_T := hp_i3 102 (by rfl) (by rfl)
theorem w_584 : Cond.instanceMethod (⟨"ExpressionDesk$Expression", "performOnValues", "(II)I"⟩ : MethodName) ∈ hp_T := hp_i3 104 (by rfl) (by rfl)
theorem w_585 : Cond.code (⟨"ExpressionDesk$Expression", "performOnValues", "(II)I"⟩ : MethodName) prog_2_method_14_code 3 (Option.some Jvm.ClassFile.FieldType.int) ∈ hp_T := hp_i3 105 (by rfl) (by rfl)
theorem w_586 : Cond.methodLink "ExpressionDesk$Expression" 120 (⟨"ExpressionDesk$Expression", "judged", "(II)I"⟩ : MethodName) ∈ hp_T := hp_i3 106 (by rfl) (by rfl)
theorem w_588 : Cond.instanceMethod (⟨"ExpressionDesk$Expression", "judged", "(II)I"⟩ : MethodName) ∈ hp_T := hp_i3 108 (by rfl) (by rfl)
theorem w_589 : Cond.code (⟨"ExpressionDesk$Expression", "judged", "(II)I"⟩ : MethodName) prog_2_method_16_code 3 (Option.some Jvm.ClassFile.FieldType.int) ∈ hp_T := hp_i3 109 (by rfl) (by rfl)
theorem w_590 : Cond.methodLink "ExpressionDesk$Expression" 126 (⟨"ExpressionDesk$Expression", "compared", "(I)I"⟩ : MethodName) ∈ hp_T := hp_i3 110 (by rfl) (by rfl)
theorem w_592 : Cond.instanceMethod (⟨"ExpressionDesk$Expression", "compared", "(I)I"⟩ : MethodName) ∈ hp_T := hp_i3 112 (by rfl) (by rfl)
theorem w_593 : Cond.code (⟨"ExpressionDesk$Expression", "compared", "(I)I"⟩ : MethodName) prog_2_method_22_code 5 (Option.some Jvm.ClassFile.FieldType.int) ∈ hp_T := hp_i3 113 (by rfl) (by rfl)
theorem w_594 : Cond.methodLink "ExpressionDesk$Expression" 154 (⟨"ExpressionDesk$Value", "comparedTo", "(LExpressionDesk$Value;)I"⟩ : MethodName) ∈ hp_T := hp_i3 114 (by rfl) (by rfl)
theorem w_595 : Cond.methodLink "ExpressionDesk$Expression" 129 (⟨"ExpressionDesk$Expression", "reckoned", "(I)I"⟩ : MethodName) ∈ hp_T := hp_i3 115 (by rfl) (by rfl)
theorem w_597 : Cond.instanceMethod (⟨"ExpressionDesk$Expression", "reckoned", "(I)I"⟩ : MethodName) ∈ hp_T := hp_i3 117 (by rfl) (by rfl)
theorem w_598 : Cond.code (⟨"ExpressionDesk$Expression", "reckoned", "(I)I"⟩ : MethodName) prog_2_method_23_code 5 (Option.some Jvm.ClassFile.FieldType.int) ∈ hp_T := hp_i3 118 (by rfl) (by rfl)
theorem w_599 : Cond.methodLink "ExpressionDesk$Expression" 164 (⟨"ExpressionDesk$Reckoner", "start", "(ZJI)V"⟩ : MethodName) ∈ hp_T := hp_i3 119 (by rfl) (by rfl)
theorem w_600 : Cond.instanceMethod (⟨"ExpressionDesk$Reckoner", "start", "(ZJI)V"⟩ : MethodName) ∈ hp_T := hp_i3 120 (by rfl) (by rfl)
theorem w_601 : Cond.selects "ExpressionDesk$Reckoner" (⟨"ExpressionDesk$Reckoner", "start", "(ZJI)V"⟩ : MethodName) (⟨"ExpressionDesk$Reckoner", "start", "(ZJI)V"⟩ : MethodName) ∈ hp_T := hp_i3 121 (by rfl) (by rfl)
theorem w_602 : Cond.code (⟨"ExpressionDesk$Reckoner", "start", "(ZJI)V"⟩ : MethodName) prog_4_method_2_code 5 (Option.none : Option Jvm.ClassFile.FieldType) ∈ hp_T := hp_i3 122 (by rfl) (by rfl)
theorem w_603 : Cond.methodLink "ExpressionDesk$Expression" 168 (⟨"ExpressionDesk$Reckoner", "plus", "(ZJI)V"⟩ : MethodName) ∈ hp_T := hp_i3 123 (by rfl) (by rfl)
theorem w_604 : Cond.instanceMethod (⟨"ExpressionDesk$Reckoner", "plus", "(ZJI)V"⟩ : MethodName) ∈ hp_T := hp_i3 124 (by rfl) (by rfl)
theorem w_605 : Cond.selects "ExpressionDesk$Reckoner" (⟨"ExpressionDesk$Reckoner", "plus", "(ZJI)V"⟩ : MethodName) (⟨"ExpressionDesk$Reckoner", "plus", "(ZJI)V"⟩ : MethodName) ∈ hp_T := hp_i3 125 (by rfl) (by rfl)
theorem w_606 : Cond.code (⟨"ExpressionDesk$Reckoner", "plus", "(ZJI)V"⟩ : MethodName) prog_4_method_3_code 9 (Option.none : Option Jvm.ClassFile.FieldType) ∈ hp_T := hp_i3 126 (by rfl) (by rfl)
theorem w_607 : Cond.methodLinkNest "ExpressionDesk$Reckoner" 26 (⟨"ExpressionDesk", "power", "(I)J"⟩ : MethodName) "ExpressionDesk" ∈ hp_Nst := hp_n3 127 (by rfl) (by rfl)
theorem w_608 : Cond.methodLink "ExpressionDesk$Reckoner" 30 (⟨"java/lang/Math", "floorDiv", "(JJ)J"⟩ : MethodName) ∈ hp_T := hp_i3 128 (by rfl) (by rfl)
theorem w_609 : Cond.methodLinkNest "ExpressionDesk$Reckoner" 36 (⟨"ExpressionDesk", "billionths", "(JI)J"⟩ : MethodName) "ExpressionDesk" ∈ hp_Nst := hp_n3 129 (by rfl) (by rfl)
theorem w_610 : Cond.constantLong "ExpressionDesk$Reckoner" 40 1000000000 ∈ hp_T := hp_i3 130 (by rfl) (by rfl)
theorem w_611 : Cond.methodLink "ExpressionDesk$Reckoner" 42 (⟨"ExpressionDesk$Reckoner", "settle", "(ZJJ)V"⟩ : MethodName) ∈ hp_T := hp_i3 131 (by rfl) (by rfl)
theorem w_613 : Cond.instanceMethod (⟨"ExpressionDesk$Reckoner", "settle", "(ZJJ)V"⟩ : MethodName) ∈ hp_T := hp_i3 133 (by rfl) (by rfl)
theorem w_614 : Cond.code (⟨"ExpressionDesk$Reckoner", "settle", "(ZJJ)V"⟩ : MethodName) prog_4_method_6_code 11 (Option.none : Option Jvm.ClassFile.FieldType) ∈ hp_T := hp_i3 134 (by rfl) (by rfl)
theorem w_615 : Cond.constantLong "ExpressionDesk$Reckoner" 54 10 ∈ hp_T := hp_i3 135 (by rfl) (by rfl)
theorem w_616 : Cond.constantLong "ExpressionDesk$Reckoner" 56 999999999999999999 ∈ hp_T := hp_i3 136 (by rfl) (by rfl)
theorem w_617 : Cond.methodLink "ExpressionDesk$Expression" 171 (⟨"ExpressionDesk$Reckoner", "times", "(ZJI)V"⟩ : MethodName) ∈ hp_T := hp_i3 137 (by rfl) (by rfl)
theorem w_618 : Cond.instanceMethod (⟨"ExpressionDesk$Reckoner", "times", "(ZJI)V"⟩ : MethodName) ∈ hp_T := hp_i3 138 (by rfl) (by rfl)
theorem w_619 : Cond.selects "ExpressionDesk$Reckoner" (⟨"ExpressionDesk$Reckoner", "times", "(ZJI)V"⟩ : MethodName) (⟨"ExpressionDesk$Reckoner", "times", "(ZJI)V"⟩ : MethodName) ∈ hp_T := hp_i3 139 (by rfl) (by rfl)
theorem w_620 : Cond.code (⟨"ExpressionDesk$Reckoner", "times", "(ZJI)V"⟩ : MethodName) prog_4_method_4_code 33 (Option.none : Option Jvm.ClassFile.FieldType) ∈ hp_T := hp_i3 140 (by rfl) (by rfl)
theorem w_621 : Cond.methodLink "ExpressionDesk$Reckoner" 46 (⟨"java/lang/Math", "abs", "(J)J"⟩ : MethodName) ∈ hp_T := hp_i3 141 (by rfl) (by rfl)
theorem w_622 : Cond.static (⟨"java/lang/Math", "abs", "(J)J"⟩ : MethodName) ∈ hp_T := hp_i3 142 (by rfl) (by rfl)
theorem w_623 : Cond.code (⟨"java/lang/Math", "abs", "(J)J"⟩ : MethodName) prog_15_method_61_code 2 (Option.some Jvm.ClassFile.FieldType.long) ∈ hp_T := hp_i3 143 (by rfl) (by rfl)
theorem w_624 : Cond.constantLong "ExpressionDesk$Reckoner" 50 500000000 ∈ hp_T := hp_i3 144 (by rfl) (by rfl)
theorem w_625 : Cond.methodLink "ExpressionDesk$Expression" 174 (⟨"ExpressionDesk$Reckoner", "over", "(JI)V"⟩ : MethodName) ∈ hp_T := hp_i3 145 (by rfl) (by rfl)
theorem w_626 : Cond.instanceMethod (⟨"ExpressionDesk$Reckoner", "over", "(JI)V"⟩ : MethodName) ∈ hp_T := hp_i3 146 (by rfl) (by rfl)
theorem w_627 : Cond.selects "ExpressionDesk$Reckoner" (⟨"ExpressionDesk$Reckoner", "over", "(JI)V"⟩ : MethodName) (⟨"ExpressionDesk$Reckoner", "over", "(JI)V"⟩ : MethodName) ∈ hp_T := hp_i3 147 (by rfl) (by rfl)
theorem w_628 : Cond.code (⟨"ExpressionDesk$Reckoner", "over", "(JI)V"⟩ : MethodName) prog_4_method_5_code 20 (Option.none : Option Jvm.ClassFile.FieldType) ∈ hp_T := hp_i3 148 (by rfl) (by rfl)
theorem w_629 : Cond.constantLong "ExpressionDesk$Reckoner" 52 100000000000000000 ∈ hp_T := hp_i3 149 (by rfl) (by rfl)
theorem w_630 : Cond.methodLink "ExpressionDesk$Expression" 178 (⟨"ExpressionDesk$Store", "keepReckoned", "(LExpressionDesk$Reckoner;)I"⟩ : MethodName) ∈ hp_T := hp_i3 150 (by rfl) (by rfl)
theorem w_631 : Cond.instanceMethod (⟨"ExpressionDesk$Store", "keepReckoned", "(LExpressionDesk$Reckoner;)I"⟩ : MethodName) ∈ hp_T := hp_i3 151 (by rfl) (by rfl)
theorem w_632 : Cond.selects "ExpressionDesk$Store" (⟨"ExpressionDesk$Store", "keepReckoned", "(LExpressionDesk$Reckoner;)I"⟩ : MethodName) (⟨"ExpressionDesk$Store", "keepReckoned", "(LExpressionDesk$Reckoner;)I"⟩ : MethodName) ∈ hp_T := hp_i3 152 (by rfl) (by rfl)
theorem w_633 : Cond.code (⟨"ExpressionDesk$Store", "keepReckoned", "(LExpressionDesk$Reckoner;)I"⟩ : MethodName) prog_6_method_8_code 2 (Option.some Jvm.ClassFile.FieldType.int) ∈ hp_T := hp_i3 153 (by rfl) (by rfl)
theorem w_634 : Cond.methodLink "ExpressionDesk$Store" 74 (⟨"ExpressionDesk$Store", "keepNumber", "(IJI)I"⟩ : MethodName) ∈ hp_T := hp_i3 154 (by rfl) (by rfl)
theorem w_635 : Cond.methodLink "ExpressionDesk$Expression" 132 (⟨"ExpressionDesk$Expression", "ofNumber", "(I)I"⟩ : MethodName) ∈ hp_T := hp_i3 155 (by rfl) (by rfl)
theorem w_637 : Cond.instanceMethod (⟨"ExpressionDesk$Expression", "ofNumber", "(I)I"⟩ : MethodName) ∈ hp_T := hp_i3 157 (by rfl) (by rfl)
theorem w_638 : Cond.code (⟨"ExpressionDesk$Expression", "ofNumber", "(I)I"⟩ : MethodName) prog_2_method_24_code 9 (Option.some Jvm.ClassFile.FieldType.int) ∈ hp_T := hp_i3 158 (by rfl) (by rfl)
theorem w_639 : Cond.methodLinkNest "ExpressionDesk$Expression" 182 (⟨"ExpressionDesk", "power", "(I)J"⟩ : MethodName) "ExpressionDesk" ∈ hp_Nst := hp_n3 159 (by rfl) (by rfl)
theorem w_640 : Cond.methodLink "ExpressionDesk$Expression" 186 (⟨"java/lang/Math", "floorDiv", "(JJ)J"⟩ : MethodName) ∈ hp_T := hp_i3 160 (by rfl) (by rfl)
theorem w_641 : Cond.methodLink "ExpressionDesk$Expression" 192 (⟨"java/lang/Math", "floorMod", "(JJ)J"⟩ : MethodName) ∈ hp_T := hp_i3 161 (by rfl) (by rfl)
theorem w_642 : Cond.methodLink "ExpressionDesk$Expression" 195 (⟨"ExpressionDesk$Store", "keepNumber", "(IJI)I"⟩ : MethodName) ∈ hp_T := hp_i3 162 (by rfl) (by rfl)
theorem w_643 : Cond.methodLink "ExpressionDesk$Expression" 199 (⟨"java/lang/Math", "abs", "(J)J"⟩ : MethodName) ∈ hp_T := hp_i3 163 (by rfl) (by rfl)
theorem w_644 : Cond.constantLong "ExpressionDesk$Expression" 203 2 ∈ hp_T := hp_i3 164 (by rfl) (by rfl)
theorem w_645 : Cond.methodLink "ExpressionDesk$Expression" 135 (⟨"ExpressionDesk$Expression", "chained", "(I)I"⟩ : MethodName) ∈ hp_T := hp_i3 165 (by rfl) (by rfl)
theorem w_647 : Cond.instanceMethod (⟨"ExpressionDesk$Expression", "chained", "(I)I"⟩ : MethodName) ∈ hp_T := hp_i3 167 (by rfl) (by rfl)
theorem w_648 : Cond.code (⟨"ExpressionDesk$Expression", "chained", "(I)I"⟩ : MethodName) prog_2_method_25_code 6 (Option.some Jvm.ClassFile.FieldType.int) ∈ hp_T := hp_i3 168 (by rfl) (by rfl)
theorem w_649 : Cond.methodLink "ExpressionDesk$Expression" 205 (⟨"ExpressionDesk$Row", "clear", "()V"⟩ : MethodName) ∈ hp_T := hp_i3 169 (by rfl) (by rfl)
theorem w_650 : Cond.methodLink "ExpressionDesk$Expression" 211 (⟨"ExpressionDesk$Value", "isPlainOrTagged", "()Z"⟩ : MethodName) ∈ hp_T := hp_i3 170 (by rfl) (by rfl)
theorem w_651 : Cond.instanceMethod (⟨"ExpressionDesk$Value", "isPlainOrTagged", "()Z"⟩ : MethodName) ∈ hp_T := hp_i3 171 (by rfl) (by rfl)
theorem w_652 : Cond.selects "ExpressionDesk$Value" (⟨"ExpressionDesk$Value", "isPlainOrTagged", "()Z"⟩ : MethodName) (⟨"ExpressionDesk$Value", "isPlainOrTagged", "()Z"⟩ : MethodName) ∈ hp_T := hp_i3 172 (by rfl) (by rfl)
theorem w_653 : Cond.code (⟨"ExpressionDesk$Value", "isPlainOrTagged", "()Z"⟩ : MethodName) prog_7_method_3_code 1 (Option.some Jvm.ClassFile.FieldType.boolean) ∈ hp_T := hp_i3 173 (by rfl) (by rfl)
theorem w_654 : Cond.methodLink "ExpressionDesk$Expression" 218 (⟨"ExpressionDesk$Row", "putPart", "([BII)V"⟩ : MethodName) ∈ hp_T := hp_i3 174 (by rfl) (by rfl)
theorem w_655 : Cond.instanceMethod (⟨"ExpressionDesk$Row", "putPart", "([BII)V"⟩ : MethodName) ∈ hp_T := hp_i3 175 (by rfl) (by rfl)
theorem w_656 : Cond.selects "ExpressionDesk$Row" (⟨"ExpressionDesk$Row", "putPart", "([BII)V"⟩ : MethodName) (⟨"ExpressionDesk$Row", "putPart", "([BII)V"⟩ : MethodName) ∈ hp_T := hp_i3 176 (by rfl) (by rfl)
theorem w_657 : Cond.code (⟨"ExpressionDesk$Row", "putPart", "([BII)V"⟩ : MethodName) prog_5_method_4_code 5 (Option.none : Option Jvm.ClassFile.FieldType) ∈ hp_T := hp_i3 177 (by rfl) (by rfl)
theorem w_658 : Cond.methodLink "ExpressionDesk$Row" 23 (⟨"java/lang/Math", "max", "(II)I"⟩ : MethodName) ∈ hp_T := hp_i3 178 (by rfl) (by rfl)
theorem w_659 : Cond.methodLink "ExpressionDesk$Row" 29 (⟨"ExpressionDesk$Row", "put", "(I)V"⟩ : MethodName) ∈ hp_T := hp_i3 179 (by rfl) (by rfl)
theorem w_660 : Cond.methodLink "ExpressionDesk$Expression" 222 (⟨"ExpressionDesk$Store", "keepRow", "(IILExpressionDesk$Row;)I"⟩ : MethodName) ∈ hp_T := hp_i3 180 (by rfl) (by rfl)
theorem w_661 : Cond.methodLink "ExpressionDesk$Expression" 138 (⟨"ExpressionDesk$Expression", "ofText", "(I)I"⟩ : MethodName) ∈ hp_T := hp_i3 181 (by rfl) (by rfl)
theorem w_663 : Cond.instanceMethod (⟨"ExpressionDesk$Expression", "ofText", "(I)I"⟩ : MethodName) ∈ hp_T := hp_i3 183 (by rfl) (by rfl)
theorem w_664 : Cond.code (⟨"ExpressionDesk$Expression", "ofText", "(I)I"⟩ : MethodName) prog_2_method_26_code 3 (Option.some Jvm.ClassFile.FieldType.int) ∈ hp_T := hp_i3 184 (by rfl) (by rfl)
theorem w_665 : Cond.methodLink "ExpressionDesk$Expression" 226 (⟨"ExpressionDesk$Expression", "part", "(LExpressionDesk$Value;LExpressionDesk$Value;LExpressionDesk$Value;)I"⟩ : MethodName) ∈ hp_T := hp_i3 185 (by rfl) (by rfl)
theorem w_667 : Cond.instanceMethod (⟨"ExpressionDesk$Expression", "part", "(LExpressionDesk$Value;LExpressionDesk$Value;LExpressionDesk$Value;)I"⟩ : MethodName) ∈ hp_T := hp_i3 187 (by rfl) (by rfl)
theorem w_668 : Cond.code (⟨"ExpressionDesk$Expression", "part", "(LExpressionDesk$Value;LExpressionDesk$Value;LExpressionDesk$Value;)I"⟩ : MethodName) prog_2_method_27_code 8 (Option.some Jvm.ClassFile.FieldType.int) ∈ hp_T := hp_i3 188 (by rfl) (by rfl)
theorem w_669 : Cond.methodLink "ExpressionDesk$Expression" 234 (⟨"java/lang/Math", "max", "(JJ)J"⟩ : MethodName) ∈ hp_T := hp_i3 189 (by rfl) (by rfl)
theorem w_670 : Cond.static (⟨"java/lang/Math", "max", "(JJ)J"⟩ : MethodName) ∈ hp_T := hp_i3 190 (by rfl) (by rfl)
theorem w_671 : Cond.code (⟨"java/lang/Math", "max", "(JJ)J"⟩ : MethodName) prog_15_method_66_code 4 (Option.some Jvm.ClassFile.FieldType.long) ∈ hp_T := hp_i3 191 (by rfl) (by rfl)
theorem w_672 : Cond.methodLink "ExpressionDesk$Expression" 237 (⟨"java/lang/Math", "min", "(JJ)J"⟩ : MethodName) ∈ hp_T := hp_i3 192 (by rfl) (by rfl)
theorem w_673 : Cond.static (⟨"java/lang/Math", "min", "(JJ)J"⟩ : MethodName) ∈ hp_T := hp_i3 193 (by rfl) (by rfl)
theorem w_674 : Cond.code (⟨"java/lang/Math", "min", "(JJ)J"⟩ : MethodName) prog_15_method_70_code 4 (Option.some Jvm.ClassFile.FieldType.long) ∈ hp_T := hp_i3 194 (by rfl) (by rfl)
theorem w_675 : Cond.methodLink "ExpressionDesk$Expression" 230 (⟨"ExpressionDesk$Expression", "turned", "(LExpressionDesk$Value;III)I"⟩ : MethodName) ∈ hp_T := hp_i3 195 (by rfl) (by rfl)
theorem w_677 : Cond.instanceMethod (⟨"ExpressionDesk$Expression", "turned", "(LExpressionDesk$Value;III)I"⟩ : MethodName) ∈ hp_T := hp_i3 197 (by rfl) (by rfl)
theorem w_678 : Cond.code (⟨"ExpressionDesk$Expression", "turned", "(LExpressionDesk$Value;III)I"⟩ : MethodName) prog_2_method_28_code 7 (Option.some Jvm.ClassFile.FieldType.int) ∈ hp_T := hp_i3 198 (by rfl) (by rfl)
theorem w_679 : Cond.methodLink "ExpressionDesk$Expression" 240 (⟨"ExpressionDesk$Row", "put", "(I)V"⟩ : MethodName) ∈ hp_T := hp_i3 199 (by rfl) (by rfl)
theorem w_680 : Cond.methodLink "ExpressionDesk$Expression" 141 (⟨"ExpressionDesk$Expression", "searched", "(I)I"⟩ : MethodName) ∈ hp_T := hp_i3 200 (by rfl) (by rfl)
theorem w_682 : Cond.instanceMethod (⟨"ExpressionDesk$Expression", "searched", "(I)I"⟩ : MethodName) ∈ hp_T := hp_i3 202 (by rfl) (by rfl)
theorem w_683 : Cond.code (⟨"ExpressionDesk$Expression", "searched", "(I)I"⟩ : MethodName) prog_2_method_29_code 7 (Option.some Jvm.ClassFile.FieldType.int) ∈ hp_T := hp_i3 203 (by rfl) (by rfl)
theorem w_684 : Cond.methodLink "ExpressionDesk$Expression" 244 (⟨"ExpressionDesk$Expression", "firstPlace", "([B[B)I"⟩ : MethodName) ∈ hp_T := hp_i3 204 (by rfl) (by rfl)
theorem w_685 : Cond.static (⟨"ExpressionDesk$Expression", "firstPlace", "([B[B)I"⟩ : MethodName) ∈ hp_T := hp_i3 205 (by rfl) (by rfl)
theorem w_686 : Cond.code (⟨"ExpressionDesk$Expression", "firstPlace", "([B[B)I"⟩ : MethodName) prog_2_method_31_code 3 (Option.some Jvm.ClassFile.FieldType.int) ∈ hp_T := hp_i3 206 (by rfl) (by rfl)
theorem w_687 : Cond.methodLink "ExpressionDesk$Expression" 248 (⟨"ExpressionDesk$Expression", "isAt", "([B[BI)Z"⟩ : MethodName) ∈ hp_T := hp_i3 207 (by rfl) (by rfl)
theorem w_688 : Cond.static (⟨"ExpressionDesk$Expression", "isAt", "([B[BI)Z"⟩ : MethodName) ∈ hp_T := hp_i3 208 (by rfl) (by rfl)
theorem w_689 : Cond.code (⟨"ExpressionDesk$Expression", "isAt", "([B[BI)Z"⟩ : MethodName) prog_2_method_32_code 4 (Option.some Jvm.ClassFile.FieldType.boolean) ∈ hp_T := hp_i3 209 (by rfl) (by rfl)
theorem w_690 : Cond.methodLink "ExpressionDesk$Expression" 252 (⟨"ExpressionDesk$Expression", "cut", "(LExpressionDesk$Value;III)I"⟩ : MethodName) ∈ hp_T := hp_i3 210 (by rfl) (by rfl)
theorem w_692 : Cond.instanceMethod (⟨"ExpressionDesk$Expression", "cut", "(LExpressionDesk$Value;III)I"⟩ : MethodName) ∈ hp_T := hp_i3 212 (by rfl) (by rfl)
theorem w_693 : Cond.code (⟨"ExpressionDesk$Expression", "cut", "(LExpressionDesk$Value;III)I"⟩ : MethodName) prog_2_method_30_code 5 (Option.some Jvm.ClassFile.FieldType.int) ∈ hp_T := hp_i3 213 (by rfl) (by rfl)
theorem w_694 : Cond.methodLink "ExpressionDesk$Expression" 144 (⟨"ExpressionDesk$Expression", "ofAny", "(I)I"⟩ : MethodName) ∈ hp_T := hp_i3 214 (by rfl) (by rfl)
theorem w_696 : Cond.instanceMethod (⟨"ExpressionDesk$Expression", "ofAny", "(I)I"⟩ : MethodName) ∈ hp_T := hp_i3 216 (by rfl) (by rfl)
theorem w_697 : Cond.code (⟨"ExpressionDesk$Expression", "ofAny", "(I)I"⟩ : MethodName) prog_2_method_33_code 3 (Option.some Jvm.ClassFile.FieldType.int) ∈ hp_T := hp_i3 217 (by rfl) (by rfl)
theorem w_698 : Cond.methodLink "ExpressionDesk$Expression" 255 (⟨"ExpressionDesk$Row", "putString", "(LExpressionDesk$Value;)Z"⟩ : MethodName) ∈ hp_T := hp_i3 218 (by rfl) (by rfl)
theorem w_699 : Cond.instanceMethod (⟨"ExpressionDesk$Row", "putString", "(LExpressionDesk$Value;)Z"⟩ : MethodName) ∈ hp_T := hp_i3 219 (by rfl) (by rfl)
theorem w_700 : Cond.selects "ExpressionDesk$Row" (⟨"ExpressionDesk$Row", "putString", "(LExpressionDesk$Value;)Z"⟩ : MethodName) (⟨"ExpressionDesk$Row", "putString", "(LExpressionDesk$Value;)Z"⟩ : MethodName) ∈ hp_T := hp_i3 220 (by rfl) (by rfl)
theorem w_701 : Cond.code (⟨"ExpressionDesk$Row", "putString", "(LExpressionDesk$Value;)Z"⟩ : MethodName) prog_5_method_7_code 4 (Option.some Jvm.ClassFile.FieldType.boolean) ∈ hp_T := hp_i3 221 (by rfl) (by rfl)
theorem w_702 : Cond.methodLink "ExpressionDesk$Row" 60 (⟨"java/lang/Math", "abs", "(J)J"⟩ : MethodName) ∈ hp_T := hp_i3 222 (by rfl) (by rfl)
theorem w_703 : Cond.methodLink "ExpressionDesk$Row" 70 (⟨"ExpressionDesk$Row", "putDigits", "(JI)V"⟩ : MethodName) ∈ hp_T := hp_i3 223 (by rfl) (by rfl)
theorem w_704 : Cond.instanceMethod (⟨"ExpressionDesk$Row", "putDigits", "(JI)V"⟩ : MethodName) ∈ hp_T := hp_i3 224 (by rfl) (by rfl)
theorem w_705 : Cond.selects "ExpressionDesk$Row" (⟨"ExpressionDesk$Row", "putDigits", "(JI)V"⟩ : MethodName) (⟨"ExpressionDesk$Row", "putDigits", "(JI)V"⟩ : MethodName) ∈ hp_T := hp_i3 225 (by rfl) (by rfl)
theorem w_706 : Cond.code (⟨"ExpressionDesk$Row", "putDigits", "(JI)V"⟩ : MethodName) prog_5_method_6_code 8 (Option.none : Option Jvm.ClassFile.FieldType) ∈ hp_T := hp_i3 226 (by rfl) (by rfl)
theorem w_707 : Cond.fieldLinkNest "ExpressionDesk$Row" 42 "ExpressionDesk" "POWERS" "[J" "ExpressionDesk" ∈ hp_Nst := hp_n3 227 (by rfl) (by rfl)
theorem w_708 : Cond.methodLinkNest "ExpressionDesk$Row" 46 (⟨"ExpressionDesk", "power", "(I)J"⟩ : MethodName) "ExpressionDesk" ∈ hp_Nst := hp_n3 228 (by rfl) (by rfl)
theorem w_709 : Cond.constantLong "ExpressionDesk$Row" 50 10 ∈ hp_T := hp_i3 229 (by rfl) (by rfl)
theorem w_710 : Cond.constantLong "ExpressionDesk$Row" 52 48 ∈ hp_T := hp_i3 230 (by rfl) (by rfl)
theorem w_711 : Cond.methodLink "ExpressionDesk$Row" 78 (⟨"ExpressionDesk$Row", "putPart", "([BII)V"⟩ : MethodName) ∈ hp_T := hp_i3 231 (by rfl) (by rfl)
theorem w_718 : Cond.methodLink "ExpressionDesk$Row" 33 (⟨"java/lang/String", "length", "()I"⟩ : MethodName) ∈ hp_T := hp_i3 238 (by rfl) (by rfl)
theorem w_721 : Cond.code (⟨"java/lang/String", "length", "()I"⟩ : MethodName) prog_16_method_54_code 1 (Option.some Jvm.ClassFile.FieldType.int) ∈ hp_T := hp_i4 1 (by rfl) (by rfl)
theorem w_732 : Cond.methodLink "java/lang/String" 492 (⟨"java/lang/String", "isLatin1", "()Z"⟩ : MethodName) ∈ hp_T := hp_i4 12 (by rfl) (by rfl)
theorem w_735 : Cond.code (⟨"java/lang/String", "isLatin1", "()Z"⟩ : MethodName) prog_16_method_154_code 1 (Option.some Jvm.ClassFile.FieldType.boolean) ∈ hp_T := hp_i4 15 (by rfl) (by rfl)
theorem w_739 : Cond.methodLink "java/lang/StringLatin1" 9 (⟨"java/lang/String", "checkIndex", "(II)V"⟩ : MethodName) ∈ hp_T := hp_i4 19 (by rfl) (by rfl)
theorem w_740 : Cond.static (⟨"java/lang/String", "checkIndex", "(II)V"⟩ : MethodName) ∈ hp_T := hp_i4 20 (by rfl) (by rfl)
theorem w_741 : Cond.code (⟨"java/lang/String", "checkIndex", "(II)V"⟩ : MethodName) prog_16_method_155_code 2 (Option.none : Option Jvm.ClassFile.FieldType) ∈ hp_T := hp_i4 21 (by rfl) (by rfl)
theorem w_748 : Cond.methodLink "java/lang/StringUTF16" 67 (⟨"java/lang/StringUTF16", "checkIndex", "(I[B)V"⟩ : MethodName) ∈ hp_T := hp_i4 28 (by rfl) (by rfl)
theorem w_749 : Cond.static (⟨"java/lang/StringUTF16", "checkIndex", "(I[B)V"⟩ : MethodName) ∈ hp_T := hp_i4 29 (by rfl) (by rfl)
theorem w_750 : Cond.code (⟨"java/lang/StringUTF16", "checkIndex", "(I[B)V"⟩ : MethodName) prog_18_method_91_code 2 (Option.none : Option Jvm.ClassFile.FieldType) ∈ hp_T := hp_i4 30 (by rfl) (by rfl)
theorem w_751 : Cond.methodLink "java/lang/StringUTF16" 48 (⟨"java/lang/StringUTF16", "length", "([B)I"⟩ : MethodName) ∈ hp_T := hp_i4 31 (by rfl) (by rfl)
theorem w_752 : Cond.static (⟨"java/lang/StringUTF16", "length", "([B)I"⟩ : MethodName) ∈ hp_T := hp_i4 32 (by rfl) (by rfl)
theorem w_753 : Cond.code (⟨"java/lang/StringUTF16", "length", "([B)I"⟩ : MethodName) prog_18_method_6_code 1 (Option.some Jvm.ClassFile.FieldType.int) ∈ hp_T := hp_i4 33 (by rfl) (by rfl)
theorem w_754 : Cond.methodLink "java/lang/StringUTF16" 414 (⟨"java/lang/String", "checkIndex", "(II)V"⟩ : MethodName) ∈ hp_T := hp_i4 34 (by rfl) (by rfl)
theorem w_755 : Cond.methodLink "java/lang/StringUTF16" 71 (⟨"java/lang/StringUTF16", "getChar", "([BI)C"⟩ : MethodName) ∈ hp_T := hp_i4 35 (by rfl) (by rfl)
theorem w_756 : Cond.static (⟨"java/lang/StringUTF16", "getChar", "([BI)C"⟩ : MethodName) ∈ hp_T := hp_i4 36 (by rfl) (by rfl)
theorem w_757 : Cond.code (⟨"java/lang/StringUTF16", "getChar", "([BI)C"⟩ : MethodName) prog_18_method_5_code 2 (Option.some Jvm.ClassFile.FieldType.char) ∈ hp_T := hp_i4 37 (by rfl) (by rfl)
theorem w_764 : Cond.methodLink "ExpressionDesk$Expression" 259 (⟨"ExpressionDesk$Expression", "tagText", "(LExpressionDesk$Value;)I"⟩ : MethodName) ∈ hp_T := hp_i4 44 (by rfl) (by rfl)
theorem w_766 : Cond.instanceMethod (⟨"ExpressionDesk$Expression", "tagText", "(LExpressionDesk$Value;)I"⟩ : MethodName) ∈ hp_T := hp_i4 46 (by rfl) (by rfl)
theorem w_767 : Cond.code (⟨"ExpressionDesk$Expression", "tagText", "(LExpressionDesk$Value;)I"⟩ : MethodName) prog_2_method_34_code 2 (Option.some Jvm.ClassFile.FieldType.int) ∈ hp_T := hp_i4 47 (by rfl) (by rfl)
theorem w_768 : Cond.methodLink "ExpressionDesk$Expression" 265 (⟨"ExpressionDesk$Row", "putDigits", "(JI)V"⟩ : MethodName) ∈ hp_T := hp_i4 48 (by rfl) (by rfl)
theorem w_769 : Cond.methodLink "ExpressionDesk$Expression" 262 (⟨"ExpressionDesk$Expression", "typeName", "(LExpressionDesk$Value;)I"⟩ : MethodName) ∈ hp_T := hp_i4 49 (by rfl) (by rfl)
theorem w_771 : Cond.instanceMethod (⟨"ExpressionDesk$Expression", "typeName", "(LExpressionDesk$Value;)I"⟩ : MethodName) ∈ hp_T := hp_i4 51 (by rfl) (by rfl)
theorem w_772 : Cond.code (⟨"ExpressionDesk$Expression", "typeName", "(LExpressionDesk$Value;)I"⟩ : MethodName) prog_2_method_35_code 2 (Option.some Jvm.ClassFile.FieldType.int) ∈ hp_T := hp_i4 52 (by rfl) (by rfl)
theorem w_773 : Cond.fieldLink "ExpressionDesk$Expression" 268 "ExpressionDesk$Expression" "TYPE_NAMES" "[I" ∈ hp_T := hp_i4 53 (by rfl) (by rfl)
theorem w_775 : Cond.methodLink "ExpressionDesk$Expression" 271 (⟨"ExpressionDesk$Store", "keepNumbered", "(II)I"⟩ : MethodName) ∈ hp_T := hp_i4 55 (by rfl) (by rfl)
theorem w_776 : Cond.methodLink "ExpressionDeskLaw" 82 (⟨"ExpressionDesk", "test", "()I"⟩ : MethodName) ∈ hp_T := hp_i4 56 (by rfl) (by rfl)
theorem w_777 : Cond.instanceMethod (⟨"ExpressionDesk", "test", "()I"⟩ : MethodName) ∈ hp_T := hp_i4 57 (by rfl) (by rfl)
theorem w_778 : Cond.selects "ExpressionDesk" (⟨"ExpressionDesk", "test", "()I"⟩ : MethodName) (⟨"ExpressionDesk", "test", "()I"⟩ : MethodName) ∈ hp_T := hp_i4 58 (by rfl) (by rfl)
theorem w_779 : Cond.code (⟨"ExpressionDesk", "test", "()I"⟩ : MethodName) prog_1_method_17_code 2 (Option.some Jvm.ClassFile.FieldType.int) ∈ hp_T := hp_i4 59 (by rfl) (by rfl)
theorem w_780 : Cond.methodLink "ExpressionDesk" 123 (⟨"ExpressionDesk$Value", "truthOf", "()I"⟩ : MethodName) ∈ hp_T := hp_i4 60 (by rfl) (by rfl)
theorem w_781 : Cond.methodLink "ExpressionDeskLaw" 86 (⟨"ExpressionDesk", "gather", "(IZI)I"⟩ : MethodName) ∈ hp_T := hp_i4 61 (by rfl) (by rfl)
theorem w_782 : Cond.instanceMethod (⟨"ExpressionDesk", "gather", "(IZI)I"⟩ : MethodName) ∈ hp_T := hp_i4 62 (by rfl) (by rfl)
theorem w_783 : Cond.selects "ExpressionDesk" (⟨"ExpressionDesk", "gather", "(IZI)I"⟩ : MethodName) (⟨"ExpressionDesk", "gather", "(IZI)I"⟩ : MethodName) ∈ hp_T := hp_i4 63 (by rfl) (by rfl)
theorem w_784 : Cond.code (⟨"ExpressionDesk", "gather", "(IZI)I"⟩ : MethodName) prog_1_method_18_code 4 (Option.some Jvm.ClassFile.FieldType.int) ∈ hp_T := hp_i4 64 (by rfl) (by rfl)
theorem w_785 : Cond.methodLink "ExpressionDesk" 126 (⟨"ExpressionDesk$Gathering", "restart", "(IZI)I"⟩ : MethodName) ∈ hp_T := hp_i4 65 (by rfl) (by rfl)
theorem w_786 : Cond.instanceMethod (⟨"ExpressionDesk$Gathering", "restart", "(IZI)I"⟩ : MethodName) ∈ hp_T := hp_i4 66 (by rfl) (by rfl)
theorem w_787 : Cond.selects "ExpressionDesk$Gathering" (⟨"ExpressionDesk$Gathering", "restart", "(IZI)I"⟩ : MethodName) (⟨"ExpressionDesk$Gathering", "restart", "(IZI)I"⟩ : MethodName) ∈ hp_T := hp_i4 67 (by rfl) (by rfl)
theorem w_788 : Cond.code (⟨"ExpressionDesk$Gathering", "restart", "(IZI)I"⟩ : MethodName) prog_3_method_2_code 4 (Option.some Jvm.ClassFile.FieldType.int) ∈ hp_T := hp_i4 68 (by rfl) (by rfl)
theorem w_789 : Cond.methodLink "ExpressionDesk$Gathering" 40 (⟨"ExpressionDesk$Store", "at", "(I)LExpressionDesk$Value;"⟩ : MethodName) ∈ hp_T := hp_i4 69 (by rfl) (by rfl)
theorem w_790 : Cond.methodLink "ExpressionDeskLaw" 91 (⟨"ExpressionDesk", "add", "(I)I"⟩ : MethodName) ∈ hp_T := hp_i4 70 (by rfl) (by rfl)
theorem w_791 : Cond.instanceMethod (⟨"ExpressionDesk", "add", "(I)I"⟩ : MethodName) ∈ hp_T := hp_i4 71 (by rfl) (by rfl)
theorem w_792 : Cond.selects "ExpressionDesk" (⟨"ExpressionDesk", "add", "(I)I"⟩ : MethodName) (⟨"ExpressionDesk", "add", "(I)I"⟩ : MethodName) ∈ hp_T := hp_i4 72 (by rfl) (by rfl)
theorem w_793 : Cond.code (⟨"ExpressionDesk", "add", "(I)I"⟩ : MethodName) prog_1_method_19_code 2 (Option.some Jvm.ClassFile.FieldType.int) ∈ hp_T := hp_i4 73 (by rfl) (by rfl)
theorem w_794 : Cond.methodLink "ExpressionDesk" 129 (⟨"ExpressionDesk$Gathering", "take", "(I)I"⟩ : MethodName) ∈ hp_T := hp_i4 74 (by rfl) (by rfl)
theorem w_795 : Cond.instanceMethod (⟨"ExpressionDesk$Gathering", "take", "(I)I"⟩ : MethodName) ∈ hp_T := hp_i4 75 (by rfl) (by rfl)
theorem w_796 : Cond.selects "ExpressionDesk$Gathering" (⟨"ExpressionDesk$Gathering", "take", "(I)I"⟩ : MethodName) (⟨"ExpressionDesk$Gathering", "take", "(I)I"⟩ : MethodName) ∈ hp_T := hp_i4 76 (by rfl) (by rfl)
theorem w_797 : Cond.code (⟨"ExpressionDesk$Gathering", "take", "(I)I"⟩ : MethodName) prog_3_method_3_code 2 (Option.some Jvm.ClassFile.FieldType.int) ∈ hp_T := hp_i4 77 (by rfl) (by rfl)
theorem w_798 : Cond.methodLink "ExpressionDesk$Gathering" 61 (⟨"ExpressionDesk$Store", "count", "()I"⟩ : MethodName) ∈ hp_T := hp_i4 78 (by rfl) (by rfl)
theorem w_799 : Cond.methodLink "ExpressionDesk$Gathering" 64 (⟨"ExpressionDesk$Gathering", "isThere", "(I)Z"⟩ : MethodName) ∈ hp_T := hp_i4 79 (by rfl) (by rfl)
theorem w_801 : Cond.instanceMethod (⟨"ExpressionDesk$Gathering", "isThere", "(I)Z"⟩ : MethodName) ∈ hp_T := hp_i4 81 (by rfl) (by rfl)
theorem w_802 : Cond.code (⟨"ExpressionDesk$Gathering", "isThere", "(I)Z"⟩ : MethodName) prog_3_method_4_code 3 (Option.some Jvm.ClassFile.FieldType.boolean) ∈ hp_T := hp_i4 82 (by rfl) (by rfl)
theorem w_803 : Cond.methodLink "ExpressionDeskLaw" 96 (⟨"ExpressionDesk", "together", "()I"⟩ : MethodName) ∈ hp_T := hp_i4 83 (by rfl) (by rfl)
theorem w_804 : Cond.instanceMethod (⟨"ExpressionDesk", "together", "()I"⟩ : MethodName) ∈ hp_T := hp_i4 84 (by rfl) (by rfl)
theorem w_805 : Cond.selects "ExpressionDesk" (⟨"ExpressionDesk", "together", "()I"⟩ : MethodName) (⟨"ExpressionDesk", "together", "()I"⟩ : MethodName) ∈ hp_T := hp_i4 85 (by rfl) (by rfl)
theorem w_806 : Cond.code (⟨"ExpressionDesk", "together", "()I"⟩ : MethodName) prog_1_method_20_code 1 (Option.some Jvm.ClassFile.FieldType.int) ∈ hp_T := hp_i4 86 (by rfl) (by rfl)
theorem w_807 : Cond.methodLink "ExpressionDesk" 133 (⟨"ExpressionDesk$Gathering", "answer", "()I"⟩ : MethodName) ∈ hp_T := hp_i4 87 (by rfl) (by rfl)
theorem w_808 : Cond.instanceMethod (⟨"ExpressionDesk$Gathering", "answer", "()I"⟩ : MethodName) ∈ hp_T := hp_i4 88 (by rfl) (by rfl)
theorem w_809 : Cond.selects "ExpressionDesk$Gathering" (⟨"ExpressionDesk$Gathering", "answer", "()I"⟩ : MethodName) (⟨"ExpressionDesk$Gathering", "answer", "()I"⟩ : MethodName) ∈ hp_T := hp_i4 89 (by rfl) (by rfl)
theorem w_810 : Cond.code (⟨"ExpressionDesk$Gathering", "answer", "()I"⟩ : MethodName) prog_3_method_5_code 1 (Option.some Jvm.ClassFile.FieldType.int) ∈ hp_T := hp_i4 90 (by rfl) (by rfl)
theorem w_811 : Cond.methodLink "ExpressionDesk$Gathering" 68 (⟨"ExpressionDesk$Gathering", "countGood", "()I"⟩ : MethodName) ∈ hp_T := hp_i4 91 (by rfl) (by rfl)
theorem w_813 : Cond.instanceMethod (⟨"ExpressionDesk$Gathering", "countGood", "()I"⟩ : MethodName) ∈ hp_T := hp_i4 93 (by rfl) (by rfl)
theorem w_814 : Cond.code (⟨"ExpressionDesk$Gathering", "countGood", "()I"⟩ : MethodName) prog_3_method_6_code 3 (Option.some Jvm.ClassFile.FieldType.int) ∈ hp_T := hp_i4 94 (by rfl) (by rfl)
theorem w_815 : Cond.methodLink "ExpressionDesk$Gathering" 71 (⟨"ExpressionDesk$Store", "keepNumber", "(IJI)I"⟩ : MethodName) ∈ hp_T := hp_i4 95 (by rfl) (by rfl)
theorem w_816 : Cond.methodLink "ExpressionDesk$Gathering" 75 (⟨"ExpressionDesk$Gathering", "reckonSum", "()V"⟩ : MethodName) ∈ hp_T := hp_i4 96 (by rfl) (by rfl)
theorem w_818 : Cond.instanceMethod (⟨"ExpressionDesk$Gathering", "reckonSum", "()V"⟩ : MethodName) ∈ hp_T := hp_i4 98 (by rfl) (by rfl)
theorem w_819 : Cond.code (⟨"ExpressionDesk$Gathering", "reckonSum", "()V"⟩ : MethodName) prog_3_method_7_code 3 (Option.none : Option Jvm.ClassFile.FieldType) ∈ hp_T := hp_i4 99 (by rfl) (by rfl)
theorem w_820 : Cond.methodLink "ExpressionDesk$Gathering" 93 (⟨"ExpressionDesk$Reckoner", "start", "(ZJI)V"⟩ : MethodName) ∈ hp_T := hp_i4 100 (by rfl) (by rfl)
theorem w_821 : Cond.methodLink "ExpressionDesk$Gathering" 100 (⟨"ExpressionDesk$Value", "isNumber", "()Z"⟩ : MethodName) ∈ hp_T := hp_i4 101 (by rfl) (by rfl)
theorem w_822 : Cond.methodLink "ExpressionDesk$Gathering" 111 (⟨"ExpressionDesk$Reckoner", "plus", "(ZJI)V"⟩ : MethodName) ∈ hp_T := hp_i4 102 (by rfl) (by rfl)
theorem w_823 : Cond.methodLink "ExpressionDesk$Gathering" 78 (⟨"ExpressionDesk$Store", "keepReckoned", "(LExpressionDesk$Reckoner;)I"⟩ : MethodName) ∈ hp_T := hp_i4 103 (by rfl) (by rfl)
theorem w_824 : Cond.methodLink "ExpressionDesk$Gathering" 82 (⟨"ExpressionDesk$Reckoner", "over", "(JI)V"⟩ : MethodName) ∈ hp_T := hp_i4 104 (by rfl) (by rfl)
theorem w_825 : Cond.methodLink "ExpressionDesk$Gathering" 86 (⟨"ExpressionDesk$Gathering", "outermost", "(I)I"⟩ : MethodName) ∈ hp_T := hp_i4 105 (by rfl) (by rfl)
theorem w_827 : Cond.instanceMethod (⟨"ExpressionDesk$Gathering", "outermost", "(I)I"⟩ : MethodName) ∈ hp_T := hp_i4 107 (by rfl) (by rfl)
theorem w_828 : Cond.code (⟨"ExpressionDesk$Gathering", "outermost", "(I)I"⟩ : MethodName) prog_3_method_8_code 5 (Option.some Jvm.ClassFile.FieldType.int) ∈ hp_T := hp_i4 108 (by rfl) (by rfl)
theorem w_829 : Cond.methodLink "ExpressionDesk$Gathering" 114 (⟨"ExpressionDesk$Value", "comparedTo", "(LExpressionDesk$Value;)I"⟩ : MethodName) ∈ hp_T := hp_i4 109 (by rfl) (by rfl)
theorem w_830 : Cond.methodLink "ExpressionDesk$Gathering" 90 (⟨"ExpressionDesk$Gathering", "joined", "()I"⟩ : MethodName) ∈ hp_T := hp_i4 110 (by rfl) (by rfl)
theorem w_832 : Cond.instanceMethod (⟨"ExpressionDesk$Gathering", "joined", "()I"⟩ : MethodName) ∈ hp_T := hp_i4 112 (by rfl) (by rfl)
theorem w_833 : Cond.code (⟨"ExpressionDesk$Gathering", "joined", "()I"⟩ : MethodName) prog_3_method_9_code 1 (Option.some Jvm.ClassFile.FieldType.int) ∈ hp_T := hp_i4 113 (by rfl) (by rfl)
theorem w_834 : Cond.methodLink "ExpressionDesk$Gathering" 118 (⟨"ExpressionDesk$Gathering", "putAll", "([I)Z"⟩ : MethodName) ∈ hp_T := hp_i4 114 (by rfl) (by rfl)
theorem w_836 : Cond.instanceMethod (⟨"ExpressionDesk$Gathering", "putAll", "([I)Z"⟩ : MethodName) ∈ hp_T := hp_i4 116 (by rfl) (by rfl)
theorem w_837 : Cond.code (⟨"ExpressionDesk$Gathering", "putAll", "([I)Z"⟩ : MethodName) prog_3_method_10_code 4 (Option.some Jvm.ClassFile.FieldType.boolean) ∈ hp_T := hp_i4 117 (by rfl) (by rfl)
theorem w_838 : Cond.methodLink "ExpressionDesk$Gathering" 133 (⟨"ExpressionDesk$Row", "clear", "()V"⟩ : MethodName) ∈ hp_T := hp_i4 118 (by rfl) (by rfl)
theorem w_839 : Cond.methodLink "ExpressionDesk$Gathering" 136 (⟨"ExpressionDesk$Row", "putPart", "([BII)V"⟩ : MethodName) ∈ hp_T := hp_i4 119 (by rfl) (by rfl)
theorem w_840 : Cond.methodLink "ExpressionDesk$Gathering" 140 (⟨"ExpressionDesk$Row", "putString", "(LExpressionDesk$Value;)Z"⟩ : MethodName) ∈ hp_T := hp_i4 120 (by rfl) (by rfl)
theorem w_841 : Cond.methodLink "ExpressionDesk$Gathering" 122 (⟨"ExpressionDesk$Gathering", "sortGathered", "()V"⟩ : MethodName) ∈ hp_T := hp_i4 121 (by rfl) (by rfl)
theorem w_843 : Cond.instanceMethod (⟨"ExpressionDesk$Gathering", "sortGathered", "()V"⟩ : MethodName) ∈ hp_T := hp_i4 123 (by rfl) (by rfl)
theorem w_844 : Cond.code (⟨"ExpressionDesk$Gathering", "sortGathered", "()V"⟩ : MethodName) prog_3_method_11_code 4 (Option.none : Option Jvm.ClassFile.FieldType) ∈ hp_T := hp_i4 124 (by rfl) (by rfl)
theorem w_845 : Cond.methodLink "ExpressionDesk$Gathering" 125 (⟨"ExpressionDesk$Store", "keepRow", "(IILExpressionDesk$Row;)I"⟩ : MethodName) ∈ hp_T := hp_i4 125 (by rfl) (by rfl)
theorem w_846 : Cond.classLink "ExpressionDeskLaw" 10 "ExpressionDeskModel" ∈ hp_T := hp_i4 126 (by rfl) (by rfl)
theorem w_847 : Cond.instantiable "ExpressionDeskModel" 34 ∈ hp_T := hp_i4 127 (by rfl) (by rfl)
theorem w_848 : Cond.methodLink "ExpressionDeskLaw" 12 (⟨"ExpressionDeskModel", "<init>", "()V"⟩ : MethodName) ∈ hp_T := hp_i4 128 (by rfl) (by rfl)
theorem w_849 : Cond.instanceMethod (⟨"ExpressionDeskModel", "<init>", "()V"⟩ : MethodName) ∈ hp_T := hp_i4 129 (by rfl) (by rfl)
theorem w_850 : Cond.code (⟨"ExpressionDeskModel", "<init>", "()V"⟩ : MethodName) prog_9_method_1_code 1 (Option.none : Option Jvm.ClassFile.FieldType) ∈ hp_T := hp_i4 130 (by rfl) (by rfl)
theorem w_851 : Cond.methodLink "ExpressionDeskModel" 1 (⟨"java/lang/Object", "<init>", "()V"⟩ : MethodName) ∈ hp_T := hp_i4 131 (by rfl) (by rfl)
theorem w_852 : Cond.constant "ExpressionDeskModel" 22 36018 ∈ hp_T := hp_i4 132 (by rfl) (by rfl)
theorem w_853 : Cond.constant "ExpressionDeskModel" 29 128064 ∈ hp_T := hp_i4 133 (by rfl) (by rfl)
theorem w_854 : Cond.fieldLink "ExpressionDeskModel" 88 "ExpressionDeskModel" "count" "I" ∈ hp_T := hp_i4 134 (by rfl) (by rfl)
theorem w_855 : Cond.fieldLink "ExpressionDeskModel" 7 "ExpressionDeskModel" "kinds" "[I" ∈ hp_T := hp_i4 135 (by rfl) (by rfl)
theorem w_856 : Cond.fieldLink "ExpressionDeskModel" 13 "ExpressionDeskModel" "extras" "[I" ∈ hp_T := hp_i4 136 (by rfl) (by rfl)
theorem w_857 : Cond.fieldLink "ExpressionDeskModel" 16 "ExpressionDeskModel" "signs" "[I" ∈ hp_T := hp_i4 137 (by rfl) (by rfl)
theorem w_858 : Cond.fieldLink "ExpressionDeskModel" 19 "ExpressionDeskModel" "scales" "[I" ∈ hp_T := hp_i4 138 (by rfl) (by rfl)
theorem w_859 : Cond.fieldLink "ExpressionDeskModel" 23 "ExpressionDeskModel" "digits" "[I" ∈ hp_T := hp_i4 139 (by rfl) (by rfl)
theorem w_860 : Cond.fieldLink "ExpressionDeskModel" 26 "ExpressionDeskModel" "sizes" "[I" ∈ hp_T := hp_i4 140 (by rfl) (by rfl)
theorem w_861 : Cond.fieldLink "ExpressionDeskModel" 30 "ExpressionDeskModel" "bytes" "[I" ∈ hp_T := hp_i4 141 (by rfl) (by rfl)
theorem w_862 : Cond.fieldLink "ExpressionDeskModel" 33 "ExpressionDeskModel" "tape" "[I" ∈ hp_T := hp_i4 142 (by rfl) (by rfl)
theorem w_863 : Cond.fieldLink "ExpressionDeskModel" 144 "ExpressionDeskModel" "size" "I" ∈ hp_T := hp_i4 143 (by rfl) (by rfl)
theorem w_864 : Cond.fieldLink "ExpressionDeskModel" 72 "ExpressionDeskModel" "kind" "I" ∈ hp_T := hp_i4 144 (by rfl) (by rfl)
theorem w_865 : Cond.fieldLink "ExpressionDeskModel" 76 "ExpressionDeskModel" "extra" "I" ∈ hp_T := hp_i4 145 (by rfl) (by rfl)
theorem w_866 : Cond.fieldLink "ExpressionDeskModel" 79 "ExpressionDeskModel" "sign" "I" ∈ hp_T := hp_i4 146 (by rfl) (by rfl)
theorem w_867 : Cond.fieldLink "ExpressionDeskModel" 82 "ExpressionDeskModel" "scale" "I" ∈ hp_T := hp_i4 147 (by rfl) (by rfl)
theorem w_868 : Cond.fieldLink "ExpressionDeskModel" 36 "ExpressionDeskModel" "unscaled" "[I" ∈ hp_T := hp_i4 148 (by rfl) (by rfl)
theorem w_869 : Cond.fieldLink "ExpressionDeskModel" 39 "ExpressionDeskModel" "letters" "[I" ∈ hp_T := hp_i4 149 (by rfl) (by rfl)
theorem w_870 : Cond.fieldLink "ExpressionDeskModel" 85 "ExpressionDeskModel" "letterCount" "I" ∈ hp_T := hp_i4 150 (by rfl) (by rfl)
theorem w_871 : Cond.fieldLink "ExpressionDeskModel" 42 "ExpressionDeskModel" "x" "[I" ∈ hp_T := hp_i4 151 (by rfl) (by rfl)
theorem w_872 : Cond.fieldLink "ExpressionDeskModel" 45 "ExpressionDeskModel" "y" "[I" ∈ hp_T := hp_i4 152 (by rfl) (by rfl)
theorem w_873 : Cond.fieldLink "ExpressionDeskModel" 48 "ExpressionDeskModel" "z" "[I" ∈ hp_T := hp_i4 153 (by rfl) (by rfl)
theorem w_874 : Cond.fieldLink "ExpressionDeskModel" 51 "ExpressionDeskModel" "operations" "[I" ∈ hp_T := hp_i4 154 (by rfl) (by rfl)
theorem w_875 : Cond.fieldLink "ExpressionDeskModel" 54 "ExpressionDeskModel" "numbers" "[I" ∈ hp_T := hp_i4 155 (by rfl) (by rfl)
theorem w_876 : Cond.fieldLink "ExpressionDeskModel" 238 "ExpressionDeskModel" "words" "I" ∈ hp_T := hp_i4 156 (by rfl) (by rfl)
theorem w_877 : Cond.fieldLink "ExpressionDeskModel" 57 "ExpressionDeskModel" "bound" "[I" ∈ hp_T := hp_i4 157 (by rfl) (by rfl)
theorem w_878 : Cond.fieldLink "ExpressionDeskModel" 60 "ExpressionDeskModel" "stack" "[I" ∈ hp_T := hp_i4 158 (by rfl) (by rfl)
theorem w_879 : Cond.fieldLink "ExpressionDeskModel" 63 "ExpressionDeskModel" "gathered" "[I" ∈ hp_T := hp_i4 159 (by rfl) (by rfl)
theorem w_880 : Cond.fieldLink "ExpressionDeskModel" 328 "ExpressionDeskModel" "many" "I" ∈ hp_T := hp_i4 160 (by rfl) (by rfl)
theorem w_881 : Cond.fieldLink "ExpressionDeskModel" 318 "ExpressionDeskModel" "sort" "I" ∈ hp_T := hp_i4 161 (by rfl) (by rfl)
theorem w_882 : Cond.fieldLink "ExpressionDeskModel" 321 "ExpressionDeskModel" "once" "Z" ∈ hp_T := hp_i4 162 (by rfl) (by rfl)
theorem w_883 : Cond.fieldLink "ExpressionDeskModel" 325 "ExpressionDeskModel" "between" "I" ∈ hp_T := hp_i4 163 (by rfl) (by rfl)
theorem w_884 : Cond.fieldLink "ExpressionDeskModel" 66 "ExpressionDeskModel" "total" "[I" ∈ hp_T := hp_i4 164 (by rfl) (by rfl)
theorem w_885 : Cond.fieldLink "ExpressionDeskModel" 331 "ExpressionDeskModel" "totalSign" "I" ∈ hp_T := hp_i4 165 (by rfl) (by rfl)
theorem w_886 : Cond.fieldLink "ExpressionDeskModel" 334 "ExpressionDeskModel" "totalWhole" "Z" ∈ hp_T := hp_i4 166 (by rfl) (by rfl)
theorem w_887 : Cond.fieldLink "ExpressionDeskModel" 69 "ExpressionDeskModel" "ranks" "[I" ∈ hp_T := hp_i4 167 (by rfl) (by rfl)
theorem w_888 : Cond.lays "ExpressionDeskModel" "ExpressionDeskModel" "count" "I" ∈ hp_T := hp_i4 168 (by rfl) (by rfl)
theorem w_890 : Cond.laysFinal "ExpressionDeskModel" "ExpressionDeskModel" "kinds" "[I" ∈ hp_T := hp_i4 170 (by rfl) (by rfl)
theorem w_892 : Cond.laysFinal "ExpressionDeskModel" "ExpressionDeskModel" "extras" "[I" ∈ hp_T := hp_i4 172 (by rfl) (by rfl)
theorem w_894 : Cond.laysFinal "ExpressionDeskModel" "ExpressionDeskModel" "signs" "[I" ∈ hp_T := hp_i4 174 (by rfl) (by rfl)
theorem w_896 : Cond.laysFinal "ExpressionDeskModel" "ExpressionDeskModel" "scales" "[I" ∈ hp_T := hp_i4 176 (by rfl) (by rfl)
theorem w_898 : Cond.laysFinal "ExpressionDeskModel" "ExpressionDeskModel" "digits" "[I" ∈ hp_T := hp_i4 178 (by rfl) (by rfl)
theorem w_900 : Cond.laysFinal "ExpressionDeskModel" "ExpressionDeskModel" "sizes" "[I" ∈ hp_T := hp_i4 180 (by rfl) (by rfl)
theorem w_902 : Cond.laysFinal "ExpressionDeskModel" "ExpressionDeskModel" "bytes" "[I" ∈ hp_T := hp_i4 182 (by rfl) (by rfl)
theorem w_904 : Cond.laysFinal "ExpressionDeskModel" "ExpressionDeskModel" "tape" "[I" ∈ hp_T := hp_i4 184 (by rfl) (by rfl)
theorem w_906 : Cond.lays "ExpressionDeskModel" "ExpressionDeskModel" "size" "I" ∈ hp_T := hp_i4 186 (by rfl) (by rfl)
theorem w_908 : Cond.lays "ExpressionDeskModel" "ExpressionDeskModel" "kind" "I" ∈ hp_T := hp_i4 188 (by rfl) (by rfl)
theorem w_910 : Cond.lays "ExpressionDeskModel" "ExpressionDeskModel" "extra" "I" ∈ hp_T := hp_i4 190 (by rfl) (by rfl)
theorem w_912 : Cond.lays "ExpressionDeskModel" "ExpressionDeskModel" "sign" "I" ∈ hp_T := hp_i4 192 (by rfl) (by rfl)
theorem w_914 : Cond.lays "ExpressionDeskModel" "ExpressionDeskModel" "scale" "I" ∈ hp_T := hp_i4 194 (by rfl) (by rfl)
theorem w_916 : Cond.laysFinal "ExpressionDeskModel" "ExpressionDeskModel" "unscaled" "[I" ∈ hp_T := hp_i4 196 (by rfl) (by rfl)
theorem w_918 : Cond.laysFinal "ExpressionDeskModel" "ExpressionDeskModel" "letters" "[I" ∈ hp_T := hp_i4 198 (by rfl) (by rfl)
theorem w_920 : Cond.lays "ExpressionDeskModel" "ExpressionDeskModel" "letterCount" "I" ∈ hp_T := hp_i4 200 (by rfl) (by rfl)
theorem w_922 : Cond.laysFinal "ExpressionDeskModel" "ExpressionDeskModel" "x" "[I" ∈ hp_T := hp_i4 202 (by rfl) (by rfl)
theorem w_924 : Cond.laysFinal "ExpressionDeskModel" "ExpressionDeskModel" "y" "[I" ∈ hp_T := hp_i4 204 (by rfl) (by rfl)
theorem w_926 : Cond.laysFinal "ExpressionDeskModel" "ExpressionDeskModel" "z" "[I" ∈ hp_T := hp_i4 206 (by rfl) (by rfl)
theorem w_928 : Cond.laysFinal "ExpressionDeskModel" "ExpressionDeskModel" "operations" "[I" ∈ hp_T := hp_i4 208 (by rfl) (by rfl)
theorem w_930 : Cond.laysFinal "ExpressionDeskModel" "ExpressionDeskModel" "numbers" "[I" ∈ hp_T := hp_i4 210 (by rfl) (by rfl)
theorem w_932 : Cond.lays "ExpressionDeskModel" "ExpressionDeskModel" "words" "I" ∈ hp_T := hp_i4 212 (by rfl) (by rfl)
theorem w_934 : Cond.laysFinal "ExpressionDeskModel" "ExpressionDeskModel" "bound" "[I" ∈ hp_T := hp_i4 214 (by rfl) (by rfl)
theorem w_936 : Cond.laysFinal "ExpressionDeskModel" "ExpressionDeskModel" "stack" "[I" ∈ hp_T := hp_i4 216 (by rfl) (by rfl)
theorem w_938 : Cond.laysFinal "ExpressionDeskModel" "ExpressionDeskModel" "gathered" "[I" ∈ hp_T := hp_i4 218 (by rfl) (by rfl)
theorem w_940 : Cond.lays "ExpressionDeskModel" "ExpressionDeskModel" "many" "I" ∈ hp_T := hp_i4 220 (by rfl) (by rfl)
theorem w_942 : Cond.lays "ExpressionDeskModel" "ExpressionDeskModel" "sort" "I" ∈ hp_T := hp_i4 222 (by rfl) (by rfl)
theorem w_944 : Cond.lays "ExpressionDeskModel" "ExpressionDeskModel" "once" "Z" ∈ hp_T := hp_i4 224 (by rfl) (by rfl)
theorem w_946 : Cond.lays "ExpressionDeskModel" "ExpressionDeskModel" "between" "I" ∈ hp_T := hp_i4 226 (by rfl) (by rfl)
theorem w_948 : Cond.laysFinal "ExpressionDeskModel" "ExpressionDeskModel" "total" "[I" ∈ hp_T := hp_i4 228 (by rfl) (by rfl)
theorem w_950 : Cond.lays "ExpressionDeskModel" "ExpressionDeskModel" "totalSign" "I" ∈ hp_T := hp_i4 230 (by rfl) (by rfl)
theorem w_952 : Cond.lays "ExpressionDeskModel" "ExpressionDeskModel" "totalWhole" "Z" ∈ hp_T := hp_i4 232 (by rfl) (by rfl)
theorem w_954 : Cond.laysFinal "ExpressionDeskModel" "ExpressionDeskModel" "ranks" "[I" ∈ hp_T := hp_i4 234 (by rfl) (by rfl)
theorem w_957 : Cond.methodLink "ExpressionDeskLaw" 19 (⟨"ExpressionDeskModel", "type", "(JI)I"⟩ : MethodName) ∈ hp_T := hp_i4 237 (by rfl) (by rfl)
theorem w_958 : Cond.instanceMethod (⟨"ExpressionDeskModel", "type", "(JI)I"⟩ : MethodName) ∈ hp_T := hp_i4 238 (by rfl) (by rfl)
theorem w_959 : Cond.selects "ExpressionDeskModel" (⟨"ExpressionDeskModel", "type", "(JI)I"⟩ : MethodName) (⟨"ExpressionDeskModel", "type", "(JI)I"⟩ : MethodName) ∈ hp_T := hp_i4 239 (by rfl) (by rfl)
theorem w_960 : Cond.code (⟨"ExpressionDeskModel", "type", "(JI)I"⟩ : MethodName) prog_9_method_24_code 5 (Option.some Jvm.ClassFile.FieldType.int) ∈ hp_T := hp_i5 0 (by rfl) (by rfl)
theorem w_961 : Cond.constantLong "ExpressionDeskModel" 147 255 ∈ hp_T := hp_i5 1 (by rfl) (by rfl)
theorem w_962 : Cond.methodLink "ExpressionDeskLaw" 24 (⟨"ExpressionDeskModel", "whole", "(J)I"⟩ : MethodName) ∈ hp_T := hp_i5 2 (by rfl) (by rfl)
theorem w_963 : Cond.instanceMethod (⟨"ExpressionDeskModel", "whole", "(J)I"⟩ : MethodName) ∈ hp_T := hp_i5 3 (by rfl) (by rfl)
theorem w_964 : Cond.selects "ExpressionDeskModel" (⟨"ExpressionDeskModel", "whole", "(J)I"⟩ : MethodName) (⟨"ExpressionDeskModel", "whole", "(J)I"⟩ : MethodName) ∈ hp_T := hp_i5 4 (by rfl) (by rfl)
theorem w_965 : Cond.code (⟨"ExpressionDeskModel", "whole", "(J)I"⟩ : MethodName) prog_9_method_25_code 3 (Option.some Jvm.ClassFile.FieldType.int) ∈ hp_T := hp_i5 5 (by rfl) (by rfl)
theorem w_966 : Cond.methodLink "ExpressionDeskModel" 149 (⟨"ExpressionDeskModel", "isFar", "(J)Z"⟩ : MethodName) ∈ hp_T := hp_i5 6 (by rfl) (by rfl)
theorem w_967 : Cond.static (⟨"ExpressionDeskModel", "isFar", "(J)Z"⟩ : MethodName) ∈ hp_T := hp_i5 7 (by rfl) (by rfl)
theorem w_968 : Cond.code (⟨"ExpressionDeskModel", "isFar", "(J)Z"⟩ : MethodName) prog_9_method_23_code 2 (Option.some Jvm.ClassFile.FieldType.boolean) ∈ hp_T := hp_i5 8 (by rfl) (by rfl)
theorem w_969 : Cond.constantLong "ExpressionDeskModel" 140 999999999999999999 ∈ hp_T := hp_i5 9 (by rfl) (by rfl)
theorem w_970 : Cond.constantLong "ExpressionDeskModel" 142 (-999999999999999999) ∈ hp_T := hp_i5 10 (by rfl) (by rfl)
theorem w_971 : Cond.methodLink "ExpressionDeskModel" 153 (⟨"ExpressionDeskModel", "numbered", "(JIZ)I"⟩ : MethodName) ∈ hp_T := hp_i5 11 (by rfl) (by rfl)
theorem w_973 : Cond.instanceMethod (⟨"ExpressionDeskModel", "numbered", "(JIZ)I"⟩ : MethodName) ∈ hp_T := hp_i5 13 (by rfl) (by rfl)
theorem w_974 : Cond.code (⟨"ExpressionDeskModel", "numbered", "(JIZ)I"⟩ : MethodName) prog_9_method_22_code 8 (Option.some Jvm.ClassFile.FieldType.int) ∈ hp_T := hp_i5 14 (by rfl) (by rfl)
theorem w_975 : Cond.methodLink "ExpressionDeskModel" 95 (⟨"ExpressionDeskModel", "clear", "([I)V"⟩ : MethodName) ∈ hp_T := hp_i5 15 (by rfl) (by rfl)
theorem w_976 : Cond.static (⟨"ExpressionDeskModel", "clear", "([I)V"⟩ : MethodName) ∈ hp_T := hp_i5 16 (by rfl) (by rfl)
theorem w_977 : Cond.code (⟨"ExpressionDeskModel", "clear", "([I)V"⟩ : MethodName) prog_9_method_6_code 2 (Option.none : Option Jvm.ClassFile.FieldType) ∈ hp_T := hp_i5 17 (by rfl) (by rfl)
theorem w_978 : Cond.constantLong "ExpressionDeskModel" 138 10 ∈ hp_T := hp_i5 18 (by rfl) (by rfl)
theorem w_979 : Cond.methodLink "ExpressionDeskModel" 127 (⟨"ExpressionDeskModel", "number", "([IIZ)I"⟩ : MethodName) ∈ hp_T := hp_i5 19 (by rfl) (by rfl)
theorem w_981 : Cond.instanceMethod (⟨"ExpressionDeskModel", "number", "([IIZ)I"⟩ : MethodName) ∈ hp_T := hp_i5 21 (by rfl) (by rfl)
theorem w_982 : Cond.code (⟨"ExpressionDeskModel", "number", "([IIZ)I"⟩ : MethodName) prog_9_method_13_code 7 (Option.some Jvm.ClassFile.FieldType.int) ∈ hp_T := hp_i5 22 (by rfl) (by rfl)
theorem w_983 : Cond.methodLink "ExpressionDeskModel" 103 (⟨"ExpressionDeskModel", "start", "(II)V"⟩ : MethodName) ∈ hp_T := hp_i5 23 (by rfl) (by rfl)
theorem w_985 : Cond.instanceMethod (⟨"ExpressionDeskModel", "start", "(II)V"⟩ : MethodName) ∈ hp_T := hp_i5 25 (by rfl) (by rfl)
theorem w_986 : Cond.code (⟨"ExpressionDeskModel", "start", "(II)V"⟩ : MethodName) prog_9_method_2_code 4 (Option.none : Option Jvm.ClassFile.FieldType) ∈ hp_T := hp_i5 26 (by rfl) (by rfl)
theorem w_987 : Cond.methodLink "ExpressionDeskModel" 107 (⟨"ExpressionDeskModel", "isZero", "([I)Z"⟩ : MethodName) ∈ hp_T := hp_i5 27 (by rfl) (by rfl)
theorem w_988 : Cond.static (⟨"ExpressionDeskModel", "isZero", "([I)Z"⟩ : MethodName) ∈ hp_T := hp_i5 28 (by rfl) (by rfl)
theorem w_989 : Cond.code (⟨"ExpressionDeskModel", "isZero", "([I)Z"⟩ : MethodName) prog_9_method_9_code 2 (Option.some Jvm.ClassFile.FieldType.boolean) ∈ hp_T := hp_i5 29 (by rfl) (by rfl)
theorem w_990 : Cond.methodLink "ExpressionDeskModel" 111 (⟨"ExpressionDeskModel", "keep", "()I"⟩ : MethodName) ∈ hp_T := hp_i5 30 (by rfl) (by rfl)
theorem w_992 : Cond.instanceMethod (⟨"ExpressionDeskModel", "keep", "()I"⟩ : MethodName) ∈ hp_T := hp_i5 32 (by rfl) (by rfl)
theorem w_993 : Cond.code (⟨"ExpressionDeskModel", "keep", "()I"⟩ : MethodName) prog_9_method_4_code 3 (Option.some Jvm.ClassFile.FieldType.int) ∈ hp_T := hp_i5 33 (by rfl) (by rfl)
theorem w_994 : Cond.methodLink "ExpressionDeskModel" 91 (⟨"ExpressionDeskModel", "isIt", "(I)Z"⟩ : MethodName) ∈ hp_T := hp_i5 34 (by rfl) (by rfl)
theorem w_996 : Cond.instanceMethod (⟨"ExpressionDeskModel", "isIt", "(I)Z"⟩ : MethodName) ∈ hp_T := hp_i5 36 (by rfl) (by rfl)
theorem w_997 : Cond.code (⟨"ExpressionDeskModel", "isIt", "(I)Z"⟩ : MethodName) prog_9_method_3_code 4 (Option.some Jvm.ClassFile.FieldType.boolean) ∈ hp_T := hp_i5 37 (by rfl) (by rfl)
theorem w_998 : Cond.methodLink "ExpressionDeskLaw" 28 (⟨"ExpressionDeskModel", "decimal", "(JI)I"⟩ : MethodName) ∈ hp_T := hp_i5 38 (by rfl) (by rfl)
theorem w_999 : Cond.instanceMethod (⟨"ExpressionDeskModel", "decimal", "(JI)I"⟩ : MethodName) ∈ hp_T := hp_i5 39 (by rfl) (by rfl)
theorem w_1000 : Cond.selects "ExpressionDeskModel" (⟨"ExpressionDeskModel", "decimal", "(JI)I"⟩ : MethodName) (⟨"ExpressionDeskModel", "decimal", "(JI)I"⟩ : MethodName) ∈ hp_T := hp_i5 40 (by rfl) (by rfl)
theorem w_1001 : Cond.code (⟨"ExpressionDeskModel", "decimal", "(JI)I"⟩ : MethodName) prog_9_method_26_code 4 (Option.some Jvm.ClassFile.FieldType.int) ∈ hp_T := hp_i5 41 (by rfl) (by rfl)
theorem w_1002 : Cond.methodLink "ExpressionDeskLaw" 33 (⟨"ExpressionDeskModel", "truth", "(Z)I"⟩ : MethodName) ∈ hp_T := hp_i5 42 (by rfl) (by rfl)
theorem w_1003 : Cond.instanceMethod (⟨"ExpressionDeskModel", "truth", "(Z)I"⟩ : MethodName) ∈ hp_T := hp_i5 43 (by rfl) (by rfl)
theorem w_1004 : Cond.selects "ExpressionDeskModel" (⟨"ExpressionDeskModel", "truth", "(Z)I"⟩ : MethodName) (⟨"ExpressionDeskModel", "truth", "(Z)I"⟩ : MethodName) ∈ hp_T := hp_i5 44 (by rfl) (by rfl)
theorem w_1005 : Cond.code (⟨"ExpressionDeskModel", "truth", "(Z)I"⟩ : MethodName) prog_9_method_27_code 2 (Option.some Jvm.ClassFile.FieldType.int) ∈ hp_T := hp_i5 45 (by rfl) (by rfl)
theorem w_1006 : Cond.methodLink "ExpressionDeskLaw" 38 (⟨"ExpressionDeskModel", "named", "(II)I"⟩ : MethodName) ∈ hp_T := hp_i5 46 (by rfl) (by rfl)
theorem w_1007 : Cond.instanceMethod (⟨"ExpressionDeskModel", "named", "(II)I"⟩ : MethodName) ∈ hp_T := hp_i5 47 (by rfl) (by rfl)
theorem w_1008 : Cond.selects "ExpressionDeskModel" (⟨"ExpressionDeskModel", "named", "(II)I"⟩ : MethodName) (⟨"ExpressionDeskModel", "named", "(II)I"⟩ : MethodName) ∈ hp_T := hp_i5 48 (by rfl) (by rfl)
theorem w_1009 : Cond.code (⟨"ExpressionDeskModel", "named", "(II)I"⟩ : MethodName) prog_9_method_28_code 3 (Option.some Jvm.ClassFile.FieldType.int) ∈ hp_T := hp_i5 49 (by rfl) (by rfl)
theorem w_1010 : Cond.methodLink "ExpressionDeskLaw" 42 (⟨"ExpressionDeskModel", "text", "(II)I"⟩ : MethodName) ∈ hp_T := hp_i5 50 (by rfl) (by rfl)
theorem w_1011 : Cond.instanceMethod (⟨"ExpressionDeskModel", "text", "(II)I"⟩ : MethodName) ∈ hp_T := hp_i5 51 (by rfl) (by rfl)
theorem w_1012 : Cond.selects "ExpressionDeskModel" (⟨"ExpressionDeskModel", "text", "(II)I"⟩ : MethodName) (⟨"ExpressionDeskModel", "text", "(II)I"⟩ : MethodName) ∈ hp_T := hp_i5 52 (by rfl) (by rfl)
theorem w_1013 : Cond.code (⟨"ExpressionDeskModel", "text", "(II)I"⟩ : MethodName) prog_9_method_29_code 5 (Option.some Jvm.ClassFile.FieldType.int) ∈ hp_T := hp_i5 53 (by rfl) (by rfl)
theorem w_1014 : Cond.methodLink "ExpressionDeskModel" 157 (⟨"ExpressionDeskModel", "letter", "(I)V"⟩ : MethodName) ∈ hp_T := hp_i5 54 (by rfl) (by rfl)
theorem w_1016 : Cond.instanceMethod (⟨"ExpressionDeskModel", "letter", "(I)V"⟩ : MethodName) ∈ hp_T := hp_i5 56 (by rfl) (by rfl)
theorem w_1017 : Cond.code (⟨"ExpressionDeskModel", "letter", "(I)V"⟩ : MethodName) prog_9_method_5_code 2 (Option.none : Option Jvm.ClassFile.FieldType) ∈ hp_T := hp_i5 57 (by rfl) (by rfl)
theorem w_1018 : Cond.methodLink "ExpressionDeskLaw" 46 (⟨"ExpressionDeskModel", "told", "(II)I"⟩ : MethodName) ∈ hp_T := hp_i5 58 (by rfl) (by rfl)
theorem w_1019 : Cond.instanceMethod (⟨"ExpressionDeskModel", "told", "(II)I"⟩ : MethodName) ∈ hp_T := hp_i5 59 (by rfl) (by rfl)
theorem w_1020 : Cond.selects "ExpressionDeskModel" (⟨"ExpressionDeskModel", "told", "(II)I"⟩ : MethodName) (⟨"ExpressionDeskModel", "told", "(II)I"⟩ : MethodName) ∈ hp_T := hp_i5 60 (by rfl) (by rfl)
theorem w_1021 : Cond.code (⟨"ExpressionDeskModel", "told", "(II)I"⟩ : MethodName) prog_9_method_31_code 3 (Option.some Jvm.ClassFile.FieldType.int) ∈ hp_T := hp_i5 61 (by rfl) (by rfl)
theorem w_1022 : Cond.methodLink "ExpressionDeskModel" 161 (⟨"ExpressionDeskModel", "isValue", "(I)Z"⟩ : MethodName) ∈ hp_T := hp_i5 62 (by rfl) (by rfl)
theorem w_1024 : Cond.instanceMethod (⟨"ExpressionDeskModel", "isValue", "(I)Z"⟩ : MethodName) ∈ hp_T := hp_i5 64 (by rfl) (by rfl)
theorem w_1025 : Cond.code (⟨"ExpressionDeskModel", "isValue", "(I)Z"⟩ : MethodName) prog_9_method_30_code 2 (Option.some Jvm.ClassFile.FieldType.boolean) ∈ hp_T := hp_i5 65 (by rfl) (by rfl)
theorem w_1026 : Cond.methodLink "ExpressionDeskLaw" 51 (⟨"ExpressionDeskModel", "amount", "(I)J"⟩ : MethodName) ∈ hp_T := hp_i5 66 (by rfl) (by rfl)
theorem w_1027 : Cond.instanceMethod (⟨"ExpressionDeskModel", "amount", "(I)J"⟩ : MethodName) ∈ hp_T := hp_i5 67 (by rfl) (by rfl)
theorem w_1028 : Cond.selects "ExpressionDeskModel" (⟨"ExpressionDeskModel", "amount", "(I)J"⟩ : MethodName) (⟨"ExpressionDeskModel", "amount", "(I)J"⟩ : MethodName) ∈ hp_T := hp_i5 68 (by rfl) (by rfl)
theorem w_1029 : Cond.code (⟨"ExpressionDeskModel", "amount", "(I)J"⟩ : MethodName) prog_9_method_32_code 5 (Option.some Jvm.ClassFile.FieldType.long) ∈ hp_T := hp_i5 69 (by rfl) (by rfl)
theorem w_1030 : Cond.methodLink "ExpressionDeskLaw" 55 (⟨"ExpressionDeskModel", "byteOf", "(II)I"⟩ : MethodName) ∈ hp_T := hp_i5 70 (by rfl) (by rfl)
theorem w_1031 : Cond.instanceMethod (⟨"ExpressionDeskModel", "byteOf", "(II)I"⟩ : MethodName) ∈ hp_T := hp_i5 71 (by rfl) (by rfl)
theorem w_1032 : Cond.selects "ExpressionDeskModel" (⟨"ExpressionDeskModel", "byteOf", "(II)I"⟩ : MethodName) (⟨"ExpressionDeskModel", "byteOf", "(II)I"⟩ : MethodName) ∈ hp_T := hp_i5 72 (by rfl) (by rfl)
theorem w_1033 : Cond.code (⟨"ExpressionDeskModel", "byteOf", "(II)I"⟩ : MethodName) prog_9_method_33_code 3 (Option.some Jvm.ClassFile.FieldType.int) ∈ hp_T := hp_i5 73 (by rfl) (by rfl)
theorem w_1034 : Cond.methodLink "ExpressionDeskLaw" 60 (⟨"ExpressionDeskModel", "values", "()I"⟩ : MethodName) ∈ hp_T := hp_i5 74 (by rfl) (by rfl)
theorem w_1035 : Cond.instanceMethod (⟨"ExpressionDeskModel", "values", "()I"⟩ : MethodName) ∈ hp_T := hp_i5 75 (by rfl) (by rfl)
theorem w_1036 : Cond.selects "ExpressionDeskModel" (⟨"ExpressionDeskModel", "values", "()I"⟩ : MethodName) (⟨"ExpressionDeskModel", "values", "()I"⟩ : MethodName) ∈ hp_T := hp_i5 76 (by rfl) (by rfl)
theorem w_1037 : Cond.code (⟨"ExpressionDeskModel", "values", "()I"⟩ : MethodName) prog_9_method_34_code 1 (Option.some Jvm.ClassFile.FieldType.int) ∈ hp_T := hp_i5 77 (by rfl) (by rfl)
theorem w_1038 : Cond.methodLink "ExpressionDeskLaw" 64 (⟨"ExpressionDeskModel", "order", "(II)I"⟩ : MethodName) ∈ hp_T := hp_i5 78 (by rfl) (by rfl)
theorem w_1039 : Cond.instanceMethod (⟨"ExpressionDeskModel", "order", "(II)I"⟩ : MethodName) ∈ hp_T := hp_i5 79 (by rfl) (by rfl)
theorem w_1040 : Cond.selects "ExpressionDeskModel" (⟨"ExpressionDeskModel", "order", "(II)I"⟩ : MethodName) (⟨"ExpressionDeskModel", "order", "(II)I"⟩ : MethodName) ∈ hp_T := hp_i5 80 (by rfl) (by rfl)
theorem w_1041 : Cond.code (⟨"ExpressionDeskModel", "order", "(II)I"⟩ : MethodName) prog_9_method_38_code 3 (Option.some Jvm.ClassFile.FieldType.int) ∈ hp_T := hp_i5 81 (by rfl) (by rfl)
theorem w_1042 : Cond.methodLink "ExpressionDeskModel" 178 (⟨"ExpressionDeskModel", "orderOf", "(II)I"⟩ : MethodName) ∈ hp_T := hp_i5 82 (by rfl) (by rfl)
theorem w_1044 : Cond.instanceMethod (⟨"ExpressionDeskModel", "orderOf", "(II)I"⟩ : MethodName) ∈ hp_T := hp_i5 84 (by rfl) (by rfl)
theorem w_1045 : Cond.code (⟨"ExpressionDeskModel", "orderOf", "(II)I"⟩ : MethodName) prog_9_method_37_code 4 (Option.some Jvm.ClassFile.FieldType.int) ∈ hp_T := hp_i5 85 (by rfl) (by rfl)
theorem w_1046 : Cond.methodLink "ExpressionDeskModel" 164 (⟨"ExpressionDeskModel", "rank", "(I)I"⟩ : MethodName) ∈ hp_T := hp_i5 86 (by rfl) (by rfl)
theorem w_1048 : Cond.instanceMethod (⟨"ExpressionDeskModel", "rank", "(I)I"⟩ : MethodName) ∈ hp_T := hp_i5 88 (by rfl) (by rfl)
theorem w_1049 : Cond.code (⟨"ExpressionDeskModel", "rank", "(I)I"⟩ : MethodName) prog_9_method_35_code 2 (Option.some Jvm.ClassFile.FieldType.int) ∈ hp_T := hp_i5 89 (by rfl) (by rfl)
theorem w_1050 : Cond.methodLink "ExpressionDeskModel" 168 (⟨"ExpressionDeskModel", "isNumber", "(I)Z"⟩ : MethodName) ∈ hp_T := hp_i5 90 (by rfl) (by rfl)
theorem w_1052 : Cond.instanceMethod (⟨"ExpressionDeskModel", "isNumber", "(I)Z"⟩ : MethodName) ∈ hp_T := hp_i5 92 (by rfl) (by rfl)
theorem w_1053 : Cond.code (⟨"ExpressionDeskModel", "isNumber", "(I)Z"⟩ : MethodName) prog_9_method_14_code 2 (Option.some Jvm.ClassFile.FieldType.boolean) ∈ hp_T := hp_i5 93 (by rfl) (by rfl)
theorem w_1054 : Cond.methodLink "ExpressionDeskModel" 171 (⟨"ExpressionDeskModel", "orderNumbers", "(II)I"⟩ : MethodName) ∈ hp_T := hp_i5 94 (by rfl) (by rfl)
theorem w_1056 : Cond.instanceMethod (⟨"ExpressionDeskModel", "orderNumbers", "(II)I"⟩ : MethodName) ∈ hp_T := hp_i5 96 (by rfl) (by rfl)
theorem w_1057 : Cond.code (⟨"ExpressionDeskModel", "orderNumbers", "(II)I"⟩ : MethodName) prog_9_method_21_code 3 (Option.some Jvm.ClassFile.FieldType.int) ∈ hp_T := hp_i5 97 (by rfl) (by rfl)
theorem w_1058 : Cond.methodLink "ExpressionDeskModel" 115 (⟨"ExpressionDeskModel", "lay", "(I[I)V"⟩ : MethodName) ∈ hp_T := hp_i5 98 (by rfl) (by rfl)
theorem w_1060 : Cond.instanceMethod (⟨"ExpressionDeskModel", "lay", "(I[I)V"⟩ : MethodName) ∈ hp_T := hp_i5 100 (by rfl) (by rfl)
theorem w_1061 : Cond.code (⟨"ExpressionDeskModel", "lay", "(I[I)V"⟩ : MethodName) prog_9_method_7_code 4 (Option.none : Option Jvm.ClassFile.FieldType) ∈ hp_T := hp_i5 101 (by rfl) (by rfl)
theorem w_1062 : Cond.methodLink "ExpressionDeskModel" 131 (⟨"ExpressionDeskModel", "compare", "([I[I)I"⟩ : MethodName) ∈ hp_T := hp_i5 102 (by rfl) (by rfl)
theorem w_1063 : Cond.static (⟨"ExpressionDeskModel", "compare", "([I[I)I"⟩ : MethodName) ∈ hp_T := hp_i5 103 (by rfl) (by rfl)
theorem w_1064 : Cond.code (⟨"ExpressionDeskModel", "compare", "([I[I)I"⟩ : MethodName) prog_9_method_8_code 3 (Option.some Jvm.ClassFile.FieldType.int) ∈ hp_T := hp_i5 104 (by rfl) (by rfl)
theorem w_1065 : Cond.methodLink "ExpressionDeskModel" 175 (⟨"ExpressionDeskModel", "orderBytes", "(II)I"⟩ : MethodName) ∈ hp_T := hp_i5 105 (by rfl) (by rfl)
theorem w_1067 : Cond.instanceMethod (⟨"ExpressionDeskModel", "orderBytes", "(II)I"⟩ : MethodName) ∈ hp_T := hp_i5 107 (by rfl) (by rfl)
theorem w_1068 : Cond.code (⟨"ExpressionDeskModel", "orderBytes", "(II)I"⟩ : MethodName) prog_9_method_36_code 4 (Option.some Jvm.ClassFile.FieldType.int) ∈ hp_T := hp_i5 108 (by rfl) (by rfl)
theorem w_1069 : Cond.methodLink "ExpressionDeskLaw" 68 (⟨"ExpressionDeskModel", "word", "(II)I"⟩ : MethodName) ∈ hp_T := hp_i5 109 (by rfl) (by rfl)
theorem w_1070 : Cond.instanceMethod (⟨"ExpressionDeskModel", "word", "(II)I"⟩ : MethodName) ∈ hp_T := hp_i5 110 (by rfl) (by rfl)
theorem w_1071 : Cond.selects "ExpressionDeskModel" (⟨"ExpressionDeskModel", "word", "(II)I"⟩ : MethodName) (⟨"ExpressionDeskModel", "word", "(II)I"⟩ : MethodName) ∈ hp_T := hp_i5 111 (by rfl) (by rfl)
theorem w_1072 : Cond.code (⟨"ExpressionDeskModel", "word", "(II)I"⟩ : MethodName) prog_9_method_58_code 3 (Option.some Jvm.ClassFile.FieldType.int) ∈ hp_T := hp_i5 112 (by rfl) (by rfl)
theorem w_1073 : Cond.methodLink "ExpressionDeskLaw" 72 (⟨"ExpressionDeskModel", "begin", "()I"⟩ : MethodName) ∈ hp_T := hp_i5 113 (by rfl) (by rfl)
theorem w_1074 : Cond.instanceMethod (⟨"ExpressionDeskModel", "begin", "()I"⟩ : MethodName) ∈ hp_T := hp_i5 114 (by rfl) (by rfl)
theorem w_1075 : Cond.selects "ExpressionDeskModel" (⟨"ExpressionDeskModel", "begin", "()I"⟩ : MethodName) (⟨"ExpressionDeskModel", "begin", "()I"⟩ : MethodName) ∈ hp_T := hp_i5 115 (by rfl) (by rfl)
theorem w_1076 : Cond.code (⟨"ExpressionDeskModel", "begin", "()I"⟩ : MethodName) prog_9_method_59_code 2 (Option.some Jvm.ClassFile.FieldType.int) ∈ hp_T := hp_i5 116 (by rfl) (by rfl)
theorem w_1077 : Cond.methodLink "ExpressionDeskLaw" 77 (⟨"ExpressionDeskModel", "bind", "(II)Z"⟩ : MethodName) ∈ hp_T := hp_i5 117 (by rfl) (by rfl)
theorem w_1078 : Cond.instanceMethod (⟨"ExpressionDeskModel", "bind", "(II)Z"⟩ : MethodName) ∈ hp_T := hp_i5 118 (by rfl) (by rfl)
theorem w_1079 : Cond.selects "ExpressionDeskModel" (⟨"ExpressionDeskModel", "bind", "(II)Z"⟩ : MethodName) (⟨"ExpressionDeskModel", "bind", "(II)Z"⟩ : MethodName) ∈ hp_T := hp_i5 119 (by rfl) (by rfl)
theorem w_1080 : Cond.code (⟨"ExpressionDeskModel", "bind", "(II)Z"⟩ : MethodName) prog_9_method_60_code 3 (Option.some Jvm.ClassFile.FieldType.boolean) ∈ hp_T := hp_i5 120 (by rfl) (by rfl)
theorem w_1081 : Cond.methodLink "ExpressionDeskLaw" 81 (⟨"ExpressionDeskModel", "run", "()I"⟩ : MethodName) ∈ hp_T := hp_i5 121 (by rfl) (by rfl)
theorem w_1082 : Cond.instanceMethod (⟨"ExpressionDeskModel", "run", "()I"⟩ : MethodName) ∈ hp_T := hp_i5 122 (by rfl) (by rfl)
theorem w_1083 : Cond.selects "ExpressionDeskModel" (⟨"ExpressionDeskModel", "run", "()I"⟩ : MethodName) (⟨"ExpressionDeskModel", "run", "()I"⟩ : MethodName) ∈ hp_T := hp_i5 123 (by rfl) (by rfl)
theorem w_1084 : Cond.code (⟨"ExpressionDeskModel", "run", "()I"⟩ : MethodName) prog_9_method_71_code 4 (Option.some Jvm.ClassFile.FieldType.int) ∈ hp_T := hp_i5 124 (by rfl) (by rfl)
theorem w_1085 : Cond.methodLink "ExpressionDeskModel" 308 (⟨"ExpressionDeskModel", "isRight", "()Z"⟩ : MethodName) ∈ hp_T := hp_i5 125 (by rfl) (by rfl)
theorem w_1087 : Cond.instanceMethod (⟨"ExpressionDeskModel", "isRight", "()Z"⟩ : MethodName) ∈ hp_T := hp_i5 127 (by rfl) (by rfl)
theorem w_1088 : Cond.code (⟨"ExpressionDeskModel", "isRight", "()Z"⟩ : MethodName) prog_9_method_62_code 3 (Option.some Jvm.ClassFile.FieldType.boolean) ∈ hp_T := hp_i5 128 (by rfl) (by rfl)
theorem w_1089 : Cond.methodLink "ExpressionDeskModel" 241 (⟨"ExpressionDeskModel", "takes", "(I)I"⟩ : MethodName) ∈ hp_T := hp_i5 129 (by rfl) (by rfl)
theorem w_1091 : Cond.instanceMethod (⟨"ExpressionDeskModel", "takes", "(I)I"⟩ : MethodName) ∈ hp_T := hp_i5 131 (by rfl) (by rfl)
theorem w_1092 : Cond.code (⟨"ExpressionDeskModel", "takes", "(I)I"⟩ : MethodName) prog_9_method_61_code 3 (Option.some Jvm.ClassFile.FieldType.int) ∈ hp_T := hp_i5 132 (by rfl) (by rfl)
theorem w_1093 : Cond.methodLink "ExpressionDeskModel" 312 (⟨"ExpressionDeskModel", "done", "(II)I"⟩ : MethodName) ∈ hp_T := hp_i5 133 (by rfl) (by rfl)
theorem w_1095 : Cond.instanceMethod (⟨"ExpressionDeskModel", "done", "(II)I"⟩ : MethodName) ∈ hp_T := hp_i5 135 (by rfl) (by rfl)
theorem w_1096 : Cond.code (⟨"ExpressionDeskModel", "done", "(II)I"⟩ : MethodName) prog_9_method_70_code 6 (Option.some Jvm.ClassFile.FieldType.int) ∈ hp_T := hp_i5 136 (by rfl) (by rfl)
theorem w_1097 : Cond.methodLink "ExpressionDeskModel" 293 (⟨"ExpressionDeskModel", "ofItsOwn", "(II)I"⟩ : MethodName) ∈ hp_T := hp_i5 137 (by rfl) (by rfl)
theorem w_1099 : Cond.instanceMethod (⟨"ExpressionDeskModel", "ofItsOwn", "(II)I"⟩ : MethodName) ∈ hp_T := hp_i5 139 (by rfl) (by rfl)
theorem w_1100 : Cond.code (⟨"ExpressionDeskModel", "ofItsOwn", "(II)I"⟩ : MethodName) prog_9_method_65_code 6 (Option.some Jvm.ClassFile.FieldType.int) ∈ hp_T := hp_i5 140 (by rfl) (by rfl)
theorem w_1101 : Cond.methodLink "ExpressionDeskModel" 250 (⟨"ExpressionDeskModel", "bindingOf", "(I)I"⟩ : MethodName) ∈ hp_T := hp_i5 141 (by rfl) (by rfl)
theorem w_1103 : Cond.instanceMethod (⟨"ExpressionDeskModel", "bindingOf", "(I)I"⟩ : MethodName) ∈ hp_T := hp_i5 143 (by rfl) (by rfl)
theorem w_1104 : Cond.code (⟨"ExpressionDeskModel", "bindingOf", "(I)I"⟩ : MethodName) prog_9_method_64_code 2 (Option.some Jvm.ClassFile.FieldType.int) ∈ hp_T := hp_i5 144 (by rfl) (by rfl)
theorem w_1105 : Cond.methodLink "ExpressionDeskModel" 185 (⟨"ExpressionDeskModel", "truth", "(Z)I"⟩ : MethodName) ∈ hp_T := hp_i5 145 (by rfl) (by rfl)
theorem w_1106 : Cond.methodLink "ExpressionDeskModel" 253 (⟨"ExpressionDeskModel", "both", "(III)I"⟩ : MethodName) ∈ hp_T := hp_i5 146 (by rfl) (by rfl)
theorem w_1108 : Cond.instanceMethod (⟨"ExpressionDeskModel", "both", "(III)I"⟩ : MethodName) ∈ hp_T := hp_i5 148 (by rfl) (by rfl)
theorem w_1109 : Cond.code (⟨"ExpressionDeskModel", "both", "(III)I"⟩ : MethodName) prog_9_method_63_code 6 (Option.some Jvm.ClassFile.FieldType.int) ∈ hp_T := hp_i5 149 (by rfl) (by rfl)
theorem w_1110 : Cond.methodLink "ExpressionDeskModel" 244 (⟨"ExpressionDeskModel", "truthOf", "(I)I"⟩ : MethodName) ∈ hp_T := hp_i5 150 (by rfl) (by rfl)
theorem w_1112 : Cond.instanceMethod (⟨"ExpressionDeskModel", "truthOf", "(I)I"⟩ : MethodName) ∈ hp_T := hp_i5 152 (by rfl) (by rfl)
theorem w_1113 : Cond.code (⟨"ExpressionDeskModel", "truthOf", "(I)I"⟩ : MethodName) prog_9_method_40_code 2 (Option.some Jvm.ClassFile.FieldType.int) ∈ hp_T := hp_i5 153 (by rfl) (by rfl)
theorem w_1114 : Cond.methodLink "ExpressionDeskModel" 181 (⟨"ExpressionDeskModel", "bit", "(Z)I"⟩ : MethodName) ∈ hp_T := hp_i5 154 (by rfl) (by rfl)
theorem w_1115 : Cond.static (⟨"ExpressionDeskModel", "bit", "(Z)I"⟩ : MethodName) ∈ hp_T := hp_i5 155 (by rfl) (by rfl)
theorem w_1116 : Cond.code (⟨"ExpressionDeskModel", "bit", "(Z)I"⟩ : MethodName) prog_9_method_39_code 1 (Option.some Jvm.ClassFile.FieldType.int) ∈ hp_T := hp_i5 156 (by rfl) (by rfl)
theorem w_1117 : Cond.methodLink "ExpressionDeskModel" 247 (⟨"ExpressionDeskModel", "given", "(I)I"⟩ : MethodName) ∈ hp_T := hp_i5 157 (by rfl) (by rfl)
theorem w_1119 : Cond.instanceMethod (⟨"ExpressionDeskModel", "given", "(I)I"⟩ : MethodName) ∈ hp_T := hp_i5 159 (by rfl) (by rfl)
theorem w_1120 : Cond.code (⟨"ExpressionDeskModel", "given", "(I)I"⟩ : MethodName) prog_9_method_44_code 2 (Option.some Jvm.ClassFile.FieldType.int) ∈ hp_T := hp_i5 160 (by rfl) (by rfl)
theorem w_1121 : Cond.methodLink "ExpressionDeskModel" 256 (⟨"ExpressionDeskModel", "isIn", "(II)I"⟩ : MethodName) ∈ hp_T := hp_i5 161 (by rfl) (by rfl)
theorem w_1123 : Cond.instanceMethod (⟨"ExpressionDeskModel", "isIn", "(II)I"⟩ : MethodName) ∈ hp_T := hp_i5 163 (by rfl) (by rfl)
theorem w_1124 : Cond.code (⟨"ExpressionDeskModel", "isIn", "(II)I"⟩ : MethodName) prog_9_method_66_code 7 (Option.some Jvm.ClassFile.FieldType.int) ∈ hp_T := hp_i5 164 (by rfl) (by rfl)
theorem w_1125 : Cond.methodLink "ExpressionDeskModel" 259 (⟨"ExpressionDeskModel", "equal", "(II)I"⟩ : MethodName) ∈ hp_T := hp_i5 165 (by rfl) (by rfl)
theorem w_1127 : Cond.instanceMethod (⟨"ExpressionDeskModel", "equal", "(II)I"⟩ : MethodName) ∈ hp_T := hp_i5 167 (by rfl) (by rfl)
theorem w_1128 : Cond.code (⟨"ExpressionDeskModel", "equal", "(II)I"⟩ : MethodName) prog_9_method_41_code 3 (Option.some Jvm.ClassFile.FieldType.int) ∈ hp_T := hp_i5 168 (by rfl) (by rfl)
theorem w_1129 : Cond.methodLink "ExpressionDeskModel" 296 (⟨"ExpressionDeskModel", "rowOf", "(II)I"⟩ : MethodName) ∈ hp_T := hp_i5 169 (by rfl) (by rfl)
theorem w_1131 : Cond.instanceMethod (⟨"ExpressionDeskModel", "rowOf", "(II)I"⟩ : MethodName) ∈ hp_T := hp_i5 171 (by rfl) (by rfl)
theorem w_1132 : Cond.code (⟨"ExpressionDeskModel", "rowOf", "(II)I"⟩ : MethodName) prog_9_method_67_code 5 (Option.some Jvm.ClassFile.FieldType.int) ∈ hp_T := hp_i5 172 (by rfl) (by rfl)
theorem w_1133 : Cond.methodLink "ExpressionDeskModel" 217 (⟨"ExpressionDeskModel", "isPlain", "(I)Z"⟩ : MethodName) ∈ hp_T := hp_i5 173 (by rfl) (by rfl)
theorem w_1135 : Cond.instanceMethod (⟨"ExpressionDeskModel", "isPlain", "(I)Z"⟩ : MethodName) ∈ hp_T := hp_i5 175 (by rfl) (by rfl)
theorem w_1136 : Cond.code (⟨"ExpressionDeskModel", "isPlain", "(I)Z"⟩ : MethodName) prog_9_method_45_code 2 (Option.some Jvm.ClassFile.FieldType.boolean) ∈ hp_T := hp_i5 176 (by rfl) (by rfl)
theorem w_1137 : Cond.methodLink "ExpressionDeskModel" 202 (⟨"ExpressionDeskModel", "letterAll", "(III)V"⟩ : MethodName) ∈ hp_T := hp_i5 177 (by rfl) (by rfl)
theorem w_1139 : Cond.instanceMethod (⟨"ExpressionDeskModel", "letterAll", "(III)V"⟩ : MethodName) ∈ hp_T := hp_i5 179 (by rfl) (by rfl)
theorem w_1140 : Cond.code (⟨"ExpressionDeskModel", "letterAll", "(III)V"⟩ : MethodName) prog_9_method_46_code 5 (Option.none : Option Jvm.ClassFile.FieldType) ∈ hp_T := hp_i5 180 (by rfl) (by rfl)
theorem w_1141 : Cond.methodLink "ExpressionDeskModel" 299 (⟨"ExpressionDeskModel", "some", "(III)I"⟩ : MethodName) ∈ hp_T := hp_i5 181 (by rfl) (by rfl)
theorem w_1143 : Cond.instanceMethod (⟨"ExpressionDeskModel", "some", "(III)I"⟩ : MethodName) ∈ hp_T := hp_i5 183 (by rfl) (by rfl)
theorem w_1144 : Cond.code (⟨"ExpressionDeskModel", "some", "(III)I"⟩ : MethodName) prog_9_method_56_code 9 (Option.some Jvm.ClassFile.FieldType.int) ∈ hp_T := hp_i5 184 (by rfl) (by rfl)
theorem w_1145 : Cond.methodLink "ExpressionDeskModel" 234 (⟨"ExpressionDeskModel", "amount", "(I)J"⟩ : MethodName) ∈ hp_T := hp_i5 185 (by rfl) (by rfl)
theorem w_1146 : Cond.methodLink "ExpressionDeskModel" 302 (⟨"ExpressionDeskModel", "two", "(III)I"⟩ : MethodName) ∈ hp_T := hp_i5 186 (by rfl) (by rfl)
theorem w_1148 : Cond.instanceMethod (⟨"ExpressionDeskModel", "two", "(III)I"⟩ : MethodName) ∈ hp_T := hp_i5 188 (by rfl) (by rfl)
theorem w_1149 : Cond.code (⟨"ExpressionDeskModel", "two", "(III)I"⟩ : MethodName) prog_9_method_68_code 4 (Option.some Jvm.ClassFile.FieldType.int) ∈ hp_T := hp_i5 189 (by rfl) (by rfl)
theorem w_1150 : Cond.methodLink "ExpressionDeskModel" 262 (⟨"ExpressionDeskModel", "not", "(I)I"⟩ : MethodName) ∈ hp_T := hp_i5 190 (by rfl) (by rfl)
theorem w_1151 : Cond.static (⟨"ExpressionDeskModel", "not", "(I)I"⟩ : MethodName) ∈ hp_T := hp_i5 191 (by rfl) (by rfl)
theorem w_1152 : Cond.code (⟨"ExpressionDeskModel", "not", "(I)I"⟩ : MethodName) prog_9_method_43_code 1 (Option.some Jvm.ClassFile.FieldType.int) ∈ hp_T := hp_i5 192 (by rfl) (by rfl)
theorem w_1153 : Cond.methodLink "ExpressionDeskModel" 265 (⟨"ExpressionDeskModel", "less", "(II)I"⟩ : MethodName) ∈ hp_T := hp_i5 193 (by rfl) (by rfl)
theorem w_1155 : Cond.instanceMethod (⟨"ExpressionDeskModel", "less", "(II)I"⟩ : MethodName) ∈ hp_T := hp_i5 195 (by rfl) (by rfl)
theorem w_1156 : Cond.code (⟨"ExpressionDeskModel", "less", "(II)I"⟩ : MethodName) prog_9_method_42_code 3 (Option.some Jvm.ClassFile.FieldType.int) ∈ hp_T := hp_i5 196 (by rfl) (by rfl)
theorem w_1157 : Cond.methodLink "ExpressionDeskModel" 268 (⟨"ExpressionDeskModel", "around", "(III)I"⟩ : MethodName) ∈ hp_T := hp_i5 197 (by rfl) (by rfl)
theorem w_1159 : Cond.instanceMethod (⟨"ExpressionDeskModel", "around", "(III)I"⟩ : MethodName) ∈ hp_T := hp_i5 199 (by rfl) (by rfl)
theorem w_1160 : Cond.code (⟨"ExpressionDeskModel", "around", "(III)I"⟩ : MethodName) prog_9_method_55_code 5 (Option.some Jvm.ClassFile.FieldType.int) ∈ hp_T := hp_i5 200 (by rfl) (by rfl)
theorem w_1161 : Cond.methodLink "ExpressionDeskModel" 224 (⟨"ExpressionDeskModel", "goWith", "(II)Z"⟩ : MethodName) ∈ hp_T := hp_i5 201 (by rfl) (by rfl)
theorem w_1163 : Cond.instanceMethod (⟨"ExpressionDeskModel", "goWith", "(II)Z"⟩ : MethodName) ∈ hp_T := hp_i5 203 (by rfl) (by rfl)
theorem w_1164 : Cond.code (⟨"ExpressionDeskModel", "goWith", "(II)Z"⟩ : MethodName) prog_9_method_51_code 3 (Option.some Jvm.ClassFile.FieldType.boolean) ∈ hp_T := hp_i5 204 (by rfl) (by rfl)
theorem w_1165 : Cond.methodLink "ExpressionDeskModel" 227 (⟨"ExpressionDeskModel", "within", "(II)I"⟩ : MethodName) ∈ hp_T := hp_i5 205 (by rfl) (by rfl)
theorem w_1167 : Cond.instanceMethod (⟨"ExpressionDeskModel", "within", "(II)I"⟩ : MethodName) ∈ hp_T := hp_i5 207 (by rfl) (by rfl)
theorem w_1168 : Cond.code (⟨"ExpressionDeskModel", "within", "(II)I"⟩ : MethodName) prog_9_method_53_code 4 (Option.some Jvm.ClassFile.FieldType.int) ∈ hp_T := hp_i5 208 (by rfl) (by rfl)
theorem w_1169 : Cond.methodLink "ExpressionDeskModel" 220 (⟨"ExpressionDeskModel", "isAt", "(III)Z"⟩ : MethodName) ∈ hp_T := hp_i5 209 (by rfl) (by rfl)
theorem w_1171 : Cond.instanceMethod (⟨"ExpressionDeskModel", "isAt", "(III)Z"⟩ : MethodName) ∈ hp_T := hp_i5 211 (by rfl) (by rfl)
theorem w_1172 : Cond.code (⟨"ExpressionDeskModel", "isAt", "(III)Z"⟩ : MethodName) prog_9_method_52_code 6 (Option.some Jvm.ClassFile.FieldType.boolean) ∈ hp_T := hp_i5 212 (by rfl) (by rfl)
theorem w_1173 : Cond.methodLink "ExpressionDeskModel" 230 (⟨"ExpressionDeskModel", "piece", "(III)I"⟩ : MethodName) ∈ hp_T := hp_i5 213 (by rfl) (by rfl)
theorem w_1175 : Cond.instanceMethod (⟨"ExpressionDeskModel", "piece", "(III)I"⟩ : MethodName) ∈ hp_T := hp_i5 215 (by rfl) (by rfl)
theorem w_1176 : Cond.code (⟨"ExpressionDeskModel", "piece", "(III)I"⟩ : MethodName) prog_9_method_54_code 4 (Option.some Jvm.ClassFile.FieldType.int) ∈ hp_T := hp_i5 216 (by rfl) (by rfl)
theorem w_1177 : Cond.methodLink "ExpressionDeskModel" 271 (⟨"ExpressionDeskModel", "sum", "(III)I"⟩ : MethodName) ∈ hp_T := hp_i5 217 (by rfl) (by rfl)
theorem w_1179 : Cond.instanceMethod (⟨"ExpressionDeskModel", "sum", "(III)I"⟩ : MethodName) ∈ hp_T := hp_i5 219 (by rfl) (by rfl)
theorem w_1180 : Cond.code (⟨"ExpressionDeskModel", "sum", "(III)I"⟩ : MethodName) prog_9_method_16_code 5 (Option.some Jvm.ClassFile.FieldType.int) ∈ hp_T := hp_i5 220 (by rfl) (by rfl)
theorem w_1181 : Cond.methodLink "ExpressionDeskModel" 119 (⟨"ExpressionDeskModel", "join", "([I[II)V"⟩ : MethodName) ∈ hp_T := hp_i5 221 (by rfl) (by rfl)
theorem w_1182 : Cond.static (⟨"ExpressionDeskModel", "join", "([I[II)V"⟩ : MethodName) ∈ hp_T := hp_i5 222 (by rfl) (by rfl)
theorem w_1183 : Cond.code (⟨"ExpressionDeskModel", "join", "([I[II)V"⟩ : MethodName) prog_9_method_10_code 6 (Option.none : Option Jvm.ClassFile.FieldType) ∈ hp_T := hp_i5 223 (by rfl) (by rfl)
theorem w_1184 : Cond.methodLink "ExpressionDeskModel" 123 (⟨"ExpressionDeskModel", "areWholes", "(II)Z"⟩ : MethodName) ∈ hp_T := hp_i5 224 (by rfl) (by rfl)
theorem w_1186 : Cond.instanceMethod (⟨"ExpressionDeskModel", "areWholes", "(II)Z"⟩ : MethodName) ∈ hp_T := hp_i5 226 (by rfl) (by rfl)
theorem w_1187 : Cond.code (⟨"ExpressionDeskModel", "areWholes", "(II)Z"⟩ : MethodName) prog_9_method_15_code 3 (Option.some Jvm.ClassFile.FieldType.boolean) ∈ hp_T := hp_i5 227 (by rfl) (by rfl)
theorem w_1188 : Cond.methodLink "ExpressionDeskModel" 274 (⟨"ExpressionDeskModel", "product", "(II)I"⟩ : MethodName) ∈ hp_T := hp_i5 228 (by rfl) (by rfl)
theorem w_1190 : Cond.instanceMethod (⟨"ExpressionDeskModel", "product", "(II)I"⟩ : MethodName) ∈ hp_T := hp_i5 230 (by rfl) (by rfl)
theorem w_1191 : Cond.code (⟨"ExpressionDeskModel", "product", "(II)I"⟩ : MethodName) prog_9_method_17_code 8 (Option.some Jvm.ClassFile.FieldType.int) ∈ hp_T := hp_i5 231 (by rfl) (by rfl)
theorem w_1192 : Cond.methodLink "ExpressionDeskModel" 135 (⟨"ExpressionDeskModel", "round", "([I)V"⟩ : MethodName) ∈ hp_T := hp_i5 232 (by rfl) (by rfl)
theorem w_1193 : Cond.static (⟨"ExpressionDeskModel", "round", "([I)V"⟩ : MethodName) ∈ hp_T := hp_i5 233 (by rfl) (by rfl)
theorem w_1194 : Cond.code (⟨"ExpressionDeskModel", "round", "([I)V"⟩ : MethodName) prog_9_method_12_code 3 (Option.none : Option Jvm.ClassFile.FieldType) ∈ hp_T := hp_i5 234 (by rfl) (by rfl)
theorem w_1195 : Cond.methodLink "ExpressionDeskModel" 99 (⟨"ExpressionDeskModel", "raise", "([II)V"⟩ : MethodName) ∈ hp_T := hp_i5 235 (by rfl) (by rfl)
theorem w_1196 : Cond.static (⟨"ExpressionDeskModel", "raise", "([II)V"⟩ : MethodName) ∈ hp_T := hp_i5 236 (by rfl) (by rfl)
theorem w_1197 : Cond.code (⟨"ExpressionDeskModel", "raise", "([II)V"⟩ : MethodName) prog_9_method_11_code 3 (Option.none : Option Jvm.ClassFile.FieldType) ∈ hp_T := hp_i5 237 (by rfl) (by rfl)
theorem w_1198 : Cond.methodLink "ExpressionDeskModel" 277 (⟨"ExpressionDeskModel", "quotient", "(II)I"⟩ : MethodName) ∈ hp_T := hp_i5 238 (by rfl) (by rfl)
theorem w_1200 : Cond.instanceMethod (⟨"ExpressionDeskModel", "quotient", "(II)I"⟩ : MethodName) ∈ hp_T := hp_i6 0 (by rfl) (by rfl)
theorem w_1201 : Cond.code (⟨"ExpressionDeskModel", "quotient", "(II)I"⟩ : MethodName) prog_9_method_18_code 6 (Option.some Jvm.ClassFile.FieldType.int) ∈ hp_T := hp_i6 1 (by rfl) (by rfl)
theorem w_1202 : Cond.methodLink "ExpressionDeskModel" 305 (⟨"ExpressionDeskModel", "one", "(II)I"⟩ : MethodName) ∈ hp_T := hp_i6 2 (by rfl) (by rfl)
theorem w_1204 : Cond.instanceMethod (⟨"ExpressionDeskModel", "one", "(II)I"⟩ : MethodName) ∈ hp_T := hp_i6 4 (by rfl) (by rfl)
theorem w_1205 : Cond.code (⟨"ExpressionDeskModel", "one", "(II)I"⟩ : MethodName) prog_9_method_69_code 3 (Option.some Jvm.ClassFile.FieldType.int) ∈ hp_T := hp_i6 5 (by rfl) (by rfl)
theorem w_1206 : Cond.methodLink "ExpressionDeskModel" 280 (⟨"ExpressionDeskModel", "turned", "(IZ)I"⟩ : MethodName) ∈ hp_T := hp_i6 6 (by rfl) (by rfl)
theorem w_1208 : Cond.instanceMethod (⟨"ExpressionDeskModel", "turned", "(IZ)I"⟩ : MethodName) ∈ hp_T := hp_i6 8 (by rfl) (by rfl)
theorem w_1209 : Cond.code (⟨"ExpressionDeskModel", "turned", "(IZ)I"⟩ : MethodName) prog_9_method_20_code 3 (Option.some Jvm.ClassFile.FieldType.int) ∈ hp_T := hp_i6 9 (by rfl) (by rfl)
theorem w_1210 : Cond.methodLink "ExpressionDeskModel" 284 (⟨"ExpressionDeskModel", "wholeOf", "(II)I"⟩ : MethodName) ∈ hp_T := hp_i6 10 (by rfl) (by rfl)
theorem w_1212 : Cond.instanceMethod (⟨"ExpressionDeskModel", "wholeOf", "(II)I"⟩ : MethodName) ∈ hp_T := hp_i6 12 (by rfl) (by rfl)
theorem w_1213 : Cond.code (⟨"ExpressionDeskModel", "wholeOf", "(II)I"⟩ : MethodName) prog_9_method_19_code 7 (Option.some Jvm.ClassFile.FieldType.int) ∈ hp_T := hp_i6 13 (by rfl) (by rfl)
theorem w_1214 : Cond.methodLink "ExpressionDeskModel" 287 (⟨"ExpressionDeskModel", "cased", "(II)I"⟩ : MethodName) ∈ hp_T := hp_i6 14 (by rfl) (by rfl)
theorem w_1216 : Cond.instanceMethod (⟨"ExpressionDeskModel", "cased", "(II)I"⟩ : MethodName) ∈ hp_T := hp_i6 16 (by rfl) (by rfl)
theorem w_1217 : Cond.code (⟨"ExpressionDeskModel", "cased", "(II)I"⟩ : MethodName) prog_9_method_57_code 6 (Option.some Jvm.ClassFile.FieldType.int) ∈ hp_T := hp_i6 17 (by rfl) (by rfl)
theorem w_1218 : Cond.methodLink "ExpressionDeskModel" 290 (⟨"ExpressionDeskModel", "string", "(I)Z"⟩ : MethodName) ∈ hp_T := hp_i6 18 (by rfl) (by rfl)
theorem w_1220 : Cond.instanceMethod (⟨"ExpressionDeskModel", "string", "(I)Z"⟩ : MethodName) ∈ hp_T := hp_i6 20 (by rfl) (by rfl)
theorem w_1221 : Cond.code (⟨"ExpressionDeskModel", "string", "(I)Z"⟩ : MethodName) prog_9_method_47_code 2 (Option.some Jvm.ClassFile.FieldType.boolean) ∈ hp_T := hp_i6 21 (by rfl) (by rfl)
theorem w_1222 : Cond.methodLink "ExpressionDeskModel" 188 (⟨"ExpressionDeskModel", "digitsOf", "(I)V"⟩ : MethodName) ∈ hp_T := hp_i6 22 (by rfl) (by rfl)
theorem w_1224 : Cond.instanceMethod (⟨"ExpressionDeskModel", "digitsOf", "(I)V"⟩ : MethodName) ∈ hp_T := hp_i6 24 (by rfl) (by rfl)
theorem w_1225 : Cond.code (⟨"ExpressionDeskModel", "digitsOf", "(I)V"⟩ : MethodName) prog_9_method_49_code 4 (Option.none : Option Jvm.ClassFile.FieldType) ∈ hp_T := hp_i6 25 (by rfl) (by rfl)
theorem w_1226 : Cond.methodLink "ExpressionDeskModel" 191 (⟨"ExpressionDeskModel", "stringOfNumber", "(I)V"⟩ : MethodName) ∈ hp_T := hp_i6 26 (by rfl) (by rfl)
theorem w_1228 : Cond.instanceMethod (⟨"ExpressionDeskModel", "stringOfNumber", "(I)V"⟩ : MethodName) ∈ hp_T := hp_i6 28 (by rfl) (by rfl)
theorem w_1229 : Cond.code (⟨"ExpressionDeskModel", "stringOfNumber", "(I)V"⟩ : MethodName) prog_9_method_50_code 4 (Option.none : Option Jvm.ClassFile.FieldType) ∈ hp_T := hp_i6 29 (by rfl) (by rfl)
theorem w_1235 : Cond.methodLink "ExpressionDeskModel" 206 (⟨"java/lang/String", "length", "()I"⟩ : MethodName) ∈ hp_T := hp_i6 35 (by rfl) (by rfl)
theorem w_1239 : Cond.methodLink "ExpressionDeskLaw" 85 (⟨"ExpressionDeskModel", "test", "()I"⟩ : MethodName) ∈ hp_T := hp_i6 39 (by rfl) (by rfl)
theorem w_1240 : Cond.instanceMethod (⟨"ExpressionDeskModel", "test", "()I"⟩ : MethodName) ∈ hp_T := hp_i6 40 (by rfl) (by rfl)
theorem w_1241 : Cond.selects "ExpressionDeskModel" (⟨"ExpressionDeskModel", "test", "()I"⟩ : MethodName) (⟨"ExpressionDeskModel", "test", "()I"⟩ : MethodName) ∈ hp_T := hp_i6 41 (by rfl) (by rfl)
theorem w_1242 : Cond.code (⟨"ExpressionDeskModel", "test", "()I"⟩ : MethodName) prog_9_method_72_code 2 (Option.some Jvm.ClassFile.FieldType.int) ∈ hp_T := hp_i6 42 (by rfl) (by rfl)
theorem w_1243 : Cond.methodLink "ExpressionDeskModel" 315 (⟨"ExpressionDeskModel", "run", "()I"⟩ : MethodName) ∈ hp_T := hp_i6 43 (by rfl) (by rfl)
theorem w_1244 : Cond.methodLink "ExpressionDeskLaw" 90 (⟨"ExpressionDeskModel", "gather", "(IZI)I"⟩ : MethodName) ∈ hp_T := hp_i6 44 (by rfl) (by rfl)
theorem w_1245 : Cond.instanceMethod (⟨"ExpressionDeskModel", "gather", "(IZI)I"⟩ : MethodName) ∈ hp_T := hp_i6 45 (by rfl) (by rfl)
theorem w_1246 : Cond.selects "ExpressionDeskModel" (⟨"ExpressionDeskModel", "gather", "(IZI)I"⟩ : MethodName) (⟨"ExpressionDeskModel", "gather", "(IZI)I"⟩ : MethodName) ∈ hp_T := hp_i6 46 (by rfl) (by rfl)
theorem w_1247 : Cond.code (⟨"ExpressionDeskModel", "gather", "(IZI)I"⟩ : MethodName) prog_9_method_73_code 4 (Option.some Jvm.ClassFile.FieldType.int) ∈ hp_T := hp_i6 47 (by rfl) (by rfl)
theorem w_1248 : Cond.methodLink "ExpressionDeskLaw" 95 (⟨"ExpressionDeskModel", "add", "(I)I"⟩ : MethodName) ∈ hp_T := hp_i6 48 (by rfl) (by rfl)
theorem w_1249 : Cond.instanceMethod (⟨"ExpressionDeskModel", "add", "(I)I"⟩ : MethodName) ∈ hp_T := hp_i6 49 (by rfl) (by rfl)
theorem w_1250 : Cond.selects "ExpressionDeskModel" (⟨"ExpressionDeskModel", "add", "(I)I"⟩ : MethodName) (⟨"ExpressionDeskModel", "add", "(I)I"⟩ : MethodName) ∈ hp_T := hp_i6 50 (by rfl) (by rfl)
theorem w_1251 : Cond.code (⟨"ExpressionDeskModel", "add", "(I)I"⟩ : MethodName) prog_9_method_74_code 3 (Option.some Jvm.ClassFile.FieldType.int) ∈ hp_T := hp_i6 51 (by rfl) (by rfl)
theorem w_1252 : Cond.methodLink "ExpressionDeskLaw" 99 (⟨"ExpressionDeskModel", "together", "()I"⟩ : MethodName) ∈ hp_T := hp_i6 52 (by rfl) (by rfl)
theorem w_1253 : Cond.instanceMethod (⟨"ExpressionDeskModel", "together", "()I"⟩ : MethodName) ∈ hp_T := hp_i6 53 (by rfl) (by rfl)
theorem w_1254 : Cond.selects "ExpressionDeskModel" (⟨"ExpressionDeskModel", "together", "()I"⟩ : MethodName) (⟨"ExpressionDeskModel", "together", "()I"⟩ : MethodName) ∈ hp_T := hp_i6 54 (by rfl) (by rfl)
theorem w_1255 : Cond.code (⟨"ExpressionDeskModel", "together", "()I"⟩ : MethodName) prog_9_method_80_code 3 (Option.some Jvm.ClassFile.FieldType.int) ∈ hp_T := hp_i6 55 (by rfl) (by rfl)
theorem w_1256 : Cond.methodLink "ExpressionDeskModel" 340 (⟨"ExpressionDeskModel", "sumAll", "()Z"⟩ : MethodName) ∈ hp_T := hp_i6 56 (by rfl) (by rfl)
theorem w_1258 : Cond.instanceMethod (⟨"ExpressionDeskModel", "sumAll", "()Z"⟩ : MethodName) ∈ hp_T := hp_i6 58 (by rfl) (by rfl)
theorem w_1259 : Cond.code (⟨"ExpressionDeskModel", "sumAll", "()Z"⟩ : MethodName) prog_9_method_75_code 4 (Option.some Jvm.ClassFile.FieldType.boolean) ∈ hp_T := hp_i6 59 (by rfl) (by rfl)
theorem w_1260 : Cond.methodLink "ExpressionDeskModel" 337 (⟨"ExpressionDeskModel", "isFit", "()Z"⟩ : MethodName) ∈ hp_T := hp_i6 60 (by rfl) (by rfl)
theorem w_1262 : Cond.instanceMethod (⟨"ExpressionDeskModel", "isFit", "()Z"⟩ : MethodName) ∈ hp_T := hp_i6 62 (by rfl) (by rfl)
theorem w_1263 : Cond.code (⟨"ExpressionDeskModel", "isFit", "()Z"⟩ : MethodName) prog_9_method_76_code 4 (Option.some Jvm.ClassFile.FieldType.boolean) ∈ hp_T := hp_i6 63 (by rfl) (by rfl)
theorem w_1264 : Cond.methodLink "ExpressionDeskModel" 343 (⟨"ExpressionDeskModel", "extreme", "(I)I"⟩ : MethodName) ∈ hp_T := hp_i6 64 (by rfl) (by rfl)
theorem w_1266 : Cond.instanceMethod (⟨"ExpressionDeskModel", "extreme", "(I)I"⟩ : MethodName) ∈ hp_T := hp_i6 66 (by rfl) (by rfl)
theorem w_1267 : Cond.code (⟨"ExpressionDeskModel", "extreme", "(I)I"⟩ : MethodName) prog_9_method_78_code 5 (Option.some Jvm.ClassFile.FieldType.int) ∈ hp_T := hp_i6 67 (by rfl) (by rfl)
theorem w_1268 : Cond.methodLink "ExpressionDeskModel" 346 (⟨"ExpressionDeskModel", "average", "()I"⟩ : MethodName) ∈ hp_T := hp_i6 68 (by rfl) (by rfl)
theorem w_1270 : Cond.instanceMethod (⟨"ExpressionDeskModel", "average", "()I"⟩ : MethodName) ∈ hp_T := hp_i6 70 (by rfl) (by rfl)
theorem w_1271 : Cond.code (⟨"ExpressionDeskModel", "average", "()I"⟩ : MethodName) prog_9_method_77_code 3 (Option.some Jvm.ClassFile.FieldType.int) ∈ hp_T := hp_i6 71 (by rfl) (by rfl)
theorem w_1272 : Cond.methodLink "ExpressionDeskModel" 349 (⟨"ExpressionDeskModel", "row", "()I"⟩ : MethodName) ∈ hp_T := hp_i6 72 (by rfl) (by rfl)
theorem w_1274 : Cond.instanceMethod (⟨"ExpressionDeskModel", "row", "()I"⟩ : MethodName) ∈ hp_T := hp_i6 74 (by rfl) (by rfl)
theorem w_1275 : Cond.code (⟨"ExpressionDeskModel", "row", "()I"⟩ : MethodName) prog_9_method_79_code 5 (Option.some Jvm.ClassFile.FieldType.int) ∈ hp_T := hp_i6 75 (by rfl) (by rfl)
theorem w_1276 : Cond.constantLong "ExpressionDeskLaw" 13 4294967295 ∈ hp_T := hp_i6 76 (by rfl) (by rfl)
theorem ws_0 : Cond.selects "ExpressionDesk$Store" (⟨"ExpressionDesk$Store", "keep", "(IIJILExpressionDesk$Row;)I"⟩ : MethodName) (⟨"ExpressionDesk$Store", "keep", "(IIJILExpressionDesk$Row;)I"⟩ : MethodName) ∈ hp_T := hp_is 0 (by rfl) (by rfl)
theorem ws_1 : Cond.selects "java/util/ArrayList" (⟨"java/util/ArrayList", "add", "(Ljava/lang/Object;[Ljava/lang/Object;I)V"⟩ : MethodName) (⟨"java/util/ArrayList", "add", "(Ljava/lang/Object;[Ljava/lang/Object;I)V"⟩ : MethodName) ∈ hp_T := hp_is 1 (by rfl) (by rfl)
theorem ws_2 : Cond.selects "java/util/ArrayList" (⟨"java/util/ArrayList", "grow", "()[Ljava/lang/Object;"⟩ : MethodName) (⟨"java/util/ArrayList", "grow", "()[Ljava/lang/Object;"⟩ : MethodName) ∈ hp_T := hp_is 2 (by rfl) (by rfl)
theorem ws_3 : Cond.selects "java/util/ArrayList" (⟨"java/util/ArrayList", "grow", "(I)[Ljava/lang/Object;"⟩ : MethodName) (⟨"java/util/ArrayList", "grow", "(I)[Ljava/lang/Object;"⟩ : MethodName) ∈ hp_T := hp_is 3 (by rfl) (by rfl)
theorem ws_4 : Cond.selects "ExpressionDesk$Value" (⟨"ExpressionDesk$Value", "comparedByBytes", "(LExpressionDesk$Value;)I"⟩ : MethodName) (⟨"ExpressionDesk$Value", "comparedByBytes", "(LExpressionDesk$Value;)I"⟩ : MethodName) ∈ hp_T := hp_is 4 (by rfl) (by rfl)
theorem ws_5 : Cond.selects "ExpressionDesk$Expression" (⟨"ExpressionDesk$Expression", "isRight", "()Z"⟩ : MethodName) (⟨"ExpressionDesk$Expression", "isRight", "()Z"⟩ : MethodName) ∈ hp_T := hp_is 5 (by rfl) (by rfl)
theorem ws_6 : Cond.selects "ExpressionDesk$Expression" (⟨"ExpressionDesk$Expression", "performWithErrors", "(II)I"⟩ : MethodName) (⟨"ExpressionDesk$Expression", "performWithErrors", "(II)I"⟩ : MethodName) ∈ hp_T := hp_is 6 (by rfl) (by rfl)
theorem ws_7 : Cond.selects "ExpressionDesk$Expression" (⟨"ExpressionDesk$Expression", "boundTo", "(I)I"⟩ : MethodName) (⟨"ExpressionDesk$Expression", "boundTo", "(I)I"⟩ : MethodName) ∈ hp_T := hp_is 7 (by rfl) (by rfl)
theorem ws_8 : Cond.selects "ExpressionDesk$Expression" (⟨"ExpressionDesk$Expression", "decidedBy", "(I)I"⟩ : MethodName) (⟨"ExpressionDesk$Expression", "decidedBy", "(I)I"⟩ : MethodName) ∈ hp_T := hp_is 8 (by rfl) (by rfl)
theorem ws_9 : Cond.selects "ExpressionDesk$Expression" (⟨"ExpressionDesk$Expression", "taken", "(I)LExpressionDesk$Value;"⟩ : MethodName) (⟨"ExpressionDesk$Expression", "taken", "(I)LExpressionDesk$Value;"⟩ : MethodName) ∈ hp_T := hp_is 9 (by rfl) (by rfl)
theorem ws_10 : Cond.selects "ExpressionDesk$Expression" (⟨"ExpressionDesk$Expression", "numberTaken", "(I)I"⟩ : MethodName) (⟨"ExpressionDesk$Expression", "numberTaken", "(I)I"⟩ : MethodName) ∈ hp_T := hp_is 10 (by rfl) (by rfl)
theorem ws_11 : Cond.selects "ExpressionDesk$Expression" (⟨"ExpressionDesk$Expression", "chosen", "()I"⟩ : MethodName) (⟨"ExpressionDesk$Expression", "chosen", "()I"⟩ : MethodName) ∈ hp_T := hp_is 11 (by rfl) (by rfl)
theorem ws_12 : Cond.selects "ExpressionDesk$Expression" (⟨"ExpressionDesk$Expression", "firstGood", "(I)I"⟩ : MethodName) (⟨"ExpressionDesk$Expression", "firstGood", "(I)I"⟩ : MethodName) ∈ hp_T := hp_is 12 (by rfl) (by rfl)
theorem ws_13 : Cond.selects "ExpressionDesk$Expression" (⟨"ExpressionDesk$Expression", "among", "(I)I"⟩ : MethodName) (⟨"ExpressionDesk$Expression", "among", "(I)I"⟩ : MethodName) ∈ hp_T := hp_is 13 (by rfl) (by rfl)
theorem ws_14 : Cond.selects "ExpressionDesk$Expression" (⟨"ExpressionDesk$Expression", "equal", "(II)I"⟩ : MethodName) (⟨"ExpressionDesk$Expression", "equal", "(II)I"⟩ : MethodName) ∈ hp_T := hp_is 14 (by rfl) (by rfl)
theorem ws_15 : Cond.selects "ExpressionDesk$Expression" (⟨"ExpressionDesk$Expression", "hasTakenError", "(I)Z"⟩ : MethodName) (⟨"ExpressionDesk$Expression", "hasTakenError", "(I)Z"⟩ : MethodName) ∈ hp_T := hp_is 15 (by rfl) (by rfl)
theorem ws_16 : Cond.selects "ExpressionDesk$Expression" (⟨"ExpressionDesk$Expression", "performOnValues", "(II)I"⟩ : MethodName) (⟨"ExpressionDesk$Expression", "performOnValues", "(II)I"⟩ : MethodName) ∈ hp_T := hp_is 16 (by rfl) (by rfl)
theorem ws_17 : Cond.selects "ExpressionDesk$Expression" (⟨"ExpressionDesk$Expression", "judged", "(II)I"⟩ : MethodName) (⟨"ExpressionDesk$Expression", "judged", "(II)I"⟩ : MethodName) ∈ hp_T := hp_is 17 (by rfl) (by rfl)
theorem ws_18 : Cond.selects "ExpressionDesk$Expression" (⟨"ExpressionDesk$Expression", "compared", "(I)I"⟩ : MethodName) (⟨"ExpressionDesk$Expression", "compared", "(I)I"⟩ : MethodName) ∈ hp_T := hp_is 18 (by rfl) (by rfl)
theorem ws_19 : Cond.selects "ExpressionDesk$Expression" (⟨"ExpressionDesk$Expression", "reckoned", "(I)I"⟩ : MethodName) (⟨"ExpressionDesk$Expression", "reckoned", "(I)I"⟩ : MethodName) ∈ hp_T := hp_is 19 (by rfl) (by rfl)
theorem ws_20 : Cond.selects "ExpressionDesk$Reckoner" (⟨"ExpressionDesk$Reckoner", "settle", "(ZJJ)V"⟩ : MethodName) (⟨"ExpressionDesk$Reckoner", "settle", "(ZJJ)V"⟩ : MethodName) ∈ hp_T := hp_is 20 (by rfl) (by rfl)
theorem ws_21 : Cond.selects "ExpressionDesk$Expression" (⟨"ExpressionDesk$Expression", "ofNumber", "(I)I"⟩ : MethodName) (⟨"ExpressionDesk$Expression", "ofNumber", "(I)I"⟩ : MethodName) ∈ hp_T := hp_is 21 (by rfl) (by rfl)
theorem ws_22 : Cond.selects "ExpressionDesk$Expression" (⟨"ExpressionDesk$Expression", "chained", "(I)I"⟩ : MethodName) (⟨"ExpressionDesk$Expression", "chained", "(I)I"⟩ : MethodName) ∈ hp_T := hp_is 22 (by rfl) (by rfl)
theorem ws_23 : Cond.selects "ExpressionDesk$Expression" (⟨"ExpressionDesk$Expression", "ofText", "(I)I"⟩ : MethodName) (⟨"ExpressionDesk$Expression", "ofText", "(I)I"⟩ : MethodName) ∈ hp_T := hp_is 23 (by rfl) (by rfl)
theorem ws_24 : Cond.selects "ExpressionDesk$Expression" (⟨"ExpressionDesk$Expression", "part", "(LExpressionDesk$Value;LExpressionDesk$Value;LExpressionDesk$Value;)I"⟩ : MethodName) (⟨"ExpressionDesk$Expression", "part", "(LExpressionDesk$Value;LExpressionDesk$Value;LExpressionDesk$Value;)I"⟩ : MethodName) ∈ hp_T := hp_is 24 (by rfl) (by rfl)
theorem ws_25 : Cond.selects "ExpressionDesk$Expression" (⟨"ExpressionDesk$Expression", "turned", "(LExpressionDesk$Value;III)I"⟩ : MethodName) (⟨"ExpressionDesk$Expression", "turned", "(LExpressionDesk$Value;III)I"⟩ : MethodName) ∈ hp_T := hp_is 25 (by rfl) (by rfl)
theorem ws_26 : Cond.selects "ExpressionDesk$Expression" (⟨"ExpressionDesk$Expression", "searched", "(I)I"⟩ : MethodName) (⟨"ExpressionDesk$Expression", "searched", "(I)I"⟩ : MethodName) ∈ hp_T := hp_is 26 (by rfl) (by rfl)
theorem ws_27 : Cond.selects "ExpressionDesk$Expression" (⟨"ExpressionDesk$Expression", "cut", "(LExpressionDesk$Value;III)I"⟩ : MethodName) (⟨"ExpressionDesk$Expression", "cut", "(LExpressionDesk$Value;III)I"⟩ : MethodName) ∈ hp_T := hp_is 27 (by rfl) (by rfl)
theorem ws_28 : Cond.selects "ExpressionDesk$Expression" (⟨"ExpressionDesk$Expression", "ofAny", "(I)I"⟩ : MethodName) (⟨"ExpressionDesk$Expression", "ofAny", "(I)I"⟩ : MethodName) ∈ hp_T := hp_is 28 (by rfl) (by rfl)
theorem ws_29 : Cond.selects "ExpressionDesk$Expression" (⟨"ExpressionDesk$Expression", "tagText", "(LExpressionDesk$Value;)I"⟩ : MethodName) (⟨"ExpressionDesk$Expression", "tagText", "(LExpressionDesk$Value;)I"⟩ : MethodName) ∈ hp_T := hp_is 29 (by rfl) (by rfl)
theorem ws_30 : Cond.selects "ExpressionDesk$Expression" (⟨"ExpressionDesk$Expression", "typeName", "(LExpressionDesk$Value;)I"⟩ : MethodName) (⟨"ExpressionDesk$Expression", "typeName", "(LExpressionDesk$Value;)I"⟩ : MethodName) ∈ hp_T := hp_is 30 (by rfl) (by rfl)
theorem ws_31 : Cond.selects "ExpressionDesk$Gathering" (⟨"ExpressionDesk$Gathering", "isThere", "(I)Z"⟩ : MethodName) (⟨"ExpressionDesk$Gathering", "isThere", "(I)Z"⟩ : MethodName) ∈ hp_T := hp_is 31 (by rfl) (by rfl)
theorem ws_32 : Cond.selects "ExpressionDesk$Gathering" (⟨"ExpressionDesk$Gathering", "countGood", "()I"⟩ : MethodName) (⟨"ExpressionDesk$Gathering", "countGood", "()I"⟩ : MethodName) ∈ hp_T := hp_is 32 (by rfl) (by rfl)
theorem ws_33 : Cond.selects "ExpressionDesk$Gathering" (⟨"ExpressionDesk$Gathering", "reckonSum", "()V"⟩ : MethodName) (⟨"ExpressionDesk$Gathering", "reckonSum", "()V"⟩ : MethodName) ∈ hp_T := hp_is 33 (by rfl) (by rfl)
theorem ws_34 : Cond.selects "ExpressionDesk$Gathering" (⟨"ExpressionDesk$Gathering", "outermost", "(I)I"⟩ : MethodName) (⟨"ExpressionDesk$Gathering", "outermost", "(I)I"⟩ : MethodName) ∈ hp_T := hp_is 34 (by rfl) (by rfl)
theorem ws_35 : Cond.selects "ExpressionDesk$Gathering" (⟨"ExpressionDesk$Gathering", "joined", "()I"⟩ : MethodName) (⟨"ExpressionDesk$Gathering", "joined", "()I"⟩ : MethodName) ∈ hp_T := hp_is 35 (by rfl) (by rfl)
theorem ws_36 : Cond.selects "ExpressionDesk$Gathering" (⟨"ExpressionDesk$Gathering", "putAll", "([I)Z"⟩ : MethodName) (⟨"ExpressionDesk$Gathering", "putAll", "([I)Z"⟩ : MethodName) ∈ hp_T := hp_is 36 (by rfl) (by rfl)
theorem ws_37 : Cond.selects "ExpressionDesk$Gathering" (⟨"ExpressionDesk$Gathering", "sortGathered", "()V"⟩ : MethodName) (⟨"ExpressionDesk$Gathering", "sortGathered", "()V"⟩ : MethodName) ∈ hp_T := hp_is 37 (by rfl) (by rfl)
theorem ws_38 : Cond.selects "ExpressionDeskModel" (⟨"ExpressionDeskModel", "numbered", "(JIZ)I"⟩ : MethodName) (⟨"ExpressionDeskModel", "numbered", "(JIZ)I"⟩ : MethodName) ∈ hp_T := hp_is 38 (by rfl) (by rfl)
theorem ws_39 : Cond.selects "ExpressionDeskModel" (⟨"ExpressionDeskModel", "number", "([IIZ)I"⟩ : MethodName) (⟨"ExpressionDeskModel", "number", "([IIZ)I"⟩ : MethodName) ∈ hp_T := hp_is 39 (by rfl) (by rfl)
theorem ws_40 : Cond.selects "ExpressionDeskModel" (⟨"ExpressionDeskModel", "start", "(II)V"⟩ : MethodName) (⟨"ExpressionDeskModel", "start", "(II)V"⟩ : MethodName) ∈ hp_T := hp_is 40 (by rfl) (by rfl)
theorem ws_41 : Cond.selects "ExpressionDeskModel" (⟨"ExpressionDeskModel", "keep", "()I"⟩ : MethodName) (⟨"ExpressionDeskModel", "keep", "()I"⟩ : MethodName) ∈ hp_T := hp_is 41 (by rfl) (by rfl)
theorem ws_42 : Cond.selects "ExpressionDeskModel" (⟨"ExpressionDeskModel", "isIt", "(I)Z"⟩ : MethodName) (⟨"ExpressionDeskModel", "isIt", "(I)Z"⟩ : MethodName) ∈ hp_T := hp_is 42 (by rfl) (by rfl)
theorem ws_43 : Cond.selects "ExpressionDeskModel" (⟨"ExpressionDeskModel", "letter", "(I)V"⟩ : MethodName) (⟨"ExpressionDeskModel", "letter", "(I)V"⟩ : MethodName) ∈ hp_T := hp_is 43 (by rfl) (by rfl)
theorem ws_44 : Cond.selects "ExpressionDeskModel" (⟨"ExpressionDeskModel", "isValue", "(I)Z"⟩ : MethodName) (⟨"ExpressionDeskModel", "isValue", "(I)Z"⟩ : MethodName) ∈ hp_T := hp_is 44 (by rfl) (by rfl)
theorem ws_45 : Cond.selects "ExpressionDeskModel" (⟨"ExpressionDeskModel", "orderOf", "(II)I"⟩ : MethodName) (⟨"ExpressionDeskModel", "orderOf", "(II)I"⟩ : MethodName) ∈ hp_T := hp_is 45 (by rfl) (by rfl)
theorem ws_46 : Cond.selects "ExpressionDeskModel" (⟨"ExpressionDeskModel", "rank", "(I)I"⟩ : MethodName) (⟨"ExpressionDeskModel", "rank", "(I)I"⟩ : MethodName) ∈ hp_T := hp_is 46 (by rfl) (by rfl)
theorem ws_47 : Cond.selects "ExpressionDeskModel" (⟨"ExpressionDeskModel", "isNumber", "(I)Z"⟩ : MethodName) (⟨"ExpressionDeskModel", "isNumber", "(I)Z"⟩ : MethodName) ∈ hp_T := hp_is 47 (by rfl) (by rfl)
theorem ws_48 : Cond.selects "ExpressionDeskModel" (⟨"ExpressionDeskModel", "orderNumbers", "(II)I"⟩ : MethodName) (⟨"ExpressionDeskModel", "orderNumbers", "(II)I"⟩ : MethodName) ∈ hp_T := hp_is 48 (by rfl) (by rfl)
theorem ws_49 : Cond.selects "ExpressionDeskModel" (⟨"ExpressionDeskModel", "lay", "(I[I)V"⟩ : MethodName) (⟨"ExpressionDeskModel", "lay", "(I[I)V"⟩ : MethodName) ∈ hp_T := hp_is 49 (by rfl) (by rfl)
theorem ws_50 : Cond.selects "ExpressionDeskModel" (⟨"ExpressionDeskModel", "orderBytes", "(II)I"⟩ : MethodName) (⟨"ExpressionDeskModel", "orderBytes", "(II)I"⟩ : MethodName) ∈ hp_T := hp_is 50 (by rfl) (by rfl)
theorem ws_51 : Cond.selects "ExpressionDeskModel" (⟨"ExpressionDeskModel", "isRight", "()Z"⟩ : MethodName) (⟨"ExpressionDeskModel", "isRight", "()Z"⟩ : MethodName) ∈ hp_T := hp_is 51 (by rfl) (by rfl)
theorem ws_52 : Cond.selects "ExpressionDeskModel" (⟨"ExpressionDeskModel", "takes", "(I)I"⟩ : MethodName) (⟨"ExpressionDeskModel", "takes", "(I)I"⟩ : MethodName) ∈ hp_T := hp_is 52 (by rfl) (by rfl)
theorem ws_53 : Cond.selects "ExpressionDeskModel" (⟨"ExpressionDeskModel", "done", "(II)I"⟩ : MethodName) (⟨"ExpressionDeskModel", "done", "(II)I"⟩ : MethodName) ∈ hp_T := hp_is 53 (by rfl) (by rfl)
theorem ws_54 : Cond.selects "ExpressionDeskModel" (⟨"ExpressionDeskModel", "ofItsOwn", "(II)I"⟩ : MethodName) (⟨"ExpressionDeskModel", "ofItsOwn", "(II)I"⟩ : MethodName) ∈ hp_T := hp_is 54 (by rfl) (by rfl)
theorem ws_55 : Cond.selects "ExpressionDeskModel" (⟨"ExpressionDeskModel", "bindingOf", "(I)I"⟩ : MethodName) (⟨"ExpressionDeskModel", "bindingOf", "(I)I"⟩ : MethodName) ∈ hp_T := hp_is 55 (by rfl) (by rfl)
theorem ws_56 : Cond.selects "ExpressionDeskModel" (⟨"ExpressionDeskModel", "both", "(III)I"⟩ : MethodName) (⟨"ExpressionDeskModel", "both", "(III)I"⟩ : MethodName) ∈ hp_T := hp_is 56 (by rfl) (by rfl)
theorem ws_57 : Cond.selects "ExpressionDeskModel" (⟨"ExpressionDeskModel", "truthOf", "(I)I"⟩ : MethodName) (⟨"ExpressionDeskModel", "truthOf", "(I)I"⟩ : MethodName) ∈ hp_T := hp_is 57 (by rfl) (by rfl)
theorem ws_58 : Cond.selects "ExpressionDeskModel" (⟨"ExpressionDeskModel", "given", "(I)I"⟩ : MethodName) (⟨"ExpressionDeskModel", "given", "(I)I"⟩ : MethodName) ∈ hp_T := hp_is 58 (by rfl) (by rfl)
theorem ws_59 : Cond.selects "ExpressionDeskModel" (⟨"ExpressionDeskModel", "isIn", "(II)I"⟩ : MethodName) (⟨"ExpressionDeskModel", "isIn", "(II)I"⟩ : MethodName) ∈ hp_T := hp_is 59 (by rfl) (by rfl)
theorem ws_60 : Cond.selects "ExpressionDeskModel" (⟨"ExpressionDeskModel", "equal", "(II)I"⟩ : MethodName) (⟨"ExpressionDeskModel", "equal", "(II)I"⟩ : MethodName) ∈ hp_T := hp_is 60 (by rfl) (by rfl)
theorem ws_61 : Cond.selects "ExpressionDeskModel" (⟨"ExpressionDeskModel", "rowOf", "(II)I"⟩ : MethodName) (⟨"ExpressionDeskModel", "rowOf", "(II)I"⟩ : MethodName) ∈ hp_T := hp_is 61 (by rfl) (by rfl)
theorem ws_62 : Cond.selects "ExpressionDeskModel" (⟨"ExpressionDeskModel", "isPlain", "(I)Z"⟩ : MethodName) (⟨"ExpressionDeskModel", "isPlain", "(I)Z"⟩ : MethodName) ∈ hp_T := hp_is 62 (by rfl) (by rfl)
theorem ws_63 : Cond.selects "ExpressionDeskModel" (⟨"ExpressionDeskModel", "letterAll", "(III)V"⟩ : MethodName) (⟨"ExpressionDeskModel", "letterAll", "(III)V"⟩ : MethodName) ∈ hp_T := hp_is 63 (by rfl) (by rfl)
theorem ws_64 : Cond.selects "ExpressionDeskModel" (⟨"ExpressionDeskModel", "some", "(III)I"⟩ : MethodName) (⟨"ExpressionDeskModel", "some", "(III)I"⟩ : MethodName) ∈ hp_T := hp_is 64 (by rfl) (by rfl)
theorem ws_65 : Cond.selects "ExpressionDeskModel" (⟨"ExpressionDeskModel", "two", "(III)I"⟩ : MethodName) (⟨"ExpressionDeskModel", "two", "(III)I"⟩ : MethodName) ∈ hp_T := hp_is 65 (by rfl) (by rfl)
theorem ws_66 : Cond.selects "ExpressionDeskModel" (⟨"ExpressionDeskModel", "less", "(II)I"⟩ : MethodName) (⟨"ExpressionDeskModel", "less", "(II)I"⟩ : MethodName) ∈ hp_T := hp_is 66 (by rfl) (by rfl)
theorem ws_67 : Cond.selects "ExpressionDeskModel" (⟨"ExpressionDeskModel", "around", "(III)I"⟩ : MethodName) (⟨"ExpressionDeskModel", "around", "(III)I"⟩ : MethodName) ∈ hp_T := hp_is 67 (by rfl) (by rfl)
theorem ws_68 : Cond.selects "ExpressionDeskModel" (⟨"ExpressionDeskModel", "goWith", "(II)Z"⟩ : MethodName) (⟨"ExpressionDeskModel", "goWith", "(II)Z"⟩ : MethodName) ∈ hp_T := hp_is 68 (by rfl) (by rfl)
theorem ws_69 : Cond.selects "ExpressionDeskModel" (⟨"ExpressionDeskModel", "within", "(II)I"⟩ : MethodName) (⟨"ExpressionDeskModel", "within", "(II)I"⟩ : MethodName) ∈ hp_T := hp_is 69 (by rfl) (by rfl)
theorem ws_70 : Cond.selects "ExpressionDeskModel" (⟨"ExpressionDeskModel", "isAt", "(III)Z"⟩ : MethodName) (⟨"ExpressionDeskModel", "isAt", "(III)Z"⟩ : MethodName) ∈ hp_T := hp_is 70 (by rfl) (by rfl)
theorem ws_71 : Cond.selects "ExpressionDeskModel" (⟨"ExpressionDeskModel", "piece", "(III)I"⟩ : MethodName) (⟨"ExpressionDeskModel", "piece", "(III)I"⟩ : MethodName) ∈ hp_T := hp_is 71 (by rfl) (by rfl)
theorem ws_72 : Cond.selects "ExpressionDeskModel" (⟨"ExpressionDeskModel", "sum", "(III)I"⟩ : MethodName) (⟨"ExpressionDeskModel", "sum", "(III)I"⟩ : MethodName) ∈ hp_T := hp_is 72 (by rfl) (by rfl)
theorem ws_73 : Cond.selects "ExpressionDeskModel" (⟨"ExpressionDeskModel", "areWholes", "(II)Z"⟩ : MethodName) (⟨"ExpressionDeskModel", "areWholes", "(II)Z"⟩ : MethodName) ∈ hp_T := hp_is 73 (by rfl) (by rfl)
theorem ws_74 : Cond.selects "ExpressionDeskModel" (⟨"ExpressionDeskModel", "product", "(II)I"⟩ : MethodName) (⟨"ExpressionDeskModel", "product", "(II)I"⟩ : MethodName) ∈ hp_T := hp_is 74 (by rfl) (by rfl)
theorem ws_75 : Cond.selects "ExpressionDeskModel" (⟨"ExpressionDeskModel", "quotient", "(II)I"⟩ : MethodName) (⟨"ExpressionDeskModel", "quotient", "(II)I"⟩ : MethodName) ∈ hp_T := hp_is 75 (by rfl) (by rfl)
theorem ws_76 : Cond.selects "ExpressionDeskModel" (⟨"ExpressionDeskModel", "one", "(II)I"⟩ : MethodName) (⟨"ExpressionDeskModel", "one", "(II)I"⟩ : MethodName) ∈ hp_T := hp_is 76 (by rfl) (by rfl)
theorem ws_77 : Cond.selects "ExpressionDeskModel" (⟨"ExpressionDeskModel", "turned", "(IZ)I"⟩ : MethodName) (⟨"ExpressionDeskModel", "turned", "(IZ)I"⟩ : MethodName) ∈ hp_T := hp_is 77 (by rfl) (by rfl)
theorem ws_78 : Cond.selects "ExpressionDeskModel" (⟨"ExpressionDeskModel", "wholeOf", "(II)I"⟩ : MethodName) (⟨"ExpressionDeskModel", "wholeOf", "(II)I"⟩ : MethodName) ∈ hp_T := hp_is 78 (by rfl) (by rfl)
theorem ws_79 : Cond.selects "ExpressionDeskModel" (⟨"ExpressionDeskModel", "cased", "(II)I"⟩ : MethodName) (⟨"ExpressionDeskModel", "cased", "(II)I"⟩ : MethodName) ∈ hp_T := hp_is 79 (by rfl) (by rfl)
theorem ws_80 : Cond.selects "ExpressionDeskModel" (⟨"ExpressionDeskModel", "string", "(I)Z"⟩ : MethodName) (⟨"ExpressionDeskModel", "string", "(I)Z"⟩ : MethodName) ∈ hp_T := hp_is 80 (by rfl) (by rfl)
theorem ws_81 : Cond.selects "ExpressionDeskModel" (⟨"ExpressionDeskModel", "digitsOf", "(I)V"⟩ : MethodName) (⟨"ExpressionDeskModel", "digitsOf", "(I)V"⟩ : MethodName) ∈ hp_T := hp_is 81 (by rfl) (by rfl)
theorem ws_82 : Cond.selects "ExpressionDeskModel" (⟨"ExpressionDeskModel", "stringOfNumber", "(I)V"⟩ : MethodName) (⟨"ExpressionDeskModel", "stringOfNumber", "(I)V"⟩ : MethodName) ∈ hp_T := hp_is 82 (by rfl) (by rfl)
theorem ws_84 : Cond.selects "ExpressionDeskModel" (⟨"ExpressionDeskModel", "sumAll", "()Z"⟩ : MethodName) (⟨"ExpressionDeskModel", "sumAll", "()Z"⟩ : MethodName) ∈ hp_T := hp_is 84 (by rfl) (by rfl)
theorem ws_85 : Cond.selects "ExpressionDeskModel" (⟨"ExpressionDeskModel", "isFit", "()Z"⟩ : MethodName) (⟨"ExpressionDeskModel", "isFit", "()Z"⟩ : MethodName) ∈ hp_T := hp_is 85 (by rfl) (by rfl)
theorem ws_86 : Cond.selects "ExpressionDeskModel" (⟨"ExpressionDeskModel", "extreme", "(I)I"⟩ : MethodName) (⟨"ExpressionDeskModel", "extreme", "(I)I"⟩ : MethodName) ∈ hp_T := hp_is 86 (by rfl) (by rfl)
theorem ws_87 : Cond.selects "ExpressionDeskModel" (⟨"ExpressionDeskModel", "average", "()I"⟩ : MethodName) (⟨"ExpressionDeskModel", "average", "()I"⟩ : MethodName) ∈ hp_T := hp_is 87 (by rfl) (by rfl)
theorem ws_88 : Cond.selects "ExpressionDeskModel" (⟨"ExpressionDeskModel", "row", "()I"⟩ : MethodName) (⟨"ExpressionDeskModel", "row", "()I"⟩ : MethodName) ∈ hp_T := hp_is 88 (by rfl) (by rfl)
theorem i_D : ∀ w ∈ u_ws R_D F_D 4, w ∈ hp_T := List.forall_mem_cons.mpr ⟨w_255, List.forall_mem_cons.mpr ⟨w_257, List.forall_mem_cons.mpr ⟨w_259, List.forall_mem_cons.mpr ⟨w_261, fun _ h => absurd h List.not_mem_nil⟩⟩⟩⟩
theorem i_S : ∀ w ∈ u_ws R_S F_S 4, w ∈ hp_T := List.forall_mem_cons.mpr ⟨w_142, List.forall_mem_cons.mpr ⟨w_144, List.forall_mem_cons.mpr ⟨w_146, List.forall_mem_cons.mpr ⟨w_148, fun _ h => absurd h List.not_mem_nil⟩⟩⟩⟩
theorem i_AL : ∀ w ∈ u_ws R_AL F_AL 3, w ∈ hp_T := List.forall_mem_cons.mpr ⟨w_56, List.forall_mem_cons.mpr ⟨w_58, List.forall_mem_cons.mpr ⟨w_60, fun _ h => absurd h List.not_mem_nil⟩⟩⟩
theorem i_V : ∀ w ∈ u_ws R_V F_V 6, w ∈ hp_T := List.forall_mem_cons.mpr ⟨w_102, List.forall_mem_cons.mpr ⟨w_104, List.forall_mem_cons.mpr ⟨w_106, List.forall_mem_cons.mpr ⟨w_108, List.forall_mem_cons.mpr ⟨w_110, List.forall_mem_cons.mpr ⟨w_112, fun _ h => absurd h List.not_mem_nil⟩⟩⟩⟩⟩⟩
theorem i_R : ∀ w ∈ u_ws R_R F_R 3, w ∈ hp_T := List.forall_mem_cons.mpr ⟨w_130, List.forall_mem_cons.mpr ⟨w_132, List.forall_mem_cons.mpr ⟨w_134, fun _ h => absurd h List.not_mem_nil⟩⟩⟩
theorem i_E : ∀ w ∈ u_ws R_E F_E 9, w ∈ hp_T := List.forall_mem_cons.mpr ⟨w_194, List.forall_mem_cons.mpr ⟨w_196, List.forall_mem_cons.mpr ⟨w_198, List.forall_mem_cons.mpr ⟨w_200, List.forall_mem_cons.mpr ⟨w_202, List.forall_mem_cons.mpr ⟨w_204, List.forall_mem_cons.mpr ⟨w_206, List.forall_mem_cons.mpr ⟨w_208, List.forall_mem_cons.mpr ⟨w_210, fun _ h => absurd h List.not_mem_nil⟩⟩⟩⟩⟩⟩⟩⟩⟩
theorem i_K : ∀ w ∈ u_ws R_K F_K 4, w ∈ hp_T := List.forall_mem_cons.mpr ⟨w_176, List.forall_mem_cons.mpr ⟨w_178, List.forall_mem_cons.mpr ⟨w_180, List.forall_mem_cons.mpr ⟨w_182, fun _ h => absurd h List.not_mem_nil⟩⟩⟩⟩
theorem i_G : ∀ w ∈ u_ws R_G F_G 9, w ∈ hp_T := List.forall_mem_cons.mpr ⟨w_232, List.forall_mem_cons.mpr ⟨w_234, List.forall_mem_cons.mpr ⟨w_236, List.forall_mem_cons.mpr ⟨w_238, List.forall_mem_cons.mpr ⟨w_240, List.forall_mem_cons.mpr ⟨w_242, List.forall_mem_cons.mpr ⟨w_244, List.forall_mem_cons.mpr ⟨w_246, List.forall_mem_cons.mpr ⟨w_248, fun _ h => absurd h List.not_mem_nil⟩⟩⟩⟩⟩⟩⟩⟩⟩
theorem i_M : ∀ w ∈ u_ws R_M F_M 34, w ∈ hp_T := List.forall_mem_cons.mpr ⟨w_888, List.forall_mem_cons.mpr ⟨w_890, List.forall_mem_cons.mpr ⟨w_892, List.forall_mem_cons.mpr ⟨w_894, List.forall_mem_cons.mpr ⟨w_896, List.forall_mem_cons.mpr ⟨w_898, List.forall_mem_cons.mpr ⟨w_900, List.forall_mem_cons.mpr ⟨w_902, List.forall_mem_cons.mpr ⟨w_904, List.forall_mem_cons.mpr ⟨w_906, List.forall_mem_cons.mpr ⟨w_908, List.forall_mem_cons.mpr ⟨w_910, List.forall_mem_cons.mpr ⟨w_912, List.forall_mem_cons.mpr ⟨w_914, List.forall_mem_cons.mpr ⟨w_916, List.forall_mem_cons.mpr ⟨w_918, List.forall_mem_cons.mpr ⟨w_920, List.forall_mem_cons.mpr ⟨w_922, List.forall_mem_cons.mpr ⟨w_924, List.forall_mem_cons.mpr ⟨w_926, List.forall_mem_cons.mpr ⟨w_928, List.forall_mem_cons.mpr ⟨w_930, List.forall_mem_cons.mpr ⟨w_932, List.forall_mem_cons.mpr ⟨w_934, List.forall_mem_cons.mpr ⟨w_936, List.forall_mem_cons.mpr ⟨w_938, List.forall_mem_cons.mpr ⟨w_940, List.forall_mem_cons.mpr ⟨w_942, List.forall_mem_cons.mpr ⟨w_944, List.forall_mem_cons.mpr ⟨w_946, List.forall_mem_cons.mpr ⟨w_948, List.forall_mem_cons.mpr ⟨w_950, List.forall_mem_cons.mpr ⟨w_952, List.forall_mem_cons.mpr ⟨w_954, fun _ h => absurd h List.not_mem_nil⟩⟩⟩⟩⟩⟩⟩⟩⟩⟩⟩⟩⟩⟩⟩⟩⟩⟩⟩⟩⟩⟩⟩⟩⟩⟩⟩⟩⟩⟩⟩⟩⟩⟩
end
section
/-! THE ABSTRACT HEAP. A cell is an object (its number in 'classes', its fields) or an array (may it be written, its type, its length, what it holds); the heap is a map, the next address, the slots in use.
A method of the program is turned into a function on it ('m_..'), instruction by instruction; the rows 'hp_..' say that the machine does what the function says. -/
abbrev hp_Ar : Type := (Nat → Int32) ⊕ (Nat → Int64) ⊕ (Nat → Option Nat)
abbrev hp_Ce : Type := (Nat × List Value) ⊕ (Bool × FieldType × Nat × hp_Ar)
abbrev hp_H : Type := (Nat → Option hp_Ce) × Nat × Nat
def hp_av (f : hp_Ar) (j : Nat) : Value := match f with
  | .inl g => .int (g j)
  | .inr (.inl g) => .long (g j)
  | .inr (.inr g) => va_rf (g j)
def hp_up (f : Nat → Option hp_Ce) (a : Nat) (c : hp_Ce) : Nat → Option hp_Ce := fun b => if b = a then some c else f b
theorem hp_up_self (f : Nat → Option hp_Ce) (a : Nat) (c : hp_Ce) : hp_up f a c a = some c := if_pos rfl
theorem hp_up_ne (f : Nat → Option hp_Ce) {a b : Nat} (c : hp_Ce) (h : b ≠ a) : hp_up f a c b = f b := if_neg h
/-- class numbers, slots, addresses of what the constant static fields hold, the first address of the run's own cells -/
abbrev hp_E : Type := (Nat → ClassId) × (Nat → Nat → Nat) × (Nat → Nat) × Nat
def hp_at (E : hp_E) (U : State) (H : Heap) (a : Nat) (ce : hp_Ce) : Prop := match ce with
  | .inl (ci, fs) => E.2.2.2 ≤ a ∧ ∃ r : vw_C, classes[ci]? = some r ∧ fs.length = r.2.2 ∧ t_OB a (E.1 ci) r.2.2 (E.2.1 ci) H (vp_V fs)
  | .inr (w, ty, n, f) => ∃ cell : Cell, H[a]? = some cell ∧ U.isArrayOf cell ty ∧ cell.vm ≠ .unknown ∧ n ≤ cell.slots.size ∧ cell.slots.size.toInt32 = Int32.ofNat n ∧ (∀ j : Nat, j < n → cell.slots[j]? = some (hp_av f j)) ∧ (w = true → E.2.2.2 ≤ a ∧ ∃ cA : ClassId, cell = arrV cA n (hp_av f) ∧ ArrOfT U cA ty ∧ U.vm.findClass ("[" ++ ty.toString) = some cA ∧ ∀ C, ty = .object C → va_RA U cA ty)
def hp_K (E : hp_E) (U : State) : Prop := ∀ (c : Nat) (q : vw_C), classes[c]? = some q → u_Kn U q.1 q.2.1 q.2.2 (E.1 c) (E.2.1 c)
def hp_Zs (E : hp_E) (U : State) (H : Heap) : Prop := ∀ (k : Nat) (q : String × String × String), statics[k]? = some q → va_Z q.1 q.2.1 q.2.2 (.ref (E.2.2.1 k)) (fun x => E.2.2.2 ≤ x) U H
/-- the constant Strings (G 5 .. G 7) with their bytes' arrays (G 8 .. G 10), the Class object of Object[] (G 11), two more static fields -/
def hp_Xs (E : hp_E) (U : State) (H : Heap) : Prop := (∀ i : Nat, i < 3 → va_O "java/lang/String" (E.2.2.1 (5 + i)) (fun x => E.2.2.2 ≤ x) U H ∧ va_OF "java/lang/String" "coder" "B" (.int 0) (E.2.2.1 (5 + i)) (fun x => E.2.2.2 ≤ x) U H ∧ va_OF "java/lang/String" "value" "[B" (.ref (E.2.2.1 (8 + i))) (E.2.2.1 (5 + i)) (fun x => E.2.2.2 ≤ x) U H) ∧ va_Mi "[Ljava/lang/Object;" (E.2.2.1 11) U ∧ va_Dc U ∧ va_Z "java/lang/String" "COMPACT_STRINGS" "Z" (.int 1) (fun x => E.2.2.2 ≤ x) U H ∧ va_Zq "jdk/internal/util/Preconditions" "SIOOBE_FORMATTER" "Ljava/util/function/BiFunction;" (fun x => E.2.2.2 ≤ x) U H
theorem hp_Xs.moved {E : hp_E} {u U : State} {H : Heap} (hvm : u.vm.Alike U.vm) (h : hp_Xs E u H) : hp_Xs E U H :=
  ⟨fun i hi => ⟨(h.1 i hi).1.moved hvm, (h.1 i hi).2.1.moved hvm, (h.1 i hi).2.2.moved hvm⟩, h.2.1.moved hvm, h.2.2.1.moved hvm, h.2.2.2.1.moved hvm, h.2.2.2.2.moved hvm⟩
theorem hp_Xs.kept {E : hp_E} {U : State} {H H1 : Heap} (h : hp_Xs E U H) (hq : ∀ a : Nat, a < H.size → ¬ E.2.2.2 ≤ a → H1[a]? = H[a]?) : hp_Xs E U H1 :=
  ⟨fun i hi => ⟨(h.1 i hi).1.kept hq, (h.1 i hi).2.1.kept hq, (h.1 i hi).2.2.kept hq⟩, h.2.1, h.2.2.1, h.2.2.2.1.kept hq, h.2.2.2.2.kept hq⟩
def hp_R (E : hp_E) (U : State) (H : Heap) (h : hp_H) : Prop := H.size = h.2.1 ∧ E.2.2.2 ≤ h.2.1 ∧ (∀ (a : Nat) (ce : hp_Ce), h.1 a = some ce → hp_at E U H a ce) ∧ hp_K E U ∧ hp_Zs E U H ∧ hp_Xs E U H
theorem hp_at.kept {E : hp_E} {U : State} {H H1 : Heap} {a : Nat} {ce : hp_Ce} (h : hp_at E U H a ce) (hq : H1[a]? = H[a]?) : hp_at E U H1 a ce := by
  cases ce with
  | inl o =>
    obtain ⟨h0, r, h1, h2, h3⟩ := h
    exact ⟨h0, r, h1, h2, h3.kept hq⟩
  | inr o =>
    obtain ⟨cell, h1, h2⟩ := h
    exact ⟨cell, hq.trans h1, h2⟩
theorem hp_at.moved {E : hp_E} {u U : State} {H : Heap} {a : Nat} {ce : hp_Ce} (hvm : u.vm.Alike U.vm) (h : hp_at E u H a ce) : hp_at E U H a ce := by
  cases ce with
  | inl o => exact h
  | inr o =>
    obtain ⟨cell, h1, h2, h3, h4, h5, h6, h7⟩ := h
    refine ⟨cell, h1, State.isArrayOf_alike hvm h2, h3, h4, h5, h6, fun hw => ?_⟩
    obtain ⟨q1, cA, q2, q3, q5, q4⟩ := h7 hw
    exact ⟨q1, cA, q2, arrOfT_moved hvm q3, by rw [hvm.findClass]; exact q5, fun C hC => (q4 C hC).moved hvm⟩
theorem hp_at.arr {E : hp_E} {U : State} {H : Heap} {a n : Nat} {ty : FieldType} {f : hp_Ar} {cA : ClassId} (hB : E.2.2.2 ≤ a) (h1 : H[a]? = some (arrV cA n (hp_av f))) (h2 : ArrOfT U cA ty) (h3 : U.vm.findClass ("[" ++ ty.toString) = some cA ∧ ∀ C, ty = .object C → va_RA U cA ty) : hp_at E U H a (.inr (true, ty, n, f)) :=
  ⟨_, h1, h2 _ _, (fun q => by cases q), (by rw [arrV_size]; exact Nat.le_refl _), (by rw [arrV_size]), (fun j hj => arrV_read _ _ hj), fun _ => ⟨hB, cA, rfl, h2, h3⟩⟩
theorem hp_at.lt {E : hp_E} {U : State} {H : Heap} {a : Nat} {ce : hp_Ce} (h : hp_at E U H a ce) : a < H.size := by
  cases ce with
  | inl o =>
    obtain ⟨-, r, -, -, cell, h1, -⟩ := h
    exact (Array.getElem?_eq_some_iff.mp h1).1
  | inr o =>
    obtain ⟨cell, h1, -⟩ := h
    exact (Array.getElem?_eq_some_iff.mp h1).1
theorem hp_R.moved {E : hp_E} {u U : State} {H : Heap} {h : hp_H} (hvm : u.vm.Alike U.vm) (hR : hp_R E u H h) : hp_R E U H h :=
  ⟨hR.1, hR.2.1, fun a ce hc => (hR.2.2.1 a ce hc).moved hvm, fun c q hq => u_Kn_moved hvm (hR.2.2.2.1 c q hq), fun k q hq => va_Z.moved hvm (hR.2.2.2.2.1 k q hq), hR.2.2.2.2.2.moved hvm⟩
theorem hp_R.put {E : hp_E} {U : State} {H H1 : Heap} {h : hp_H} {a : Nat} {ce : hp_Ce} (hR : hp_R E U H h) (hB : E.2.2.2 ≤ a) (hn : hp_at E U H1 a ce) (hz : H1.size = H.size) (ho : ∀ q : Nat, q ≠ a → H1[q]? = H[q]?) : hp_R E U H1 (hp_up h.1 a ce, h.2) := by
  refine ⟨hz.trans hR.1, hR.2.1, fun b cb hb => ?_, hR.2.2.2.1, fun k q hq => (hR.2.2.2.2.1 k q hq).kept (fun x _ hx => ho x (fun e => hx (by rw [e]; exact hB))), hR.2.2.2.2.2.kept (fun x _ hx => ho x (fun e => hx (by rw [e]; exact hB)))⟩
  by_cases e : b = a
  · subst e
    have h1 : hp_up h.1 b ce b = some cb := hb
    rw [hp_up_self] at h1
    cases h1
    exact hn
  · have h1 : hp_up h.1 a ce b = some cb := hb
    rw [hp_up_ne _ _ e] at h1
    exact (hR.2.2.1 b cb h1).kept (ho b e)
theorem hp_R.push {E : hp_E} {U : State} {H H1 : Heap} {h : hp_H} {ce : hp_Ce} (n : Nat) (hR : hp_R E U H h) (hn : hp_at E U H1 h.2.1 ce) (hz : H1.size = h.2.1 + 1) (ho : ∀ q : Nat, q < h.2.1 → H1[q]? = H[q]?) : hp_R E U H1 (hp_up h.1 h.2.1 ce, h.2.1 + 1, h.2.2 + n) := by
  refine ⟨hz, Nat.le_succ_of_le hR.2.1, fun b cb hb => ?_, hR.2.2.2.1, fun k q hq => (hR.2.2.2.2.1 k q hq).kept (fun x hx _ => ho x (by rw [← hR.1]; exact hx)), hR.2.2.2.2.2.kept (fun x hx _ => ho x (by rw [← hR.1]; exact hx))⟩
  by_cases e : b = h.2.1
  · subst e
    have h1 : hp_up h.1 h.2.1 ce h.2.1 = some cb := hb
    rw [hp_up_self] at h1
    cases h1
    exact hn
  · have h1 : hp_up h.1 h.2.1 ce b = some cb := hb
    rw [hp_up_ne _ _ e] at h1
    have h2 := hR.2.2.1 b cb h1
    exact h2.kept (ho b (by rw [← hR.1]; exact h2.lt))
/-! WHAT THE FUNCTIONS ARE MADE OF -/
def hp_fs (h : hp_H) (a ci : Nat) : Option (List Value) := match h.1 a with
  | some (.inl o) => if o.1 = ci then some o.2 else none
  | _ => none
def hp_toI : Value → Option Int32
  | .int x => some x
  | _ => none
def hp_toL : Value → Option Int64
  | .long x => some x
  | _ => none
def hp_toR : Value → Option Nat
  | .ref x => some x
  | _ => none
def hp_gI (h : hp_H) (a ci k : Nat) : Option Int32 := ((hp_fs h a ci).bind fun fs => fs[k]?).bind hp_toI
def hp_gL (h : hp_H) (a ci k : Nat) : Option Int64 := ((hp_fs h a ci).bind fun fs => fs[k]?).bind hp_toL
def hp_gR (h : hp_H) (a ci k : Nat) : Option Nat := ((hp_fs h a ci).bind fun fs => fs[k]?).bind hp_toR
def hp_p (h : hp_H) (a ci k : Nat) (v : Value) : Option hp_H := (hp_fs h a ci).bind fun fs => if k < fs.length then some (hp_up h.1 a (.inl (ci, fs.set k v)), h.2) else none
def hp_pZ (h : hp_H) (a ci k : Nat) (x : Int32) : Option hp_H := if x = 0 ∨ x = 1 then hp_p h a ci k (.int x) else none
def hp_new (h : hp_H) (ci n : Nat) (fs : List Value) : hp_H := (hp_up h.1 h.2.1 (.inl (ci, fs)), h.2.1 + 1, h.2.2 + n)
def hp_newa (h : hp_H) (ty : FieldType) (n : Nat) (f : hp_Ar) : hp_H := (hp_up h.1 h.2.1 (.inr (true, ty, n, f)), h.2.1 + 1, h.2.2 + n)
def hp_arr (h : hp_H) (a : Nat) : Option (Bool × FieldType × Nat × hp_Ar) := match h.1 a with
  | some (.inr o) => some o
  | _ => none
def hp_aI (h : hp_H) (ty : FieldType) (a : Nat) (i : Int32) : Option Int32 := match hp_arr h a with
  | some (_, t, n, .inl f) => if t = ty ∧ ¬ (i < 0 ∨ n ≤ i.toNatClampNeg) then some (f i.toNatClampNeg) else none
  | _ => none
def hp_aL (h : hp_H) (a : Nat) (i : Int32) : Option Int64 := match hp_arr h a with
  | some (_, t, n, .inr (.inl f)) => if t = .long ∧ ¬ (i < 0 ∨ n ≤ i.toNatClampNeg) then some (f i.toNatClampNeg) else none
  | _ => none
def hp_aR (h : hp_H) (a : Nat) (i : Int32) : Option Nat := match hp_arr h a with
  | some (_, t, n, .inr (.inr f)) => if t.isReference = true ∧ ¬ (i < 0 ∨ n ≤ i.toNatClampNeg) then f i.toNatClampNeg else none
  | _ => none
def hp_sI (h : hp_H) (ty : FieldType) (a : Nat) (i x : Int32) : Option hp_H := match hp_arr h a with
  | some (w, t, n, .inl f) => if w = true ∧ t = ty ∧ ¬ (i < 0 ∨ n ≤ i.toNatClampNeg) then some (hp_up h.1 a (.inr (w, t, n, .inl (upd f i.toNatClampNeg x))), h.2) else none
  | _ => none
def hp_sL (h : hp_H) (a : Nat) (i : Int32) (x : Int64) : Option hp_H := match hp_arr h a with
  | some (w, t, n, .inr (.inl f)) => if w = true ∧ t = .long ∧ ¬ (i < 0 ∨ n ≤ i.toNatClampNeg) then some (hp_up h.1 a (.inr (w, t, n, .inr (.inl (vp_updL f i.toNatClampNeg x)))), h.2) else none
  | _ => none
def hp_len (h : hp_H) (a : Nat) : Option Int32 := (hp_arr h a).map fun o => Int32.ofNat o.2.2.1
/-- a receiver's class -/
def hp_vck {β : Type} (h : hp_H) (b ci : Nat) (X : Option β) : Option β := (hp_fs h b ci).bind fun _ => X
def hp_nm {α β : Type} (x : α) (k : α → β) : β := k x
def hp_dI (x y : Int32) : Option Int32 := if y = 0 then none else some (x / y)
def hp_mI (x y : Int32) : Option Int32 := if y = 0 then none else some (x - x / y * y)
def hp_dL (x y : Int64) : Option Int64 := if y = 0 then none else some (x / y)
def hp_mL (x y : Int64) : Option Int64 := if y = 0 then none else some (x - x / y * y)
def hp_rI (x : Int32) : Option Value := some (.int x)
def hp_rL (x : Int64) : Option Value := some (.long x)
def hp_rR (x : Nat) : Option Value := some (.ref x)
def hp_rV (_ : Unit) : Option Value := none
end
section
/-! THE JUDGEMENT. 'hp_J Y Z mk h pc lv st X': the machine in method Y at pc, with locals lv and stack st, over a heap that holds h, comes to the end that X says (if X says one). -/
abbrev hp_Z := Program × Launch × Env × State × MethodId × Array Value × List Frame × Method × Code × hp_H × hp_E × Nat × Nat
abbrev hp_Y : Type := String × ByteArray × Nat × Option FieldType × String × Nat × Nat
abbrev hp_strs : List (String × Nat × String × Nat) := [("ExpressionDesk$Row", 82, "true", 5), ("ExpressionDesk$Row", 84, "false", 6), ("ExpressionDeskModel", 215, ".0", 7), ("ExpressionDeskModel", 194, "true", 5), ("ExpressionDeskModel", 196, "false", 6)]
def hp_N (E : hp_E) (U : State) : Prop := (∀ w ∈ hp_Nst, va_Nw w U) ∧ ∀ q ∈ hp_strs, vk_R q.1 q.2.1 q.2.2.1 (E.2.2.1 q.2.2.2) U
def hp_Q (E : hp_E) (v : Option Value) (h' : hp_H) : Array Value → State → Outcome → State → Prop := fun _ _ o t => o = .returned v ∧ hp_R E t t.heap h'
abbrev hp_Rm (fr lo : Nat) (h0 h' : hp_H) : Room := { frames := fr, cells := h'.2.1 - h0.2.1, slots := h'.2.2 - h0.2.2, locals := lo }
def hp_F (Y : hp_Y) (p : Program) (s : State) (m : MethodId) (args : Array Value) (meth : Method) (c : Code) (fr lo : Nat) (E : hp_E) : Prop :=
  p.tables.exec = Jvm.exec ∧ c.code = Y.2.1 ∧ c.maxLocals = Y.2.2.1 ∧ s.vm.findClass Y.1 = some m.cls ∧ (∀ w ∈ hp_T, w.before args s = true) ∧ hp_N E s ∧ meth.sig.returnType = Y.2.2.2.1 ∧ meth.locks = false ∧ meth.name = Y.2.2.2.2.1 ∧ fr = Y.2.2.2.2.2.1 ∧ lo = Y.2.2.2.2.2.2
def hp_Wk (p : Program) (l : Launch) (e : Env) (s : State) (m : MethodId) (args : Array Value) (below : List Frame) (meth : Method) (c : Code) (h0 : hp_H) (E : hp_E) (fr lo : Nat) (v : Option Value) (h h' : hp_H) (pc : Nat) (lv : List (Nat × Value)) (st : List Value) : Prop :=
  h0.2.1 ≤ h.2.1 → h0.2.2 ≤ h.2.2 → ∀ (H : Heap) (locs : List Loc) (ls : Array Slot), hp_R E s H h → (∀ q ∈ locs, E.2.2.2 ≤ q.base) → lv_has ls c.maxLocals lv →
    W p l e (hp_Rm fr lo h0 h') s m args below meth c H locs (h.2.1 - h0.2.1) (h.2.2 - h0.2.2) (MQ below (hp_Q E v h') args s (h'.2.1 - h0.2.1) (h'.2.2 - h0.2.2) (fun q => E.2.2.2 ≤ q)) (F0 m pc ls st)
def hp_J (Y : hp_Y) (Z : hp_Z) {α : Type} (mk : α → Option Value) (h : hp_H) (pc : Nat) (lv : List (Nat × Value)) (st : List Value) (X : Option (α × hp_H)) : Prop := match Z with
  | (p, l, e, s, m, args, below, meth, c, h0, E, fr, lo) => ∀ (r : α) (h' : hp_H), X = some (r, h') → (h.2.1 ≤ h'.2.1 ∧ h.2.2 ≤ h'.2.2) ∧ (hp_F Y p s m args meth c fr lo E → hp_Wk p l e s m args below meth c h0 E fr lo (mk r) h h' pc lv st)
abbrev hp_ZE (Z : hp_Z) : hp_E := Z.2.2.2.2.2.2.2.2.2.2.1
abbrev hp_G (Z : hp_Z) : Nat → Nat := (hp_ZE Z).2.2.1
section HJ
variable {p : Program} {l : Launch} {e : Env} {s : State} {m : MethodId} {args : Array Value} {below : List Frame} {meth : Method} {c : Code} {h0 : hp_H} {E : hp_E} {fr lo : Nat} {Y : hp_Y} {Z : hp_Z} {α : Type} {mk : α → Option Value} {h : hp_H} {pc : Nat} {lv lv' : List (Nat × Value)} {st : List Value} {X : Option (α × hp_H)}
/-- a step that moves no heap -/
theorem hp_go {pc' : Nat} {st' : List Value}
    (hs : hp_F Y p s m args meth c fr lo E → ∀ (R : Room) (H : Heap) (locs : List Loc) (cells slots : Nat) (Q : State → Prop) (ls : Array Slot), lv_has ls c.maxLocals lv → (∀ ls' : Array Slot, lv_has ls' c.maxLocals lv' → W p l e R s m args below meth c H locs cells slots Q (F0 m pc' ls' st')) → W p l e R s m args below meth c H locs cells slots Q (F0 m pc ls st))
    (k : hp_J Y (p, l, e, s, m, args, below, meth, c, h0, E, fr, lo) mk h pc' lv' st' X) : hp_J Y (p, l, e, s, m, args, below, meth, c, h0, E, fr, lo) mk h pc lv st X := by
  intro r h' hX
  obtain ⟨k1, k2⟩ := k r h' hX
  exact ⟨k1, fun F a1 a2 H locs ls hR hL hl => hs F _ _ _ _ _ _ _ hl (fun ls' hl' => k2 F a1 a2 H locs ls' hR hL hl')⟩
/-- fewer locals -/
theorem hp_sub (ks : List Nat) (hl : lv_pick lv ks = lv') (k : hp_J Y Z mk h pc lv' st X) : hp_J Y Z mk h pc lv st X := by
  obtain ⟨p, l, e, s, m, args, below, meth, c, h0, E, fr, lo⟩ := Z
  exact hp_go (fun _ _ _ _ _ _ _ ls h1 w => w ls (lv_sub h1 ks hl)) k
theorem hp_fail : hp_J Y Z mk h pc lv st (none : Option (α × hp_H)) := by
  obtain ⟨p, l, e, s, m, args, below, meth, c, h0, E, fr, lo⟩ := Z
  intro r h' hX
  cases hX
theorem hp_bindN {β : Type} {o : Option β} {K : β → Option (α × hp_H)} (k : ∀ x, o = some x → hp_J Y Z mk h pc lv st (K x)) : hp_J Y Z mk h pc lv st (o.bind K) := by
  cases o with
  | none => exact hp_fail
  | some x => exact k x rfl
theorem hp_nmI {x : Int32} {K : Int32 → Option (α × hp_H)} (k : ∀ y, hp_J Y Z mk h pc lv (.int y :: st) (K y)) : hp_J Y Z mk h pc lv (.int x :: st) (hp_nm x K) := k x
theorem hp_nmL {x : Int64} {K : Int64 → Option (α × hp_H)} (k : ∀ y, hp_J Y Z mk h pc lv (.long y :: st) (K y)) : hp_J Y Z mk h pc lv (.long x :: st) (hp_nm x K) := k x
theorem hp_iconst {n : Int} {v : Int32} (hdg : decode Y.2.1 pc = .ok (.iconst n, 1)) (hv : Int32.ofInt n = v) (k : hp_J Y Z mk h (pc + 1) lv (.int v :: st) X) : hp_J Y Z mk h pc lv (st) X := by
  obtain ⟨p, l, e, s, m, args, below, meth, c, h0, E, fr, lo⟩ := Z
  exact hp_go (fun F _ _ _ _ _ _ ls h1 w => lv_iconst F.1 F.2.1 hdg hv (w ls h1)) k
theorem hp_bipush {n : Int} {v : Int32} (hdg : decode Y.2.1 pc = .ok (.bipush n, 2)) (hv : (Int8.ofInt n).toInt32 = v) (k : hp_J Y Z mk h (pc + 2) lv (.int v :: st) X) : hp_J Y Z mk h pc lv (st) X := by
  obtain ⟨p, l, e, s, m, args, below, meth, c, h0, E, fr, lo⟩ := Z
  exact hp_go (fun F _ _ _ _ _ _ ls h1 w => lv_bipush F.1 F.2.1 hdg hv (w ls h1)) k
theorem hp_sipush {n : Int} {v : Int32} (hdg : decode Y.2.1 pc = .ok (.sipush n, 3)) (hv : (Int16.ofInt n).toInt32 = v) (k : hp_J Y Z mk h (pc + 3) lv (.int v :: st) X) : hp_J Y Z mk h pc lv (st) X := by
  obtain ⟨p, l, e, s, m, args, below, meth, c, h0, E, fr, lo⟩ := Z
  exact hp_go (fun F _ _ _ _ _ _ ls h1 w => lv_sipush F.1 F.2.1 hdg hv (w ls h1)) k
theorem hp_lconst {n : Fin 2} {v : Int64} (hdg : decode Y.2.1 pc = .ok (.lconst n, 1)) (hv : Int64.ofNat (n : Nat) = v) (k : hp_J Y Z mk h (pc + 1) lv (.long v :: st) X) : hp_J Y Z mk h pc lv (st) X := by
  obtain ⟨p, l, e, s, m, args, below, meth, c, h0, E, fr, lo⟩ := Z
  exact hp_go (fun F _ _ _ _ _ _ ls h1 w => lv_lconst F.1 F.2.1 hdg hv (w ls h1)) k
theorem hp_iload_n {k4 : Fin 4} {i x0 : Nat} {x : Int32} (hdg : decode Y.2.1 pc = .ok (.iload_n k4, 1)) (hi : (k4 : Nat) = i) (hk : lv[x0]? = some (i, .int x)) (k : hp_J Y Z mk h (pc + 1) lv (.int x :: st) X) : hp_J Y Z mk h pc lv (st) X := by
  obtain ⟨p, l, e, s, m, args, below, meth, c, h0, E, fr, lo⟩ := Z
  exact hp_go (fun F _ _ _ _ _ _ ls h1 w => lv_iload_n F.1 F.2.1 hdg hi (lv_at h1 x0 hk) (w ls h1)) k
theorem hp_iload {i x0 : Nat} {x : Int32} (hdg : decode Y.2.1 pc = .ok (.iload i, 2)) (hk : lv[x0]? = some (i, .int x)) (k : hp_J Y Z mk h (pc + 2) lv (.int x :: st) X) : hp_J Y Z mk h pc lv (st) X := by
  obtain ⟨p, l, e, s, m, args, below, meth, c, h0, E, fr, lo⟩ := Z
  exact hp_go (fun F _ _ _ _ _ _ ls h1 w => lv_iload F.1 F.2.1 hdg (lv_at h1 x0 hk) (w ls h1)) k
theorem hp_lload_n {k4 : Fin 4} {i x0 : Nat} {x : Int64} (hdg : decode Y.2.1 pc = .ok (.lload_n k4, 1)) (hi : (k4 : Nat) = i) (hk : lv[x0]? = some (i, .long x)) (k : hp_J Y Z mk h (pc + 1) lv (.long x :: st) X) : hp_J Y Z mk h pc lv (st) X := by
  obtain ⟨p, l, e, s, m, args, below, meth, c, h0, E, fr, lo⟩ := Z
  exact hp_go (fun F _ _ _ _ _ _ ls h1 w => lv_lload_n F.1 F.2.1 hdg hi (lv_at h1 x0 hk) (w ls h1)) k
theorem hp_lload {i x0 : Nat} {x : Int64} (hdg : decode Y.2.1 pc = .ok (.lload i, 2)) (hk : lv[x0]? = some (i, .long x)) (k : hp_J Y Z mk h (pc + 2) lv (.long x :: st) X) : hp_J Y Z mk h pc lv (st) X := by
  obtain ⟨p, l, e, s, m, args, below, meth, c, h0, E, fr, lo⟩ := Z
  exact hp_go (fun F _ _ _ _ _ _ ls h1 w => lv_lload F.1 F.2.1 hdg (lv_at h1 x0 hk) (w ls h1)) k
theorem hp_aload_n {k4 : Fin 4} {i x0 : Nat} {x : Nat} (hdg : decode Y.2.1 pc = .ok (.aload_n k4, 1)) (hi : (k4 : Nat) = i) (hk : lv[x0]? = some (i, .ref x)) (k : hp_J Y Z mk h (pc + 1) lv (.ref x :: st) X) : hp_J Y Z mk h pc lv (st) X := by
  obtain ⟨p, l, e, s, m, args, below, meth, c, h0, E, fr, lo⟩ := Z
  exact hp_go (fun F _ _ _ _ _ _ ls h1 w => lv_aload_n F.1 F.2.1 hdg hi (lv_at h1 x0 hk) (w ls h1)) k
theorem hp_aload {i x0 : Nat} {x : Nat} (hdg : decode Y.2.1 pc = .ok (.aload i, 2)) (hk : lv[x0]? = some (i, .ref x)) (k : hp_J Y Z mk h (pc + 2) lv (.ref x :: st) X) : hp_J Y Z mk h pc lv (st) X := by
  obtain ⟨p, l, e, s, m, args, below, meth, c, h0, E, fr, lo⟩ := Z
  exact hp_go (fun F _ _ _ _ _ _ ls h1 w => lv_aload F.1 F.2.1 hdg (lv_at h1 x0 hk) (w ls h1)) k
theorem hp_istore_n {k4 : Fin 4} {i : Nat} {x : Int32} (lw : Int32 → List (Nat × Value)) {K : Int32 → Option (α × hp_H)} (hdg : decode Y.2.1 pc = .ok (.istore_n k4, 1)) (hi : (k4 : Nat) = i) (hn : i < Y.2.2.1) (hl : ∀ x, (i, Value.int x) :: lv.filter (fun q => !(q.1 == i) && !(q.1 + 1 == i && q.2.category == 2)) = lw x) (k : ∀ y, hp_J Y Z mk h (pc + 1) (lw y) st (K y)) : hp_J Y Z mk h pc lv (.int x :: st) (hp_nm x K) := by
  obtain ⟨p, l, e, s, m, args, below, meth, c, h0, E, fr, lo⟩ := Z
  exact hp_go (fun F _ _ _ _ _ _ ls h1 w => lv_istore_n F.1 F.2.1 hdg hi h1 (by rw [F.2.2.1]; exact hn) (hl x) w) (k x)
theorem hp_istore {i : Nat} {x : Int32} (lw : Int32 → List (Nat × Value)) {K : Int32 → Option (α × hp_H)} (hdg : decode Y.2.1 pc = .ok (.istore i, 2)) (hn : i < Y.2.2.1) (hl : ∀ x, (i, Value.int x) :: lv.filter (fun q => !(q.1 == i) && !(q.1 + 1 == i && q.2.category == 2)) = lw x) (k : ∀ y, hp_J Y Z mk h (pc + 2) (lw y) st (K y)) : hp_J Y Z mk h pc lv (.int x :: st) (hp_nm x K) := by
  obtain ⟨p, l, e, s, m, args, below, meth, c, h0, E, fr, lo⟩ := Z
  exact hp_go (fun F _ _ _ _ _ _ ls h1 w => lv_istore F.1 F.2.1 hdg h1 (by rw [F.2.2.1]; exact hn) (hl x) w) (k x)
theorem hp_lstore_n {k4 : Fin 4} {i : Nat} {x : Int64} (lw : Int64 → List (Nat × Value)) {K : Int64 → Option (α × hp_H)} (hdg : decode Y.2.1 pc = .ok (.lstore_n k4, 1)) (hi : (k4 : Nat) = i) (hn : i + 1 < Y.2.2.1) (hl : ∀ x, (i, Value.long x) :: lv.filter (fun q => !(q.1 == i) && (!(q.1 == i + 1) && !(q.1 + 1 == i && q.2.category == 2))) = lw x) (k : ∀ y, hp_J Y Z mk h (pc + 1) (lw y) st (K y)) : hp_J Y Z mk h pc lv (.long x :: st) (hp_nm x K) := by
  obtain ⟨p, l, e, s, m, args, below, meth, c, h0, E, fr, lo⟩ := Z
  exact hp_go (fun F _ _ _ _ _ _ ls h1 w => lv_lstore_n F.1 F.2.1 hdg hi h1 (by rw [F.2.2.1]; exact hn) (hl x) w) (k x)
theorem hp_lstore {i : Nat} {x : Int64} (lw : Int64 → List (Nat × Value)) {K : Int64 → Option (α × hp_H)} (hdg : decode Y.2.1 pc = .ok (.lstore i, 2)) (hn : i + 1 < Y.2.2.1) (hl : ∀ x, (i, Value.long x) :: lv.filter (fun q => !(q.1 == i) && (!(q.1 == i + 1) && !(q.1 + 1 == i && q.2.category == 2))) = lw x) (k : ∀ y, hp_J Y Z mk h (pc + 2) (lw y) st (K y)) : hp_J Y Z mk h pc lv (.long x :: st) (hp_nm x K) := by
  obtain ⟨p, l, e, s, m, args, below, meth, c, h0, E, fr, lo⟩ := Z
  exact hp_go (fun F _ _ _ _ _ _ ls h1 w => lv_lstore F.1 F.2.1 hdg h1 (by rw [F.2.2.1]; exact hn) (hl x) w) (k x)
theorem hp_astore_n {k4 : Fin 4} {i : Nat} {x : Nat} (lw : Nat → List (Nat × Value)) {K : Nat → Option (α × hp_H)} (hdg : decode Y.2.1 pc = .ok (.astore_n k4, 1)) (hi : (k4 : Nat) = i) (hn : i < Y.2.2.1) (hl : ∀ x, (i, Value.ref x) :: lv.filter (fun q => !(q.1 == i) && !(q.1 + 1 == i && q.2.category == 2)) = lw x) (k : ∀ y, hp_J Y Z mk h (pc + 1) (lw y) st (K y)) : hp_J Y Z mk h pc lv (.ref x :: st) (hp_nm x K) := by
  obtain ⟨p, l, e, s, m, args, below, meth, c, h0, E, fr, lo⟩ := Z
  exact hp_go (fun F _ _ _ _ _ _ ls h1 w => lv_astore_n F.1 F.2.1 hdg hi h1 (by rw [F.2.2.1]; exact hn) (hl x) w) (k x)
theorem hp_astore {i : Nat} {x : Nat} (lw : Nat → List (Nat × Value)) {K : Nat → Option (α × hp_H)} (hdg : decode Y.2.1 pc = .ok (.astore i, 2)) (hn : i < Y.2.2.1) (hl : ∀ x, (i, Value.ref x) :: lv.filter (fun q => !(q.1 == i) && !(q.1 + 1 == i && q.2.category == 2)) = lw x) (k : ∀ y, hp_J Y Z mk h (pc + 2) (lw y) st (K y)) : hp_J Y Z mk h pc lv (.ref x :: st) (hp_nm x K) := by
  obtain ⟨p, l, e, s, m, args, below, meth, c, h0, E, fr, lo⟩ := Z
  exact hp_go (fun F _ _ _ _ _ _ ls h1 w => lv_astore F.1 F.2.1 hdg h1 (by rw [F.2.2.1]; exact hn) (hl x) w) (k x)
theorem hp_iinc {i x0 : Nat} {n : Int} {x d : Int32} (lw : Int32 → List (Nat × Value)) {K : Int32 → Option (α × hp_H)} (hdg : decode Y.2.1 pc = .ok (.iinc i n, 3)) (hk : lv[x0]? = some (i, .int x)) (hd : Int32.ofInt n = d) (hn : i < Y.2.2.1) (hl : ∀ x, (i, Value.int x) :: lv.filter (fun q => !(q.1 == i) && !(q.1 + 1 == i && q.2.category == 2)) = lw x) (k : ∀ y, hp_J Y Z mk h (pc + 3) (lw y) st (K y)) : hp_J Y Z mk h pc lv st (hp_nm (x + d) K) := by
  obtain ⟨p, l, e, s, m, args, below, meth, c, h0, E, fr, lo⟩ := Z
  exact hp_go (fun F _ _ _ _ _ _ ls h1 w => lv_iinc F.1 F.2.1 hdg h1 hk (by rw [hd]) (by rw [F.2.2.1]; exact hn) (hl _) w) (k (x + d))
theorem hp_iadd {x y : Int32} (hdg : decode Y.2.1 pc = .ok (.iadd, 1)) (k : hp_J Y Z mk h (pc + 1) lv (.int (x + y) :: st) X) : hp_J Y Z mk h pc lv (.int y :: .int x :: st) X := by
  obtain ⟨p, l, e, s, m, args, below, meth, c, h0, E, fr, lo⟩ := Z
  exact hp_go (fun F _ _ _ _ _ _ ls h1 w => lv_iadd F.1 F.2.1 hdg (w ls h1)) k
theorem hp_isub {x y : Int32} (hdg : decode Y.2.1 pc = .ok (.isub, 1)) (k : hp_J Y Z mk h (pc + 1) lv (.int (x - y) :: st) X) : hp_J Y Z mk h pc lv (.int y :: .int x :: st) X := by
  obtain ⟨p, l, e, s, m, args, below, meth, c, h0, E, fr, lo⟩ := Z
  exact hp_go (fun F _ _ _ _ _ _ ls h1 w => lv_isub F.1 F.2.1 hdg (w ls h1)) k
theorem hp_imul {x y : Int32} (hdg : decode Y.2.1 pc = .ok (.imul, 1)) (k : hp_J Y Z mk h (pc + 1) lv (.int (x * y) :: st) X) : hp_J Y Z mk h pc lv (.int y :: .int x :: st) X := by
  obtain ⟨p, l, e, s, m, args, below, meth, c, h0, E, fr, lo⟩ := Z
  exact hp_go (fun F _ _ _ _ _ _ ls h1 w => lv_imul F.1 F.2.1 hdg (w ls h1)) k
theorem hp_iand {x y : Int32} (hdg : decode Y.2.1 pc = .ok (.iand, 1)) (k : hp_J Y Z mk h (pc + 1) lv (.int (x &&& y) :: st) X) : hp_J Y Z mk h pc lv (.int y :: .int x :: st) X := by
  obtain ⟨p, l, e, s, m, args, below, meth, c, h0, E, fr, lo⟩ := Z
  exact hp_go (fun F _ _ _ _ _ _ ls h1 w => lv_iand F.1 F.2.1 hdg (w ls h1)) k
theorem hp_ior {x y : Int32} (hdg : decode Y.2.1 pc = .ok (.ior, 1)) (k : hp_J Y Z mk h (pc + 1) lv (.int (x ||| y) :: st) X) : hp_J Y Z mk h pc lv (.int y :: .int x :: st) X := by
  obtain ⟨p, l, e, s, m, args, below, meth, c, h0, E, fr, lo⟩ := Z
  exact hp_go (fun F _ _ _ _ _ _ ls h1 w => lv_ior F.1 F.2.1 hdg (w ls h1)) k
theorem hp_ixor {x y : Int32} (hdg : decode Y.2.1 pc = .ok (.ixor, 1)) (k : hp_J Y Z mk h (pc + 1) lv (.int (x ^^^ y) :: st) X) : hp_J Y Z mk h pc lv (.int y :: .int x :: st) X := by
  obtain ⟨p, l, e, s, m, args, below, meth, c, h0, E, fr, lo⟩ := Z
  exact hp_go (fun F _ _ _ _ _ _ ls h1 w => lv_ixor F.1 F.2.1 hdg (w ls h1)) k
theorem hp_ladd {x y : Int64} (hdg : decode Y.2.1 pc = .ok (.ladd, 1)) (k : hp_J Y Z mk h (pc + 1) lv (.long (x + y) :: st) X) : hp_J Y Z mk h pc lv (.long y :: .long x :: st) X := by
  obtain ⟨p, l, e, s, m, args, below, meth, c, h0, E, fr, lo⟩ := Z
  exact hp_go (fun F _ _ _ _ _ _ ls h1 w => lv_ladd F.1 F.2.1 hdg (w ls h1)) k
theorem hp_lsub {x y : Int64} (hdg : decode Y.2.1 pc = .ok (.lsub, 1)) (k : hp_J Y Z mk h (pc + 1) lv (.long (x - y) :: st) X) : hp_J Y Z mk h pc lv (.long y :: .long x :: st) X := by
  obtain ⟨p, l, e, s, m, args, below, meth, c, h0, E, fr, lo⟩ := Z
  exact hp_go (fun F _ _ _ _ _ _ ls h1 w => lv_lsub F.1 F.2.1 hdg (w ls h1)) k
theorem hp_lmul {x y : Int64} (hdg : decode Y.2.1 pc = .ok (.lmul, 1)) (k : hp_J Y Z mk h (pc + 1) lv (.long (x * y) :: st) X) : hp_J Y Z mk h pc lv (.long y :: .long x :: st) X := by
  obtain ⟨p, l, e, s, m, args, below, meth, c, h0, E, fr, lo⟩ := Z
  exact hp_go (fun F _ _ _ _ _ _ ls h1 w => lv_lmul F.1 F.2.1 hdg (w ls h1)) k
theorem hp_land {x y : Int64} (hdg : decode Y.2.1 pc = .ok (.land, 1)) (k : hp_J Y Z mk h (pc + 1) lv (.long (x &&& y) :: st) X) : hp_J Y Z mk h pc lv (.long y :: .long x :: st) X := by
  obtain ⟨p, l, e, s, m, args, below, meth, c, h0, E, fr, lo⟩ := Z
  exact hp_go (fun F _ _ _ _ _ _ ls h1 w => lv_land F.1 F.2.1 hdg (w ls h1)) k
theorem hp_lor {x y : Int64} (hdg : decode Y.2.1 pc = .ok (.lor, 1)) (k : hp_J Y Z mk h (pc + 1) lv (.long (x ||| y) :: st) X) : hp_J Y Z mk h pc lv (.long y :: .long x :: st) X := by
  obtain ⟨p, l, e, s, m, args, below, meth, c, h0, E, fr, lo⟩ := Z
  exact hp_go (fun F _ _ _ _ _ _ ls h1 w => lv_lor F.1 F.2.1 hdg (w ls h1)) k
theorem hp_lxor {x y : Int64} (hdg : decode Y.2.1 pc = .ok (.lxor, 1)) (k : hp_J Y Z mk h (pc + 1) lv (.long (x ^^^ y) :: st) X) : hp_J Y Z mk h pc lv (.long y :: .long x :: st) X := by
  obtain ⟨p, l, e, s, m, args, below, meth, c, h0, E, fr, lo⟩ := Z
  exact hp_go (fun F _ _ _ _ _ _ ls h1 w => lv_lxor F.1 F.2.1 hdg (w ls h1)) k
theorem hp_ineg {x : Int32} (hdg : decode Y.2.1 pc = .ok (.ineg, 1)) (k : hp_J Y Z mk h (pc + 1) lv (.int (-x) :: st) X) : hp_J Y Z mk h pc lv (.int x :: st) X := by
  obtain ⟨p, l, e, s, m, args, below, meth, c, h0, E, fr, lo⟩ := Z
  exact hp_go (fun F _ _ _ _ _ _ ls h1 w => lv_ineg F.1 F.2.1 hdg (w ls h1)) k
theorem hp_lneg {x : Int64} (hdg : decode Y.2.1 pc = .ok (.lneg, 1)) (k : hp_J Y Z mk h (pc + 1) lv (.long (-x) :: st) X) : hp_J Y Z mk h pc lv (.long x :: st) X := by
  obtain ⟨p, l, e, s, m, args, below, meth, c, h0, E, fr, lo⟩ := Z
  exact hp_go (fun F _ _ _ _ _ _ ls h1 w => lv_lneg F.1 F.2.1 hdg (w ls h1)) k
theorem hp_ishl {x y : Int32} (hdg : decode Y.2.1 pc = .ok (.ishl, 1)) (k : hp_J Y Z mk h (pc + 1) lv (.int (x <<< (y &&& 31)) :: st) X) : hp_J Y Z mk h pc lv (.int y :: .int x :: st) X := by
  obtain ⟨p, l, e, s, m, args, below, meth, c, h0, E, fr, lo⟩ := Z
  exact hp_go (fun F _ _ _ _ _ _ ls h1 w => lv_ishl F.1 F.2.1 hdg (w ls h1)) k
theorem hp_ishr {x y : Int32} (hdg : decode Y.2.1 pc = .ok (.ishr, 1)) (k : hp_J Y Z mk h (pc + 1) lv (.int (x >>> (y &&& 31)) :: st) X) : hp_J Y Z mk h pc lv (.int y :: .int x :: st) X := by
  obtain ⟨p, l, e, s, m, args, below, meth, c, h0, E, fr, lo⟩ := Z
  exact hp_go (fun F _ _ _ _ _ _ ls h1 w => lv_ishr F.1 F.2.1 hdg (w ls h1)) k
theorem hp_iushr {x y : Int32} (hdg : decode Y.2.1 pc = .ok (.iushr, 1)) (k : hp_J Y Z mk h (pc + 1) lv (.int ((x.toUInt32 >>> (y.toUInt32 &&& Int32.toUInt32 31)).toInt32) :: st) X) : hp_J Y Z mk h pc lv (.int y :: .int x :: st) X := by
  obtain ⟨p, l, e, s, m, args, below, meth, c, h0, E, fr, lo⟩ := Z
  exact hp_go (fun F _ _ _ _ _ _ ls h1 w => lv_iushr F.1 F.2.1 hdg rfl (w ls h1)) k
theorem hp_lushr {x : Int64} {y : Int32} (hdg : decode Y.2.1 pc = .ok (.lushr, 1)) (k : hp_J Y Z mk h (pc + 1) lv (.long ((x.toUInt64 >>> (y.toInt64.toUInt64 &&& Int64.toUInt64 63)).toInt64) :: st) X) : hp_J Y Z mk h pc lv (.int y :: .long x :: st) X := by
  obtain ⟨p, l, e, s, m, args, below, meth, c, h0, E, fr, lo⟩ := Z
  exact hp_go (fun F _ _ _ _ _ _ ls h1 w => lv_lushr F.1 F.2.1 hdg rfl (w ls h1)) k
theorem hp_lshl {x : Int64} {y : Int32} (hdg : decode Y.2.1 pc = .ok (.lshl, 1)) (k : hp_J Y Z mk h (pc + 1) lv (.long (x <<< (y.toInt64 &&& 63)) :: st) X) : hp_J Y Z mk h pc lv (.int y :: .long x :: st) X := by
  obtain ⟨p, l, e, s, m, args, below, meth, c, h0, E, fr, lo⟩ := Z
  exact hp_go (fun F _ _ _ _ _ _ ls h1 w => lv_lshl F.1 F.2.1 hdg rfl (w ls h1)) k
theorem hp_lshr {x : Int64} {y : Int32} (hdg : decode Y.2.1 pc = .ok (.lshr, 1)) (k : hp_J Y Z mk h (pc + 1) lv (.long (x >>> (y.toInt64 &&& 63)) :: st) X) : hp_J Y Z mk h pc lv (.int y :: .long x :: st) X := by
  obtain ⟨p, l, e, s, m, args, below, meth, c, h0, E, fr, lo⟩ := Z
  exact hp_go (fun F _ _ _ _ _ _ ls h1 w => lv_lshr F.1 F.2.1 hdg rfl (w ls h1)) k
theorem hp_i2l {x : Int32} (hdg : decode Y.2.1 pc = .ok (.i2l, 1)) (k : hp_J Y Z mk h (pc + 1) lv (.long x.toInt64 :: st) X) : hp_J Y Z mk h pc lv (.int x :: st) X := by
  obtain ⟨p, l, e, s, m, args, below, meth, c, h0, E, fr, lo⟩ := Z
  exact hp_go (fun F _ _ _ _ _ _ ls h1 w => lv_i2l F.1 F.2.1 hdg rfl (w ls h1)) k
theorem hp_l2i {x : Int64} (hdg : decode Y.2.1 pc = .ok (.l2i, 1)) (k : hp_J Y Z mk h (pc + 1) lv (.int x.toInt32 :: st) X) : hp_J Y Z mk h pc lv (.long x :: st) X := by
  obtain ⟨p, l, e, s, m, args, below, meth, c, h0, E, fr, lo⟩ := Z
  exact hp_go (fun F _ _ _ _ _ _ ls h1 w => lv_l2i F.1 F.2.1 hdg rfl (w ls h1)) k
theorem hp_i2b {x : Int32} (hdg : decode Y.2.1 pc = .ok (.i2b, 1)) (k : hp_J Y Z mk h (pc + 1) lv (.int x.toInt8.toInt32 :: st) X) : hp_J Y Z mk h pc lv (.int x :: st) X := by
  obtain ⟨p, l, e, s, m, args, below, meth, c, h0, E, fr, lo⟩ := Z
  exact hp_go (fun F _ _ _ _ _ _ ls h1 w => lv_i2b F.1 F.2.1 hdg rfl (w ls h1)) k
theorem hp_i2c {x : Int32} (hdg : decode Y.2.1 pc = .ok (.i2c, 1)) (k : hp_J Y Z mk h (pc + 1) lv (.int (x.toUInt32 % 65536).toInt32 :: st) X) : hp_J Y Z mk h pc lv (.int x :: st) X := by
  obtain ⟨p, l, e, s, m, args, below, meth, c, h0, E, fr, lo⟩ := Z
  exact hp_go (fun F _ _ _ _ _ _ ls h1 w => lv_i2c F.1 F.2.1 hdg rfl (w ls h1)) k
theorem hp_lcmp {x y : Int64} (hdg : decode Y.2.1 pc = .ok (.lcmp, 1)) (k : hp_J Y Z mk h (pc + 1) lv (.int (lg_cmp x y) :: st) X) : hp_J Y Z mk h pc lv (.long y :: .long x :: st) X := by
  obtain ⟨p, l, e, s, m, args, below, meth, c, h0, E, fr, lo⟩ := Z
  exact hp_go (fun F _ _ _ _ _ _ ls h1 w => W.lcmp F.1 F.2.1 hdg (w ls h1)) k
theorem hp_dup {va : Value} (hdg : decode Y.2.1 pc = .ok (.dup, 1)) (ha : va.category = 1) (k : hp_J Y Z mk h (pc + 1) lv (va :: va :: st) X) : hp_J Y Z mk h pc lv (va :: st) X := by
  obtain ⟨p, l, e, s, m, args, below, meth, c, h0, E, fr, lo⟩ := Z
  exact hp_go (fun F _ _ _ _ _ _ ls h1 w => lv_dup F.1 F.2.1 hdg ha (w ls h1)) k
theorem hp_pop {va : Value} (hdg : decode Y.2.1 pc = .ok (.pop, 1)) (ha : va.category = 1) (k : hp_J Y Z mk h (pc + 1) lv (st) X) : hp_J Y Z mk h pc lv (va :: st) X := by
  obtain ⟨p, l, e, s, m, args, below, meth, c, h0, E, fr, lo⟩ := Z
  exact hp_go (fun F _ _ _ _ _ _ ls h1 w => lv_pop F.1 F.2.1 hdg ha (w ls h1)) k
theorem hp_dup_x1 {va vb : Value} (hdg : decode Y.2.1 pc = .ok (.dup_x1, 1)) (ha : va.category = 1) (hb : vb.category = 1) (k : hp_J Y Z mk h (pc + 1) lv (va :: vb :: va :: st) X) : hp_J Y Z mk h pc lv (va :: vb :: st) X := by
  obtain ⟨p, l, e, s, m, args, below, meth, c, h0, E, fr, lo⟩ := Z
  exact hp_go (fun F _ _ _ _ _ _ ls h1 w => lv_dup_x1 F.1 F.2.1 hdg ha hb (w ls h1)) k
theorem hp_dup_x2 {va vb vd : Value} (hdg : decode Y.2.1 pc = .ok (.dup_x2, 1)) (ha : va.category = 1) (hb : vb.category = 1) (hd : vd.category = 1) (k : hp_J Y Z mk h (pc + 1) lv (va :: vb :: vd :: va :: st) X) : hp_J Y Z mk h pc lv (va :: vb :: vd :: st) X := by
  obtain ⟨p, l, e, s, m, args, below, meth, c, h0, E, fr, lo⟩ := Z
  exact hp_go (fun F _ _ _ _ _ _ ls h1 w => lv_dup_x2 F.1 F.2.1 hdg ha hb hd (w ls h1)) k
theorem hp_dup2_11 {va vb : Value} (hdg : decode Y.2.1 pc = .ok (.dup2, 1)) (ha : va.category = 1) (hb : vb.category = 1) (k : hp_J Y Z mk h (pc + 1) lv (va :: vb :: va :: vb :: st) X) : hp_J Y Z mk h pc lv (va :: vb :: st) X := by
  obtain ⟨p, l, e, s, m, args, below, meth, c, h0, E, fr, lo⟩ := Z
  exact hp_go (fun F _ _ _ _ _ _ ls h1 w => lv_dup2_11 F.1 F.2.1 hdg ha hb (w ls h1)) k
theorem hp_dup2_2 {va : Value} (hdg : decode Y.2.1 pc = .ok (.dup2, 1)) (ha : va.category = 2) (k : hp_J Y Z mk h (pc + 1) lv (va :: va :: st) X) : hp_J Y Z mk h pc lv (va :: st) X := by
  obtain ⟨p, l, e, s, m, args, below, meth, c, h0, E, fr, lo⟩ := Z
  exact hp_go (fun F _ _ _ _ _ _ ls h1 w => lv_dup2_2 F.1 F.2.1 hdg ha (w ls h1)) k
theorem hp_pop2_2 {va : Value} (hdg : decode Y.2.1 pc = .ok (.pop2, 1)) (ha : va.category = 2) (k : hp_J Y Z mk h (pc + 1) lv (st) X) : hp_J Y Z mk h pc lv (va :: st) X := by
  obtain ⟨p, l, e, s, m, args, below, meth, c, h0, E, fr, lo⟩ := Z
  exact hp_go (fun F _ _ _ _ _ _ ls h1 w => lv_pop2_2 F.1 F.2.1 hdg ha (w ls h1)) k
theorem hp_dup2_x1_2 {va vb : Value} (hdg : decode Y.2.1 pc = .ok (.dup2_x1, 1)) (ha : va.category = 2) (hb : vb.category = 1) (k : hp_J Y Z mk h (pc + 1) lv (va :: vb :: va :: st) X) : hp_J Y Z mk h pc lv (va :: vb :: st) X := by
  obtain ⟨p, l, e, s, m, args, below, meth, c, h0, E, fr, lo⟩ := Z
  exact hp_go (fun F _ _ _ _ _ _ ls h1 w => lv_dup2_x1_2 F.1 F.2.1 hdg ha hb (w ls h1)) k
theorem hp_idiv {x y : Int32} {K : Int32 → Option (α × hp_H)} (hdg : decode Y.2.1 pc = .ok (.idiv, 1)) (k : ∀ q, hp_J Y Z mk h (pc + 1) lv (.int q :: st) (K q)) : hp_J Y Z mk h pc lv (.int y :: .int x :: st) ((hp_dI x y).bind K) := by
  obtain ⟨p, l, e, s, m, args, below, meth, c, h0, E, fr, lo⟩ := Z
  by_cases hy : y = 0
  · rw [show hp_dI x y = none from if_pos hy]; exact hp_fail
  · rw [show hp_dI x y = some (x / y) from if_neg hy]
    exact hp_go (fun F _ _ _ _ _ _ ls h1 w => lv_idiv F.1 F.2.1 hdg hy (w ls h1)) (k _)
theorem hp_irem {x y : Int32} {K : Int32 → Option (α × hp_H)} (hdg : decode Y.2.1 pc = .ok (.irem, 1)) (k : ∀ q, hp_J Y Z mk h (pc + 1) lv (.int q :: st) (K q)) : hp_J Y Z mk h pc lv (.int y :: .int x :: st) ((hp_mI x y).bind K) := by
  obtain ⟨p, l, e, s, m, args, below, meth, c, h0, E, fr, lo⟩ := Z
  by_cases hy : y = 0
  · rw [show hp_mI x y = none from if_pos hy]; exact hp_fail
  · rw [show hp_mI x y = some (x - x / y * y) from if_neg hy]
    exact hp_go (fun F _ _ _ _ _ _ ls h1 w => lv_irem F.1 F.2.1 hdg hy (w ls h1)) (k _)
theorem hp_ldiv {x y : Int64} {K : Int64 → Option (α × hp_H)} (hdg : decode Y.2.1 pc = .ok (.ldiv, 1)) (k : ∀ q, hp_J Y Z mk h (pc + 1) lv (.long q :: st) (K q)) : hp_J Y Z mk h pc lv (.long y :: .long x :: st) ((hp_dL x y).bind K) := by
  obtain ⟨p, l, e, s, m, args, below, meth, c, h0, E, fr, lo⟩ := Z
  by_cases hy : y = 0
  · rw [show hp_dL x y = none from if_pos hy]; exact hp_fail
  · rw [show hp_dL x y = some (x / y) from if_neg hy]
    exact hp_go (fun F _ _ _ _ _ _ ls h1 w => lv_ldiv F.1 F.2.1 hdg hy (w ls h1)) (k _)
theorem hp_lrem {x y : Int64} {K : Int64 → Option (α × hp_H)} (hdg : decode Y.2.1 pc = .ok (.lrem, 1)) (k : ∀ q, hp_J Y Z mk h (pc + 1) lv (.long q :: st) (K q)) : hp_J Y Z mk h pc lv (.long y :: .long x :: st) ((hp_mL x y).bind K) := by
  obtain ⟨p, l, e, s, m, args, below, meth, c, h0, E, fr, lo⟩ := Z
  by_cases hy : y = 0
  · rw [show hp_mL x y = none from if_pos hy]; exact hp_fail
  · rw [show hp_mL x y = some (x - x / y * y) from if_neg hy]
    exact hp_go (fun F _ _ _ _ _ _ ls h1 w => lv_lrem F.1 F.2.1 hdg hy (w ls h1)) (k _)
theorem hp_if_eq {x : Int32} {off : Int} {tgt : Nat} {A B : Option (α × hp_H)} (hdg : decode Y.2.1 pc = .ok (.ifCond .eq off, 3)) (ht : (pc : Int) + off = (tgt : Int)) (kt : hp_J Y Z mk h tgt lv st A) (kf : hp_J Y Z mk h (pc + 3) lv st B) : hp_J Y Z mk h pc lv (.int x :: st) (if x = 0 then A else B) := by
  obtain ⟨p, l, e, s, m, args, below, meth, c, h0, E, fr, lo⟩ := Z
  by_cases hc : x = 0
  · rw [if_pos hc]; exact hp_go (fun F _ _ _ _ _ _ ls h1 w => lv_if_eq F.1 F.2.1 hdg ht (fun _ => w ls h1) (fun q => absurd hc q)) kt
  · rw [if_neg hc]; exact hp_go (fun F _ _ _ _ _ _ ls h1 w => lv_if_eq F.1 F.2.1 hdg ht (fun q => absurd q hc) (fun _ => w ls h1)) kf
theorem hp_icmp_eq {x y : Int32} {off : Int} {tgt : Nat} {A B : Option (α × hp_H)} (hdg : decode Y.2.1 pc = .ok (.if_icmp .eq off, 3)) (ht : (pc : Int) + off = (tgt : Int)) (kt : hp_J Y Z mk h tgt lv st A) (kf : hp_J Y Z mk h (pc + 3) lv st B) : hp_J Y Z mk h pc lv (.int y :: .int x :: st) (if x = y then A else B) := by
  obtain ⟨p, l, e, s, m, args, below, meth, c, h0, E, fr, lo⟩ := Z
  by_cases hc : x = y
  · rw [if_pos hc]; exact hp_go (fun F _ _ _ _ _ _ ls h1 w => lv_icmp_eq F.1 F.2.1 hdg ht (fun _ => w ls h1) (fun q => absurd hc q)) kt
  · rw [if_neg hc]; exact hp_go (fun F _ _ _ _ _ _ ls h1 w => lv_icmp_eq F.1 F.2.1 hdg ht (fun q => absurd q hc) (fun _ => w ls h1)) kf
theorem hp_if_ne {x : Int32} {off : Int} {tgt : Nat} {A B : Option (α × hp_H)} (hdg : decode Y.2.1 pc = .ok (.ifCond .ne off, 3)) (ht : (pc : Int) + off = (tgt : Int)) (kf : hp_J Y Z mk h (pc + 3) lv st A) (kt : hp_J Y Z mk h tgt lv st B) : hp_J Y Z mk h pc lv (.int x :: st) (if x = 0 then A else B) := by
  obtain ⟨p, l, e, s, m, args, below, meth, c, h0, E, fr, lo⟩ := Z
  by_cases hc : x = 0
  · rw [if_pos hc]; exact hp_go (fun F _ _ _ _ _ _ ls h1 w => lv_if_ne F.1 F.2.1 hdg ht (fun q => absurd hc q) (fun _ => w ls h1)) kf
  · rw [if_neg hc]; exact hp_go (fun F _ _ _ _ _ _ ls h1 w => lv_if_ne F.1 F.2.1 hdg ht (fun _ => w ls h1) (fun q => absurd q hc)) kt
theorem hp_icmp_ne {x y : Int32} {off : Int} {tgt : Nat} {A B : Option (α × hp_H)} (hdg : decode Y.2.1 pc = .ok (.if_icmp .ne off, 3)) (ht : (pc : Int) + off = (tgt : Int)) (kf : hp_J Y Z mk h (pc + 3) lv st A) (kt : hp_J Y Z mk h tgt lv st B) : hp_J Y Z mk h pc lv (.int y :: .int x :: st) (if x = y then A else B) := by
  obtain ⟨p, l, e, s, m, args, below, meth, c, h0, E, fr, lo⟩ := Z
  by_cases hc : x = y
  · rw [if_pos hc]; exact hp_go (fun F _ _ _ _ _ _ ls h1 w => lv_icmp_ne F.1 F.2.1 hdg ht (fun q => absurd hc q) (fun _ => w ls h1)) kf
  · rw [if_neg hc]; exact hp_go (fun F _ _ _ _ _ _ ls h1 w => lv_icmp_ne F.1 F.2.1 hdg ht (fun _ => w ls h1) (fun q => absurd q hc)) kt
theorem hp_if_lt {x : Int32} {off : Int} {tgt : Nat} {A B : Option (α × hp_H)} (hdg : decode Y.2.1 pc = .ok (.ifCond .lt off, 3)) (ht : (pc : Int) + off = (tgt : Int)) (kt : hp_J Y Z mk h tgt lv st A) (kf : hp_J Y Z mk h (pc + 3) lv st B) : hp_J Y Z mk h pc lv (.int x :: st) (if x < 0 then A else B) := by
  obtain ⟨p, l, e, s, m, args, below, meth, c, h0, E, fr, lo⟩ := Z
  by_cases hc : x < 0
  · rw [if_pos hc]; exact hp_go (fun F _ _ _ _ _ _ ls h1 w => lv_if_lt F.1 F.2.1 hdg ht (fun _ => w ls h1) (fun q => absurd hc q)) kt
  · rw [if_neg hc]; exact hp_go (fun F _ _ _ _ _ _ ls h1 w => lv_if_lt F.1 F.2.1 hdg ht (fun q => absurd q hc) (fun _ => w ls h1)) kf
theorem hp_icmp_lt {x y : Int32} {off : Int} {tgt : Nat} {A B : Option (α × hp_H)} (hdg : decode Y.2.1 pc = .ok (.if_icmp .lt off, 3)) (ht : (pc : Int) + off = (tgt : Int)) (kt : hp_J Y Z mk h tgt lv st A) (kf : hp_J Y Z mk h (pc + 3) lv st B) : hp_J Y Z mk h pc lv (.int y :: .int x :: st) (if x < y then A else B) := by
  obtain ⟨p, l, e, s, m, args, below, meth, c, h0, E, fr, lo⟩ := Z
  by_cases hc : x < y
  · rw [if_pos hc]; exact hp_go (fun F _ _ _ _ _ _ ls h1 w => lv_icmp_lt F.1 F.2.1 hdg ht (fun _ => w ls h1) (fun q => absurd hc q)) kt
  · rw [if_neg hc]; exact hp_go (fun F _ _ _ _ _ _ ls h1 w => lv_icmp_lt F.1 F.2.1 hdg ht (fun q => absurd q hc) (fun _ => w ls h1)) kf
theorem hp_if_ge {x : Int32} {off : Int} {tgt : Nat} {A B : Option (α × hp_H)} (hdg : decode Y.2.1 pc = .ok (.ifCond .ge off, 3)) (ht : (pc : Int) + off = (tgt : Int)) (kt : hp_J Y Z mk h tgt lv st A) (kf : hp_J Y Z mk h (pc + 3) lv st B) : hp_J Y Z mk h pc lv (.int x :: st) (if 0 ≤ x then A else B) := by
  obtain ⟨p, l, e, s, m, args, below, meth, c, h0, E, fr, lo⟩ := Z
  by_cases hc : 0 ≤ x
  · rw [if_pos hc]; exact hp_go (fun F _ _ _ _ _ _ ls h1 w => lv_if_ge F.1 F.2.1 hdg ht (fun _ => w ls h1) (fun q => absurd hc q)) kt
  · rw [if_neg hc]; exact hp_go (fun F _ _ _ _ _ _ ls h1 w => lv_if_ge F.1 F.2.1 hdg ht (fun q => absurd q hc) (fun _ => w ls h1)) kf
theorem hp_icmp_ge {x y : Int32} {off : Int} {tgt : Nat} {A B : Option (α × hp_H)} (hdg : decode Y.2.1 pc = .ok (.if_icmp .ge off, 3)) (ht : (pc : Int) + off = (tgt : Int)) (kt : hp_J Y Z mk h tgt lv st A) (kf : hp_J Y Z mk h (pc + 3) lv st B) : hp_J Y Z mk h pc lv (.int y :: .int x :: st) (if y ≤ x then A else B) := by
  obtain ⟨p, l, e, s, m, args, below, meth, c, h0, E, fr, lo⟩ := Z
  by_cases hc : y ≤ x
  · rw [if_pos hc]; exact hp_go (fun F _ _ _ _ _ _ ls h1 w => lv_icmp_ge F.1 F.2.1 hdg ht (fun _ => w ls h1) (fun q => absurd hc q)) kt
  · rw [if_neg hc]; exact hp_go (fun F _ _ _ _ _ _ ls h1 w => lv_icmp_ge F.1 F.2.1 hdg ht (fun q => absurd q hc) (fun _ => w ls h1)) kf
theorem hp_if_gt {x : Int32} {off : Int} {tgt : Nat} {A B : Option (α × hp_H)} (hdg : decode Y.2.1 pc = .ok (.ifCond .gt off, 3)) (ht : (pc : Int) + off = (tgt : Int)) (kt : hp_J Y Z mk h tgt lv st A) (kf : hp_J Y Z mk h (pc + 3) lv st B) : hp_J Y Z mk h pc lv (.int x :: st) (if 0 < x then A else B) := by
  obtain ⟨p, l, e, s, m, args, below, meth, c, h0, E, fr, lo⟩ := Z
  by_cases hc : 0 < x
  · rw [if_pos hc]; exact hp_go (fun F _ _ _ _ _ _ ls h1 w => lv_if_gt F.1 F.2.1 hdg ht (fun _ => w ls h1) (fun q => absurd hc q)) kt
  · rw [if_neg hc]; exact hp_go (fun F _ _ _ _ _ _ ls h1 w => lv_if_gt F.1 F.2.1 hdg ht (fun q => absurd q hc) (fun _ => w ls h1)) kf
theorem hp_icmp_gt {x y : Int32} {off : Int} {tgt : Nat} {A B : Option (α × hp_H)} (hdg : decode Y.2.1 pc = .ok (.if_icmp .gt off, 3)) (ht : (pc : Int) + off = (tgt : Int)) (kt : hp_J Y Z mk h tgt lv st A) (kf : hp_J Y Z mk h (pc + 3) lv st B) : hp_J Y Z mk h pc lv (.int y :: .int x :: st) (if y < x then A else B) := by
  obtain ⟨p, l, e, s, m, args, below, meth, c, h0, E, fr, lo⟩ := Z
  by_cases hc : y < x
  · rw [if_pos hc]; exact hp_go (fun F _ _ _ _ _ _ ls h1 w => lv_icmp_gt F.1 F.2.1 hdg ht (fun _ => w ls h1) (fun q => absurd hc q)) kt
  · rw [if_neg hc]; exact hp_go (fun F _ _ _ _ _ _ ls h1 w => lv_icmp_gt F.1 F.2.1 hdg ht (fun q => absurd q hc) (fun _ => w ls h1)) kf
theorem hp_if_le {x : Int32} {off : Int} {tgt : Nat} {A B : Option (α × hp_H)} (hdg : decode Y.2.1 pc = .ok (.ifCond .le off, 3)) (ht : (pc : Int) + off = (tgt : Int)) (kt : hp_J Y Z mk h tgt lv st A) (kf : hp_J Y Z mk h (pc + 3) lv st B) : hp_J Y Z mk h pc lv (.int x :: st) (if x ≤ 0 then A else B) := by
  obtain ⟨p, l, e, s, m, args, below, meth, c, h0, E, fr, lo⟩ := Z
  by_cases hc : x ≤ 0
  · rw [if_pos hc]; exact hp_go (fun F _ _ _ _ _ _ ls h1 w => lv_if_le F.1 F.2.1 hdg ht (fun _ => w ls h1) (fun q => absurd hc q)) kt
  · rw [if_neg hc]; exact hp_go (fun F _ _ _ _ _ _ ls h1 w => lv_if_le F.1 F.2.1 hdg ht (fun q => absurd q hc) (fun _ => w ls h1)) kf
theorem hp_icmp_le {x y : Int32} {off : Int} {tgt : Nat} {A B : Option (α × hp_H)} (hdg : decode Y.2.1 pc = .ok (.if_icmp .le off, 3)) (ht : (pc : Int) + off = (tgt : Int)) (kt : hp_J Y Z mk h tgt lv st A) (kf : hp_J Y Z mk h (pc + 3) lv st B) : hp_J Y Z mk h pc lv (.int y :: .int x :: st) (if x ≤ y then A else B) := by
  obtain ⟨p, l, e, s, m, args, below, meth, c, h0, E, fr, lo⟩ := Z
  by_cases hc : x ≤ y
  · rw [if_pos hc]; exact hp_go (fun F _ _ _ _ _ _ ls h1 w => lv_icmp_le F.1 F.2.1 hdg ht (fun _ => w ls h1) (fun q => absurd hc q)) kt
  · rw [if_neg hc]; exact hp_go (fun F _ _ _ _ _ _ ls h1 w => lv_icmp_le F.1 F.2.1 hdg ht (fun q => absurd q hc) (fun _ => w ls h1)) kf
theorem hp_goto {off : Int} {tgt : Nat} (hdg : decode Y.2.1 pc = .ok (.goto off, 3)) (ht : (pc : Int) + off = (tgt : Int)) (k : hp_J Y Z mk h tgt lv st X) : hp_J Y Z mk h pc lv st X := by
  obtain ⟨p, l, e, s, m, args, below, meth, c, h0, E, fr, lo⟩ := Z
  exact hp_go (fun F _ _ _ _ _ _ ls h1 w => lv_goto F.1 F.2.1 hdg ht (w ls h1)) k
theorem hp_ldc {index : Nat} {v : Int32} (hdg : decode Y.2.1 pc = .ok (.ldc index, 2)) (hw : Cond.constant Y.1 index v ∈ hp_T) (k : hp_J Y Z mk h (pc + 2) lv (.int v :: st) X) : hp_J Y Z mk h pc lv st X := by
  obtain ⟨p, l, e, s, m, args, below, meth, c, h0, E, fr, lo⟩ := Z
  exact hp_go (fun F _ _ _ _ _ _ ls h1 w => lv_ldc F.1 F.2.1 F.2.2.2.1 (F.2.2.2.2.1 _ hw) hdg (w ls h1)) k
theorem hp_ldc2 {index : Nat} {v : Int64} (hdg : decode Y.2.1 pc = .ok (.ldc2_w index, 3)) (hw : Cond.constantLong Y.1 index v ∈ hp_T) (k : hp_J Y Z mk h (pc + 3) lv (.long v :: st) X) : hp_J Y Z mk h pc lv st X := by
  obtain ⟨p, l, e, s, m, args, below, meth, c, h0, E, fr, lo⟩ := Z
  exact hp_go (fun F _ _ _ _ _ _ ls h1 w => lv_ldc2 F.1 F.2.1 F.2.2.2.1 (F.2.2.2.2.1 _ hw) hdg (w ls h1)) k
theorem hp_iret {x : Int32} (hdg : decode Y.2.1 pc = .ok (.ireturn, 1)) (hr : Y.2.2.2.1 = some .int) : hp_J Y Z hp_rI h pc lv [.int x] (some (x, h)) := by
  obtain ⟨p, l, e, s, m, args, below, meth, c, h0, E, fr, lo⟩ := Z
  intro r h' hX
  cases hX
  refine ⟨⟨Nat.le_refl _, Nat.le_refl _⟩, fun F a1 a2 H locs ls hR hL hl => ?_⟩
  exact W.iret F.1 F.2.1 (F.2.2.2.2.2.2.1.trans hr) (fun t ht hW => ⟨rfl, by rw [ht]; exact hR.moved hW.alike⟩) hL hdg F.2.2.2.2.2.2.2.1
theorem hp_lret {x : Int64} (hdg : decode Y.2.1 pc = .ok (.lreturn, 1)) (hr : Y.2.2.2.1 = some .long) : hp_J Y Z hp_rL h pc lv [.long x] (some (x, h)) := by
  obtain ⟨p, l, e, s, m, args, below, meth, c, h0, E, fr, lo⟩ := Z
  intro r h' hX
  cases hX
  refine ⟨⟨Nat.le_refl _, Nat.le_refl _⟩, fun F a1 a2 H locs ls hR hL hl => ?_⟩
  exact W.lret F.1 F.2.1 (F.2.2.2.2.2.2.1.trans hr) (fun t ht hW => ⟨rfl, by rw [ht]; exact hR.moved hW.alike⟩) hL hdg F.2.2.2.2.2.2.2.1
def hp_z (x : Int32) (h : hp_H) : Option (Int32 × hp_H) := if x = 0 ∨ x = 1 then some (x, h) else none
theorem hp_zret {x : Int32} (hdg : decode Y.2.1 pc = .ok (.ireturn, 1)) (hr : Y.2.2.2.1 = some .boolean) : hp_J Y Z hp_rI h pc lv [.int x] (hp_z x h) := by
  obtain ⟨p, l, e, s, m, args, below, meth, c, h0, E, fr, lo⟩ := Z
  by_cases hx : x = 0 ∨ x = 1
  · rw [show hp_z x h = some (x, h) from if_pos hx]
    intro r h' hX
    cases hX
    refine ⟨⟨Nat.le_refl _, Nat.le_refl _⟩, fun F a1 a2 H locs ls hR hL hl => ?_⟩
    exact W.zret F.1 F.2.1 (F.2.2.2.2.2.2.1.trans hr) (by rcases hx with rfl | rfl <;> rfl) (fun t ht hW => ⟨rfl, by rw [ht]; exact hR.moved hW.alike⟩) hL hdg F.2.2.2.2.2.2.2.1
  · rw [show hp_z x h = none from if_neg hx]; exact hp_fail
theorem hp_vret (hdg : decode Y.2.1 pc = .ok (.return_, 1)) (hr : Y.2.2.2.1 = none) : hp_J Y Z hp_rV h pc lv [] (some ((), h)) := by
  obtain ⟨p, l, e, s, m, args, below, meth, c, h0, E, fr, lo⟩ := Z
  intro r h' hX
  cases hX
  refine ⟨⟨Nat.le_refl _, Nat.le_refl _⟩, fun F a1 a2 H locs ls hR hL hl => ?_⟩
  exact W.vret F.1 F.2.1 (F.2.2.2.2.2.2.1.trans hr) (fun t ht hW => ⟨rfl, by rw [ht]; exact hR.moved hW.alike⟩) hL hdg F.2.2.2.2.2.2.2.1
theorem hp_aret {x : Nat} {rt : FieldType} (hdg : decode Y.2.1 pc = .ok (.areturn, 1)) (hr : Y.2.2.2.1 = some rt) (hrt : (∃ n, rt = .object n) ∨ ∃ t, rt = .array t) : hp_J Y Z hp_rR h pc lv [.ref x] (some (x, h)) := by
  obtain ⟨p, l, e, s, m, args, below, meth, c, h0, E, fr, lo⟩ := Z
  intro r h' hX
  cases hX
  refine ⟨⟨Nat.le_refl _, Nat.le_refl _⟩, fun F a1 a2 H locs ls hR hL hl => ?_⟩
  exact W.aret F.1 F.2.1 (F.2.2.2.2.2.2.1.trans hr) hrt (Or.inr ⟨_, rfl⟩) (fun t ht hW => ⟨rfl, by rw [ht]; exact hR.moved hW.alike⟩) hL hdg F.2.2.2.2.2.2.2.1
end HJ
end
section
/-! ROWS THAT READ AND MOVE THE HEAP -/
theorem hp_fs_some {h : hp_H} {a ci : Nat} {fs : List Value} (e : hp_fs h a ci = some fs) : h.1 a = some (.inl (ci, fs)) := by
  unfold hp_fs at e
  split at e
  · rename_i o ho
    split at e
    · rename_i hc
      cases e
      rw [ho, ← hc]
    · cases e
  · cases e
theorem hp_arr_some {h : hp_H} {a : Nat} {o : Bool × FieldType × Nat × hp_Ar} (e : hp_arr h a = some o) : h.1 a = some (.inr o) := by
  unfold hp_arr at e
  split at e
  · rename_i o' ho
    cases e
    exact ho
  · cases e
theorem hp_toI_some {v : Value} {x : Int32} (e : hp_toI v = some x) : v = .int x := by
  cases v <;> simp [hp_toI] at e
  rw [e]
theorem hp_toL_some {v : Value} {x : Int64} (e : hp_toL v = some x) : v = .long x := by
  cases v <;> simp [hp_toL] at e
  rw [e]
theorem hp_toR_some {v : Value} {x : Nat} (e : hp_toR v = some x) : v = .ref x := by
  cases v <;> simp [hp_toR] at e
  rw [e]
theorem hp_g_some {β : Type} {f : Value → Option β} {h : hp_H} {a ci k : Nat} {x : β} (e : ((hp_fs h a ci).bind fun fs => fs[k]?).bind f = some x) : ∃ (fs : List Value) (v : Value), h.1 a = some (.inl (ci, fs)) ∧ fs[k]? = some v ∧ f v = some x := by
  obtain ⟨v, e1, e2⟩ := Option.bind_eq_some_iff.mp e
  obtain ⟨fs, e3, e4⟩ := Option.bind_eq_some_iff.mp e1
  exact ⟨fs, v, hp_fs_some e3, e4, e2⟩
/-- what a field's pool entry 'index' of the method's class 'own' names: field k of the objects of class ci -/
def hp_fl (own : String) (index ci k : Nat) (ty : FieldType) (fin : Bool) : Prop := ∃ (C : String) (T : u_T) (N : Nat) (t0 : Nat → FieldType), classes[ci]? = some (C, T, N) ∧ (∀ w ∈ u_ws C T N, w ∈ hp_T) ∧ (∀ j, j < N → parseFieldDescriptor (T j).2.2.1 = some (t0 j)) ∧ (∀ a, a < N → ∀ b, b < N → a ≠ b → (T a).2.1 ≠ (T b).2.1) ∧ k < N ∧ ∃ ref : String, (ref = (T k).1 ∨ Cond.sameField ref (T k).1 (T k).2.1 (T k).2.2.1 ∈ hp_T) ∧ Cond.fieldLink own index ref (T k).2.1 (T k).2.2.1 ∈ hp_T ∧ (T k).2.2.2 = fin ∧ t0 k = ty
theorem hp_refs {args : Array Value} {s : State} {ref owner name desc : String} (hT : ∀ w ∈ hp_T, w.before args s = true) (h : ref = owner ∨ Cond.sameField ref owner name desc ∈ hp_T) (x : ClassId × Class × Nat × Field) (hx : s.fieldFound? owner name desc = some x) : s.fieldFound? ref name desc = some x := by
  rcases h with h | h
  · rw [h]; exact hx
  · exact u_same (hT _ h) x hx
section HH
variable {p : Program} {l : Launch} {e : Env} {R : Room} {s : State} {m : MethodId} {args : Array Value} {below : List Frame} {meth : Method} {c : Code} {fr lo : Nat} {H : Heap} {locs : List Loc} {cells slots : Nat} {Q : State → Prop} {h : hp_H} {E : hp_E} {Y : hp_Y} {pc : Nat} {ls : Array Slot} {rest : List Value}
theorem hp_Wget {a ci k index : Nat} {fs : List Value} {v : Value} {ty : FieldType} {fin : Bool} (F : hp_F Y p s m args meth c fr lo E) (hR : hp_R E s H h) (hf : hp_fl Y.1 index ci k ty fin) (ha : h.1 a = some (.inl (ci, fs))) (hv : fs[k]? = some v) (hdg : decode Y.2.1 pc = .ok (.getfield index, 3))
    (kk : W p l e R s m args below meth c H locs cells slots Q (F0 m (pc + 3) ls (v :: rest))) : W p l e R s m args below meth c H locs cells slots Q (F0 m pc ls (.ref a :: rest)) := by
  obtain ⟨C, T, N, t0, hc, hin, hty, hnm, hk, ref, hsame, hlink, -, -⟩ := hf
  obtain ⟨-, r, h1, hlen, cell, q1, q2, q3, q4⟩ := hR.2.2.1 a _ ha
  have hr : r = (C, T, N) := Option.some.inj (h1.symm.trans hc)
  subst hr
  obtain ⟨hS, hfc, kC, hkC, hkind⟩ := hR.2.2.2.1 ci _ hc
  obtain ⟨cf, kf, fi, f, hi, hsl⟩ := hS k hk
  refine W.getf F.1 F.2.1 F.2.2.2.1 (F.2.2.2.2.1 _ hlink) (hp_refs F.2.2.2.2.1 hsame _ hi) (u_facts hfc hkC (u_lays F.2.2.2.2.1 hin hk) hi).1 q1 (by rw [q3]; exact fun h => by cases h) (v := v) ?_ rfl rfl hdg kk
  rw [hsl, q4 k hk]
  simp [vp_V, hv]
theorem hp_Wput {a ci k index : Nat} {fs : List Value} {v : Value} {ty : FieldType} {fin : Bool} (F : hp_F Y p s m args meth c fr lo E) (hR : hp_R E s H h) (hf : hp_fl Y.1 index ci k ty fin) (hfin : fin = true → Y.2.2.2.2.1 = "<init>" ∧ (∀ q, classes[ci]? = some q → (q.2.1 k).1 = Y.1)) (ha : h.1 a = some (.inl (ci, fs))) (hn : narrow ty v = v) (hfit : fits ty v = true) (hL : ∀ q ∈ locs, E.2.2.2 ≤ q.base) (hdg : decode Y.2.1 pc = .ok (.putfield index, 3))
    (kk : ∀ (H1 : Heap) (locs1 : List Loc), hp_R E s H1 (hp_up h.1 a (.inl (ci, fs.set k v)), h.2) → (∀ q ∈ locs1, E.2.2.2 ≤ q.base) → W p l e R s m args below meth c H1 locs1 cells slots Q (F0 m (pc + 3) ls rest)) : W p l e R s m args below meth c H locs cells slots Q (F0 m pc ls (v :: .ref a :: rest)) := by
  obtain ⟨C, T, N, t0, hc, hin, hty, hnm, hk, ref, hsame, hlink, hfi, ht0⟩ := hf
  obtain ⟨hB, r, h1, hlen, cell, q1, q2, q3, q4⟩ := hR.2.2.1 a _ ha
  have hr : r = (C, T, N) := Option.some.inj (h1.symm.trans hc)
  subst hr
  have hlen : fs.length = N := hlen
  obtain ⟨hS, hfc, kC, hkC, hkind⟩ := hR.2.2.2.1 ci _ hc
  obtain ⟨cf, kf, fi, f, hi, hsl⟩ := hS k hk
  have hd : parseFieldDescriptor (T k).2.2.1 = some ty := by rw [hty k hk, ht0]
  have hst := (u_facts hfc hkC (u_lays F.2.2.2.2.1 hin hk) hi).1
  have hap : ∀ x y, x < N → y < N → x ≠ y → (E.2.1 ci) x ≠ (E.2.1 ci) y := by
    intro x y hx hy hne
    obtain ⟨_, _, _, fa, hia, ea⟩ := hS x hx
    obtain ⟨_, _, _, fb, hib, eb⟩ := hS y hy
    rw [← ea, ← eb]
    refine u_apart (u_lays F.2.2.2.2.1 hin hx) (u_lays F.2.2.2.2.1 hin hy) hia hib ?_
    rw [(State.fieldFound?_type hia (hty x hx)).1, (State.fieldFound?_type hib (hty y hy)).1]
    exact hnm x hx y hy hne
  have key : ∀ H' : Heap, H'[a]? = some (cell.setSlot f.slot v) → H'.size = H.size → (∀ q, q ≠ a → H'[q]? = H[q]?) → W p l e R s m args below meth c H' (locs ++ [⟨a, f.slot⟩]) cells slots Q (F0 m (pc + 3) ls rest) := by
    intro H' e1 e2 e3
    rw [hsl] at e1 ⊢
    refine kk H' _ (hR.put hB ⟨hB, _, hc, by rw [List.length_set]; exact hlen, t_OB.to (V := updV (vp_V fs) k v) ⟨_, e1, q2, q3, t_set q4 hap hk v⟩ (fun j _ => vp_updV_set (by rw [hlen]; exact hk) v j)⟩ e2 e3) ?_
    intro q hq
    rcases List.mem_append.mp hq with hq | hq
    · exact hL q hq
    · rw [List.mem_singleton.mp hq]; exact hB
  have hlt : f.slot < cell.slots.size := by rw [hsl]; exact k2_hasslot (q4 k hk)
  have hlay := F.2.2.2.2.1 _ (hin _ (u_in_lay hk))
  cases fin with
  | false =>
    unfold u_lay at hlay
    rw [if_neg (by rw [hfi]; decide)] at hlay
    have h6 := u_store hfc hkC hkind hlay hi hd hn hfit
    exact W.putK F.1 F.2.1 (f := f) ⟨F.2.2.2.1, F.2.2.2.2.1 _ hlink, ⟨_, _, _, hp_refs F.2.2.2.2.1 hsame _ hi⟩, hst⟩ (by rw [q2]; exact h6) q1 q3 hlt rfl rfl hdg key
  | true =>
    unfold u_lay at hlay
    rw [if_pos hfi] at hlay
    obtain ⟨hin2, hdecl⟩ := hfin rfl
    have hdecl : (T k).1 = Y.1 := hdecl _ hc
    have h6 := u_fits hfc hkC hkind (Or.inr hlay) hi hd hn hfit
    have hcf : m.cls = cf := by
      obtain ⟨_, _, c', _, _, _, -, -, hf', -, -, -, hown2, -⟩ := Cond.laysFinal_spec hlay
      have e1 : c' = cf := by have := hi.symm.trans hf'; simp at this; exact this.1.symm
      rw [hdecl] at hown2
      rw [← e1]; exact Option.some.inj (F.2.2.2.1.symm.trans hown2)
    exact W.putFinK F.1 F.2.1 F.2.2.2.1 (F.2.2.2.2.1 _ hlink) (hp_refs F.2.2.2.2.1 hsame _ hi) hst hcf (F.2.2.2.2.2.2.2.2.1.trans hin2) (by rw [q2]; exact h6) q1 q3 hlt rfl rfl hdg key
end HH
def hp_nwK {β : Type} (h : hp_H) (ci n : Nat) (fs : List Value) (K : Nat → hp_H → β) : β := K h.2.1 (hp_new h ci n fs)
def hp_naK {β : Type} (h : hp_H) (ty : FieldType) (n : Int32) (f : hp_Ar) (K : Nat → hp_H → Option β) : Option β := if ¬ n < 0 ∧ n.toNatClampNeg * componentBytes ty ≤ 536870912 then K h.2.1 (hp_newa h ty n.toNatClampNeg f) else none
/-- what 'new' at the pool entry 'index' of the class 'own' makes: an object of class ci with the fields fs -/
def hp_nw (own : String) (index ci N : Nat) (fs : List Value) : Prop := ∃ (C : String) (T : u_T) (t0 : Nat → FieldType), classes[ci]? = some (C, T, N) ∧ (∀ w ∈ u_ws C T N, w ∈ hp_T) ∧ (∀ j, j < N → parseFieldDescriptor (T j).2.2.1 = some (t0 j)) ∧ fs.length = N ∧ (∀ j, j < N → defaultValue (t0 j) = vp_V fs j) ∧ Cond.classLink own index C ∈ hp_T ∧ Cond.instantiable C N ∈ hp_T ∧ Cond.initialized C ∈ hp_T
theorem hp_setsz (cell : Cell) (i : Nat) (v : Value) : (cell.setSlot i v).slots.size = cell.slots.size := by simp [Cell.setSlot]
section HK
variable {Y : hp_Y} {Z : hp_Z} {α : Type} {mk : α → Option Value} {h : hp_H} {pc : Nat} {lv : List (Nat × Value)} {st : List Value} {X : Option (α × hp_H)}
theorem hp_getI {a ci k index : Nat} {ty : FieldType} {fin : Bool} {K : Int32 → Option (α × hp_H)} (hf : hp_fl Y.1 index ci k ty fin) (hdg : decode Y.2.1 pc = .ok (.getfield index, 3)) (kk : ∀ x, hp_J Y Z mk h (pc + 3) lv (.int x :: st) (K x)) : hp_J Y Z mk h pc lv (.ref a :: st) ((hp_gI h a ci k).bind K) := by
  obtain ⟨p, l, e, s, m, args, below, meth, c, h0, E, fr, lo⟩ := Z
  intro r h' hX
  obtain ⟨x, e1, e2⟩ := Option.bind_eq_some_iff.mp hX
  obtain ⟨fs, v, ha, hv, hx⟩ := hp_g_some e1
  cases hp_toI_some hx
  obtain ⟨k1, k2⟩ := kk x r h' e2
  exact ⟨k1, fun F a1 a2 H locs ls hR hL hl => hp_Wget F hR hf ha hv hdg (k2 F a1 a2 H locs ls hR hL hl)⟩
theorem hp_getL {a ci k index : Nat} {ty : FieldType} {fin : Bool} {K : Int64 → Option (α × hp_H)} (hf : hp_fl Y.1 index ci k ty fin) (hdg : decode Y.2.1 pc = .ok (.getfield index, 3)) (kk : ∀ x, hp_J Y Z mk h (pc + 3) lv (.long x :: st) (K x)) : hp_J Y Z mk h pc lv (.ref a :: st) ((hp_gL h a ci k).bind K) := by
  obtain ⟨p, l, e, s, m, args, below, meth, c, h0, E, fr, lo⟩ := Z
  intro r h' hX
  obtain ⟨x, e1, e2⟩ := Option.bind_eq_some_iff.mp hX
  obtain ⟨fs, v, ha, hv, hx⟩ := hp_g_some e1
  cases hp_toL_some hx
  obtain ⟨k1, k2⟩ := kk x r h' e2
  exact ⟨k1, fun F a1 a2 H locs ls hR hL hl => hp_Wget F hR hf ha hv hdg (k2 F a1 a2 H locs ls hR hL hl)⟩
theorem hp_getR {a ci k index : Nat} {ty : FieldType} {fin : Bool} {K : Nat → Option (α × hp_H)} (hf : hp_fl Y.1 index ci k ty fin) (hdg : decode Y.2.1 pc = .ok (.getfield index, 3)) (kk : ∀ x, hp_J Y Z mk h (pc + 3) lv (.ref x :: st) (K x)) : hp_J Y Z mk h pc lv (.ref a :: st) ((hp_gR h a ci k).bind K) := by
  obtain ⟨p, l, e, s, m, args, below, meth, c, h0, E, fr, lo⟩ := Z
  intro r h' hX
  obtain ⟨x, e1, e2⟩ := Option.bind_eq_some_iff.mp hX
  obtain ⟨fs, v, ha, hv, hx⟩ := hp_g_some e1
  cases hp_toR_some hx
  obtain ⟨k1, k2⟩ := kk x r h' e2
  exact ⟨k1, fun F a1 a2 H locs ls hR hL hl => hp_Wget F hR hf ha hv hdg (k2 F a1 a2 H locs ls hR hL hl)⟩
theorem hp_put {a ci k index : Nat} {ty : FieldType} {fin : Bool} {v : Value} {K : hp_H → Option (α × hp_H)} (hf : hp_fl Y.1 index ci k ty fin) (hfin : fin = true → Y.2.2.2.2.1 = "<init>" ∧ (∀ q, classes[ci]? = some q → (q.2.1 k).1 = Y.1)) (hn : narrow ty v = v) (hfit : fits ty v = true) (hdg : decode Y.2.1 pc = .ok (.putfield index, 3)) (kk : ∀ h1, hp_J Y Z mk h1 (pc + 3) lv st (K h1)) : hp_J Y Z mk h pc lv (v :: .ref a :: st) ((hp_p h a ci k v).bind K) := by
  obtain ⟨p, l, e, s, m, args, below, meth, c, h0, E, fr, lo⟩ := Z
  intro r h' hX
  obtain ⟨h1, e1, e2⟩ := Option.bind_eq_some_iff.mp hX
  unfold hp_p at e1
  obtain ⟨fs, e3, e4⟩ := Option.bind_eq_some_iff.mp e1
  have ha := hp_fs_some e3
  split at e4
  · cases e4
    obtain ⟨k1, k2⟩ := kk _ r h' e2
    exact ⟨k1, fun F a1 a2 H locs ls hR hL hl => hp_Wput F hR hf hfin ha hn hfit hL hdg (fun H1 locs1 hR1 hL1 => k2 F a1 a2 H1 locs1 ls hR1 hL1 hl)⟩
  · cases e4
theorem hp_putZ {a ci k index : Nat} {fin : Bool} {x : Int32} {K : hp_H → Option (α × hp_H)} (hf : hp_fl Y.1 index ci k .boolean fin) (hfin : fin = true → Y.2.2.2.2.1 = "<init>" ∧ (∀ q, classes[ci]? = some q → (q.2.1 k).1 = Y.1)) (hdg : decode Y.2.1 pc = .ok (.putfield index, 3)) (kk : ∀ h1, hp_J Y Z mk h1 (pc + 3) lv st (K h1)) : hp_J Y Z mk h pc lv (.int x :: .ref a :: st) ((hp_pZ h a ci k x).bind K) := by
  unfold hp_pZ
  by_cases hx : x = 0 ∨ x = 1
  · rw [if_pos hx]
    exact hp_put hf hfin (by rcases hx with rfl | rfl <;> rfl) (by rcases hx with rfl | rfl <;> rfl) hdg kk
  · rw [if_neg hx]; exact hp_fail
theorem hp_newO {index ci N : Nat} {fs : List Value} {K : Nat → hp_H → Option (α × hp_H)} (hw : hp_nw Y.1 index ci N fs) (hdg : decode Y.2.1 pc = .ok (.new index, 3)) (kk : ∀ a h1, hp_J Y Z mk h1 (pc + 3) lv (.ref a :: st) (K a h1)) : hp_J Y Z mk h pc lv st (hp_nwK h ci N fs K) := by
  obtain ⟨p, l, e, s, m, args, below, meth, c, h0, E, fr, lo⟩ := Z
  intro r h' hX
  obtain ⟨C, T, t0, hc, hin, hty, hlen, hdef, hcl, hinst, hini⟩ := hw
  obtain ⟨k1, k2⟩ := kk h.2.1 (hp_new h ci N fs) r h' hX
  have k1a : h.2.1 + 1 ≤ h'.2.1 := k1.1
  have k1b : h.2.2 + N ≤ h'.2.2 := k1.2
  refine ⟨⟨Nat.le_of_succ_le k1a, Nat.le_trans (Nat.le_add_right _ _) k1b⟩, fun F a1 a2 H locs ls hR hL hl => ?_⟩
  have hKn := hR.2.2.2.1 ci _ hc
  refine W.newcK F.1 F.2.1 F.2.2.2.1 (F.2.2.2.2.1 _ hcl) (F.2.2.2.2.1 _ hinst) (F.2.2.2.2.1 _ hini) rfl hdg (show h.2.1 - h0.2.1 + 1 ≤ h'.2.1 - h0.2.1 by omega) (show h.2.2 - h0.2.2 + N ≤ h'.2.2 - h0.2.2 by omega) hKn.2.1 hR.1 fun H1 kC hkC e1 z1 o1 => ?_
  have hR1 : hp_R E s H1 (hp_new h ci N fs) := hR.push N ⟨hR.2.1, _, hc, hlen, (u_born t0 F.2.2.2.2.1 hin hKn hkC e1 hty).to hdef⟩ z1 (fun q hq => o1 q hq)
  have K2 := k2 F (Nat.le_trans a1 (Nat.le_succ _)) (Nat.le_trans a2 (Nat.le_add_right _ _)) H1 locs ls hR1 hL hl
  have c1 : (hp_new h ci N fs).2.1 - h0.2.1 = h.2.1 - h0.2.1 + 1 := by show h.2.1 + 1 - h0.2.1 = _; omega
  have c2 : (hp_new h ci N fs).2.2 - h0.2.2 = h.2.2 - h0.2.2 + N := by show h.2.2 + N - h0.2.2 = _; omega
  rw [c1, c2] at K2
  exact K2
theorem hp_newA {atype : ArrayType} {ty : FieldType} {n : Int32} {f : hp_Ar} {K : Nat → hp_H → Option (α × hp_H)} (hw : Cond.arrayClass ty ∈ hp_T) (hty : newarray.typeOf atype = ty) (hf : ∀ j, hp_av f j = defaultValue ty) (hdg : decode Y.2.1 pc = .ok (.newarray atype, 2)) (kk : ∀ a h1, hp_J Y Z mk h1 (pc + 2) lv (.ref a :: st) (K a h1)) : hp_J Y Z mk h pc lv (.int n :: st) (hp_naK h ty n f K) := by
  obtain ⟨p, l, e, s, m, args, below, meth, c, h0, E, fr, lo⟩ := Z
  intro r h' hX
  unfold hp_naK at hX
  split at hX
  · rename_i hn
    subst hty
    obtain ⟨k1, k2⟩ := kk h.2.1 (hp_newa h (newarray.typeOf atype) n.toNatClampNeg f) r h' hX
    have k1a : h.2.1 + 1 ≤ h'.2.1 := k1.1
    have k1b : h.2.2 + n.toNatClampNeg ≤ h'.2.2 := k1.2
    refine ⟨⟨Nat.le_of_succ_le k1a, Nat.le_trans (Nat.le_add_right _ _) k1b⟩, fun F a1 a2 H locs ls hR hL hl => ?_⟩
    refine va_newaK F.1 F.2.1 (F.2.2.2.2.1 _ hw) rfl hdg rfl hn.1 rfl hn.2 (show h.2.1 - h0.2.1 + 1 ≤ h'.2.1 - h0.2.1 by omega) (show h.2.2 - h0.2.2 + n.toNatClampNeg ≤ h'.2.2 - h0.2.2 by omega) hR.1 fun H1 cA e1 z1 o1 hA hnm => ?_
    rw [show (fun _ : Nat => defaultValue (newarray.typeOf atype)) = hp_av f from funext fun j => (hf j).symm] at e1
    have hR1 : hp_R E s H1 (hp_newa h (newarray.typeOf atype) n.toNatClampNeg f) := hR.push n.toNatClampNeg (hp_at.arr hR.2.1 e1 hA ⟨hnm, fun C hC => by cases atype <;> cases hC⟩) z1 (fun q hq => o1 q hq)
    have K2 := k2 F (Nat.le_trans a1 (Nat.le_succ _)) (Nat.le_trans a2 (Nat.le_add_right _ _)) H1 locs ls hR1 hL hl
    have c1 : (hp_newa h (newarray.typeOf atype) n.toNatClampNeg f).2.1 - h0.2.1 = h.2.1 - h0.2.1 + 1 := by show h.2.1 + 1 - h0.2.1 = _; omega
    have c2 : (hp_newa h (newarray.typeOf atype) n.toNatClampNeg f).2.2 - h0.2.2 = h.2.2 - h0.2.2 + n.toNatClampNeg := by show h.2.2 + n.toNatClampNeg - h0.2.2 = _; omega
    rw [c1, c2] at K2
    exact K2
  · cases hX
theorem hp_iald {a : Nat} {i : Int32} {K : Int32 → Option (α × hp_H)} (hdg : decode Y.2.1 pc = .ok (.iaload, 1)) (kk : ∀ x, hp_J Y Z mk h (pc + 1) lv (.int x :: st) (K x)) : hp_J Y Z mk h pc lv (.int i :: .ref a :: st) ((hp_aI h .int a i).bind K) := by
  obtain ⟨p, l, e, s, m, args, below, meth, c, h0, E, fr, lo⟩ := Z
  intro r h' hX
  obtain ⟨x, e1, e2⟩ := Option.bind_eq_some_iff.mp hX
  unfold hp_aI at e1
  split at e1
  · rename_i w t n f ho
    split at e1
    · rename_i hc
      cases e1
      obtain ⟨rfl, hin⟩ := hc
      obtain ⟨k1, k2⟩ := kk _ r h' e2
      refine ⟨k1, fun F a1 a2 H locs ls hR hL hl => ?_⟩
      obtain ⟨cell, q1, q2, q3, q4, q5, q6, q7⟩ := hR.2.2.1 a _ (hp_arr_some ho)
      have hlt : i.toNatClampNeg < n := Nat.lt_of_not_le (fun q => hin (Or.inr q))
      exact W.iald F.1 F.2.1 q1 q2 q3 (fun q => hin (q.imp id (fun q => Nat.le_trans q4 q))) (q6 _ hlt) rfl rfl hdg (k2 F a1 a2 H locs ls hR hL hl)
    · cases e1
  · cases e1
theorem hp_bald {a : Nat} {i : Int32} {K : Int32 → Option (α × hp_H)} (hdg : decode Y.2.1 pc = .ok (.baload, 1)) (kk : ∀ x, hp_J Y Z mk h (pc + 1) lv (.int x :: st) (K x)) : hp_J Y Z mk h pc lv (.int i :: .ref a :: st) ((hp_aI h .byte a i).bind K) := by
  obtain ⟨p, l, e, s, m, args, below, meth, c, h0, E, fr, lo⟩ := Z
  intro r h' hX
  obtain ⟨x, e1, e2⟩ := Option.bind_eq_some_iff.mp hX
  unfold hp_aI at e1
  split at e1
  · rename_i w t n f ho
    split at e1
    · rename_i hc
      cases e1
      obtain ⟨rfl, hin⟩ := hc
      obtain ⟨k1, k2⟩ := kk _ r h' e2
      refine ⟨k1, fun F a1 a2 H locs ls hR hL hl => ?_⟩
      obtain ⟨cell, q1, q2, q3, q4, q5, q6, q7⟩ := hR.2.2.1 a _ (hp_arr_some ho)
      have hlt : i.toNatClampNeg < n := Nat.lt_of_not_le (fun q => hin (Or.inr q))
      exact W.bald F.1 F.2.1 q1 q2 q3 (fun q => hin (q.imp id (fun q => Nat.le_trans q4 q))) (q6 _ hlt) rfl rfl hdg (k2 F a1 a2 H locs ls hR hL hl)
    · cases e1
  · cases e1
theorem hp_zald {a : Nat} {i : Int32} {K : Int32 → Option (α × hp_H)} (hdg : decode Y.2.1 pc = .ok (.baload, 1)) (kk : ∀ x, hp_J Y Z mk h (pc + 1) lv (.int x :: st) (K x)) : hp_J Y Z mk h pc lv (.int i :: .ref a :: st) ((hp_aI h .boolean a i).bind K) := by
  obtain ⟨p, l, e, s, m, args, below, meth, c, h0, E, fr, lo⟩ := Z
  intro r h' hX
  obtain ⟨x, e1, e2⟩ := Option.bind_eq_some_iff.mp hX
  unfold hp_aI at e1
  split at e1
  · rename_i w t n f ho
    split at e1
    · rename_i hc
      cases e1
      obtain ⟨rfl, hin⟩ := hc
      obtain ⟨k1, k2⟩ := kk _ r h' e2
      refine ⟨k1, fun F a1 a2 H locs ls hR hL hl => ?_⟩
      obtain ⟨cell, q1, q2, q3, q4, q5, q6, q7⟩ := hR.2.2.1 a _ (hp_arr_some ho)
      have hlt : i.toNatClampNeg < n := Nat.lt_of_not_le (fun q => hin (Or.inr q))
      exact W.zald F.1 F.2.1 q1 q2 q3 (fun q => hin (q.imp id (fun q => Nat.le_trans q4 q))) (q6 _ hlt) rfl rfl hdg (k2 F a1 a2 H locs ls hR hL hl)
    · cases e1
  · cases e1
theorem hp_cald {a : Nat} {i : Int32} {K : Int32 → Option (α × hp_H)} (hdg : decode Y.2.1 pc = .ok (.caload, 1)) (kk : ∀ x, hp_J Y Z mk h (pc + 1) lv (.int x :: st) (K x)) : hp_J Y Z mk h pc lv (.int i :: .ref a :: st) ((hp_aI h .char a i).bind K) := by
  obtain ⟨p, l, e, s, m, args, below, meth, c, h0, E, fr, lo⟩ := Z
  intro r h' hX
  obtain ⟨x, e1, e2⟩ := Option.bind_eq_some_iff.mp hX
  unfold hp_aI at e1
  split at e1
  · rename_i w t n f ho
    split at e1
    · rename_i hc
      cases e1
      obtain ⟨rfl, hin⟩ := hc
      obtain ⟨k1, k2⟩ := kk _ r h' e2
      refine ⟨k1, fun F a1 a2 H locs ls hR hL hl => ?_⟩
      obtain ⟨cell, q1, q2, q3, q4, q5, q6, q7⟩ := hR.2.2.1 a _ (hp_arr_some ho)
      have hlt : i.toNatClampNeg < n := Nat.lt_of_not_le (fun q => hin (Or.inr q))
      exact W.cald F.1 F.2.1 q1 q2 q3 (fun q => hin (q.imp id (fun q => Nat.le_trans q4 q))) (q6 _ hlt) rfl rfl hdg (k2 F a1 a2 H locs ls hR hL hl)
    · cases e1
  · cases e1
theorem hp_lald {a : Nat} {i : Int32} {K : Int64 → Option (α × hp_H)} (hdg : decode Y.2.1 pc = .ok (.laload, 1)) (kk : ∀ x, hp_J Y Z mk h (pc + 1) lv (.long x :: st) (K x)) : hp_J Y Z mk h pc lv (.int i :: .ref a :: st) ((hp_aL h a i).bind K) := by
  obtain ⟨p, l, e, s, m, args, below, meth, c, h0, E, fr, lo⟩ := Z
  intro r h' hX
  obtain ⟨x, e1, e2⟩ := Option.bind_eq_some_iff.mp hX
  unfold hp_aL at e1
  split at e1
  · rename_i w t n f ho
    split at e1
    · rename_i hc
      cases e1
      obtain ⟨rfl, hin⟩ := hc
      obtain ⟨k1, k2⟩ := kk _ r h' e2
      refine ⟨k1, fun F a1 a2 H locs ls hR hL hl => ?_⟩
      obtain ⟨cell, q1, q2, q3, q4, q5, q6, q7⟩ := hR.2.2.1 a _ (hp_arr_some ho)
      have hlt : i.toNatClampNeg < n := Nat.lt_of_not_le (fun q => hin (Or.inr q))
      exact W.lald F.1 F.2.1 q1 q2 q3 (fun q => hin (q.imp id (fun q => Nat.le_trans q4 q))) (q6 _ hlt) rfl rfl hdg (k2 F a1 a2 H locs ls hR hL hl)
    · cases e1
  · cases e1
theorem hp_aald {a : Nat} {i : Int32} {K : Nat → Option (α × hp_H)} (hdg : decode Y.2.1 pc = .ok (.aaload, 1)) (kk : ∀ x, hp_J Y Z mk h (pc + 1) lv (.ref x :: st) (K x)) : hp_J Y Z mk h pc lv (.int i :: .ref a :: st) ((hp_aR h a i).bind K) := by
  obtain ⟨p, l, e, s, m, args, below, meth, c, h0, E, fr, lo⟩ := Z
  intro r h' hX
  obtain ⟨x, e1, e2⟩ := Option.bind_eq_some_iff.mp hX
  unfold hp_aR at e1
  split at e1
  · rename_i w t n f ho
    split at e1
    · rename_i hc
      obtain ⟨hty, hin⟩ := hc
      obtain ⟨k1, k2⟩ := kk _ r h' e2
      refine ⟨k1, fun F a1 a2 H locs ls hR hL hl => ?_⟩
      obtain ⟨cell, q1, q2, q3, q4, q5, q6, q7⟩ := hR.2.2.1 a _ (hp_arr_some ho)
      have hlt : i.toNatClampNeg < n := Nat.lt_of_not_le (fun q => hin (Or.inr q))
      have hv := q6 _ hlt
      rw [show hp_av (.inr (.inr f)) i.toNatClampNeg = .ref x by show va_rf (f i.toNatClampNeg) = _; rw [e1]; rfl] at hv
      exact W.aald F.1 F.2.1 q1 q2 hty q3 (fun q => hin (q.imp id (fun q => Nat.le_trans q4 q))) hv rfl rfl hdg (k2 F a1 a2 H locs ls hR hL hl)
    · cases e1
  · cases e1
theorem hp_alen {a : Nat} {K : Int32 → Option (α × hp_H)} (hdg : decode Y.2.1 pc = .ok (.arraylength, 1)) (kk : ∀ x, hp_J Y Z mk h (pc + 1) lv (.int x :: st) (K x)) : hp_J Y Z mk h pc lv (.ref a :: st) ((hp_len h a).bind K) := by
  obtain ⟨p, l, e, s, m, args, below, meth, c, h0, E, fr, lo⟩ := Z
  intro r h' hX
  obtain ⟨x, e1, e2⟩ := Option.bind_eq_some_iff.mp hX
  obtain ⟨o, e3, e4⟩ := Option.map_eq_some_iff.mp e1
  obtain ⟨w, t, n, f⟩ := o
  obtain ⟨k1, k2⟩ := kk _ r h' e2
  refine ⟨k1, fun F a1 a2 H locs ls hR hL hl => ?_⟩
  obtain ⟨cell, q1, q2, q3, q4, q5, q6, q7⟩ := hR.2.2.1 a _ (hp_arr_some e3)
  exact W.alen F.1 F.2.1 q1 q2 (q5.trans e4) rfl rfl hdg (k2 F a1 a2 H locs ls hR hL hl)
theorem hp_iast {a : Nat} {i : Int32} {x : Int32} {K : hp_H → Option (α × hp_H)} (hdg : decode Y.2.1 pc = .ok (.iastore, 1)) (kk : ∀ h1, hp_J Y Z mk h1 (pc + 1) lv st (K h1)) : hp_J Y Z mk h pc lv (.int x :: .int i :: .ref a :: st) ((hp_sI h .int a i (x)).bind K) := by
  obtain ⟨p, l, e, s, m, args, below, meth, c, h0, E, fr, lo⟩ := Z
  intro r h' hX
  obtain ⟨h1, e1, e2⟩ := Option.bind_eq_some_iff.mp hX
  unfold hp_sI at e1
  split at e1
  · rename_i w t n f ho
    split at e1
    · rename_i hc
      cases e1
      obtain ⟨rfl, rfl, hin⟩ := hc
      obtain ⟨k1, k2⟩ := kk _ r h' e2
      refine ⟨k1, fun F a1 a2 H locs ls hR hL hl => ?_⟩
      obtain ⟨cell, q1, q2, q3, q4, q5, q6, q7⟩ := hR.2.2.1 a _ (hp_arr_some ho)
      obtain ⟨hB, cA, rfl, hA, hA2⟩ := q7 rfl
      have hlt : i.toNatClampNeg < n := Nat.lt_of_not_le (fun q => hin (Or.inr q))
      refine W.iast F.1 F.2.1 q1 q2 q3 (fun q => hin (q.imp id (fun q => Nat.le_trans q4 q))) rfl rfl hdg fun H1 b1 b2 b3 => ?_
      rw [arrV_store] at b1
      have hv : updV (hp_av (.inl f)) i.toNatClampNeg (.int x) = hp_av (.inl (upd f i.toNatClampNeg (x))) := by
        funext j
        by_cases hj2 : j = i.toNatClampNeg
        · subst hj2; simp [hp_av, updV, upd]
        · simp [hp_av, updV, upd, hj2]
      rw [hv] at b1
      refine k2 F a1 a2 H1 _ ls (hR.put hB (hp_at.arr hB b1 hA hA2) b2 b3) ?_ hl
      intro q hq
      rcases List.mem_append.mp hq with hq | hq
      · exact hL q hq
      · rw [List.mem_singleton.mp hq]; exact hB
    · cases e1
  · cases e1
theorem hp_bast {a : Nat} {i : Int32} {x : Int32} {K : hp_H → Option (α × hp_H)} (hdg : decode Y.2.1 pc = .ok (.bastore, 1)) (kk : ∀ h1, hp_J Y Z mk h1 (pc + 1) lv st (K h1)) : hp_J Y Z mk h pc lv (.int x :: .int i :: .ref a :: st) ((hp_sI h .byte a i (x.toInt8.toInt32)).bind K) := by
  obtain ⟨p, l, e, s, m, args, below, meth, c, h0, E, fr, lo⟩ := Z
  intro r h' hX
  obtain ⟨h1, e1, e2⟩ := Option.bind_eq_some_iff.mp hX
  unfold hp_sI at e1
  split at e1
  · rename_i w t n f ho
    split at e1
    · rename_i hc
      cases e1
      obtain ⟨rfl, rfl, hin⟩ := hc
      obtain ⟨k1, k2⟩ := kk _ r h' e2
      refine ⟨k1, fun F a1 a2 H locs ls hR hL hl => ?_⟩
      obtain ⟨cell, q1, q2, q3, q4, q5, q6, q7⟩ := hR.2.2.1 a _ (hp_arr_some ho)
      obtain ⟨hB, cA, rfl, hA, hA2⟩ := q7 rfl
      have hlt : i.toNatClampNeg < n := Nat.lt_of_not_le (fun q => hin (Or.inr q))
      refine W.bast F.1 F.2.1 q1 q2 q3 (fun q => hin (q.imp id (fun q => Nat.le_trans q4 q))) rfl rfl hdg fun H1 b1 b2 b3 => ?_
      rw [arrV_store] at b1
      have hv : updV (hp_av (.inl f)) i.toNatClampNeg (narrow .byte (.int x)) = hp_av (.inl (upd f i.toNatClampNeg (x.toInt8.toInt32))) := by
        funext j
        by_cases hj2 : j = i.toNatClampNeg
        · subst hj2; simp [hp_av, updV, upd, narrow_byte]
        · simp [hp_av, updV, upd, hj2]
      rw [hv] at b1
      refine k2 F a1 a2 H1 _ ls (hR.put hB (hp_at.arr hB b1 hA hA2) b2 b3) ?_ hl
      intro q hq
      rcases List.mem_append.mp hq with hq | hq
      · exact hL q hq
      · rw [List.mem_singleton.mp hq]; exact hB
    · cases e1
  · cases e1
theorem hp_last {a : Nat} {i : Int32} {x : Int64} {K : hp_H → Option (α × hp_H)} (hdg : decode Y.2.1 pc = .ok (.lastore, 1)) (kk : ∀ h1, hp_J Y Z mk h1 (pc + 1) lv st (K h1)) : hp_J Y Z mk h pc lv (.long x :: .int i :: .ref a :: st) ((hp_sL h a i (x)).bind K) := by
  obtain ⟨p, l, e, s, m, args, below, meth, c, h0, E, fr, lo⟩ := Z
  intro r h' hX
  obtain ⟨h1, e1, e2⟩ := Option.bind_eq_some_iff.mp hX
  unfold hp_sL at e1
  split at e1
  · rename_i w t n f ho
    split at e1
    · rename_i hc
      cases e1
      obtain ⟨rfl, rfl, hin⟩ := hc
      obtain ⟨k1, k2⟩ := kk _ r h' e2
      refine ⟨k1, fun F a1 a2 H locs ls hR hL hl => ?_⟩
      obtain ⟨cell, q1, q2, q3, q4, q5, q6, q7⟩ := hR.2.2.1 a _ (hp_arr_some ho)
      obtain ⟨hB, cA, rfl, hA, hA2⟩ := q7 rfl
      have hlt : i.toNatClampNeg < n := Nat.lt_of_not_le (fun q => hin (Or.inr q))
      refine W.last F.1 F.2.1 q1 q2 q3 (fun q => hin (q.imp id (fun q => Nat.le_trans q4 q))) rfl rfl hdg fun H1 b1 b2 b3 => ?_
      rw [arrV_store] at b1
      have hv : updV (hp_av (.inr (.inl f))) i.toNatClampNeg (.long x) = hp_av (.inr (.inl (vp_updL f i.toNatClampNeg x))) := by
        funext j
        by_cases hj2 : j = i.toNatClampNeg
        · subst hj2; simp [hp_av, updV, vp_updL]
        · simp [hp_av, updV, vp_updL, hj2]
      rw [hv] at b1
      refine k2 F a1 a2 H1 _ ls (hR.put hB (hp_at.arr hB b1 hA hA2) b2 b3) ?_ hl
      intro q hq
      rcases List.mem_append.mp hq with hq | hq
      · exact hL q hq
      · rw [List.mem_singleton.mp hq]; exact hB
    · cases e1
  · cases e1
end HK
end
section
/-! CALLS -/
/-- a contract: the method y does what f says -/
def hp_M (l : Launch) (E : hp_E) (y : MethodName) (Y : hp_Y) {α : Type} (mk : α → Option Value) (av : List Value) (f : hp_H → Option (α × hp_H)) : Prop :=
  ∀ (h : hp_H) (r : α) (h' : hp_H), f h = some (r, h') → (hp_Z → h.2.1 ≤ h'.2.1 ∧ h.2.2 ≤ h'.2.2) ∧ Met l y (.code y Y.2.1 Y.2.2.1 Y.2.2.2.1 :: hp_T) (hp_Rm Y.2.2.2.2.2.1 Y.2.2.2.2.2.2 h h') (va_Pc av (fun U => hp_R E U U.heap h ∧ hp_N E U)) (hp_Q E (mk r) h') (h'.2.1 - h.2.1) (h'.2.2 - h.2.2) (fun q => E.2.2.2 ≤ q)
theorem hp_ofW {l : Launch} {y : MethodName} {ws ws' : List Cond} {rm : Room} {Pc : Array Value → State → Prop} {Qc : Array Value → State → Outcome → State → Prop} {mc ms : Nat} {free : Addr → Prop} {cc : ByteArray} {maxL : Nat} {ret : Option FieldType}
    (hy : plainFor y = true) (hw : ws = Cond.code y cc maxL ret :: ws')
    (body : ∀ p e s m args below meth c s₁, BodyLoose p l y (headSpec ws rm) cc maxL ret e s m args below meth c s₁ → c.maxLocals = maxL → Pc args s →
      W p l e (headSpec ws rm).room s m args below meth c s.heap [] 0 0 (MQ below Qc args s mc ms free) (entryFrame m args maxL)) : Met l y ws rm Pc Qc mc ms free := by
  refine MetFree.of_bodySF (code := cc) (maxLocals := maxL) (ret := ret) hy ?_ ?_
  · intro args s m h hn
    obtain ⟨meth, c, h1, h2, h3, h4, h5, h6, -, -⟩ := Cond.code_spec hn (atoms_spec (ws := ws) h _ (by rw [hw]; exact List.mem_cons_self))
    exact ⟨meth, c, h1, h2, h3, h4, h5, h6⟩
  · intro p e s m args below meth c s₁ B hml hP _
    have hh0 : s₁.heap = s.heap := by rw [B.state]; rfl
    obtain ⟨t, a1, o, b1, b2, b3⟩ := body p e s m args below meth c s₁ B hml hP s₁ hh0 (Stand.of_body B)
    exact ⟨t, o, a1, b1, b2, ⟨b3.1, b3.2⟩⟩
theorem hp_M.of {l : Launch} {E : hp_E} {y : MethodName} {Y : hp_Y} {α : Type} {mk : α → Option Value} {av : List Value} {f : hp_H → Option (α × hp_H)} (hy : plainFor y = true) (hY : Y.1 = y.cls ∧ Y.2.2.2.2.1 = y.name) (hn : (lg_sl av).length ≤ Y.2.2.1)
    (hJ : ∀ (Z : hp_Z) (h : hp_H), hp_ZE Z = E → hp_J Y Z mk h 0 (lv_args 0 av) [] (f h)) : hp_M l E y Y mk av f := by
  intro h r h' hX
  refine ⟨fun Z => ?_, ?_⟩
  · obtain ⟨p, l, e, s, m, args, below, meth, c, h0, E0, fr, lo⟩ := Z
    exact (hJ (p, l, e, s, m, args, below, meth, c, h0, E, fr, lo) h rfl r h' hX).1
  · refine hp_ofW (cc := Y.2.1) (maxL := Y.2.2.1) (ret := Y.2.2.2.1) hy rfl ?_
    intro p e s m args below meth c s₁ B hml hv
    obtain ⟨rfl, hR, hN⟩ := hv
    have hx := B.exec
    have hb := B.bytes
    have hr := B.returns
    have hts := atoms_spec (ws := Cond.code y Y.2.1 Y.2.2.1 Y.2.2.2.1 :: hp_T) B.pre
    have hown : s.vm.findClass y.cls = some m.cls := findClass_of_methodNamed B.named
    have hlocks := B.notSynchronized
    have hname : meth.name = y.name := (name_of_methodNamed B.named B.method).1
    have J := hJ (p, l, e, s, m, av.toArray, below, meth, c, h, E, Y.2.2.2.2.2.1, Y.2.2.2.2.2.2) h rfl
    obtain ⟨-, J2⟩ := J r h' hX
    have hl := lv_entry av (n := Y.2.2.1) hn
    rw [lg_entry_eq]
    have hl2 : lv_has (lg_sl av ++ List.replicate (Y.2.2.1 - (lg_sl av).length) Slot.unset).toArray c.maxLocals (lv_args 0 av) := by rw [hml]; exact hl
    have K := J2 ⟨hx, hb, hml, by rw [hY.1]; exact hown, fun w hw => hts w (List.mem_cons_of_mem _ hw), hN, hr, hlocks, by rw [hY.2]; exact hname, rfl, rfl⟩ (Nat.le_refl _) (Nat.le_refl _) s.heap [] _ hR (fun q hq => by cases hq) hl2
    rw [Nat.sub_self, Nat.sub_self] at K
    exact K
/-- a call that can be made: o is what it comes to -/
def hp_CR (Y : hp_Y) (Z : hp_Z) (h : hp_H) (pc : Nat) (st rest : List Value) {β : Type} (mkc : β → Option Value) (o : Option (β × hp_H)) : Prop := match Z with
  | (p, l, e, s, m, args, below, meth, c, _, E, fr, lo) => ∀ (r1 : β) (h1 : hp_H), o = some (r1, h1) → (h.2.1 ≤ h1.2.1 ∧ h.2.2 ≤ h1.2.2) ∧ (hp_F Y p s m args meth c fr lo E → ∀ (R : Room) (H : Heap) (locs : List Loc) (ls : Array Slot) (cells slots : Nat), R.frames = fr → R.locals = lo → hp_R E s H h → ls.size = c.maxLocals → cells + (h1.2.1 - h.2.1) ≤ R.cells → slots + (h1.2.2 - h.2.2) ≤ R.slots →
    ∃ a : Array Value, va_Run p l e R s m args below meth c H locs cells slots (h1.2.1 - h.2.1) (h1.2.2 - h.2.2) (F0 m pc ls st) rest (hp_Q E (mkc r1) h1 a) (fun q => E.2.2.2 ≤ q))
section HC
variable {Y : hp_Y} {Z : hp_Z} {α β : Type} {mk : α → Option Value} {mkc : β → Option Value} {h : hp_H} {pc : Nat} {lv : List (Nat × Value)} {st rest : List Value} {o : Option (β × hp_H)} {K : β × hp_H → Option (α × hp_H)}
theorem hp_call (hc : hp_CR Y Z h pc st rest mkc o) (kk : ∀ q : β × hp_H, hp_J Y Z mk q.2 (pc + 3) lv ((mkc q.1).toList ++ rest) (K q)) : hp_J Y Z mk h pc lv st (o.bind K) := by
  obtain ⟨p, l, e, s, m, args, below, meth, c, h0, E, fr, lo⟩ := Z
  intro r h' hX
  obtain ⟨⟨r1, h1⟩, e1, e2⟩ := Option.bind_eq_some_iff.mp hX
  obtain ⟨c1, c2⟩ := hc r1 h1 e1
  obtain ⟨k1, k2⟩ := kk (r1, h1) r h' e2
  have k1a : h1.2.1 ≤ h'.2.1 := k1.1
  have k1b : h1.2.2 ≤ h'.2.2 := k1.2
  refine ⟨⟨Nat.le_trans c1.1 k1a, Nat.le_trans c1.2 k1b⟩, fun F a1 a2 H locs ls hR hL hl => ?_⟩
  have g1 := c1.1
  have g2 := c1.2
  obtain ⟨a, run⟩ := c2 F (hp_Rm fr lo h0 h') H locs ls (h.2.1 - h0.2.1) (h.2.2 - h0.2.2) rfl rfl hR hl.1 (show h.2.1 - h0.2.1 + (h1.2.1 - h.2.1) ≤ h'.2.1 - h0.2.1 by omega) (show h.2.2 - h0.2.2 + (h1.2.2 - h.2.2) ≤ h'.2.2 - h0.2.2 by omega)
  intro T hT X
  obtain ⟨v, st₀, t, T', L, b0, X', hL', b1, b2, ⟨hv, hR'⟩, stp⟩ := run T hT X
  cases hv
  have d1 : h.2.1 - h0.2.1 + (h1.2.1 - h.2.1) = h1.2.1 - h0.2.1 := by omega
  have d2 : h.2.2 - h0.2.2 + (h1.2.2 - h.2.2) = h1.2.2 - h0.2.2 := by omega
  rw [d1, d2] at X'
  have hal : t.vm.Alike s.vm := by rw [← b2]; exact X'.warmed.alike.symm
  have hR2 : hp_R E s T'.heap h1 := by rw [b1]; exact hR'.moved hal
  obtain ⟨t2, w1, w2⟩ := k2 F (Nat.le_trans a1 g1) (Nat.le_trans a2 g2) T'.heap (locs ++ L) ls hR2 (fun q hq => by
    rcases List.mem_append.mp hq with hq | hq
    · exact hL q hq
    · exact hL' q hq) hl T' rfl X'
  exact ⟨t2, stp t2 w1, w2⟩
theorem hp_callI {o : Option (Int32 × hp_H)} {K : Int32 × hp_H → Option (α × hp_H)} (hc : hp_CR Y Z h pc st rest hp_rI o) (kk : ∀ q : Int32 × hp_H, hp_J Y Z mk q.2 (pc + 3) lv (.int q.1 :: rest) (K q)) : hp_J Y Z mk h pc lv st (o.bind K) := hp_call hc kk
theorem hp_callL {o : Option (Int64 × hp_H)} {K : Int64 × hp_H → Option (α × hp_H)} (hc : hp_CR Y Z h pc st rest hp_rL o) (kk : ∀ q : Int64 × hp_H, hp_J Y Z mk q.2 (pc + 3) lv (.long q.1 :: rest) (K q)) : hp_J Y Z mk h pc lv st (o.bind K) := hp_call hc kk
theorem hp_callR {o : Option (Nat × hp_H)} {K : Nat × hp_H → Option (α × hp_H)} (hc : hp_CR Y Z h pc st rest hp_rR o) (kk : ∀ q : Nat × hp_H, hp_J Y Z mk q.2 (pc + 3) lv (.ref q.1 :: rest) (K q)) : hp_J Y Z mk h pc lv st (o.bind K) := hp_call hc kk
theorem hp_callU {o : Option (Unit × hp_H)} {K : Unit × hp_H → Option (α × hp_H)} (hc : hp_CR Y Z h pc st rest hp_rV o) (kk : ∀ q : Unit × hp_H, hp_J Y Z mk q.2 (pc + 3) lv rest (K q)) : hp_J Y Z mk h pc lv st (o.bind K) := hp_call hc kk
end HC
theorem hp_blind {E : hp_E} {h : hp_H} {av : List Value} : FrameBlind (va_Pc av (fun U => hp_R E U U.heap h ∧ hp_N E U)) := fun a U g mk q => ⟨q.1, q.2.1.moved (u := U) (U := U.calling g mk a) (Vm.Alike.refl U.vm), ⟨fun w hw => (hp_Nst_ok w hw).1 U (U.calling g mk a) rfl (q.2.2.1 w hw), fun w hw => vk_R.same rfl (q.2.2.2 w hw)⟩⟩
theorem hp_Nwarm {E : hp_E} {s U : State} (hW : s.WarmedH U.vm) (hN : hp_N E s) : hp_N E U := ⟨fun w hw => (hp_Nst_ok w hw).2 s U hW (hN.1 w hw), fun q hq => (hN.2 q hq).warm hW⟩
/-- the words of a call of y by the pool entry 'index' of the class 'own' -/
def hp_cw (own : String) (index : Nat) (y : MethodName) (Y' : hp_Y) (n : Nat) : Prop := Cond.methodLink own index y ∈ hp_T ∧ Cond.initialized y.cls ∈ hp_T ∧ Cond.code y Y'.2.1 Y'.2.2.1 Y'.2.2.2.1 ∈ hp_T ∧ (y.cls ≠ "java/lang/invoke/MethodHandle" ∧ y.cls ≠ "java/lang/invoke/VarHandle" ∧ (parseMethodDescriptor y.desc).map (fun d => d.parameters.length) = some n)
def hp_cn (own : String) (index : Nat) (y : MethodName) (host : String) (Y' : hp_Y) (n : Nat) : Prop := Cond.methodLinkNest own index y host ∈ hp_Nst ∧ Cond.initialized y.cls ∈ hp_T ∧ Cond.code y Y'.2.1 Y'.2.2.1 Y'.2.2.2.1 ∈ hp_T ∧ (y.cls ≠ "java/lang/invoke/MethodHandle" ∧ y.cls ≠ "java/lang/invoke/VarHandle" ∧ (parseMethodDescriptor y.desc).map (fun d => d.parameters.length) = some n)
theorem hp_goodIn {y : MethodName} {Y' : hp_Y} (hc : Cond.code y Y'.2.1 Y'.2.2.1 Y'.2.2.2.1 ∈ hp_T) : GoodIn hp_T (Cond.code y Y'.2.1 Y'.2.2.1 Y'.2.2.2.1 :: hp_T) := by
  intro w hw
  have h1 : w ∈ hp_T := by
    rcases List.mem_cons.mp hw with hw | hw
    · rw [hw]; exact hc
    · exact hw
  exact ⟨h1, hp_T_ok w h1⟩
section HD
variable {Y Y' : hp_Y} {Z : hp_Z} {β : Type} {mkc : β → Option Value} {h : hp_H} {pc index n : Nat} {st rest : List Value} {y : MethodName} {As : List Value} {f : hp_H → Option (β × hp_H)}
theorem hp_crS (hM : hp_M Z.2.1 (hp_ZE Z) y Y' mkc As f) (hw : hp_cw Y.1 index y Y' n) (hs : Cond.static y ∈ hp_T) (hroom : Y'.2.2.2.2.2.1 + 1 ≤ Y.2.2.2.2.2.1 ∧ 8 + (Y'.2.2.1 + 11) + Y'.2.2.2.2.2.2 ≤ Y.2.2.2.2.2.2) (hn : As.length = n) (hst : st = As.reverse ++ rest) (hcat : (rest.map fun v => v.category).sum ≤ 8) (hdg : decode Y.2.1 pc = .ok (.invokestatic index, 3)) : hp_CR Y Z h pc st rest mkc (f h) := by
  obtain ⟨p, l, e, s, m, args, below, meth, c, h0, E, fr, lo⟩ := Z
  intro r1 h1 e1
  obtain ⟨m1, m2⟩ := hM h r1 h1 e1
  refine ⟨m1 (p, l, e, s, m, args, below, meth, c, h0, E, fr, lo), fun F R H locs ls cells slots hRf hRl hR hz hc hsl => ⟨As.toArray, ?_⟩⟩
  obtain ⟨w1, w2, w3, w4⟩ := hw
  exact va_runS (As := As) (rest := rest) ⟨F.1, F.2.1, F.2.2.1, F.2.2.2.1, F.2.2.2.2.1⟩ m2 ⟨callB_of n F.2.2.2.2.1 (hp_goodIn w3) rfl rfl rfl (F.2.2.2.2.1 _ w2) (F.2.2.2.2.1 _ w1) w4 ⟨by rw [hRf, F.2.2.2.2.2.2.2.2.2.1]; exact hroom.1, by rw [hRl, F.2.2.2.2.2.2.2.2.2.2]; exact hroom.2⟩, F.2.2.2.2.1 _ hs⟩ ⟨hp_blind, fun U hU hW => ⟨rfl, by rw [hU]; exact hR.moved hW.alike, hp_Nwarm hW F.2.2.2.2.2.1⟩⟩ rfl hn (hz.trans F.2.2.1) hst (lv_room hcat) hdg ⟨hc, hsl⟩
theorem hp_crSN {host : String} (hM : hp_M Z.2.1 (hp_ZE Z) y Y' mkc As f) (hw : hp_cn Y.1 index y host Y' n) (hs : Cond.static y ∈ hp_T) (hroom : Y'.2.2.2.2.2.1 + 1 ≤ Y.2.2.2.2.2.1 ∧ 8 + (Y'.2.2.1 + 11) + Y'.2.2.2.2.2.2 ≤ Y.2.2.2.2.2.2) (hn : As.length = n) (hst : st = As.reverse ++ rest) (hcat : (rest.map fun v => v.category).sum ≤ 8) (hdg : decode Y.2.1 pc = .ok (.invokestatic index, 3)) : hp_CR Y Z h pc st rest mkc (f h) := by
  obtain ⟨p, l, e, s, m, args, below, meth, c, h0, E, fr, lo⟩ := Z
  intro r1 h1 e1
  obtain ⟨m1, m2⟩ := hM h r1 h1 e1
  refine ⟨m1 (p, l, e, s, m, args, below, meth, c, h0, E, fr, lo), fun F R H locs ls cells slots hRf hRl hR hz hc hsl => ⟨As.toArray, ?_⟩⟩
  obtain ⟨w1, w2, w3, w4⟩ := hw
  exact va_runSN (As := As) (rest := rest) (host := host) ⟨F.1, F.2.1, F.2.2.1, F.2.2.2.1, F.2.2.2.2.1⟩ m2 ⟨va_cnB n F.2.2.2.2.1 (hp_goodIn w3) rfl rfl rfl (F.2.2.2.2.2.1.1 _ w1) (F.2.2.2.2.1 _ w2) w4 ⟨by rw [hRf, F.2.2.2.2.2.2.2.2.2.1]; exact hroom.1, by rw [hRl, F.2.2.2.2.2.2.2.2.2.2]; exact hroom.2⟩, F.2.2.2.2.1 _ hs, trivial⟩ ⟨hp_blind, fun U hU hW => ⟨rfl, by rw [hU]; exact hR.moved hW.alike, hp_Nwarm hW F.2.2.2.2.2.1⟩⟩ rfl hn (hz.trans F.2.2.1) hst (lv_room hcat) hdg ⟨hc, hsl⟩
theorem hp_recv {E : hp_E} {s : State} {H : Heap} {b ci : Nat} {fs : List Value} {q : vw_C} (hR : hp_R E s H h) (hc : classes[ci]? = some q) (hb : h.1 b = some (.inl (ci, fs))) : ∃ cell : Cell, H[b]? = some cell ∧ cell.vm.isStatics = false ∧ s.vm.findClass q.1 = some cell.cls := by
  obtain ⟨hB, r, h1, hlen, cell, q1, q2, q3, q4⟩ := hR.2.2.1 b _ hb
  refine ⟨cell, q1, by rw [q3]; rfl, ?_⟩
  rw [q2]
  exact (hR.2.2.2.1 ci _ hc).2.1
theorem hp_crV {b ci : Nat} {q : vw_C} (hM : hp_M Z.2.1 (hp_ZE Z) y Y' mkc (.ref b :: As) f) (hw : hp_cw Y.1 index y Y' n) (hq : classes[ci]? = some q) (hs : Cond.instanceMethod y ∈ hp_T ∧ Cond.selects q.1 y y ∈ hp_T) (hroom : Y'.2.2.2.2.2.1 + 1 ≤ Y.2.2.2.2.2.1 ∧ 8 + (Y'.2.2.1 + 11) + Y'.2.2.2.2.2.2 ≤ Y.2.2.2.2.2.2) (hn : As.length = n) (hst : st = As.reverse ++ .ref b :: rest) (hcat : (rest.map fun v => v.category).sum ≤ 8) (hdg : decode Y.2.1 pc = .ok (.invokevirtual index, 3)) : hp_CR Y Z h pc st rest mkc (hp_vck h b ci (f h)) := by
  obtain ⟨p, l, e, s, m, args, below, meth, c, h0, E, fr, lo⟩ := Z
  intro r1 h1 e1
  obtain ⟨fs, e2, e3⟩ := Option.bind_eq_some_iff.mp e1
  obtain ⟨m1, m2⟩ := hM h r1 h1 e3
  refine ⟨m1 (p, l, e, s, m, args, below, meth, c, h0, E, fr, lo), fun F R H locs ls cells slots hRf hRl hR hz hc hsl => ⟨(Value.ref b :: As).toArray, ?_⟩⟩
  obtain ⟨w1, w2, w3, w4⟩ := hw
  exact va_runV (C := q.1) (b := b) (As := As) (rest := rest) ⟨F.1, F.2.1, F.2.2.1, F.2.2.2.1, F.2.2.2.2.1⟩ m2 ⟨callB_of n F.2.2.2.2.1 (hp_goodIn w3) rfl rfl rfl (F.2.2.2.2.1 _ w2) (F.2.2.2.2.1 _ w1) w4 ⟨by rw [hRf, F.2.2.2.2.2.2.2.2.2.1]; exact hroom.1, by rw [hRl, F.2.2.2.2.2.2.2.2.2.2]; exact hroom.2⟩, F.2.2.2.2.1 _ hs.1, F.2.2.2.2.1 _ hs.2⟩ ⟨hp_blind, hp_recv hR hq (hp_fs_some e2), fun U hU hW => ⟨rfl, by rw [hU]; exact hR.moved hW.alike, hp_Nwarm hW F.2.2.2.2.2.1⟩⟩ rfl hn (hz.trans F.2.2.1) hst (lv_room hcat) hdg ⟨hc, hsl⟩
theorem hp_crVN {host : String} {b ci : Nat} {q : vw_C} (hM : hp_M Z.2.1 (hp_ZE Z) y Y' mkc (.ref b :: As) f) (hw : hp_cn Y.1 index y host Y' n) (hq : classes[ci]? = some q) (hs : Cond.instanceMethod y ∈ hp_T ∧ Cond.selects q.1 y y ∈ hp_T) (hroom : Y'.2.2.2.2.2.1 + 1 ≤ Y.2.2.2.2.2.1 ∧ 8 + (Y'.2.2.1 + 11) + Y'.2.2.2.2.2.2 ≤ Y.2.2.2.2.2.2) (hn : As.length = n) (hst : st = As.reverse ++ .ref b :: rest) (hcat : (rest.map fun v => v.category).sum ≤ 8) (hdg : decode Y.2.1 pc = .ok (.invokevirtual index, 3)) : hp_CR Y Z h pc st rest mkc (hp_vck h b ci (f h)) := by
  obtain ⟨p, l, e, s, m, args, below, meth, c, h0, E, fr, lo⟩ := Z
  intro r1 h1 e1
  obtain ⟨fs, e2, e3⟩ := Option.bind_eq_some_iff.mp e1
  obtain ⟨m1, m2⟩ := hM h r1 h1 e3
  refine ⟨m1 (p, l, e, s, m, args, below, meth, c, h0, E, fr, lo), fun F R H locs ls cells slots hRf hRl hR hz hc hsl => ⟨(Value.ref b :: As).toArray, ?_⟩⟩
  obtain ⟨w1, w2, w3, w4⟩ := hw
  exact va_runVN (C := q.1) (b := b) (host := host) (As := As) (rest := rest) ⟨F.1, F.2.1, F.2.2.1, F.2.2.2.1, F.2.2.2.2.1⟩ m2 ⟨va_cnB n F.2.2.2.2.1 (hp_goodIn w3) rfl rfl rfl (F.2.2.2.2.2.1.1 _ w1) (F.2.2.2.2.1 _ w2) w4 ⟨by rw [hRf, F.2.2.2.2.2.2.2.2.2.1]; exact hroom.1, by rw [hRl, F.2.2.2.2.2.2.2.2.2.2]; exact hroom.2⟩, F.2.2.2.2.1 _ hs.1, F.2.2.2.2.1 _ hs.2⟩ ⟨hp_blind, hp_recv hR hq (hp_fs_some e2), fun U hU hW => ⟨rfl, by rw [hU]; exact hR.moved hW.alike, hp_Nwarm hW F.2.2.2.2.2.1⟩⟩ rfl hn (hz.trans F.2.2.1) hst (lv_room hcat) hdg ⟨hc, hsl⟩
theorem hp_crI {b : Nat} (hM : hp_M Z.2.1 (hp_ZE Z) y Y' mkc (.ref b :: As) f) (hw : hp_cw Y.1 index y Y' n) (hs : y.name = "<init>" ∧ Cond.instanceMethod y ∈ hp_T) (hret : Y'.2.2.2.1 = none) (hroom : Y'.2.2.2.2.2.1 + 1 ≤ Y.2.2.2.2.2.1 ∧ 8 + (Y'.2.2.1 + 11) + Y'.2.2.2.2.2.2 ≤ Y.2.2.2.2.2.2) (hn : As.length = n) (hst : st = As.reverse ++ .ref b :: rest) (hcat : (rest.map fun v => v.category).sum ≤ 8) (hdg : decode Y.2.1 pc = .ok (.invokespecial index, 3)) : hp_CR Y Z h pc st rest mkc (f h) := by
  obtain ⟨p, l, e, s, m, args, below, meth, c, h0, E, fr, lo⟩ := Z
  intro r1 h1 e1
  obtain ⟨m1, m2⟩ := hM h r1 h1 e1
  refine ⟨m1 (p, l, e, s, m, args, below, meth, c, h0, E, fr, lo), fun F R H locs ls cells slots hRf hRl hR hz hc hsl => ⟨(Value.ref b :: As).toArray, ?_⟩⟩
  obtain ⟨w1, w2, w3, w4⟩ := hw
  have w5 := hp_goodIn w3
  rw [hret] at w5 m2
  exact va_runI (b := b) (As := As) (rest := rest) ⟨F.1, F.2.1, F.2.2.1, F.2.2.2.1, F.2.2.2.2.1⟩ m2 ⟨callB_of n F.2.2.2.2.1 w5 rfl rfl rfl (F.2.2.2.2.1 _ w2) (F.2.2.2.2.1 _ w1) w4 ⟨by rw [hRf, F.2.2.2.2.2.2.2.2.2.1]; exact hroom.1, by rw [hRl, F.2.2.2.2.2.2.2.2.2.2]; exact hroom.2⟩, hs.1, F.2.2.2.2.1 _ hs.2⟩ ⟨hp_blind, fun U hU hW => ⟨rfl, by rw [hU]; exact hR.moved hW.alike, hp_Nwarm hW F.2.2.2.2.2.1⟩⟩ rfl hn (hz.trans F.2.2.1) hst (lv_room hcat) hdg ⟨hc, hsl⟩
theorem hp_crIN {host : String} {b : Nat} (hM : hp_M Z.2.1 (hp_ZE Z) y Y' mkc (.ref b :: As) f) (hw : hp_cn Y.1 index y host Y' n) (hs : y.name = "<init>" ∧ Cond.instanceMethod y ∈ hp_T) (hret : Y'.2.2.2.1 = none) (hroom : Y'.2.2.2.2.2.1 + 1 ≤ Y.2.2.2.2.2.1 ∧ 8 + (Y'.2.2.1 + 11) + Y'.2.2.2.2.2.2 ≤ Y.2.2.2.2.2.2) (hn : As.length = n) (hst : st = As.reverse ++ .ref b :: rest) (hcat : (rest.map fun v => v.category).sum ≤ 8) (hdg : decode Y.2.1 pc = .ok (.invokespecial index, 3)) : hp_CR Y Z h pc st rest mkc (f h) := by
  obtain ⟨p, l, e, s, m, args, below, meth, c, h0, E, fr, lo⟩ := Z
  intro r1 h1 e1
  obtain ⟨m1, m2⟩ := hM h r1 h1 e1
  refine ⟨m1 (p, l, e, s, m, args, below, meth, c, h0, E, fr, lo), fun F R H locs ls cells slots hRf hRl hR hz hc hsl => ⟨(Value.ref b :: As).toArray, ?_⟩⟩
  obtain ⟨w1, w2, w3, w4⟩ := hw
  have w5 := hp_goodIn w3
  rw [hret] at w5 m2
  exact va_runIN (host := host) (b := b) (As := As) (rest := rest) ⟨F.1, F.2.1, F.2.2.1, F.2.2.2.1, F.2.2.2.2.1⟩ m2 ⟨va_cnB n F.2.2.2.2.1 w5 rfl rfl rfl (F.2.2.2.2.2.1.1 _ w1) (F.2.2.2.2.1 _ w2) w4 ⟨by rw [hRf, F.2.2.2.2.2.2.2.2.2.1]; exact hroom.1, by rw [hRl, F.2.2.2.2.2.2.2.2.2.2]; exact hroom.2⟩, hs.1, F.2.2.2.2.1 _ hs.2⟩ ⟨hp_blind, fun U hU hW => ⟨rfl, by rw [hU]; exact hR.moved hW.alike, hp_Nwarm hW F.2.2.2.2.2.1⟩⟩ rfl hn (hz.trans F.2.2.1) hst (lv_room hcat) hdg ⟨hc, hsl⟩
end HD
section HX
variable {Y : hp_Y} {Z : hp_Z} {α : Type} {mk : α → Option Value} {h : hp_H} {pc : Nat} {lv : List (Nat × Value)} {st : List Value} {X : Option (α × hp_H)}
/-- the constant reference in a static field -/
theorem hp_gets {k index : Nat} {q : String × String × String} (hq : statics[k]? = some q) (hlink : Cond.fieldLink Y.1 index q.1 q.2.1 q.2.2 ∈ hp_T) (hdg : decode Y.2.1 pc = .ok (.getstatic index, 3)) (kk : hp_J Y Z mk h (pc + 3) lv (.ref (hp_G Z k) :: st) X) : hp_J Y Z mk h pc lv st X := by
  obtain ⟨p, l, e, s, m, args, below, meth, c, h0, E, fr, lo⟩ := Z
  intro r h' hX
  obtain ⟨k1, k2⟩ := kk r h' hX
  refine ⟨k1, fun F a1 a2 H locs ls hR hL hl => ?_⟩
  obtain ⟨cf, kf, fi, f, a, cell, z1, z2, z3, z4, z5, z6, z7, z8⟩ := hR.2.2.2.2.1 k q hq
  exact W.gets F.1 F.2.1 F.2.2.2.1 (F.2.2.2.2.1 _ hlink) z1 z2 z3 z4 z5 (fun w => by rw [w] at z6; cases z6) z7 rfl hdg (k2 F a1 a2 H locs ls hR hL hl)
theorem hp_getsN {k index : Nat} {q : String × String × String} {host : String} (hq : statics[k]? = some q) (hlink : Cond.fieldLinkNest Y.1 index q.1 q.2.1 q.2.2 host ∈ hp_Nst) (hdg : decode Y.2.1 pc = .ok (.getstatic index, 3)) (kk : hp_J Y Z mk h (pc + 3) lv (.ref (hp_G Z k) :: st) X) : hp_J Y Z mk h pc lv st X := by
  obtain ⟨p, l, e, s, m, args, below, meth, c, h0, E, fr, lo⟩ := Z
  intro r h' hX
  obtain ⟨k1, k2⟩ := kk r h' hX
  refine ⟨k1, fun F a1 a2 H locs ls hR hL hl => ?_⟩
  obtain ⟨cf, kf, fi, f, a, cell, z1, z2, z3, z4, z5, z6, z7, z8⟩ := hR.2.2.2.2.1 k q hq
  intro T hT X
  obtain ⟨vm', X', stp⟩ := X.getstaticNest F.1 F.2.2.2.1 (va_Nw.use rfl (F.2.2.2.2.2.1.1 _ hlink)) z1 z2 z3 z4 (by rw [hT]; exact z5) (fun w => by rw [w] at z6; cases z6) z7 (g := F0 m pc ls st) rfl (by rw [F.2.1]; exact hdg)
  obtain ⟨t, w1, w2⟩ := k2 F a1 a2 H locs ls hR hL hl (T.setVm vm') hT X'
  exact ⟨t, stp t w1, w2⟩
theorem hp_cast {a ci index : Nat} {q : vw_C} (hq : classes[ci]? = some q) (hw : Cond.classLink Y.1 index q.1 ∈ hp_T) (hdg : decode Y.2.1 pc = .ok (.checkcast index, 3)) (kk : hp_J Y Z mk h (pc + 3) lv (.ref a :: st) X) : hp_J Y Z mk h pc lv (.ref a :: st) (hp_vck h a ci X) := by
  obtain ⟨p, l, e, s, m, args, below, meth, c, h0, E, fr, lo⟩ := Z
  intro r h' hX
  obtain ⟨fs, e1, e2⟩ := Option.bind_eq_some_iff.mp hX
  obtain ⟨k1, k2⟩ := kk r h' e2
  exact ⟨k1, fun F a1 a2 H locs ls hR hL hl => va_castS F.1 F.2.1 F.2.2.2.1 (F.2.2.2.2.1 _ hw) (hR.2.2.2.1 ci _ hq).2 (hp_recv hR hq (hp_fs_some e1)) hdg (k2 F a1 a2 H locs ls hR hL hl)⟩
theorem hp_acmp_eq {x y : Nat} {off : Int} {tgt : Nat} {A B : Option (α × hp_H)} (hdg : decode Y.2.1 pc = .ok (.if_acmp .eq off, 3)) (ht : (pc : Int) + off = (tgt : Int)) (kt : hp_J Y Z mk h tgt lv st A) (kf : hp_J Y Z mk h (pc + 3) lv st B) : hp_J Y Z mk h pc lv (.ref y :: .ref x :: st) (if x = y then A else B) := by
  obtain ⟨p, l, e, s, m, args, below, meth, c, h0, E, fr, lo⟩ := Z
  by_cases hc : x = y
  · rw [if_pos hc]; exact hp_go (fun F _ _ _ _ _ _ ls h1 w => lv_acmp_eq (rx := some x) (ry := some y) F.1 F.2.1 hdg ht (fun _ => w ls h1) (fun q => absurd (by rw [hc]) q)) kt
  · rw [if_neg hc]; exact hp_go (fun F _ _ _ _ _ _ ls h1 w => lv_acmp_eq (rx := some x) (ry := some y) F.1 F.2.1 hdg ht (fun q => absurd (Option.some.inj q) hc) (fun _ => w ls h1)) kf
/-- Object's constructor -/
theorem hp_objInit {a index : Nat} (hw : Cond.methodLink Y.1 index objectInit ∈ hp_T ∧ Cond.instanceMethod objectInit ∈ hp_T ∧ Cond.code objectInit ⟨#[0xb1]⟩ 1 none ∈ hp_T) (hroom : 1 ≤ Y.2.2.2.2.2.1 ∧ 20 ≤ Y.2.2.2.2.2.2) (hcat : (st.map fun v => v.category).sum ≤ 8) (hdg : decode Y.2.1 pc = .ok (.invokespecial index, 3)) (kk : hp_J Y Z mk h (pc + 3) lv st X) : hp_J Y Z mk h pc lv (.ref a :: st) X := by
  obtain ⟨p, l, e, s, m, args, below, meth, c, h0, E, fr, lo⟩ := Z
  intro r h' hX
  obtain ⟨k1, k2⟩ := kk r h' hX
  refine ⟨k1, fun F a1 a2 H locs ls hR hL hl => ?_⟩
  refine W.objInit F.1 F.2.1 F.2.2.2.1 (F.2.2.2.2.1 _ hw.1) (F.2.2.2.2.1 _ hw.2.1) (F.2.2.2.2.1 _ hw.2.2) rfl hl.1 rfl hdg (by show 1 ≤ fr; rw [F.2.2.2.2.2.2.2.2.2.1]; exact hroom.1) (by have := hroom.2; show 2 * 0 + (st.map fun v => v.category).sum + 12 ≤ lo; rw [F.2.2.2.2.2.2.2.2.2.2]; omega) (k2 F a1 a2 H locs ls hR hL hl)
end HX
section HS
variable {Y : hp_Y} {Z : hp_Z} {α : Type} {mk : α → Option Value} {h : hp_H} {pc : Nat} {lv : List (Nat × Value)} {st : List Value} {X : Option (α × hp_H)}
theorem hp_ite {c : Prop} {d : Decidable c} {A B : Option (α × hp_H)} (kt : c → hp_J Y Z mk h pc lv st A) (kf : ¬ c → hp_J Y Z mk h pc lv st B) : hp_J Y Z mk h pc lv st (@ite _ c d A B) := by
  by_cases hc : c
  · rw [if_pos hc]; exact kt hc
  · rw [if_neg hc]; exact kf hc
theorem hp_tabI {dflt lo hi : Int} {offs : Array Int} {len : Nat} {x kv : Int32} {off : Int} {tgt : Nat} (hdg : decode Y.2.1 pc = .ok (.tableswitch dflt lo hi offs, len)) (hx : x = kv) (h1 : ¬ kv.toInt < lo) (h2 : ¬ hi < kv.toInt) (ho : offs[(kv.toInt - lo).toNat]? = some off) (ht : (pc : Int) + off = (tgt : Int)) (k : hp_J Y Z mk h tgt lv st X) : hp_J Y Z mk h pc lv (.int x :: st) X := by
  obtain ⟨p, l, e, s, m, args, below, meth, c, h0, E, fr, lo⟩ := Z
  subst hx
  exact hp_go (fun F _ _ _ _ _ _ ls h3 w => lv_tableIn F.1 F.2.1 hdg h1 h2 ho ht (w ls h3)) k
theorem hp_tabD {dflt lo hi : Int} {offs : Array Int} {len : Nat} {x : Int32} {tgt : Nat} (hdg : decode Y.2.1 pc = .ok (.tableswitch dflt lo hi offs, len)) (hx : x.toInt < lo ∨ hi < x.toInt) (ht : (pc : Int) + dflt = (tgt : Int)) (k : hp_J Y Z mk h tgt lv st X) : hp_J Y Z mk h pc lv (.int x :: st) X := by
  obtain ⟨p, l, e, s, m, args, below, meth, c, h0, E, fr, lo⟩ := Z
  exact hp_go (fun F _ _ _ _ _ _ ls h3 w => lv_tableOut F.1 F.2.1 hdg hx ht (w ls h3)) k
theorem hp_look {dflt : Int} {ps : Array (Int × Int)} {len : Nat} {x : Int32} {off : Int} {tgt : Nat} (hdg : decode Y.2.1 pc = .ok (.lookupswitch dflt ps, len)) (hp : (ps.toList.zip (ps.toList.drop 1)).all (fun (a, next) => a.1 < next.1) = true) (ho : Op.lookupswitch.offset ps.toList dflt x.toInt = off) (ht : (pc : Int) + off = (tgt : Int)) (k : hp_J Y Z mk h tgt lv st X) : hp_J Y Z mk h pc lv (.int x :: st) X := by
  obtain ⟨p, l, e, s, m, args, below, meth, c, h0, E, fr, lo⟩ := Z
  exact hp_go (fun F _ _ _ _ _ _ ls h3 w => lv_lookup F.1 F.2.1 hdg hp ho ht (w ls h3)) k
end HS
def hp_fu : Nat := 4294967296
end
section
/-! WHAT THE LIBRARY'S OWN METHODS NEED: constant Strings, null, arrays of references, arraycopy, clone, getClass -/
def hp_sv (G : Nat → Nat) (a : Nat) : Option Nat := if a = G 5 then some (G 8) else if a = G 6 then some (G 9) else if a = G 7 then some (G 10) else none
def hp_sd (G : Nat → Nat) (a : Nat) : Option Int32 := if a = G 5 ∨ a = G 6 ∨ a = G 7 then some 0 else none
def hp_sck {β : Type} (G : Nat → Nat) (a : Nat) (X : Option β) : Option β := if a = G 5 ∨ a = G 6 ∨ a = G 7 then X else none
def hp_c (x : Int32) (h : hp_H) : Option (Int32 × hp_H) := if (x.toUInt32 % 65536).toInt32 = x then some (x, h) else none
def hp_b (x : Int32) (h : hp_H) : Option (Int32 × hp_H) := if x.toInt8.toInt32 = x then some (x, h) else none
def hp_isV (h : hp_H) (o : Option Nat) : Bool := match o with
  | none => true
  | some y => match h.1 y with
    | some (.inl (3, _)) => true
    | _ => false
def hp_sR (h : hp_H) (a : Nat) (i : Int32) (y : Nat) : Option hp_H := match hp_arr h a with
  | some (w, t, n, .inr (.inr f)) => if w = true ∧ t = .object "java/lang/Object" ∧ ¬ (i < 0 ∨ n ≤ i.toNatClampNeg) ∧ hp_isV h (some y) = true then some (hp_up h.1 a (.inr (w, t, n, .inr (.inr (va_up f i.toNatClampNeg (some y))))), h.2) else none
  | _ => none
def hp_nqK {β : Type} (h : hp_H) (n : Int32) (K : Nat → hp_H → Option β) : Option β := if ¬ n < 0 ∧ n.toNatClampNeg * 4 ≤ 536870912 then K h.2.1 (hp_newa h (.object "java/lang/Object") n.toNatClampNeg (.inr (.inr fun _ => none))) else none
def hp_gck {β : Type} (h : hp_H) (a : Nat) (X : Option β) : Option β := match hp_arr h a with
  | some (w, t, _, _) => if w = true ∧ t = .object "java/lang/Object" then X else none
  | _ => none
def hp_bck {β : Type} (h : hp_H) (a : Nat) (X : Option β) : Option β := match hp_arr h a with
  | some (w, t, _, _) => if w = true ∧ t = .byte then X else none
  | _ => none
/-- System.arraycopy between two arrays of bytes -/
def hp_cpB (h : hp_H) (src : Nat) (sp : Int32) (dst : Nat) (dp n : Int32) : Option hp_H := match hp_arr h src, hp_arr h dst with
  | some (_, t0, n0, .inl f), some (w1, t1, n1, .inl g) => if t0 = .byte ∧ w1 = true ∧ t1 = .byte ∧ ¬ sp < 0 ∧ ¬ dp < 0 ∧ ¬ n < 0 ∧ sp.toNatClampNeg + n.toNatClampNeg ≤ n0 ∧ dp.toNatClampNeg + n.toNatClampNeg ≤ n1 ∧ (∀ i : Nat, i < n.toNatClampNeg → fits .byte (.int (f (sp.toNatClampNeg + i))) = true) then some (hp_up h.1 dst (.inr (true, .byte, n1, .inl (va_cpy f g sp.toNatClampNeg dp.toNatClampNeg n.toNatClampNeg))), h.2) else none
  | _, _ => none
def hp_cpR (h : hp_H) (src : Nat) (sp : Int32) (dst : Nat) (dp n : Int32) : Option hp_H := match hp_arr h src, hp_arr h dst with
  | some (_, t0, n0, .inr (.inr f)), some (w1, t1, n1, .inr (.inr g)) => if t0 = .object "java/lang/Object" ∧ w1 = true ∧ t1 = .object "java/lang/Object" ∧ ¬ sp < 0 ∧ ¬ dp < 0 ∧ ¬ n < 0 ∧ sp.toNatClampNeg + n.toNatClampNeg ≤ n0 ∧ dp.toNatClampNeg + n.toNatClampNeg ≤ n1 ∧ (∀ i : Nat, i < n.toNatClampNeg → hp_isV h (f (sp.toNatClampNeg + i)) = true) then some (hp_up h.1 dst (.inr (true, .object "java/lang/Object", n1, .inr (.inr (va_cpy f g sp.toNatClampNeg dp.toNatClampNeg n.toNatClampNeg)))), h.2) else none
  | _, _ => none
/-- clone of an array of bytes -/
def hp_clK {β : Type} (h : hp_H) (a : Nat) (K : Nat → hp_H → Option β) : Option β := match hp_arr h a with
  | some (w, t, n, .inl f) => if w = true ∧ t = .byte ∧ (∀ i : Nat, i < n → fits .byte (.int (f i)) = true) then K h.2.1 (hp_newa h .byte n (.inl f)) else none
  | _ => none
theorem hp_sv_some {G : Nat → Nat} {a x : Nat} (e : hp_sv G a = some x) : ∃ i : Nat, i < 3 ∧ a = G (5 + i) ∧ x = G (8 + i) := by
  unfold hp_sv at e
  split at e
  · cases e; exact ⟨0, by decide, by assumption, rfl⟩
  · split at e
    · cases e; exact ⟨1, by decide, by assumption, rfl⟩
    · split at e
      · cases e; exact ⟨2, by decide, by assumption, rfl⟩
      · cases e
theorem hp_s3 {G : Nat → Nat} {a : Nat} (e : a = G 5 ∨ a = G 6 ∨ a = G 7) : ∃ i : Nat, i < 3 ∧ a = G (5 + i) := by
  rcases e with e | e | e
  · exact ⟨0, by decide, e⟩
  · exact ⟨1, by decide, e⟩
  · exact ⟨2, by decide, e⟩
theorem hp_isV_some {h : hp_H} {y : Nat} (e : hp_isV h (some y) = true) : ∃ fs, h.1 y = some (.inl (3, fs)) := by
  unfold hp_isV at e
  simp only at e
  split at e
  · rename_i fs hy
    exact ⟨fs, hy⟩
  · cases e
section HY
variable {Y : hp_Y} {Z : hp_Z} {α : Type} {mk : α → Option Value} {h : hp_H} {pc : Nat} {lv : List (Nat × Value)} {st : List Value} {X : Option (α × hp_H)}
theorem hp_ldcS {index k : Nat} {tx : String} (hq : (Y.1, index, tx, k) ∈ hp_strs) (hdg : decode Y.2.1 pc = .ok (.ldc index, 2)) (kk : hp_J Y Z mk h (pc + 2) lv (.ref (hp_G Z k) :: st) X) : hp_J Y Z mk h pc lv st X := by
  obtain ⟨p, l, e, s, m, args, below, meth, c, h0, E, fr, lo⟩ := Z
  exact hp_go (fun F _ _ _ _ _ _ ls h1 w => va_ldcS F.1 F.2.1 F.2.2.2.1 (F.2.2.2.2.2.1.2 _ hq) hdg (w ls h1)) kk
theorem hp_null (hdg : decode Y.2.1 pc = .ok (.aconst_null, 1)) (kk : hp_J Y Z mk h (pc + 1) lv (va_rf none :: st) X) : hp_J Y Z mk h pc lv st X := by
  obtain ⟨p, l, e, s, m, args, below, meth, c, h0, E, fr, lo⟩ := Z
  exact hp_go (fun F _ _ _ _ _ _ ls h1 w => lv_null F.1 F.2.1 hdg (w ls h1)) kk
theorem hp_strV {a index : Nat} {K : Nat → Option (α × hp_H)} (hlink : Cond.fieldLink Y.1 index "java/lang/String" "value" "[B" ∈ hp_T) (hdg : decode Y.2.1 pc = .ok (.getfield index, 3)) (kk : ∀ x, hp_J Y Z mk h (pc + 3) lv (.ref x :: st) (K x)) : hp_J Y Z mk h pc lv (.ref a :: st) ((hp_sv (hp_G Z) a).bind K) := by
  obtain ⟨p, l, e, s, m, args, below, meth, c, h0, E, fr, lo⟩ := Z
  intro r h' hX
  obtain ⟨x, e1, e2⟩ := Option.bind_eq_some_iff.mp hX
  obtain ⟨i, hi, rfl, rfl⟩ := hp_sv_some e1
  obtain ⟨k1, k2⟩ := kk _ r h' e2
  refine ⟨k1, fun F a1 a2 H locs ls hR hL hl => ?_⟩
  obtain ⟨cf, k, fi, f, cell, q1, q2, q3, q4, q5, q6⟩ := (hR.2.2.2.2.2.1 i hi).2.2
  exact W.getf F.1 F.2.1 F.2.2.2.1 (F.2.2.2.2.1 _ hlink) q1 q2 q3 q4 q5 rfl rfl hdg (k2 F a1 a2 H locs ls hR hL hl)
theorem hp_strC {a index : Nat} {K : Int32 → Option (α × hp_H)} (hlink : Cond.fieldLink Y.1 index "java/lang/String" "coder" "B" ∈ hp_T) (hdg : decode Y.2.1 pc = .ok (.getfield index, 3)) (kk : ∀ x, hp_J Y Z mk h (pc + 3) lv (.int x :: st) (K x)) : hp_J Y Z mk h pc lv (.ref a :: st) ((hp_sd (hp_G Z) a).bind K) := by
  obtain ⟨p, l, e, s, m, args, below, meth, c, h0, E, fr, lo⟩ := Z
  intro r h' hX
  obtain ⟨x, e1, e2⟩ := Option.bind_eq_some_iff.mp hX
  unfold hp_sd at e1
  split at e1
  · rename_i ha
    cases e1
    obtain ⟨i, hi, rfl⟩ := hp_s3 ha
    obtain ⟨k1, k2⟩ := kk _ r h' e2
    refine ⟨k1, fun F a1 a2 H locs ls hR hL hl => ?_⟩
    obtain ⟨cf, k, fi, f, cell, q1, q2, q3, q4, q5, q6⟩ := (hR.2.2.2.2.2.1 i hi).2.1
    exact W.getf F.1 F.2.1 F.2.2.2.1 (F.2.2.2.2.1 _ hlink) q1 q2 q3 q4 q5 rfl rfl hdg (k2 F a1 a2 H locs ls hR hL hl)
  · cases e1
theorem hp_comp {index : Nat} (hlink : Cond.fieldLink Y.1 index "java/lang/String" "COMPACT_STRINGS" "Z" ∈ hp_T) (hdg : decode Y.2.1 pc = .ok (.getstatic index, 3)) (kk : hp_J Y Z mk h (pc + 3) lv (.int 1 :: st) X) : hp_J Y Z mk h pc lv st X := by
  obtain ⟨p, l, e, s, m, args, below, meth, c, h0, E, fr, lo⟩ := Z
  intro r h' hX
  obtain ⟨k1, k2⟩ := kk r h' hX
  refine ⟨k1, fun F a1 a2 H locs ls hR hL hl => ?_⟩
  obtain ⟨cf, kf, fi, f, a, cell, z1, z2, z3, z4, z5, z6, z7, z8⟩ := hR.2.2.2.2.2.2.2.2.1
  exact W.gets F.1 F.2.1 F.2.2.2.1 (F.2.2.2.2.1 _ hlink) z1 z2 z3 z4 z5 (fun w => by rw [w] at z6; cases z6) z7 rfl hdg (k2 F a1 a2 H locs ls hR hL hl)
theorem hp_form {index : Nat} (hlink : Cond.fieldLink Y.1 index "jdk/internal/util/Preconditions" "SIOOBE_FORMATTER" "Ljava/util/function/BiFunction;" ∈ hp_T) (hdg : decode Y.2.1 pc = .ok (.getstatic index, 3)) (kk : ∀ o, hp_J Y Z mk h (pc + 3) lv (va_rf o :: st) X) : hp_J Y Z mk h pc lv st X := by
  obtain ⟨p, l, e, s, m, args, below, meth, c, h0, E, fr, lo⟩ := Z
  intro r h' hX
  refine ⟨(kk none r h' hX).1, fun F a1 a2 H locs ls hR hL hl => ?_⟩
  rcases hR.2.2.2.2.2.2.2.2.2 with hz | ⟨t, hz⟩
  · obtain ⟨cf, kf, fi, f, a, cell, z1, z2, z3, z4, z5, z6, z7, z8⟩ := hz
    exact W.gets F.1 F.2.1 F.2.2.2.1 (F.2.2.2.2.1 _ hlink) z1 z2 z3 z4 z5 (fun w => by rw [w] at z6; cases z6) z7 rfl hdg ((kk none r h' hX).2 F a1 a2 H locs ls hR hL hl)
  · obtain ⟨cf, kf, fi, f, a, cell, z1, z2, z3, z4, z5, z6, z7, z8⟩ := hz
    exact W.gets F.1 F.2.1 F.2.2.2.1 (F.2.2.2.2.1 _ hlink) z1 z2 z3 z4 z5 (fun w => by rw [w] at z6; cases z6) z7 rfl hdg ((kk (some t) r h' hX).2 F a1 a2 H locs ls hR hL hl)
theorem hp_cret {x : Int32} (hdg : decode Y.2.1 pc = .ok (.ireturn, 1)) (hr : Y.2.2.2.1 = some .char) : hp_J Y Z hp_rI h pc lv [.int x] (hp_c x h) := by
  obtain ⟨p, l, e, s, m, args, below, meth, c, h0, E, fr, lo⟩ := Z
  by_cases hx : (x.toUInt32 % 65536).toInt32 = x
  · rw [show hp_c x h = some (x, h) from if_pos hx]
    intro r h' hX
    cases hX
    refine ⟨⟨Nat.le_refl _, Nat.le_refl _⟩, fun F a1 a2 H locs ls hR hL hl => ?_⟩
    exact W.zret F.1 F.2.1 (F.2.2.2.2.2.2.1.trans hr) (by have := pk_nc x; rw [hx] at this; exact this) (fun t ht hW => ⟨rfl, by rw [ht]; exact hR.moved hW.alike⟩) hL hdg F.2.2.2.2.2.2.2.1
  · rw [show hp_c x h = none from if_neg hx]; exact hp_fail
theorem hp_bret {x : Int32} (hdg : decode Y.2.1 pc = .ok (.ireturn, 1)) (hr : Y.2.2.2.1 = some .byte) : hp_J Y Z hp_rI h pc lv [.int x] (hp_b x h) := by
  obtain ⟨p, l, e, s, m, args, below, meth, c, h0, E, fr, lo⟩ := Z
  by_cases hx : x.toInt8.toInt32 = x
  · rw [show hp_b x h = some (x, h) from if_pos hx]
    intro r h' hX
    cases hX
    refine ⟨⟨Nat.le_refl _, Nat.le_refl _⟩, fun F a1 a2 H locs ls hR hL hl => ?_⟩
    exact W.zret F.1 F.2.1 (F.2.2.2.2.2.2.1.trans hr) (by have := pk_nb x; rw [hx] at this; exact this) (fun t ht hW => ⟨rfl, by rw [ht]; exact hR.moved hW.alike⟩) hL hdg F.2.2.2.2.2.2.2.1
  · rw [show hp_b x h = none from if_neg hx]; exact hp_fail
theorem hp_aast {a y : Nat} {i : Int32} {K : hp_H → Option (α × hp_H)} (hw : Cond.castable "ExpressionDesk$Value" "java/lang/Object" ∈ hp_Nst) (hdg : decode Y.2.1 pc = .ok (.aastore, 1)) (kk : ∀ h1, hp_J Y Z mk h1 (pc + 1) lv st (K h1)) : hp_J Y Z mk h pc lv (.ref y :: .int i :: .ref a :: st) ((hp_sR h a i y).bind K) := by
  obtain ⟨p, l, e, s, m, args, below, meth, c, h0, E, fr, lo⟩ := Z
  intro r h' hX
  obtain ⟨h1, e1, e2⟩ := Option.bind_eq_some_iff.mp hX
  unfold hp_sR at e1
  split at e1
  · rename_i w t n f ho
    split at e1
    · rename_i hc
      cases e1
      obtain ⟨rfl, rfl, hin, hV⟩ := hc
      obtain ⟨k1, k2⟩ := kk _ r h' e2
      refine ⟨k1, fun F a1 a2 H locs ls hR hL hl => ?_⟩
      obtain ⟨cell, q1, q2, q3, q4, q5, q6, q7⟩ := hR.2.2.1 a _ (hp_arr_some ho)
      obtain ⟨hB, cA, rfl, hA, hA2⟩ := q7 rfl
      obtain ⟨fs, hy⟩ := hp_isV_some hV
      obtain ⟨cv, v1, v2, v3⟩ := hp_recv hR (ci := 3) rfl hy
      obtain ⟨kA, comp, r1, r2, r3, r4⟩ := hA2.2 _ rfl
      obtain ⟨kC, hkC, -⟩ := Vm.findClass_spec v3
      obtain ⟨kE, hkE, -⟩ := Vm.findClass_spec r3
      have hlt : i.toNatClampNeg < n := Nat.lt_of_not_le (fun q => hin (Or.inr q))
      have h00 : ¬ i < 0 := fun q => hin (Or.inl q)
      refine W.aast F.1 F.2.1 q1 (fun q h => by cases h) q3 r1 r2 rfl hkE ⟨h00, by rw [arrV_size]; exact hlt⟩ v1 (fun q h => by rw [h] at v2; cases v2) hkC (vb_asgC (F.2.2.2.2.2.1.1 _ hw) _ _ r3 v3) rfl rfl hdg fun H1 b1 b2 b3 => ?_
      rw [arrV_store] at b1
      have hv : updV (hp_av (.inr (.inr f))) i.toNatClampNeg (.ref y) = hp_av (.inr (.inr (va_up f i.toNatClampNeg (some y)))) := by
        funext j
        by_cases hj2 : j = i.toNatClampNeg
        · subst hj2; simp [hp_av, updV, va_up, va_rf]
        · simp [hp_av, updV, va_up, hj2]
      rw [hv] at b1
      refine k2 F a1 a2 H1 _ ls (hR.put hB (hp_at.arr hB b1 hA hA2) b2 b3) ?_ hl
      intro q hq
      rcases List.mem_append.mp hq with hq | hq
      · exact hL q hq
      · rw [List.mem_singleton.mp hq]; exact hB
    · cases e1
  · cases e1
theorem hp_newQ {index : Nat} {n : Int32} {K : Nat → hp_H → Option (α × hp_H)} (hcl : Cond.classLink Y.1 index "java/lang/Object" ∈ hp_T) (hov : Cond.arrayOver (.object "java/lang/Object") ∈ hp_Nst) (hdg : decode Y.2.1 pc = .ok (.anewarray index, 3)) (kk : ∀ a h1, hp_J Y Z mk h1 (pc + 3) lv (.ref a :: st) (K a h1)) : hp_J Y Z mk h pc lv (.int n :: st) (hp_nqK h n K) := by
  obtain ⟨p, l, e, s, m, args, below, meth, c, h0, E, fr, lo⟩ := Z
  intro r h' hX
  unfold hp_nqK at hX
  split at hX
  · rename_i hn
    obtain ⟨k1, k2⟩ := kk h.2.1 (hp_newa h (.object "java/lang/Object") n.toNatClampNeg (.inr (.inr fun _ => none))) r h' hX
    have k1a : h.2.1 + 1 ≤ h'.2.1 := k1.1
    have k1b : h.2.2 + n.toNatClampNeg ≤ h'.2.2 := k1.2
    refine ⟨⟨Nat.le_of_succ_le k1a, Nat.le_trans (Nat.le_add_right _ _) k1b⟩, fun F a1 a2 H locs ls hR hL hl => ?_⟩
    have hAO : va_AO "java/lang/Object" s := F.2.2.2.2.2.1.1 _ hov
    refine W.anew F.1 F.2.1 F.2.2.2.1 (F.2.2.2.2.1 _ hcl) (va_AO.use hAO) rfl hdg rfl hn.1 hn.2 (show h.2.1 - h0.2.1 + 1 ≤ h'.2.1 - h0.2.1 by omega) (show h.2.2 - h0.2.2 + n.toNatClampNeg ≤ h'.2.2 - h0.2.2 by omega) fun cA kA comp f1 f2 f3 f4 => ?_
    rw [hR.1]
    generalize hH1 : H.push ({ cls := cA, slots := Array.replicate n.toNatClampNeg .null, vm := .none } : Cell) = H1
    have z1 : H1.size = h.2.1 + 1 := by rw [← hH1, Array.size_push, hR.1]
    have e1 : H1[h.2.1]? = some (arrV cA n.toNatClampNeg (hp_av (.inr (.inr fun _ => none)))) := by
      rw [← hH1, ← hR.1, Array.getElem?_push_size, arrV_new]; rfl
    have o1 : ∀ q : Nat, q < h.2.1 → H1[q]? = H[q]? := fun q hq => by rw [← hH1, Array.getElem?_push, if_neg (by rw [hR.1]; exact Nat.ne_of_lt hq)]
    have hR1 : hp_R E s H1 (hp_newa h (.object "java/lang/Object") n.toNatClampNeg (.inr (.inr fun _ => none))) := hR.push n.toNatClampNeg (hp_at.arr hR.2.1 e1 (fun N z => ⟨(fun k h => by cases h), kA, f2, comp, f3⟩) ⟨f1, fun C hC => by cases hC; exact ⟨kA, comp, f2, f3, f4, f1⟩⟩) z1 o1
    have K2 := k2 F (Nat.le_trans a1 (Nat.le_succ _)) (Nat.le_trans a2 (Nat.le_add_right _ _)) H1 locs ls hR1 hL hl
    have c1 : (hp_newa h (.object "java/lang/Object") n.toNatClampNeg (.inr (.inr fun _ => none))).2.1 - h0.2.1 = h.2.1 - h0.2.1 + 1 := by show h.2.1 + 1 - h0.2.1 = _; omega
    have c2 : (hp_newa h (.object "java/lang/Object") n.toNatClampNeg (.inr (.inr fun _ => none))).2.2 - h0.2.2 = h.2.2 - h0.2.2 + n.toNatClampNeg := by show h.2.2 + n.toNatClampNeg - h0.2.2 = _; omega
    rw [c1, c2] at K2
    exact K2
  · cases hX
theorem hp_getC {a index : Nat} (hw : Cond.methodLink Y.1 index ⟨"java/lang/Object", "getClass", "()Ljava/lang/Class;"⟩ ∈ hp_T ∧ Cond.selects "[Ljava/lang/Object;" ⟨"java/lang/Object", "getClass", "()Ljava/lang/Class;"⟩ ⟨"java/lang/Object", "getClass", "()Ljava/lang/Class;"⟩ ∈ hp_T ∧ Cond.instanceMethod ⟨"java/lang/Object", "getClass", "()Ljava/lang/Class;"⟩ ∈ hp_T ∧ Cond.native ⟨"java/lang/Object", "getClass", "()Ljava/lang/Class;"⟩ ∈ hp_T) (hroom : 1 ≤ Y.2.2.2.2.2.1 ∧ 22 ≤ Y.2.2.2.2.2.2) (hcat : (st.map fun v => v.category).sum ≤ 8) (hdg : decode Y.2.1 pc = .ok (.invokevirtual index, 3)) (kk : hp_J Y Z mk h (pc + 3) lv (.ref (hp_G Z 11) :: st) X) : hp_J Y Z mk h pc lv (.ref a :: st) (hp_gck h a X) := by
  obtain ⟨p, l, e, s, m, args, below, meth, c, h0, E, fr, lo⟩ := Z
  intro r h' hX
  unfold hp_gck at hX
  split at hX
  · rename_i w t n f ho
    split at hX
    · rename_i hc
      obtain ⟨rfl, rfl⟩ := hc
      obtain ⟨k1, k2⟩ := kk r h' hX
      refine ⟨k1, fun F a1 a2 H locs ls hR hL hl => ?_⟩
      obtain ⟨cell, q1, q2, q3, q4, q5, q6, q7⟩ := hR.2.2.1 a _ (hp_arr_some ho)
      obtain ⟨hB, cA, rfl, hA, hA2⟩ := q7 rfl
      exact va_getC F.1 F.2.1 hl.1.symm F.2.2.2.1 (F.2.2.2.2.1 _ hw.1) (va_Dc.use hR.2.2.2.2.2.2.2.1) (F.2.2.2.2.1 _ hw.2.1) (F.2.2.2.2.1 _ hw.2.2.1) (F.2.2.2.2.1 _ hw.2.2.2) hR.2.2.2.2.2.2.1 ⟨_, q1, rfl, va_nmO (hA2.2 _ rfl) rfl⟩ (by show 1 ≤ fr; rw [F.2.2.2.2.2.2.2.2.2.1]; exact hroom.1) (by have := hroom.2; show _ ≤ lo; rw [F.2.2.2.2.2.2.2.2.2.2]; omega) hdg (k2 F a1 a2 H locs ls hR hL hl)
    · cases hX
  · cases hX
theorem hp_ldcC {index : Nat} (hw : Cond.classLink Y.1 index "[Ljava/lang/Object;" ∈ hp_T) (hdg : decode Y.2.1 pc = .ok (.ldc index, 2)) (kk : hp_J Y Z mk h (pc + 2) lv (.ref (hp_G Z 11) :: st) X) : hp_J Y Z mk h pc lv st X := by
  obtain ⟨p, l, e, s, m, args, below, meth, c, h0, E, fr, lo⟩ := Z
  intro r h' hX
  obtain ⟨k1, k2⟩ := kk r h' hX
  exact ⟨k1, fun F a1 a2 H locs ls hR hL hl => va_ldcM F.1 F.2.1 F.2.2.2.1 (F.2.2.2.2.1 _ hw) hR.2.2.2.2.2.2.1 hdg (k2 F a1 a2 H locs ls hR hL hl)⟩
theorem hp_acmp_ne {x y : Nat} {off : Int} {tgt : Nat} {A B : Option (α × hp_H)} (hdg : decode Y.2.1 pc = .ok (.if_acmp .ne off, 3)) (ht : (pc : Int) + off = (tgt : Int)) (kf : hp_J Y Z mk h (pc + 3) lv st A) (kt : hp_J Y Z mk h tgt lv st B) : hp_J Y Z mk h pc lv (.ref y :: .ref x :: st) (if x = y then A else B) := by
  obtain ⟨p, l, e, s, m, args, below, meth, c, h0, E, fr, lo⟩ := Z
  by_cases hc : x = y
  · rw [if_pos hc]; exact hp_go (fun F _ _ _ _ _ _ ls h1 w => lv_acmp_ne (rx := some x) (ry := some y) F.1 F.2.1 hdg ht (fun q => absurd (by rw [hc]) q) (fun _ => w ls h1)) kf
  · rw [if_neg hc]; exact hp_go (fun F _ _ _ _ _ _ ls h1 w => lv_acmp_ne (rx := some x) (ry := some y) F.1 F.2.1 hdg ht (fun _ => w ls h1) (fun q => absurd (Option.some.inj q) hc)) kt
theorem hp_crVS {Y' : hp_Y} {β : Type} {mkc : β → Option Value} {index n : Nat} {rest : List Value} {y : MethodName} {As : List Value} {f : hp_H → Option (β × hp_H)} {b : Nat} (hM : hp_M Z.2.1 (hp_ZE Z) y Y' mkc (.ref b :: As) f) (hw : hp_cw Y.1 index y Y' n) (hs : Cond.instanceMethod y ∈ hp_T ∧ Cond.selects "java/lang/String" y y ∈ hp_T) (hroom : Y'.2.2.2.2.2.1 + 1 ≤ Y.2.2.2.2.2.1 ∧ 8 + (Y'.2.2.1 + 11) + Y'.2.2.2.2.2.2 ≤ Y.2.2.2.2.2.2) (hn : As.length = n) (hst : st = As.reverse ++ .ref b :: rest) (hcat : (rest.map fun v => v.category).sum ≤ 8) (hdg : decode Y.2.1 pc = .ok (.invokevirtual index, 3)) : hp_CR Y Z h pc st rest mkc (hp_sck (hp_G Z) b (f h)) := by
  obtain ⟨p, l, e, s, m, args, below, meth, c, h0, E, fr, lo⟩ := Z
  intro r1 h1 e1
  unfold hp_sck at e1
  split at e1
  · rename_i hb
    obtain ⟨i, hi, rfl⟩ := hp_s3 hb
    obtain ⟨m1, m2⟩ := hM h r1 h1 e1
    refine ⟨m1 (p, l, e, s, m, args, below, meth, c, h0, E, fr, lo), fun F R H locs ls cells slots hRf hRl hR hz hc hsl => ⟨(Value.ref (E.2.2.1 (5 + i)) :: As).toArray, ?_⟩⟩
    obtain ⟨w1, w2, w3, w4⟩ := hw
    obtain ⟨cell, v1, v2, v3, -⟩ := (hR.2.2.2.2.2.1 i hi).1
    exact va_runV (C := "java/lang/String") (b := E.2.2.1 (5 + i)) (As := As) (rest := rest) ⟨F.1, F.2.1, F.2.2.1, F.2.2.2.1, F.2.2.2.2.1⟩ m2 ⟨callB_of n F.2.2.2.2.1 (hp_goodIn w3) rfl rfl rfl (F.2.2.2.2.1 _ w2) (F.2.2.2.2.1 _ w1) w4 ⟨by rw [hRf, F.2.2.2.2.2.2.2.2.2.1]; exact hroom.1, by rw [hRl, F.2.2.2.2.2.2.2.2.2.2]; exact hroom.2⟩, F.2.2.2.2.1 _ hs.1, F.2.2.2.2.1 _ hs.2⟩ ⟨hp_blind, ⟨cell, v1, v2, v3⟩, fun U hU hW => ⟨rfl, by rw [hU]; exact hR.moved hW.alike, hp_Nwarm hW F.2.2.2.2.2.1⟩⟩ rfl hn (hz.trans F.2.2.1) hst (lv_room hcat) hdg ⟨hc, hsl⟩
  · cases e1
end HY
def hp_acw (own : String) (index : Nat) : Prop := Cond.methodLink own index arraycopyName ∈ hp_T ∧ Cond.native arraycopyName ∈ hp_T ∧ Cond.static arraycopyName ∈ hp_T ∧ Cond.initialized "java/lang/System" ∈ hp_T
theorem hp_nn (z : Int32) (hz : ¬ z < 0) : z.toInt = (z.toNatClampNeg : Int) := by
  have hz0 : (0 : Int) ≤ z.toInt := by
    have := Int32.not_lt.mp hz
    simpa using Int32.le_iff_toInt_le.mp this
  show z.toInt = ((z.toInt.toNat : Nat) : Int)
  omega
section HV
variable {Y : hp_Y} {Z : hp_Z} {α : Type} {mk : α → Option Value} {h : hp_H} {pc : Nat} {lv : List (Nat × Value)} {st : List Value} {X : Option (α × hp_H)}
theorem hp_acpB {src dst index : Nat} {sp dp n : Int32} {K : hp_H → Option (α × hp_H)} (hw : hp_acw Y.1 index) (hroom : 1 ≤ Y.2.2.2.2.2.1 ∧ 8 + (nativeFrameWords "java/lang/System" "arraycopy" 5 + 11) ≤ Y.2.2.2.2.2.2) (hcat : (st.map fun v => v.category).sum ≤ 8) (hdg : decode Y.2.1 pc = .ok (.invokestatic index, 3)) (kk : ∀ h1, hp_J Y Z mk h1 (pc + 3) lv st (K h1)) : hp_J Y Z mk h pc lv (.int n :: .int dp :: .ref dst :: .int sp :: .ref src :: st) ((hp_cpB h src sp dst dp n).bind K) := by
  obtain ⟨p, l, e, s, m, args, below, meth, c, h0, E, fr, lo⟩ := Z
  intro r h' hX
  obtain ⟨h1, e1, e2⟩ := Option.bind_eq_some_iff.mp hX
  unfold hp_cpB at e1
  split at e1
  · rename_i w0 t0 n0 f w1 t1 n1 g ho0 ho1
    split at e1
    · rename_i hc
      cases e1
      obtain ⟨rfl, rfl, rfl, g1, g2, g3, g4, g5, g6⟩ := hc
      obtain ⟨k1, k2⟩ := kk _ r h' e2
      refine ⟨k1, fun F a1 a2 H locs ls hR hL hl => ?_⟩
      obtain ⟨scr, q1, q2, q3, q4, q5, q6, q7⟩ := hR.2.2.1 src _ (hp_arr_some ho0)
      obtain ⟨cd, p1, p2, p3, p4, p5, p6, p7⟩ := hR.2.2.1 dst _ (hp_arr_some ho1)
      obtain ⟨hB, c1, rfl, hA, hA2⟩ := p7 rfl
      obtain ⟨hs6, kk0, hk0, cm0, hkk0⟩ := q2
      obtain ⟨-, kk1, hk1, cm1, hkk1⟩ := p2
      intro T hT X
      obtain ⟨vm', X', step⟩ := X.arraycopy F.1 F.2.2.2.1 (F.2.2.2.2.1 _ hw.1) (F.2.2.2.2.1 _ hw.2.1) (F.2.2.2.2.1 _ hw.2.2.1) (F.2.2.2.2.1 _ hw.2.2.2) (src := src) (dst := dst) (cs := scr) (cd := arrV c1 n1 (hp_av (.inl g))) (srcPos := sp) (destPos := dp) (n := n) (by rw [hT]; exact q1) (by rw [hT]; exact p1)
        hs6 (fun _ h => by cases h) q3 (fun h => by cases h) hk0 hk1 hkk0 hkk1 (by simp [refKind]) g1 g2 g3
        (by rw [hp_nn sp g1, hp_nn n g3]; omega)
        (by rw [hp_nn dp g2, hp_nn n g3, arrV_size]; omega)
        (fun vm₁ _ i hi => by
          have e : scr.slots.getD (sp.toNatClampNeg + i) .null = .int (f (sp.toNatClampNeg + i)) := by
            rw [Array.getD_eq_getD_getElem?, q6 _ (by omega)]
            rfl
          refine ⟨?_, ?_⟩
          · rw [e]
            exact g6 i hi
          · rw [e]
            exact trivial)
        (g := F0 m pc ls (.int n :: .int dp :: .ref dst :: .int sp :: .ref src :: st)) rfl hl.1 (rest := st) rfl (by rw [F.2.1]; exact hdg) (by show 1 ≤ fr; rw [F.2.2.2.2.2.2.2.2.2.1]; exact hroom.1) (by have := hroom.2; show 2 * 0 + _ + _ ≤ lo; rw [F.2.2.2.2.2.2.2.2.2.2]; omega)
      have e1 : copied scr (arrV c1 n1 (hp_av (.inl g))) sp dp n = arrV c1 n1 (hp_av (.inl (va_cpy f g sp.toNatClampNeg dp.toNatClampNeg n.toNatClampNeg))) := va_copiedX (fun z => .int z) scr c1 f g q6 g4
      rw [e1] at X' step
      have hlt : dst < H.size := (Array.getElem?_eq_some_iff.mp p1).1
      generalize hnew : arrV c1 n1 (hp_av (.inl (va_cpy f g sp.toNatClampNeg dp.toNatClampNeg n.toNatClampNeg))) = nc at X' step
      have hheap : ((T.setVm vm').setCell dst nc).heap = H.setIfInBounds dst nc := by rw [← hT]; rfl
      have oq : ∀ q : Nat, q ≠ dst → (H.setIfInBounds dst nc)[q]? = H[q]? := fun q hq => by simp [Array.getElem?_setIfInBounds, Ne.symm hq]
      have he : (H.setIfInBounds dst nc)[dst]? = some nc := by simp [Array.getElem?_setIfInBounds, hlt]
      obtain ⟨t, b1, b2⟩ := k2 F a1 a2 (H.setIfInBounds dst nc) _ ls (hR.put hB (hp_at.arr hB (by rw [hnew]; exact he) hA hA2) (by simp) oq) (fun q hq => by
        rcases List.mem_append.mp hq with h | h
        · exact hL q h
        · obtain ⟨z, -, hz⟩ := List.mem_map.mp h
          rw [← hz]
          exact hB) hl _ hheap X'
      exact ⟨t, step t b1, b2⟩
    · cases e1
  · cases e1
theorem hp_acpR {src dst index : Nat} {sp dp n : Int32} {K : hp_H → Option (α × hp_H)} (hw : hp_acw Y.1 index) (hca : Cond.castable "ExpressionDesk$Value" "java/lang/Object" ∈ hp_Nst) (hroom : 1 ≤ Y.2.2.2.2.2.1 ∧ 8 + (nativeFrameWords "java/lang/System" "arraycopy" 5 + 11) ≤ Y.2.2.2.2.2.2) (hcat : (st.map fun v => v.category).sum ≤ 8) (hdg : decode Y.2.1 pc = .ok (.invokestatic index, 3)) (kk : ∀ h1, hp_J Y Z mk h1 (pc + 3) lv st (K h1)) : hp_J Y Z mk h pc lv (.int n :: .int dp :: .ref dst :: .int sp :: .ref src :: st) ((hp_cpR h src sp dst dp n).bind K) := by
  obtain ⟨p, l, e, s, m, args, below, meth, c, h0, E, fr, lo⟩ := Z
  intro r h' hX
  obtain ⟨h1, e1, e2⟩ := Option.bind_eq_some_iff.mp hX
  unfold hp_cpR at e1
  split at e1
  · rename_i w0 t0 n0 f w1 t1 n1 g ho0 ho1
    split at e1
    · rename_i hc
      cases e1
      obtain ⟨rfl, rfl, rfl, g1, g2, g3, g4, g5, g6⟩ := hc
      obtain ⟨k1, k2⟩ := kk _ r h' e2
      refine ⟨k1, fun F a1 a2 H locs ls hR hL hl => ?_⟩
      obtain ⟨scr, q1, q2, q3, q4, q5, q6, q7⟩ := hR.2.2.1 src _ (hp_arr_some ho0)
      obtain ⟨cd, p1, p2, p3, p4, p5, p6, p7⟩ := hR.2.2.1 dst _ (hp_arr_some ho1)
      obtain ⟨hB, c1, rfl, hA, hA2⟩ := p7 rfl
      obtain ⟨hs6, kk0, hk0, cm0, hkk0⟩ := q2
      obtain ⟨-, kk1, hk1, cm1, hkk1⟩ := p2
      obtain ⟨kA, comp, r1, r2, r3, r4⟩ := hA2.2 _ rfl
      cases hk1.symm.trans r1
      cases hkk1.symm.trans r2
      intro T hT X
      obtain ⟨vm', X', step⟩ := X.arraycopy F.1 F.2.2.2.1 (F.2.2.2.2.1 _ hw.1) (F.2.2.2.2.1 _ hw.2.1) (F.2.2.2.2.1 _ hw.2.2.1) (F.2.2.2.2.1 _ hw.2.2.2) (src := src) (dst := dst) (cs := scr) (cd := arrV c1 n1 (hp_av (.inr (.inr g)))) (srcPos := sp) (destPos := dp) (n := n) (by rw [hT]; exact q1) (by rw [hT]; exact p1)
        hs6 (fun _ h => by cases h) q3 (fun h => by cases h) hk0 hk1 hkk0 hkk1 rfl g1 g2 g3
        (by rw [hp_nn sp g1, hp_nn n g3]; omega)
        (by rw [hp_nn dp g2, hp_nn n g3, arrV_size]; omega)
        (fun vm₁ hal i hi => by
          have e : scr.slots.getD (sp.toNatClampNeg + i) .null = va_rf (f (sp.toNatClampNeg + i)) := by
            rw [Array.getD_eq_getD_getElem?, q6 _ (by omega)]
            rfl
          rw [e]
          have gi := g6 i hi
          cases hy : f (sp.toNatClampNeg + i) with
          | none => exact ⟨rfl, trivial⟩
          | some y =>
            rw [hy] at gi
            obtain ⟨fs, hyV⟩ := hp_isV_some gi
            obtain ⟨cv, v1, v2, v3⟩ := hp_recv hR (ci := 3) rfl hyV
            obtain ⟨kC, hkC, -⟩ := Vm.findClass_spec v3
            obtain ⟨kE, hkE, -⟩ := Vm.findClass_spec r3
            obtain ⟨kC', hkC', -⟩ := hal.2.2 _ _ hkC
            obtain ⟨kE', hkE', -⟩ := hal.2.2 _ _ hkE
            refine ⟨rfl, cv, (show T.heap[y]? = some cv by rw [hT]; exact v1), (fun q h => by rw [h] at v2; cases v2), ⟨kC', hkC'⟩, ?_, ?_⟩
            · exact ⟨kE', hkE'⟩
            · show vm₁.assignable _ _ = true
              rw [hal.assignable]
              exact vb_asgC (F.2.2.2.2.2.1.1 _ hca) _ _ r3 v3)
        (g := F0 m pc ls (.int n :: .int dp :: .ref dst :: .int sp :: .ref src :: st)) rfl hl.1 (rest := st) rfl (by rw [F.2.1]; exact hdg) (by show 1 ≤ fr; rw [F.2.2.2.2.2.2.2.2.2.1]; exact hroom.1) (by have := hroom.2; show 2 * 0 + _ + _ ≤ lo; rw [F.2.2.2.2.2.2.2.2.2.2]; omega)
      have e1 : copied scr (arrV c1 n1 (hp_av (.inr (.inr g)))) sp dp n = arrV c1 n1 (hp_av (.inr (.inr (va_cpy f g sp.toNatClampNeg dp.toNatClampNeg n.toNatClampNeg)))) := va_copiedX (fun z => va_rf z) scr c1 f g q6 g4
      rw [e1] at X' step
      have hlt : dst < H.size := (Array.getElem?_eq_some_iff.mp p1).1
      generalize hnew : arrV c1 n1 (hp_av (.inr (.inr (va_cpy f g sp.toNatClampNeg dp.toNatClampNeg n.toNatClampNeg)))) = nc at X' step
      have hheap : ((T.setVm vm').setCell dst nc).heap = H.setIfInBounds dst nc := by rw [← hT]; rfl
      have oq : ∀ q : Nat, q ≠ dst → (H.setIfInBounds dst nc)[q]? = H[q]? := fun q hq => by simp [Array.getElem?_setIfInBounds, Ne.symm hq]
      have he : (H.setIfInBounds dst nc)[dst]? = some nc := by simp [Array.getElem?_setIfInBounds, hlt]
      obtain ⟨t, b1, b2⟩ := k2 F a1 a2 (H.setIfInBounds dst nc) _ ls (hR.put hB (hp_at.arr hB (by rw [hnew]; exact he) hA hA2) (by simp) oq) (fun q hq => by
        rcases List.mem_append.mp hq with h | h
        · exact hL q h
        · obtain ⟨z, -, hz⟩ := List.mem_map.mp h
          rw [← hz]
          exact hB) hl _ hheap X'
      exact ⟨t, step t b1, b2⟩
    · cases e1
  · cases e1
def hp_clw (own : String) (index : Nat) : Prop := Cond.methodLink own index ⟨"[B", "clone", "()Ljava/lang/Object;"⟩ ∈ hp_T ∧ Cond.sameMethod "[B" "java/lang/Object" "clone" "()Ljava/lang/Object;" ∈ hp_T ∧ Cond.native ⟨"java/lang/Object", "clone", "()Ljava/lang/Object;"⟩ ∈ hp_T ∧ Cond.instanceMethod ⟨"java/lang/Object", "clone", "()Ljava/lang/Object;"⟩ ∈ hp_T ∧ Cond.selects "[B" ⟨"[B", "clone", "()Ljava/lang/Object;"⟩ ⟨"java/lang/Object", "clone", "()Ljava/lang/Object;"⟩ ∈ hp_T ∧ Cond.castable "[B" "java/lang/Cloneable" ∈ hp_Nst
theorem hp_clone {a index : Nat} {K : Nat → hp_H → Option (α × hp_H)} (hw : hp_clw Y.1 index) (hroom : 1 ≤ Y.2.2.2.2.2.1 ∧ 22 ≤ Y.2.2.2.2.2.2) (hcat : (st.map fun v => v.category).sum ≤ 8) (hdg : decode Y.2.1 pc = .ok (.invokevirtual index, 3)) (kk : ∀ b h1, hp_J Y Z mk h1 (pc + 3) lv (.ref b :: st) (K b h1)) : hp_J Y Z mk h pc lv (.ref a :: st) (hp_clK h a K) := by
  obtain ⟨p, l, e, s, m, args, below, meth, c, h0, E, fr, lo⟩ := Z
  intro r h' hX
  unfold hp_clK at hX
  split at hX
  · rename_i w t n f ho
    split at hX
    · rename_i hc
      obtain ⟨rfl, rfl, hfit⟩ := hc
      obtain ⟨k1, k2⟩ := kk h.2.1 (hp_newa h .byte n (.inl f)) r h' hX
      have k1a : h.2.1 + 1 ≤ h'.2.1 := k1.1
      have k1b : h.2.2 + n ≤ h'.2.2 := k1.2
      refine ⟨⟨Nat.le_of_succ_le k1a, Nat.le_trans (Nat.le_add_right _ _) k1b⟩, fun F a1 a2 H locs ls hR hL hl => ?_⟩
      obtain ⟨cell, q1, q2, q3, q4, q5, q6, q7⟩ := hR.2.2.1 a _ (hp_arr_some ho)
      obtain ⟨hB, cA, rfl, hA, hA2⟩ := q7 rfl
      have hnm : s.vm.findClass "[B" = some cA := hA2.1
      obtain ⟨c0, t0', f1, f2, f3⟩ := Cond.castable_spec (va_Nw.use (A := args) rfl (F.2.2.2.2.2.1.1 _ hw.2.2.2.2.2))
      cases hnm.symm.trans f1
      intro T hT X
      obtain ⟨-, kA, hkA, comp, hkind⟩ := State.isArrayOf_alike X.warmed.alike (hA 0 (fun _ => .null))
      obtain ⟨-, kS, hkS, compS, hkindS⟩ := hA 0 (fun _ => .null)
      obtain ⟨vm', X', stp⟩ := X.cloneArray F.1 F.2.2.2.1 (F.2.2.2.2.1 _ hw.1) (F.2.2.2.2.1 _ hw.2.1) (F.2.2.2.2.1 _ hw.2.2.1) (F.2.2.2.2.1 _ hw.2.2.2.1) (F.2.2.2.2.1 _ hw.2.2.2.2.1) (a := a) (cell := arrV cA n (hp_av (.inl f))) (by rw [hT]; exact q1) (fun k h => by cases h) (fun h => by cases h) hnm f2 f3
        (fun i v hv => by
          have hk' : T.vm.classes[cA]? = some kA := hkA
          have hv2 : fits .byte v = true := va_fit (ty := .byte) (fun i hi => hfit i hi) i v hv
          simpa [State.fitsSlot, State.slotType?, hk', hkind, arrV] using hv2)
        (g := F0 m pc ls (.ref a :: st)) rfl hl.1 rfl (by rw [F.2.1]; exact hdg) (by show 1 ≤ fr; rw [F.2.2.2.2.2.2.2.2.2.1]; exact hroom.1) (by have := hroom.2; show 2 * 0 + _ + 14 ≤ lo; rw [F.2.2.2.2.2.2.2.2.2.2]; omega) (show h.2.1 - h0.2.1 + 1 ≤ h'.2.1 - h0.2.1 by omega) (by rw [arrV_size]; show h.2.2 - h0.2.2 + n ≤ h'.2.2 - h0.2.2; omega) (hloader := Vm.clonesLoader_of_array hkS hkindS)
      have hcE : ({ cls := (arrV cA n (hp_av (.inl f))).cls, slots := (arrV cA n (hp_av (.inl f))).slots } : Cell) = arrV cA n (hp_av (.inl f)) := rfl
      rw [hcE, arrV_size] at X'
      generalize hH1 : H.push (arrV cA n (hp_av (.inl f))) = H1
      have z1 : H1.size = h.2.1 + 1 := by rw [← hH1, Array.size_push, hR.1]
      have e1 : H1[h.2.1]? = some (arrV cA n (hp_av (.inl f))) := by rw [← hH1, ← hR.1, Array.getElem?_push_size]
      have o1 : ∀ q : Nat, q < h.2.1 → H1[q]? = H[q]? := fun q hq => by rw [← hH1, Array.getElem?_push, if_neg (by rw [hR.1]; exact Nat.ne_of_lt hq)]
      have hR1 : hp_R E s H1 (hp_newa h .byte n (.inl f)) := hR.push n (hp_at.arr hR.2.1 e1 hA hA2) z1 o1
      have K2 := k2 F (Nat.le_trans a1 (Nat.le_succ _)) (Nat.le_trans a2 (Nat.le_add_right _ _)) H1 locs ls hR1 hL hl
      have c1 : (hp_newa h .byte n (.inl f)).2.1 - h0.2.1 = h.2.1 - h0.2.1 + 1 := by show h.2.1 + 1 - h0.2.1 = _; omega
      have c2 : (hp_newa h .byte n (.inl f)).2.2 - h0.2.2 = h.2.2 - h0.2.2 + n := by show h.2.2 + n - h0.2.2 = _; omega
      rw [c1, c2] at K2
      obtain ⟨t, b1, b2⟩ := K2 ((T.setVm vm').pushCell (arrV cA n (hp_av (.inl f)))) (by rw [← hH1, ← hT]; rfl) X'
      refine ⟨t, stp t ?_, b2⟩
      rw [hcE, hT, hR.1]
      exact b1
    · cases hX
  · cases hX
theorem hp_castB {a index : Nat} (hw : Cond.classLink Y.1 index "[B" ∈ hp_T) (hdg : decode Y.2.1 pc = .ok (.checkcast index, 3)) (kk : hp_J Y Z mk h (pc + 3) lv (.ref a :: st) X) : hp_J Y Z mk h pc lv (.ref a :: st) (hp_bck h a X) := by
  obtain ⟨p, l, e, s, m, args, below, meth, c, h0, E, fr, lo⟩ := Z
  intro r h' hX
  unfold hp_bck at hX
  split at hX
  · rename_i w t n f ho
    split at hX
    · rename_i hc
      obtain ⟨rfl, rfl⟩ := hc
      obtain ⟨k1, k2⟩ := kk r h' hX
      refine ⟨k1, fun F a1 a2 H locs ls hR hL hl => ?_⟩
      obtain ⟨cell, q1, q2, q3, q4, q5, q6, q7⟩ := hR.2.2.1 a _ (hp_arr_some ho)
      obtain ⟨hB, cA, rfl, hA, hA2⟩ := q7 rfl
      exact va_castE F.1 F.2.1 F.2.2.2.1 (F.2.2.2.2.1 _ hw) ⟨_, q1, rfl, hA2.1⟩ hdg (k2 F a1 a2 H locs ls hR hL hl)
    · cases hX
  · cases hX
end HV
end
section
abbrev y_D_init : MethodName := ⟨"ExpressionDesk", "<init>", "()V"⟩
abbrev Y_D_init : hp_Y := ("ExpressionDesk", prog_1_method_1_code, 1, (Option.none : Option Jvm.ClassFile.FieldType), "<init>", 5, 100)
abbrev y_S_init : MethodName := ⟨"ExpressionDesk$Store", "<init>", "()V"⟩
abbrev Y_S_init : hp_Y := ("ExpressionDesk$Store", prog_6_method_1_code, 1, (Option.none : Option Jvm.ClassFile.FieldType), "<init>", 4, 80)
abbrev y_AL_init : MethodName := ⟨"java/util/ArrayList", "<init>", "()V"⟩
abbrev Y_AL_init : hp_Y := ("java/util/ArrayList", prog_22_method_2_code, 1, (Option.none : Option Jvm.ClassFile.FieldType), "<init>", 3, 60)
abbrev y_AB_init : MethodName := ⟨"java/util/AbstractList", "<init>", "()V"⟩
abbrev Y_AB_init : hp_Y := ("java/util/AbstractList", prog_21_method_1_code, 1, (Option.none : Option Jvm.ClassFile.FieldType), "<init>", 2, 40)
abbrev y_AC_init : MethodName := ⟨"java/util/AbstractCollection", "<init>", "()V"⟩
abbrev Y_AC_init : hp_Y := ("java/util/AbstractCollection", prog_20_method_1_code, 1, (Option.none : Option Jvm.ClassFile.FieldType), "<init>", 1, 20)
abbrev y_V_init : MethodName := ⟨"ExpressionDesk$Value", "<init>", "(IIJI[BI)V"⟩
abbrev Y_V_init : hp_Y := ("ExpressionDesk$Value", prog_7_method_1_code, 8, (Option.none : Option Jvm.ClassFile.FieldType), "<init>", 1, 20)
abbrev y_R_init : MethodName := ⟨"ExpressionDesk$Row", "<init>", "()V"⟩
abbrev Y_R_init : hp_Y := ("ExpressionDesk$Row", prog_5_method_1_code, 1, (Option.none : Option Jvm.ClassFile.FieldType), "<init>", 1, 20)
abbrev y_E_init : MethodName := ⟨"ExpressionDesk$Expression", "<init>", "(LExpressionDesk$Store;)V"⟩
abbrev Y_E_init : hp_Y := ("ExpressionDesk$Expression", prog_2_method_1_code, 2, (Option.none : Option Jvm.ClassFile.FieldType), "<init>", 2, 40)
abbrev y_K_init : MethodName := ⟨"ExpressionDesk$Reckoner", "<init>", "()V"⟩
abbrev Y_K_init : hp_Y := ("ExpressionDesk$Reckoner", prog_4_method_1_code, 1, (Option.none : Option Jvm.ClassFile.FieldType), "<init>", 1, 20)
abbrev y_G_init : MethodName := ⟨"ExpressionDesk$Gathering", "<init>", "(LExpressionDesk$Store;)V"⟩
abbrev Y_G_init : hp_Y := ("ExpressionDesk$Gathering", prog_3_method_1_code, 2, (Option.none : Option Jvm.ClassFile.FieldType), "<init>", 2, 40)
abbrev y_D_type : MethodName := ⟨"ExpressionDesk", "type", "(JI)I"⟩
abbrev Y_D_type : hp_Y := ("ExpressionDesk", prog_1_method_2_code, 5, (Option.some Jvm.ClassFile.FieldType.int), "type", 1, 21)
abbrev y_R_put : MethodName := ⟨"ExpressionDesk$Row", "put", "(I)V"⟩
abbrev Y_R_put : hp_Y := ("ExpressionDesk$Row", prog_5_method_3_code, 2, (Option.none : Option Jvm.ClassFile.FieldType), "put", 0, 0)
abbrev y_D_whole : MethodName := ⟨"ExpressionDesk", "whole", "(J)I"⟩
abbrev Y_D_whole : hp_Y := ("ExpressionDesk", prog_1_method_3_code, 3, (Option.some Jvm.ClassFile.FieldType.int), "whole", 6, 141)
abbrev y_D_isInSize : MethodName := ⟨"ExpressionDesk", "isInSize", "(J)Z"⟩
abbrev Y_D_isInSize : hp_Y := ("ExpressionDesk", prog_1_method_21_code, 2, (Option.some Jvm.ClassFile.FieldType.boolean), "isInSize", 0, 0)
abbrev y_S_keepNumber : MethodName := ⟨"ExpressionDesk$Store", "keepNumber", "(IJI)I"⟩
abbrev Y_S_keepNumber : hp_Y := ("ExpressionDesk$Store", prog_6_method_5_code, 5, (Option.some Jvm.ClassFile.FieldType.int), "keepNumber", 5, 117)
abbrev y_S_keep : MethodName := ⟨"ExpressionDesk$Store", "keep", "(IIJILExpressionDesk$Row;)I"⟩
abbrev Y_S_keep : hp_Y := ("ExpressionDesk$Store", prog_6_method_9_code, 11, (Option.some Jvm.ClassFile.FieldType.int), "keep", 4, 87)
abbrev y_S_chainOf : MethodName := ⟨"ExpressionDesk$Store", "chainOf", "(IIJILExpressionDesk$Row;)I"⟩
abbrev Y_S_chainOf : hp_Y := ("ExpressionDesk$Store", prog_6_method_10_code, 9, (Option.some Jvm.ClassFile.FieldType.int), "chainOf", 0, 0)
abbrev y_AL_size : MethodName := ⟨"java/util/ArrayList", "size", "()I"⟩
abbrev Y_AL_size : hp_Y := ("java/util/ArrayList", prog_22_method_8_code, 1, (Option.some Jvm.ClassFile.FieldType.int), "size", 0, 0)
abbrev y_AL_get : MethodName := ⟨"java/util/ArrayList", "get", "(I)Ljava/lang/Object;"⟩
abbrev Y_AL_get : hp_Y := ("java/util/ArrayList", prog_22_method_20_code, 2, (Option.some (Jvm.ClassFile.FieldType.object "java/lang/Object")), "get", 1, 21)
abbrev y_OB_checkIndex : MethodName := ⟨"java/util/Objects", "checkIndex", "(II)I"⟩
abbrev Y_OB_checkIndex : hp_Y := ("java/util/Objects", prog_26_method_17_code, 2, (Option.some Jvm.ClassFile.FieldType.int), "checkIndex", 0, 0)
abbrev y_PR_checkIndex : MethodName := ⟨"jdk/internal/util/Preconditions", "checkIndex", "(IILjava/util/function/BiFunction;)I"⟩
abbrev Y_PR_checkIndex : hp_Y := ("jdk/internal/util/Preconditions", prog_30_method_11_code, 3, (Option.some Jvm.ClassFile.FieldType.int), "checkIndex", 0, 0)
abbrev y_AL_elementData : MethodName := ⟨"java/util/ArrayList", "elementData", "(I)Ljava/lang/Object;"⟩
abbrev Y_AL_elementData : hp_Y := ("java/util/ArrayList", prog_22_method_18_code, 2, (Option.some (Jvm.ClassFile.FieldType.object "java/lang/Object")), "elementData", 0, 0)
abbrev y_R_holds : MethodName := ⟨"ExpressionDesk$Row", "holds", "([B)Z"⟩
abbrev Y_R_holds : hp_Y := ("ExpressionDesk$Row", prog_5_method_9_code, 3, (Option.some Jvm.ClassFile.FieldType.boolean), "holds", 0, 0)
abbrev y_AR_copyOf : MethodName := ⟨"java/util/Arrays", "copyOf", "([BI)[B"⟩
abbrev Y_AR_copyOf : hp_Y := ("java/util/Arrays", prog_23_method_121_code, 3, (Option.some (Jvm.ClassFile.FieldType.array Jvm.ClassFile.FieldType.byte)), "copyOf", 1, 40)
abbrev y_MA_min : MethodName := ⟨"java/lang/Math", "min", "(II)I"⟩
abbrev Y_MA_min : hp_Y := ("java/lang/Math", prog_15_method_69_code, 2, (Option.some Jvm.ClassFile.FieldType.int), "min", 0, 0)
abbrev y_AL_add : MethodName := ⟨"java/util/ArrayList", "add", "(Ljava/lang/Object;)Z"⟩
abbrev Y_AL_add : hp_Y := ("java/util/ArrayList", prog_22_method_25_code, 2, (Option.some Jvm.ClassFile.FieldType.boolean), "add", 3, 66)
abbrev y_AL_add2 : MethodName := ⟨"java/util/ArrayList", "add", "(Ljava/lang/Object;[Ljava/lang/Object;I)V"⟩
abbrev Y_AL_add2 : hp_Y := ("java/util/ArrayList", prog_22_method_24_code, 4, (Option.none : Option Jvm.ClassFile.FieldType), "add", 2, 43)
abbrev y_AL_grow : MethodName := ⟨"java/util/ArrayList", "grow", "()[Ljava/lang/Object;"⟩
abbrev Y_AL_grow : hp_Y := ("java/util/ArrayList", prog_22_method_7_code, 1, (Option.some (Jvm.ClassFile.FieldType.array (Jvm.ClassFile.FieldType.object "java/lang/Object"))), "grow", 1, 23)
abbrev y_AL_grow2 : MethodName := ⟨"java/util/ArrayList", "grow", "(I)[Ljava/lang/Object;"⟩
abbrev Y_AL_grow2 : hp_Y := ("java/util/ArrayList", prog_22_method_6_code, 4, (Option.some (Jvm.ClassFile.FieldType.array (Jvm.ClassFile.FieldType.object "java/lang/Object"))), "grow", 0, 0)
abbrev y_AS_newLength : MethodName := ⟨"jdk/internal/util/ArraysSupport", "newLength", "(III)I"⟩
abbrev Y_AS_newLength : hp_Y := ("jdk/internal/util/ArraysSupport", prog_29_method_27_code, 4, (Option.some Jvm.ClassFile.FieldType.int), "newLength", 2, 42)
abbrev y_MA_max : MethodName := ⟨"java/lang/Math", "max", "(II)I"⟩
abbrev Y_MA_max : hp_Y := ("java/lang/Math", prog_15_method_65_code, 2, (Option.some Jvm.ClassFile.FieldType.int), "max", 0, 0)
abbrev y_AS_hugeLength : MethodName := ⟨"jdk/internal/util/ArraysSupport", "hugeLength", "(II)I"⟩
abbrev Y_AS_hugeLength : hp_Y := ("jdk/internal/util/ArraysSupport", prog_29_method_28_code, 3, (Option.some Jvm.ClassFile.FieldType.int), "hugeLength", 1, 20)
abbrev y_AR_copyOf2 : MethodName := ⟨"java/util/Arrays", "copyOf", "([Ljava/lang/Object;I)[Ljava/lang/Object;"⟩
abbrev Y_AR_copyOf2 : hp_Y := ("java/util/Arrays", prog_23_method_119_code, 2, (Option.some (Jvm.ClassFile.FieldType.array (Jvm.ClassFile.FieldType.object "java/lang/Object"))), "copyOf", 0, 0)
abbrev y_AR_copyOf3 : MethodName := ⟨"java/util/Arrays", "copyOf", "([Ljava/lang/Object;ILjava/lang/Class;)[Ljava/lang/Object;"⟩
abbrev Y_AR_copyOf3 : hp_Y := ("java/util/Arrays", prog_23_method_120_code, 4, (Option.some (Jvm.ClassFile.FieldType.array (Jvm.ClassFile.FieldType.object "java/lang/Object"))), "copyOf", 1, 40)
abbrev y_D_decimal : MethodName := ⟨"ExpressionDesk", "decimal", "(JI)I"⟩
abbrev Y_D_decimal : hp_Y := ("ExpressionDesk", prog_1_method_4_code, 7, (Option.some Jvm.ClassFile.FieldType.int), "decimal", 6, 141)
abbrev y_D_truth : MethodName := ⟨"ExpressionDesk", "truth", "(Z)I"⟩
abbrev Y_D_truth : hp_Y := ("ExpressionDesk", prog_1_method_5_code, 2, (Option.some Jvm.ClassFile.FieldType.int), "truth", 6, 138)
abbrev y_S_keepTruth : MethodName := ⟨"ExpressionDesk$Store", "keepTruth", "(Z)I"⟩
abbrev Y_S_keepTruth : hp_Y := ("ExpressionDesk$Store", prog_6_method_6_code, 2, (Option.some Jvm.ClassFile.FieldType.int), "keepTruth", 5, 117)
abbrev y_D_named : MethodName := ⟨"ExpressionDesk", "named", "(II)I"⟩
abbrev Y_D_named : hp_Y := ("ExpressionDesk", prog_1_method_6_code, 3, (Option.some Jvm.ClassFile.FieldType.int), "named", 6, 139)
abbrev y_S_keepNumbered : MethodName := ⟨"ExpressionDesk$Store", "keepNumbered", "(II)I"⟩
abbrev Y_S_keepNumbered : hp_Y := ("ExpressionDesk$Store", prog_6_method_4_code, 3, (Option.some Jvm.ClassFile.FieldType.int), "keepNumbered", 5, 117)
abbrev y_D_text : MethodName := ⟨"ExpressionDesk", "text", "(II)I"⟩
abbrev Y_D_text : hp_Y := ("ExpressionDesk", prog_1_method_7_code, 5, (Option.some Jvm.ClassFile.FieldType.int), "text", 6, 140)
abbrev y_D_isTextKind : MethodName := ⟨"ExpressionDesk", "isTextKind", "(II)Z"⟩
abbrev Y_D_isTextKind : hp_Y := ("ExpressionDesk", prog_1_method_22_code, 2, (Option.some Jvm.ClassFile.FieldType.boolean), "isTextKind", 0, 0)
abbrev y_R_isText : MethodName := ⟨"ExpressionDesk$Row", "isText", "()Z"⟩
abbrev Y_R_isText : hp_Y := ("ExpressionDesk$Row", prog_5_method_8_code, 2, (Option.some Jvm.ClassFile.FieldType.boolean), "isText", 0, 0)
abbrev y_S_keepRow : MethodName := ⟨"ExpressionDesk$Store", "keepRow", "(IILExpressionDesk$Row;)I"⟩
abbrev Y_S_keepRow : hp_Y := ("ExpressionDesk$Store", prog_6_method_7_code, 4, (Option.some Jvm.ClassFile.FieldType.int), "keepRow", 5, 117)
abbrev y_R_clear : MethodName := ⟨"ExpressionDesk$Row", "clear", "()V"⟩
abbrev Y_R_clear : hp_Y := ("ExpressionDesk$Row", prog_5_method_2_code, 1, (Option.none : Option Jvm.ClassFile.FieldType), "clear", 0, 0)
abbrev y_D_told : MethodName := ⟨"ExpressionDesk", "told", "(II)I"⟩
abbrev Y_D_told : hp_Y := ("ExpressionDesk", prog_1_method_8_code, 4, (Option.some Jvm.ClassFile.FieldType.int), "told", 3, 63)
abbrev y_S_at : MethodName := ⟨"ExpressionDesk$Store", "at", "(I)LExpressionDesk$Value;"⟩
abbrev Y_S_at : hp_Y := ("ExpressionDesk$Store", prog_6_method_3_code, 2, (Option.some (Jvm.ClassFile.FieldType.object "ExpressionDesk$Value")), "at", 2, 42)
abbrev y_D_amount : MethodName := ⟨"ExpressionDesk", "amount", "(I)J"⟩
abbrev Y_D_amount : hp_Y := ("ExpressionDesk", prog_1_method_9_code, 2, (Option.some Jvm.ClassFile.FieldType.long), "amount", 3, 63)
abbrev y_D_byteOf : MethodName := ⟨"ExpressionDesk", "byteOf", "(II)I"⟩
abbrev Y_D_byteOf : hp_Y := ("ExpressionDesk", prog_1_method_10_code, 4, (Option.some Jvm.ClassFile.FieldType.int), "byteOf", 3, 63)
abbrev y_D_values : MethodName := ⟨"ExpressionDesk", "values", "()I"⟩
abbrev Y_D_values : hp_Y := ("ExpressionDesk", prog_1_method_11_code, 1, (Option.some Jvm.ClassFile.FieldType.int), "values", 2, 40)
abbrev y_S_count : MethodName := ⟨"ExpressionDesk$Store", "count", "()I"⟩
abbrev Y_S_count : hp_Y := ("ExpressionDesk$Store", prog_6_method_2_code, 1, (Option.some Jvm.ClassFile.FieldType.int), "count", 1, 20)
abbrev y_D_order : MethodName := ⟨"ExpressionDesk", "order", "(II)I"⟩
abbrev Y_D_order : hp_Y := ("ExpressionDesk", prog_1_method_12_code, 5, (Option.some Jvm.ClassFile.FieldType.int), "order", 4, 91)
abbrev y_V_comparedTo : MethodName := ⟨"ExpressionDesk$Value", "comparedTo", "(LExpressionDesk$Value;)I"⟩
abbrev Y_V_comparedTo : hp_Y := ("ExpressionDesk$Value", prog_7_method_5_code, 3, (Option.some Jvm.ClassFile.FieldType.int), "comparedTo", 3, 69)
abbrev y_V_isNumber : MethodName := ⟨"ExpressionDesk$Value", "isNumber", "()Z"⟩
abbrev Y_V_isNumber : hp_Y := ("ExpressionDesk$Value", prog_7_method_2_code, 1, (Option.some Jvm.ClassFile.FieldType.boolean), "isNumber", 0, 0)
abbrev y_V_comparedByAmount : MethodName := ⟨"ExpressionDesk$Value", "comparedByAmount", "(LExpressionDesk$Value;)I"⟩
abbrev Y_V_comparedByAmount : hp_Y := ("ExpressionDesk$Value", prog_7_method_6_code, 3, (Option.some Jvm.ClassFile.FieldType.int), "comparedByAmount", 2, 47)
abbrev y_D_power : MethodName := ⟨"ExpressionDesk", "power", "(I)J"⟩
abbrev Y_D_power : hp_Y := ("ExpressionDesk", prog_1_method_23_code, 1, (Option.some Jvm.ClassFile.FieldType.long), "power", 0, 0)
abbrev y_MA_floorDiv : MethodName := ⟨"java/lang/Math", "floorDiv", "(JJ)J"⟩
abbrev Y_MA_floorDiv : hp_Y := ("java/lang/Math", prog_15_method_49_code, 6, (Option.some Jvm.ClassFile.FieldType.long), "floorDiv", 0, 0)
abbrev y_LO_compare : MethodName := ⟨"java/lang/Long", "compare", "(JJ)I"⟩
abbrev Y_LO_compare : hp_Y := ("java/lang/Long", prog_14_method_42_code, 4, (Option.some Jvm.ClassFile.FieldType.int), "compare", 0, 0)
abbrev y_D_billionths : MethodName := ⟨"ExpressionDesk", "billionths", "(JI)J"⟩
abbrev Y_D_billionths : hp_Y := ("ExpressionDesk", prog_1_method_24_code, 3, (Option.some Jvm.ClassFile.FieldType.long), "billionths", 1, 25)
abbrev y_MA_floorMod : MethodName := ⟨"java/lang/Math", "floorMod", "(JJ)J"⟩
abbrev Y_MA_floorMod : hp_Y := ("java/lang/Math", prog_15_method_52_code, 6, (Option.some Jvm.ClassFile.FieldType.long), "floorMod", 0, 0)
abbrev y_IN_compare : MethodName := ⟨"java/lang/Integer", "compare", "(II)I"⟩
abbrev Y_IN_compare : hp_Y := ("java/lang/Integer", prog_12_method_40_code, 2, (Option.some Jvm.ClassFile.FieldType.int), "compare", 0, 0)
abbrev y_V_comparedByBytes : MethodName := ⟨"ExpressionDesk$Value", "comparedByBytes", "(LExpressionDesk$Value;)I"⟩
abbrev Y_V_comparedByBytes : hp_Y := ("ExpressionDesk$Value", prog_7_method_7_code, 3, (Option.some Jvm.ClassFile.FieldType.int), "comparedByBytes", 1, 21)
abbrev y_D_word : MethodName := ⟨"ExpressionDesk", "word", "(II)I"⟩
abbrev Y_D_word : hp_Y := ("ExpressionDesk", prog_1_method_13_code, 3, (Option.some Jvm.ClassFile.FieldType.int), "word", 2, 43)
abbrev y_E_append : MethodName := ⟨"ExpressionDesk$Expression", "append", "(II)I"⟩
abbrev Y_E_append : hp_Y := ("ExpressionDesk$Expression", prog_2_method_2_code, 4, (Option.some Jvm.ClassFile.FieldType.int), "append", 1, 20)
abbrev y_E_takesMany : MethodName := ⟨"ExpressionDesk$Expression", "takesMany", "(I)Z"⟩
abbrev Y_E_takesMany : hp_Y := ("ExpressionDesk$Expression", prog_2_method_8_code, 1, (Option.some Jvm.ClassFile.FieldType.boolean), "takesMany", 0, 0)
abbrev y_D_begin : MethodName := ⟨"ExpressionDesk", "begin", "()I"⟩
abbrev Y_D_begin : hp_Y := ("ExpressionDesk", prog_1_method_14_code, 1, (Option.some Jvm.ClassFile.FieldType.int), "begin", 1, 21)
abbrev y_E_restart : MethodName := ⟨"ExpressionDesk$Expression", "restart", "()I"⟩
abbrev Y_E_restart : hp_Y := ("ExpressionDesk$Expression", prog_2_method_3_code, 2, (Option.some Jvm.ClassFile.FieldType.int), "restart", 0, 0)
abbrev y_D_bind : MethodName := ⟨"ExpressionDesk", "bind", "(II)Z"⟩
abbrev Y_D_bind : hp_Y := ("ExpressionDesk", prog_1_method_15_code, 3, (Option.some Jvm.ClassFile.FieldType.boolean), "bind", 3, 62)
abbrev y_E_let : MethodName := ⟨"ExpressionDesk$Expression", "let", "(II)Z"⟩
abbrev Y_E_let : hp_Y := ("ExpressionDesk$Expression", prog_2_method_4_code, 3, (Option.some Jvm.ClassFile.FieldType.boolean), "let", 2, 40)
abbrev y_D_run : MethodName := ⟨"ExpressionDesk", "run", "()I"⟩
abbrev Y_D_run : hp_Y := ("ExpressionDesk", prog_1_method_16_code, 1, (Option.some Jvm.ClassFile.FieldType.int), "run", 10, 235)
abbrev y_E_evaluate : MethodName := ⟨"ExpressionDesk$Expression", "evaluate", "()I"⟩
abbrev Y_E_evaluate : hp_Y := ("ExpressionDesk$Expression", prog_2_method_5_code, 4, (Option.some Jvm.ClassFile.FieldType.int), "evaluate", 9, 212)
abbrev y_E_isRight : MethodName := ⟨"ExpressionDesk$Expression", "isRight", "()Z"⟩
abbrev Y_E_isRight : hp_Y := ("ExpressionDesk$Expression", prog_2_method_6_code, 3, (Option.some Jvm.ClassFile.FieldType.boolean), "isRight", 2, 41)
abbrev y_E_takenBy : MethodName := ⟨"ExpressionDesk$Expression", "takenBy", "(II)I"⟩
abbrev Y_E_takenBy : hp_Y := ("ExpressionDesk$Expression", prog_2_method_7_code, 2, (Option.some Jvm.ClassFile.FieldType.int), "takenBy", 1, 20)
abbrev y_E_bearsErrors : MethodName := ⟨"ExpressionDesk$Expression", "bearsErrors", "(I)Z"⟩
abbrev Y_E_bearsErrors : hp_Y := ("ExpressionDesk$Expression", prog_2_method_9_code, 1, (Option.some Jvm.ClassFile.FieldType.boolean), "bearsErrors", 0, 0)
abbrev y_E_performWithErrors : MethodName := ⟨"ExpressionDesk$Expression", "performWithErrors", "(II)I"⟩
abbrev Y_E_performWithErrors : hp_Y := ("ExpressionDesk$Expression", prog_2_method_13_code, 3, (Option.some Jvm.ClassFile.FieldType.int), "performWithErrors", 7, 162)
abbrev y_E_boundTo : MethodName := ⟨"ExpressionDesk$Expression", "boundTo", "(I)I"⟩
abbrev Y_E_boundTo : hp_Y := ("ExpressionDesk$Expression", prog_2_method_15_code, 2, (Option.some Jvm.ClassFile.FieldType.int), "boundTo", 0, 0)
abbrev y_E_decidedBy : MethodName := ⟨"ExpressionDesk$Expression", "decidedBy", "(I)I"⟩
abbrev Y_E_decidedBy : hp_Y := ("ExpressionDesk$Expression", prog_2_method_17_code, 4, (Option.some Jvm.ClassFile.FieldType.int), "decidedBy", 6, 138)
abbrev y_E_taken : MethodName := ⟨"ExpressionDesk$Expression", "taken", "(I)LExpressionDesk$Value;"⟩
abbrev Y_E_taken : hp_Y := ("ExpressionDesk$Expression", prog_2_method_11_code, 2, (Option.some (Jvm.ClassFile.FieldType.object "ExpressionDesk$Value")), "taken", 3, 63)
abbrev y_E_numberTaken : MethodName := ⟨"ExpressionDesk$Expression", "numberTaken", "(I)I"⟩
abbrev Y_E_numberTaken : hp_Y := ("ExpressionDesk$Expression", prog_2_method_10_code, 3, (Option.some Jvm.ClassFile.FieldType.int), "numberTaken", 0, 0)
abbrev y_V_truthOf : MethodName := ⟨"ExpressionDesk$Value", "truthOf", "()I"⟩
abbrev Y_V_truthOf : hp_Y := ("ExpressionDesk$Value", prog_7_method_4_code, 1, (Option.some Jvm.ClassFile.FieldType.int), "truthOf", 1, 20)
abbrev y_E_chosen : MethodName := ⟨"ExpressionDesk$Expression", "chosen", "()I"⟩
abbrev Y_E_chosen : hp_Y := ("ExpressionDesk$Expression", prog_2_method_18_code, 2, (Option.some Jvm.ClassFile.FieldType.int), "chosen", 4, 84)
abbrev y_E_firstGood : MethodName := ⟨"ExpressionDesk$Expression", "firstGood", "(I)I"⟩
abbrev Y_E_firstGood : hp_Y := ("ExpressionDesk$Expression", prog_2_method_19_code, 3, (Option.some Jvm.ClassFile.FieldType.int), "firstGood", 4, 84)
abbrev y_E_among : MethodName := ⟨"ExpressionDesk$Expression", "among", "(I)I"⟩
abbrev Y_E_among : hp_Y := ("ExpressionDesk$Expression", prog_2_method_20_code, 5, (Option.some Jvm.ClassFile.FieldType.int), "among", 6, 138)
abbrev y_E_equal : MethodName := ⟨"ExpressionDesk$Expression", "equal", "(II)I"⟩
abbrev Y_E_equal : hp_Y := ("ExpressionDesk$Expression", prog_2_method_21_code, 6, (Option.some Jvm.ClassFile.FieldType.int), "equal", 3, 69)
abbrev y_E_hasTakenError : MethodName := ⟨"ExpressionDesk$Expression", "hasTakenError", "(I)Z"⟩
abbrev Y_E_hasTakenError : hp_Y := ("ExpressionDesk$Expression", prog_2_method_12_code, 3, (Option.some Jvm.ClassFile.FieldType.boolean), "hasTakenError", 4, 84)
abbrev y_E_performOnValues : MethodName := ⟨"ExpressionDesk$Expression", "performOnValues", "(II)I"⟩
abbrev Y_E_performOnValues : hp_Y := ("ExpressionDesk$Expression", prog_2_method_14_code, 3, (Option.some Jvm.ClassFile.FieldType.int), "performOnValues", 8, 190)
abbrev y_E_judged : MethodName := ⟨"ExpressionDesk$Expression", "judged", "(II)I"⟩
abbrev Y_E_judged : hp_Y := ("ExpressionDesk$Expression", prog_2_method_16_code, 3, (Option.some Jvm.ClassFile.FieldType.int), "judged", 6, 138)
abbrev y_E_compared : MethodName := ⟨"ExpressionDesk$Expression", "compared", "(I)I"⟩
abbrev Y_E_compared : hp_Y := ("ExpressionDesk$Expression", prog_2_method_22_code, 5, (Option.some Jvm.ClassFile.FieldType.int), "compared", 6, 138)
abbrev y_E_reckoned : MethodName := ⟨"ExpressionDesk$Expression", "reckoned", "(I)I"⟩
abbrev Y_E_reckoned : hp_Y := ("ExpressionDesk$Expression", prog_2_method_23_code, 5, (Option.some Jvm.ClassFile.FieldType.int), "reckoned", 7, 162)
abbrev y_K_start : MethodName := ⟨"ExpressionDesk$Reckoner", "start", "(ZJI)V"⟩
abbrev Y_K_start : hp_Y := ("ExpressionDesk$Reckoner", prog_4_method_2_code, 5, (Option.none : Option Jvm.ClassFile.FieldType), "start", 0, 0)
abbrev y_K_plus : MethodName := ⟨"ExpressionDesk$Reckoner", "plus", "(ZJI)V"⟩
abbrev Y_K_plus : hp_Y := ("ExpressionDesk$Reckoner", prog_4_method_3_code, 9, (Option.none : Option Jvm.ClassFile.FieldType), "plus", 2, 50)
abbrev y_K_settle : MethodName := ⟨"ExpressionDesk$Reckoner", "settle", "(ZJJ)V"⟩
abbrev Y_K_settle : hp_Y := ("ExpressionDesk$Reckoner", prog_4_method_6_code, 11, (Option.none : Option Jvm.ClassFile.FieldType), "settle", 1, 20)
abbrev y_K_times : MethodName := ⟨"ExpressionDesk$Reckoner", "times", "(ZJI)V"⟩
abbrev Y_K_times : hp_Y := ("ExpressionDesk$Reckoner", prog_4_method_4_code, 33, (Option.none : Option Jvm.ClassFile.FieldType), "times", 2, 50)
abbrev y_MA_abs : MethodName := ⟨"java/lang/Math", "abs", "(J)J"⟩
abbrev Y_MA_abs : hp_Y := ("java/lang/Math", prog_15_method_61_code, 2, (Option.some Jvm.ClassFile.FieldType.long), "abs", 0, 0)
abbrev y_K_over : MethodName := ⟨"ExpressionDesk$Reckoner", "over", "(JI)V"⟩
abbrev Y_K_over : hp_Y := ("ExpressionDesk$Reckoner", prog_4_method_5_code, 20, (Option.none : Option Jvm.ClassFile.FieldType), "over", 2, 50)
abbrev y_S_keepReckoned : MethodName := ⟨"ExpressionDesk$Store", "keepReckoned", "(LExpressionDesk$Reckoner;)I"⟩
abbrev Y_S_keepReckoned : hp_Y := ("ExpressionDesk$Store", prog_6_method_8_code, 2, (Option.some Jvm.ClassFile.FieldType.int), "keepReckoned", 6, 141)
abbrev y_E_ofNumber : MethodName := ⟨"ExpressionDesk$Expression", "ofNumber", "(I)I"⟩
abbrev Y_E_ofNumber : hp_Y := ("ExpressionDesk$Expression", prog_2_method_24_code, 9, (Option.some Jvm.ClassFile.FieldType.int), "ofNumber", 6, 141)
abbrev y_E_chained : MethodName := ⟨"ExpressionDesk$Expression", "chained", "(I)I"⟩
abbrev Y_E_chained : hp_Y := ("ExpressionDesk$Expression", prog_2_method_25_code, 6, (Option.some Jvm.ClassFile.FieldType.int), "chained", 6, 140)
abbrev y_V_isPlainOrTagged : MethodName := ⟨"ExpressionDesk$Value", "isPlainOrTagged", "()Z"⟩
abbrev Y_V_isPlainOrTagged : hp_Y := ("ExpressionDesk$Value", prog_7_method_3_code, 1, (Option.some Jvm.ClassFile.FieldType.boolean), "isPlainOrTagged", 0, 0)
abbrev y_R_putPart : MethodName := ⟨"ExpressionDesk$Row", "putPart", "([BII)V"⟩
abbrev Y_R_putPart : hp_Y := ("ExpressionDesk$Row", prog_5_method_4_code, 5, (Option.none : Option Jvm.ClassFile.FieldType), "putPart", 1, 21)
abbrev y_E_ofText : MethodName := ⟨"ExpressionDesk$Expression", "ofText", "(I)I"⟩
abbrev Y_E_ofText : hp_Y := ("ExpressionDesk$Expression", prog_2_method_26_code, 3, (Option.some Jvm.ClassFile.FieldType.int), "ofText", 7, 167)
abbrev y_E_part : MethodName := ⟨"ExpressionDesk$Expression", "part", "(LExpressionDesk$Value;LExpressionDesk$Value;LExpressionDesk$Value;)I"⟩
abbrev Y_E_part : hp_Y := ("ExpressionDesk$Expression", prog_2_method_27_code, 8, (Option.some Jvm.ClassFile.FieldType.int), "part", 6, 140)
abbrev y_MA_max2 : MethodName := ⟨"java/lang/Math", "max", "(JJ)J"⟩
abbrev Y_MA_max2 : hp_Y := ("java/lang/Math", prog_15_method_66_code, 4, (Option.some Jvm.ClassFile.FieldType.long), "max", 0, 0)
abbrev y_MA_min2 : MethodName := ⟨"java/lang/Math", "min", "(JJ)J"⟩
abbrev Y_MA_min2 : hp_Y := ("java/lang/Math", prog_15_method_70_code, 4, (Option.some Jvm.ClassFile.FieldType.long), "min", 0, 0)
abbrev y_E_turned : MethodName := ⟨"ExpressionDesk$Expression", "turned", "(LExpressionDesk$Value;III)I"⟩
abbrev Y_E_turned : hp_Y := ("ExpressionDesk$Expression", prog_2_method_28_code, 7, (Option.some Jvm.ClassFile.FieldType.int), "turned", 6, 140)
abbrev y_E_searched : MethodName := ⟨"ExpressionDesk$Expression", "searched", "(I)I"⟩
abbrev Y_E_searched : hp_Y := ("ExpressionDesk$Expression", prog_2_method_29_code, 7, (Option.some Jvm.ClassFile.FieldType.int), "searched", 7, 164)
abbrev y_E_firstPlace : MethodName := ⟨"ExpressionDesk$Expression", "firstPlace", "([B[B)I"⟩
abbrev Y_E_firstPlace : hp_Y := ("ExpressionDesk$Expression", prog_2_method_31_code, 3, (Option.some Jvm.ClassFile.FieldType.int), "firstPlace", 1, 23)
abbrev y_E_isAt : MethodName := ⟨"ExpressionDesk$Expression", "isAt", "([B[BI)Z"⟩
abbrev Y_E_isAt : hp_Y := ("ExpressionDesk$Expression", prog_2_method_32_code, 4, (Option.some Jvm.ClassFile.FieldType.boolean), "isAt", 0, 0)
abbrev y_E_cut : MethodName := ⟨"ExpressionDesk$Expression", "cut", "(LExpressionDesk$Value;III)I"⟩
abbrev Y_E_cut : hp_Y := ("ExpressionDesk$Expression", prog_2_method_30_code, 5, (Option.some Jvm.ClassFile.FieldType.int), "cut", 6, 140)
abbrev y_E_ofAny : MethodName := ⟨"ExpressionDesk$Expression", "ofAny", "(I)I"⟩
abbrev Y_E_ofAny : hp_Y := ("ExpressionDesk$Expression", prog_2_method_33_code, 3, (Option.some Jvm.ClassFile.FieldType.int), "ofAny", 7, 161)
abbrev y_R_putString : MethodName := ⟨"ExpressionDesk$Row", "putString", "(LExpressionDesk$Value;)Z"⟩
abbrev Y_R_putString : hp_Y := ("ExpressionDesk$Row", prog_5_method_7_code, 4, (Option.some Jvm.ClassFile.FieldType.boolean), "putString", 2, 48)
abbrev y_R_putDigits : MethodName := ⟨"ExpressionDesk$Row", "putDigits", "(JI)V"⟩
abbrev Y_R_putDigits : hp_Y := ("ExpressionDesk$Row", prog_5_method_6_code, 8, (Option.none : Option Jvm.ClassFile.FieldType), "putDigits", 1, 21)
abbrev y_R_putWord : MethodName := ⟨"ExpressionDesk$Row", "putWord", "(Ljava/lang/String;)V"⟩
abbrev Y_R_putWord : hp_Y := ("ExpressionDesk$Row", prog_5_method_5_code, 3, (Option.none : Option Jvm.ClassFile.FieldType), "putWord", 1, 20)
abbrev y_ST_length : MethodName := ⟨"java/lang/String", "length", "()I"⟩
abbrev Y_ST_length : hp_Y := ("java/lang/String", prog_16_method_54_code, 1, (Option.some Jvm.ClassFile.FieldType.int), "length", 0, 0)
abbrev y_ST_coder : MethodName := ⟨"java/lang/String", "coder", "()B"⟩
abbrev Y_ST_coder : hp_Y := ("java/lang/String", prog_16_method_152_code, 1, (Option.some Jvm.ClassFile.FieldType.byte), "coder", 0, 0)
abbrev y_ST_charAt : MethodName := ⟨"java/lang/String", "charAt", "(I)C"⟩
abbrev Y_ST_charAt : hp_Y := ("java/lang/String", prog_16_method_56_code, 2, (Option.some Jvm.ClassFile.FieldType.char), "charAt", 1, 20)
abbrev y_ST_isLatin1 : MethodName := ⟨"java/lang/String", "isLatin1", "()Z"⟩
abbrev Y_ST_isLatin1 : hp_Y := ("java/lang/String", prog_16_method_154_code, 1, (Option.some Jvm.ClassFile.FieldType.boolean), "isLatin1", 0, 0)
abbrev y_SL_charAt : MethodName := ⟨"java/lang/StringLatin1", "charAt", "([BI)C"⟩
abbrev Y_SL_charAt : hp_Y := ("java/lang/StringLatin1", prog_17_method_2_code, 2, (Option.some Jvm.ClassFile.FieldType.char), "charAt", 1, 21)
abbrev y_ST_checkIndex : MethodName := ⟨"java/lang/String", "checkIndex", "(II)V"⟩
abbrev Y_ST_checkIndex : hp_Y := ("java/lang/String", prog_16_method_155_code, 2, (Option.none : Option Jvm.ClassFile.FieldType), "checkIndex", 0, 0)
abbrev y_SU_charAt : MethodName := ⟨"java/lang/StringUTF16", "charAt", "([BI)C"⟩
abbrev Y_SU_charAt : hp_Y := ("java/lang/StringUTF16", prog_18_method_83_code, 2, (Option.some Jvm.ClassFile.FieldType.char), "charAt", 2, 42)
abbrev y_SU_checkIndex : MethodName := ⟨"java/lang/StringUTF16", "checkIndex", "(I[B)V"⟩
abbrev Y_SU_checkIndex : hp_Y := ("java/lang/StringUTF16", prog_18_method_91_code, 2, (Option.none : Option Jvm.ClassFile.FieldType), "checkIndex", 1, 21)
abbrev y_SU_length : MethodName := ⟨"java/lang/StringUTF16", "length", "([B)I"⟩
abbrev Y_SU_length : hp_Y := ("java/lang/StringUTF16", prog_18_method_6_code, 1, (Option.some Jvm.ClassFile.FieldType.int), "length", 0, 0)
abbrev y_SU_getChar : MethodName := ⟨"java/lang/StringUTF16", "getChar", "([BI)C"⟩
abbrev Y_SU_getChar : hp_Y := ("java/lang/StringUTF16", prog_18_method_5_code, 2, (Option.some Jvm.ClassFile.FieldType.char), "getChar", 1, 20)
abbrev y_E_tagText : MethodName := ⟨"ExpressionDesk$Expression", "tagText", "(LExpressionDesk$Value;)I"⟩
abbrev Y_E_tagText : hp_Y := ("ExpressionDesk$Expression", prog_2_method_34_code, 2, (Option.some Jvm.ClassFile.FieldType.int), "tagText", 6, 140)
abbrev y_E_typeName : MethodName := ⟨"ExpressionDesk$Expression", "typeName", "(LExpressionDesk$Value;)I"⟩
abbrev Y_E_typeName : hp_Y := ("ExpressionDesk$Expression", prog_2_method_35_code, 2, (Option.some Jvm.ClassFile.FieldType.int), "typeName", 6, 139)
abbrev y_D_test : MethodName := ⟨"ExpressionDesk", "test", "()I"⟩
abbrev Y_D_test : hp_Y := ("ExpressionDesk", prog_1_method_17_code, 2, (Option.some Jvm.ClassFile.FieldType.int), "test", 10, 235)
abbrev y_D_gather : MethodName := ⟨"ExpressionDesk", "gather", "(IZI)I"⟩
abbrev Y_D_gather : hp_Y := ("ExpressionDesk", prog_1_method_18_code, 4, (Option.some Jvm.ClassFile.FieldType.int), "gather", 4, 86)
abbrev y_G_restart : MethodName := ⟨"ExpressionDesk$Gathering", "restart", "(IZI)I"⟩
abbrev Y_G_restart : hp_Y := ("ExpressionDesk$Gathering", prog_3_method_2_code, 4, (Option.some Jvm.ClassFile.FieldType.int), "restart", 3, 63)
abbrev y_D_add : MethodName := ⟨"ExpressionDesk", "add", "(I)I"⟩
abbrev Y_D_add : hp_Y := ("ExpressionDesk", prog_1_method_19_code, 2, (Option.some Jvm.ClassFile.FieldType.int), "add", 3, 61)
abbrev y_G_take : MethodName := ⟨"ExpressionDesk$Gathering", "take", "(I)I"⟩
abbrev Y_G_take : hp_Y := ("ExpressionDesk$Gathering", prog_3_method_3_code, 2, (Option.some Jvm.ClassFile.FieldType.int), "take", 2, 40)
abbrev y_G_isThere : MethodName := ⟨"ExpressionDesk$Gathering", "isThere", "(I)Z"⟩
abbrev Y_G_isThere : hp_Y := ("ExpressionDesk$Gathering", prog_3_method_4_code, 3, (Option.some Jvm.ClassFile.FieldType.boolean), "isThere", 0, 0)
abbrev y_D_together : MethodName := ⟨"ExpressionDesk", "together", "()I"⟩
abbrev Y_D_together : hp_Y := ("ExpressionDesk", prog_1_method_20_code, 1, (Option.some Jvm.ClassFile.FieldType.int), "together", 8, 182)
abbrev y_G_answer : MethodName := ⟨"ExpressionDesk$Gathering", "answer", "()I"⟩
abbrev Y_G_answer : hp_Y := ("ExpressionDesk$Gathering", prog_3_method_5_code, 1, (Option.some Jvm.ClassFile.FieldType.int), "answer", 7, 162)
abbrev y_G_countGood : MethodName := ⟨"ExpressionDesk$Gathering", "countGood", "()I"⟩
abbrev Y_G_countGood : hp_Y := ("ExpressionDesk$Gathering", prog_3_method_6_code, 3, (Option.some Jvm.ClassFile.FieldType.int), "countGood", 0, 0)
abbrev y_G_reckonSum : MethodName := ⟨"ExpressionDesk$Gathering", "reckonSum", "()V"⟩
abbrev Y_G_reckonSum : hp_Y := ("ExpressionDesk$Gathering", prog_3_method_7_code, 3, (Option.none : Option Jvm.ClassFile.FieldType), "reckonSum", 3, 78)
abbrev y_G_outermost : MethodName := ⟨"ExpressionDesk$Gathering", "outermost", "(I)I"⟩
abbrev Y_G_outermost : hp_Y := ("ExpressionDesk$Gathering", prog_3_method_8_code, 5, (Option.some Jvm.ClassFile.FieldType.int), "outermost", 4, 91)
abbrev y_G_joined : MethodName := ⟨"ExpressionDesk$Gathering", "joined", "()I"⟩
abbrev Y_G_joined : hp_Y := ("ExpressionDesk$Gathering", prog_3_method_9_code, 1, (Option.some Jvm.ClassFile.FieldType.int), "joined", 6, 140)
abbrev y_G_putAll : MethodName := ⟨"ExpressionDesk$Gathering", "putAll", "([I)Z"⟩
abbrev Y_G_putAll : hp_Y := ("ExpressionDesk$Gathering", prog_3_method_10_code, 4, (Option.some Jvm.ClassFile.FieldType.boolean), "putAll", 3, 71)
abbrev y_G_sortGathered : MethodName := ⟨"ExpressionDesk$Gathering", "sortGathered", "()V"⟩
abbrev Y_G_sortGathered : hp_Y := ("ExpressionDesk$Gathering", prog_3_method_11_code, 4, (Option.none : Option Jvm.ClassFile.FieldType), "sortGathered", 4, 91)
abbrev y_M_init : MethodName := ⟨"ExpressionDeskModel", "<init>", "()V"⟩
abbrev Y_M_init : hp_Y := ("ExpressionDeskModel", prog_9_method_1_code, 1, (Option.none : Option Jvm.ClassFile.FieldType), "<init>", 1, 20)
abbrev y_M_type : MethodName := ⟨"ExpressionDeskModel", "type", "(JI)I"⟩
abbrev Y_M_type : hp_Y := ("ExpressionDeskModel", prog_9_method_24_code, 5, (Option.some Jvm.ClassFile.FieldType.int), "type", 0, 0)
abbrev y_M_whole : MethodName := ⟨"ExpressionDeskModel", "whole", "(J)I"⟩
abbrev Y_M_whole : hp_Y := ("ExpressionDeskModel", prog_9_method_25_code, 3, (Option.some Jvm.ClassFile.FieldType.int), "whole", 4, 98)
abbrev y_M_isFar : MethodName := ⟨"ExpressionDeskModel", "isFar", "(J)Z"⟩
abbrev Y_M_isFar : hp_Y := ("ExpressionDeskModel", prog_9_method_23_code, 2, (Option.some Jvm.ClassFile.FieldType.boolean), "isFar", 0, 0)
abbrev y_M_numbered : MethodName := ⟨"ExpressionDeskModel", "numbered", "(JIZ)I"⟩
abbrev Y_M_numbered : hp_Y := ("ExpressionDeskModel", prog_9_method_22_code, 8, (Option.some Jvm.ClassFile.FieldType.int), "numbered", 3, 71)
abbrev y_M_clear : MethodName := ⟨"ExpressionDeskModel", "clear", "([I)V"⟩
abbrev Y_M_clear : hp_Y := ("ExpressionDeskModel", prog_9_method_6_code, 2, (Option.none : Option Jvm.ClassFile.FieldType), "clear", 0, 0)
abbrev y_M_number : MethodName := ⟨"ExpressionDeskModel", "number", "([IIZ)I"⟩
abbrev Y_M_number : hp_Y := ("ExpressionDeskModel", prog_9_method_13_code, 7, (Option.some Jvm.ClassFile.FieldType.int), "number", 2, 45)
abbrev y_M_start : MethodName := ⟨"ExpressionDeskModel", "start", "(II)V"⟩
abbrev Y_M_start : hp_Y := ("ExpressionDeskModel", prog_9_method_2_code, 4, (Option.none : Option Jvm.ClassFile.FieldType), "start", 0, 0)
abbrev y_M_isZero : MethodName := ⟨"ExpressionDeskModel", "isZero", "([I)Z"⟩
abbrev Y_M_isZero : hp_Y := ("ExpressionDeskModel", prog_9_method_9_code, 2, (Option.some Jvm.ClassFile.FieldType.boolean), "isZero", 0, 0)
abbrev y_M_keep : MethodName := ⟨"ExpressionDeskModel", "keep", "()I"⟩
abbrev Y_M_keep : hp_Y := ("ExpressionDeskModel", prog_9_method_4_code, 3, (Option.some Jvm.ClassFile.FieldType.int), "keep", 1, 23)
abbrev y_M_isIt : MethodName := ⟨"ExpressionDeskModel", "isIt", "(I)Z"⟩
abbrev Y_M_isIt : hp_Y := ("ExpressionDeskModel", prog_9_method_3_code, 4, (Option.some Jvm.ClassFile.FieldType.boolean), "isIt", 0, 0)
abbrev y_M_decimal : MethodName := ⟨"ExpressionDeskModel", "decimal", "(JI)I"⟩
abbrev Y_M_decimal : hp_Y := ("ExpressionDeskModel", prog_9_method_26_code, 4, (Option.some Jvm.ClassFile.FieldType.int), "decimal", 4, 98)
abbrev y_M_truth : MethodName := ⟨"ExpressionDeskModel", "truth", "(Z)I"⟩
abbrev Y_M_truth : hp_Y := ("ExpressionDeskModel", prog_9_method_27_code, 2, (Option.some Jvm.ClassFile.FieldType.int), "truth", 2, 45)
abbrev y_M_named : MethodName := ⟨"ExpressionDeskModel", "named", "(II)I"⟩
abbrev Y_M_named : hp_Y := ("ExpressionDeskModel", prog_9_method_28_code, 3, (Option.some Jvm.ClassFile.FieldType.int), "named", 2, 45)
abbrev y_M_text : MethodName := ⟨"ExpressionDeskModel", "text", "(II)I"⟩
abbrev Y_M_text : hp_Y := ("ExpressionDeskModel", prog_9_method_29_code, 5, (Option.some Jvm.ClassFile.FieldType.int), "text", 2, 45)
abbrev y_M_letter : MethodName := ⟨"ExpressionDeskModel", "letter", "(I)V"⟩
abbrev Y_M_letter : hp_Y := ("ExpressionDeskModel", prog_9_method_5_code, 2, (Option.none : Option Jvm.ClassFile.FieldType), "letter", 0, 0)
abbrev y_M_told : MethodName := ⟨"ExpressionDeskModel", "told", "(II)I"⟩
abbrev Y_M_told : hp_Y := ("ExpressionDeskModel", prog_9_method_31_code, 3, (Option.some Jvm.ClassFile.FieldType.int), "told", 1, 21)
abbrev y_M_isValue : MethodName := ⟨"ExpressionDeskModel", "isValue", "(I)Z"⟩
abbrev Y_M_isValue : hp_Y := ("ExpressionDeskModel", prog_9_method_30_code, 2, (Option.some Jvm.ClassFile.FieldType.boolean), "isValue", 0, 0)
abbrev y_M_amount : MethodName := ⟨"ExpressionDeskModel", "amount", "(I)J"⟩
abbrev Y_M_amount : hp_Y := ("ExpressionDeskModel", prog_9_method_32_code, 5, (Option.some Jvm.ClassFile.FieldType.long), "amount", 1, 21)
abbrev y_M_byteOf : MethodName := ⟨"ExpressionDeskModel", "byteOf", "(II)I"⟩
abbrev Y_M_byteOf : hp_Y := ("ExpressionDeskModel", prog_9_method_33_code, 3, (Option.some Jvm.ClassFile.FieldType.int), "byteOf", 1, 21)
abbrev y_M_values : MethodName := ⟨"ExpressionDeskModel", "values", "()I"⟩
abbrev Y_M_values : hp_Y := ("ExpressionDeskModel", prog_9_method_34_code, 1, (Option.some Jvm.ClassFile.FieldType.int), "values", 0, 0)
abbrev y_M_order : MethodName := ⟨"ExpressionDeskModel", "order", "(II)I"⟩
abbrev Y_M_order : hp_Y := ("ExpressionDeskModel", prog_9_method_38_code, 3, (Option.some Jvm.ClassFile.FieldType.int), "order", 4, 89)
abbrev y_M_orderOf : MethodName := ⟨"ExpressionDeskModel", "orderOf", "(II)I"⟩
abbrev Y_M_orderOf : hp_Y := ("ExpressionDeskModel", prog_9_method_37_code, 4, (Option.some Jvm.ClassFile.FieldType.int), "orderOf", 3, 66)
abbrev y_M_rank : MethodName := ⟨"ExpressionDeskModel", "rank", "(I)I"⟩
abbrev Y_M_rank : hp_Y := ("ExpressionDeskModel", prog_9_method_35_code, 2, (Option.some Jvm.ClassFile.FieldType.int), "rank", 0, 0)
abbrev y_M_isNumber : MethodName := ⟨"ExpressionDeskModel", "isNumber", "(I)Z"⟩
abbrev Y_M_isNumber : hp_Y := ("ExpressionDeskModel", prog_9_method_14_code, 2, (Option.some Jvm.ClassFile.FieldType.boolean), "isNumber", 0, 0)
abbrev y_M_orderNumbers : MethodName := ⟨"ExpressionDeskModel", "orderNumbers", "(II)I"⟩
abbrev Y_M_orderNumbers : hp_Y := ("ExpressionDeskModel", prog_9_method_21_code, 3, (Option.some Jvm.ClassFile.FieldType.int), "orderNumbers", 2, 44)
abbrev y_M_lay : MethodName := ⟨"ExpressionDeskModel", "lay", "(I[I)V"⟩
abbrev Y_M_lay : hp_Y := ("ExpressionDeskModel", prog_9_method_7_code, 4, (Option.none : Option Jvm.ClassFile.FieldType), "lay", 1, 21)
abbrev y_M_compare : MethodName := ⟨"ExpressionDeskModel", "compare", "([I[I)I"⟩
abbrev Y_M_compare : hp_Y := ("ExpressionDeskModel", prog_9_method_8_code, 3, (Option.some Jvm.ClassFile.FieldType.int), "compare", 0, 0)
abbrev y_M_orderBytes : MethodName := ⟨"ExpressionDeskModel", "orderBytes", "(II)I"⟩
abbrev Y_M_orderBytes : hp_Y := ("ExpressionDeskModel", prog_9_method_36_code, 4, (Option.some Jvm.ClassFile.FieldType.int), "orderBytes", 0, 0)
abbrev y_M_word : MethodName := ⟨"ExpressionDeskModel", "word", "(II)I"⟩
abbrev Y_M_word : hp_Y := ("ExpressionDeskModel", prog_9_method_58_code, 3, (Option.some Jvm.ClassFile.FieldType.int), "word", 0, 0)
abbrev y_M_begin : MethodName := ⟨"ExpressionDeskModel", "begin", "()I"⟩
abbrev Y_M_begin : hp_Y := ("ExpressionDeskModel", prog_9_method_59_code, 2, (Option.some Jvm.ClassFile.FieldType.int), "begin", 0, 0)
abbrev y_M_bind : MethodName := ⟨"ExpressionDeskModel", "bind", "(II)Z"⟩
abbrev Y_M_bind : hp_Y := ("ExpressionDeskModel", prog_9_method_60_code, 3, (Option.some Jvm.ClassFile.FieldType.boolean), "bind", 0, 0)
abbrev y_M_run : MethodName := ⟨"ExpressionDeskModel", "run", "()I"⟩
abbrev Y_M_run : hp_Y := ("ExpressionDeskModel", prog_9_method_71_code, 4, (Option.some Jvm.ClassFile.FieldType.int), "run", 7, 164)
abbrev y_M_isRight : MethodName := ⟨"ExpressionDeskModel", "isRight", "()Z"⟩
abbrev Y_M_isRight : hp_Y := ("ExpressionDeskModel", prog_9_method_62_code, 3, (Option.some Jvm.ClassFile.FieldType.boolean), "isRight", 1, 22)
abbrev y_M_takes : MethodName := ⟨"ExpressionDeskModel", "takes", "(I)I"⟩
abbrev Y_M_takes : hp_Y := ("ExpressionDeskModel", prog_9_method_61_code, 3, (Option.some Jvm.ClassFile.FieldType.int), "takes", 0, 0)
abbrev y_M_done : MethodName := ⟨"ExpressionDeskModel", "done", "(II)I"⟩
abbrev Y_M_done : hp_Y := ("ExpressionDeskModel", prog_9_method_70_code, 6, (Option.some Jvm.ClassFile.FieldType.int), "done", 6, 139)
abbrev y_M_ofItsOwn : MethodName := ⟨"ExpressionDeskModel", "ofItsOwn", "(II)I"⟩
abbrev Y_M_ofItsOwn : hp_Y := ("ExpressionDeskModel", prog_9_method_65_code, 6, (Option.some Jvm.ClassFile.FieldType.int), "ofItsOwn", 5, 114)
abbrev y_M_bindingOf : MethodName := ⟨"ExpressionDeskModel", "bindingOf", "(I)I"⟩
abbrev Y_M_bindingOf : hp_Y := ("ExpressionDeskModel", prog_9_method_64_code, 2, (Option.some Jvm.ClassFile.FieldType.int), "bindingOf", 0, 0)
abbrev y_M_both : MethodName := ⟨"ExpressionDeskModel", "both", "(III)I"⟩
abbrev Y_M_both : hp_Y := ("ExpressionDeskModel", prog_9_method_63_code, 6, (Option.some Jvm.ClassFile.FieldType.int), "both", 4, 87)
abbrev y_M_truthOf : MethodName := ⟨"ExpressionDeskModel", "truthOf", "(I)I"⟩
abbrev Y_M_truthOf : hp_Y := ("ExpressionDeskModel", prog_9_method_40_code, 2, (Option.some Jvm.ClassFile.FieldType.int), "truthOf", 1, 21)
abbrev y_M_bit : MethodName := ⟨"ExpressionDeskModel", "bit", "(Z)I"⟩
abbrev Y_M_bit : hp_Y := ("ExpressionDeskModel", prog_9_method_39_code, 1, (Option.some Jvm.ClassFile.FieldType.int), "bit", 0, 0)
abbrev y_M_given : MethodName := ⟨"ExpressionDeskModel", "given", "(I)I"⟩
abbrev Y_M_given : hp_Y := ("ExpressionDeskModel", prog_9_method_44_code, 2, (Option.some Jvm.ClassFile.FieldType.int), "given", 3, 66)
abbrev y_M_isIn : MethodName := ⟨"ExpressionDeskModel", "isIn", "(II)I"⟩
abbrev Y_M_isIn : hp_Y := ("ExpressionDeskModel", prog_9_method_66_code, 7, (Option.some Jvm.ClassFile.FieldType.int), "isIn", 4, 88)
abbrev y_M_equal : MethodName := ⟨"ExpressionDeskModel", "equal", "(II)I"⟩
abbrev Y_M_equal : hp_Y := ("ExpressionDeskModel", prog_9_method_41_code, 3, (Option.some Jvm.ClassFile.FieldType.int), "equal", 3, 66)
abbrev y_M_rowOf : MethodName := ⟨"ExpressionDeskModel", "rowOf", "(II)I"⟩
abbrev Y_M_rowOf : hp_Y := ("ExpressionDeskModel", prog_9_method_67_code, 5, (Option.some Jvm.ClassFile.FieldType.int), "rowOf", 2, 45)
abbrev y_M_isPlain : MethodName := ⟨"ExpressionDeskModel", "isPlain", "(I)Z"⟩
abbrev Y_M_isPlain : hp_Y := ("ExpressionDeskModel", prog_9_method_45_code, 2, (Option.some Jvm.ClassFile.FieldType.boolean), "isPlain", 0, 0)
abbrev y_M_letterAll : MethodName := ⟨"ExpressionDeskModel", "letterAll", "(III)V"⟩
abbrev Y_M_letterAll : hp_Y := ("ExpressionDeskModel", prog_9_method_46_code, 5, (Option.none : Option Jvm.ClassFile.FieldType), "letterAll", 1, 21)
abbrev y_M_some : MethodName := ⟨"ExpressionDeskModel", "some", "(III)I"⟩
abbrev Y_M_some : hp_Y := ("ExpressionDeskModel", prog_9_method_56_code, 9, (Option.some Jvm.ClassFile.FieldType.int), "some", 2, 45)
abbrev y_M_two : MethodName := ⟨"ExpressionDeskModel", "two", "(III)I"⟩
abbrev Y_M_two : hp_Y := ("ExpressionDeskModel", prog_9_method_68_code, 4, (Option.some Jvm.ClassFile.FieldType.int), "two", 5, 111)
abbrev y_M_not : MethodName := ⟨"ExpressionDeskModel", "not", "(I)I"⟩
abbrev Y_M_not : hp_Y := ("ExpressionDeskModel", prog_9_method_43_code, 1, (Option.some Jvm.ClassFile.FieldType.int), "not", 0, 0)
abbrev y_M_less : MethodName := ⟨"ExpressionDeskModel", "less", "(II)I"⟩
abbrev Y_M_less : hp_Y := ("ExpressionDeskModel", prog_9_method_42_code, 3, (Option.some Jvm.ClassFile.FieldType.int), "less", 4, 89)
abbrev y_M_around : MethodName := ⟨"ExpressionDeskModel", "around", "(III)I"⟩
abbrev Y_M_around : hp_Y := ("ExpressionDeskModel", prog_9_method_55_code, 5, (Option.some Jvm.ClassFile.FieldType.int), "around", 3, 68)
abbrev y_M_goWith : MethodName := ⟨"ExpressionDeskModel", "goWith", "(II)Z"⟩
abbrev Y_M_goWith : hp_Y := ("ExpressionDeskModel", prog_9_method_51_code, 3, (Option.some Jvm.ClassFile.FieldType.boolean), "goWith", 1, 21)
abbrev y_M_within : MethodName := ⟨"ExpressionDeskModel", "within", "(II)I"⟩
abbrev Y_M_within : hp_Y := ("ExpressionDeskModel", prog_9_method_53_code, 4, (Option.some Jvm.ClassFile.FieldType.int), "within", 1, 25)
abbrev y_M_isAt : MethodName := ⟨"ExpressionDeskModel", "isAt", "(III)Z"⟩
abbrev Y_M_isAt : hp_Y := ("ExpressionDeskModel", prog_9_method_52_code, 6, (Option.some Jvm.ClassFile.FieldType.boolean), "isAt", 0, 0)
abbrev y_M_piece : MethodName := ⟨"ExpressionDeskModel", "piece", "(III)I"⟩
abbrev Y_M_piece : hp_Y := ("ExpressionDeskModel", prog_9_method_54_code, 4, (Option.some Jvm.ClassFile.FieldType.int), "piece", 2, 45)
abbrev y_M_sum : MethodName := ⟨"ExpressionDeskModel", "sum", "(III)I"⟩
abbrev Y_M_sum : hp_Y := ("ExpressionDeskModel", prog_9_method_16_code, 5, (Option.some Jvm.ClassFile.FieldType.int), "sum", 3, 71)
abbrev y_M_join : MethodName := ⟨"ExpressionDeskModel", "join", "([I[II)V"⟩
abbrev Y_M_join : hp_Y := ("ExpressionDeskModel", prog_9_method_10_code, 6, (Option.none : Option Jvm.ClassFile.FieldType), "join", 0, 0)
abbrev y_M_areWholes : MethodName := ⟨"ExpressionDeskModel", "areWholes", "(II)Z"⟩
abbrev Y_M_areWholes : hp_Y := ("ExpressionDeskModel", prog_9_method_15_code, 3, (Option.some Jvm.ClassFile.FieldType.boolean), "areWholes", 0, 0)
abbrev y_M_product : MethodName := ⟨"ExpressionDeskModel", "product", "(II)I"⟩
abbrev Y_M_product : hp_Y := ("ExpressionDeskModel", prog_9_method_17_code, 8, (Option.some Jvm.ClassFile.FieldType.int), "product", 3, 71)
abbrev y_M_round : MethodName := ⟨"ExpressionDeskModel", "round", "([I)V"⟩
abbrev Y_M_round : hp_Y := ("ExpressionDeskModel", prog_9_method_12_code, 3, (Option.none : Option Jvm.ClassFile.FieldType), "round", 1, 22)
abbrev y_M_raise : MethodName := ⟨"ExpressionDeskModel", "raise", "([II)V"⟩
abbrev Y_M_raise : hp_Y := ("ExpressionDeskModel", prog_9_method_11_code, 3, (Option.none : Option Jvm.ClassFile.FieldType), "raise", 0, 0)
abbrev y_M_quotient : MethodName := ⟨"ExpressionDeskModel", "quotient", "(II)I"⟩
abbrev Y_M_quotient : hp_Y := ("ExpressionDeskModel", prog_9_method_18_code, 6, (Option.some Jvm.ClassFile.FieldType.int), "quotient", 3, 71)
abbrev y_M_one : MethodName := ⟨"ExpressionDeskModel", "one", "(II)I"⟩
abbrev Y_M_one : hp_Y := ("ExpressionDeskModel", prog_9_method_69_code, 3, (Option.some Jvm.ClassFile.FieldType.int), "one", 4, 98)
abbrev y_M_turned : MethodName := ⟨"ExpressionDeskModel", "turned", "(IZ)I"⟩
abbrev Y_M_turned : hp_Y := ("ExpressionDeskModel", prog_9_method_20_code, 3, (Option.some Jvm.ClassFile.FieldType.int), "turned", 3, 71)
abbrev y_M_wholeOf : MethodName := ⟨"ExpressionDeskModel", "wholeOf", "(II)I"⟩
abbrev Y_M_wholeOf : hp_Y := ("ExpressionDeskModel", prog_9_method_19_code, 7, (Option.some Jvm.ClassFile.FieldType.int), "wholeOf", 3, 71)
abbrev y_M_cased : MethodName := ⟨"ExpressionDeskModel", "cased", "(II)I"⟩
abbrev Y_M_cased : hp_Y := ("ExpressionDeskModel", prog_9_method_57_code, 6, (Option.some Jvm.ClassFile.FieldType.int), "cased", 2, 45)
abbrev y_M_string : MethodName := ⟨"ExpressionDeskModel", "string", "(I)Z"⟩
abbrev Y_M_string : hp_Y := ("ExpressionDeskModel", prog_9_method_47_code, 2, (Option.some Jvm.ClassFile.FieldType.boolean), "string", 2, 45)
abbrev y_M_digitsOf : MethodName := ⟨"ExpressionDeskModel", "digitsOf", "(I)V"⟩
abbrev Y_M_digitsOf : hp_Y := ("ExpressionDeskModel", prog_9_method_49_code, 4, (Option.none : Option Jvm.ClassFile.FieldType), "digitsOf", 1, 21)
abbrev y_M_stringOfNumber : MethodName := ⟨"ExpressionDeskModel", "stringOfNumber", "(I)V"⟩
abbrev Y_M_stringOfNumber : hp_Y := ("ExpressionDeskModel", prog_9_method_50_code, 4, (Option.none : Option Jvm.ClassFile.FieldType), "stringOfNumber", 1, 21)
abbrev y_M_spell : MethodName := ⟨"ExpressionDeskModel", "spell", "(Ljava/lang/String;)V"⟩
abbrev Y_M_spell : hp_Y := ("ExpressionDeskModel", prog_9_method_48_code, 3, (Option.none : Option Jvm.ClassFile.FieldType), "spell", 1, 20)
abbrev y_M_test : MethodName := ⟨"ExpressionDeskModel", "test", "()I"⟩
abbrev Y_M_test : hp_Y := ("ExpressionDeskModel", prog_9_method_72_code, 2, (Option.some Jvm.ClassFile.FieldType.int), "test", 8, 187)
abbrev y_M_gather : MethodName := ⟨"ExpressionDeskModel", "gather", "(IZI)I"⟩
abbrev Y_M_gather : hp_Y := ("ExpressionDeskModel", prog_9_method_73_code, 4, (Option.some Jvm.ClassFile.FieldType.int), "gather", 1, 21)
abbrev y_M_add : MethodName := ⟨"ExpressionDeskModel", "add", "(I)I"⟩
abbrev Y_M_add : hp_Y := ("ExpressionDeskModel", prog_9_method_74_code, 3, (Option.some Jvm.ClassFile.FieldType.int), "add", 1, 21)
abbrev y_M_together : MethodName := ⟨"ExpressionDeskModel", "together", "()I"⟩
abbrev Y_M_together : hp_Y := ("ExpressionDeskModel", prog_9_method_80_code, 3, (Option.some Jvm.ClassFile.FieldType.int), "together", 5, 120)
abbrev y_M_sumAll : MethodName := ⟨"ExpressionDeskModel", "sumAll", "()Z"⟩
abbrev Y_M_sumAll : hp_Y := ("ExpressionDeskModel", prog_9_method_75_code, 4, (Option.some Jvm.ClassFile.FieldType.boolean), "sumAll", 2, 44)
abbrev y_M_isFit : MethodName := ⟨"ExpressionDeskModel", "isFit", "()Z"⟩
abbrev Y_M_isFit : hp_Y := ("ExpressionDeskModel", prog_9_method_76_code, 4, (Option.some Jvm.ClassFile.FieldType.boolean), "isFit", 0, 0)
abbrev y_M_extreme : MethodName := ⟨"ExpressionDeskModel", "extreme", "(I)I"⟩
abbrev Y_M_extreme : hp_Y := ("ExpressionDeskModel", prog_9_method_78_code, 5, (Option.some Jvm.ClassFile.FieldType.int), "extreme", 4, 89)
abbrev y_M_average : MethodName := ⟨"ExpressionDeskModel", "average", "()I"⟩
abbrev Y_M_average : hp_Y := ("ExpressionDeskModel", prog_9_method_77_code, 3, (Option.some Jvm.ClassFile.FieldType.int), "average", 4, 98)
abbrev y_M_row : MethodName := ⟨"ExpressionDeskModel", "row", "()I"⟩
abbrev Y_M_row : hp_Y := ("ExpressionDeskModel", prog_9_method_79_code, 5, (Option.some Jvm.ClassFile.FieldType.int), "row", 4, 89)
abbrev y_L_law : MethodName := ⟨"ExpressionDeskLaw", "law", "([I)Z"⟩
abbrev Y_L_law : hp_Y := ("ExpressionDeskLaw", code, 4, (Option.some .boolean), "law", 11, 256)
end
section
theorem fl_D_10 : hp_fl "ExpressionDesk" 10 0 0 (.object "ExpressionDesk$Store") true := ⟨_, _, _, f_D, rfl, i_D, t_D, n_D, by decide, "ExpressionDesk", Or.inl rfl, w_251, rfl, rfl⟩
theorem fl_D_19 : hp_fl "ExpressionDesk" 19 0 1 (.object "ExpressionDesk$Row") true := ⟨_, _, _, f_D, rfl, i_D, t_D, n_D, by decide, "ExpressionDesk", Or.inl rfl, w_252, rfl, rfl⟩
theorem fl_D_28 : hp_fl "ExpressionDesk" 28 0 2 (.object "ExpressionDesk$Expression") true := ⟨_, _, _, f_D, rfl, i_D, t_D, n_D, by decide, "ExpressionDesk", Or.inl rfl, w_253, rfl, rfl⟩
theorem fl_D_35 : hp_fl "ExpressionDesk" 35 0 3 (.object "ExpressionDesk$Gathering") true := ⟨_, _, _, f_D, rfl, i_D, t_D, n_D, by decide, "ExpressionDesk", Or.inl rfl, w_254, rfl, rfl⟩
theorem fl_D_39 : hp_fl "ExpressionDesk" 39 4 1 (.int) false := ⟨_, _, _, f_R, rfl, i_R, t_R, n_R, by decide, "ExpressionDesk$Row", Or.inl rfl, w_125, rfl, rfl⟩
theorem fl_D_84 : hp_fl "ExpressionDesk" 84 3 0 (.int) true := ⟨_, _, _, f_V, rfl, i_V, t_V, n_V, by decide, "ExpressionDesk$Value", Or.inl rfl, w_74, rfl, rfl⟩
theorem fl_D_89 : hp_fl "ExpressionDesk" 89 3 1 (.int) true := ⟨_, _, _, f_V, rfl, i_V, t_V, n_V, by decide, "ExpressionDesk$Value", Or.inl rfl, w_79, rfl, rfl⟩
theorem fl_D_92 : hp_fl "ExpressionDesk" 92 3 3 (.int) true := ⟨_, _, _, f_V, rfl, i_V, t_V, n_V, by decide, "ExpressionDesk$Value", Or.inl rfl, w_91, rfl, rfl⟩
theorem fl_D_95 : hp_fl "ExpressionDesk" 95 3 4 (.array (.byte)) true := ⟨_, _, _, f_V, rfl, i_V, t_V, n_V, by decide, "ExpressionDesk$Value", Or.inl rfl, w_96, rfl, rfl⟩
theorem fl_D_99 : hp_fl "ExpressionDesk" 99 3 2 (.long) true := ⟨_, _, _, f_V, rfl, i_V, t_V, n_V, by decide, "ExpressionDesk$Value", Or.inl rfl, w_85, rfl, rfl⟩
theorem fl_E_9 : hp_fl "ExpressionDesk$Expression" 9 5 1 (.array (.int)) true := ⟨_, _, _, f_E, rfl, i_E, t_E, n_E, by decide, "ExpressionDesk$Expression", Or.inl rfl, w_186, rfl, rfl⟩
theorem fl_E_15 : hp_fl "ExpressionDesk$Expression" 15 5 2 (.array (.int)) true := ⟨_, _, _, f_E, rfl, i_E, t_E, n_E, by decide, "ExpressionDesk$Expression", Or.inl rfl, w_187, rfl, rfl⟩
theorem fl_E_18 : hp_fl "ExpressionDesk$Expression" 18 5 3 (.array (.int)) true := ⟨_, _, _, f_E, rfl, i_E, t_E, n_E, by decide, "ExpressionDesk$Expression", Or.inl rfl, w_188, rfl, rfl⟩
theorem fl_E_21 : hp_fl "ExpressionDesk$Expression" 21 5 4 (.array (.int)) true := ⟨_, _, _, f_E, rfl, i_E, t_E, n_E, by decide, "ExpressionDesk$Expression", Or.inl rfl, w_189, rfl, rfl⟩
theorem fl_E_27 : hp_fl "ExpressionDesk$Expression" 27 5 5 (.object "ExpressionDesk$Row") true := ⟨_, _, _, f_E, rfl, i_E, t_E, n_E, by decide, "ExpressionDesk$Expression", Or.inl rfl, w_190, rfl, rfl⟩
theorem fl_E_34 : hp_fl "ExpressionDesk$Expression" 34 5 6 (.object "ExpressionDesk$Reckoner") true := ⟨_, _, _, f_E, rfl, i_E, t_E, n_E, by decide, "ExpressionDesk$Expression", Or.inl rfl, w_191, rfl, rfl⟩
theorem fl_E_38 : hp_fl "ExpressionDesk$Expression" 38 5 0 (.object "ExpressionDesk$Store") true := ⟨_, _, _, f_E, rfl, i_E, t_E, n_E, by decide, "ExpressionDesk$Expression", Or.inl rfl, w_185, rfl, rfl⟩
theorem fl_E_46 : hp_fl "ExpressionDesk$Expression" 46 5 7 (.int) false := ⟨_, _, _, f_E, rfl, i_E, t_E, n_E, by decide, "ExpressionDesk$Expression", Or.inl rfl, w_192, rfl, rfl⟩
theorem fl_E_60 : hp_fl "ExpressionDesk$Expression" 60 5 8 (.int) false := ⟨_, _, _, f_E, rfl, i_E, t_E, n_E, by decide, "ExpressionDesk$Expression", Or.inl rfl, w_193, rfl, rfl⟩
theorem fl_E_93 : hp_fl "ExpressionDesk$Expression" 93 3 0 (.int) true := ⟨_, _, _, f_V, rfl, i_V, t_V, n_V, by decide, "ExpressionDesk$Value", Or.inl rfl, w_76, rfl, rfl⟩
theorem fl_E_157 : hp_fl "ExpressionDesk$Expression" 157 3 2 (.long) true := ⟨_, _, _, f_V, rfl, i_V, t_V, n_V, by decide, "ExpressionDesk$Value", Or.inl rfl, w_87, rfl, rfl⟩
theorem fl_E_161 : hp_fl "ExpressionDesk$Expression" 161 3 3 (.int) true := ⟨_, _, _, f_V, rfl, i_V, t_V, n_V, by decide, "ExpressionDesk$Value", Or.inl rfl, w_93, rfl, rfl⟩
theorem fl_E_208 : hp_fl "ExpressionDesk$Expression" 208 3 1 (.int) true := ⟨_, _, _, f_V, rfl, i_V, t_V, n_V, by decide, "ExpressionDesk$Value", Or.inl rfl, w_81, rfl, rfl⟩
theorem fl_E_214 : hp_fl "ExpressionDesk$Expression" 214 3 4 (.array (.byte)) true := ⟨_, _, _, f_V, rfl, i_V, t_V, n_V, by decide, "ExpressionDesk$Value", Or.inl rfl, w_99, rfl, rfl⟩
theorem fl_G_9 : hp_fl "ExpressionDesk$Gathering" 9 7 1 (.array (.int)) true := ⟨_, _, _, f_G, rfl, i_G, t_G, n_G, by decide, "ExpressionDesk$Gathering", Or.inl rfl, w_224, rfl, rfl⟩
theorem fl_G_15 : hp_fl "ExpressionDesk$Gathering" 15 7 2 (.array (.int)) true := ⟨_, _, _, f_G, rfl, i_G, t_G, n_G, by decide, "ExpressionDesk$Gathering", Or.inl rfl, w_225, rfl, rfl⟩
theorem fl_G_21 : hp_fl "ExpressionDesk$Gathering" 21 7 3 (.object "ExpressionDesk$Row") true := ⟨_, _, _, f_G, rfl, i_G, t_G, n_G, by decide, "ExpressionDesk$Gathering", Or.inl rfl, w_226, rfl, rfl⟩
theorem fl_G_28 : hp_fl "ExpressionDesk$Gathering" 28 7 4 (.object "ExpressionDesk$Reckoner") true := ⟨_, _, _, f_G, rfl, i_G, t_G, n_G, by decide, "ExpressionDesk$Gathering", Or.inl rfl, w_227, rfl, rfl⟩
theorem fl_G_32 : hp_fl "ExpressionDesk$Gathering" 32 7 5 (.int) false := ⟨_, _, _, f_G, rfl, i_G, t_G, n_G, by decide, "ExpressionDesk$Gathering", Or.inl rfl, w_228, rfl, rfl⟩
theorem fl_G_36 : hp_fl "ExpressionDesk$Gathering" 36 7 0 (.object "ExpressionDesk$Store") true := ⟨_, _, _, f_G, rfl, i_G, t_G, n_G, by decide, "ExpressionDesk$Gathering", Or.inl rfl, w_223, rfl, rfl⟩
theorem fl_G_46 : hp_fl "ExpressionDesk$Gathering" 46 3 0 (.int) true := ⟨_, _, _, f_V, rfl, i_V, t_V, n_V, by decide, "ExpressionDesk$Value", Or.inl rfl, w_72, rfl, rfl⟩
theorem fl_G_51 : hp_fl "ExpressionDesk$Gathering" 51 7 6 (.boolean) false := ⟨_, _, _, f_G, rfl, i_G, t_G, n_G, by decide, "ExpressionDesk$Gathering", Or.inl rfl, w_229, rfl, rfl⟩
theorem fl_G_55 : hp_fl "ExpressionDesk$Gathering" 55 7 7 (.int) false := ⟨_, _, _, f_G, rfl, i_G, t_G, n_G, by decide, "ExpressionDesk$Gathering", Or.inl rfl, w_230, rfl, rfl⟩
theorem fl_G_58 : hp_fl "ExpressionDesk$Gathering" 58 7 8 (.int) false := ⟨_, _, _, f_G, rfl, i_G, t_G, n_G, by decide, "ExpressionDesk$Gathering", Or.inl rfl, w_231, rfl, rfl⟩
theorem fl_G_97 : hp_fl "ExpressionDesk$Gathering" 97 6 0 (.boolean) false := ⟨_, _, _, f_K, rfl, i_K, t_K, n_K, by decide, "ExpressionDesk$Reckoner", Or.inl rfl, w_168, rfl, rfl⟩
theorem fl_G_104 : hp_fl "ExpressionDesk$Gathering" 104 3 2 (.long) true := ⟨_, _, _, f_V, rfl, i_V, t_V, n_V, by decide, "ExpressionDesk$Value", Or.inl rfl, w_84, rfl, rfl⟩
theorem fl_G_108 : hp_fl "ExpressionDesk$Gathering" 108 3 3 (.int) true := ⟨_, _, _, f_V, rfl, i_V, t_V, n_V, by decide, "ExpressionDesk$Value", Or.inl rfl, w_89, rfl, rfl⟩
theorem fl_G_129 : hp_fl "ExpressionDesk$Gathering" 129 3 4 (.array (.byte)) true := ⟨_, _, _, f_V, rfl, i_V, t_V, n_V, by decide, "ExpressionDesk$Value", Or.inl rfl, w_98, rfl, rfl⟩
theorem fl_G_144 : hp_fl "ExpressionDesk$Gathering" 144 4 2 (.boolean) false := ⟨_, _, _, f_R, rfl, i_R, t_R, n_R, by decide, "ExpressionDesk$Row", Or.inl rfl, w_129, rfl, rfl⟩
theorem fl_K_9 : hp_fl "ExpressionDesk$Reckoner" 9 6 0 (.boolean) false := ⟨_, _, _, f_K, rfl, i_K, t_K, n_K, by decide, "ExpressionDesk$Reckoner", Or.inl rfl, w_167, rfl, rfl⟩
theorem fl_K_15 : hp_fl "ExpressionDesk$Reckoner" 15 6 1 (.boolean) false := ⟨_, _, _, f_K, rfl, i_K, t_K, n_K, by decide, "ExpressionDesk$Reckoner", Or.inl rfl, w_170, rfl, rfl⟩
theorem fl_K_18 : hp_fl "ExpressionDesk$Reckoner" 18 6 2 (.long) false := ⟨_, _, _, f_K, rfl, i_K, t_K, n_K, by decide, "ExpressionDesk$Reckoner", Or.inl rfl, w_172, rfl, rfl⟩
theorem fl_K_22 : hp_fl "ExpressionDesk$Reckoner" 22 6 3 (.int) false := ⟨_, _, _, f_K, rfl, i_K, t_K, n_K, by decide, "ExpressionDesk$Reckoner", Or.inl rfl, w_174, rfl, rfl⟩
theorem fl_R_9 : hp_fl "ExpressionDesk$Row" 9 4 0 (.array (.byte)) true := ⟨_, _, _, f_R, rfl, i_R, t_R, n_R, by decide, "ExpressionDesk$Row", Or.inl rfl, w_122, rfl, rfl⟩
theorem fl_R_15 : hp_fl "ExpressionDesk$Row" 15 4 1 (.int) false := ⟨_, _, _, f_R, rfl, i_R, t_R, n_R, by decide, "ExpressionDesk$Row", Or.inl rfl, w_124, rfl, rfl⟩
theorem fl_R_19 : hp_fl "ExpressionDesk$Row" 19 4 2 (.boolean) false := ⟨_, _, _, f_R, rfl, i_R, t_R, n_R, by decide, "ExpressionDesk$Row", Or.inl rfl, w_127, rfl, rfl⟩
theorem fl_R_54 : hp_fl "ExpressionDesk$Row" 54 3 2 (.long) true := ⟨_, _, _, f_V, rfl, i_V, t_V, n_V, by decide, "ExpressionDesk$Value", Or.inl rfl, w_83, rfl, rfl⟩
theorem fl_R_64 : hp_fl "ExpressionDesk$Row" 64 3 0 (.int) true := ⟨_, _, _, f_V, rfl, i_V, t_V, n_V, by decide, "ExpressionDesk$Value", Or.inl rfl, w_73, rfl, rfl⟩
theorem fl_R_67 : hp_fl "ExpressionDesk$Row" 67 3 1 (.int) true := ⟨_, _, _, f_V, rfl, i_V, t_V, n_V, by decide, "ExpressionDesk$Value", Or.inl rfl, w_78, rfl, rfl⟩
theorem fl_R_74 : hp_fl "ExpressionDesk$Row" 74 3 3 (.int) true := ⟨_, _, _, f_V, rfl, i_V, t_V, n_V, by decide, "ExpressionDesk$Value", Or.inl rfl, w_90, rfl, rfl⟩
theorem fl_R_77 : hp_fl "ExpressionDesk$Row" 77 3 4 (.array (.byte)) true := ⟨_, _, _, f_V, rfl, i_V, t_V, n_V, by decide, "ExpressionDesk$Value", Or.inl rfl, w_95, rfl, rfl⟩
theorem fl_S_12 : hp_fl "ExpressionDesk$Store" 12 1 0 (.object "java/util/ArrayList") true := ⟨_, _, _, f_S, rfl, i_S, t_S, n_S, by decide, "ExpressionDesk$Store", Or.inl rfl, w_138, rfl, rfl⟩
theorem fl_S_18 : hp_fl "ExpressionDesk$Store" 18 1 1 (.array (.int)) true := ⟨_, _, _, f_S, rfl, i_S, t_S, n_S, by decide, "ExpressionDesk$Store", Or.inl rfl, w_139, rfl, rfl⟩
theorem fl_S_31 : hp_fl "ExpressionDesk$Store" 31 1 2 (.object "ExpressionDesk$Value") true := ⟨_, _, _, f_S, rfl, i_S, t_S, n_S, by decide, "ExpressionDesk$Store", Or.inl rfl, w_140, rfl, rfl⟩
theorem fl_S_38 : hp_fl "ExpressionDesk$Store" 38 1 3 (.object "ExpressionDesk$Row") true := ⟨_, _, _, f_S, rfl, i_S, t_S, n_S, by decide, "ExpressionDesk$Store", Or.inl rfl, w_141, rfl, rfl⟩
theorem fl_S_54 : hp_fl "ExpressionDesk$Store" 54 4 2 (.boolean) false := ⟨_, _, _, f_R, rfl, i_R, t_R, n_R, by decide, "ExpressionDesk$Row", Or.inl rfl, w_128, rfl, rfl⟩
theorem fl_S_58 : hp_fl "ExpressionDesk$Store" 58 6 0 (.boolean) false := ⟨_, _, _, f_K, rfl, i_K, t_K, n_K, by decide, "ExpressionDesk$Reckoner", Or.inl rfl, w_169, rfl, rfl⟩
theorem fl_S_63 : hp_fl "ExpressionDesk$Store" 63 6 1 (.boolean) false := ⟨_, _, _, f_K, rfl, i_K, t_K, n_K, by decide, "ExpressionDesk$Reckoner", Or.inl rfl, w_171, rfl, rfl⟩
theorem fl_S_66 : hp_fl "ExpressionDesk$Store" 66 6 2 (.long) false := ⟨_, _, _, f_K, rfl, i_K, t_K, n_K, by decide, "ExpressionDesk$Reckoner", Or.inl rfl, w_173, rfl, rfl⟩
theorem fl_S_70 : hp_fl "ExpressionDesk$Store" 70 6 3 (.int) false := ⟨_, _, _, f_K, rfl, i_K, t_K, n_K, by decide, "ExpressionDesk$Reckoner", Or.inl rfl, w_175, rfl, rfl⟩
theorem fl_S_81 : hp_fl "ExpressionDesk$Store" 81 3 0 (.int) true := ⟨_, _, _, f_V, rfl, i_V, t_V, n_V, by decide, "ExpressionDesk$Value", Or.inl rfl, w_75, rfl, rfl⟩
theorem fl_S_84 : hp_fl "ExpressionDesk$Store" 84 3 1 (.int) true := ⟨_, _, _, f_V, rfl, i_V, t_V, n_V, by decide, "ExpressionDesk$Value", Or.inl rfl, w_80, rfl, rfl⟩
theorem fl_S_87 : hp_fl "ExpressionDesk$Store" 87 3 2 (.long) true := ⟨_, _, _, f_V, rfl, i_V, t_V, n_V, by decide, "ExpressionDesk$Value", Or.inl rfl, w_86, rfl, rfl⟩
theorem fl_S_88 : hp_fl "ExpressionDesk$Store" 88 3 3 (.int) true := ⟨_, _, _, f_V, rfl, i_V, t_V, n_V, by decide, "ExpressionDesk$Value", Or.inl rfl, w_92, rfl, rfl⟩
theorem fl_S_89 : hp_fl "ExpressionDesk$Store" 89 3 4 (.array (.byte)) true := ⟨_, _, _, f_V, rfl, i_V, t_V, n_V, by decide, "ExpressionDesk$Value", Or.inl rfl, w_97, rfl, rfl⟩
theorem fl_S_96 : hp_fl "ExpressionDesk$Store" 96 3 5 (.int) true := ⟨_, _, _, f_V, rfl, i_V, t_V, n_V, by decide, "ExpressionDesk$Value", Or.inl rfl, w_101, rfl, rfl⟩
theorem fl_S_99 : hp_fl "ExpressionDesk$Store" 99 4 1 (.int) false := ⟨_, _, _, f_R, rfl, i_R, t_R, n_R, by decide, "ExpressionDesk$Row", Or.inl rfl, w_126, rfl, rfl⟩
theorem fl_S_102 : hp_fl "ExpressionDesk$Store" 102 4 0 (.array (.byte)) true := ⟨_, _, _, f_R, rfl, i_R, t_R, n_R, by decide, "ExpressionDesk$Row", Or.inl rfl, w_123, rfl, rfl⟩
theorem fl_V_9 : hp_fl "ExpressionDesk$Value" 9 3 0 (.int) true := ⟨_, _, _, f_V, rfl, i_V, t_V, n_V, by decide, "ExpressionDesk$Value", Or.inl rfl, w_71, rfl, rfl⟩
theorem fl_V_15 : hp_fl "ExpressionDesk$Value" 15 3 1 (.int) true := ⟨_, _, _, f_V, rfl, i_V, t_V, n_V, by decide, "ExpressionDesk$Value", Or.inl rfl, w_77, rfl, rfl⟩
theorem fl_V_18 : hp_fl "ExpressionDesk$Value" 18 3 2 (.long) true := ⟨_, _, _, f_V, rfl, i_V, t_V, n_V, by decide, "ExpressionDesk$Value", Or.inl rfl, w_82, rfl, rfl⟩
theorem fl_V_22 : hp_fl "ExpressionDesk$Value" 22 3 3 (.int) true := ⟨_, _, _, f_V, rfl, i_V, t_V, n_V, by decide, "ExpressionDesk$Value", Or.inl rfl, w_88, rfl, rfl⟩
theorem fl_V_25 : hp_fl "ExpressionDesk$Value" 25 3 4 (.array (.byte)) true := ⟨_, _, _, f_V, rfl, i_V, t_V, n_V, by decide, "ExpressionDesk$Value", Or.inl rfl, w_94, rfl, rfl⟩
theorem fl_V_29 : hp_fl "ExpressionDesk$Value" 29 3 5 (.int) true := ⟨_, _, _, f_V, rfl, i_V, t_V, n_V, by decide, "ExpressionDesk$Value", Or.inl rfl, w_100, rfl, rfl⟩
theorem fl_M_7 : hp_fl "ExpressionDeskModel" 7 8 1 (.array (.int)) true := ⟨_, _, _, f_M, rfl, i_M, t_M, n_M, by decide, "ExpressionDeskModel", Or.inl rfl, w_855, rfl, rfl⟩
theorem fl_M_13 : hp_fl "ExpressionDeskModel" 13 8 2 (.array (.int)) true := ⟨_, _, _, f_M, rfl, i_M, t_M, n_M, by decide, "ExpressionDeskModel", Or.inl rfl, w_856, rfl, rfl⟩
theorem fl_M_16 : hp_fl "ExpressionDeskModel" 16 8 3 (.array (.int)) true := ⟨_, _, _, f_M, rfl, i_M, t_M, n_M, by decide, "ExpressionDeskModel", Or.inl rfl, w_857, rfl, rfl⟩
theorem fl_M_19 : hp_fl "ExpressionDeskModel" 19 8 4 (.array (.int)) true := ⟨_, _, _, f_M, rfl, i_M, t_M, n_M, by decide, "ExpressionDeskModel", Or.inl rfl, w_858, rfl, rfl⟩
theorem fl_M_23 : hp_fl "ExpressionDeskModel" 23 8 5 (.array (.int)) true := ⟨_, _, _, f_M, rfl, i_M, t_M, n_M, by decide, "ExpressionDeskModel", Or.inl rfl, w_859, rfl, rfl⟩
theorem fl_M_26 : hp_fl "ExpressionDeskModel" 26 8 6 (.array (.int)) true := ⟨_, _, _, f_M, rfl, i_M, t_M, n_M, by decide, "ExpressionDeskModel", Or.inl rfl, w_860, rfl, rfl⟩
theorem fl_M_30 : hp_fl "ExpressionDeskModel" 30 8 7 (.array (.int)) true := ⟨_, _, _, f_M, rfl, i_M, t_M, n_M, by decide, "ExpressionDeskModel", Or.inl rfl, w_861, rfl, rfl⟩
theorem fl_M_33 : hp_fl "ExpressionDeskModel" 33 8 8 (.array (.int)) true := ⟨_, _, _, f_M, rfl, i_M, t_M, n_M, by decide, "ExpressionDeskModel", Or.inl rfl, w_862, rfl, rfl⟩
theorem fl_M_36 : hp_fl "ExpressionDeskModel" 36 8 14 (.array (.int)) true := ⟨_, _, _, f_M, rfl, i_M, t_M, n_M, by decide, "ExpressionDeskModel", Or.inl rfl, w_868, rfl, rfl⟩
theorem fl_M_39 : hp_fl "ExpressionDeskModel" 39 8 15 (.array (.int)) true := ⟨_, _, _, f_M, rfl, i_M, t_M, n_M, by decide, "ExpressionDeskModel", Or.inl rfl, w_869, rfl, rfl⟩
theorem fl_M_42 : hp_fl "ExpressionDeskModel" 42 8 17 (.array (.int)) true := ⟨_, _, _, f_M, rfl, i_M, t_M, n_M, by decide, "ExpressionDeskModel", Or.inl rfl, w_871, rfl, rfl⟩
theorem fl_M_45 : hp_fl "ExpressionDeskModel" 45 8 18 (.array (.int)) true := ⟨_, _, _, f_M, rfl, i_M, t_M, n_M, by decide, "ExpressionDeskModel", Or.inl rfl, w_872, rfl, rfl⟩
theorem fl_M_48 : hp_fl "ExpressionDeskModel" 48 8 19 (.array (.int)) true := ⟨_, _, _, f_M, rfl, i_M, t_M, n_M, by decide, "ExpressionDeskModel", Or.inl rfl, w_873, rfl, rfl⟩
theorem fl_M_51 : hp_fl "ExpressionDeskModel" 51 8 20 (.array (.int)) true := ⟨_, _, _, f_M, rfl, i_M, t_M, n_M, by decide, "ExpressionDeskModel", Or.inl rfl, w_874, rfl, rfl⟩
theorem fl_M_54 : hp_fl "ExpressionDeskModel" 54 8 21 (.array (.int)) true := ⟨_, _, _, f_M, rfl, i_M, t_M, n_M, by decide, "ExpressionDeskModel", Or.inl rfl, w_875, rfl, rfl⟩
theorem fl_M_57 : hp_fl "ExpressionDeskModel" 57 8 23 (.array (.int)) true := ⟨_, _, _, f_M, rfl, i_M, t_M, n_M, by decide, "ExpressionDeskModel", Or.inl rfl, w_877, rfl, rfl⟩
theorem fl_M_60 : hp_fl "ExpressionDeskModel" 60 8 24 (.array (.int)) true := ⟨_, _, _, f_M, rfl, i_M, t_M, n_M, by decide, "ExpressionDeskModel", Or.inl rfl, w_878, rfl, rfl⟩
theorem fl_M_63 : hp_fl "ExpressionDeskModel" 63 8 25 (.array (.int)) true := ⟨_, _, _, f_M, rfl, i_M, t_M, n_M, by decide, "ExpressionDeskModel", Or.inl rfl, w_879, rfl, rfl⟩
theorem fl_M_66 : hp_fl "ExpressionDeskModel" 66 8 30 (.array (.int)) true := ⟨_, _, _, f_M, rfl, i_M, t_M, n_M, by decide, "ExpressionDeskModel", Or.inl rfl, w_884, rfl, rfl⟩
theorem fl_M_69 : hp_fl "ExpressionDeskModel" 69 8 33 (.array (.int)) true := ⟨_, _, _, f_M, rfl, i_M, t_M, n_M, by decide, "ExpressionDeskModel", Or.inl rfl, w_887, rfl, rfl⟩
theorem fl_M_72 : hp_fl "ExpressionDeskModel" 72 8 10 (.int) false := ⟨_, _, _, f_M, rfl, i_M, t_M, n_M, by decide, "ExpressionDeskModel", Or.inl rfl, w_864, rfl, rfl⟩
theorem fl_M_76 : hp_fl "ExpressionDeskModel" 76 8 11 (.int) false := ⟨_, _, _, f_M, rfl, i_M, t_M, n_M, by decide, "ExpressionDeskModel", Or.inl rfl, w_865, rfl, rfl⟩
theorem fl_M_79 : hp_fl "ExpressionDeskModel" 79 8 12 (.int) false := ⟨_, _, _, f_M, rfl, i_M, t_M, n_M, by decide, "ExpressionDeskModel", Or.inl rfl, w_866, rfl, rfl⟩
theorem fl_M_82 : hp_fl "ExpressionDeskModel" 82 8 13 (.int) false := ⟨_, _, _, f_M, rfl, i_M, t_M, n_M, by decide, "ExpressionDeskModel", Or.inl rfl, w_867, rfl, rfl⟩
theorem fl_M_85 : hp_fl "ExpressionDeskModel" 85 8 16 (.int) false := ⟨_, _, _, f_M, rfl, i_M, t_M, n_M, by decide, "ExpressionDeskModel", Or.inl rfl, w_870, rfl, rfl⟩
theorem fl_M_88 : hp_fl "ExpressionDeskModel" 88 8 0 (.int) false := ⟨_, _, _, f_M, rfl, i_M, t_M, n_M, by decide, "ExpressionDeskModel", Or.inl rfl, w_854, rfl, rfl⟩
theorem fl_M_144 : hp_fl "ExpressionDeskModel" 144 8 9 (.int) false := ⟨_, _, _, f_M, rfl, i_M, t_M, n_M, by decide, "ExpressionDeskModel", Or.inl rfl, w_863, rfl, rfl⟩
theorem fl_M_238 : hp_fl "ExpressionDeskModel" 238 8 22 (.int) false := ⟨_, _, _, f_M, rfl, i_M, t_M, n_M, by decide, "ExpressionDeskModel", Or.inl rfl, w_876, rfl, rfl⟩
theorem fl_M_318 : hp_fl "ExpressionDeskModel" 318 8 27 (.int) false := ⟨_, _, _, f_M, rfl, i_M, t_M, n_M, by decide, "ExpressionDeskModel", Or.inl rfl, w_881, rfl, rfl⟩
theorem fl_M_321 : hp_fl "ExpressionDeskModel" 321 8 28 (.boolean) false := ⟨_, _, _, f_M, rfl, i_M, t_M, n_M, by decide, "ExpressionDeskModel", Or.inl rfl, w_882, rfl, rfl⟩
theorem fl_M_325 : hp_fl "ExpressionDeskModel" 325 8 29 (.int) false := ⟨_, _, _, f_M, rfl, i_M, t_M, n_M, by decide, "ExpressionDeskModel", Or.inl rfl, w_883, rfl, rfl⟩
theorem fl_M_328 : hp_fl "ExpressionDeskModel" 328 8 26 (.int) false := ⟨_, _, _, f_M, rfl, i_M, t_M, n_M, by decide, "ExpressionDeskModel", Or.inl rfl, w_880, rfl, rfl⟩
theorem fl_M_331 : hp_fl "ExpressionDeskModel" 331 8 31 (.int) false := ⟨_, _, _, f_M, rfl, i_M, t_M, n_M, by decide, "ExpressionDeskModel", Or.inl rfl, w_885, rfl, rfl⟩
theorem fl_M_334 : hp_fl "ExpressionDeskModel" 334 8 32 (.boolean) false := ⟨_, _, _, f_M, rfl, i_M, t_M, n_M, by decide, "ExpressionDeskModel", Or.inl rfl, w_886, rfl, rfl⟩
theorem fl_AB_7 : hp_fl "java/util/AbstractList" 7 2 2 (.int) false := ⟨_, _, _, f_AL, rfl, i_AL, t_AL, n_AL, by decide, "java/util/AbstractList", Or.inl rfl, w_53, rfl, rfl⟩
theorem fl_AL_9 : hp_fl "java/util/ArrayList" 9 2 0 (.array (.object "java/lang/Object")) false := ⟨_, _, _, f_AL, rfl, i_AL, t_AL, n_AL, by decide, "java/util/ArrayList", Or.inl rfl, w_51, rfl, rfl⟩
theorem fl_AL_48 : hp_fl "java/util/ArrayList" 48 2 1 (.int) false := ⟨_, _, _, f_AL, rfl, i_AL, t_AL, n_AL, by decide, "java/util/ArrayList", Or.inl rfl, w_52, rfl, rfl⟩
theorem fl_AL_63 : hp_fl "java/util/ArrayList" 63 2 2 (.int) false := ⟨_, _, _, f_AL, rfl, i_AL, t_AL, n_AL, by decide, "java/util/ArrayList", Or.inr w_55, w_54, rfl, rfl⟩
theorem nw_D_7 : hp_nw "ExpressionDesk" 7 1 4 [.null, .null, .null, .null] := ⟨_, _, f_S, rfl, i_S, t_S, rfl, by decide, w_31, w_32, w_2⟩
theorem nw_D_16 : hp_nw "ExpressionDesk" 16 4 3 [.null, .int 0, .int 0] := ⟨_, _, f_R, rfl, i_R, t_R, rfl, by decide, w_151, w_117, w_7⟩
theorem nw_D_23 : hp_nw "ExpressionDesk" 23 5 9 [.null, .null, .null, .null, .null, .null, .null, .int 0, .int 0] := ⟨_, _, f_E, rfl, i_E, t_E, rfl, by decide, w_153, w_154, w_8⟩
theorem nw_D_32 : hp_nw "ExpressionDesk" 32 7 9 [.null, .null, .null, .null, .null, .int 0, .int 0, .int 0, .int 0] := ⟨_, _, f_G, rfl, i_G, t_G, rfl, by decide, w_213, w_214, w_10⟩
theorem nw_E_24 : hp_nw "ExpressionDesk$Expression" 24 4 3 [.null, .int 0, .int 0] := ⟨_, _, f_R, rfl, i_R, t_R, rfl, by decide, w_159, w_117, w_7⟩
theorem nw_E_31 : hp_nw "ExpressionDesk$Expression" 31 6 4 [.int 0, .int 0, .long 0, .int 0] := ⟨_, _, f_K, rfl, i_K, t_K, rfl, by decide, w_161, w_162, w_9⟩
theorem nw_G_18 : hp_nw "ExpressionDesk$Gathering" 18 4 3 [.null, .int 0, .int 0] := ⟨_, _, f_R, rfl, i_R, t_R, rfl, by decide, w_219, w_117, w_7⟩
theorem nw_G_25 : hp_nw "ExpressionDesk$Gathering" 25 6 4 [.int 0, .int 0, .long 0, .int 0] := ⟨_, _, f_K, rfl, i_K, t_K, rfl, by decide, w_221, w_162, w_9⟩
theorem nw_S_9 : hp_nw "ExpressionDesk$Store" 9 2 3 [.null, .int 0, .int 0] := ⟨_, _, f_AL, rfl, i_AL, t_AL, rfl, by decide, w_37, w_38, w_5⟩
theorem nw_S_22 : hp_nw "ExpressionDesk$Store" 22 3 6 [.int 0, .int 0, .long 0, .int 0, .null, .int 0] := ⟨_, _, f_V, rfl, i_V, t_V, rfl, by decide, w_63, w_64, w_6⟩
theorem nw_S_35 : hp_nw "ExpressionDesk$Store" 35 4 3 [.null, .int 0, .int 0] := ⟨_, _, f_R, rfl, i_R, t_R, rfl, by decide, w_116, w_117, w_7⟩
theorem nw_L_7 : hp_nw "ExpressionDeskLaw" 7 0 4 [.null, .null, .null, .null] := ⟨_, _, f_D, rfl, i_D, t_D, rfl, by decide, w_23, w_24, w_1⟩
theorem nw_L_10 : hp_nw "ExpressionDeskLaw" 10 8 34 [.int 0, .null, .null, .null, .null, .null, .null, .null, .null, .int 0, .int 0, .int 0, .int 0, .int 0, .null, .null, .int 0, .null, .null, .null, .null, .null, .int 0, .null, .null, .null, .int 0, .int 0, .int 0, .int 0, .null, .int 0, .int 0, .null] := ⟨_, _, f_M, rfl, i_M, t_M, rfl, by decide, w_846, w_847, w_11⟩
theorem cw_D_9 : hp_cn "ExpressionDesk" 9 y_S_init "ExpressionDesk" Y_S_init 0 := ⟨w_33, w_2, w_35, by decide +kernel⟩
theorem cw_D_18 : hp_cn "ExpressionDesk" 18 y_R_init "ExpressionDesk" Y_R_init 0 := ⟨w_152, w_7, w_120, by decide +kernel⟩
theorem cw_D_25 : hp_cw "ExpressionDesk" 25 y_E_init Y_E_init 1 := ⟨w_155, w_8, w_157, by decide +kernel⟩
theorem cw_D_34 : hp_cw "ExpressionDesk" 34 y_G_init Y_G_init 1 := ⟨w_215, w_10, w_217, by decide +kernel⟩
theorem cw_D_43 : hp_cw "ExpressionDesk" 43 y_R_put Y_R_put 1 := ⟨w_268, w_7, w_271, by decide +kernel⟩
theorem cw_D_47 : hp_cw "ExpressionDesk" 47 y_D_isInSize Y_D_isInSize 1 := ⟨w_276, w_1, w_278, by decide +kernel⟩
theorem cw_D_51 : hp_cw "ExpressionDesk" 51 y_S_keepNumber Y_S_keepNumber 3 := ⟨w_281, w_2, w_284, by decide +kernel⟩
theorem cw_D_57 : hp_cw "ExpressionDesk" 57 y_S_keepTruth Y_S_keepTruth 1 := ⟨w_390, w_2, w_393, by decide +kernel⟩
theorem cw_D_61 : hp_cw "ExpressionDesk" 61 y_S_keepNumbered Y_S_keepNumbered 2 := ⟨w_398, w_2, w_401, by decide +kernel⟩
theorem cw_D_65 : hp_cw "ExpressionDesk" 65 y_D_isTextKind Y_D_isTextKind 2 := ⟨w_406, w_1, w_408, by decide +kernel⟩
theorem cw_D_69 : hp_cw "ExpressionDesk" 69 y_R_isText Y_R_isText 0 := ⟨w_409, w_7, w_412, by decide +kernel⟩
theorem cw_D_73 : hp_cw "ExpressionDesk" 73 y_S_keepRow Y_S_keepRow 3 := ⟨w_413, w_2, w_416, by decide +kernel⟩
theorem cw_D_77 : hp_cw "ExpressionDesk" 77 y_R_clear Y_R_clear 0 := ⟨w_417, w_7, w_420, by decide +kernel⟩
theorem cw_D_80 : hp_cw "ExpressionDesk" 80 y_S_at Y_S_at 1 := ⟨w_425, w_2, w_428, by decide +kernel⟩
theorem cw_D_103 : hp_cw "ExpressionDesk" 103 y_S_count Y_S_count 0 := ⟨w_441, w_2, w_444, by decide +kernel⟩
theorem cw_D_107 : hp_cw "ExpressionDesk" 107 y_V_comparedTo Y_V_comparedTo 1 := ⟨w_449, w_6, w_452, by decide +kernel⟩
theorem cw_D_111 : hp_cw "ExpressionDesk" 111 y_E_append Y_E_append 2 := ⟨w_490, w_8, w_493, by decide +kernel⟩
theorem cw_D_114 : hp_cw "ExpressionDesk" 114 y_E_restart Y_E_restart 0 := ⟨w_501, w_8, w_504, by decide +kernel⟩
theorem cw_D_117 : hp_cw "ExpressionDesk" 117 y_E_let Y_E_let 2 := ⟨w_509, w_8, w_512, by decide +kernel⟩
theorem cw_D_120 : hp_cw "ExpressionDesk" 120 y_E_evaluate Y_E_evaluate 0 := ⟨w_518, w_8, w_521, by decide +kernel⟩
theorem cw_D_123 : hp_cw "ExpressionDesk" 123 y_V_truthOf Y_V_truthOf 0 := ⟨w_780, w_6, w_559, by decide +kernel⟩
theorem cw_D_126 : hp_cw "ExpressionDesk" 126 y_G_restart Y_G_restart 3 := ⟨w_785, w_10, w_788, by decide +kernel⟩
theorem cw_D_129 : hp_cw "ExpressionDesk" 129 y_G_take Y_G_take 1 := ⟨w_794, w_10, w_797, by decide +kernel⟩
theorem cw_D_133 : hp_cw "ExpressionDesk" 133 y_G_answer Y_G_answer 0 := ⟨w_807, w_10, w_810, by decide +kernel⟩
theorem cw_D_144 : hp_cw "ExpressionDesk" 144 y_D_power Y_D_power 1 := ⟨w_475, w_1, w_463, by decide +kernel⟩
theorem cw_D_148 : hp_cw "ExpressionDesk" 148 y_MA_floorMod Y_MA_floorMod 2 := ⟨w_476, w_15, w_478, by decide +kernel⟩
theorem cw_E_26 : hp_cn "ExpressionDesk$Expression" 26 y_R_init "ExpressionDesk" Y_R_init 0 := ⟨w_160, w_7, w_120, by decide +kernel⟩
theorem cw_E_33 : hp_cn "ExpressionDesk$Expression" 33 y_K_init "ExpressionDesk" Y_K_init 0 := ⟨w_163, w_9, w_165, by decide +kernel⟩
theorem cw_E_42 : hp_cw "ExpressionDesk$Expression" 42 y_E_takesMany Y_E_takesMany 1 := ⟨w_494, w_8, w_496, by decide +kernel⟩
theorem cw_E_50 : hp_cw "ExpressionDesk$Expression" 50 y_S_count Y_S_count 0 := ⟨w_513, w_2, w_444, by decide +kernel⟩
theorem cw_E_56 : hp_cw "ExpressionDesk$Expression" 56 y_E_isRight Y_E_isRight 0 := ⟨w_522, w_8, w_525, by decide +kernel⟩
theorem cw_E_63 : hp_cw "ExpressionDesk$Expression" 63 y_E_takenBy Y_E_takenBy 2 := ⟨w_526, w_8, w_528, by decide +kernel⟩
theorem cw_E_67 : hp_cw "ExpressionDesk$Expression" 67 y_E_bearsErrors Y_E_bearsErrors 1 := ⟨w_531, w_8, w_533, by decide +kernel⟩
theorem cw_E_70 : hp_cw "ExpressionDesk$Expression" 70 y_E_performWithErrors Y_E_performWithErrors 2 := ⟨w_534, w_8, w_537, by decide +kernel⟩
theorem cw_E_73 : hp_cw "ExpressionDesk$Expression" 73 y_E_hasTakenError Y_E_hasTakenError 1 := ⟨w_578, w_8, w_581, by decide +kernel⟩
theorem cw_E_76 : hp_cw "ExpressionDesk$Expression" 76 y_E_performOnValues Y_E_performOnValues 2 := ⟨w_582, w_8, w_585, by decide +kernel⟩
theorem cw_E_82 : hp_cw "ExpressionDesk$Expression" 82 y_E_numberTaken Y_E_numberTaken 1 := ⟨w_552, w_8, w_555, by decide +kernel⟩
theorem cw_E_86 : hp_cw "ExpressionDesk$Expression" 86 y_S_at Y_S_at 1 := ⟨w_538, w_2, w_428, by decide +kernel⟩
theorem cw_E_90 : hp_cw "ExpressionDesk$Expression" 90 y_E_taken Y_E_taken 1 := ⟨w_548, w_8, w_551, by decide +kernel⟩
theorem cw_E_98 : hp_cw "ExpressionDesk$Expression" 98 y_E_boundTo Y_E_boundTo 1 := ⟨w_539, w_8, w_542, by decide +kernel⟩
theorem cw_E_101 : hp_cw "ExpressionDesk$Expression" 101 y_S_keepTruth Y_S_keepTruth 1 := ⟨w_543, w_2, w_393, by decide +kernel⟩
theorem cw_E_105 : hp_cw "ExpressionDesk$Expression" 105 y_E_decidedBy Y_E_decidedBy 1 := ⟨w_544, w_8, w_547, by decide +kernel⟩
theorem cw_E_108 : hp_cw "ExpressionDesk$Expression" 108 y_E_chosen Y_E_chosen 0 := ⟨w_560, w_8, w_563, by decide +kernel⟩
theorem cw_E_111 : hp_cw "ExpressionDesk$Expression" 111 y_E_firstGood Y_E_firstGood 1 := ⟨w_564, w_8, w_567, by decide +kernel⟩
theorem cw_E_114 : hp_cw "ExpressionDesk$Expression" 114 y_E_among Y_E_among 1 := ⟨w_568, w_8, w_571, by decide +kernel⟩
theorem cw_E_117 : hp_cw "ExpressionDesk$Expression" 117 y_V_truthOf Y_V_truthOf 0 := ⟨w_556, w_6, w_559, by decide +kernel⟩
theorem cw_E_120 : hp_cw "ExpressionDesk$Expression" 120 y_E_judged Y_E_judged 2 := ⟨w_586, w_8, w_589, by decide +kernel⟩
theorem cw_E_123 : hp_cw "ExpressionDesk$Expression" 123 y_E_equal Y_E_equal 2 := ⟨w_572, w_8, w_575, by decide +kernel⟩
theorem cw_E_126 : hp_cw "ExpressionDesk$Expression" 126 y_E_compared Y_E_compared 1 := ⟨w_590, w_8, w_593, by decide +kernel⟩
theorem cw_E_129 : hp_cw "ExpressionDesk$Expression" 129 y_E_reckoned Y_E_reckoned 1 := ⟨w_595, w_8, w_598, by decide +kernel⟩
theorem cw_E_132 : hp_cw "ExpressionDesk$Expression" 132 y_E_ofNumber Y_E_ofNumber 1 := ⟨w_635, w_8, w_638, by decide +kernel⟩
theorem cw_E_135 : hp_cw "ExpressionDesk$Expression" 135 y_E_chained Y_E_chained 1 := ⟨w_645, w_8, w_648, by decide +kernel⟩
theorem cw_E_138 : hp_cw "ExpressionDesk$Expression" 138 y_E_ofText Y_E_ofText 1 := ⟨w_661, w_8, w_664, by decide +kernel⟩
theorem cw_E_141 : hp_cw "ExpressionDesk$Expression" 141 y_E_searched Y_E_searched 1 := ⟨w_680, w_8, w_683, by decide +kernel⟩
theorem cw_E_144 : hp_cw "ExpressionDesk$Expression" 144 y_E_ofAny Y_E_ofAny 1 := ⟨w_694, w_8, w_697, by decide +kernel⟩
theorem cw_E_147 : hp_cw "ExpressionDesk$Expression" 147 y_V_isNumber Y_V_isNumber 0 := ⟨w_576, w_6, w_456, by decide +kernel⟩
theorem cw_E_150 : hp_cw "ExpressionDesk$Expression" 150 y_V_comparedByAmount Y_V_comparedByAmount 1 := ⟨w_577, w_6, w_460, by decide +kernel⟩
theorem cw_E_154 : hp_cw "ExpressionDesk$Expression" 154 y_V_comparedTo Y_V_comparedTo 1 := ⟨w_594, w_6, w_452, by decide +kernel⟩
theorem cw_E_164 : hp_cw "ExpressionDesk$Expression" 164 y_K_start Y_K_start 3 := ⟨w_599, w_9, w_602, by decide +kernel⟩
theorem cw_E_168 : hp_cw "ExpressionDesk$Expression" 168 y_K_plus Y_K_plus 3 := ⟨w_603, w_9, w_606, by decide +kernel⟩
theorem cw_E_171 : hp_cw "ExpressionDesk$Expression" 171 y_K_times Y_K_times 3 := ⟨w_617, w_9, w_620, by decide +kernel⟩
theorem cw_E_174 : hp_cw "ExpressionDesk$Expression" 174 y_K_over Y_K_over 2 := ⟨w_625, w_9, w_628, by decide +kernel⟩
theorem cw_E_178 : hp_cw "ExpressionDesk$Expression" 178 y_S_keepReckoned Y_S_keepReckoned 1 := ⟨w_630, w_2, w_633, by decide +kernel⟩
theorem cw_E_182 : hp_cn "ExpressionDesk$Expression" 182 y_D_power "ExpressionDesk" Y_D_power 1 := ⟨w_639, w_1, w_463, by decide +kernel⟩
theorem cw_E_186 : hp_cw "ExpressionDesk$Expression" 186 y_MA_floorDiv Y_MA_floorDiv 2 := ⟨w_640, w_15, w_468, by decide +kernel⟩
theorem cw_E_192 : hp_cw "ExpressionDesk$Expression" 192 y_MA_floorMod Y_MA_floorMod 2 := ⟨w_641, w_15, w_478, by decide +kernel⟩
theorem cw_E_195 : hp_cw "ExpressionDesk$Expression" 195 y_S_keepNumber Y_S_keepNumber 3 := ⟨w_642, w_2, w_284, by decide +kernel⟩
theorem cw_E_199 : hp_cw "ExpressionDesk$Expression" 199 y_MA_abs Y_MA_abs 1 := ⟨w_643, w_15, w_623, by decide +kernel⟩
theorem cw_E_205 : hp_cw "ExpressionDesk$Expression" 205 y_R_clear Y_R_clear 0 := ⟨w_649, w_7, w_420, by decide +kernel⟩
theorem cw_E_211 : hp_cw "ExpressionDesk$Expression" 211 y_V_isPlainOrTagged Y_V_isPlainOrTagged 0 := ⟨w_650, w_6, w_653, by decide +kernel⟩
theorem cw_E_218 : hp_cw "ExpressionDesk$Expression" 218 y_R_putPart Y_R_putPart 3 := ⟨w_654, w_7, w_657, by decide +kernel⟩
theorem cw_E_222 : hp_cw "ExpressionDesk$Expression" 222 y_S_keepRow Y_S_keepRow 3 := ⟨w_660, w_2, w_416, by decide +kernel⟩
theorem cw_E_226 : hp_cw "ExpressionDesk$Expression" 226 y_E_part Y_E_part 3 := ⟨w_665, w_8, w_668, by decide +kernel⟩
theorem cw_E_230 : hp_cw "ExpressionDesk$Expression" 230 y_E_turned Y_E_turned 4 := ⟨w_675, w_8, w_678, by decide +kernel⟩
theorem cw_E_234 : hp_cw "ExpressionDesk$Expression" 234 y_MA_max2 Y_MA_max2 2 := ⟨w_669, w_15, w_671, by decide +kernel⟩
theorem cw_E_237 : hp_cw "ExpressionDesk$Expression" 237 y_MA_min2 Y_MA_min2 2 := ⟨w_672, w_15, w_674, by decide +kernel⟩
theorem cw_E_240 : hp_cw "ExpressionDesk$Expression" 240 y_R_put Y_R_put 1 := ⟨w_679, w_7, w_271, by decide +kernel⟩
theorem cw_E_244 : hp_cw "ExpressionDesk$Expression" 244 y_E_firstPlace Y_E_firstPlace 2 := ⟨w_684, w_8, w_686, by decide +kernel⟩
theorem cw_E_248 : hp_cw "ExpressionDesk$Expression" 248 y_E_isAt Y_E_isAt 3 := ⟨w_687, w_8, w_689, by decide +kernel⟩
theorem cw_E_252 : hp_cw "ExpressionDesk$Expression" 252 y_E_cut Y_E_cut 4 := ⟨w_690, w_8, w_693, by decide +kernel⟩
theorem cw_E_255 : hp_cw "ExpressionDesk$Expression" 255 y_R_putString Y_R_putString 1 := ⟨w_698, w_7, w_701, by decide +kernel⟩
theorem cw_E_259 : hp_cw "ExpressionDesk$Expression" 259 y_E_tagText Y_E_tagText 1 := ⟨w_764, w_8, w_767, by decide +kernel⟩
theorem cw_E_262 : hp_cw "ExpressionDesk$Expression" 262 y_E_typeName Y_E_typeName 1 := ⟨w_769, w_8, w_772, by decide +kernel⟩
theorem cw_E_265 : hp_cw "ExpressionDesk$Expression" 265 y_R_putDigits Y_R_putDigits 2 := ⟨w_768, w_7, w_706, by decide +kernel⟩
theorem cw_E_271 : hp_cw "ExpressionDesk$Expression" 271 y_S_keepNumbered Y_S_keepNumbered 2 := ⟨w_775, w_2, w_401, by decide +kernel⟩
theorem cw_G_20 : hp_cn "ExpressionDesk$Gathering" 20 y_R_init "ExpressionDesk" Y_R_init 0 := ⟨w_220, w_7, w_120, by decide +kernel⟩
theorem cw_G_27 : hp_cn "ExpressionDesk$Gathering" 27 y_K_init "ExpressionDesk" Y_K_init 0 := ⟨w_222, w_9, w_165, by decide +kernel⟩
theorem cw_G_40 : hp_cw "ExpressionDesk$Gathering" 40 y_S_at Y_S_at 1 := ⟨w_789, w_2, w_428, by decide +kernel⟩
theorem cw_G_61 : hp_cw "ExpressionDesk$Gathering" 61 y_S_count Y_S_count 0 := ⟨w_798, w_2, w_444, by decide +kernel⟩
theorem cw_G_64 : hp_cw "ExpressionDesk$Gathering" 64 y_G_isThere Y_G_isThere 1 := ⟨w_799, w_10, w_802, by decide +kernel⟩
theorem cw_G_68 : hp_cw "ExpressionDesk$Gathering" 68 y_G_countGood Y_G_countGood 0 := ⟨w_811, w_10, w_814, by decide +kernel⟩
theorem cw_G_71 : hp_cw "ExpressionDesk$Gathering" 71 y_S_keepNumber Y_S_keepNumber 3 := ⟨w_815, w_2, w_284, by decide +kernel⟩
theorem cw_G_75 : hp_cw "ExpressionDesk$Gathering" 75 y_G_reckonSum Y_G_reckonSum 0 := ⟨w_816, w_10, w_819, by decide +kernel⟩
theorem cw_G_78 : hp_cw "ExpressionDesk$Gathering" 78 y_S_keepReckoned Y_S_keepReckoned 1 := ⟨w_823, w_2, w_633, by decide +kernel⟩
theorem cw_G_82 : hp_cw "ExpressionDesk$Gathering" 82 y_K_over Y_K_over 2 := ⟨w_824, w_9, w_628, by decide +kernel⟩
theorem cw_G_86 : hp_cw "ExpressionDesk$Gathering" 86 y_G_outermost Y_G_outermost 1 := ⟨w_825, w_10, w_828, by decide +kernel⟩
theorem cw_G_90 : hp_cw "ExpressionDesk$Gathering" 90 y_G_joined Y_G_joined 0 := ⟨w_830, w_10, w_833, by decide +kernel⟩
theorem cw_G_93 : hp_cw "ExpressionDesk$Gathering" 93 y_K_start Y_K_start 3 := ⟨w_820, w_9, w_602, by decide +kernel⟩
theorem cw_G_100 : hp_cw "ExpressionDesk$Gathering" 100 y_V_isNumber Y_V_isNumber 0 := ⟨w_821, w_6, w_456, by decide +kernel⟩
theorem cw_G_111 : hp_cw "ExpressionDesk$Gathering" 111 y_K_plus Y_K_plus 3 := ⟨w_822, w_9, w_606, by decide +kernel⟩
theorem cw_G_114 : hp_cw "ExpressionDesk$Gathering" 114 y_V_comparedTo Y_V_comparedTo 1 := ⟨w_829, w_6, w_452, by decide +kernel⟩
theorem cw_G_118 : hp_cw "ExpressionDesk$Gathering" 118 y_G_putAll Y_G_putAll 1 := ⟨w_834, w_10, w_837, by decide +kernel⟩
theorem cw_G_122 : hp_cw "ExpressionDesk$Gathering" 122 y_G_sortGathered Y_G_sortGathered 0 := ⟨w_841, w_10, w_844, by decide +kernel⟩
theorem cw_G_125 : hp_cw "ExpressionDesk$Gathering" 125 y_S_keepRow Y_S_keepRow 3 := ⟨w_845, w_2, w_416, by decide +kernel⟩
theorem cw_G_133 : hp_cw "ExpressionDesk$Gathering" 133 y_R_clear Y_R_clear 0 := ⟨w_838, w_7, w_420, by decide +kernel⟩
theorem cw_G_136 : hp_cw "ExpressionDesk$Gathering" 136 y_R_putPart Y_R_putPart 3 := ⟨w_839, w_7, w_657, by decide +kernel⟩
theorem cw_G_140 : hp_cw "ExpressionDesk$Gathering" 140 y_R_putString Y_R_putString 1 := ⟨w_840, w_7, w_701, by decide +kernel⟩
theorem cw_K_26 : hp_cn "ExpressionDesk$Reckoner" 26 y_D_power "ExpressionDesk" Y_D_power 1 := ⟨w_607, w_1, w_463, by decide +kernel⟩
theorem cw_K_30 : hp_cw "ExpressionDesk$Reckoner" 30 y_MA_floorDiv Y_MA_floorDiv 2 := ⟨w_608, w_15, w_468, by decide +kernel⟩
theorem cw_K_36 : hp_cn "ExpressionDesk$Reckoner" 36 y_D_billionths "ExpressionDesk" Y_D_billionths 2 := ⟨w_609, w_1, w_474, by decide +kernel⟩
theorem cw_K_42 : hp_cw "ExpressionDesk$Reckoner" 42 y_K_settle Y_K_settle 3 := ⟨w_611, w_9, w_614, by decide +kernel⟩
theorem cw_K_46 : hp_cw "ExpressionDesk$Reckoner" 46 y_MA_abs Y_MA_abs 1 := ⟨w_621, w_15, w_623, by decide +kernel⟩
theorem cw_R_23 : hp_cw "ExpressionDesk$Row" 23 y_MA_max Y_MA_max 2 := ⟨w_658, w_15, w_352, by decide +kernel⟩
theorem cw_R_29 : hp_cw "ExpressionDesk$Row" 29 y_R_put Y_R_put 1 := ⟨w_659, w_7, w_271, by decide +kernel⟩
theorem cw_R_33 : hp_cw "ExpressionDesk$Row" 33 y_ST_length Y_ST_length 0 := ⟨w_718, w_20, w_721, by decide +kernel⟩
theorem cw_R_46 : hp_cn "ExpressionDesk$Row" 46 y_D_power "ExpressionDesk" Y_D_power 1 := ⟨w_708, w_1, w_463, by decide +kernel⟩
theorem cw_R_60 : hp_cw "ExpressionDesk$Row" 60 y_MA_abs Y_MA_abs 1 := ⟨w_702, w_15, w_623, by decide +kernel⟩
theorem cw_R_70 : hp_cw "ExpressionDesk$Row" 70 y_R_putDigits Y_R_putDigits 2 := ⟨w_703, w_7, w_706, by decide +kernel⟩
theorem cw_R_78 : hp_cw "ExpressionDesk$Row" 78 y_R_putPart Y_R_putPart 3 := ⟨w_711, w_7, w_657, by decide +kernel⟩
theorem cw_S_11 : hp_cw "ExpressionDesk$Store" 11 y_AL_init Y_AL_init 0 := ⟨w_39, w_5, w_41, by decide +kernel⟩
theorem cw_S_28 : hp_cw "ExpressionDesk$Store" 28 y_V_init Y_V_init 6 := ⟨w_67, w_6, w_69, by decide +kernel⟩
theorem cw_S_37 : hp_cn "ExpressionDesk$Store" 37 y_R_init "ExpressionDesk" Y_R_init 0 := ⟨w_118, w_7, w_120, by decide +kernel⟩
theorem cw_S_42 : hp_cw "ExpressionDesk$Store" 42 y_AL_size Y_AL_size 0 := ⟨w_293, w_5, w_296, by decide +kernel⟩
theorem cw_S_46 : hp_cw "ExpressionDesk$Store" 46 y_AL_get Y_AL_get 1 := ⟨w_297, w_5, w_300, by decide +kernel⟩
theorem cw_S_50 : hp_cw "ExpressionDesk$Store" 50 y_S_keep Y_S_keep 5 := ⟨w_285, w_2, w_288, by decide +kernel⟩
theorem cw_S_74 : hp_cw "ExpressionDesk$Store" 74 y_S_keepNumber Y_S_keepNumber 3 := ⟨w_634, w_2, w_284, by decide +kernel⟩
theorem cw_S_78 : hp_cw "ExpressionDesk$Store" 78 y_S_chainOf Y_S_chainOf 5 := ⟨w_289, w_2, w_291, by decide +kernel⟩
theorem cw_S_92 : hp_cw "ExpressionDesk$Store" 92 y_R_holds Y_R_holds 1 := ⟨w_311, w_7, w_314, by decide +kernel⟩
theorem cw_S_103 : hp_cw "ExpressionDesk$Store" 103 y_AR_copyOf Y_AR_copyOf 2 := ⟨w_315, w_14, w_317, by decide +kernel⟩
theorem cw_S_109 : hp_cw "ExpressionDesk$Store" 109 y_AL_add Y_AL_add 1 := ⟨w_331, w_5, w_334, by decide +kernel⟩
theorem cw_V_32 : hp_cw "ExpressionDesk$Value" 32 y_V_isNumber Y_V_isNumber 0 := ⟨w_453, w_6, w_456, by decide +kernel⟩
theorem cw_V_36 : hp_cw "ExpressionDesk$Value" 36 y_V_comparedByAmount Y_V_comparedByAmount 1 := ⟨w_457, w_6, w_460, by decide +kernel⟩
theorem cw_V_40 : hp_cw "ExpressionDesk$Value" 40 y_IN_compare Y_IN_compare 2 := ⟨w_479, w_19, w_481, by decide +kernel⟩
theorem cw_V_46 : hp_cw "ExpressionDesk$Value" 46 y_V_comparedByBytes Y_V_comparedByBytes 1 := ⟨w_482, w_6, w_485, by decide +kernel⟩
theorem cw_V_49 : hp_cn "ExpressionDesk$Value" 49 y_D_power "ExpressionDesk" Y_D_power 1 := ⟨w_461, w_1, w_463, by decide +kernel⟩
theorem cw_V_53 : hp_cw "ExpressionDesk$Value" 53 y_MA_floorDiv Y_MA_floorDiv 2 := ⟨w_466, w_15, w_468, by decide +kernel⟩
theorem cw_V_59 : hp_cw "ExpressionDesk$Value" 59 y_LO_compare Y_LO_compare 2 := ⟨w_469, w_18, w_471, by decide +kernel⟩
theorem cw_V_64 : hp_cn "ExpressionDesk$Value" 64 y_D_billionths "ExpressionDesk" Y_D_billionths 2 := ⟨w_472, w_1, w_474, by decide +kernel⟩
theorem cw_L_9 : hp_cw "ExpressionDeskLaw" 9 y_D_init Y_D_init 0 := ⟨w_25, w_1, w_27, by decide +kernel⟩
theorem cw_L_12 : hp_cw "ExpressionDeskLaw" 12 y_M_init Y_M_init 0 := ⟨w_848, w_11, w_850, by decide +kernel⟩
theorem cw_L_15 : hp_cw "ExpressionDeskLaw" 15 y_D_type Y_D_type 2 := ⟨w_264, w_1, w_267, by decide +kernel⟩
theorem cw_L_19 : hp_cw "ExpressionDeskLaw" 19 y_M_type Y_M_type 2 := ⟨w_957, w_11, w_960, by decide +kernel⟩
theorem cw_L_20 : hp_cw "ExpressionDeskLaw" 20 y_D_whole Y_D_whole 1 := ⟨w_272, w_1, w_275, by decide +kernel⟩
theorem cw_L_24 : hp_cw "ExpressionDeskLaw" 24 y_M_whole Y_M_whole 1 := ⟨w_962, w_11, w_965, by decide +kernel⟩
theorem cw_L_25 : hp_cw "ExpressionDeskLaw" 25 y_D_decimal Y_D_decimal 2 := ⟨w_381, w_1, w_384, by decide +kernel⟩
theorem cw_L_28 : hp_cw "ExpressionDeskLaw" 28 y_M_decimal Y_M_decimal 2 := ⟨w_998, w_11, w_1001, by decide +kernel⟩
theorem cw_L_29 : hp_cw "ExpressionDeskLaw" 29 y_D_truth Y_D_truth 1 := ⟨w_386, w_1, w_389, by decide +kernel⟩
theorem cw_L_33 : hp_cw "ExpressionDeskLaw" 33 y_M_truth Y_M_truth 1 := ⟨w_1002, w_11, w_1005, by decide +kernel⟩
theorem cw_L_34 : hp_cw "ExpressionDeskLaw" 34 y_D_named Y_D_named 2 := ⟨w_394, w_1, w_397, by decide +kernel⟩
theorem cw_L_38 : hp_cw "ExpressionDeskLaw" 38 y_M_named Y_M_named 2 := ⟨w_1006, w_11, w_1009, by decide +kernel⟩
theorem cw_L_39 : hp_cw "ExpressionDeskLaw" 39 y_D_text Y_D_text 2 := ⟨w_402, w_1, w_405, by decide +kernel⟩
theorem cw_L_42 : hp_cw "ExpressionDeskLaw" 42 y_M_text Y_M_text 2 := ⟨w_1010, w_11, w_1013, by decide +kernel⟩
theorem cw_L_43 : hp_cw "ExpressionDeskLaw" 43 y_D_told Y_D_told 2 := ⟨w_421, w_1, w_424, by decide +kernel⟩
theorem cw_L_46 : hp_cw "ExpressionDeskLaw" 46 y_M_told Y_M_told 2 := ⟨w_1018, w_11, w_1021, by decide +kernel⟩
theorem cw_L_47 : hp_cw "ExpressionDeskLaw" 47 y_D_amount Y_D_amount 1 := ⟨w_429, w_1, w_432, by decide +kernel⟩
theorem cw_L_51 : hp_cw "ExpressionDeskLaw" 51 y_M_amount Y_M_amount 1 := ⟨w_1026, w_11, w_1029, by decide +kernel⟩
theorem cw_L_52 : hp_cw "ExpressionDeskLaw" 52 y_D_byteOf Y_D_byteOf 2 := ⟨w_433, w_1, w_436, by decide +kernel⟩
theorem cw_L_55 : hp_cw "ExpressionDeskLaw" 55 y_M_byteOf Y_M_byteOf 2 := ⟨w_1030, w_11, w_1033, by decide +kernel⟩
theorem cw_L_56 : hp_cw "ExpressionDeskLaw" 56 y_D_values Y_D_values 0 := ⟨w_437, w_1, w_440, by decide +kernel⟩
theorem cw_L_60 : hp_cw "ExpressionDeskLaw" 60 y_M_values Y_M_values 0 := ⟨w_1034, w_11, w_1037, by decide +kernel⟩
theorem cw_L_61 : hp_cw "ExpressionDeskLaw" 61 y_D_order Y_D_order 2 := ⟨w_445, w_1, w_448, by decide +kernel⟩
theorem cw_L_64 : hp_cw "ExpressionDeskLaw" 64 y_M_order Y_M_order 2 := ⟨w_1038, w_11, w_1041, by decide +kernel⟩
theorem cw_L_65 : hp_cw "ExpressionDeskLaw" 65 y_D_word Y_D_word 2 := ⟨w_486, w_1, w_489, by decide +kernel⟩
theorem cw_L_68 : hp_cw "ExpressionDeskLaw" 68 y_M_word Y_M_word 2 := ⟨w_1069, w_11, w_1072, by decide +kernel⟩
theorem cw_L_69 : hp_cw "ExpressionDeskLaw" 69 y_D_begin Y_D_begin 0 := ⟨w_497, w_1, w_500, by decide +kernel⟩
theorem cw_L_72 : hp_cw "ExpressionDeskLaw" 72 y_M_begin Y_M_begin 0 := ⟨w_1073, w_11, w_1076, by decide +kernel⟩
theorem cw_L_73 : hp_cw "ExpressionDeskLaw" 73 y_D_bind Y_D_bind 2 := ⟨w_505, w_1, w_508, by decide +kernel⟩
theorem cw_L_77 : hp_cw "ExpressionDeskLaw" 77 y_M_bind Y_M_bind 2 := ⟨w_1077, w_11, w_1080, by decide +kernel⟩
theorem cw_L_78 : hp_cw "ExpressionDeskLaw" 78 y_D_run Y_D_run 0 := ⟨w_514, w_1, w_517, by decide +kernel⟩
theorem cw_L_81 : hp_cw "ExpressionDeskLaw" 81 y_M_run Y_M_run 0 := ⟨w_1081, w_11, w_1084, by decide +kernel⟩
theorem cw_L_82 : hp_cw "ExpressionDeskLaw" 82 y_D_test Y_D_test 0 := ⟨w_776, w_1, w_779, by decide +kernel⟩
theorem cw_L_85 : hp_cw "ExpressionDeskLaw" 85 y_M_test Y_M_test 0 := ⟨w_1239, w_11, w_1242, by decide +kernel⟩
theorem cw_L_86 : hp_cw "ExpressionDeskLaw" 86 y_D_gather Y_D_gather 3 := ⟨w_781, w_1, w_784, by decide +kernel⟩
theorem cw_L_90 : hp_cw "ExpressionDeskLaw" 90 y_M_gather Y_M_gather 3 := ⟨w_1244, w_11, w_1247, by decide +kernel⟩
theorem cw_L_91 : hp_cw "ExpressionDeskLaw" 91 y_D_add Y_D_add 1 := ⟨w_790, w_1, w_793, by decide +kernel⟩
theorem cw_L_95 : hp_cw "ExpressionDeskLaw" 95 y_M_add Y_M_add 1 := ⟨w_1248, w_11, w_1251, by decide +kernel⟩
theorem cw_L_96 : hp_cw "ExpressionDeskLaw" 96 y_D_together Y_D_together 0 := ⟨w_803, w_1, w_806, by decide +kernel⟩
theorem cw_L_99 : hp_cw "ExpressionDeskLaw" 99 y_M_together Y_M_together 0 := ⟨w_1252, w_11, w_1255, by decide +kernel⟩
theorem cw_M_91 : hp_cw "ExpressionDeskModel" 91 y_M_isIt Y_M_isIt 1 := ⟨w_994, w_11, w_997, by decide +kernel⟩
theorem cw_M_95 : hp_cw "ExpressionDeskModel" 95 y_M_clear Y_M_clear 1 := ⟨w_975, w_11, w_977, by decide +kernel⟩
theorem cw_M_99 : hp_cw "ExpressionDeskModel" 99 y_M_raise Y_M_raise 2 := ⟨w_1195, w_11, w_1197, by decide +kernel⟩
theorem cw_M_103 : hp_cw "ExpressionDeskModel" 103 y_M_start Y_M_start 2 := ⟨w_983, w_11, w_986, by decide +kernel⟩
theorem cw_M_107 : hp_cw "ExpressionDeskModel" 107 y_M_isZero Y_M_isZero 1 := ⟨w_987, w_11, w_989, by decide +kernel⟩
theorem cw_M_111 : hp_cw "ExpressionDeskModel" 111 y_M_keep Y_M_keep 0 := ⟨w_990, w_11, w_993, by decide +kernel⟩
theorem cw_M_115 : hp_cw "ExpressionDeskModel" 115 y_M_lay Y_M_lay 2 := ⟨w_1058, w_11, w_1061, by decide +kernel⟩
theorem cw_M_119 : hp_cw "ExpressionDeskModel" 119 y_M_join Y_M_join 3 := ⟨w_1181, w_11, w_1183, by decide +kernel⟩
theorem cw_M_123 : hp_cw "ExpressionDeskModel" 123 y_M_areWholes Y_M_areWholes 2 := ⟨w_1184, w_11, w_1187, by decide +kernel⟩
theorem cw_M_127 : hp_cw "ExpressionDeskModel" 127 y_M_number Y_M_number 3 := ⟨w_979, w_11, w_982, by decide +kernel⟩
theorem cw_M_131 : hp_cw "ExpressionDeskModel" 131 y_M_compare Y_M_compare 2 := ⟨w_1062, w_11, w_1064, by decide +kernel⟩
theorem cw_M_135 : hp_cw "ExpressionDeskModel" 135 y_M_round Y_M_round 1 := ⟨w_1192, w_11, w_1194, by decide +kernel⟩
theorem cw_M_149 : hp_cw "ExpressionDeskModel" 149 y_M_isFar Y_M_isFar 1 := ⟨w_966, w_11, w_968, by decide +kernel⟩
theorem cw_M_153 : hp_cw "ExpressionDeskModel" 153 y_M_numbered Y_M_numbered 3 := ⟨w_971, w_11, w_974, by decide +kernel⟩
theorem cw_M_157 : hp_cw "ExpressionDeskModel" 157 y_M_letter Y_M_letter 1 := ⟨w_1014, w_11, w_1017, by decide +kernel⟩
theorem cw_M_161 : hp_cw "ExpressionDeskModel" 161 y_M_isValue Y_M_isValue 1 := ⟨w_1022, w_11, w_1025, by decide +kernel⟩
theorem cw_M_164 : hp_cw "ExpressionDeskModel" 164 y_M_rank Y_M_rank 1 := ⟨w_1046, w_11, w_1049, by decide +kernel⟩
theorem cw_M_168 : hp_cw "ExpressionDeskModel" 168 y_M_isNumber Y_M_isNumber 1 := ⟨w_1050, w_11, w_1053, by decide +kernel⟩
theorem cw_M_171 : hp_cw "ExpressionDeskModel" 171 y_M_orderNumbers Y_M_orderNumbers 2 := ⟨w_1054, w_11, w_1057, by decide +kernel⟩
theorem cw_M_175 : hp_cw "ExpressionDeskModel" 175 y_M_orderBytes Y_M_orderBytes 2 := ⟨w_1065, w_11, w_1068, by decide +kernel⟩
theorem cw_M_178 : hp_cw "ExpressionDeskModel" 178 y_M_orderOf Y_M_orderOf 2 := ⟨w_1042, w_11, w_1045, by decide +kernel⟩
theorem cw_M_181 : hp_cw "ExpressionDeskModel" 181 y_M_bit Y_M_bit 1 := ⟨w_1114, w_11, w_1116, by decide +kernel⟩
theorem cw_M_185 : hp_cw "ExpressionDeskModel" 185 y_M_truth Y_M_truth 1 := ⟨w_1105, w_11, w_1005, by decide +kernel⟩
theorem cw_M_188 : hp_cw "ExpressionDeskModel" 188 y_M_digitsOf Y_M_digitsOf 1 := ⟨w_1222, w_11, w_1225, by decide +kernel⟩
theorem cw_M_191 : hp_cw "ExpressionDeskModel" 191 y_M_stringOfNumber Y_M_stringOfNumber 1 := ⟨w_1226, w_11, w_1229, by decide +kernel⟩
theorem cw_M_202 : hp_cw "ExpressionDeskModel" 202 y_M_letterAll Y_M_letterAll 3 := ⟨w_1137, w_11, w_1140, by decide +kernel⟩
theorem cw_M_206 : hp_cw "ExpressionDeskModel" 206 y_ST_length Y_ST_length 0 := ⟨w_1235, w_20, w_721, by decide +kernel⟩
theorem cw_M_217 : hp_cw "ExpressionDeskModel" 217 y_M_isPlain Y_M_isPlain 1 := ⟨w_1133, w_11, w_1136, by decide +kernel⟩
theorem cw_M_220 : hp_cw "ExpressionDeskModel" 220 y_M_isAt Y_M_isAt 3 := ⟨w_1169, w_11, w_1172, by decide +kernel⟩
theorem cw_M_224 : hp_cw "ExpressionDeskModel" 224 y_M_goWith Y_M_goWith 2 := ⟨w_1161, w_11, w_1164, by decide +kernel⟩
theorem cw_M_227 : hp_cw "ExpressionDeskModel" 227 y_M_within Y_M_within 2 := ⟨w_1165, w_11, w_1168, by decide +kernel⟩
theorem cw_M_230 : hp_cw "ExpressionDeskModel" 230 y_M_piece Y_M_piece 3 := ⟨w_1173, w_11, w_1176, by decide +kernel⟩
theorem cw_M_234 : hp_cw "ExpressionDeskModel" 234 y_M_amount Y_M_amount 1 := ⟨w_1145, w_11, w_1029, by decide +kernel⟩
theorem cw_M_241 : hp_cw "ExpressionDeskModel" 241 y_M_takes Y_M_takes 1 := ⟨w_1089, w_11, w_1092, by decide +kernel⟩
theorem cw_M_244 : hp_cw "ExpressionDeskModel" 244 y_M_truthOf Y_M_truthOf 1 := ⟨w_1110, w_11, w_1113, by decide +kernel⟩
theorem cw_M_247 : hp_cw "ExpressionDeskModel" 247 y_M_given Y_M_given 1 := ⟨w_1117, w_11, w_1120, by decide +kernel⟩
theorem cw_M_250 : hp_cw "ExpressionDeskModel" 250 y_M_bindingOf Y_M_bindingOf 1 := ⟨w_1101, w_11, w_1104, by decide +kernel⟩
theorem cw_M_253 : hp_cw "ExpressionDeskModel" 253 y_M_both Y_M_both 3 := ⟨w_1106, w_11, w_1109, by decide +kernel⟩
theorem cw_M_256 : hp_cw "ExpressionDeskModel" 256 y_M_isIn Y_M_isIn 2 := ⟨w_1121, w_11, w_1124, by decide +kernel⟩
theorem cw_M_259 : hp_cw "ExpressionDeskModel" 259 y_M_equal Y_M_equal 2 := ⟨w_1125, w_11, w_1128, by decide +kernel⟩
theorem cw_M_262 : hp_cw "ExpressionDeskModel" 262 y_M_not Y_M_not 1 := ⟨w_1150, w_11, w_1152, by decide +kernel⟩
theorem cw_M_265 : hp_cw "ExpressionDeskModel" 265 y_M_less Y_M_less 2 := ⟨w_1153, w_11, w_1156, by decide +kernel⟩
theorem cw_M_268 : hp_cw "ExpressionDeskModel" 268 y_M_around Y_M_around 3 := ⟨w_1157, w_11, w_1160, by decide +kernel⟩
theorem cw_M_271 : hp_cw "ExpressionDeskModel" 271 y_M_sum Y_M_sum 3 := ⟨w_1177, w_11, w_1180, by decide +kernel⟩
theorem cw_M_274 : hp_cw "ExpressionDeskModel" 274 y_M_product Y_M_product 2 := ⟨w_1188, w_11, w_1191, by decide +kernel⟩
theorem cw_M_277 : hp_cw "ExpressionDeskModel" 277 y_M_quotient Y_M_quotient 2 := ⟨w_1198, w_11, w_1201, by decide +kernel⟩
theorem cw_M_280 : hp_cw "ExpressionDeskModel" 280 y_M_turned Y_M_turned 2 := ⟨w_1206, w_11, w_1209, by decide +kernel⟩
theorem cw_M_284 : hp_cw "ExpressionDeskModel" 284 y_M_wholeOf Y_M_wholeOf 2 := ⟨w_1210, w_11, w_1213, by decide +kernel⟩
theorem cw_M_287 : hp_cw "ExpressionDeskModel" 287 y_M_cased Y_M_cased 2 := ⟨w_1214, w_11, w_1217, by decide +kernel⟩
theorem cw_M_290 : hp_cw "ExpressionDeskModel" 290 y_M_string Y_M_string 1 := ⟨w_1218, w_11, w_1221, by decide +kernel⟩
theorem cw_M_293 : hp_cw "ExpressionDeskModel" 293 y_M_ofItsOwn Y_M_ofItsOwn 2 := ⟨w_1097, w_11, w_1100, by decide +kernel⟩
theorem cw_M_296 : hp_cw "ExpressionDeskModel" 296 y_M_rowOf Y_M_rowOf 2 := ⟨w_1129, w_11, w_1132, by decide +kernel⟩
theorem cw_M_299 : hp_cw "ExpressionDeskModel" 299 y_M_some Y_M_some 3 := ⟨w_1141, w_11, w_1144, by decide +kernel⟩
theorem cw_M_302 : hp_cw "ExpressionDeskModel" 302 y_M_two Y_M_two 3 := ⟨w_1146, w_11, w_1149, by decide +kernel⟩
theorem cw_M_305 : hp_cw "ExpressionDeskModel" 305 y_M_one Y_M_one 2 := ⟨w_1202, w_11, w_1205, by decide +kernel⟩
theorem cw_M_308 : hp_cw "ExpressionDeskModel" 308 y_M_isRight Y_M_isRight 0 := ⟨w_1085, w_11, w_1088, by decide +kernel⟩
theorem cw_M_312 : hp_cw "ExpressionDeskModel" 312 y_M_done Y_M_done 2 := ⟨w_1093, w_11, w_1096, by decide +kernel⟩
theorem cw_M_315 : hp_cw "ExpressionDeskModel" 315 y_M_run Y_M_run 0 := ⟨w_1243, w_11, w_1084, by decide +kernel⟩
theorem cw_M_337 : hp_cw "ExpressionDeskModel" 337 y_M_isFit Y_M_isFit 0 := ⟨w_1260, w_11, w_1263, by decide +kernel⟩
theorem cw_M_340 : hp_cw "ExpressionDeskModel" 340 y_M_sumAll Y_M_sumAll 0 := ⟨w_1256, w_11, w_1259, by decide +kernel⟩
theorem cw_M_343 : hp_cw "ExpressionDeskModel" 343 y_M_extreme Y_M_extreme 1 := ⟨w_1264, w_11, w_1267, by decide +kernel⟩
theorem cw_M_346 : hp_cw "ExpressionDeskModel" 346 y_M_average Y_M_average 0 := ⟨w_1268, w_11, w_1271, by decide +kernel⟩
theorem cw_M_349 : hp_cw "ExpressionDeskModel" 349 y_M_row Y_M_row 0 := ⟨w_1272, w_11, w_1275, by decide +kernel⟩
theorem cw_ST_492 : hp_cw "java/lang/String" 492 y_ST_isLatin1 Y_ST_isLatin1 0 := ⟨w_732, w_20, w_735, by decide +kernel⟩
theorem cw_SL_9 : hp_cw "java/lang/StringLatin1" 9 y_ST_checkIndex Y_ST_checkIndex 2 := ⟨w_739, w_20, w_741, by decide +kernel⟩
theorem cw_SU_48 : hp_cw "java/lang/StringUTF16" 48 y_SU_length Y_SU_length 1 := ⟨w_751, w_22, w_753, by decide +kernel⟩
theorem cw_SU_67 : hp_cw "java/lang/StringUTF16" 67 y_SU_checkIndex Y_SU_checkIndex 2 := ⟨w_748, w_22, w_750, by decide +kernel⟩
theorem cw_SU_71 : hp_cw "java/lang/StringUTF16" 71 y_SU_getChar Y_SU_getChar 2 := ⟨w_755, w_22, w_757, by decide +kernel⟩
theorem cw_SU_414 : hp_cw "java/lang/StringUTF16" 414 y_ST_checkIndex Y_ST_checkIndex 2 := ⟨w_754, w_20, w_741, by decide +kernel⟩
theorem cw_AB_1 : hp_cw "java/util/AbstractList" 1 y_AC_init Y_AC_init 0 := ⟨w_45, w_3, w_47, by decide +kernel⟩
theorem cw_AL_1 : hp_cw "java/util/ArrayList" 1 y_AB_init Y_AB_init 0 := ⟨w_42, w_4, w_44, by decide +kernel⟩
theorem cw_AL_69 : hp_cw "java/util/ArrayList" 69 y_AL_grow2 Y_AL_grow2 1 := ⟨w_343, w_5, w_346, by decide +kernel⟩
theorem cw_AL_118 : hp_cw "java/util/ArrayList" 118 y_OB_checkIndex Y_OB_checkIndex 2 := ⟨w_301, w_12, w_303, by decide +kernel⟩
theorem cw_AL_123 : hp_cw "java/util/ArrayList" 123 y_AL_elementData Y_AL_elementData 1 := ⟨w_307, w_5, w_310, by decide +kernel⟩
theorem cw_AL_129 : hp_cw "java/util/ArrayList" 129 y_AL_grow Y_AL_grow 0 := ⟨w_339, w_5, w_342, by decide +kernel⟩
theorem cw_AL_131 : hp_cw "java/util/ArrayList" 131 y_AL_add2 Y_AL_add2 3 := ⟨w_335, w_5, w_338, by decide +kernel⟩
theorem cw_AR_304 : hp_cw "java/util/Arrays" 304 y_MA_min Y_MA_min 2 := ⟨w_325, w_15, w_327, by decide +kernel⟩
theorem cw_AS_194 : hp_cw "jdk/internal/util/ArraysSupport" 194 y_MA_max Y_MA_max 2 := ⟨w_350, w_15, w_352, by decide +kernel⟩
theorem cw_AS_201 : hp_cw "jdk/internal/util/ArraysSupport" 201 y_AS_hugeLength Y_AS_hugeLength 2 := ⟨w_354, w_17, w_356, by decide +kernel⟩
end
section
-- R_clear
theorem d_R_clear_0 : decode prog_5_method_2_code 0 = .ok (.aload_n 0, 1) := by decide +kernel
theorem d_R_clear_1 : decode prog_5_method_2_code 1 = .ok (.iconst 0, 1) := by decide +kernel
theorem d_R_clear_2 : decode prog_5_method_2_code 2 = .ok (.putfield 15, 3) := by decide +kernel
theorem d_R_clear_5 : decode prog_5_method_2_code 5 = .ok (.aload_n 0, 1) := by decide +kernel
theorem d_R_clear_6 : decode prog_5_method_2_code 6 = .ok (.iconst 0, 1) := by decide +kernel
theorem d_R_clear_7 : decode prog_5_method_2_code 7 = .ok (.putfield 19, 3) := by decide +kernel
theorem d_R_clear_10 : decode prog_5_method_2_code 10 = .ok (.return_, 1) := by decide +kernel
def m_R_clear (G : Nat → Nat) (a0 : Nat) (h : hp_H) : Option (Unit × hp_H) := (hp_p h a0 4 1 (.int (0 : Int32))).bind fun h1 => (hp_pZ h1 a0 4 2 (0 : Int32)).bind fun h2 => some ((), h2)
set_option maxRecDepth 100000 in
set_option maxHeartbeats 4000000 in
theorem j_R_clear_0 {Z : hp_Z} (a0 : Nat) (h : hp_H) : hp_J Y_R_clear Z hp_rV h 0 [(0, .ref a0)] [] (m_R_clear (hp_G Z)  a0 h) := by
  unfold m_R_clear
  refine hp_aload_n (x0 := 0) d_R_clear_0 rfl rfl ?_
  refine hp_iconst (v := 0) d_R_clear_1 (by decide) ?_
  refine hp_put fl_R_15 (fun q => by cases q) rfl rfl d_R_clear_2 fun h1 => ?_
  refine hp_aload_n (x0 := 0) d_R_clear_5 rfl rfl ?_
  refine hp_iconst (v := 0) d_R_clear_6 (by decide) ?_
  refine hp_putZ fl_R_19 (fun q => by cases q) d_R_clear_7 fun h2 => ?_
  exact hp_vret d_R_clear_10 rfl
theorem t_R_clear (l : Launch) (E : hp_E) (a0 : Nat) : hp_M l E y_R_clear Y_R_clear hp_rV [.ref a0] (m_R_clear E.2.2.1 a0) := hp_M.of (by decide +kernel) ⟨rfl, rfl⟩ (Nat.le_of_ble_eq_true rfl) (fun Z h hE => by subst hE; exact j_R_clear_0 _ h)
end
