section
-- ===== PART A: goes FIRST, ahead of the names: the tables' words, and 'selects' of the private methods out of them =====
/-- a private method of a class that the tables say can be made, by its rows of tables_1 -/
def lw_okq (q : MethodName × Nat) : Prop := (q.1.cls ≠ "java/lang/invoke/MethodHandle" ∧ q.1.cls ≠ "java/lang/invoke/VarHandle") ∧ Cond.instantiable q.1.cls q.2 ∈ tables_1 ∧ Cond.privateMethod q.1 ∈ tables_1 ∧ Cond.instanceMethod q.1 ∈ tables_1
theorem lw_p0 : lw_okq (⟨"AutoIndenter$Buffer", "contentStart", "()I"⟩, 2) := ⟨⟨by decide +kernel, by decide +kernel⟩, List.mem_of_getElem? (i := 146) (by decide +kernel), List.mem_of_getElem? (i := 442) (by decide +kernel), List.mem_of_getElem? (i := 443) (by decide +kernel)⟩
theorem lw_p1 : lw_okq (⟨"AutoIndenter$Buffer", "contentEnd", "()I"⟩, 2) := ⟨⟨by decide +kernel, by decide +kernel⟩, List.mem_of_getElem? (i := 146) (by decide +kernel), List.mem_of_getElem? (i := 450) (by decide +kernel), List.mem_of_getElem? (i := 451) (by decide +kernel)⟩
theorem lw_p2 : lw_okq (⟨"AutoIndenter", "beginChange", "()V"⟩, 12) := ⟨⟨by decide +kernel, by decide +kernel⟩, List.mem_of_getElem? (i := 22) (by decide +kernel), List.mem_of_getElem? (i := 454) (by decide +kernel), List.mem_of_getElem? (i := 455) (by decide +kernel)⟩
theorem lw_p3 : lw_okq (⟨"AutoIndenter$History", "at", "(I)LAutoIndenter$State;"⟩, 3) := ⟨⟨by decide +kernel, by decide +kernel⟩, List.mem_of_getElem? (i := 181) (by decide +kernel), List.mem_of_getElem? (i := 462) (by decide +kernel), List.mem_of_getElem? (i := 463) (by decide +kernel)⟩
theorem lw_p4 : lw_okq (⟨"AutoIndenter$Lines", "copyLine", "(II)V"⟩, 5) := ⟨⟨by decide +kernel, by decide +kernel⟩, List.mem_of_getElem? (i := 36) (by decide +kernel), List.mem_of_getElem? (i := 493) (by decide +kernel), List.mem_of_getElem? (i := 494) (by decide +kernel)⟩
theorem lw_p5 : lw_okq (⟨"AutoIndenter$Lines", "appendFrom", "(III)V"⟩, 5) := ⟨⟨by decide +kernel, by decide +kernel⟩, List.mem_of_getElem? (i := 36) (by decide +kernel), List.mem_of_getElem? (i := 538) (by decide +kernel), List.mem_of_getElem? (i := 539) (by decide +kernel)⟩
theorem lw_p6 : lw_okq (⟨"AutoIndenter", "study", "()V"⟩, 12) := ⟨⟨by decide +kernel, by decide +kernel⟩, List.mem_of_getElem? (i := 22) (by decide +kernel), List.mem_of_getElem? (i := 543) (by decide +kernel), List.mem_of_getElem? (i := 544) (by decide +kernel)⟩
theorem lw_p7 : lw_okq (⟨"AutoIndenter$Tokens", "load", "(LAutoIndenter$Lines;I)V"⟩, 10) := ⟨⟨by decide +kernel, by decide +kernel⟩, List.mem_of_getElem? (i := 203) (by decide +kernel), List.mem_of_getElem? (i := 552) (by decide +kernel), List.mem_of_getElem? (i := 553) (by decide +kernel)⟩
theorem lw_p8 : lw_okq (⟨"AutoIndenter$Tokens", "divideLine", "(II)V"⟩, 10) := ⟨⟨by decide +kernel, by decide +kernel⟩, List.mem_of_getElem? (i := 203) (by decide +kernel), List.mem_of_getElem? (i := 558) (by decide +kernel), List.mem_of_getElem? (i := 559) (by decide +kernel)⟩
theorem lw_p9 : lw_okq (⟨"AutoIndenter$Tokens", "literalEnd", "(I)I"⟩, 10) := ⟨⟨by decide +kernel, by decide +kernel⟩, List.mem_of_getElem? (i := 203) (by decide +kernel), List.mem_of_getElem? (i := 562) (by decide +kernel), List.mem_of_getElem? (i := 563) (by decide +kernel)⟩
theorem lw_p10 : lw_okq (⟨"AutoIndenter$Tokens", "threeQuotesAt", "(I)Z"⟩, 10) := ⟨⟨by decide +kernel, by decide +kernel⟩, List.mem_of_getElem? (i := 203) (by decide +kernel), List.mem_of_getElem? (i := 566) (by decide +kernel), List.mem_of_getElem? (i := 567) (by decide +kernel)⟩
theorem lw_p11 : lw_okq (⟨"AutoIndenter$Tokens", "stringEnd", "(I)I"⟩, 10) := ⟨⟨by decide +kernel, by decide +kernel⟩, List.mem_of_getElem? (i := 203) (by decide +kernel), List.mem_of_getElem? (i := 570) (by decide +kernel), List.mem_of_getElem? (i := 571) (by decide +kernel)⟩
theorem lw_p12 : lw_okq (⟨"AutoIndenter$Tokens", "add", "(IIII)V"⟩, 10) := ⟨⟨by decide +kernel, by decide +kernel⟩, List.mem_of_getElem? (i := 203) (by decide +kernel), List.mem_of_getElem? (i := 574) (by decide +kernel), List.mem_of_getElem? (i := 575) (by decide +kernel)⟩
theorem lw_p13 : lw_okq (⟨"AutoIndenter$Tokens", "wordEnd", "(I)I"⟩, 10) := ⟨⟨by decide +kernel, by decide +kernel⟩, List.mem_of_getElem? (i := 203) (by decide +kernel), List.mem_of_getElem? (i := 581) (by decide +kernel), List.mem_of_getElem? (i := 582) (by decide +kernel)⟩
theorem lw_p14 : lw_okq (⟨"AutoIndenter$Blocks", "saveStack", "(I)V"⟩, 14) := ⟨⟨by decide +kernel, by decide +kernel⟩, List.mem_of_getElem? (i := 262) (by decide +kernel), List.mem_of_getElem? (i := 590) (by decide +kernel), List.mem_of_getElem? (i := 591) (by decide +kernel)⟩
theorem lw_p15 : lw_okq (⟨"AutoIndenter$Blocks", "findRules", "(ILAutoIndenter$State;LAutoIndenter$Tokens;)V"⟩, 14) := ⟨⟨by decide +kernel, by decide +kernel⟩, List.mem_of_getElem? (i := 262) (by decide +kernel), List.mem_of_getElem? (i := 596) (by decide +kernel), List.mem_of_getElem? (i := 597) (by decide +kernel)⟩
def lw_privs_1 : List (MethodName × Nat) := [(⟨"AutoIndenter$Buffer", "contentStart", "()I"⟩, 2), (⟨"AutoIndenter$Buffer", "contentEnd", "()I"⟩, 2), (⟨"AutoIndenter", "beginChange", "()V"⟩, 12), (⟨"AutoIndenter$History", "at", "(I)LAutoIndenter$State;"⟩, 3), (⟨"AutoIndenter$Lines", "copyLine", "(II)V"⟩, 5), (⟨"AutoIndenter$Lines", "appendFrom", "(III)V"⟩, 5), (⟨"AutoIndenter", "study", "()V"⟩, 12), (⟨"AutoIndenter$Tokens", "load", "(LAutoIndenter$Lines;I)V"⟩, 10), (⟨"AutoIndenter$Tokens", "divideLine", "(II)V"⟩, 10), (⟨"AutoIndenter$Tokens", "literalEnd", "(I)I"⟩, 10), (⟨"AutoIndenter$Tokens", "threeQuotesAt", "(I)Z"⟩, 10), (⟨"AutoIndenter$Tokens", "stringEnd", "(I)I"⟩, 10), (⟨"AutoIndenter$Tokens", "add", "(IIII)V"⟩, 10), (⟨"AutoIndenter$Tokens", "wordEnd", "(I)I"⟩, 10), (⟨"AutoIndenter$Blocks", "saveStack", "(I)V"⟩, 14), (⟨"AutoIndenter$Blocks", "findRules", "(ILAutoIndenter$State;LAutoIndenter$Tokens;)V"⟩, 14)]
theorem lw_r1 : ∀ q ∈ lw_privs_1, lw_okq q := List.forall_mem_cons.mpr ⟨lw_p0, List.forall_mem_cons.mpr ⟨lw_p1, List.forall_mem_cons.mpr ⟨lw_p2, List.forall_mem_cons.mpr ⟨lw_p3, List.forall_mem_cons.mpr ⟨lw_p4, List.forall_mem_cons.mpr ⟨lw_p5, List.forall_mem_cons.mpr ⟨lw_p6, List.forall_mem_cons.mpr ⟨lw_p7, List.forall_mem_cons.mpr ⟨lw_p8, List.forall_mem_cons.mpr ⟨lw_p9, List.forall_mem_cons.mpr ⟨lw_p10, List.forall_mem_cons.mpr ⟨lw_p11, List.forall_mem_cons.mpr ⟨lw_p12, List.forall_mem_cons.mpr ⟨lw_p13, List.forall_mem_cons.mpr ⟨lw_p14, List.forall_mem_cons.mpr ⟨lw_p15, fun _ h => absurd h List.not_mem_nil⟩⟩⟩⟩⟩⟩⟩⟩⟩⟩⟩⟩⟩⟩⟩⟩
theorem lw_p16 : lw_okq (⟨"AutoIndenter$Blocks", "close", "(ILAutoIndenter$Rules;)V"⟩, 14) := ⟨⟨by decide +kernel, by decide +kernel⟩, List.mem_of_getElem? (i := 262) (by decide +kernel), List.mem_of_getElem? (i := 610) (by decide +kernel), List.mem_of_getElem? (i := 611) (by decide +kernel)⟩
theorem lw_p17 : lw_okq (⟨"AutoIndenter$Blocks", "levelThatCloses", "(ILAutoIndenter$Rules;)I"⟩, 14) := ⟨⟨by decide +kernel, by decide +kernel⟩, List.mem_of_getElem? (i := 262) (by decide +kernel), List.mem_of_getElem? (i := 614) (by decide +kernel), List.mem_of_getElem? (i := 615) (by decide +kernel)⟩
theorem lw_p18 : lw_okq (⟨"AutoIndenter$Blocks", "open", "(ILAutoIndenter$Rules;LAutoIndenter$Tokens;)V"⟩, 14) := ⟨⟨by decide +kernel, by decide +kernel⟩, List.mem_of_getElem? (i := 262) (by decide +kernel), List.mem_of_getElem? (i := 619) (by decide +kernel), List.mem_of_getElem? (i := 620) (by decide +kernel)⟩
theorem lw_p19 : lw_okq (⟨"AutoIndenter$Plan", "decide", "(ILAutoIndenter$Rules;LAutoIndenter$Tokens;LAutoIndenter$Blocks;)V"⟩, 6) := ⟨⟨by decide +kernel, by decide +kernel⟩, List.mem_of_getElem? (i := 328) (by decide +kernel), List.mem_of_getElem? (i := 633) (by decide +kernel), List.mem_of_getElem? (i := 634) (by decide +kernel)⟩
theorem lw_p20 : lw_okq (⟨"AutoIndenter$Plan", "standByClosed", "(IIILAutoIndenter$Tokens;LAutoIndenter$Blocks;)V"⟩, 6) := ⟨⟨by decide +kernel, by decide +kernel⟩, List.mem_of_getElem? (i := 328) (by decide +kernel), List.mem_of_getElem? (i := 649) (by decide +kernel), List.mem_of_getElem? (i := 650) (by decide +kernel)⟩
theorem lw_p21 : lw_okq (⟨"AutoIndenter$Plan", "standOnGround", "(IILAutoIndenter$Tokens;LAutoIndenter$Blocks;)V"⟩, 6) := ⟨⟨by decide +kernel, by decide +kernel⟩, List.mem_of_getElem? (i := 328) (by decide +kernel), List.mem_of_getElem? (i := 653) (by decide +kernel), List.mem_of_getElem? (i := 654) (by decide +kernel)⟩
theorem lw_p22 : lw_okq (⟨"AutoIndenter$Plan", "addSteps", "(IIILAutoIndenter$Rules;)V"⟩, 6) := ⟨⟨by decide +kernel, by decide +kernel⟩, List.mem_of_getElem? (i := 328) (by decide +kernel), List.mem_of_getElem? (i := 661) (by decide +kernel), List.mem_of_getElem? (i := 662) (by decide +kernel)⟩
theorem lw_p23 : lw_okq (⟨"AutoIndenter", "indentAnew", "(ILAutoIndenter$Row;II)Z"⟩, 12) := ⟨⟨by decide +kernel, by decide +kernel⟩, List.mem_of_getElem? (i := 22) (by decide +kernel), List.mem_of_getElem? (i := 714) (by decide +kernel), List.mem_of_getElem? (i := 715) (by decide +kernel)⟩
theorem lw_p24 : lw_okq (⟨"AutoIndenter", "makeRule", "(IIII)I"⟩, 12) := ⟨⟨by decide +kernel, by decide +kernel⟩, List.mem_of_getElem? (i := 22) (by decide +kernel), List.mem_of_getElem? (i := 780) (by decide +kernel), List.mem_of_getElem? (i := 781) (by decide +kernel)⟩
theorem lw_p25 : lw_okq (⟨"AutoIndenter", "refusalOfOneText", "(III)I"⟩, 12) := ⟨⟨by decide +kernel, by decide +kernel⟩, List.mem_of_getElem? (i := 22) (by decide +kernel), List.mem_of_getElem? (i := 803) (by decide +kernel), List.mem_of_getElem? (i := 804) (by decide +kernel)⟩
theorem lw_p26 : lw_okq (⟨"AutoIndenter", "linesChangedWith", "(II)I"⟩, 12) := ⟨⟨by decide +kernel, by decide +kernel⟩, List.mem_of_getElem? (i := 22) (by decide +kernel), List.mem_of_getElem? (i := 836) (by decide +kernel), List.mem_of_getElem? (i := 837) (by decide +kernel)⟩
theorem lw_p27 : lw_okq (⟨"AutoIndenter", "findBestSetting", "()I"⟩, 12) := ⟨⟨by decide +kernel, by decide +kernel⟩, List.mem_of_getElem? (i := 22) (by decide +kernel), List.mem_of_getElem? (i := 855) (by decide +kernel), List.mem_of_getElem? (i := 856) (by decide +kernel)⟩
theorem lw_p28 : lw_okq (⟨"AutoIndenter", "findToken", "(II)I"⟩, 12) := ⟨⟨by decide +kernel, by decide +kernel⟩, List.mem_of_getElem? (i := 22) (by decide +kernel), List.mem_of_getElem? (i := 879) (by decide +kernel), List.mem_of_getElem? (i := 880) (by decide +kernel)⟩
theorem lw_p29 : lw_okq (⟨"AutoIndenter", "placeOf", "(I)I"⟩, 12) := ⟨⟨by decide +kernel, by decide +kernel⟩, List.mem_of_getElem? (i := 22) (by decide +kernel), List.mem_of_getElem? (i := 895) (by decide +kernel), List.mem_of_getElem? (i := 896) (by decide +kernel)⟩
theorem lw_p30 : lw_okq (⟨"AutoIndenter", "findBlock", "(II)I"⟩, 12) := ⟨⟨by decide +kernel, by decide +kernel⟩, List.mem_of_getElem? (i := 22) (by decide +kernel), List.mem_of_getElem? (i := 911) (by decide +kernel), List.mem_of_getElem? (i := 912) (by decide +kernel)⟩
theorem lw_p31 : lw_okq (⟨"AutoIndenter$Vocabulary", "countToken", "(ILAutoIndenter$Lines;LAutoIndenter$Tokens;)V"⟩, 3) := ⟨⟨by decide +kernel, by decide +kernel⟩, List.mem_of_getElem? (i := 357) (by decide +kernel), List.mem_of_getElem? (i := 942) (by decide +kernel), List.mem_of_getElem? (i := 943) (by decide +kernel)⟩
def lw_privs_2 : List (MethodName × Nat) := [(⟨"AutoIndenter$Blocks", "close", "(ILAutoIndenter$Rules;)V"⟩, 14), (⟨"AutoIndenter$Blocks", "levelThatCloses", "(ILAutoIndenter$Rules;)I"⟩, 14), (⟨"AutoIndenter$Blocks", "open", "(ILAutoIndenter$Rules;LAutoIndenter$Tokens;)V"⟩, 14), (⟨"AutoIndenter$Plan", "decide", "(ILAutoIndenter$Rules;LAutoIndenter$Tokens;LAutoIndenter$Blocks;)V"⟩, 6), (⟨"AutoIndenter$Plan", "standByClosed", "(IIILAutoIndenter$Tokens;LAutoIndenter$Blocks;)V"⟩, 6), (⟨"AutoIndenter$Plan", "standOnGround", "(IILAutoIndenter$Tokens;LAutoIndenter$Blocks;)V"⟩, 6), (⟨"AutoIndenter$Plan", "addSteps", "(IIILAutoIndenter$Rules;)V"⟩, 6), (⟨"AutoIndenter", "indentAnew", "(ILAutoIndenter$Row;II)Z"⟩, 12), (⟨"AutoIndenter", "makeRule", "(IIII)I"⟩, 12), (⟨"AutoIndenter", "refusalOfOneText", "(III)I"⟩, 12), (⟨"AutoIndenter", "linesChangedWith", "(II)I"⟩, 12), (⟨"AutoIndenter", "findBestSetting", "()I"⟩, 12), (⟨"AutoIndenter", "findToken", "(II)I"⟩, 12), (⟨"AutoIndenter", "placeOf", "(I)I"⟩, 12), (⟨"AutoIndenter", "findBlock", "(II)I"⟩, 12), (⟨"AutoIndenter$Vocabulary", "countToken", "(ILAutoIndenter$Lines;LAutoIndenter$Tokens;)V"⟩, 3)]
theorem lw_r2 : ∀ q ∈ lw_privs_2, lw_okq q := List.forall_mem_cons.mpr ⟨lw_p16, List.forall_mem_cons.mpr ⟨lw_p17, List.forall_mem_cons.mpr ⟨lw_p18, List.forall_mem_cons.mpr ⟨lw_p19, List.forall_mem_cons.mpr ⟨lw_p20, List.forall_mem_cons.mpr ⟨lw_p21, List.forall_mem_cons.mpr ⟨lw_p22, List.forall_mem_cons.mpr ⟨lw_p23, List.forall_mem_cons.mpr ⟨lw_p24, List.forall_mem_cons.mpr ⟨lw_p25, List.forall_mem_cons.mpr ⟨lw_p26, List.forall_mem_cons.mpr ⟨lw_p27, List.forall_mem_cons.mpr ⟨lw_p28, List.forall_mem_cons.mpr ⟨lw_p29, List.forall_mem_cons.mpr ⟨lw_p30, List.forall_mem_cons.mpr ⟨lw_p31, fun _ h => absurd h List.not_mem_nil⟩⟩⟩⟩⟩⟩⟩⟩⟩⟩⟩⟩⟩⟩⟩⟩
theorem lw_p32 : lw_okq (⟨"AutoIndenter", "imageAt", "(I)LAutoIndenter$State;"⟩, 12) := ⟨⟨by decide +kernel, by decide +kernel⟩, List.mem_of_getElem? (i := 22) (by decide +kernel), List.mem_of_getElem? (i := 975) (by decide +kernel), List.mem_of_getElem? (i := 976) (by decide +kernel)⟩
theorem lw_p33 : lw_okq (⟨"AutoIndenter", "drawLine", "(I)I"⟩, 12) := ⟨⟨by decide +kernel, by decide +kernel⟩, List.mem_of_getElem? (i := 22) (by decide +kernel), List.mem_of_getElem? (i := 988) (by decide +kernel), List.mem_of_getElem? (i := 989) (by decide +kernel)⟩
theorem lw_p34 : lw_okq (⟨"AutoIndenter", "mixLine", "(JI)J"⟩, 12) := ⟨⟨by decide +kernel, by decide +kernel⟩, List.mem_of_getElem? (i := 22) (by decide +kernel), List.mem_of_getElem? (i := 1077) (by decide +kernel), List.mem_of_getElem? (i := 1078) (by decide +kernel)⟩
theorem lw_p35 : lw_okq (⟨"AutoIndenter$Rules", "mixText", "(JI)J"⟩, 7) := ⟨⟨by decide +kernel, by decide +kernel⟩, List.mem_of_getElem? (i := 83) (by decide +kernel), List.mem_of_getElem? (i := 1086) (by decide +kernel), List.mem_of_getElem? (i := 1087) (by decide +kernel)⟩
theorem lw_p36 : lw_okq (⟨"AutoIndenterModel", "isLineText", "()Z"⟩, 41) := ⟨⟨by decide +kernel, by decide +kernel⟩, List.mem_of_getElem? (i := 1090) (by decide +kernel), List.mem_of_getElem? (i := 1236) (by decide +kernel), List.mem_of_getElem? (i := 1237) (by decide +kernel)⟩
theorem lw_p37 : lw_okq (⟨"AutoIndenterModel", "begins", "()V"⟩, 41) := ⟨⟨by decide +kernel, by decide +kernel⟩, List.mem_of_getElem? (i := 1090) (by decide +kernel), List.mem_of_getElem? (i := 1240) (by decide +kernel), List.mem_of_getElem? (i := 1241) (by decide +kernel)⟩
theorem lw_p38 : lw_okq (⟨"AutoIndenterModel", "copies", "(II)V"⟩, 41) := ⟨⟨by decide +kernel, by decide +kernel⟩, List.mem_of_getElem? (i := 1090) (by decide +kernel), List.mem_of_getElem? (i := 1244) (by decide +kernel), List.mem_of_getElem? (i := 1245) (by decide +kernel)⟩
theorem lw_p39 : lw_okq (⟨"AutoIndenterModel", "parts", "(I)V"⟩, 41) := ⟨⟨by decide +kernel, by decide +kernel⟩, List.mem_of_getElem? (i := 1090) (by decide +kernel), List.mem_of_getElem? (i := 1248) (by decide +kernel), List.mem_of_getElem? (i := 1249) (by decide +kernel)⟩
theorem lw_p40 : lw_okq (⟨"AutoIndenterModel", "copiesLine", "(II)V"⟩, 41) := ⟨⟨by decide +kernel, by decide +kernel⟩, List.mem_of_getElem? (i := 1090) (by decide +kernel), List.mem_of_getElem? (i := 1252) (by decide +kernel), List.mem_of_getElem? (i := 1253) (by decide +kernel)⟩
theorem lw_p41 : lw_okq (⟨"AutoIndenterModel", "writes", "(I)V"⟩, 41) := ⟨⟨by decide +kernel, by decide +kernel⟩, List.mem_of_getElem? (i := 1090) (by decide +kernel), List.mem_of_getElem? (i := 1256) (by decide +kernel), List.mem_of_getElem? (i := 1257) (by decide +kernel)⟩
theorem lw_p42 : lw_okq (⟨"AutoIndenterModel", "isLine", "(I)Z"⟩, 41) := ⟨⟨by decide +kernel, by decide +kernel⟩, List.mem_of_getElem? (i := 1090) (by decide +kernel), List.mem_of_getElem? (i := 1264) (by decide +kernel), List.mem_of_getElem? (i := 1265) (by decide +kernel)⟩
theorem lw_p43 : lw_okq (⟨"AutoIndenterModel", "drops", "(I)V"⟩, 41) := ⟨⟨by decide +kernel, by decide +kernel⟩, List.mem_of_getElem? (i := 1090) (by decide +kernel), List.mem_of_getElem? (i := 1272) (by decide +kernel), List.mem_of_getElem? (i := 1273) (by decide +kernel)⟩
theorem lw_p44 : lw_okq (⟨"AutoIndenterModel", "contentAt", "(II)I"⟩, 41) := ⟨⟨by decide +kernel, by decide +kernel⟩, List.mem_of_getElem? (i := 1090) (by decide +kernel), List.mem_of_getElem? (i := 1280) (by decide +kernel), List.mem_of_getElem? (i := 1281) (by decide +kernel)⟩
theorem lw_p45 : lw_okq (⟨"AutoIndenterModel", "uses", "(II)V"⟩, 41) := ⟨⟨by decide +kernel, by decide +kernel⟩, List.mem_of_getElem? (i := 1090) (by decide +kernel), List.mem_of_getElem? (i := 1284) (by decide +kernel), List.mem_of_getElem? (i := 1285) (by decide +kernel)⟩
theorem lw_p46 : lw_okq (⟨"AutoIndenterModel", "looks", "()V"⟩, 41) := ⟨⟨by decide +kernel, by decide +kernel⟩, List.mem_of_getElem? (i := 1090) (by decide +kernel), List.mem_of_getElem? (i := 1288) (by decide +kernel), List.mem_of_getElem? (i := 1289) (by decide +kernel)⟩
theorem lw_p47 : lw_okq (⟨"AutoIndenterModel", "tokenizes", "()V"⟩, 41) := ⟨⟨by decide +kernel, by decide +kernel⟩, List.mem_of_getElem? (i := 1090) (by decide +kernel), List.mem_of_getElem? (i := 1292) (by decide +kernel), List.mem_of_getElem? (i := 1293) (by decide +kernel)⟩
def lw_privs_3 : List (MethodName × Nat) := [(⟨"AutoIndenter", "imageAt", "(I)LAutoIndenter$State;"⟩, 12), (⟨"AutoIndenter", "drawLine", "(I)I"⟩, 12), (⟨"AutoIndenter", "mixLine", "(JI)J"⟩, 12), (⟨"AutoIndenter$Rules", "mixText", "(JI)J"⟩, 7), (⟨"AutoIndenterModel", "isLineText", "()Z"⟩, 41), (⟨"AutoIndenterModel", "begins", "()V"⟩, 41), (⟨"AutoIndenterModel", "copies", "(II)V"⟩, 41), (⟨"AutoIndenterModel", "parts", "(I)V"⟩, 41), (⟨"AutoIndenterModel", "copiesLine", "(II)V"⟩, 41), (⟨"AutoIndenterModel", "writes", "(I)V"⟩, 41), (⟨"AutoIndenterModel", "isLine", "(I)Z"⟩, 41), (⟨"AutoIndenterModel", "drops", "(I)V"⟩, 41), (⟨"AutoIndenterModel", "contentAt", "(II)I"⟩, 41), (⟨"AutoIndenterModel", "uses", "(II)V"⟩, 41), (⟨"AutoIndenterModel", "looks", "()V"⟩, 41), (⟨"AutoIndenterModel", "tokenizes", "()V"⟩, 41)]
theorem lw_r3 : ∀ q ∈ lw_privs_3, lw_okq q := List.forall_mem_cons.mpr ⟨lw_p32, List.forall_mem_cons.mpr ⟨lw_p33, List.forall_mem_cons.mpr ⟨lw_p34, List.forall_mem_cons.mpr ⟨lw_p35, List.forall_mem_cons.mpr ⟨lw_p36, List.forall_mem_cons.mpr ⟨lw_p37, List.forall_mem_cons.mpr ⟨lw_p38, List.forall_mem_cons.mpr ⟨lw_p39, List.forall_mem_cons.mpr ⟨lw_p40, List.forall_mem_cons.mpr ⟨lw_p41, List.forall_mem_cons.mpr ⟨lw_p42, List.forall_mem_cons.mpr ⟨lw_p43, List.forall_mem_cons.mpr ⟨lw_p44, List.forall_mem_cons.mpr ⟨lw_p45, List.forall_mem_cons.mpr ⟨lw_p46, List.forall_mem_cons.mpr ⟨lw_p47, fun _ h => absurd h List.not_mem_nil⟩⟩⟩⟩⟩⟩⟩⟩⟩⟩⟩⟩⟩⟩⟩⟩
theorem lw_p48 : lw_okq (⟨"AutoIndenterModel", "isBlank", "(I)Z"⟩, 41) := ⟨⟨by decide +kernel, by decide +kernel⟩, List.mem_of_getElem? (i := 1090) (by decide +kernel), List.mem_of_getElem? (i := 1296) (by decide +kernel), List.mem_of_getElem? (i := 1297) (by decide +kernel)⟩
theorem lw_p49 : lw_okq (⟨"AutoIndenterModel", "endOfLiteral", "(II)I"⟩, 41) := ⟨⟨by decide +kernel, by decide +kernel⟩, List.mem_of_getElem? (i := 1090) (by decide +kernel), List.mem_of_getElem? (i := 1300) (by decide +kernel), List.mem_of_getElem? (i := 1301) (by decide +kernel)⟩
theorem lw_p50 : lw_okq (⟨"AutoIndenterModel", "isTriple", "(II)Z"⟩, 41) := ⟨⟨by decide +kernel, by decide +kernel⟩, List.mem_of_getElem? (i := 1090) (by decide +kernel), List.mem_of_getElem? (i := 1304) (by decide +kernel), List.mem_of_getElem? (i := 1305) (by decide +kernel)⟩
theorem lw_p51 : lw_okq (⟨"AutoIndenterModel", "divides", "(II)Z"⟩, 41) := ⟨⟨by decide +kernel, by decide +kernel⟩, List.mem_of_getElem? (i := 1090) (by decide +kernel), List.mem_of_getElem? (i := 1308) (by decide +kernel), List.mem_of_getElem? (i := 1309) (by decide +kernel)⟩
theorem lw_p52 : lw_okq (⟨"AutoIndenterModel", "adds", "(IIII)V"⟩, 41) := ⟨⟨by decide +kernel, by decide +kernel⟩, List.mem_of_getElem? (i := 1090) (by decide +kernel), List.mem_of_getElem? (i := 1312) (by decide +kernel), List.mem_of_getElem? (i := 1313) (by decide +kernel)⟩
theorem lw_p53 : lw_okq (⟨"AutoIndenterModel", "endOfString", "(II)I"⟩, 41) := ⟨⟨by decide +kernel, by decide +kernel⟩, List.mem_of_getElem? (i := 1090) (by decide +kernel), List.mem_of_getElem? (i := 1316) (by decide +kernel), List.mem_of_getElem? (i := 1317) (by decide +kernel)⟩
theorem lw_p54 : lw_okq (⟨"AutoIndenterModel", "endOfWord", "(II)I"⟩, 41) := ⟨⟨by decide +kernel, by decide +kernel⟩, List.mem_of_getElem? (i := 1090) (by decide +kernel), List.mem_of_getElem? (i := 1326) (by decide +kernel), List.mem_of_getElem? (i := 1327) (by decide +kernel)⟩
theorem lw_p55 : lw_okq (⟨"AutoIndenterModel", "notes", "(I)V"⟩, 41) := ⟨⟨by decide +kernel, by decide +kernel⟩, List.mem_of_getElem? (i := 1090) (by decide +kernel), List.mem_of_getElem? (i := 1330) (by decide +kernel), List.mem_of_getElem? (i := 1331) (by decide +kernel)⟩
theorem lw_p56 : lw_okq (⟨"AutoIndenterModel", "shuts", "(I)V"⟩, 41) := ⟨⟨by decide +kernel, by decide +kernel⟩, List.mem_of_getElem? (i := 1090) (by decide +kernel), List.mem_of_getElem? (i := 1334) (by decide +kernel), List.mem_of_getElem? (i := 1335) (by decide +kernel)⟩
theorem lw_p57 : lw_okq (⟨"AutoIndenterModel", "hasText", "(III)Z"⟩, 41) := ⟨⟨by decide +kernel, by decide +kernel⟩, List.mem_of_getElem? (i := 1090) (by decide +kernel), List.mem_of_getElem? (i := 1338) (by decide +kernel), List.mem_of_getElem? (i := 1339) (by decide +kernel)⟩
theorem lw_p58 : lw_okq (⟨"AutoIndenterModel", "ruleAt", "(II)I"⟩, 41) := ⟨⟨by decide +kernel, by decide +kernel⟩, List.mem_of_getElem? (i := 1090) (by decide +kernel), List.mem_of_getElem? (i := 1342) (by decide +kernel), List.mem_of_getElem? (i := 1343) (by decide +kernel)⟩
theorem lw_p59 : lw_okq (⟨"AutoIndenterModel", "isClosingText", "(I)Z"⟩, 41) := ⟨⟨by decide +kernel, by decide +kernel⟩, List.mem_of_getElem? (i := 1090) (by decide +kernel), List.mem_of_getElem? (i := 1346) (by decide +kernel), List.mem_of_getElem? (i := 1347) (by decide +kernel)⟩
theorem lw_p60 : lw_okq (⟨"AutoIndenterModel", "ruleFor", "(II)I"⟩, 41) := ⟨⟨by decide +kernel, by decide +kernel⟩, List.mem_of_getElem? (i := 1090) (by decide +kernel), List.mem_of_getElem? (i := 1350) (by decide +kernel), List.mem_of_getElem? (i := 1351) (by decide +kernel)⟩
theorem lw_p61 : lw_okq (⟨"AutoIndenterModel", "isFree", "(I)Z"⟩, 41) := ⟨⟨by decide +kernel, by decide +kernel⟩, List.mem_of_getElem? (i := 1090) (by decide +kernel), List.mem_of_getElem? (i := 1354) (by decide +kernel), List.mem_of_getElem? (i := 1355) (by decide +kernel)⟩
theorem lw_p62 : lw_okq (⟨"AutoIndenterModel", "decides", "(I)V"⟩, 41) := ⟨⟨by decide +kernel, by decide +kernel⟩, List.mem_of_getElem? (i := 1090) (by decide +kernel), List.mem_of_getElem? (i := 1358) (by decide +kernel), List.mem_of_getElem? (i := 1359) (by decide +kernel)⟩
theorem lw_p63 : lw_okq (⟨"AutoIndenterModel", "columnIn", "(I)I"⟩, 41) := ⟨⟨by decide +kernel, by decide +kernel⟩, List.mem_of_getElem? (i := 1090) (by decide +kernel), List.mem_of_getElem? (i := 1362) (by decide +kernel), List.mem_of_getElem? (i := 1363) (by decide +kernel)⟩
def lw_privs_4 : List (MethodName × Nat) := [(⟨"AutoIndenterModel", "isBlank", "(I)Z"⟩, 41), (⟨"AutoIndenterModel", "endOfLiteral", "(II)I"⟩, 41), (⟨"AutoIndenterModel", "isTriple", "(II)Z"⟩, 41), (⟨"AutoIndenterModel", "divides", "(II)Z"⟩, 41), (⟨"AutoIndenterModel", "adds", "(IIII)V"⟩, 41), (⟨"AutoIndenterModel", "endOfString", "(II)I"⟩, 41), (⟨"AutoIndenterModel", "endOfWord", "(II)I"⟩, 41), (⟨"AutoIndenterModel", "notes", "(I)V"⟩, 41), (⟨"AutoIndenterModel", "shuts", "(I)V"⟩, 41), (⟨"AutoIndenterModel", "hasText", "(III)Z"⟩, 41), (⟨"AutoIndenterModel", "ruleAt", "(II)I"⟩, 41), (⟨"AutoIndenterModel", "isClosingText", "(I)Z"⟩, 41), (⟨"AutoIndenterModel", "ruleFor", "(II)I"⟩, 41), (⟨"AutoIndenterModel", "isFree", "(I)Z"⟩, 41), (⟨"AutoIndenterModel", "decides", "(I)V"⟩, 41), (⟨"AutoIndenterModel", "columnIn", "(I)I"⟩, 41)]
theorem lw_r4 : ∀ q ∈ lw_privs_4, lw_okq q := List.forall_mem_cons.mpr ⟨lw_p48, List.forall_mem_cons.mpr ⟨lw_p49, List.forall_mem_cons.mpr ⟨lw_p50, List.forall_mem_cons.mpr ⟨lw_p51, List.forall_mem_cons.mpr ⟨lw_p52, List.forall_mem_cons.mpr ⟨lw_p53, List.forall_mem_cons.mpr ⟨lw_p54, List.forall_mem_cons.mpr ⟨lw_p55, List.forall_mem_cons.mpr ⟨lw_p56, List.forall_mem_cons.mpr ⟨lw_p57, List.forall_mem_cons.mpr ⟨lw_p58, List.forall_mem_cons.mpr ⟨lw_p59, List.forall_mem_cons.mpr ⟨lw_p60, List.forall_mem_cons.mpr ⟨lw_p61, List.forall_mem_cons.mpr ⟨lw_p62, List.forall_mem_cons.mpr ⟨lw_p63, fun _ h => absurd h List.not_mem_nil⟩⟩⟩⟩⟩⟩⟩⟩⟩⟩⟩⟩⟩⟩⟩⟩
theorem lw_p64 : lw_okq (⟨"AutoIndenterModel", "isAligned", "(I)Z"⟩, 41) := ⟨⟨by decide +kernel, by decide +kernel⟩, List.mem_of_getElem? (i := 1090) (by decide +kernel), List.mem_of_getElem? (i := 1366) (by decide +kernel), List.mem_of_getElem? (i := 1367) (by decide +kernel)⟩
theorem lw_p65 : lw_okq (⟨"AutoIndenterModel", "columnOf", "(I)I"⟩, 41) := ⟨⟨by decide +kernel, by decide +kernel⟩, List.mem_of_getElem? (i := 1090) (by decide +kernel), List.mem_of_getElem? (i := 1370) (by decide +kernel), List.mem_of_getElem? (i := 1371) (by decide +kernel)⟩
theorem lw_p66 : lw_okq (⟨"AutoIndenterModel", "offers", "(IIII)V"⟩, 41) := ⟨⟨by decide +kernel, by decide +kernel⟩, List.mem_of_getElem? (i := 1090) (by decide +kernel), List.mem_of_getElem? (i := 1374) (by decide +kernel), List.mem_of_getElem? (i := 1375) (by decide +kernel)⟩
theorem lw_p67 : lw_okq (⟨"AutoIndenterModel", "isRange", "(II)Z"⟩, 41) := ⟨⟨by decide +kernel, by decide +kernel⟩, List.mem_of_getElem? (i := 1090) (by decide +kernel), List.mem_of_getElem? (i := 1386) (by decide +kernel), List.mem_of_getElem? (i := 1387) (by decide +kernel)⟩
theorem lw_p68 : lw_okq (⟨"AutoIndenterModel", "settles", "(II)I"⟩, 41) := ⟨⟨by decide +kernel, by decide +kernel⟩, List.mem_of_getElem? (i := 1090) (by decide +kernel), List.mem_of_getElem? (i := 1398) (by decide +kernel), List.mem_of_getElem? (i := 1399) (by decide +kernel)⟩
theorem lw_p69 : lw_okq (⟨"AutoIndenterModel", "sets", "(II)I"⟩, 41) := ⟨⟨by decide +kernel, by decide +kernel⟩, List.mem_of_getElem? (i := 1090) (by decide +kernel), List.mem_of_getElem? (i := 1433) (by decide +kernel), List.mem_of_getElem? (i := 1434) (by decide +kernel)⟩
theorem lw_p70 : lw_okq (⟨"AutoIndenterModel", "makes", "(IIIIII)I"⟩, 41) := ⟨⟨by decide +kernel, by decide +kernel⟩, List.mem_of_getElem? (i := 1090) (by decide +kernel), List.mem_of_getElem? (i := 1452) (by decide +kernel), List.mem_of_getElem? (i := 1453) (by decide +kernel)⟩
theorem lw_p71 : lw_okq (⟨"AutoIndenterModel", "readsTexts", "(I)I"⟩, 41) := ⟨⟨by decide +kernel, by decide +kernel⟩, List.mem_of_getElem? (i := 1090) (by decide +kernel), List.mem_of_getElem? (i := 1456) (by decide +kernel), List.mem_of_getElem? (i := 1457) (by decide +kernel)⟩
theorem lw_p72 : lw_okq (⟨"AutoIndenterModel", "readsOne", "(I)I"⟩, 41) := ⟨⟨by decide +kernel, by decide +kernel⟩, List.mem_of_getElem? (i := 1090) (by decide +kernel), List.mem_of_getElem? (i := 1460) (by decide +kernel), List.mem_of_getElem? (i := 1461) (by decide +kernel)⟩
theorem lw_p73 : lw_okq (⟨"AutoIndenterModel", "skips", "()V"⟩, 41) := ⟨⟨by decide +kernel, by decide +kernel⟩, List.mem_of_getElem? (i := 1090) (by decide +kernel), List.mem_of_getElem? (i := 1464) (by decide +kernel), List.mem_of_getElem? (i := 1465) (by decide +kernel)⟩
theorem lw_p74 : lw_okq (⟨"AutoIndenterModel", "writesText", "(II)V"⟩, 41) := ⟨⟨by decide +kernel, by decide +kernel⟩, List.mem_of_getElem? (i := 1090) (by decide +kernel), List.mem_of_getElem? (i := 1468) (by decide +kernel), List.mem_of_getElem? (i := 1469) (by decide +kernel)⟩
theorem lw_p75 : lw_okq (⟨"AutoIndenterModel", "isDecided", "(I)Z"⟩, 41) := ⟨⟨by decide +kernel, by decide +kernel⟩, List.mem_of_getElem? (i := 1090) (by decide +kernel), List.mem_of_getElem? (i := 1488) (by decide +kernel), List.mem_of_getElem? (i := 1489) (by decide +kernel)⟩
theorem lw_p76 : lw_okq (⟨"AutoIndenterModel", "changesBy", "(II)I"⟩, 41) := ⟨⟨by decide +kernel, by decide +kernel⟩, List.mem_of_getElem? (i := 1090) (by decide +kernel), List.mem_of_getElem? (i := 1508) (by decide +kernel), List.mem_of_getElem? (i := 1509) (by decide +kernel)⟩
theorem lw_p77 : lw_okq (⟨"AutoIndenterModel", "searches", "()V"⟩, 41) := ⟨⟨by decide +kernel, by decide +kernel⟩, List.mem_of_getElem? (i := 1090) (by decide +kernel), List.mem_of_getElem? (i := 1516) (by decide +kernel), List.mem_of_getElem? (i := 1517) (by decide +kernel)⟩
theorem lw_p78 : lw_okq (⟨"AutoIndenterModel", "tokenOf", "(II)I"⟩, 41) := ⟨⟨by decide +kernel, by decide +kernel⟩, List.mem_of_getElem? (i := 1090) (by decide +kernel), List.mem_of_getElem? (i := 1536) (by decide +kernel), List.mem_of_getElem? (i := 1537) (by decide +kernel)⟩
theorem lw_p79 : lw_okq (⟨"AutoIndenterModel", "placeOf", "(I)I"⟩, 41) := ⟨⟨by decide +kernel, by decide +kernel⟩, List.mem_of_getElem? (i := 1090) (by decide +kernel), List.mem_of_getElem? (i := 1552) (by decide +kernel), List.mem_of_getElem? (i := 1553) (by decide +kernel)⟩
def lw_privs_5 : List (MethodName × Nat) := [(⟨"AutoIndenterModel", "isAligned", "(I)Z"⟩, 41), (⟨"AutoIndenterModel", "columnOf", "(I)I"⟩, 41), (⟨"AutoIndenterModel", "offers", "(IIII)V"⟩, 41), (⟨"AutoIndenterModel", "isRange", "(II)Z"⟩, 41), (⟨"AutoIndenterModel", "settles", "(II)I"⟩, 41), (⟨"AutoIndenterModel", "sets", "(II)I"⟩, 41), (⟨"AutoIndenterModel", "makes", "(IIIIII)I"⟩, 41), (⟨"AutoIndenterModel", "readsTexts", "(I)I"⟩, 41), (⟨"AutoIndenterModel", "readsOne", "(I)I"⟩, 41), (⟨"AutoIndenterModel", "skips", "()V"⟩, 41), (⟨"AutoIndenterModel", "writesText", "(II)V"⟩, 41), (⟨"AutoIndenterModel", "isDecided", "(I)Z"⟩, 41), (⟨"AutoIndenterModel", "changesBy", "(II)I"⟩, 41), (⟨"AutoIndenterModel", "searches", "()V"⟩, 41), (⟨"AutoIndenterModel", "tokenOf", "(II)I"⟩, 41), (⟨"AutoIndenterModel", "placeOf", "(I)I"⟩, 41)]
theorem lw_r5 : ∀ q ∈ lw_privs_5, lw_okq q := List.forall_mem_cons.mpr ⟨lw_p64, List.forall_mem_cons.mpr ⟨lw_p65, List.forall_mem_cons.mpr ⟨lw_p66, List.forall_mem_cons.mpr ⟨lw_p67, List.forall_mem_cons.mpr ⟨lw_p68, List.forall_mem_cons.mpr ⟨lw_p69, List.forall_mem_cons.mpr ⟨lw_p70, List.forall_mem_cons.mpr ⟨lw_p71, List.forall_mem_cons.mpr ⟨lw_p72, List.forall_mem_cons.mpr ⟨lw_p73, List.forall_mem_cons.mpr ⟨lw_p74, List.forall_mem_cons.mpr ⟨lw_p75, List.forall_mem_cons.mpr ⟨lw_p76, List.forall_mem_cons.mpr ⟨lw_p77, List.forall_mem_cons.mpr ⟨lw_p78, List.forall_mem_cons.mpr ⟨lw_p79, fun _ h => absurd h List.not_mem_nil⟩⟩⟩⟩⟩⟩⟩⟩⟩⟩⟩⟩⟩⟩⟩⟩
theorem lw_p80 : lw_okq (⟨"AutoIndenterModel", "blockOf", "(II)I"⟩, 41) := ⟨⟨by decide +kernel, by decide +kernel⟩, List.mem_of_getElem? (i := 1090) (by decide +kernel), List.mem_of_getElem? (i := 1568) (by decide +kernel), List.mem_of_getElem? (i := 1569) (by decide +kernel)⟩
theorem lw_p81 : lw_okq (⟨"AutoIndenterModel", "isFirst", "(I)Z"⟩, 41) := ⟨⟨by decide +kernel, by decide +kernel⟩, List.mem_of_getElem? (i := 1090) (by decide +kernel), List.mem_of_getElem? (i := 1592) (by decide +kernel), List.mem_of_getElem? (i := 1593) (by decide +kernel)⟩
theorem lw_p82 : lw_okq (⟨"AutoIndenterModel", "isSame", "(II)Z"⟩, 41) := ⟨⟨by decide +kernel, by decide +kernel⟩, List.mem_of_getElem? (i := 1090) (by decide +kernel), List.mem_of_getElem? (i := 1596) (by decide +kernel), List.mem_of_getElem? (i := 1597) (by decide +kernel)⟩
theorem lw_p83 : lw_okq (⟨"AutoIndenterModel", "commonest", "()I"⟩, 41) := ⟨⟨by decide +kernel, by decide +kernel⟩, List.mem_of_getElem? (i := 1090) (by decide +kernel), List.mem_of_getElem? (i := 1604) (by decide +kernel), List.mem_of_getElem? (i := 1605) (by decide +kernel)⟩
theorem lw_p84 : lw_okq (⟨"AutoIndenterModel", "drawsLine", "()V"⟩, 41) := ⟨⟨by decide +kernel, by decide +kernel⟩, List.mem_of_getElem? (i := 1090) (by decide +kernel), List.mem_of_getElem? (i := 1628) (by decide +kernel), List.mem_of_getElem? (i := 1629) (by decide +kernel)⟩
theorem lw_p85 : lw_okq (⟨"AutoIndenterModel", "draws", "()I"⟩, 41) := ⟨⟨by decide +kernel, by decide +kernel⟩, List.mem_of_getElem? (i := 1090) (by decide +kernel), List.mem_of_getElem? (i := 1632) (by decide +kernel), List.mem_of_getElem? (i := 1633) (by decide +kernel)⟩
theorem lw_p86 : lw_okq (⟨"AutoIndenterModel", "mixes", "(I)V"⟩, 41) := ⟨⟨by decide +kernel, by decide +kernel⟩, List.mem_of_getElem? (i := 1090) (by decide +kernel), List.mem_of_getElem? (i := 1642) (by decide +kernel), List.mem_of_getElem? (i := 1643) (by decide +kernel)⟩
theorem lw_p87 : lw_okq (⟨"AutoIndenterModel", "mixesRule", "(I)V"⟩, 41) := ⟨⟨by decide +kernel, by decide +kernel⟩, List.mem_of_getElem? (i := 1090) (by decide +kernel), List.mem_of_getElem? (i := 1647) (by decide +kernel), List.mem_of_getElem? (i := 1648) (by decide +kernel)⟩
theorem lw_p88 : lw_okq (⟨"AutoIndenterModel", "mixesText", "(I)V"⟩, 41) := ⟨⟨by decide +kernel, by decide +kernel⟩, List.mem_of_getElem? (i := 1090) (by decide +kernel), List.mem_of_getElem? (i := 1651) (by decide +kernel), List.mem_of_getElem? (i := 1652) (by decide +kernel)⟩
def lw_privs_6 : List (MethodName × Nat) := [(⟨"AutoIndenterModel", "blockOf", "(II)I"⟩, 41), (⟨"AutoIndenterModel", "isFirst", "(I)Z"⟩, 41), (⟨"AutoIndenterModel", "isSame", "(II)Z"⟩, 41), (⟨"AutoIndenterModel", "commonest", "()I"⟩, 41), (⟨"AutoIndenterModel", "drawsLine", "()V"⟩, 41), (⟨"AutoIndenterModel", "draws", "()I"⟩, 41), (⟨"AutoIndenterModel", "mixes", "(I)V"⟩, 41), (⟨"AutoIndenterModel", "mixesRule", "(I)V"⟩, 41), (⟨"AutoIndenterModel", "mixesText", "(I)V"⟩, 41)]
theorem lw_r6 : ∀ q ∈ lw_privs_6, lw_okq q := List.forall_mem_cons.mpr ⟨lw_p80, List.forall_mem_cons.mpr ⟨lw_p81, List.forall_mem_cons.mpr ⟨lw_p82, List.forall_mem_cons.mpr ⟨lw_p83, List.forall_mem_cons.mpr ⟨lw_p84, List.forall_mem_cons.mpr ⟨lw_p85, List.forall_mem_cons.mpr ⟨lw_p86, List.forall_mem_cons.mpr ⟨lw_p87, List.forall_mem_cons.mpr ⟨lw_p88, fun _ h => absurd h List.not_mem_nil⟩⟩⟩⟩⟩⟩⟩⟩⟩
def lw_privs : List (MethodName × Nat) := lw_privs_1 ++ (lw_privs_2 ++ (lw_privs_3 ++ (lw_privs_4 ++ (lw_privs_5 ++ (lw_privs_6)))))
def lw_tbl : List Cond := k2_sels lw_privs ++ tables_1
theorem lw_privs_ok : ∀ q ∈ lw_privs, lw_okq q := by
  show ∀ q ∈ lw_privs_1 ++ (lw_privs_2 ++ (lw_privs_3 ++ (lw_privs_4 ++ (lw_privs_5 ++ (lw_privs_6))))), lw_okq q
  exact List.forall_mem_append.mpr ⟨lw_r1, List.forall_mem_append.mpr ⟨lw_r2, List.forall_mem_append.mpr ⟨lw_r3, List.forall_mem_append.mpr ⟨lw_r4, List.forall_mem_append.mpr ⟨lw_r5, lw_r6⟩⟩⟩⟩⟩
end
section
def RX0 : String := "AutoIndenter$Blocks"
def TX0 : u_T := fun k => match k with
  | 0 => ("AutoIndenter$Blocks", "rulesOf", "LAutoIndenter$Row;", true)
  | 1 => ("AutoIndenter$Blocks", "endsOf", "LAutoIndenter$Row;", true)
  | 2 => ("AutoIndenter$Blocks", "pairs", "LAutoIndenter$Row;", true)
  | 3 => ("AutoIndenter$Blocks", "openers", "LAutoIndenter$Row;", true)
  | 4 => ("AutoIndenter$Blocks", "closers", "LAutoIndenter$Row;", true)
  | 5 => ("AutoIndenter$Blocks", "levels", "LAutoIndenter$Row;", true)
  | 6 => ("AutoIndenter$Blocks", "offsets", "LAutoIndenter$Row;", true)
  | 7 => ("AutoIndenter$Blocks", "steps", "LAutoIndenter$Row;", true)
  | 8 => ("AutoIndenter$Blocks", "depths", "LAutoIndenter$Row;", true)
  | 9 => ("AutoIndenter$Blocks", "stacks", "LAutoIndenter$Row;", true)
  | 10 => ("AutoIndenter$Blocks", "stack", "LAutoIndenter$Row;", true)
  | 11 => ("AutoIndenter$Blocks", "height", "I", false)
  | 12 => ("AutoIndenter$Blocks", "strayCount", "I", false)
  | _ => ("AutoIndenter$Blocks", "lostCount", "I", false)
def tyX0 : Nat → FieldType := fun k => match k with
  | 0 => .object "AutoIndenter$Row"
  | 1 => .object "AutoIndenter$Row"
  | 2 => .object "AutoIndenter$Row"
  | 3 => .object "AutoIndenter$Row"
  | 4 => .object "AutoIndenter$Row"
  | 5 => .object "AutoIndenter$Row"
  | 6 => .object "AutoIndenter$Row"
  | 7 => .object "AutoIndenter$Row"
  | 8 => .object "AutoIndenter$Row"
  | 9 => .object "AutoIndenter$Row"
  | 10 => .object "AutoIndenter$Row"
  | 11 => .int
  | 12 => .int
  | _ => .int
abbrev wsX00 : List Cond := u_ws RX0 TX0 14
theorem nmX0 : ∀ a, a < 14 → ∀ b, b < 14 → a ≠ b → (TX0 a).2.1 ≠ (TX0 b).2.1 := by decide +kernel
theorem tyX0_ok : ∀ k, k < 14 → parseFieldDescriptor (TX0 k).2.2.1 = some (tyX0 k) := by decide +kernel
abbrev cX0_init : ByteArray := prog_2_method_1_code
def yX0_init : MethodName := ⟨RX0, "<init>", "()V"⟩
abbrev cX0_match : ByteArray := prog_2_method_2_code
def yX0_match : MethodName := ⟨RX0, "match", "(LAutoIndenter$State;LAutoIndenter$Tokens;)V"⟩
abbrev cX0_openBefore : ByteArray := prog_2_method_3_code
def yX0_openBefore : MethodName := ⟨RX0, "openBefore", "(II)I"⟩
abbrev cX0_saveStack : ByteArray := prog_2_method_4_code
def yX0_saveStack : MethodName := ⟨RX0, "saveStack", "(I)V"⟩
abbrev cX0_findRules : ByteArray := prog_2_method_5_code
def yX0_findRules : MethodName := ⟨RX0, "findRules", "(ILAutoIndenter$State;LAutoIndenter$Tokens;)V"⟩
abbrev cX0_close : ByteArray := prog_2_method_6_code
def yX0_close : MethodName := ⟨RX0, "close", "(ILAutoIndenter$Rules;)V"⟩
abbrev cX0_levelThatCloses : ByteArray := prog_2_method_7_code
def yX0_levelThatCloses : MethodName := ⟨RX0, "levelThatCloses", "(ILAutoIndenter$Rules;)I"⟩
abbrev cX0_open : ByteArray := prog_2_method_8_code
def yX0_open : MethodName := ⟨RX0, "open", "(ILAutoIndenter$Rules;LAutoIndenter$Tokens;)V"⟩
abbrev cX0_lastLeadingCloser : ByteArray := prog_2_method_9_code
def yX0_lastLeadingCloser : MethodName := ⟨RX0, "lastLeadingCloser", "(II)I"⟩
def RX1 : String := "AutoIndenter$Buffer"
def TX1 : u_T := fun k => match k with
  | 0 => ("AutoIndenter$Buffer", "count", "I", false)
  | _ => ("AutoIndenter$Buffer", "bytes", "LAutoIndenter$Row;", true)
def tyX1 : Nat → FieldType := fun k => match k with
  | 0 => .int
  | _ => .object "AutoIndenter$Row"
abbrev wsX10 : List Cond := u_ws RX1 TX1 2
theorem nmX1 : ∀ a, a < 2 → ∀ b, b < 2 → a ≠ b → (TX1 a).2.1 ≠ (TX1 b).2.1 := by decide +kernel
theorem tyX1_ok : ∀ k, k < 2 → parseFieldDescriptor (TX1 k).2.2.1 = some (tyX1 k) := by decide +kernel
abbrev cX1_init : ByteArray := prog_3_method_1_code
def yX1_init : MethodName := ⟨RX1, "<init>", "()V"⟩
abbrev cX1_add : ByteArray := prog_3_method_2_code
def yX1_add : MethodName := ⟨RX1, "add", "(I)V"⟩
abbrev cX1_byteOf : ByteArray := prog_3_method_3_code
def yX1_byteOf : MethodName := ⟨RX1, "byteOf", "(I)I"⟩
abbrev cX1_contentStart : ByteArray := prog_3_method_4_code
def yX1_contentStart : MethodName := ⟨RX1, "contentStart", "()I"⟩
abbrev cX1_contentEnd : ByteArray := prog_3_method_5_code
def yX1_contentEnd : MethodName := ⟨RX1, "contentEnd", "()I"⟩
abbrev cX1_isLine : ByteArray := prog_3_method_6_code
def yX1_isLine : MethodName := ⟨RX1, "isLine", "()Z"⟩
abbrev cX1_writeLine : ByteArray := prog_3_method_7_code
def yX1_writeLine : MethodName := ⟨RX1, "writeLine", "(LAutoIndenter$Lines;I)V"⟩
def RX2 : String := "AutoIndenter$History"
def TX2 : u_T := fun k => match k with
  | 0 => ("AutoIndenter$History", "count", "I", false)
  | 1 => ("AutoIndenter$History", "oldest", "I", false)
  | _ => ("AutoIndenter$History", "ring", "[LAutoIndenter$State;", true)
def tyX2 : Nat → FieldType := fun k => match k with
  | 0 => .int
  | 1 => .int
  | _ => .array (.object "AutoIndenter$State")
abbrev wsX20 : List Cond := u_ws RX2 TX2 3
theorem nmX2 : ∀ a, a < 3 → ∀ b, b < 3 → a ≠ b → (TX2 a).2.1 ≠ (TX2 b).2.1 := by decide +kernel
theorem tyX2_ok : ∀ k, k < 3 → parseFieldDescriptor (TX2 k).2.2.1 = some (tyX2 k) := by decide +kernel
abbrev cX2_init : ByteArray := prog_4_method_1_code
def yX2_init : MethodName := ⟨RX2, "<init>", "()V"⟩
abbrev cX2_remember : ByteArray := prog_4_method_2_code
def yX2_remember : MethodName := ⟨RX2, "remember", "(LAutoIndenter$State;)V"⟩
abbrev cX2_takeLatest : ByteArray := prog_4_method_3_code
def yX2_takeLatest : MethodName := ⟨RX2, "takeLatest", "(LAutoIndenter$State;)V"⟩
abbrev cX2_at : ByteArray := prog_4_method_4_code
def yX2_at : MethodName := ⟨RX2, "at", "(I)LAutoIndenter$State;"⟩
def RX3 : String := "AutoIndenter$Lines"
def TX3 : u_T := fun k => match k with
  | 0 => ("AutoIndenter$Lines", "count", "I", false)
  | 1 => ("AutoIndenter$Lines", "indents", "LAutoIndenter$Row;", true)
  | 2 => ("AutoIndenter$Lines", "sizes", "LAutoIndenter$Row;", true)
  | 3 => ("AutoIndenter$Lines", "pins", "LAutoIndenter$Row;", true)
  | _ => ("AutoIndenter$Lines", "bytes", "LAutoIndenter$Row;", true)
def tyX3 : Nat → FieldType := fun k => match k with
  | 0 => .int
  | 1 => .object "AutoIndenter$Row"
  | 2 => .object "AutoIndenter$Row"
  | 3 => .object "AutoIndenter$Row"
  | _ => .object "AutoIndenter$Row"
abbrev wsX30 : List Cond := u_ws RX3 TX3 5
theorem nmX3 : ∀ a, a < 5 → ∀ b, b < 5 → a ≠ b → (TX3 a).2.1 ≠ (TX3 b).2.1 := by decide +kernel
theorem tyX3_ok : ∀ k, k < 5 → parseFieldDescriptor (TX3 k).2.2.1 = some (tyX3 k) := by decide +kernel
abbrev cX3_init : ByteArray := prog_5_method_1_code
def yX3_init : MethodName := ⟨RX3, "<init>", "()V"⟩
abbrev cX3_has : ByteArray := prog_5_method_2_code
def yX3_has : MethodName := ⟨RX3, "has", "(I)Z"⟩
abbrev cX3_hasRange : ByteArray := prog_5_method_3_code
def yX3_hasRange : MethodName := ⟨RX3, "hasRange", "(II)Z"⟩
abbrev cX3_byteOf : ByteArray := prog_5_method_4_code
def yX3_byteOf : MethodName := ⟨RX3, "byteOf", "(II)I"⟩
abbrev cX3_append : ByteArray := prog_5_method_5_code
def yX3_append : MethodName := ⟨RX3, "append", "(II)V"⟩
abbrev cX3_appendFrom : ByteArray := prog_5_method_6_code
def yX3_appendFrom : MethodName := ⟨RX3, "appendFrom", "(III)V"⟩
abbrev cX3_openGap : ByteArray := prog_5_method_7_code
def yX3_openGap : MethodName := ⟨RX3, "openGap", "(I)V"⟩
abbrev cX3_closeGap : ByteArray := prog_5_method_8_code
def yX3_closeGap : MethodName := ⟨RX3, "closeGap", "(I)V"⟩
abbrev cX3_copyLine : ByteArray := prog_5_method_9_code
def yX3_copyLine : MethodName := ⟨RX3, "copyLine", "(II)V"⟩
abbrev cX3_split : ByteArray := prog_5_method_10_code
def yX3_split : MethodName := ⟨RX3, "split", "(II)V"⟩
abbrev cX3_joinedSize : ByteArray := prog_5_method_11_code
def yX3_joinedSize : MethodName := ⟨RX3, "joinedSize", "(I)I"⟩
abbrev cX3_join : ByteArray := prog_5_method_12_code
def yX3_join : MethodName := ⟨RX3, "join", "(I)V"⟩
abbrev cX3_canMove : ByteArray := prog_5_method_13_code
def yX3_canMove : MethodName := ⟨RX3, "canMove", "(III)Z"⟩
abbrev cX3_move : ByteArray := prog_5_method_14_code
def yX3_move : MethodName := ⟨RX3, "move", "(III)I"⟩
abbrev cX3_copy : ByteArray := prog_5_method_15_code
def yX3_copy : MethodName := ⟨RX3, "copy", "(LAutoIndenter$Lines;)V"⟩
def RX4 : String := "AutoIndenter$Plan"
def TX4 : u_T := fun k => match k with
  | 0 => ("AutoIndenter$Plan", "reasons", "LAutoIndenter$Row;", true)
  | 1 => ("AutoIndenter$Plan", "deciders", "LAutoIndenter$Row;", true)
  | 2 => ("AutoIndenter$Plan", "anchors", "LAutoIndenter$Row;", true)
  | 3 => ("AutoIndenter$Plan", "offsets", "LAutoIndenter$Row;", true)
  | 4 => ("AutoIndenter$Plan", "steps", "LAutoIndenter$Row;", true)
  | _ => ("AutoIndenter$Plan", "extras", "LAutoIndenter$Row;", true)
def tyX4 : Nat → FieldType := fun k => match k with
  | 0 => .object "AutoIndenter$Row"
  | 1 => .object "AutoIndenter$Row"
  | 2 => .object "AutoIndenter$Row"
  | 3 => .object "AutoIndenter$Row"
  | 4 => .object "AutoIndenter$Row"
  | _ => .object "AutoIndenter$Row"
abbrev wsX40 : List Cond := u_ws RX4 TX4 6
theorem nmX4 : ∀ a, a < 6 → ∀ b, b < 6 → a ≠ b → (TX4 a).2.1 ≠ (TX4 b).2.1 := by decide +kernel
theorem tyX4_ok : ∀ k, k < 6 → parseFieldDescriptor (TX4 k).2.2.1 = some (tyX4 k) := by decide +kernel
abbrev cX4_init : ByteArray := prog_6_method_1_code
def yX4_init : MethodName := ⟨RX4, "<init>", "()V"⟩
abbrev cX4_make : ByteArray := prog_6_method_2_code
def yX4_make : MethodName := ⟨RX4, "make", "(LAutoIndenter$State;LAutoIndenter$Tokens;LAutoIndenter$Blocks;)V"⟩
abbrev cX4_column : ByteArray := prog_6_method_3_code
def yX4_column : MethodName := ⟨RX4, "column", "(ILAutoIndenter$Row;II)I"⟩
abbrev cX4_decide : ByteArray := prog_6_method_4_code
def yX4_decide : MethodName := ⟨RX4, "decide", "(ILAutoIndenter$Rules;LAutoIndenter$Tokens;LAutoIndenter$Blocks;)V"⟩
abbrev cX4_joinerBehind : ByteArray := prog_6_method_5_code
def yX4_joinerBehind : MethodName := ⟨RX4, "joinerBehind", "(ILAutoIndenter$Rules;LAutoIndenter$Blocks;)I"⟩
abbrev cX4_standOnGround : ByteArray := prog_6_method_6_code
def yX4_standOnGround : MethodName := ⟨RX4, "standOnGround", "(IILAutoIndenter$Tokens;LAutoIndenter$Blocks;)V"⟩
abbrev cX4_addSteps : ByteArray := prog_6_method_7_code
def yX4_addSteps : MethodName := ⟨RX4, "addSteps", "(IIILAutoIndenter$Rules;)V"⟩
abbrev cX4_standByClosed : ByteArray := prog_6_method_8_code
def yX4_standByClosed : MethodName := ⟨RX4, "standByClosed", "(IIILAutoIndenter$Tokens;LAutoIndenter$Blocks;)V"⟩
def RX5 : String := "AutoIndenter$Row"
def TX5 : u_T := fun k => match k with
  | _ => ("AutoIndenter$Row", "cells", "[I", true)
def tyX5 : Nat → FieldType := fun k => match k with
  | _ => .array .int
abbrev wsX50 : List Cond := u_ws RX5 TX5 1
theorem nmX5 : ∀ a, a < 1 → ∀ b, b < 1 → a ≠ b → (TX5 a).2.1 ≠ (TX5 b).2.1 := by decide +kernel
theorem tyX5_ok : ∀ k, k < 1 → parseFieldDescriptor (TX5 k).2.2.1 = some (tyX5 k) := by decide +kernel
abbrev cX5_init : ByteArray := prog_7_method_1_code
def yX5_init : MethodName := ⟨RX5, "<init>", "(I)V"⟩
abbrev cX5_get : ByteArray := prog_7_method_2_code
def yX5_get : MethodName := ⟨RX5, "get", "(I)I"⟩
abbrev cX5_set : ByteArray := prog_7_method_3_code
def yX5_set : MethodName := ⟨RX5, "set", "(II)V"⟩
abbrev cX5_copy : ByteArray := prog_7_method_4_code
def yX5_copy : MethodName := ⟨RX5, "copy", "(LAutoIndenter$Row;)V"⟩
def RX6 : String := "AutoIndenter$RuleTexts"
def TX6 : u_T := fun k => match k with
  | 0 => ("AutoIndenter$RuleTexts", "starts", "LAutoIndenter$Row;", true)
  | 1 => ("AutoIndenter$RuleTexts", "ends", "LAutoIndenter$Row;", true)
  | _ => ("AutoIndenter$RuleTexts", "found", "I", false)
def tyX6 : Nat → FieldType := fun k => match k with
  | 0 => .object "AutoIndenter$Row"
  | 1 => .object "AutoIndenter$Row"
  | _ => .int
abbrev wsX60 : List Cond := u_ws RX6 TX6 3
theorem nmX6 : ∀ a, a < 3 → ∀ b, b < 3 → a ≠ b → (TX6 a).2.1 ≠ (TX6 b).2.1 := by decide +kernel
theorem tyX6_ok : ∀ k, k < 3 → parseFieldDescriptor (TX6 k).2.2.1 = some (tyX6 k) := by decide +kernel
abbrev cX6_init : ByteArray := prog_8_method_1_code
def yX6_init : MethodName := ⟨RX6, "<init>", "()V"⟩
abbrev cX6_find : ByteArray := prog_8_method_2_code
def yX6_find : MethodName := ⟨RX6, "find", "(LAutoIndenter$Buffer;I)I"⟩
abbrev cX6_textEnd : ByteArray := prog_8_method_3_code
def yX6_textEnd : MethodName := ⟨RX6, "textEnd", "(LAutoIndenter$Buffer;I)I"⟩
abbrev cX6_write : ByteArray := prog_8_method_4_code
def yX6_write : MethodName := ⟨RX6, "write", "(LAutoIndenter$Buffer;LAutoIndenter$Rules;I)V"⟩
def RX7 : String := "AutoIndenter$Rules"
def TX7 : u_T := fun k => match k with
  | 0 => ("AutoIndenter$Rules", "sorts", "LAutoIndenter$Row;", true)
  | 1 => ("AutoIndenter$Rules", "precedences", "LAutoIndenter$Row;", true)
  | 2 => ("AutoIndenter$Rules", "steps", "LAutoIndenter$Row;", true)
  | 3 => ("AutoIndenter$Rules", "modes", "LAutoIndenter$Row;", true)
  | 4 => ("AutoIndenter$Rules", "closings", "LAutoIndenter$Row;", true)
  | 5 => ("AutoIndenter$Rules", "textSizes", "LAutoIndenter$Row;", true)
  | _ => ("AutoIndenter$Rules", "textBytes", "LAutoIndenter$Row;", true)
def tyX7 : Nat → FieldType := fun k => match k with
  | 0 => .object "AutoIndenter$Row"
  | 1 => .object "AutoIndenter$Row"
  | 2 => .object "AutoIndenter$Row"
  | 3 => .object "AutoIndenter$Row"
  | 4 => .object "AutoIndenter$Row"
  | 5 => .object "AutoIndenter$Row"
  | _ => .object "AutoIndenter$Row"
abbrev wsX70 : List Cond := u_ws RX7 TX7 7
theorem nmX7 : ∀ a, a < 7 → ∀ b, b < 7 → a ≠ b → (TX7 a).2.1 ≠ (TX7 b).2.1 := by decide +kernel
theorem tyX7_ok : ∀ k, k < 7 → parseFieldDescriptor (TX7 k).2.2.1 = some (tyX7 k) := by decide +kernel
abbrev cX7_init : ByteArray := prog_9_method_1_code
def yX7_init : MethodName := ⟨RX7, "<init>", "()V"⟩
abbrev cX7_has : ByteArray := prog_9_method_2_code
def yX7_has : MethodName := ⟨RX7, "has", "(I)Z"⟩
abbrev cX7_size : ByteArray := prog_9_method_3_code
def yX7_size : MethodName := ⟨RX7, "size", "()I"⟩
abbrev cX7_put : ByteArray := prog_9_method_4_code
def yX7_put : MethodName := ⟨RX7, "put", "(IIII)V"⟩
abbrev cX7_appendText : ByteArray := prog_9_method_5_code
def yX7_appendText : MethodName := ⟨RX7, "appendText", "(III)V"⟩
abbrev cX7_hasText : ByteArray := prog_9_method_6_code
def yX7_hasText : MethodName := ⟨RX7, "hasText", "(IILAutoIndenter$Lines;III)Z"⟩
abbrev cX7_best : ByteArray := prog_9_method_7_code
def yX7_best : MethodName := ⟨RX7, "best", "(II)I"⟩
abbrev cX7_beats : ByteArray := prog_9_method_8_code
def yX7_beats : MethodName := ⟨RX7, "beats", "(II)Z"⟩
abbrev cX7_mixRule : ByteArray := prog_9_method_9_code
def yX7_mixRule : MethodName := ⟨RX7, "mixRule", "(JI)J"⟩
abbrev cX7_mixText : ByteArray := prog_9_method_10_code
def yX7_mixText : MethodName := ⟨RX7, "mixText", "(JI)J"⟩
abbrev cX7_copy : ByteArray := prog_9_method_11_code
def yX7_copy : MethodName := ⟨RX7, "copy", "(LAutoIndenter$Rules;)V"⟩
def RX8 : String := "AutoIndenter$State"
def TX8 : u_T := fun k => match k with
  | 0 => ("AutoIndenter$State", "text", "LAutoIndenter$Lines;", true)
  | 1 => ("AutoIndenter$State", "rules", "LAutoIndenter$Rules;", true)
  | 2 => ("AutoIndenter$State", "step", "I", false)
  | 3 => ("AutoIndenter$State", "base", "I", false)
  | _ => ("AutoIndenter$State", "comment", "I", false)
def tyX8 : Nat → FieldType := fun k => match k with
  | 0 => .object "AutoIndenter$Lines"
  | 1 => .object "AutoIndenter$Rules"
  | 2 => .int
  | 3 => .int
  | _ => .int
abbrev wsX80 : List Cond := u_ws RX8 TX8 5
theorem nmX8 : ∀ a, a < 5 → ∀ b, b < 5 → a ≠ b → (TX8 a).2.1 ≠ (TX8 b).2.1 := by decide +kernel
theorem tyX8_ok : ∀ k, k < 5 → parseFieldDescriptor (TX8 k).2.2.1 = some (tyX8 k) := by decide +kernel
abbrev cX8_init : ByteArray := prog_10_method_1_code
def yX8_init : MethodName := ⟨RX8, "<init>", "()V"⟩
abbrev cX8_copy : ByteArray := prog_10_method_2_code
def yX8_copy : MethodName := ⟨RX8, "copy", "(LAutoIndenter$State;)V"⟩
def RX9 : String := "AutoIndenter$Tokens"
def TX9 : u_T := fun k => match k with
  | 0 => ("AutoIndenter$Tokens", "count", "I", false)
  | 1 => ("AutoIndenter$Tokens", "homes", "LAutoIndenter$Row;", true)
  | 2 => ("AutoIndenter$Tokens", "starts", "LAutoIndenter$Row;", true)
  | 3 => ("AutoIndenter$Tokens", "sizes", "LAutoIndenter$Row;", true)
  | 4 => ("AutoIndenter$Tokens", "kinds", "LAutoIndenter$Row;", true)
  | 5 => ("AutoIndenter$Tokens", "firsts", "LAutoIndenter$Row;", true)
  | 6 => ("AutoIndenter$Tokens", "guards", "LAutoIndenter$Row;", true)
  | 7 => ("AutoIndenter$Tokens", "content", "LAutoIndenter$Row;", true)
  | 8 => ("AutoIndenter$Tokens", "lineSize", "I", false)
  | _ => ("AutoIndenter$Tokens", "inLiteral", "Z", false)
def tyX9 : Nat → FieldType := fun k => match k with
  | 0 => .int
  | 1 => .object "AutoIndenter$Row"
  | 2 => .object "AutoIndenter$Row"
  | 3 => .object "AutoIndenter$Row"
  | 4 => .object "AutoIndenter$Row"
  | 5 => .object "AutoIndenter$Row"
  | 6 => .object "AutoIndenter$Row"
  | 7 => .object "AutoIndenter$Row"
  | 8 => .int
  | _ => .boolean
abbrev wsX90 : List Cond := u_ws RX9 TX9 10
theorem nmX9 : ∀ a, a < 10 → ∀ b, b < 10 → a ≠ b → (TX9 a).2.1 ≠ (TX9 b).2.1 := by decide +kernel
theorem tyX9_ok : ∀ k, k < 10 → parseFieldDescriptor (TX9 k).2.2.1 = some (tyX9 k) := by decide +kernel
abbrev cX9_init : ByteArray := prog_11_method_1_code
def yX9_init : MethodName := ⟨RX9, "<init>", "()V"⟩
abbrev cX9_divide : ByteArray := prog_11_method_2_code
def yX9_divide : MethodName := ⟨RX9, "divide", "(LAutoIndenter$Lines;I)V"⟩
abbrev cX9_countIn : ByteArray := prog_11_method_3_code
def yX9_countIn : MethodName := ⟨RX9, "countIn", "(I)I"⟩
abbrev cX9_load : ByteArray := prog_11_method_4_code
def yX9_load : MethodName := ⟨RX9, "load", "(LAutoIndenter$Lines;I)V"⟩
abbrev cX9_divideLine : ByteArray := prog_11_method_5_code
def yX9_divideLine : MethodName := ⟨RX9, "divideLine", "(II)V"⟩
abbrev cX9_add : ByteArray := prog_11_method_6_code
def yX9_add : MethodName := ⟨RX9, "add", "(IIII)V"⟩
abbrev cX9_wordEnd : ByteArray := prog_11_method_7_code
def yX9_wordEnd : MethodName := ⟨RX9, "wordEnd", "(I)I"⟩
abbrev cX9_threeQuotesAt : ByteArray := prog_11_method_8_code
def yX9_threeQuotesAt : MethodName := ⟨RX9, "threeQuotesAt", "(I)Z"⟩
abbrev cX9_literalEnd : ByteArray := prog_11_method_9_code
def yX9_literalEnd : MethodName := ⟨RX9, "literalEnd", "(I)I"⟩
abbrev cX9_stringEnd : ByteArray := prog_11_method_10_code
def yX9_stringEnd : MethodName := ⟨RX9, "stringEnd", "(I)I"⟩
def RX10 : String := "AutoIndenter$Vocabulary"
def TX10 : u_T := fun k => match k with
  | 0 => ("AutoIndenter$Vocabulary", "size", "I", false)
  | 1 => ("AutoIndenter$Vocabulary", "samples", "LAutoIndenter$Row;", true)
  | _ => ("AutoIndenter$Vocabulary", "uses", "LAutoIndenter$Row;", true)
def tyX10 : Nat → FieldType := fun k => match k with
  | 0 => .int
  | 1 => .object "AutoIndenter$Row"
  | _ => .object "AutoIndenter$Row"
abbrev wsX100 : List Cond := u_ws RX10 TX10 3
theorem nmX10 : ∀ a, a < 3 → ∀ b, b < 3 → a ≠ b → (TX10 a).2.1 ≠ (TX10 b).2.1 := by decide +kernel
theorem tyX10_ok : ∀ k, k < 3 → parseFieldDescriptor (TX10 k).2.2.1 = some (tyX10 k) := by decide +kernel
abbrev cX10_init : ByteArray := prog_12_method_1_code
def yX10_init : MethodName := ⟨RX10, "<init>", "()V"⟩
abbrev cX10_count : ByteArray := prog_12_method_2_code
def yX10_count : MethodName := ⟨RX10, "count", "(LAutoIndenter$Lines;LAutoIndenter$Tokens;)V"⟩
abbrev cX10_countToken : ByteArray := prog_12_method_3_code
def yX10_countToken : MethodName := ⟨RX10, "countToken", "(ILAutoIndenter$Lines;LAutoIndenter$Tokens;)V"⟩
abbrev cX10_sameText : ByteArray := prog_12_method_4_code
def yX10_sameText : MethodName := ⟨RX10, "sameText", "(IILAutoIndenter$Lines;LAutoIndenter$Tokens;)Z"⟩
abbrev cX10_commonest : ByteArray := prog_12_method_5_code
def yX10_commonest : MethodName := ⟨RX10, "commonest", "()I"⟩
def RX11 : String := "AutoIndenter"
def TX11 : u_T := fun k => match k with
  | 0 => ("AutoIndenter", "now", "LAutoIndenter$State;", true)
  | 1 => ("AutoIndenter", "buffer", "LAutoIndenter$Buffer;", true)
  | 2 => ("AutoIndenter", "ruleTexts", "LAutoIndenter$RuleTexts;", true)
  | 3 => ("AutoIndenter", "history", "LAutoIndenter$History;", true)
  | 4 => ("AutoIndenter", "images", "[LAutoIndenter$State;", true)
  | 5 => ("AutoIndenter", "imageThere", "LAutoIndenter$Row;", true)
  | 6 => ("AutoIndenter", "division", "LAutoIndenter$Tokens;", true)
  | 7 => ("AutoIndenter", "blocks", "LAutoIndenter$Blocks;", true)
  | 8 => ("AutoIndenter", "plan", "LAutoIndenter$Plan;", true)
  | 9 => ("AutoIndenter", "words", "LAutoIndenter$Vocabulary;", true)
  | 10 => ("AutoIndenter", "trial", "LAutoIndenter$Row;", true)
  | _ => ("AutoIndenter", "studied", "Z", false)
def tyX11 : Nat → FieldType := fun k => match k with
  | 0 => .object "AutoIndenter$State"
  | 1 => .object "AutoIndenter$Buffer"
  | 2 => .object "AutoIndenter$RuleTexts"
  | 3 => .object "AutoIndenter$History"
  | 4 => .array (.object "AutoIndenter$State")
  | 5 => .object "AutoIndenter$Row"
  | 6 => .object "AutoIndenter$Tokens"
  | 7 => .object "AutoIndenter$Blocks"
  | 8 => .object "AutoIndenter$Plan"
  | 9 => .object "AutoIndenter$Vocabulary"
  | 10 => .object "AutoIndenter$Row"
  | _ => .boolean
abbrev wsX110 : List Cond := u_ws RX11 TX11 12
theorem nmX11 : ∀ a, a < 12 → ∀ b, b < 12 → a ≠ b → (TX11 a).2.1 ≠ (TX11 b).2.1 := by decide +kernel
theorem tyX11_ok : ∀ k, k < 12 → parseFieldDescriptor (TX11 k).2.2.1 = some (tyX11 k) := by decide +kernel
abbrev cX11_init : ByteArray := prog_1_method_1_code
def yX11_init : MethodName := ⟨RX11, "<init>", "()V"⟩
abbrev cX11_type : ByteArray := prog_1_method_2_code
def yX11_type : MethodName := ⟨RX11, "type", "(I)I"⟩
abbrev cX11_clear : ByteArray := prog_1_method_3_code
def yX11_clear : MethodName := ⟨RX11, "clear", "()I"⟩
abbrev cX11_insertLine : ByteArray := prog_1_method_4_code
def yX11_insertLine : MethodName := ⟨RX11, "insertLine", "(I)I"⟩
abbrev cX11_replaceLine : ByteArray := prog_1_method_5_code
def yX11_replaceLine : MethodName := ⟨RX11, "replaceLine", "(I)I"⟩
abbrev cX11_removeLine : ByteArray := prog_1_method_6_code
def yX11_removeLine : MethodName := ⟨RX11, "removeLine", "(I)I"⟩
abbrev cX11_splitLine : ByteArray := prog_1_method_7_code
def yX11_splitLine : MethodName := ⟨RX11, "splitLine", "(II)I"⟩
abbrev cX11_joinLines : ByteArray := prog_1_method_8_code
def yX11_joinLines : MethodName := ⟨RX11, "joinLines", "(I)I"⟩
abbrev cX11_shift : ByteArray := prog_1_method_9_code
def yX11_shift : MethodName := ⟨RX11, "shift", "(III)I"⟩
abbrev cX11_pin : ByteArray := prog_1_method_10_code
def yX11_pin : MethodName := ⟨RX11, "pin", "(I)I"⟩
abbrev cX11_reindent : ByteArray := prog_1_method_11_code
def yX11_reindent : MethodName := ⟨RX11, "reindent", "(II)I"⟩
abbrev cX11_lines : ByteArray := prog_1_method_12_code
def yX11_lines : MethodName := ⟨RX11, "lines", "()I"⟩
abbrev cX11_indentation : ByteArray := prog_1_method_13_code
def yX11_indentation : MethodName := ⟨RX11, "indentation", "(I)I"⟩
abbrev cX11_length : ByteArray := prog_1_method_14_code
def yX11_length : MethodName := ⟨RX11, "length", "(I)I"⟩
abbrev cX11_byteAt : ByteArray := prog_1_method_15_code
def yX11_byteAt : MethodName := ⟨RX11, "byteAt", "(II)I"⟩
abbrev cX11_isProtected : ByteArray := prog_1_method_16_code
def yX11_isProtected : MethodName := ⟨RX11, "isProtected", "(I)I"⟩
abbrev cX11_isPinned : ByteArray := prog_1_method_17_code
def yX11_isPinned : MethodName := ⟨RX11, "isPinned", "(I)I"⟩
abbrev cX11_setStep : ByteArray := prog_1_method_18_code
def yX11_setStep : MethodName := ⟨RX11, "setStep", "(I)I"⟩
abbrev cX11_setBase : ByteArray := prog_1_method_19_code
def yX11_setBase : MethodName := ⟨RX11, "setBase", "(I)I"⟩
abbrev cX11_setComment : ByteArray := prog_1_method_20_code
def yX11_setComment : MethodName := ⟨RX11, "setComment", "(I)I"⟩
abbrev cX11_pair : ByteArray := prog_1_method_21_code
def yX11_pair : MethodName := ⟨RX11, "pair", "(IIIII)I"⟩
abbrev cX11_starter : ByteArray := prog_1_method_22_code
def yX11_starter : MethodName := ⟨RX11, "starter", "(III)I"⟩
abbrev cX11_joiner : ByteArray := prog_1_method_23_code
def yX11_joiner : MethodName := ⟨RX11, "joiner", "(III)I"⟩
abbrev cX11_dropRule : ByteArray := prog_1_method_24_code
def yX11_dropRule : MethodName := ⟨RX11, "dropRule", "(I)I"⟩
abbrev cX11_wanted : ByteArray := prog_1_method_25_code
def yX11_wanted : MethodName := ⟨RX11, "wanted", "(I)I"⟩
abbrev cX11_reason : ByteArray := prog_1_method_26_code
def yX11_reason : MethodName := ⟨RX11, "reason", "(I)I"⟩
abbrev cX11_decidingRule : ByteArray := prog_1_method_27_code
def yX11_decidingRule : MethodName := ⟨RX11, "decidingRule", "(I)I"⟩
abbrev cX11_wouldChange : ByteArray := prog_1_method_28_code
def yX11_wouldChange : MethodName := ⟨RX11, "wouldChange", "()I"⟩
abbrev cX11_changesWith : ByteArray := prog_1_method_29_code
def yX11_changesWith : MethodName := ⟨RX11, "changesWith", "(II)I"⟩
abbrev cX11_fewestChanges : ByteArray := prog_1_method_30_code
def yX11_fewestChanges : MethodName := ⟨RX11, "fewestChanges", "()I"⟩
abbrev cX11_bestStep : ByteArray := prog_1_method_31_code
def yX11_bestStep : MethodName := ⟨RX11, "bestStep", "()I"⟩
abbrev cX11_bestBase : ByteArray := prog_1_method_32_code
def yX11_bestBase : MethodName := ⟨RX11, "bestBase", "()I"⟩
abbrev cX11_tokens : ByteArray := prog_1_method_33_code
def yX11_tokens : MethodName := ⟨RX11, "tokens", "(I)I"⟩
abbrev cX11_tokenAt : ByteArray := prog_1_method_34_code
def yX11_tokenAt : MethodName := ⟨RX11, "tokenAt", "(II)I"⟩
abbrev cX11_tokenLength : ByteArray := prog_1_method_35_code
def yX11_tokenLength : MethodName := ⟨RX11, "tokenLength", "(II)I"⟩
abbrev cX11_tokenKind : ByteArray := prog_1_method_36_code
def yX11_tokenKind : MethodName := ⟨RX11, "tokenKind", "(II)I"⟩
abbrev cX11_openedBy : ByteArray := prog_1_method_37_code
def yX11_openedBy : MethodName := ⟨RX11, "openedBy", "(II)I"⟩
abbrev cX11_closedBy : ByteArray := prog_1_method_38_code
def yX11_closedBy : MethodName := ⟨RX11, "closedBy", "(II)I"⟩
abbrev cX11_depth : ByteArray := prog_1_method_39_code
def yX11_depth : MethodName := ⟨RX11, "depth", "(I)I"⟩
abbrev cX11_blockRule : ByteArray := prog_1_method_40_code
def yX11_blockRule : MethodName := ⟨RX11, "blockRule", "(II)I"⟩
abbrev cX11_blockOpening : ByteArray := prog_1_method_41_code
def yX11_blockOpening : MethodName := ⟨RX11, "blockOpening", "(II)I"⟩
abbrev cX11_contentColumn : ByteArray := prog_1_method_42_code
def yX11_contentColumn : MethodName := ⟨RX11, "contentColumn", "(II)I"⟩
abbrev cX11_strays : ByteArray := prog_1_method_43_code
def yX11_strays : MethodName := ⟨RX11, "strays", "()I"⟩
abbrev cX11_lost : ByteArray := prog_1_method_44_code
def yX11_lost : MethodName := ⟨RX11, "lost", "()I"⟩
abbrev cX11_vocabulary : ByteArray := prog_1_method_45_code
def yX11_vocabulary : MethodName := ⟨RX11, "vocabulary", "()I"⟩
abbrev cX11_commonestCount : ByteArray := prog_1_method_46_code
def yX11_commonestCount : MethodName := ⟨RX11, "commonestCount", "()I"⟩
abbrev cX11_commonestByte : ByteArray := prog_1_method_47_code
def yX11_commonestByte : MethodName := ⟨RX11, "commonestByte", "(I)I"⟩
abbrev cX11_undo : ByteArray := prog_1_method_48_code
def yX11_undo : MethodName := ⟨RX11, "undo", "()I"⟩
abbrev cX11_keep : ByteArray := prog_1_method_49_code
def yX11_keep : MethodName := ⟨RX11, "keep", "(I)I"⟩
abbrev cX11_back : ByteArray := prog_1_method_50_code
def yX11_back : MethodName := ⟨RX11, "back", "(I)I"⟩
abbrev cX11_draw : ByteArray := prog_1_method_51_code
def yX11_draw : MethodName := ⟨RX11, "draw", "(II)I"⟩
abbrev cX11_digest : ByteArray := prog_1_method_52_code
def yX11_digest : MethodName := ⟨RX11, "digest", "()J"⟩
abbrev cX11_within : ByteArray := prog_1_method_53_code
def yX11_within : MethodName := ⟨RX11, "within", "(III)Z"⟩
abbrev cX11_isWordByte : ByteArray := prog_1_method_54_code
def yX11_isWordByte : MethodName := ⟨RX11, "isWordByte", "(I)Z"⟩
abbrev cX11_canBeginComment : ByteArray := prog_1_method_55_code
def yX11_canBeginComment : MethodName := ⟨RX11, "canBeginComment", "(I)Z"⟩
abbrev cX11_isRuleNumber : ByteArray := prog_1_method_56_code
def yX11_isRuleNumber : MethodName := ⟨RX11, "isRuleNumber", "(I)Z"⟩
abbrev cX11_imageAt : ByteArray := prog_1_method_57_code
def yX11_imageAt : MethodName := ⟨RX11, "imageAt", "(I)LAutoIndenter$State;"⟩
abbrev cX11_columnFrom : ByteArray := prog_1_method_58_code
def yX11_columnFrom : MethodName := ⟨RX11, "columnFrom", "(IIII)I"⟩
abbrev cX11_mix : ByteArray := prog_1_method_59_code
def yX11_mix : MethodName := ⟨RX11, "mix", "(JI)J"⟩
abbrev cX11_beginChange : ByteArray := prog_1_method_60_code
def yX11_beginChange : MethodName := ⟨RX11, "beginChange", "()V"⟩
abbrev cX11_study : ByteArray := prog_1_method_61_code
def yX11_study : MethodName := ⟨RX11, "study", "()V"⟩
abbrev cX11_refusalOfOneText : ByteArray := prog_1_method_62_code
def yX11_refusalOfOneText : MethodName := ⟨RX11, "refusalOfOneText", "(III)I"⟩
abbrev cX11_makeRule : ByteArray := prog_1_method_63_code
def yX11_makeRule : MethodName := ⟨RX11, "makeRule", "(IIII)I"⟩
abbrev cX11_indentAnew : ByteArray := prog_1_method_64_code
def yX11_indentAnew : MethodName := ⟨RX11, "indentAnew", "(ILAutoIndenter$Row;II)Z"⟩
abbrev cX11_linesChangedWith : ByteArray := prog_1_method_65_code
def yX11_linesChangedWith : MethodName := ⟨RX11, "linesChangedWith", "(II)I"⟩
abbrev cX11_findBestSetting : ByteArray := prog_1_method_66_code
def yX11_findBestSetting : MethodName := ⟨RX11, "findBestSetting", "()I"⟩
abbrev cX11_findToken : ByteArray := prog_1_method_67_code
def yX11_findToken : MethodName := ⟨RX11, "findToken", "(II)I"⟩
abbrev cX11_findBlock : ByteArray := prog_1_method_68_code
def yX11_findBlock : MethodName := ⟨RX11, "findBlock", "(II)I"⟩
abbrev cX11_placeOf : ByteArray := prog_1_method_69_code
def yX11_placeOf : MethodName := ⟨RX11, "placeOf", "(I)I"⟩
abbrev cX11_mixLine : ByteArray := prog_1_method_70_code
def yX11_mixLine : MethodName := ⟨RX11, "mixLine", "(JI)J"⟩
abbrev cX11_drawLine : ByteArray := prog_1_method_71_code
def yX11_drawLine : MethodName := ⟨RX11, "drawLine", "(I)I"⟩
abbrev cX11_nextSeed : ByteArray := prog_1_method_72_code
def yX11_nextSeed : MethodName := ⟨RX11, "nextSeed", "(I)I"⟩
abbrev cX11_drawnNumber : ByteArray := prog_1_method_73_code
def yX11_drawnNumber : MethodName := ⟨RX11, "drawnNumber", "(I)I"⟩
abbrev cX11_pieceText : ByteArray := prog_1_method_74_code
def yX11_pieceText : MethodName := ⟨RX11, "pieceText", "(I)Ljava/lang/String;"⟩
def RX12 : String := "AutoIndenterModel"
def TX12 : u_T := fun k => match k with
  | 0 => ("AutoIndenterModel", "page", "[I", true)
  | 1 => ("AutoIndenterModel", "remembered", "I", false)
  | 2 => ("AutoIndenterModel", "isKept", "[Z", true)
  | 3 => ("AutoIndenterModel", "text", "[I", true)
  | 4 => ("AutoIndenterModel", "typed", "I", false)
  | 5 => ("AutoIndenterModel", "tokenLine", "[I", true)
  | 6 => ("AutoIndenterModel", "tokenSpot", "[I", true)
  | 7 => ("AutoIndenterModel", "tokenLong", "[I", true)
  | 8 => ("AutoIndenterModel", "tokenSort", "[I", true)
  | 9 => ("AutoIndenterModel", "opens", "[I", true)
  | 10 => ("AutoIndenterModel", "closes", "[I", true)
  | 11 => ("AutoIndenterModel", "closer", "[I", true)
  | 12 => ("AutoIndenterModel", "many", "I", false)
  | 13 => ("AutoIndenterModel", "firstOf", "[I", true)
  | 14 => ("AutoIndenterModel", "isHeld", "[Z", true)
  | 15 => ("AutoIndenterModel", "depths", "[I", true)
  | 16 => ("AutoIndenterModel", "stacks", "[I", true)
  | 17 => ("AutoIndenterModel", "stack", "[I", true)
  | 18 => ("AutoIndenterModel", "stacked", "I", false)
  | 19 => ("AutoIndenterModel", "stray", "I", false)
  | 20 => ("AutoIndenterModel", "gone", "I", false)
  | 21 => ("AutoIndenterModel", "row", "[I", true)
  | 22 => ("AutoIndenterModel", "useStep", "I", false)
  | 23 => ("AutoIndenterModel", "useBase", "I", false)
  | 24 => ("AutoIndenterModel", "column", "I", false)
  | 25 => ("AutoIndenterModel", "why", "I", false)
  | 26 => ("AutoIndenterModel", "by", "I", false)
  | 27 => ("AutoIndenterModel", "weight", "I", false)
  | 28 => ("AutoIndenterModel", "lineFrom", "I", false)
  | 29 => ("AutoIndenterModel", "lineTo", "I", false)
  | 30 => ("AutoIndenterModel", "textFrom", "[I", true)
  | 31 => ("AutoIndenterModel", "textTo", "[I", true)
  | 32 => ("AutoIndenterModel", "spot", "I", false)
  | 33 => ("AutoIndenterModel", "fewest", "I", false)
  | 34 => ("AutoIndenterModel", "fewestStep", "I", false)
  | 35 => ("AutoIndenterModel", "fewestBase", "I", false)
  | 36 => ("AutoIndenterModel", "often", "I", false)
  | 37 => ("AutoIndenterModel", "drawn", "I", false)
  | 38 => ("AutoIndenterModel", "pieceEnds", "[I", true)
  | 39 => ("AutoIndenterModel", "pieces", "[I", true)
  | _ => ("AutoIndenterModel", "hash", "J", false)
def tyX12 : Nat → FieldType := fun k => match k with
  | 0 => .array .int
  | 1 => .int
  | 2 => .array .boolean
  | 3 => .array .int
  | 4 => .int
  | 5 => .array .int
  | 6 => .array .int
  | 7 => .array .int
  | 8 => .array .int
  | 9 => .array .int
  | 10 => .array .int
  | 11 => .array .int
  | 12 => .int
  | 13 => .array .int
  | 14 => .array .boolean
  | 15 => .array .int
  | 16 => .array .int
  | 17 => .array .int
  | 18 => .int
  | 19 => .int
  | 20 => .int
  | 21 => .array .int
  | 22 => .int
  | 23 => .int
  | 24 => .int
  | 25 => .int
  | 26 => .int
  | 27 => .int
  | 28 => .int
  | 29 => .int
  | 30 => .array .int
  | 31 => .array .int
  | 32 => .int
  | 33 => .int
  | 34 => .int
  | 35 => .int
  | 36 => .int
  | 37 => .int
  | 38 => .array .int
  | 39 => .array .int
  | _ => .long
abbrev wsX120 : List Cond := u_ws RX12 TX12 41
theorem nmX12 : ∀ a, a < 41 → ∀ b, b < 41 → a ≠ b → (TX12 a).2.1 ≠ (TX12 b).2.1 := by decide +kernel
theorem tyX12_ok : ∀ k, k < 41 → parseFieldDescriptor (TX12 k).2.2.1 = some (tyX12 k) := by decide +kernel
abbrev cX12_init : ByteArray := prog_14_method_1_code
def yX12_init : MethodName := ⟨RX12, "<init>", "()V"⟩
abbrev cX12_in : ByteArray := prog_14_method_3_code
def yX12_in : MethodName := ⟨RX12, "in", "(III)Z"⟩
abbrev cX12_least : ByteArray := prog_14_method_4_code
def yX12_least : MethodName := ⟨RX12, "least", "(II)I"⟩
abbrev cX12_copies : ByteArray := prog_14_method_5_code
def yX12_copies : MethodName := ⟨RX12, "copies", "(II)V"⟩
abbrev cX12_begins : ByteArray := prog_14_method_6_code
def yX12_begins : MethodName := ⟨RX12, "begins", "()V"⟩
abbrev cX12_isLine : ByteArray := prog_14_method_7_code
def yX12_isLine : MethodName := ⟨RX12, "isLine", "(I)Z"⟩
abbrev cX12_isBlank : ByteArray := prog_14_method_8_code
def yX12_isBlank : MethodName := ⟨RX12, "isBlank", "(I)Z"⟩
abbrev cX12_contentAt : ByteArray := prog_14_method_9_code
def yX12_contentAt : MethodName := ⟨RX12, "contentAt", "(II)I"⟩
abbrev cX12_isWord : ByteArray := prog_14_method_10_code
def yX12_isWord : MethodName := ⟨RX12, "isWord", "(I)Z"⟩
abbrev cX12_isTriple : ByteArray := prog_14_method_11_code
def yX12_isTriple : MethodName := ⟨RX12, "isTriple", "(II)Z"⟩
abbrev cX12_endOfLiteral : ByteArray := prog_14_method_12_code
def yX12_endOfLiteral : MethodName := ⟨RX12, "endOfLiteral", "(II)I"⟩
abbrev cX12_endOfString : ByteArray := prog_14_method_13_code
def yX12_endOfString : MethodName := ⟨RX12, "endOfString", "(II)I"⟩
abbrev cX12_endOfWord : ByteArray := prog_14_method_14_code
def yX12_endOfWord : MethodName := ⟨RX12, "endOfWord", "(II)I"⟩
abbrev cX12_adds : ByteArray := prog_14_method_15_code
def yX12_adds : MethodName := ⟨RX12, "adds", "(IIII)V"⟩
abbrev cX12_divides : ByteArray := prog_14_method_16_code
def yX12_divides : MethodName := ⟨RX12, "divides", "(II)Z"⟩
abbrev cX12_tokenizes : ByteArray := prog_14_method_17_code
def yX12_tokenizes : MethodName := ⟨RX12, "tokenizes", "()V"⟩
abbrev cX12_hasText : ByteArray := prog_14_method_18_code
def yX12_hasText : MethodName := ⟨RX12, "hasText", "(III)Z"⟩
abbrev cX12_ruleAt : ByteArray := prog_14_method_19_code
def yX12_ruleAt : MethodName := ⟨RX12, "ruleAt", "(II)I"⟩
abbrev cX12_ruleFor : ByteArray := prog_14_method_20_code
def yX12_ruleFor : MethodName := ⟨RX12, "ruleFor", "(II)I"⟩
abbrev cX12_isClosingText : ByteArray := prog_14_method_21_code
def yX12_isClosingText : MethodName := ⟨RX12, "isClosingText", "(I)Z"⟩
abbrev cX12_shuts : ByteArray := prog_14_method_22_code
def yX12_shuts : MethodName := ⟨RX12, "shuts", "(I)V"⟩
abbrev cX12_notes : ByteArray := prog_14_method_23_code
def yX12_notes : MethodName := ⟨RX12, "notes", "(I)V"⟩
abbrev cX12_looks : ByteArray := prog_14_method_24_code
def yX12_looks : MethodName := ⟨RX12, "looks", "()V"⟩
abbrev cX12_uses : ByteArray := prog_14_method_25_code
def yX12_uses : MethodName := ⟨RX12, "uses", "(II)V"⟩
abbrev cX12_columnOf : ByteArray := prog_14_method_26_code
def yX12_columnOf : MethodName := ⟨RX12, "columnOf", "(I)I"⟩
abbrev cX12_isAligned : ByteArray := prog_14_method_27_code
def yX12_isAligned : MethodName := ⟨RX12, "isAligned", "(I)Z"⟩
abbrev cX12_columnIn : ByteArray := prog_14_method_28_code
def yX12_columnIn : MethodName := ⟨RX12, "columnIn", "(I)I"⟩
abbrev cX12_offers : ByteArray := prog_14_method_29_code
def yX12_offers : MethodName := ⟨RX12, "offers", "(IIII)V"⟩
abbrev cX12_decides : ByteArray := prog_14_method_30_code
def yX12_decides : MethodName := ⟨RX12, "decides", "(I)V"⟩
abbrev cX12_isFree : ByteArray := prog_14_method_31_code
def yX12_isFree : MethodName := ⟨RX12, "isFree", "(I)Z"⟩
abbrev cX12_settles : ByteArray := prog_14_method_32_code
def yX12_settles : MethodName := ⟨RX12, "settles", "(II)I"⟩
abbrev cX12_bits : ByteArray := prog_14_method_33_code
def yX12_bits : MethodName := ⟨RX12, "bits", "(I)I"⟩
abbrev cX12_type : ByteArray := prog_14_method_34_code
def yX12_type : MethodName := ⟨RX12, "type", "(I)I"⟩
abbrev cX12_clear : ByteArray := prog_14_method_35_code
def yX12_clear : MethodName := ⟨RX12, "clear", "()I"⟩
abbrev cX12_isLineText : ByteArray := prog_14_method_36_code
def yX12_isLineText : MethodName := ⟨RX12, "isLineText", "()Z"⟩
abbrev cX12_writes : ByteArray := prog_14_method_37_code
def yX12_writes : MethodName := ⟨RX12, "writes", "(I)V"⟩
abbrev cX12_copiesLine : ByteArray := prog_14_method_38_code
def yX12_copiesLine : MethodName := ⟨RX12, "copiesLine", "(II)V"⟩
abbrev cX12_parts : ByteArray := prog_14_method_39_code
def yX12_parts : MethodName := ⟨RX12, "parts", "(I)V"⟩
abbrev cX12_drops : ByteArray := prog_14_method_40_code
def yX12_drops : MethodName := ⟨RX12, "drops", "(I)V"⟩
abbrev cX12_insertLine : ByteArray := prog_14_method_41_code
def yX12_insertLine : MethodName := ⟨RX12, "insertLine", "(I)I"⟩
abbrev cX12_replaceLine : ByteArray := prog_14_method_42_code
def yX12_replaceLine : MethodName := ⟨RX12, "replaceLine", "(I)I"⟩
abbrev cX12_removeLine : ByteArray := prog_14_method_43_code
def yX12_removeLine : MethodName := ⟨RX12, "removeLine", "(I)I"⟩
abbrev cX12_splitLine : ByteArray := prog_14_method_44_code
def yX12_splitLine : MethodName := ⟨RX12, "splitLine", "(II)I"⟩
abbrev cX12_joinLines : ByteArray := prog_14_method_45_code
def yX12_joinLines : MethodName := ⟨RX12, "joinLines", "(I)I"⟩
abbrev cX12_isRange : ByteArray := prog_14_method_46_code
def yX12_isRange : MethodName := ⟨RX12, "isRange", "(II)Z"⟩
abbrev cX12_shift : ByteArray := prog_14_method_47_code
def yX12_shift : MethodName := ⟨RX12, "shift", "(III)I"⟩
abbrev cX12_pin : ByteArray := prog_14_method_48_code
def yX12_pin : MethodName := ⟨RX12, "pin", "(I)I"⟩
abbrev cX12_reindent : ByteArray := prog_14_method_49_code
def yX12_reindent : MethodName := ⟨RX12, "reindent", "(II)I"⟩
abbrev cX12_lines : ByteArray := prog_14_method_50_code
def yX12_lines : MethodName := ⟨RX12, "lines", "()I"⟩
abbrev cX12_indentation : ByteArray := prog_14_method_51_code
def yX12_indentation : MethodName := ⟨RX12, "indentation", "(I)I"⟩
abbrev cX12_length : ByteArray := prog_14_method_52_code
def yX12_length : MethodName := ⟨RX12, "length", "(I)I"⟩
abbrev cX12_byteAt : ByteArray := prog_14_method_53_code
def yX12_byteAt : MethodName := ⟨RX12, "byteAt", "(II)I"⟩
abbrev cX12_isProtected : ByteArray := prog_14_method_54_code
def yX12_isProtected : MethodName := ⟨RX12, "isProtected", "(I)I"⟩
abbrev cX12_isPinned : ByteArray := prog_14_method_55_code
def yX12_isPinned : MethodName := ⟨RX12, "isPinned", "(I)I"⟩
abbrev cX12_sets : ByteArray := prog_14_method_56_code
def yX12_sets : MethodName := ⟨RX12, "sets", "(II)I"⟩
abbrev cX12_setStep : ByteArray := prog_14_method_57_code
def yX12_setStep : MethodName := ⟨RX12, "setStep", "(I)I"⟩
abbrev cX12_setBase : ByteArray := prog_14_method_58_code
def yX12_setBase : MethodName := ⟨RX12, "setBase", "(I)I"⟩
abbrev cX12_setComment : ByteArray := prog_14_method_59_code
def yX12_setComment : MethodName := ⟨RX12, "setComment", "(I)I"⟩
abbrev cX12_skips : ByteArray := prog_14_method_60_code
def yX12_skips : MethodName := ⟨RX12, "skips", "()V"⟩
abbrev cX12_readsOne : ByteArray := prog_14_method_61_code
def yX12_readsOne : MethodName := ⟨RX12, "readsOne", "(I)I"⟩
abbrev cX12_readsTexts : ByteArray := prog_14_method_62_code
def yX12_readsTexts : MethodName := ⟨RX12, "readsTexts", "(I)I"⟩
abbrev cX12_writesText : ByteArray := prog_14_method_63_code
def yX12_writesText : MethodName := ⟨RX12, "writesText", "(II)V"⟩
abbrev cX12_makes : ByteArray := prog_14_method_64_code
def yX12_makes : MethodName := ⟨RX12, "makes", "(IIIIII)I"⟩
abbrev cX12_isRule : ByteArray := prog_14_method_65_code
def yX12_isRule : MethodName := ⟨RX12, "isRule", "(II)Z"⟩
abbrev cX12_pair : ByteArray := prog_14_method_66_code
def yX12_pair : MethodName := ⟨RX12, "pair", "(IIIII)I"⟩
abbrev cX12_starter : ByteArray := prog_14_method_67_code
def yX12_starter : MethodName := ⟨RX12, "starter", "(III)I"⟩
abbrev cX12_joiner : ByteArray := prog_14_method_68_code
def yX12_joiner : MethodName := ⟨RX12, "joiner", "(III)I"⟩
abbrev cX12_dropRule : ByteArray := prog_14_method_69_code
def yX12_dropRule : MethodName := ⟨RX12, "dropRule", "(I)I"⟩
abbrev cX12_isDecided : ByteArray := prog_14_method_70_code
def yX12_isDecided : MethodName := ⟨RX12, "isDecided", "(I)Z"⟩
abbrev cX12_wanted : ByteArray := prog_14_method_71_code
def yX12_wanted : MethodName := ⟨RX12, "wanted", "(I)I"⟩
abbrev cX12_reason : ByteArray := prog_14_method_72_code
def yX12_reason : MethodName := ⟨RX12, "reason", "(I)I"⟩
abbrev cX12_decidingRule : ByteArray := prog_14_method_73_code
def yX12_decidingRule : MethodName := ⟨RX12, "decidingRule", "(I)I"⟩
abbrev cX12_wouldChange : ByteArray := prog_14_method_74_code
def yX12_wouldChange : MethodName := ⟨RX12, "wouldChange", "()I"⟩
abbrev cX12_changesBy : ByteArray := prog_14_method_75_code
def yX12_changesBy : MethodName := ⟨RX12, "changesBy", "(II)I"⟩
abbrev cX12_changesWith : ByteArray := prog_14_method_76_code
def yX12_changesWith : MethodName := ⟨RX12, "changesWith", "(II)I"⟩
abbrev cX12_searches : ByteArray := prog_14_method_77_code
def yX12_searches : MethodName := ⟨RX12, "searches", "()V"⟩
abbrev cX12_fewestChanges : ByteArray := prog_14_method_78_code
def yX12_fewestChanges : MethodName := ⟨RX12, "fewestChanges", "()I"⟩
abbrev cX12_bestStep : ByteArray := prog_14_method_79_code
def yX12_bestStep : MethodName := ⟨RX12, "bestStep", "()I"⟩
abbrev cX12_bestBase : ByteArray := prog_14_method_80_code
def yX12_bestBase : MethodName := ⟨RX12, "bestBase", "()I"⟩
abbrev cX12_tokenOf : ByteArray := prog_14_method_81_code
def yX12_tokenOf : MethodName := ⟨RX12, "tokenOf", "(II)I"⟩
abbrev cX12_tokens : ByteArray := prog_14_method_82_code
def yX12_tokens : MethodName := ⟨RX12, "tokens", "(I)I"⟩
abbrev cX12_tokenAt : ByteArray := prog_14_method_83_code
def yX12_tokenAt : MethodName := ⟨RX12, "tokenAt", "(II)I"⟩
abbrev cX12_tokenLength : ByteArray := prog_14_method_84_code
def yX12_tokenLength : MethodName := ⟨RX12, "tokenLength", "(II)I"⟩
abbrev cX12_tokenKind : ByteArray := prog_14_method_85_code
def yX12_tokenKind : MethodName := ⟨RX12, "tokenKind", "(II)I"⟩
abbrev cX12_placeOf : ByteArray := prog_14_method_86_code
def yX12_placeOf : MethodName := ⟨RX12, "placeOf", "(I)I"⟩
abbrev cX12_openedBy : ByteArray := prog_14_method_87_code
def yX12_openedBy : MethodName := ⟨RX12, "openedBy", "(II)I"⟩
abbrev cX12_closedBy : ByteArray := prog_14_method_88_code
def yX12_closedBy : MethodName := ⟨RX12, "closedBy", "(II)I"⟩
abbrev cX12_depth : ByteArray := prog_14_method_89_code
def yX12_depth : MethodName := ⟨RX12, "depth", "(I)I"⟩
abbrev cX12_blockOf : ByteArray := prog_14_method_90_code
def yX12_blockOf : MethodName := ⟨RX12, "blockOf", "(II)I"⟩
abbrev cX12_blockRule : ByteArray := prog_14_method_91_code
def yX12_blockRule : MethodName := ⟨RX12, "blockRule", "(II)I"⟩
abbrev cX12_blockOpening : ByteArray := prog_14_method_92_code
def yX12_blockOpening : MethodName := ⟨RX12, "blockOpening", "(II)I"⟩
abbrev cX12_contentColumn : ByteArray := prog_14_method_93_code
def yX12_contentColumn : MethodName := ⟨RX12, "contentColumn", "(II)I"⟩
abbrev cX12_strays : ByteArray := prog_14_method_94_code
def yX12_strays : MethodName := ⟨RX12, "strays", "()I"⟩
abbrev cX12_lost : ByteArray := prog_14_method_95_code
def yX12_lost : MethodName := ⟨RX12, "lost", "()I"⟩
abbrev cX12_isSame : ByteArray := prog_14_method_96_code
def yX12_isSame : MethodName := ⟨RX12, "isSame", "(II)Z"⟩
abbrev cX12_isFirst : ByteArray := prog_14_method_97_code
def yX12_isFirst : MethodName := ⟨RX12, "isFirst", "(I)Z"⟩
abbrev cX12_vocabulary : ByteArray := prog_14_method_98_code
def yX12_vocabulary : MethodName := ⟨RX12, "vocabulary", "()I"⟩
abbrev cX12_commonest : ByteArray := prog_14_method_99_code
def yX12_commonest : MethodName := ⟨RX12, "commonest", "()I"⟩
abbrev cX12_commonestCount : ByteArray := prog_14_method_100_code
def yX12_commonestCount : MethodName := ⟨RX12, "commonestCount", "()I"⟩
abbrev cX12_commonestByte : ByteArray := prog_14_method_101_code
def yX12_commonestByte : MethodName := ⟨RX12, "commonestByte", "(I)I"⟩
abbrev cX12_undo : ByteArray := prog_14_method_102_code
def yX12_undo : MethodName := ⟨RX12, "undo", "()I"⟩
abbrev cX12_keep : ByteArray := prog_14_method_103_code
def yX12_keep : MethodName := ⟨RX12, "keep", "(I)I"⟩
abbrev cX12_back : ByteArray := prog_14_method_104_code
def yX12_back : MethodName := ⟨RX12, "back", "(I)I"⟩
abbrev cX12_draws : ByteArray := prog_14_method_105_code
def yX12_draws : MethodName := ⟨RX12, "draws", "()I"⟩
abbrev cX12_drawsLine : ByteArray := prog_14_method_106_code
def yX12_drawsLine : MethodName := ⟨RX12, "drawsLine", "()V"⟩
abbrev cX12_draw : ByteArray := prog_14_method_107_code
def yX12_draw : MethodName := ⟨RX12, "draw", "(II)I"⟩
abbrev cX12_mixes : ByteArray := prog_14_method_108_code
def yX12_mixes : MethodName := ⟨RX12, "mixes", "(I)V"⟩
abbrev cX12_mixesText : ByteArray := prog_14_method_109_code
def yX12_mixesText : MethodName := ⟨RX12, "mixesText", "(I)V"⟩
abbrev cX12_mixesRule : ByteArray := prog_14_method_110_code
def yX12_mixesRule : MethodName := ⟨RX12, "mixesRule", "(I)V"⟩
abbrev cX12_digest : ByteArray := prog_14_method_111_code
def yX12_digest : MethodName := ⟨RX12, "digest", "()J"⟩
def RJ6 : String := "java/lang/Integer"
def TJ6 : u_T := fun k => match k with
  | _ => ("", "", "", false)
def tyJ6 : Nat → FieldType := fun k => match k with
  | _ => .int
abbrev wsJ60 : List Cond := u_ws RJ6 TJ6 0
theorem nmJ6 : ∀ a, a < 0 → ∀ b, b < 0 → a ≠ b → (TJ6 a).2.1 ≠ (TJ6 b).2.1 := by decide +kernel
theorem tyJ6_ok : ∀ k, k < 0 → parseFieldDescriptor (TJ6 k).2.2.1 = some (tyJ6 k) := by decide +kernel
abbrev cJ6_bitCount_0f7a4 : ByteArray := prog_15_method_49_code
def yJ6_bitCount_0f7a4 : MethodName := ⟨RJ6, "bitCount", "(I)I"⟩
def RJ9 : String := "java/lang/Math"
def TJ9 : u_T := fun k => match k with
  | _ => ("", "", "", false)
def tyJ9 : Nat → FieldType := fun k => match k with
  | _ => .int
abbrev wsJ90 : List Cond := u_ws RJ9 TJ9 0
theorem nmJ9 : ∀ a, a < 0 → ∀ b, b < 0 → a ≠ b → (TJ9 a).2.1 ≠ (TJ9 b).2.1 := by decide +kernel
theorem tyJ9_ok : ∀ k, k < 0 → parseFieldDescriptor (TJ9 k).2.2.1 = some (tyJ9 k) := by decide +kernel
abbrev cJ9_max_7cf53 : ByteArray := prog_16_method_65_code
def yJ9_max_7cf53 : MethodName := ⟨RJ9, "max", "(II)I"⟩
abbrev cJ9_min_7cf53 : ByteArray := prog_16_method_69_code
def yJ9_min_7cf53 : MethodName := ⟨RJ9, "min", "(II)I"⟩
def RJ0 : String := "java/lang/String"
def TJ0 : u_T := fun k => match k with
  | _ => ("", "", "", false)
def tyJ0 : Nat → FieldType := fun k => match k with
  | _ => .int
abbrev wsJ00 : List Cond := u_ws RJ0 TJ0 0
theorem nmJ0 : ∀ a, a < 0 → ∀ b, b < 0 → a ≠ b → (TJ0 a).2.1 ≠ (TJ0 b).2.1 := by decide +kernel
theorem tyJ0_ok : ∀ k, k < 0 → parseFieldDescriptor (TJ0 k).2.2.1 = some (tyJ0 k) := by decide +kernel
abbrev cJ0_length_8abf5 : ByteArray := prog_17_method_54_code
def yJ0_length_8abf5 : MethodName := ⟨RJ0, "length", "()I"⟩
abbrev cJ0_charAt_5068e : ByteArray := prog_17_method_56_code
def yJ0_charAt_5068e : MethodName := ⟨RJ0, "charAt", "(I)C"⟩
abbrev cJ0_coder_7d493 : ByteArray := prog_17_method_152_code
def yJ0_coder_7d493 : MethodName := ⟨RJ0, "coder", "()B"⟩
abbrev cJ0_isLatin1_aae02 : ByteArray := prog_17_method_154_code
def yJ0_isLatin1_aae02 : MethodName := ⟨RJ0, "isLatin1", "()Z"⟩
abbrev cJ0_checkIndex_df160 : ByteArray := prog_17_method_155_code
def yJ0_checkIndex_df160 : MethodName := ⟨RJ0, "checkIndex", "(II)V"⟩
def RJ1 : String := "java/lang/StringLatin1"
def TJ1 : u_T := fun k => match k with
  | _ => ("", "", "", false)
def tyJ1 : Nat → FieldType := fun k => match k with
  | _ => .int
abbrev wsJ10 : List Cond := u_ws RJ1 TJ1 0
theorem nmJ1 : ∀ a, a < 0 → ∀ b, b < 0 → a ≠ b → (TJ1 a).2.1 ≠ (TJ1 b).2.1 := by decide +kernel
theorem tyJ1_ok : ∀ k, k < 0 → parseFieldDescriptor (TJ1 k).2.2.1 = some (tyJ1 k) := by decide +kernel
abbrev cJ1_charAt_3b067 : ByteArray := prog_18_method_2_code
def yJ1_charAt_3b067 : MethodName := ⟨RJ1, "charAt", "([BI)C"⟩
def RJ2 : String := "java/lang/StringUTF16"
def TJ2 : u_T := fun k => match k with
  | _ => ("", "", "", false)
def tyJ2 : Nat → FieldType := fun k => match k with
  | _ => .int
abbrev wsJ20 : List Cond := u_ws RJ2 TJ2 0
theorem nmJ2 : ∀ a, a < 0 → ∀ b, b < 0 → a ≠ b → (TJ2 a).2.1 ≠ (TJ2 b).2.1 := by decide +kernel
theorem tyJ2_ok : ∀ k, k < 0 → parseFieldDescriptor (TJ2 k).2.2.1 = some (tyJ2 k) := by decide +kernel
abbrev cJ2_getChar_3b067 : ByteArray := prog_19_method_5_code
def yJ2_getChar_3b067 : MethodName := ⟨RJ2, "getChar", "([BI)C"⟩
abbrev cJ2_length_9d52b : ByteArray := prog_19_method_6_code
def yJ2_length_9d52b : MethodName := ⟨RJ2, "length", "([B)I"⟩
abbrev cJ2_charAt_3b067 : ByteArray := prog_19_method_83_code
def yJ2_charAt_3b067 : MethodName := ⟨RJ2, "charAt", "([BI)C"⟩
abbrev cJ2_checkIndex_2214a : ByteArray := prog_19_method_91_code
def yJ2_checkIndex_2214a : MethodName := ⟨RJ2, "checkIndex", "(I[B)V"⟩
def RJ10 : String := "java/lang/System"
def TJ10 : u_T := fun k => match k with
  | _ => ("", "", "", false)
def tyJ10 : Nat → FieldType := fun k => match k with
  | _ => .int
abbrev wsJ100 : List Cond := u_ws RJ10 TJ10 0
theorem nmJ10 : ∀ a, a < 0 → ∀ b, b < 0 → a ≠ b → (TJ10 a).2.1 ≠ (TJ10 b).2.1 := by decide +kernel
theorem tyJ10_ok : ∀ k, k < 0 → parseFieldDescriptor (TJ10 k).2.2.1 = some (tyJ10 k) := by decide +kernel
def RJ3 : String := "jdk/internal/util/Preconditions"
def TJ3 : u_T := fun k => match k with
  | _ => ("", "", "", false)
def tyJ3 : Nat → FieldType := fun k => match k with
  | _ => .int
abbrev wsJ30 : List Cond := u_ws RJ3 TJ3 0
theorem nmJ3 : ∀ a, a < 0 → ∀ b, b < 0 → a ≠ b → (TJ3 a).2.1 ≠ (TJ3 b).2.1 := by decide +kernel
theorem tyJ3_ok : ∀ k, k < 0 → parseFieldDescriptor (TJ3 k).2.2.1 = some (tyJ3 k) := by decide +kernel
abbrev cJ3_checkIndex_8e157 : ByteArray := prog_21_method_11_code
def yJ3_checkIndex_8e157 : MethodName := ⟨RJ3, "checkIndex", "(IILjava/util/function/BiFunction;)I"⟩
def RL : String := "AutoIndenterLaw"
abbrev cL_law : ByteArray := code
def yL_law : MethodName := ⟨RL, "law", "([I)Z"⟩
abbrev vwCl : List vw_C := [(RX0, TX0, 14), (RX1, TX1, 2), (RX2, TX2, 3), (RX3, TX3, 5), (RX4, TX4, 6), (RX5, TX5, 1), (RX6, TX6, 3), (RX7, TX7, 7), (RX8, TX8, 5), (RX9, TX9, 10), (RX10, TX10, 3), (RX11, TX11, 12), (RX12, TX12, 41)]
def WL : List Cond := lw_tbl.filter goodWord
theorem WL_in {w : Cond} (h : w ∈ lw_tbl) (g : goodWord w = true) : w ∈ WL := List.mem_filter.mpr ⟨h, g⟩
theorem WL_good : GoodIn WL WL := fun _ h => ⟨h, good_of_word (List.mem_filter.mp h).2⟩
theorem WL_tbl {w : Cond} (h : w ∈ WL) : w ∈ lw_tbl := (List.mem_filter.mp h).1
theorem tbS {w : Cond} (h : w ∈ k2_sels lw_privs) : w ∈ lw_tbl := List.mem_append_left _ h
theorem tb1 {w : Cond} (h : w ∈ tables_1_1) : w ∈ lw_tbl := List.mem_append_right _ (List.mem_append_left _ h)
theorem tb2 {w : Cond} (h : w ∈ tables_1_2) : w ∈ lw_tbl := List.mem_append_right _ (List.mem_append_right _ (List.mem_append_left _ h))
theorem tb3 {w : Cond} (h : w ∈ tables_1_3) : w ∈ lw_tbl := List.mem_append_right _ (List.mem_append_right _ (List.mem_append_right _ (List.mem_append_left _ h)))
theorem tb4 {w : Cond} (h : w ∈ tables_1_4) : w ∈ lw_tbl := List.mem_append_right _ (List.mem_append_right _ (List.mem_append_right _ (List.mem_append_right _ (List.mem_append_left _ h))))
theorem tb5 {w : Cond} (h : w ∈ tables_1_5) : w ∈ lw_tbl := List.mem_append_right _ (List.mem_append_right _ (List.mem_append_right _ (List.mem_append_right _ (List.mem_append_right _ (List.mem_append_left _ h)))))
theorem tb6 {w : Cond} (h : w ∈ tables_1_6) : w ∈ lw_tbl := List.mem_append_right _ (List.mem_append_right _ (List.mem_append_right _ (List.mem_append_right _ (List.mem_append_right _ (List.mem_append_right _ (List.mem_append_left _ h))))))
theorem tb7 {w : Cond} (h : w ∈ tables_1_7) : w ∈ lw_tbl := List.mem_append_right _ (List.mem_append_right _ (List.mem_append_right _ (List.mem_append_right _ (List.mem_append_right _ (List.mem_append_right _ (List.mem_append_right _ (h)))))))
theorem inlX0 : ∀ w ∈ u_ws RX0 TX0 14, w ∈ WL := by
  intro w hw
  obtain ⟨k, hk, rfl⟩ := List.mem_map.mp hw
  have hk := List.mem_range.mp hk
  match k, hk with
  | 0, _ => exact WL_in (tb2 (List.mem_of_getElem? (i := 58) rfl)) rfl
  | 1, _ => exact WL_in (tb2 (List.mem_of_getElem? (i := 60) rfl)) rfl
  | 2, _ => exact WL_in (tb2 (List.mem_of_getElem? (i := 62) rfl)) rfl
  | 3, _ => exact WL_in (tb2 (List.mem_of_getElem? (i := 64) rfl)) rfl
  | 4, _ => exact WL_in (tb2 (List.mem_of_getElem? (i := 66) rfl)) rfl
  | 5, _ => exact WL_in (tb2 (List.mem_of_getElem? (i := 68) rfl)) rfl
  | 6, _ => exact WL_in (tb2 (List.mem_of_getElem? (i := 70) rfl)) rfl
  | 7, _ => exact WL_in (tb2 (List.mem_of_getElem? (i := 72) rfl)) rfl
  | 8, _ => exact WL_in (tb2 (List.mem_of_getElem? (i := 74) rfl)) rfl
  | 9, _ => exact WL_in (tb2 (List.mem_of_getElem? (i := 76) rfl)) rfl
  | 10, _ => exact WL_in (tb2 (List.mem_of_getElem? (i := 78) rfl)) rfl
  | 11, _ => exact WL_in (tb2 (List.mem_of_getElem? (i := 80) rfl)) rfl
  | 12, _ => exact WL_in (tb2 (List.mem_of_getElem? (i := 82) rfl)) rfl
  | 13, _ => exact WL_in (tb2 (List.mem_of_getElem? (i := 84) rfl)) rfl
  | k + 14, h => omega
theorem inlX1 : ∀ w ∈ u_ws RX1 TX1 2, w ∈ WL := by
  intro w hw
  obtain ⟨k, hk, rfl⟩ := List.mem_map.mp hw
  have hk := List.mem_range.mp hk
  match k, hk with
  | 0, _ => exact WL_in (tb1 (List.mem_of_getElem? (i := 157) rfl)) rfl
  | 1, _ => exact WL_in (tb1 (List.mem_of_getElem? (i := 159) rfl)) rfl
  | k + 2, h => omega
theorem inlX2 : ∀ w ∈ u_ws RX2 TX2 3, w ∈ WL := by
  intro w hw
  obtain ⟨k, hk, rfl⟩ := List.mem_map.mp hw
  have hk := List.mem_range.mp hk
  match k, hk with
  | 0, _ => exact WL_in (tb1 (List.mem_of_getElem? (i := 193) rfl)) rfl
  | 1, _ => exact WL_in (tb1 (List.mem_of_getElem? (i := 195) rfl)) rfl
  | 2, _ => exact WL_in (tb1 (List.mem_of_getElem? (i := 197) rfl)) rfl
  | k + 3, h => omega
theorem inlX3 : ∀ w ∈ u_ws RX3 TX3 5, w ∈ WL := by
  intro w hw
  obtain ⟨k, hk, rfl⟩ := List.mem_map.mp hw
  have hk := List.mem_range.mp hk
  match k, hk with
  | 0, _ => exact WL_in (tb1 (List.mem_of_getElem? (i := 71) rfl)) rfl
  | 1, _ => exact WL_in (tb1 (List.mem_of_getElem? (i := 73) rfl)) rfl
  | 2, _ => exact WL_in (tb1 (List.mem_of_getElem? (i := 75) rfl)) rfl
  | 3, _ => exact WL_in (tb1 (List.mem_of_getElem? (i := 77) rfl)) rfl
  | 4, _ => exact WL_in (tb1 (List.mem_of_getElem? (i := 79) rfl)) rfl
  | k + 5, h => omega
theorem inlX4 : ∀ w ∈ u_ws RX4 TX4 6, w ∈ WL := by
  intro w hw
  obtain ⟨k, hk, rfl⟩ := List.mem_map.mp hw
  have hk := List.mem_range.mp hk
  match k, hk with
  | 0, _ => exact WL_in (tb2 (List.mem_of_getElem? (i := 103) rfl)) rfl
  | 1, _ => exact WL_in (tb2 (List.mem_of_getElem? (i := 105) rfl)) rfl
  | 2, _ => exact WL_in (tb2 (List.mem_of_getElem? (i := 107) rfl)) rfl
  | 3, _ => exact WL_in (tb2 (List.mem_of_getElem? (i := 109) rfl)) rfl
  | 4, _ => exact WL_in (tb2 (List.mem_of_getElem? (i := 111) rfl)) rfl
  | 5, _ => exact WL_in (tb2 (List.mem_of_getElem? (i := 113) rfl)) rfl
  | k + 6, h => omega
theorem inlX5 : ∀ w ∈ u_ws RX5 TX5 1, w ∈ WL := by
  intro w hw
  obtain ⟨k, hk, rfl⟩ := List.mem_map.mp hw
  have hk := List.mem_range.mp hk
  match k, hk with
  | 0, _ => exact WL_in (tb1 (List.mem_of_getElem? (i := 51) rfl)) rfl
  | k + 1, h => omega
theorem inlX6 : ∀ w ∈ u_ws RX6 TX6 3, w ∈ WL := by
  intro w hw
  obtain ⟨k, hk, rfl⟩ := List.mem_map.mp hw
  have hk := List.mem_range.mp hk
  match k, hk with
  | 0, _ => exact WL_in (tb1 (List.mem_of_getElem? (i := 173) rfl)) rfl
  | 1, _ => exact WL_in (tb1 (List.mem_of_getElem? (i := 175) rfl)) rfl
  | 2, _ => exact WL_in (tb1 (List.mem_of_getElem? (i := 177) rfl)) rfl
  | k + 3, h => omega
theorem inlX7 : ∀ w ∈ u_ws RX7 TX7 7, w ∈ WL := by
  intro w hw
  obtain ⟨k, hk, rfl⟩ := List.mem_map.mp hw
  have hk := List.mem_range.mp hk
  match k, hk with
  | 0, _ => exact WL_in (tb1 (List.mem_of_getElem? (i := 105) rfl)) rfl
  | 1, _ => exact WL_in (tb1 (List.mem_of_getElem? (i := 107) rfl)) rfl
  | 2, _ => exact WL_in (tb1 (List.mem_of_getElem? (i := 109) rfl)) rfl
  | 3, _ => exact WL_in (tb1 (List.mem_of_getElem? (i := 111) rfl)) rfl
  | 4, _ => exact WL_in (tb1 (List.mem_of_getElem? (i := 113) rfl)) rfl
  | 5, _ => exact WL_in (tb1 (List.mem_of_getElem? (i := 115) rfl)) rfl
  | 6, _ => exact WL_in (tb1 (List.mem_of_getElem? (i := 117) rfl)) rfl
  | k + 7, h => omega
theorem inlX8 : ∀ w ∈ u_ws RX8 TX8 5, w ∈ WL := by
  intro w hw
  obtain ⟨k, hk, rfl⟩ := List.mem_map.mp hw
  have hk := List.mem_range.mp hk
  match k, hk with
  | 0, _ => exact WL_in (tb1 (List.mem_of_getElem? (i := 134) rfl)) rfl
  | 1, _ => exact WL_in (tb1 (List.mem_of_getElem? (i := 136) rfl)) rfl
  | 2, _ => exact WL_in (tb1 (List.mem_of_getElem? (i := 138) rfl)) rfl
  | 3, _ => exact WL_in (tb1 (List.mem_of_getElem? (i := 140) rfl)) rfl
  | 4, _ => exact WL_in (tb1 (List.mem_of_getElem? (i := 142) rfl)) rfl
  | k + 5, h => omega
theorem inlX9 : ∀ w ∈ u_ws RX9 TX9 10, w ∈ WL := by
  intro w hw
  obtain ⟨k, hk, rfl⟩ := List.mem_map.mp hw
  have hk := List.mem_range.mp hk
  match k, hk with
  | 0, _ => exact WL_in (tb2 (List.mem_of_getElem? (i := 0) rfl)) rfl
  | 1, _ => exact WL_in (tb2 (List.mem_of_getElem? (i := 2) rfl)) rfl
  | 2, _ => exact WL_in (tb2 (List.mem_of_getElem? (i := 4) rfl)) rfl
  | 3, _ => exact WL_in (tb2 (List.mem_of_getElem? (i := 6) rfl)) rfl
  | 4, _ => exact WL_in (tb2 (List.mem_of_getElem? (i := 8) rfl)) rfl
  | 5, _ => exact WL_in (tb2 (List.mem_of_getElem? (i := 10) rfl)) rfl
  | 6, _ => exact WL_in (tb2 (List.mem_of_getElem? (i := 12) rfl)) rfl
  | 7, _ => exact WL_in (tb2 (List.mem_of_getElem? (i := 14) rfl)) rfl
  | 8, _ => exact WL_in (tb2 (List.mem_of_getElem? (i := 16) rfl)) rfl
  | 9, _ => exact WL_in (tb2 (List.mem_of_getElem? (i := 18) rfl)) rfl
  | k + 10, h => omega
theorem inlX10 : ∀ w ∈ u_ws RX10 TX10 3, w ∈ WL := by
  intro w hw
  obtain ⟨k, hk, rfl⟩ := List.mem_map.mp hw
  have hk := List.mem_range.mp hk
  match k, hk with
  | 0, _ => exact WL_in (tb2 (List.mem_of_getElem? (i := 130) rfl)) rfl
  | 1, _ => exact WL_in (tb2 (List.mem_of_getElem? (i := 132) rfl)) rfl
  | 2, _ => exact WL_in (tb2 (List.mem_of_getElem? (i := 134) rfl)) rfl
  | k + 3, h => omega
theorem inlX11 : ∀ w ∈ u_ws RX11 TX11 12, w ∈ WL := by
  intro w hw
  obtain ⟨k, hk, rfl⟩ := List.mem_map.mp hw
  have hk := List.mem_range.mp hk
  match k, hk with
  | 0, _ => exact WL_in (tb2 (List.mem_of_getElem? (i := 149) rfl)) rfl
  | 1, _ => exact WL_in (tb2 (List.mem_of_getElem? (i := 151) rfl)) rfl
  | 2, _ => exact WL_in (tb2 (List.mem_of_getElem? (i := 153) rfl)) rfl
  | 3, _ => exact WL_in (tb2 (List.mem_of_getElem? (i := 155) rfl)) rfl
  | 4, _ => exact WL_in (tb2 (List.mem_of_getElem? (i := 157) rfl)) rfl
  | 5, _ => exact WL_in (tb2 (List.mem_of_getElem? (i := 159) rfl)) rfl
  | 6, _ => exact WL_in (tb2 (List.mem_of_getElem? (i := 161) rfl)) rfl
  | 7, _ => exact WL_in (tb2 (List.mem_of_getElem? (i := 163) rfl)) rfl
  | 8, _ => exact WL_in (tb2 (List.mem_of_getElem? (i := 165) rfl)) rfl
  | 9, _ => exact WL_in (tb2 (List.mem_of_getElem? (i := 167) rfl)) rfl
  | 10, _ => exact WL_in (tb2 (List.mem_of_getElem? (i := 169) rfl)) rfl
  | 11, _ => exact WL_in (tb2 (List.mem_of_getElem? (i := 171) rfl)) rfl
  | k + 12, h => omega
theorem inlX12 : ∀ w ∈ u_ws RX12 TX12 41, w ∈ WL := by
  intro w hw
  obtain ⟨k, hk, rfl⟩ := List.mem_map.mp hw
  have hk := List.mem_range.mp hk
  match k, hk with
  | 0, _ => exact WL_in (tb5 (List.mem_of_getElem? (i := 176) rfl)) rfl
  | 1, _ => exact WL_in (tb5 (List.mem_of_getElem? (i := 178) rfl)) rfl
  | 2, _ => exact WL_in (tb5 (List.mem_of_getElem? (i := 180) rfl)) rfl
  | 3, _ => exact WL_in (tb5 (List.mem_of_getElem? (i := 182) rfl)) rfl
  | 4, _ => exact WL_in (tb5 (List.mem_of_getElem? (i := 184) rfl)) rfl
  | 5, _ => exact WL_in (tb5 (List.mem_of_getElem? (i := 186) rfl)) rfl
  | 6, _ => exact WL_in (tb5 (List.mem_of_getElem? (i := 188) rfl)) rfl
  | 7, _ => exact WL_in (tb5 (List.mem_of_getElem? (i := 190) rfl)) rfl
  | 8, _ => exact WL_in (tb5 (List.mem_of_getElem? (i := 192) rfl)) rfl
  | 9, _ => exact WL_in (tb5 (List.mem_of_getElem? (i := 194) rfl)) rfl
  | 10, _ => exact WL_in (tb5 (List.mem_of_getElem? (i := 196) rfl)) rfl
  | 11, _ => exact WL_in (tb5 (List.mem_of_getElem? (i := 198) rfl)) rfl
  | 12, _ => exact WL_in (tb5 (List.mem_of_getElem? (i := 200) rfl)) rfl
  | 13, _ => exact WL_in (tb5 (List.mem_of_getElem? (i := 202) rfl)) rfl
  | 14, _ => exact WL_in (tb5 (List.mem_of_getElem? (i := 204) rfl)) rfl
  | 15, _ => exact WL_in (tb5 (List.mem_of_getElem? (i := 206) rfl)) rfl
  | 16, _ => exact WL_in (tb5 (List.mem_of_getElem? (i := 208) rfl)) rfl
  | 17, _ => exact WL_in (tb5 (List.mem_of_getElem? (i := 210) rfl)) rfl
  | 18, _ => exact WL_in (tb5 (List.mem_of_getElem? (i := 212) rfl)) rfl
  | 19, _ => exact WL_in (tb5 (List.mem_of_getElem? (i := 214) rfl)) rfl
  | 20, _ => exact WL_in (tb5 (List.mem_of_getElem? (i := 216) rfl)) rfl
  | 21, _ => exact WL_in (tb5 (List.mem_of_getElem? (i := 218) rfl)) rfl
  | 22, _ => exact WL_in (tb5 (List.mem_of_getElem? (i := 220) rfl)) rfl
  | 23, _ => exact WL_in (tb5 (List.mem_of_getElem? (i := 222) rfl)) rfl
  | 24, _ => exact WL_in (tb5 (List.mem_of_getElem? (i := 224) rfl)) rfl
  | 25, _ => exact WL_in (tb5 (List.mem_of_getElem? (i := 226) rfl)) rfl
  | 26, _ => exact WL_in (tb5 (List.mem_of_getElem? (i := 228) rfl)) rfl
  | 27, _ => exact WL_in (tb5 (List.mem_of_getElem? (i := 230) rfl)) rfl
  | 28, _ => exact WL_in (tb5 (List.mem_of_getElem? (i := 232) rfl)) rfl
  | 29, _ => exact WL_in (tb5 (List.mem_of_getElem? (i := 234) rfl)) rfl
  | 30, _ => exact WL_in (tb5 (List.mem_of_getElem? (i := 236) rfl)) rfl
  | 31, _ => exact WL_in (tb5 (List.mem_of_getElem? (i := 238) rfl)) rfl
  | 32, _ => exact WL_in (tb6 (List.mem_of_getElem? (i := 0) rfl)) rfl
  | 33, _ => exact WL_in (tb6 (List.mem_of_getElem? (i := 2) rfl)) rfl
  | 34, _ => exact WL_in (tb6 (List.mem_of_getElem? (i := 4) rfl)) rfl
  | 35, _ => exact WL_in (tb6 (List.mem_of_getElem? (i := 6) rfl)) rfl
  | 36, _ => exact WL_in (tb6 (List.mem_of_getElem? (i := 8) rfl)) rfl
  | 37, _ => exact WL_in (tb6 (List.mem_of_getElem? (i := 10) rfl)) rfl
  | 38, _ => exact WL_in (tb6 (List.mem_of_getElem? (i := 12) rfl)) rfl
  | 39, _ => exact WL_in (tb6 (List.mem_of_getElem? (i := 14) rfl)) rfl
  | 40, _ => exact WL_in (tb6 (List.mem_of_getElem? (i := 16) rfl)) rfl
  | k + 41, h => omega
/-- a field that an instruction reads: class ci of vwCl, its field k -/
def FL (own : String) (index ci k : Nat) : Prop := ∃ (C : String) (T : u_T) (N : Nat), vwCl[ci]? = some (C, T, N) ∧ k < N ∧ (∀ w ∈ u_ws C T N, w ∈ WL) ∧ Cond.fieldLink own index (T k).1 (T k).2.1 (T k).2.2.1 ∈ WL
/-- a field that an instruction writes -/
def PL (own : String) (index ci k : Nat) (ty : FieldType) : Prop := ∃ (C : String) (T : u_T) (N : Nat) (ty0 : Nat → FieldType), vwCl[ci]? = some (C, T, N) ∧ k < N ∧ (∀ w ∈ u_ws C T N, w ∈ WL) ∧ Cond.fieldLink own index (T k).1 (T k).2.1 (T k).2.2.1 ∈ WL ∧ (∀ k, k < N → parseFieldDescriptor (T k).2.2.1 = some (ty0 k)) ∧ (∀ a, a < N → ∀ b, b < N → a ≠ b → (T a).2.1 ≠ (T b).2.1) ∧ (T k).2.2.2 = false ∧ parseFieldDescriptor (T k).2.2.1 = some ty
/-- a method that can be called: its words -/
def MI (C : String) (y : MethodName) (cc : ByteArray) (nL : Nat) (ret : Option FieldType) (n : Nat) : Prop := Cond.instanceMethod y ∈ WL ∧ Cond.selects C y y ∈ WL ∧ Cond.initialized C ∈ WL ∧ Cond.code y cc nL ret ∈ WL ∧ y.cls = C ∧ y.cls ≠ "java/lang/invoke/MethodHandle" ∧ y.cls ≠ "java/lang/invoke/VarHandle" ∧ (parseMethodDescriptor y.desc).map (fun d => d.parameters.length) = some n
def MS (y : MethodName) (cc : ByteArray) (nL : Nat) (ret : Option FieldType) (n : Nat) : Prop := Cond.static y ∈ WL ∧ Cond.initialized y.cls ∈ WL ∧ Cond.code y cc nL ret ∈ WL ∧ y.cls ≠ "java/lang/invoke/MethodHandle" ∧ y.cls ≠ "java/lang/invoke/VarHandle" ∧ (parseMethodDescriptor y.desc).map (fun d => d.parameters.length) = some n
end
section
theorem flX5_15 : FL RX5 15 5 0 := ⟨RX5, TX5, 1, rfl, by decide, inlX5, WL_in (tb1 (List.mem_of_getElem? (i := 50) rfl)) rfl⟩
theorem flX3_9 : FL RX3 9 3 0 := ⟨RX3, TX3, 5, rfl, by decide, inlX3, WL_in (tb1 (List.mem_of_getElem? (i := 55) rfl)) rfl⟩
theorem plX3_9 : PL RX3 9 3 0 .int := ⟨RX3, TX3, 5, tyX3, rfl, by decide, inlX3, WL_in (tb1 (List.mem_of_getElem? (i := 55) rfl)) rfl, tyX3_ok, nmX3, rfl, by decide +kernel⟩
theorem flX4_41 : FL RX4 41 3 0 := ⟨RX3, TX3, 5, rfl, by decide, inlX3, WL_in (tb1 (List.mem_of_getElem? (i := 56) rfl)) rfl⟩
theorem plX4_41 : PL RX4 41 3 0 .int := ⟨RX3, TX3, 5, tyX3, rfl, by decide, inlX3, WL_in (tb1 (List.mem_of_getElem? (i := 56) rfl)) rfl, tyX3_ok, nmX3, rfl, by decide +kernel⟩
theorem flX9_49 : FL RX9 49 3 0 := ⟨RX3, TX3, 5, rfl, by decide, inlX3, WL_in (tb1 (List.mem_of_getElem? (i := 57) rfl)) rfl⟩
theorem plX9_49 : PL RX9 49 3 0 .int := ⟨RX3, TX3, 5, tyX3, rfl, by decide, inlX3, WL_in (tb1 (List.mem_of_getElem? (i := 57) rfl)) rfl, tyX3_ok, nmX3, rfl, by decide +kernel⟩
theorem flX0_66 : FL RX0 66 3 0 := ⟨RX3, TX3, 5, rfl, by decide, inlX3, WL_in (tb1 (List.mem_of_getElem? (i := 58) rfl)) rfl⟩
theorem plX0_66 : PL RX0 66 3 0 .int := ⟨RX3, TX3, 5, tyX3, rfl, by decide, inlX3, WL_in (tb1 (List.mem_of_getElem? (i := 58) rfl)) rfl, tyX3_ok, nmX3, rfl, by decide +kernel⟩
theorem flX11_100 : FL RX11 100 3 0 := ⟨RX3, TX3, 5, rfl, by decide, inlX3, WL_in (tb1 (List.mem_of_getElem? (i := 59) rfl)) rfl⟩
theorem plX11_100 : PL RX11 100 3 0 .int := ⟨RX3, TX3, 5, tyX3, rfl, by decide, inlX3, WL_in (tb1 (List.mem_of_getElem? (i := 59) rfl)) rfl, tyX3_ok, nmX3, rfl, by decide +kernel⟩
theorem flX3_20 : FL RX3 20 3 1 := ⟨RX3, TX3, 5, rfl, by decide, inlX3, WL_in (tb1 (List.mem_of_getElem? (i := 60) rfl)) rfl⟩
theorem flX11_121 : FL RX11 121 3 1 := ⟨RX3, TX3, 5, rfl, by decide, inlX3, WL_in (tb1 (List.mem_of_getElem? (i := 61) rfl)) rfl⟩
theorem flX1_39 : FL RX1 39 3 1 := ⟨RX3, TX3, 5, rfl, by decide, inlX3, WL_in (tb1 (List.mem_of_getElem? (i := 62) rfl)) rfl⟩
theorem flX3_24 : FL RX3 24 3 2 := ⟨RX3, TX3, 5, rfl, by decide, inlX3, WL_in (tb1 (List.mem_of_getElem? (i := 63) rfl)) rfl⟩
theorem flX4_47 : FL RX4 47 3 2 := ⟨RX3, TX3, 5, rfl, by decide, inlX3, WL_in (tb1 (List.mem_of_getElem? (i := 64) rfl)) rfl⟩
theorem flX9_67 : FL RX9 67 3 2 := ⟨RX3, TX3, 5, rfl, by decide, inlX3, WL_in (tb1 (List.mem_of_getElem? (i := 65) rfl)) rfl⟩
theorem flX11_131 : FL RX11 131 3 2 := ⟨RX3, TX3, 5, rfl, by decide, inlX3, WL_in (tb1 (List.mem_of_getElem? (i := 66) rfl)) rfl⟩
theorem flX1_44 : FL RX1 44 3 2 := ⟨RX3, TX3, 5, rfl, by decide, inlX3, WL_in (tb1 (List.mem_of_getElem? (i := 67) rfl)) rfl⟩
theorem flX3_27 : FL RX3 27 3 3 := ⟨RX3, TX3, 5, rfl, by decide, inlX3, WL_in (tb1 (List.mem_of_getElem? (i := 68) rfl)) rfl⟩
theorem flX11_171 : FL RX11 171 3 3 := ⟨RX3, TX3, 5, rfl, by decide, inlX3, WL_in (tb1 (List.mem_of_getElem? (i := 69) rfl)) rfl⟩
theorem flX3_30 : FL RX3 30 3 4 := ⟨RX3, TX3, 5, rfl, by decide, inlX3, WL_in (tb1 (List.mem_of_getElem? (i := 70) rfl)) rfl⟩
theorem flX7_14 : FL RX7 14 7 0 := ⟨RX7, TX7, 7, rfl, by decide, inlX7, WL_in (tb1 (List.mem_of_getElem? (i := 90) rfl)) rfl⟩
theorem flX11_218 : FL RX11 218 7 0 := ⟨RX7, TX7, 7, rfl, by decide, inlX7, WL_in (tb1 (List.mem_of_getElem? (i := 91) rfl)) rfl⟩
theorem flX7_20 : FL RX7 20 7 1 := ⟨RX7, TX7, 7, rfl, by decide, inlX7, WL_in (tb1 (List.mem_of_getElem? (i := 92) rfl)) rfl⟩
theorem flX0_129 : FL RX0 129 7 1 := ⟨RX7, TX7, 7, rfl, by decide, inlX7, WL_in (tb1 (List.mem_of_getElem? (i := 93) rfl)) rfl⟩
theorem flX7_23 : FL RX7 23 7 2 := ⟨RX7, TX7, 7, rfl, by decide, inlX7, WL_in (tb1 (List.mem_of_getElem? (i := 94) rfl)) rfl⟩
theorem flX4_143 : FL RX4 143 7 2 := ⟨RX7, TX7, 7, rfl, by decide, inlX7, WL_in (tb1 (List.mem_of_getElem? (i := 95) rfl)) rfl⟩
theorem flX0_144 : FL RX0 144 7 2 := ⟨RX7, TX7, 7, rfl, by decide, inlX7, WL_in (tb1 (List.mem_of_getElem? (i := 96) rfl)) rfl⟩
theorem flX7_26 : FL RX7 26 7 3 := ⟨RX7, TX7, 7, rfl, by decide, inlX7, WL_in (tb1 (List.mem_of_getElem? (i := 97) rfl)) rfl⟩
theorem flX0_141 : FL RX0 141 7 3 := ⟨RX7, TX7, 7, rfl, by decide, inlX7, WL_in (tb1 (List.mem_of_getElem? (i := 98) rfl)) rfl⟩
theorem flX11_206 : FL RX11 206 7 3 := ⟨RX7, TX7, 7, rfl, by decide, inlX7, WL_in (tb1 (List.mem_of_getElem? (i := 99) rfl)) rfl⟩
theorem flX7_29 : FL RX7 29 7 4 := ⟨RX7, TX7, 7, rfl, by decide, inlX7, WL_in (tb1 (List.mem_of_getElem? (i := 100) rfl)) rfl⟩
theorem flX4_114 : FL RX4 114 7 4 := ⟨RX7, TX7, 7, rfl, by decide, inlX7, WL_in (tb1 (List.mem_of_getElem? (i := 101) rfl)) rfl⟩
theorem flX11_211 : FL RX11 211 7 4 := ⟨RX7, TX7, 7, rfl, by decide, inlX7, WL_in (tb1 (List.mem_of_getElem? (i := 102) rfl)) rfl⟩
theorem flX7_32 : FL RX7 32 7 5 := ⟨RX7, TX7, 7, rfl, by decide, inlX7, WL_in (tb1 (List.mem_of_getElem? (i := 103) rfl)) rfl⟩
theorem flX7_35 : FL RX7 35 7 6 := ⟨RX7, TX7, 7, rfl, by decide, inlX7, WL_in (tb1 (List.mem_of_getElem? (i := 104) rfl)) rfl⟩
theorem flX8_10 : FL RX8 10 8 0 := ⟨RX8, TX8, 5, rfl, by decide, inlX8, WL_in (tb1 (List.mem_of_getElem? (i := 120) rfl)) rfl⟩
theorem flX4_35 : FL RX4 35 8 0 := ⟨RX8, TX8, 5, rfl, by decide, inlX8, WL_in (tb1 (List.mem_of_getElem? (i := 121) rfl)) rfl⟩
theorem flX0_60 : FL RX0 60 8 0 := ⟨RX8, TX8, 5, rfl, by decide, inlX8, WL_in (tb1 (List.mem_of_getElem? (i := 122) rfl)) rfl⟩
theorem flX11_96 : FL RX11 96 8 0 := ⟨RX8, TX8, 5, rfl, by decide, inlX8, WL_in (tb1 (List.mem_of_getElem? (i := 123) rfl)) rfl⟩
theorem flX8_19 : FL RX8 19 8 1 := ⟨RX8, TX8, 5, rfl, by decide, inlX8, WL_in (tb1 (List.mem_of_getElem? (i := 124) rfl)) rfl⟩
theorem flX0_87 : FL RX0 87 8 1 := ⟨RX8, TX8, 5, rfl, by decide, inlX8, WL_in (tb1 (List.mem_of_getElem? (i := 125) rfl)) rfl⟩
theorem flX4_63 : FL RX4 63 8 1 := ⟨RX8, TX8, 5, rfl, by decide, inlX8, WL_in (tb1 (List.mem_of_getElem? (i := 126) rfl)) rfl⟩
theorem flX11_202 : FL RX11 202 8 1 := ⟨RX8, TX8, 5, rfl, by decide, inlX8, WL_in (tb1 (List.mem_of_getElem? (i := 127) rfl)) rfl⟩
theorem flX8_23 : FL RX8 23 8 2 := ⟨RX8, TX8, 5, rfl, by decide, inlX8, WL_in (tb1 (List.mem_of_getElem? (i := 128) rfl)) rfl⟩
theorem plX8_23 : PL RX8 23 8 2 .int := ⟨RX8, TX8, 5, tyX8, rfl, by decide, inlX8, WL_in (tb1 (List.mem_of_getElem? (i := 128) rfl)) rfl, tyX8_ok, nmX8, rfl, by decide +kernel⟩
theorem flX11_141 : FL RX11 141 8 2 := ⟨RX8, TX8, 5, rfl, by decide, inlX8, WL_in (tb1 (List.mem_of_getElem? (i := 129) rfl)) rfl⟩
theorem plX11_141 : PL RX11 141 8 2 .int := ⟨RX8, TX8, 5, tyX8, rfl, by decide, inlX8, WL_in (tb1 (List.mem_of_getElem? (i := 129) rfl)) rfl, tyX8_ok, nmX8, rfl, by decide +kernel⟩
theorem flX8_27 : FL RX8 27 8 3 := ⟨RX8, TX8, 5, rfl, by decide, inlX8, WL_in (tb1 (List.mem_of_getElem? (i := 130) rfl)) rfl⟩
theorem plX8_27 : PL RX8 27 8 3 .int := ⟨RX8, TX8, 5, tyX8, rfl, by decide, inlX8, WL_in (tb1 (List.mem_of_getElem? (i := 130) rfl)) rfl, tyX8_ok, nmX8, rfl, by decide +kernel⟩
theorem flX11_144 : FL RX11 144 8 3 := ⟨RX8, TX8, 5, rfl, by decide, inlX8, WL_in (tb1 (List.mem_of_getElem? (i := 131) rfl)) rfl⟩
theorem plX11_144 : PL RX11 144 8 3 .int := ⟨RX8, TX8, 5, tyX8, rfl, by decide, inlX8, WL_in (tb1 (List.mem_of_getElem? (i := 131) rfl)) rfl, tyX8_ok, nmX8, rfl, by decide +kernel⟩
theorem flX8_30 : FL RX8 30 8 4 := ⟨RX8, TX8, 5, rfl, by decide, inlX8, WL_in (tb1 (List.mem_of_getElem? (i := 132) rfl)) rfl⟩
theorem plX8_30 : PL RX8 30 8 4 .int := ⟨RX8, TX8, 5, tyX8, rfl, by decide, inlX8, WL_in (tb1 (List.mem_of_getElem? (i := 132) rfl)) rfl, tyX8_ok, nmX8, rfl, by decide +kernel⟩
theorem flX11_188 : FL RX11 188 8 4 := ⟨RX8, TX8, 5, rfl, by decide, inlX8, WL_in (tb1 (List.mem_of_getElem? (i := 133) rfl)) rfl⟩
theorem plX11_188 : PL RX11 188 8 4 .int := ⟨RX8, TX8, 5, tyX8, rfl, by decide, inlX8, WL_in (tb1 (List.mem_of_getElem? (i := 133) rfl)) rfl, tyX8_ok, nmX8, rfl, by decide +kernel⟩
theorem flX1_9 : FL RX1 9 1 0 := ⟨RX1, TX1, 2, rfl, by decide, inlX1, WL_in (tb1 (List.mem_of_getElem? (i := 153) rfl)) rfl⟩
theorem plX1_9 : PL RX1 9 1 0 .int := ⟨RX1, TX1, 2, tyX1, rfl, by decide, inlX1, WL_in (tb1 (List.mem_of_getElem? (i := 153) rfl)) rfl, tyX1_ok, nmX1, rfl, by decide +kernel⟩
theorem flX6_27 : FL RX6 27 1 0 := ⟨RX1, TX1, 2, rfl, by decide, inlX1, WL_in (tb1 (List.mem_of_getElem? (i := 154) rfl)) rfl⟩
theorem plX6_27 : PL RX6 27 1 0 .int := ⟨RX1, TX1, 2, tyX1, rfl, by decide, inlX1, WL_in (tb1 (List.mem_of_getElem? (i := 154) rfl)) rfl, tyX1_ok, nmX1, rfl, by decide +kernel⟩
theorem flX11_89 : FL RX11 89 1 0 := ⟨RX1, TX1, 2, rfl, by decide, inlX1, WL_in (tb1 (List.mem_of_getElem? (i := 155) rfl)) rfl⟩
theorem plX11_89 : PL RX11 89 1 0 .int := ⟨RX1, TX1, 2, tyX1, rfl, by decide, inlX1, WL_in (tb1 (List.mem_of_getElem? (i := 155) rfl)) rfl, tyX1_ok, nmX1, rfl, by decide +kernel⟩
theorem flX1_20 : FL RX1 20 1 1 := ⟨RX1, TX1, 2, rfl, by decide, inlX1, WL_in (tb1 (List.mem_of_getElem? (i := 156) rfl)) rfl⟩
theorem flX6_14 : FL RX6 14 6 0 := ⟨RX6, TX6, 3, rfl, by decide, inlX6, WL_in (tb1 (List.mem_of_getElem? (i := 170) rfl)) rfl⟩
theorem flX6_20 : FL RX6 20 6 1 := ⟨RX6, TX6, 3, rfl, by decide, inlX6, WL_in (tb1 (List.mem_of_getElem? (i := 171) rfl)) rfl⟩
theorem flX6_23 : FL RX6 23 6 2 := ⟨RX6, TX6, 3, rfl, by decide, inlX6, WL_in (tb1 (List.mem_of_getElem? (i := 172) rfl)) rfl⟩
theorem plX6_23 : PL RX6 23 6 2 .int := ⟨RX6, TX6, 3, tyX6, rfl, by decide, inlX6, WL_in (tb1 (List.mem_of_getElem? (i := 172) rfl)) rfl, tyX6_ok, nmX6, rfl, by decide +kernel⟩
theorem flX2_9 : FL RX2 9 2 0 := ⟨RX2, TX2, 3, rfl, by decide, inlX2, WL_in (tb1 (List.mem_of_getElem? (i := 189) rfl)) rfl⟩
theorem plX2_9 : PL RX2 9 2 0 .int := ⟨RX2, TX2, 3, tyX2, rfl, by decide, inlX2, WL_in (tb1 (List.mem_of_getElem? (i := 189) rfl)) rfl, tyX2_ok, nmX2, rfl, by decide +kernel⟩
theorem flX11_305 : FL RX11 305 2 0 := ⟨RX2, TX2, 3, rfl, by decide, inlX2, WL_in (tb1 (List.mem_of_getElem? (i := 190) rfl)) rfl⟩
theorem plX11_305 : PL RX11 305 2 0 .int := ⟨RX2, TX2, 3, tyX2, rfl, by decide, inlX2, WL_in (tb1 (List.mem_of_getElem? (i := 190) rfl)) rfl, tyX2_ok, nmX2, rfl, by decide +kernel⟩
theorem flX2_15 : FL RX2 15 2 1 := ⟨RX2, TX2, 3, rfl, by decide, inlX2, WL_in (tb1 (List.mem_of_getElem? (i := 191) rfl)) rfl⟩
theorem plX2_15 : PL RX2 15 2 1 .int := ⟨RX2, TX2, 3, tyX2, rfl, by decide, inlX2, WL_in (tb1 (List.mem_of_getElem? (i := 191) rfl)) rfl, tyX2_ok, nmX2, rfl, by decide +kernel⟩
theorem flX2_20 : FL RX2 20 2 2 := ⟨RX2, TX2, 3, rfl, by decide, inlX2, WL_in (tb1 (List.mem_of_getElem? (i := 192) rfl)) rfl⟩
theorem flX9_9 : FL RX9 9 9 0 := ⟨RX9, TX9, 10, rfl, by decide, inlX9, WL_in (tb1 (List.mem_of_getElem? (i := 210) rfl)) rfl⟩
theorem plX9_9 : PL RX9 9 9 0 .int := ⟨RX9, TX9, 10, tyX9, rfl, by decide, inlX9, WL_in (tb1 (List.mem_of_getElem? (i := 210) rfl)) rfl, tyX9_ok, nmX9, rfl, by decide +kernel⟩
theorem flX10_27 : FL RX10 27 9 0 := ⟨RX9, TX9, 10, rfl, by decide, inlX9, WL_in (tb1 (List.mem_of_getElem? (i := 211) rfl)) rfl⟩
theorem plX10_27 : PL RX10 27 9 0 .int := ⟨RX9, TX9, 10, tyX9, rfl, by decide, inlX9, WL_in (tb1 (List.mem_of_getElem? (i := 211) rfl)) rfl, tyX9_ok, nmX9, rfl, by decide +kernel⟩
theorem flX9_20 : FL RX9 20 9 1 := ⟨RX9, TX9, 10, rfl, by decide, inlX9, WL_in (tb1 (List.mem_of_getElem? (i := 212) rfl)) rfl⟩
theorem flX10_54 : FL RX10 54 9 1 := ⟨RX9, TX9, 10, rfl, by decide, inlX9, WL_in (tb1 (List.mem_of_getElem? (i := 213) rfl)) rfl⟩
theorem flX0_103 : FL RX0 103 9 1 := ⟨RX9, TX9, 10, rfl, by decide, inlX9, WL_in (tb1 (List.mem_of_getElem? (i := 214) rfl)) rfl⟩
theorem flX4_139 : FL RX4 139 9 1 := ⟨RX9, TX9, 10, rfl, by decide, inlX9, WL_in (tb1 (List.mem_of_getElem? (i := 215) rfl)) rfl⟩
theorem flX11_273 : FL RX11 273 9 1 := ⟨RX9, TX9, 10, rfl, by decide, inlX9, WL_in (tb1 (List.mem_of_getElem? (i := 216) rfl)) rfl⟩
theorem flX9_24 : FL RX9 24 9 2 := ⟨RX9, TX9, 10, rfl, by decide, inlX9, WL_in (tb1 (List.mem_of_getElem? (i := 217) rfl)) rfl⟩
theorem flX10_57 : FL RX10 57 9 2 := ⟨RX9, TX9, 10, rfl, by decide, inlX9, WL_in (tb1 (List.mem_of_getElem? (i := 218) rfl)) rfl⟩
theorem flX0_106 : FL RX0 106 9 2 := ⟨RX9, TX9, 10, rfl, by decide, inlX9, WL_in (tb1 (List.mem_of_getElem? (i := 219) rfl)) rfl⟩
theorem flX4_144 : FL RX4 144 9 2 := ⟨RX9, TX9, 10, rfl, by decide, inlX9, WL_in (tb1 (List.mem_of_getElem? (i := 220) rfl)) rfl⟩
theorem flX11_248 : FL RX11 248 9 2 := ⟨RX9, TX9, 10, rfl, by decide, inlX9, WL_in (tb1 (List.mem_of_getElem? (i := 221) rfl)) rfl⟩
theorem flX9_27 : FL RX9 27 9 3 := ⟨RX9, TX9, 10, rfl, by decide, inlX9, WL_in (tb1 (List.mem_of_getElem? (i := 222) rfl)) rfl⟩
theorem flX10_51 : FL RX10 51 9 3 := ⟨RX9, TX9, 10, rfl, by decide, inlX9, WL_in (tb1 (List.mem_of_getElem? (i := 223) rfl)) rfl⟩
theorem flX0_109 : FL RX0 109 9 3 := ⟨RX9, TX9, 10, rfl, by decide, inlX9, WL_in (tb1 (List.mem_of_getElem? (i := 224) rfl)) rfl⟩
theorem flX11_251 : FL RX11 251 9 3 := ⟨RX9, TX9, 10, rfl, by decide, inlX9, WL_in (tb1 (List.mem_of_getElem? (i := 225) rfl)) rfl⟩
theorem flX9_30 : FL RX9 30 9 4 := ⟨RX9, TX9, 10, rfl, by decide, inlX9, WL_in (tb1 (List.mem_of_getElem? (i := 226) rfl)) rfl⟩
theorem flX10_32 : FL RX10 32 9 4 := ⟨RX9, TX9, 10, rfl, by decide, inlX9, WL_in (tb1 (List.mem_of_getElem? (i := 227) rfl)) rfl⟩
theorem flX0_112 : FL RX0 112 9 4 := ⟨RX9, TX9, 10, rfl, by decide, inlX9, WL_in (tb1 (List.mem_of_getElem? (i := 228) rfl)) rfl⟩
theorem flX11_252 : FL RX11 252 9 4 := ⟨RX9, TX9, 10, rfl, by decide, inlX9, WL_in (tb1 (List.mem_of_getElem? (i := 229) rfl)) rfl⟩
theorem flX9_33 : FL RX9 33 9 5 := ⟨RX9, TX9, 10, rfl, by decide, inlX9, WL_in (tb1 (List.mem_of_getElem? (i := 230) rfl)) rfl⟩
theorem flX0_74 : FL RX0 74 9 5 := ⟨RX9, TX9, 10, rfl, by decide, inlX9, WL_in (tb1 (List.mem_of_getElem? (i := 231) rfl)) rfl⟩
theorem flX4_84 : FL RX4 84 9 5 := ⟨RX9, TX9, 10, rfl, by decide, inlX9, WL_in (tb1 (List.mem_of_getElem? (i := 232) rfl)) rfl⟩
theorem flX11_367 : FL RX11 367 9 5 := ⟨RX9, TX9, 10, rfl, by decide, inlX9, WL_in (tb1 (List.mem_of_getElem? (i := 233) rfl)) rfl⟩
theorem flX9_36 : FL RX9 36 9 6 := ⟨RX9, TX9, 10, rfl, by decide, inlX9, WL_in (tb1 (List.mem_of_getElem? (i := 234) rfl)) rfl⟩
theorem flX4_54 : FL RX4 54 9 6 := ⟨RX9, TX9, 10, rfl, by decide, inlX9, WL_in (tb1 (List.mem_of_getElem? (i := 235) rfl)) rfl⟩
theorem flX11_182 : FL RX11 182 9 6 := ⟨RX9, TX9, 10, rfl, by decide, inlX9, WL_in (tb1 (List.mem_of_getElem? (i := 236) rfl)) rfl⟩
theorem flX9_39 : FL RX9 39 9 7 := ⟨RX9, TX9, 10, rfl, by decide, inlX9, WL_in (tb1 (List.mem_of_getElem? (i := 237) rfl)) rfl⟩
theorem flX9_42 : FL RX9 42 9 8 := ⟨RX9, TX9, 10, rfl, by decide, inlX9, WL_in (tb1 (List.mem_of_getElem? (i := 238) rfl)) rfl⟩
theorem plX9_42 : PL RX9 42 9 8 .int := ⟨RX9, TX9, 10, tyX9, rfl, by decide, inlX9, WL_in (tb1 (List.mem_of_getElem? (i := 238) rfl)) rfl, tyX9_ok, nmX9, rfl, by decide +kernel⟩
theorem flX9_45 : FL RX9 45 9 9 := ⟨RX9, TX9, 10, rfl, by decide, inlX9, WL_in (tb1 (List.mem_of_getElem? (i := 239) rfl)) rfl⟩
theorem plX9_45 : PL RX9 45 9 9 .boolean := ⟨RX9, TX9, 10, tyX9, rfl, by decide, inlX9, WL_in (tb1 (List.mem_of_getElem? (i := 239) rfl)) rfl, tyX9_ok, nmX9, rfl, by decide +kernel⟩
theorem flX0_14 : FL RX0 14 0 0 := ⟨RX0, TX0, 14, rfl, by decide, inlX0, WL_in (tb2 (List.mem_of_getElem? (i := 29) rfl)) rfl⟩
theorem flX4_98 : FL RX4 98 0 0 := ⟨RX0, TX0, 14, rfl, by decide, inlX0, WL_in (tb2 (List.mem_of_getElem? (i := 30) rfl)) rfl⟩
theorem flX0_20 : FL RX0 20 0 1 := ⟨RX0, TX0, 14, rfl, by decide, inlX0, WL_in (tb2 (List.mem_of_getElem? (i := 31) rfl)) rfl⟩
theorem flX0_23 : FL RX0 23 0 2 := ⟨RX0, TX0, 14, rfl, by decide, inlX0, WL_in (tb2 (List.mem_of_getElem? (i := 32) rfl)) rfl⟩
theorem flX4_95 : FL RX4 95 0 2 := ⟨RX0, TX0, 14, rfl, by decide, inlX0, WL_in (tb2 (List.mem_of_getElem? (i := 33) rfl)) rfl⟩
theorem flX11_270 : FL RX11 270 0 2 := ⟨RX0, TX0, 14, rfl, by decide, inlX0, WL_in (tb2 (List.mem_of_getElem? (i := 34) rfl)) rfl⟩
theorem flX0_26 : FL RX0 26 0 3 := ⟨RX0, TX0, 14, rfl, by decide, inlX0, WL_in (tb2 (List.mem_of_getElem? (i := 35) rfl)) rfl⟩
theorem flX4_92 : FL RX4 92 0 3 := ⟨RX0, TX0, 14, rfl, by decide, inlX0, WL_in (tb2 (List.mem_of_getElem? (i := 36) rfl)) rfl⟩
theorem flX11_255 : FL RX11 255 0 3 := ⟨RX0, TX0, 14, rfl, by decide, inlX0, WL_in (tb2 (List.mem_of_getElem? (i := 37) rfl)) rfl⟩
theorem flX0_29 : FL RX0 29 0 4 := ⟨RX0, TX0, 14, rfl, by decide, inlX0, WL_in (tb2 (List.mem_of_getElem? (i := 38) rfl)) rfl⟩
theorem flX11_261 : FL RX11 261 0 4 := ⟨RX0, TX0, 14, rfl, by decide, inlX0, WL_in (tb2 (List.mem_of_getElem? (i := 39) rfl)) rfl⟩
theorem flX0_32 : FL RX0 32 0 5 := ⟨RX0, TX0, 14, rfl, by decide, inlX0, WL_in (tb2 (List.mem_of_getElem? (i := 40) rfl)) rfl⟩
theorem flX4_124 : FL RX4 124 0 5 := ⟨RX0, TX0, 14, rfl, by decide, inlX0, WL_in (tb2 (List.mem_of_getElem? (i := 41) rfl)) rfl⟩
theorem flX0_35 : FL RX0 35 0 6 := ⟨RX0, TX0, 14, rfl, by decide, inlX0, WL_in (tb2 (List.mem_of_getElem? (i := 42) rfl)) rfl⟩
theorem flX4_138 : FL RX4 138 0 6 := ⟨RX0, TX0, 14, rfl, by decide, inlX0, WL_in (tb2 (List.mem_of_getElem? (i := 43) rfl)) rfl⟩
theorem flX11_276 : FL RX11 276 0 6 := ⟨RX0, TX0, 14, rfl, by decide, inlX0, WL_in (tb2 (List.mem_of_getElem? (i := 44) rfl)) rfl⟩
theorem flX0_38 : FL RX0 38 0 7 := ⟨RX0, TX0, 14, rfl, by decide, inlX0, WL_in (tb2 (List.mem_of_getElem? (i := 45) rfl)) rfl⟩
theorem flX4_142 : FL RX4 142 0 7 := ⟨RX0, TX0, 14, rfl, by decide, inlX0, WL_in (tb2 (List.mem_of_getElem? (i := 46) rfl)) rfl⟩
theorem flX11_279 : FL RX11 279 0 7 := ⟨RX0, TX0, 14, rfl, by decide, inlX0, WL_in (tb2 (List.mem_of_getElem? (i := 47) rfl)) rfl⟩
theorem flX0_41 : FL RX0 41 0 8 := ⟨RX0, TX0, 14, rfl, by decide, inlX0, WL_in (tb2 (List.mem_of_getElem? (i := 48) rfl)) rfl⟩
theorem flX4_121 : FL RX4 121 0 8 := ⟨RX0, TX0, 14, rfl, by decide, inlX0, WL_in (tb2 (List.mem_of_getElem? (i := 49) rfl)) rfl⟩
theorem flX11_264 : FL RX11 264 0 8 := ⟨RX0, TX0, 14, rfl, by decide, inlX0, WL_in (tb2 (List.mem_of_getElem? (i := 50) rfl)) rfl⟩
theorem flX0_44 : FL RX0 44 0 9 := ⟨RX0, TX0, 14, rfl, by decide, inlX0, WL_in (tb2 (List.mem_of_getElem? (i := 51) rfl)) rfl⟩
theorem flX0_47 : FL RX0 47 0 10 := ⟨RX0, TX0, 14, rfl, by decide, inlX0, WL_in (tb2 (List.mem_of_getElem? (i := 52) rfl)) rfl⟩
theorem flX0_50 : FL RX0 50 0 11 := ⟨RX0, TX0, 14, rfl, by decide, inlX0, WL_in (tb2 (List.mem_of_getElem? (i := 53) rfl)) rfl⟩
theorem plX0_50 : PL RX0 50 0 11 .int := ⟨RX0, TX0, 14, tyX0, rfl, by decide, inlX0, WL_in (tb2 (List.mem_of_getElem? (i := 53) rfl)) rfl, tyX0_ok, nmX0, rfl, by decide +kernel⟩
theorem flX0_54 : FL RX0 54 0 12 := ⟨RX0, TX0, 14, rfl, by decide, inlX0, WL_in (tb2 (List.mem_of_getElem? (i := 54) rfl)) rfl⟩
theorem plX0_54 : PL RX0 54 0 12 .int := ⟨RX0, TX0, 14, tyX0, rfl, by decide, inlX0, WL_in (tb2 (List.mem_of_getElem? (i := 54) rfl)) rfl, tyX0_ok, nmX0, rfl, by decide +kernel⟩
theorem flX11_285 : FL RX11 285 0 12 := ⟨RX0, TX0, 14, rfl, by decide, inlX0, WL_in (tb2 (List.mem_of_getElem? (i := 55) rfl)) rfl⟩
theorem plX11_285 : PL RX11 285 0 12 .int := ⟨RX0, TX0, 14, tyX0, rfl, by decide, inlX0, WL_in (tb2 (List.mem_of_getElem? (i := 55) rfl)) rfl, tyX0_ok, nmX0, rfl, by decide +kernel⟩
theorem flX0_57 : FL RX0 57 0 13 := ⟨RX0, TX0, 14, rfl, by decide, inlX0, WL_in (tb2 (List.mem_of_getElem? (i := 56) rfl)) rfl⟩
theorem plX0_57 : PL RX0 57 0 13 .int := ⟨RX0, TX0, 14, tyX0, rfl, by decide, inlX0, WL_in (tb2 (List.mem_of_getElem? (i := 56) rfl)) rfl, tyX0_ok, nmX0, rfl, by decide +kernel⟩
theorem flX11_288 : FL RX11 288 0 13 := ⟨RX0, TX0, 14, rfl, by decide, inlX0, WL_in (tb2 (List.mem_of_getElem? (i := 57) rfl)) rfl⟩
theorem plX11_288 : PL RX11 288 0 13 .int := ⟨RX0, TX0, 14, tyX0, rfl, by decide, inlX0, WL_in (tb2 (List.mem_of_getElem? (i := 57) rfl)) rfl, tyX0_ok, nmX0, rfl, by decide +kernel⟩
theorem flX4_14 : FL RX4 14 4 0 := ⟨RX4, TX4, 6, rfl, by decide, inlX4, WL_in (tb2 (List.mem_of_getElem? (i := 95) rfl)) rfl⟩
theorem flX11_225 : FL RX11 225 4 0 := ⟨RX4, TX4, 6, rfl, by decide, inlX4, WL_in (tb2 (List.mem_of_getElem? (i := 96) rfl)) rfl⟩
theorem flX4_20 : FL RX4 20 4 1 := ⟨RX4, TX4, 6, rfl, by decide, inlX4, WL_in (tb2 (List.mem_of_getElem? (i := 97) rfl)) rfl⟩
theorem flX11_228 : FL RX11 228 4 1 := ⟨RX4, TX4, 6, rfl, by decide, inlX4, WL_in (tb2 (List.mem_of_getElem? (i := 98) rfl)) rfl⟩
theorem flX4_23 : FL RX4 23 4 2 := ⟨RX4, TX4, 6, rfl, by decide, inlX4, WL_in (tb2 (List.mem_of_getElem? (i := 99) rfl)) rfl⟩
theorem flX4_26 : FL RX4 26 4 3 := ⟨RX4, TX4, 6, rfl, by decide, inlX4, WL_in (tb2 (List.mem_of_getElem? (i := 100) rfl)) rfl⟩
theorem flX4_29 : FL RX4 29 4 4 := ⟨RX4, TX4, 6, rfl, by decide, inlX4, WL_in (tb2 (List.mem_of_getElem? (i := 101) rfl)) rfl⟩
theorem flX4_32 : FL RX4 32 4 5 := ⟨RX4, TX4, 6, rfl, by decide, inlX4, WL_in (tb2 (List.mem_of_getElem? (i := 102) rfl)) rfl⟩
theorem flX10_9 : FL RX10 9 10 0 := ⟨RX10, TX10, 3, rfl, by decide, inlX10, WL_in (tb2 (List.mem_of_getElem? (i := 124) rfl)) rfl⟩
theorem plX10_9 : PL RX10 9 10 0 .int := ⟨RX10, TX10, 3, tyX10, rfl, by decide, inlX10, WL_in (tb2 (List.mem_of_getElem? (i := 124) rfl)) rfl, tyX10_ok, nmX10, rfl, by decide +kernel⟩
theorem flX11_294 : FL RX11 294 10 0 := ⟨RX10, TX10, 3, rfl, by decide, inlX10, WL_in (tb2 (List.mem_of_getElem? (i := 125) rfl)) rfl⟩
theorem plX11_294 : PL RX11 294 10 0 .int := ⟨RX10, TX10, 3, tyX10, rfl, by decide, inlX10, WL_in (tb2 (List.mem_of_getElem? (i := 125) rfl)) rfl, tyX10_ok, nmX10, rfl, by decide +kernel⟩
theorem flX10_20 : FL RX10 20 10 1 := ⟨RX10, TX10, 3, rfl, by decide, inlX10, WL_in (tb2 (List.mem_of_getElem? (i := 126) rfl)) rfl⟩
theorem flX11_302 : FL RX11 302 10 1 := ⟨RX10, TX10, 3, rfl, by decide, inlX10, WL_in (tb2 (List.mem_of_getElem? (i := 127) rfl)) rfl⟩
theorem flX10_24 : FL RX10 24 10 2 := ⟨RX10, TX10, 3, rfl, by decide, inlX10, WL_in (tb2 (List.mem_of_getElem? (i := 128) rfl)) rfl⟩
theorem flX11_299 : FL RX11 299 10 2 := ⟨RX10, TX10, 3, rfl, by decide, inlX10, WL_in (tb2 (List.mem_of_getElem? (i := 129) rfl)) rfl⟩
theorem flX11_12 : FL RX11 12 11 0 := ⟨RX11, TX11, 12, rfl, by decide, inlX11, WL_in (tb2 (List.mem_of_getElem? (i := 137) rfl)) rfl⟩
theorem flX11_19 : FL RX11 19 11 1 := ⟨RX11, TX11, 12, rfl, by decide, inlX11, WL_in (tb2 (List.mem_of_getElem? (i := 138) rfl)) rfl⟩
theorem flX11_26 : FL RX11 26 11 2 := ⟨RX11, TX11, 12, rfl, by decide, inlX11, WL_in (tb2 (List.mem_of_getElem? (i := 139) rfl)) rfl⟩
theorem flX11_33 : FL RX11 33 11 3 := ⟨RX11, TX11, 12, rfl, by decide, inlX11, WL_in (tb2 (List.mem_of_getElem? (i := 140) rfl)) rfl⟩
theorem flX11_37 : FL RX11 37 11 4 := ⟨RX11, TX11, 12, rfl, by decide, inlX11, WL_in (tb2 (List.mem_of_getElem? (i := 141) rfl)) rfl⟩
theorem flX11_46 : FL RX11 46 11 5 := ⟨RX11, TX11, 12, rfl, by decide, inlX11, WL_in (tb2 (List.mem_of_getElem? (i := 142) rfl)) rfl⟩
theorem flX11_53 : FL RX11 53 11 6 := ⟨RX11, TX11, 12, rfl, by decide, inlX11, WL_in (tb2 (List.mem_of_getElem? (i := 143) rfl)) rfl⟩
theorem flX11_60 : FL RX11 60 11 7 := ⟨RX11, TX11, 12, rfl, by decide, inlX11, WL_in (tb2 (List.mem_of_getElem? (i := 144) rfl)) rfl⟩
theorem flX11_67 : FL RX11 67 11 8 := ⟨RX11, TX11, 12, rfl, by decide, inlX11, WL_in (tb2 (List.mem_of_getElem? (i := 145) rfl)) rfl⟩
theorem flX11_74 : FL RX11 74 11 9 := ⟨RX11, TX11, 12, rfl, by decide, inlX11, WL_in (tb2 (List.mem_of_getElem? (i := 146) rfl)) rfl⟩
theorem flX11_78 : FL RX11 78 11 10 := ⟨RX11, TX11, 12, rfl, by decide, inlX11, WL_in (tb2 (List.mem_of_getElem? (i := 147) rfl)) rfl⟩
theorem flX11_81 : FL RX11 81 11 11 := ⟨RX11, TX11, 12, rfl, by decide, inlX11, WL_in (tb2 (List.mem_of_getElem? (i := 148) rfl)) rfl⟩
theorem plX11_81 : PL RX11 81 11 11 .boolean := ⟨RX11, TX11, 12, tyX11, rfl, by decide, inlX11, WL_in (tb2 (List.mem_of_getElem? (i := 148) rfl)) rfl, tyX11_ok, nmX11, rfl, by decide +kernel⟩
theorem flX12_7 : FL RX12 7 12 0 := ⟨RX12, TX12, 41, rfl, by decide, inlX12, WL_in (tb5 (List.mem_of_getElem? (i := 135) rfl)) rfl⟩
theorem flX12_71 : FL RX12 71 12 1 := ⟨RX12, TX12, 41, rfl, by decide, inlX12, WL_in (tb5 (List.mem_of_getElem? (i := 136) rfl)) rfl⟩
theorem plX12_71 : PL RX12 71 12 1 .int := ⟨RX12, TX12, 41, tyX12, rfl, by decide, inlX12, WL_in (tb5 (List.mem_of_getElem? (i := 136) rfl)) rfl, tyX12_ok, nmX12, rfl, by decide +kernel⟩
theorem flX12_13 : FL RX12 13 12 2 := ⟨RX12, TX12, 41, rfl, by decide, inlX12, WL_in (tb5 (List.mem_of_getElem? (i := 137) rfl)) rfl⟩
theorem flX12_17 : FL RX12 17 12 3 := ⟨RX12, TX12, 41, rfl, by decide, inlX12, WL_in (tb5 (List.mem_of_getElem? (i := 138) rfl)) rfl⟩
theorem flX12_191 : FL RX12 191 12 4 := ⟨RX12, TX12, 41, rfl, by decide, inlX12, WL_in (tb5 (List.mem_of_getElem? (i := 139) rfl)) rfl⟩
theorem plX12_191 : PL RX12 191 12 4 .int := ⟨RX12, TX12, 41, tyX12, rfl, by decide, inlX12, WL_in (tb5 (List.mem_of_getElem? (i := 139) rfl)) rfl, tyX12_ok, nmX12, rfl, by decide +kernel⟩
theorem flX12_20 : FL RX12 20 12 5 := ⟨RX12, TX12, 41, rfl, by decide, inlX12, WL_in (tb5 (List.mem_of_getElem? (i := 140) rfl)) rfl⟩
theorem flX12_23 : FL RX12 23 12 6 := ⟨RX12, TX12, 41, rfl, by decide, inlX12, WL_in (tb5 (List.mem_of_getElem? (i := 141) rfl)) rfl⟩
theorem flX12_26 : FL RX12 26 12 7 := ⟨RX12, TX12, 41, rfl, by decide, inlX12, WL_in (tb5 (List.mem_of_getElem? (i := 142) rfl)) rfl⟩
theorem flX12_29 : FL RX12 29 12 8 := ⟨RX12, TX12, 41, rfl, by decide, inlX12, WL_in (tb5 (List.mem_of_getElem? (i := 143) rfl)) rfl⟩
theorem flX12_32 : FL RX12 32 12 9 := ⟨RX12, TX12, 41, rfl, by decide, inlX12, WL_in (tb5 (List.mem_of_getElem? (i := 144) rfl)) rfl⟩
theorem flX12_35 : FL RX12 35 12 10 := ⟨RX12, TX12, 41, rfl, by decide, inlX12, WL_in (tb5 (List.mem_of_getElem? (i := 145) rfl)) rfl⟩
theorem flX12_38 : FL RX12 38 12 11 := ⟨RX12, TX12, 41, rfl, by decide, inlX12, WL_in (tb5 (List.mem_of_getElem? (i := 146) rfl)) rfl⟩
theorem flX12_98 : FL RX12 98 12 12 := ⟨RX12, TX12, 41, rfl, by decide, inlX12, WL_in (tb5 (List.mem_of_getElem? (i := 147) rfl)) rfl⟩
theorem plX12_98 : PL RX12 98 12 12 .int := ⟨RX12, TX12, 41, tyX12, rfl, by decide, inlX12, WL_in (tb5 (List.mem_of_getElem? (i := 147) rfl)) rfl, tyX12_ok, nmX12, rfl, by decide +kernel⟩
theorem flX12_41 : FL RX12 41 12 13 := ⟨RX12, TX12, 41, rfl, by decide, inlX12, WL_in (tb5 (List.mem_of_getElem? (i := 148) rfl)) rfl⟩
theorem flX12_44 : FL RX12 44 12 14 := ⟨RX12, TX12, 41, rfl, by decide, inlX12, WL_in (tb5 (List.mem_of_getElem? (i := 149) rfl)) rfl⟩
theorem flX12_47 : FL RX12 47 12 15 := ⟨RX12, TX12, 41, rfl, by decide, inlX12, WL_in (tb5 (List.mem_of_getElem? (i := 150) rfl)) rfl⟩
theorem flX12_50 : FL RX12 50 12 16 := ⟨RX12, TX12, 41, rfl, by decide, inlX12, WL_in (tb5 (List.mem_of_getElem? (i := 151) rfl)) rfl⟩
theorem flX12_53 : FL RX12 53 12 17 := ⟨RX12, TX12, 41, rfl, by decide, inlX12, WL_in (tb5 (List.mem_of_getElem? (i := 152) rfl)) rfl⟩
theorem flX12_126 : FL RX12 126 12 18 := ⟨RX12, TX12, 41, rfl, by decide, inlX12, WL_in (tb5 (List.mem_of_getElem? (i := 153) rfl)) rfl⟩
theorem plX12_126 : PL RX12 126 12 18 .int := ⟨RX12, TX12, 41, tyX12, rfl, by decide, inlX12, WL_in (tb5 (List.mem_of_getElem? (i := 153) rfl)) rfl, tyX12_ok, nmX12, rfl, by decide +kernel⟩
theorem flX12_135 : FL RX12 135 12 19 := ⟨RX12, TX12, 41, rfl, by decide, inlX12, WL_in (tb5 (List.mem_of_getElem? (i := 154) rfl)) rfl⟩
theorem plX12_135 : PL RX12 135 12 19 .int := ⟨RX12, TX12, 41, tyX12, rfl, by decide, inlX12, WL_in (tb5 (List.mem_of_getElem? (i := 154) rfl)) rfl, tyX12_ok, nmX12, rfl, by decide +kernel⟩
theorem flX12_129 : FL RX12 129 12 20 := ⟨RX12, TX12, 41, rfl, by decide, inlX12, WL_in (tb5 (List.mem_of_getElem? (i := 155) rfl)) rfl⟩
theorem plX12_129 : PL RX12 129 12 20 .int := ⟨RX12, TX12, 41, tyX12, rfl, by decide, inlX12, WL_in (tb5 (List.mem_of_getElem? (i := 155) rfl)) rfl, tyX12_ok, nmX12, rfl, by decide +kernel⟩
theorem flX12_56 : FL RX12 56 12 21 := ⟨RX12, TX12, 41, rfl, by decide, inlX12, WL_in (tb5 (List.mem_of_getElem? (i := 156) rfl)) rfl⟩
theorem flX12_154 : FL RX12 154 12 22 := ⟨RX12, TX12, 41, rfl, by decide, inlX12, WL_in (tb5 (List.mem_of_getElem? (i := 157) rfl)) rfl⟩
theorem plX12_154 : PL RX12 154 12 22 .int := ⟨RX12, TX12, 41, tyX12, rfl, by decide, inlX12, WL_in (tb5 (List.mem_of_getElem? (i := 157) rfl)) rfl, tyX12_ok, nmX12, rfl, by decide +kernel⟩
theorem flX12_157 : FL RX12 157 12 23 := ⟨RX12, TX12, 41, rfl, by decide, inlX12, WL_in (tb5 (List.mem_of_getElem? (i := 158) rfl)) rfl⟩
theorem plX12_157 : PL RX12 157 12 23 .int := ⟨RX12, TX12, 41, tyX12, rfl, by decide, inlX12, WL_in (tb5 (List.mem_of_getElem? (i := 158) rfl)) rfl, tyX12_ok, nmX12, rfl, by decide +kernel⟩
theorem flX12_170 : FL RX12 170 12 24 := ⟨RX12, TX12, 41, rfl, by decide, inlX12, WL_in (tb5 (List.mem_of_getElem? (i := 159) rfl)) rfl⟩
theorem plX12_170 : PL RX12 170 12 24 .int := ⟨RX12, TX12, 41, tyX12, rfl, by decide, inlX12, WL_in (tb5 (List.mem_of_getElem? (i := 159) rfl)) rfl, tyX12_ok, nmX12, rfl, by decide +kernel⟩
theorem flX12_173 : FL RX12 173 12 25 := ⟨RX12, TX12, 41, rfl, by decide, inlX12, WL_in (tb5 (List.mem_of_getElem? (i := 160) rfl)) rfl⟩
theorem plX12_173 : PL RX12 173 12 25 .int := ⟨RX12, TX12, 41, tyX12, rfl, by decide, inlX12, WL_in (tb5 (List.mem_of_getElem? (i := 160) rfl)) rfl, tyX12_ok, nmX12, rfl, by decide +kernel⟩
theorem flX12_176 : FL RX12 176 12 26 := ⟨RX12, TX12, 41, rfl, by decide, inlX12, WL_in (tb5 (List.mem_of_getElem? (i := 161) rfl)) rfl⟩
theorem plX12_176 : PL RX12 176 12 26 .int := ⟨RX12, TX12, 41, tyX12, rfl, by decide, inlX12, WL_in (tb5 (List.mem_of_getElem? (i := 161) rfl)) rfl, tyX12_ok, nmX12, rfl, by decide +kernel⟩
theorem flX12_167 : FL RX12 167 12 27 := ⟨RX12, TX12, 41, rfl, by decide, inlX12, WL_in (tb5 (List.mem_of_getElem? (i := 162) rfl)) rfl⟩
theorem plX12_167 : PL RX12 167 12 27 .int := ⟨RX12, TX12, 41, tyX12, rfl, by decide, inlX12, WL_in (tb5 (List.mem_of_getElem? (i := 162) rfl)) rfl, tyX12_ok, nmX12, rfl, by decide +kernel⟩
theorem flX12_194 : FL RX12 194 12 28 := ⟨RX12, TX12, 41, rfl, by decide, inlX12, WL_in (tb5 (List.mem_of_getElem? (i := 163) rfl)) rfl⟩
theorem plX12_194 : PL RX12 194 12 28 .int := ⟨RX12, TX12, 41, tyX12, rfl, by decide, inlX12, WL_in (tb5 (List.mem_of_getElem? (i := 163) rfl)) rfl, tyX12_ok, nmX12, rfl, by decide +kernel⟩
theorem flX12_197 : FL RX12 197 12 29 := ⟨RX12, TX12, 41, rfl, by decide, inlX12, WL_in (tb5 (List.mem_of_getElem? (i := 164) rfl)) rfl⟩
theorem plX12_197 : PL RX12 197 12 29 .int := ⟨RX12, TX12, 41, tyX12, rfl, by decide, inlX12, WL_in (tb5 (List.mem_of_getElem? (i := 164) rfl)) rfl, tyX12_ok, nmX12, rfl, by decide +kernel⟩
theorem flX12_59 : FL RX12 59 12 30 := ⟨RX12, TX12, 41, rfl, by decide, inlX12, WL_in (tb5 (List.mem_of_getElem? (i := 165) rfl)) rfl⟩
theorem flX12_62 : FL RX12 62 12 31 := ⟨RX12, TX12, 41, rfl, by decide, inlX12, WL_in (tb5 (List.mem_of_getElem? (i := 166) rfl)) rfl⟩
theorem flX12_237 : FL RX12 237 12 32 := ⟨RX12, TX12, 41, rfl, by decide, inlX12, WL_in (tb5 (List.mem_of_getElem? (i := 167) rfl)) rfl⟩
theorem plX12_237 : PL RX12 237 12 32 .int := ⟨RX12, TX12, 41, tyX12, rfl, by decide, inlX12, WL_in (tb5 (List.mem_of_getElem? (i := 167) rfl)) rfl, tyX12_ok, nmX12, rfl, by decide +kernel⟩
theorem flX12_265 : FL RX12 265 12 33 := ⟨RX12, TX12, 41, rfl, by decide, inlX12, WL_in (tb5 (List.mem_of_getElem? (i := 168) rfl)) rfl⟩
theorem plX12_265 : PL RX12 265 12 33 .int := ⟨RX12, TX12, 41, tyX12, rfl, by decide, inlX12, WL_in (tb5 (List.mem_of_getElem? (i := 168) rfl)) rfl, tyX12_ok, nmX12, rfl, by decide +kernel⟩
theorem flX12_268 : FL RX12 268 12 34 := ⟨RX12, TX12, 41, rfl, by decide, inlX12, WL_in (tb5 (List.mem_of_getElem? (i := 169) rfl)) rfl⟩
theorem plX12_268 : PL RX12 268 12 34 .int := ⟨RX12, TX12, 41, tyX12, rfl, by decide, inlX12, WL_in (tb5 (List.mem_of_getElem? (i := 169) rfl)) rfl, tyX12_ok, nmX12, rfl, by decide +kernel⟩
theorem flX12_271 : FL RX12 271 12 35 := ⟨RX12, TX12, 41, rfl, by decide, inlX12, WL_in (tb5 (List.mem_of_getElem? (i := 170) rfl)) rfl⟩
theorem plX12_271 : PL RX12 271 12 35 .int := ⟨RX12, TX12, 41, tyX12, rfl, by decide, inlX12, WL_in (tb5 (List.mem_of_getElem? (i := 170) rfl)) rfl, tyX12_ok, nmX12, rfl, by decide +kernel⟩
theorem flX12_292 : FL RX12 292 12 36 := ⟨RX12, TX12, 41, rfl, by decide, inlX12, WL_in (tb5 (List.mem_of_getElem? (i := 171) rfl)) rfl⟩
theorem plX12_292 : PL RX12 292 12 36 .int := ⟨RX12, TX12, 41, tyX12, rfl, by decide, inlX12, WL_in (tb5 (List.mem_of_getElem? (i := 171) rfl)) rfl, tyX12_ok, nmX12, rfl, by decide +kernel⟩
theorem flX12_299 : FL RX12 299 12 37 := ⟨RX12, TX12, 41, rfl, by decide, inlX12, WL_in (tb5 (List.mem_of_getElem? (i := 172) rfl)) rfl⟩
theorem plX12_299 : PL RX12 299 12 37 .int := ⟨RX12, TX12, 41, tyX12, rfl, by decide, inlX12, WL_in (tb5 (List.mem_of_getElem? (i := 172) rfl)) rfl, tyX12_ok, nmX12, rfl, by decide +kernel⟩
theorem flX12_65 : FL RX12 65 12 38 := ⟨RX12, TX12, 41, rfl, by decide, inlX12, WL_in (tb5 (List.mem_of_getElem? (i := 173) rfl)) rfl⟩
theorem flX12_68 : FL RX12 68 12 39 := ⟨RX12, TX12, 41, rfl, by decide, inlX12, WL_in (tb5 (List.mem_of_getElem? (i := 174) rfl)) rfl⟩
theorem flX12_311 : FL RX12 311 12 40 := ⟨RX12, TX12, 41, rfl, by decide, inlX12, WL_in (tb5 (List.mem_of_getElem? (i := 175) rfl)) rfl⟩
theorem plX12_311 : PL RX12 311 12 40 .long := ⟨RX12, TX12, 41, tyX12, rfl, by decide, inlX12, WL_in (tb5 (List.mem_of_getElem? (i := 175) rfl)) rfl, tyX12_ok, nmX12, rfl, by decide +kernel⟩
theorem msJ9_max_7cf53 : MS yJ9_max_7cf53 cJ9_max_7cf53 2 none 2 := ⟨WL_in (tb1 (List.mem_of_getElem? (i := 48) rfl)) rfl, WL_in (tb1 (List.mem_of_getElem? (i := 5) rfl)) rfl, WL_in (tb1 (List.mem_of_getElem? (i := 49) rfl)) rfl, by decide, by decide, by decide +kernel⟩
theorem miX11_type : MI RX11 yX11_type cX11_type 2 none 1 := ⟨WL_in (tb2 (List.mem_of_getElem? (i := 175) rfl)) rfl, WL_in (tb2 (List.mem_of_getElem? (i := 176) rfl)) rfl, WL_in (tb1 (List.mem_of_getElem? (i := 1) rfl)) rfl, WL_in (tb2 (List.mem_of_getElem? (i := 177) rfl)) rfl, rfl, by decide, by decide, by decide +kernel⟩
theorem msX11_within : MS yX11_within cX11_within 3 none 3 := ⟨WL_in (tb2 (List.mem_of_getElem? (i := 179) rfl)) rfl, WL_in (tb1 (List.mem_of_getElem? (i := 1) rfl)) rfl, WL_in (tb2 (List.mem_of_getElem? (i := 180) rfl)) rfl, by decide, by decide, by decide +kernel⟩
theorem miX1_add : MI RX1 yX1_add cX1_add 2 none 1 := ⟨WL_in (tb2 (List.mem_of_getElem? (i := 182) rfl)) rfl, WL_in (tb2 (List.mem_of_getElem? (i := 183) rfl)) rfl, WL_in (tb1 (List.mem_of_getElem? (i := 7) rfl)) rfl, WL_in (tb2 (List.mem_of_getElem? (i := 184) rfl)) rfl, rfl, by decide, by decide, by decide +kernel⟩
theorem miX5_set : MI RX5 yX5_set cX5_set 3 none 2 := ⟨WL_in (tb2 (List.mem_of_getElem? (i := 186) rfl)) rfl, WL_in (tb2 (List.mem_of_getElem? (i := 187) rfl)) rfl, WL_in (tb1 (List.mem_of_getElem? (i := 4) rfl)) rfl, WL_in (tb2 (List.mem_of_getElem? (i := 188) rfl)) rfl, rfl, by decide, by decide, by decide +kernel⟩
theorem miX11_clear : MI RX11 yX11_clear cX11_clear 2 none 0 := ⟨WL_in (tb2 (List.mem_of_getElem? (i := 190) rfl)) rfl, WL_in (tb2 (List.mem_of_getElem? (i := 191) rfl)) rfl, WL_in (tb1 (List.mem_of_getElem? (i := 1) rfl)) rfl, WL_in (tb2 (List.mem_of_getElem? (i := 192) rfl)) rfl, rfl, by decide, by decide, by decide +kernel⟩
theorem miX11_insertLine : MI RX11 yX11_insertLine cX11_insertLine 2 none 1 := ⟨WL_in (tb2 (List.mem_of_getElem? (i := 194) rfl)) rfl, WL_in (tb2 (List.mem_of_getElem? (i := 195) rfl)) rfl, WL_in (tb1 (List.mem_of_getElem? (i := 1) rfl)) rfl, WL_in (tb2 (List.mem_of_getElem? (i := 196) rfl)) rfl, rfl, by decide, by decide, by decide +kernel⟩
theorem miX1_isLine : MI RX1 yX1_isLine cX1_isLine 2 none 0 := ⟨WL_in (tb2 (List.mem_of_getElem? (i := 198) rfl)) rfl, WL_in (tb2 (List.mem_of_getElem? (i := 199) rfl)) rfl, WL_in (tb1 (List.mem_of_getElem? (i := 7) rfl)) rfl, WL_in (tb2 (List.mem_of_getElem? (i := 200) rfl)) rfl, rfl, by decide, by decide, by decide +kernel⟩
theorem miX1_contentStart : MI RX1 yX1_contentStart cX1_contentStart 2 none 0 := ⟨WL_in (tb2 (List.mem_of_getElem? (i := 203) rfl)) rfl, WL_in (tbS (List.mem_of_getElem? (i := 0) rfl)) rfl, WL_in (tb1 (List.mem_of_getElem? (i := 7) rfl)) rfl, WL_in (tb2 (List.mem_of_getElem? (i := 204) rfl)) rfl, rfl, by decide, by decide, by decide +kernel⟩
theorem miX5_get : MI RX5 yX5_get cX5_get 2 none 1 := ⟨WL_in (tb2 (List.mem_of_getElem? (i := 206) rfl)) rfl, WL_in (tb2 (List.mem_of_getElem? (i := 207) rfl)) rfl, WL_in (tb1 (List.mem_of_getElem? (i := 4) rfl)) rfl, WL_in (tb2 (List.mem_of_getElem? (i := 208) rfl)) rfl, rfl, by decide, by decide, by decide +kernel⟩
theorem miX1_contentEnd : MI RX1 yX1_contentEnd cX1_contentEnd 2 none 0 := ⟨WL_in (tb2 (List.mem_of_getElem? (i := 211) rfl)) rfl, WL_in (tbS (List.mem_of_getElem? (i := 1) rfl)) rfl, WL_in (tb1 (List.mem_of_getElem? (i := 7) rfl)) rfl, WL_in (tb2 (List.mem_of_getElem? (i := 212) rfl)) rfl, rfl, by decide, by decide, by decide +kernel⟩
theorem miX11_beginChange : MI RX11 yX11_beginChange cX11_beginChange 1 none 0 := ⟨WL_in (tb2 (List.mem_of_getElem? (i := 215) rfl)) rfl, WL_in (tbS (List.mem_of_getElem? (i := 2) rfl)) rfl, WL_in (tb1 (List.mem_of_getElem? (i := 1) rfl)) rfl, WL_in (tb2 (List.mem_of_getElem? (i := 216) rfl)) rfl, rfl, by decide, by decide, by decide +kernel⟩
theorem miX2_remember : MI RX2 yX2_remember cX2_remember 3 none 1 := ⟨WL_in (tb2 (List.mem_of_getElem? (i := 218) rfl)) rfl, WL_in (tb2 (List.mem_of_getElem? (i := 219) rfl)) rfl, WL_in (tb1 (List.mem_of_getElem? (i := 9) rfl)) rfl, WL_in (tb2 (List.mem_of_getElem? (i := 220) rfl)) rfl, rfl, by decide, by decide, by decide +kernel⟩
theorem miX2_at : MI RX2 yX2_at cX2_at 3 none 1 := ⟨WL_in (tb2 (List.mem_of_getElem? (i := 223) rfl)) rfl, WL_in (tbS (List.mem_of_getElem? (i := 3) rfl)) rfl, WL_in (tb1 (List.mem_of_getElem? (i := 9) rfl)) rfl, WL_in (tb2 (List.mem_of_getElem? (i := 224) rfl)) rfl, rfl, by decide, by decide, by decide +kernel⟩
theorem miX8_copy : MI RX8 yX8_copy cX8_copy 2 none 1 := ⟨WL_in (tb2 (List.mem_of_getElem? (i := 226) rfl)) rfl, WL_in (tb2 (List.mem_of_getElem? (i := 227) rfl)) rfl, WL_in (tb1 (List.mem_of_getElem? (i := 2) rfl)) rfl, WL_in (tb2 (List.mem_of_getElem? (i := 228) rfl)) rfl, rfl, by decide, by decide, by decide +kernel⟩
theorem miX3_copy : MI RX3 yX3_copy cX3_copy 2 none 1 := ⟨WL_in (tb2 (List.mem_of_getElem? (i := 230) rfl)) rfl, WL_in (tb2 (List.mem_of_getElem? (i := 231) rfl)) rfl, WL_in (tb1 (List.mem_of_getElem? (i := 3) rfl)) rfl, WL_in (tb2 (List.mem_of_getElem? (i := 232) rfl)) rfl, rfl, by decide, by decide, by decide +kernel⟩
theorem miX5_copy : MI RX5 yX5_copy cX5_copy 2 none 1 := ⟨WL_in (tb2 (List.mem_of_getElem? (i := 234) rfl)) rfl, WL_in (tb2 (List.mem_of_getElem? (i := 235) rfl)) rfl, WL_in (tb1 (List.mem_of_getElem? (i := 4) rfl)) rfl, WL_in (tb2 (List.mem_of_getElem? (i := 236) rfl)) rfl, rfl, by decide, by decide, by decide +kernel⟩
theorem msJ9_min_7cf53 : MS yJ9_min_7cf53 cJ9_min_7cf53 2 none 2 := ⟨WL_in (tb2 (List.mem_of_getElem? (i := 238) rfl)) rfl, WL_in (tb1 (List.mem_of_getElem? (i := 5) rfl)) rfl, WL_in (tb2 (List.mem_of_getElem? (i := 239) rfl)) rfl, by decide, by decide, by decide +kernel⟩
theorem miX7_copy : MI RX7 yX7_copy cX7_copy 2 none 1 := ⟨WL_in (tb3 (List.mem_of_getElem? (i := 4) rfl)) rfl, WL_in (tb3 (List.mem_of_getElem? (i := 5) rfl)) rfl, WL_in (tb1 (List.mem_of_getElem? (i := 6) rfl)) rfl, WL_in (tb3 (List.mem_of_getElem? (i := 6) rfl)) rfl, rfl, by decide, by decide, by decide +kernel⟩
theorem miX3_openGap : MI RX3 yX3_openGap cX3_openGap 3 none 1 := ⟨WL_in (tb3 (List.mem_of_getElem? (i := 9) rfl)) rfl, WL_in (tb3 (List.mem_of_getElem? (i := 10) rfl)) rfl, WL_in (tb1 (List.mem_of_getElem? (i := 3) rfl)) rfl, WL_in (tb3 (List.mem_of_getElem? (i := 11) rfl)) rfl, rfl, by decide, by decide, by decide +kernel⟩
theorem miX3_copyLine : MI RX3 yX3_copyLine cX3_copyLine 5 none 2 := ⟨WL_in (tb3 (List.mem_of_getElem? (i := 14) rfl)) rfl, WL_in (tbS (List.mem_of_getElem? (i := 4) rfl)) rfl, WL_in (tb1 (List.mem_of_getElem? (i := 3) rfl)) rfl, WL_in (tb3 (List.mem_of_getElem? (i := 15) rfl)) rfl, rfl, by decide, by decide, by decide +kernel⟩
theorem miX1_writeLine : MI RX1 yX1_writeLine cX1_writeLine 6 none 2 := ⟨WL_in (tb3 (List.mem_of_getElem? (i := 19) rfl)) rfl, WL_in (tb3 (List.mem_of_getElem? (i := 20) rfl)) rfl, WL_in (tb1 (List.mem_of_getElem? (i := 7) rfl)) rfl, WL_in (tb3 (List.mem_of_getElem? (i := 21) rfl)) rfl, rfl, by decide, by decide, by decide +kernel⟩
theorem miX3_append : MI RX3 yX3_append cX3_append 4 none 2 := ⟨WL_in (tb3 (List.mem_of_getElem? (i := 23) rfl)) rfl, WL_in (tb3 (List.mem_of_getElem? (i := 24) rfl)) rfl, WL_in (tb1 (List.mem_of_getElem? (i := 3) rfl)) rfl, WL_in (tb3 (List.mem_of_getElem? (i := 25) rfl)) rfl, rfl, by decide, by decide, by decide +kernel⟩
theorem miX11_replaceLine : MI RX11 yX11_replaceLine cX11_replaceLine 3 none 1 := ⟨WL_in (tb3 (List.mem_of_getElem? (i := 27) rfl)) rfl, WL_in (tb3 (List.mem_of_getElem? (i := 28) rfl)) rfl, WL_in (tb1 (List.mem_of_getElem? (i := 1) rfl)) rfl, WL_in (tb3 (List.mem_of_getElem? (i := 29) rfl)) rfl, rfl, by decide, by decide, by decide +kernel⟩
theorem miX3_has : MI RX3 yX3_has cX3_has 2 none 1 := ⟨WL_in (tb3 (List.mem_of_getElem? (i := 31) rfl)) rfl, WL_in (tb3 (List.mem_of_getElem? (i := 32) rfl)) rfl, WL_in (tb1 (List.mem_of_getElem? (i := 3) rfl)) rfl, WL_in (tb3 (List.mem_of_getElem? (i := 33) rfl)) rfl, rfl, by decide, by decide, by decide +kernel⟩
theorem miX11_removeLine : MI RX11 yX11_removeLine cX11_removeLine 2 none 1 := ⟨WL_in (tb3 (List.mem_of_getElem? (i := 36) rfl)) rfl, WL_in (tb3 (List.mem_of_getElem? (i := 37) rfl)) rfl, WL_in (tb1 (List.mem_of_getElem? (i := 1) rfl)) rfl, WL_in (tb3 (List.mem_of_getElem? (i := 38) rfl)) rfl, rfl, by decide, by decide, by decide +kernel⟩
theorem miX3_closeGap : MI RX3 yX3_closeGap cX3_closeGap 3 none 1 := ⟨WL_in (tb3 (List.mem_of_getElem? (i := 40) rfl)) rfl, WL_in (tb3 (List.mem_of_getElem? (i := 41) rfl)) rfl, WL_in (tb1 (List.mem_of_getElem? (i := 3) rfl)) rfl, WL_in (tb3 (List.mem_of_getElem? (i := 42) rfl)) rfl, rfl, by decide, by decide, by decide +kernel⟩
theorem miX11_splitLine : MI RX11 yX11_splitLine cX11_splitLine 4 none 2 := ⟨WL_in (tb3 (List.mem_of_getElem? (i := 45) rfl)) rfl, WL_in (tb3 (List.mem_of_getElem? (i := 46) rfl)) rfl, WL_in (tb1 (List.mem_of_getElem? (i := 1) rfl)) rfl, WL_in (tb3 (List.mem_of_getElem? (i := 47) rfl)) rfl, rfl, by decide, by decide, by decide +kernel⟩
theorem miX3_split : MI RX3 yX3_split cX3_split 5 none 2 := ⟨WL_in (tb3 (List.mem_of_getElem? (i := 49) rfl)) rfl, WL_in (tb3 (List.mem_of_getElem? (i := 50) rfl)) rfl, WL_in (tb1 (List.mem_of_getElem? (i := 3) rfl)) rfl, WL_in (tb3 (List.mem_of_getElem? (i := 51) rfl)) rfl, rfl, by decide, by decide, by decide +kernel⟩
theorem miX3_byteOf : MI RX3 yX3_byteOf cX3_byteOf 3 none 2 := ⟨WL_in (tb3 (List.mem_of_getElem? (i := 54) rfl)) rfl, WL_in (tb3 (List.mem_of_getElem? (i := 55) rfl)) rfl, WL_in (tb1 (List.mem_of_getElem? (i := 3) rfl)) rfl, WL_in (tb3 (List.mem_of_getElem? (i := 56) rfl)) rfl, rfl, by decide, by decide, by decide +kernel⟩
theorem miX3_appendFrom : MI RX3 yX3_appendFrom cX3_appendFrom 6 none 3 := ⟨WL_in (tb3 (List.mem_of_getElem? (i := 59) rfl)) rfl, WL_in (tbS (List.mem_of_getElem? (i := 5) rfl)) rfl, WL_in (tb1 (List.mem_of_getElem? (i := 3) rfl)) rfl, WL_in (tb3 (List.mem_of_getElem? (i := 60) rfl)) rfl, rfl, by decide, by decide, by decide +kernel⟩
theorem miX11_study : MI RX11 yX11_study cX11_study 1 none 0 := ⟨WL_in (tb3 (List.mem_of_getElem? (i := 64) rfl)) rfl, WL_in (tbS (List.mem_of_getElem? (i := 6) rfl)) rfl, WL_in (tb1 (List.mem_of_getElem? (i := 1) rfl)) rfl, WL_in (tb3 (List.mem_of_getElem? (i := 65) rfl)) rfl, rfl, by decide, by decide, by decide +kernel⟩
theorem miX9_divide : MI RX9 yX9_divide cX9_divide 4 none 2 := ⟨WL_in (tb3 (List.mem_of_getElem? (i := 67) rfl)) rfl, WL_in (tb3 (List.mem_of_getElem? (i := 68) rfl)) rfl, WL_in (tb1 (List.mem_of_getElem? (i := 10) rfl)) rfl, WL_in (tb3 (List.mem_of_getElem? (i := 69) rfl)) rfl, rfl, by decide, by decide, by decide +kernel⟩
theorem miX9_load : MI RX9 yX9_load cX9_load 4 none 2 := ⟨WL_in (tb3 (List.mem_of_getElem? (i := 73) rfl)) rfl, WL_in (tbS (List.mem_of_getElem? (i := 7) rfl)) rfl, WL_in (tb1 (List.mem_of_getElem? (i := 10) rfl)) rfl, WL_in (tb3 (List.mem_of_getElem? (i := 74) rfl)) rfl, rfl, by decide, by decide, by decide +kernel⟩
theorem miX9_divideLine : MI RX9 yX9_divideLine cX9_divideLine 6 none 2 := ⟨WL_in (tb3 (List.mem_of_getElem? (i := 79) rfl)) rfl, WL_in (tbS (List.mem_of_getElem? (i := 8) rfl)) rfl, WL_in (tb1 (List.mem_of_getElem? (i := 10) rfl)) rfl, WL_in (tb3 (List.mem_of_getElem? (i := 80) rfl)) rfl, rfl, by decide, by decide, by decide +kernel⟩
theorem miX9_literalEnd : MI RX9 yX9_literalEnd cX9_literalEnd 3 none 1 := ⟨WL_in (tb3 (List.mem_of_getElem? (i := 83) rfl)) rfl, WL_in (tbS (List.mem_of_getElem? (i := 9) rfl)) rfl, WL_in (tb1 (List.mem_of_getElem? (i := 10) rfl)) rfl, WL_in (tb3 (List.mem_of_getElem? (i := 84) rfl)) rfl, rfl, by decide, by decide, by decide +kernel⟩
theorem miX9_threeQuotesAt : MI RX9 yX9_threeQuotesAt cX9_threeQuotesAt 2 none 1 := ⟨WL_in (tb3 (List.mem_of_getElem? (i := 87) rfl)) rfl, WL_in (tbS (List.mem_of_getElem? (i := 10) rfl)) rfl, WL_in (tb1 (List.mem_of_getElem? (i := 10) rfl)) rfl, WL_in (tb3 (List.mem_of_getElem? (i := 88) rfl)) rfl, rfl, by decide, by decide, by decide +kernel⟩
theorem miX9_stringEnd : MI RX9 yX9_stringEnd cX9_stringEnd 3 none 1 := ⟨WL_in (tb3 (List.mem_of_getElem? (i := 91) rfl)) rfl, WL_in (tbS (List.mem_of_getElem? (i := 11) rfl)) rfl, WL_in (tb1 (List.mem_of_getElem? (i := 10) rfl)) rfl, WL_in (tb3 (List.mem_of_getElem? (i := 92) rfl)) rfl, rfl, by decide, by decide, by decide +kernel⟩
theorem miX9_add : MI RX9 yX9_add cX9_add 5 none 4 := ⟨WL_in (tb3 (List.mem_of_getElem? (i := 95) rfl)) rfl, WL_in (tbS (List.mem_of_getElem? (i := 12) rfl)) rfl, WL_in (tb1 (List.mem_of_getElem? (i := 10) rfl)) rfl, WL_in (tb3 (List.mem_of_getElem? (i := 96) rfl)) rfl, rfl, by decide, by decide, by decide +kernel⟩
theorem msX11_isWordByte : MS yX11_isWordByte cX11_isWordByte 1 none 1 := ⟨WL_in (tb3 (List.mem_of_getElem? (i := 98) rfl)) rfl, WL_in (tb1 (List.mem_of_getElem? (i := 1) rfl)) rfl, WL_in (tb3 (List.mem_of_getElem? (i := 99) rfl)) rfl, by decide, by decide, by decide +kernel⟩
theorem miX9_wordEnd : MI RX9 yX9_wordEnd cX9_wordEnd 3 none 1 := ⟨WL_in (tb3 (List.mem_of_getElem? (i := 102) rfl)) rfl, WL_in (tbS (List.mem_of_getElem? (i := 13) rfl)) rfl, WL_in (tb1 (List.mem_of_getElem? (i := 10) rfl)) rfl, WL_in (tb3 (List.mem_of_getElem? (i := 103) rfl)) rfl, rfl, by decide, by decide, by decide +kernel⟩
theorem miX0_match : MI RX0 yX0_match cX0_match 5 none 2 := ⟨WL_in (tb3 (List.mem_of_getElem? (i := 106) rfl)) rfl, WL_in (tb3 (List.mem_of_getElem? (i := 107) rfl)) rfl, WL_in (tb1 (List.mem_of_getElem? (i := 11) rfl)) rfl, WL_in (tb3 (List.mem_of_getElem? (i := 108) rfl)) rfl, rfl, by decide, by decide, by decide +kernel⟩
theorem miX0_saveStack : MI RX0 yX0_saveStack cX0_saveStack 3 none 1 := ⟨WL_in (tb3 (List.mem_of_getElem? (i := 111) rfl)) rfl, WL_in (tbS (List.mem_of_getElem? (i := 14) rfl)) rfl, WL_in (tb1 (List.mem_of_getElem? (i := 11) rfl)) rfl, WL_in (tb3 (List.mem_of_getElem? (i := 112) rfl)) rfl, rfl, by decide, by decide, by decide +kernel⟩
theorem miX0_findRules : MI RX0 yX0_findRules cX0_findRules 11 none 3 := ⟨WL_in (tb3 (List.mem_of_getElem? (i := 117) rfl)) rfl, WL_in (tbS (List.mem_of_getElem? (i := 15) rfl)) rfl, WL_in (tb1 (List.mem_of_getElem? (i := 11) rfl)) rfl, WL_in (tb3 (List.mem_of_getElem? (i := 118) rfl)) rfl, rfl, by decide, by decide, by decide +kernel⟩
theorem miX7_has : MI RX7 yX7_has cX7_has 2 none 1 := ⟨WL_in (tb3 (List.mem_of_getElem? (i := 120) rfl)) rfl, WL_in (tb3 (List.mem_of_getElem? (i := 121) rfl)) rfl, WL_in (tb1 (List.mem_of_getElem? (i := 6) rfl)) rfl, WL_in (tb3 (List.mem_of_getElem? (i := 122) rfl)) rfl, rfl, by decide, by decide, by decide +kernel⟩
theorem miX7_hasText : MI RX7 yX7_hasText cX7_hasText 9 none 6 := ⟨WL_in (tb3 (List.mem_of_getElem? (i := 125) rfl)) rfl, WL_in (tb3 (List.mem_of_getElem? (i := 126) rfl)) rfl, WL_in (tb1 (List.mem_of_getElem? (i := 6) rfl)) rfl, WL_in (tb3 (List.mem_of_getElem? (i := 127) rfl)) rfl, rfl, by decide, by decide, by decide +kernel⟩
theorem miX0_close : MI RX0 yX0_close cX0_close 4 none 2 := ⟨WL_in (tb3 (List.mem_of_getElem? (i := 131) rfl)) rfl, WL_in (tbS (List.mem_of_getElem? (i := 16) rfl)) rfl, WL_in (tb1 (List.mem_of_getElem? (i := 11) rfl)) rfl, WL_in (tb3 (List.mem_of_getElem? (i := 132) rfl)) rfl, rfl, by decide, by decide, by decide +kernel⟩
theorem miX0_levelThatCloses : MI RX0 yX0_levelThatCloses cX0_levelThatCloses 6 none 2 := ⟨WL_in (tb3 (List.mem_of_getElem? (i := 135) rfl)) rfl, WL_in (tbS (List.mem_of_getElem? (i := 17) rfl)) rfl, WL_in (tb1 (List.mem_of_getElem? (i := 11) rfl)) rfl, WL_in (tb3 (List.mem_of_getElem? (i := 136) rfl)) rfl, rfl, by decide, by decide, by decide +kernel⟩
theorem miX0_open : MI RX0 yX0_open cX0_open 7 none 3 := ⟨WL_in (tb3 (List.mem_of_getElem? (i := 140) rfl)) rfl, WL_in (tbS (List.mem_of_getElem? (i := 18) rfl)) rfl, WL_in (tb1 (List.mem_of_getElem? (i := 11) rfl)) rfl, WL_in (tb3 (List.mem_of_getElem? (i := 141) rfl)) rfl, rfl, by decide, by decide, by decide +kernel⟩
theorem miX7_best : MI RX7 yX7_best cX7_best 7 none 2 := ⟨WL_in (tb3 (List.mem_of_getElem? (i := 143) rfl)) rfl, WL_in (tb3 (List.mem_of_getElem? (i := 144) rfl)) rfl, WL_in (tb1 (List.mem_of_getElem? (i := 6) rfl)) rfl, WL_in (tb3 (List.mem_of_getElem? (i := 145) rfl)) rfl, rfl, by decide, by decide, by decide +kernel⟩
theorem miX4_make : MI RX4 yX4_make cX4_make 5 none 3 := ⟨WL_in (tb3 (List.mem_of_getElem? (i := 147) rfl)) rfl, WL_in (tb3 (List.mem_of_getElem? (i := 148) rfl)) rfl, WL_in (tb1 (List.mem_of_getElem? (i := 12) rfl)) rfl, WL_in (tb3 (List.mem_of_getElem? (i := 149) rfl)) rfl, rfl, by decide, by decide, by decide +kernel⟩
theorem miX4_decide : MI RX4 yX4_decide cX4_decide 14 none 4 := ⟨WL_in (tb3 (List.mem_of_getElem? (i := 154) rfl)) rfl, WL_in (tbS (List.mem_of_getElem? (i := 19) rfl)) rfl, WL_in (tb1 (List.mem_of_getElem? (i := 12) rfl)) rfl, WL_in (tb3 (List.mem_of_getElem? (i := 155) rfl)) rfl, rfl, by decide, by decide, by decide +kernel⟩
theorem miX0_lastLeadingCloser : MI RX0 yX0_lastLeadingCloser cX0_lastLeadingCloser 5 none 2 := ⟨WL_in (tb3 (List.mem_of_getElem? (i := 157) rfl)) rfl, WL_in (tb3 (List.mem_of_getElem? (i := 158) rfl)) rfl, WL_in (tb1 (List.mem_of_getElem? (i := 11) rfl)) rfl, WL_in (tb3 (List.mem_of_getElem? (i := 159) rfl)) rfl, rfl, by decide, by decide, by decide +kernel⟩
theorem miX7_beats : MI RX7 yX7_beats cX7_beats 3 none 2 := ⟨WL_in (tb3 (List.mem_of_getElem? (i := 162) rfl)) rfl, WL_in (tb3 (List.mem_of_getElem? (i := 163) rfl)) rfl, WL_in (tb1 (List.mem_of_getElem? (i := 6) rfl)) rfl, WL_in (tb3 (List.mem_of_getElem? (i := 164) rfl)) rfl, rfl, by decide, by decide, by decide +kernel⟩
theorem msX4_joinerBehind : MS yX4_joinerBehind cX4_joinerBehind 3 none 3 := ⟨WL_in (tb3 (List.mem_of_getElem? (i := 166) rfl)) rfl, WL_in (tb1 (List.mem_of_getElem? (i := 12) rfl)) rfl, WL_in (tb3 (List.mem_of_getElem? (i := 167) rfl)) rfl, by decide, by decide, by decide +kernel⟩
theorem miX4_standByClosed : MI RX4 yX4_standByClosed cX4_standByClosed 6 none 5 := ⟨WL_in (tb3 (List.mem_of_getElem? (i := 170) rfl)) rfl, WL_in (tbS (List.mem_of_getElem? (i := 20) rfl)) rfl, WL_in (tb1 (List.mem_of_getElem? (i := 12) rfl)) rfl, WL_in (tb3 (List.mem_of_getElem? (i := 171) rfl)) rfl, rfl, by decide, by decide, by decide +kernel⟩
theorem miX4_standOnGround : MI RX4 yX4_standOnGround cX4_standOnGround 5 none 4 := ⟨WL_in (tb3 (List.mem_of_getElem? (i := 174) rfl)) rfl, WL_in (tbS (List.mem_of_getElem? (i := 21) rfl)) rfl, WL_in (tb1 (List.mem_of_getElem? (i := 12) rfl)) rfl, WL_in (tb3 (List.mem_of_getElem? (i := 175) rfl)) rfl, rfl, by decide, by decide, by decide +kernel⟩
theorem miX0_openBefore : MI RX0 yX0_openBefore cX0_openBefore 3 none 2 := ⟨WL_in (tb3 (List.mem_of_getElem? (i := 177) rfl)) rfl, WL_in (tb3 (List.mem_of_getElem? (i := 178) rfl)) rfl, WL_in (tb1 (List.mem_of_getElem? (i := 11) rfl)) rfl, WL_in (tb3 (List.mem_of_getElem? (i := 179) rfl)) rfl, rfl, by decide, by decide, by decide +kernel⟩
theorem miX4_addSteps : MI RX4 yX4_addSteps cX4_addSteps 5 none 4 := ⟨WL_in (tb3 (List.mem_of_getElem? (i := 182) rfl)) rfl, WL_in (tbS (List.mem_of_getElem? (i := 22) rfl)) rfl, WL_in (tb1 (List.mem_of_getElem? (i := 12) rfl)) rfl, WL_in (tb3 (List.mem_of_getElem? (i := 183) rfl)) rfl, rfl, by decide, by decide, by decide +kernel⟩
theorem miX4_column : MI RX4 yX4_column cX4_column 7 none 4 := ⟨WL_in (tb3 (List.mem_of_getElem? (i := 185) rfl)) rfl, WL_in (tb3 (List.mem_of_getElem? (i := 186) rfl)) rfl, WL_in (tb1 (List.mem_of_getElem? (i := 12) rfl)) rfl, WL_in (tb3 (List.mem_of_getElem? (i := 187) rfl)) rfl, rfl, by decide, by decide, by decide +kernel⟩
theorem msX11_columnFrom : MS yX11_columnFrom cX11_columnFrom 4 none 4 := ⟨WL_in (tb3 (List.mem_of_getElem? (i := 189) rfl)) rfl, WL_in (tb1 (List.mem_of_getElem? (i := 1) rfl)) rfl, WL_in (tb3 (List.mem_of_getElem? (i := 190) rfl)) rfl, by decide, by decide, by decide +kernel⟩
theorem miX11_joinLines : MI RX11 yX11_joinLines cX11_joinLines 2 none 1 := ⟨WL_in (tb3 (List.mem_of_getElem? (i := 196) rfl)) rfl, WL_in (tb3 (List.mem_of_getElem? (i := 197) rfl)) rfl, WL_in (tb1 (List.mem_of_getElem? (i := 1) rfl)) rfl, WL_in (tb3 (List.mem_of_getElem? (i := 198) rfl)) rfl, rfl, by decide, by decide, by decide +kernel⟩
theorem miX3_joinedSize : MI RX3 yX3_joinedSize cX3_joinedSize 4 none 1 := ⟨WL_in (tb3 (List.mem_of_getElem? (i := 200) rfl)) rfl, WL_in (tb3 (List.mem_of_getElem? (i := 201) rfl)) rfl, WL_in (tb1 (List.mem_of_getElem? (i := 3) rfl)) rfl, WL_in (tb3 (List.mem_of_getElem? (i := 202) rfl)) rfl, rfl, by decide, by decide, by decide +kernel⟩
theorem miX3_join : MI RX3 yX3_join cX3_join 2 none 1 := ⟨WL_in (tb3 (List.mem_of_getElem? (i := 204) rfl)) rfl, WL_in (tb3 (List.mem_of_getElem? (i := 205) rfl)) rfl, WL_in (tb1 (List.mem_of_getElem? (i := 3) rfl)) rfl, WL_in (tb3 (List.mem_of_getElem? (i := 206) rfl)) rfl, rfl, by decide, by decide, by decide +kernel⟩
theorem miX11_shift : MI RX11 yX11_shift cX11_shift 4 none 3 := ⟨WL_in (tb3 (List.mem_of_getElem? (i := 209) rfl)) rfl, WL_in (tb3 (List.mem_of_getElem? (i := 210) rfl)) rfl, WL_in (tb1 (List.mem_of_getElem? (i := 1) rfl)) rfl, WL_in (tb3 (List.mem_of_getElem? (i := 211) rfl)) rfl, rfl, by decide, by decide, by decide +kernel⟩
theorem miX3_hasRange : MI RX3 yX3_hasRange cX3_hasRange 3 none 2 := ⟨WL_in (tb3 (List.mem_of_getElem? (i := 213) rfl)) rfl, WL_in (tb3 (List.mem_of_getElem? (i := 214) rfl)) rfl, WL_in (tb1 (List.mem_of_getElem? (i := 3) rfl)) rfl, WL_in (tb3 (List.mem_of_getElem? (i := 215) rfl)) rfl, rfl, by decide, by decide, by decide +kernel⟩
theorem miX3_canMove : MI RX3 yX3_canMove cX3_canMove 5 none 3 := ⟨WL_in (tb3 (List.mem_of_getElem? (i := 217) rfl)) rfl, WL_in (tb3 (List.mem_of_getElem? (i := 218) rfl)) rfl, WL_in (tb1 (List.mem_of_getElem? (i := 3) rfl)) rfl, WL_in (tb3 (List.mem_of_getElem? (i := 219) rfl)) rfl, rfl, by decide, by decide, by decide +kernel⟩
theorem miX3_move : MI RX3 yX3_move cX3_move 6 none 3 := ⟨WL_in (tb3 (List.mem_of_getElem? (i := 222) rfl)) rfl, WL_in (tb3 (List.mem_of_getElem? (i := 223) rfl)) rfl, WL_in (tb1 (List.mem_of_getElem? (i := 3) rfl)) rfl, WL_in (tb3 (List.mem_of_getElem? (i := 224) rfl)) rfl, rfl, by decide, by decide, by decide +kernel⟩
theorem miX11_pin : MI RX11 yX11_pin cX11_pin 2 none 1 := ⟨WL_in (tb3 (List.mem_of_getElem? (i := 226) rfl)) rfl, WL_in (tb3 (List.mem_of_getElem? (i := 227) rfl)) rfl, WL_in (tb1 (List.mem_of_getElem? (i := 1) rfl)) rfl, WL_in (tb3 (List.mem_of_getElem? (i := 228) rfl)) rfl, rfl, by decide, by decide, by decide +kernel⟩
theorem miX11_reindent : MI RX11 yX11_reindent cX11_reindent 5 none 2 := ⟨WL_in (tb3 (List.mem_of_getElem? (i := 230) rfl)) rfl, WL_in (tb3 (List.mem_of_getElem? (i := 231) rfl)) rfl, WL_in (tb1 (List.mem_of_getElem? (i := 1) rfl)) rfl, WL_in (tb3 (List.mem_of_getElem? (i := 232) rfl)) rfl, rfl, by decide, by decide, by decide +kernel⟩
theorem miX11_indentAnew : MI RX11 yX11_indentAnew cX11_indentAnew 6 none 4 := ⟨WL_in (tb3 (List.mem_of_getElem? (i := 235) rfl)) rfl, WL_in (tbS (List.mem_of_getElem? (i := 23) rfl)) rfl, WL_in (tb1 (List.mem_of_getElem? (i := 1) rfl)) rfl, WL_in (tb3 (List.mem_of_getElem? (i := 236) rfl)) rfl, rfl, by decide, by decide, by decide +kernel⟩
theorem miX11_lines : MI RX11 yX11_lines cX11_lines 1 none 0 := ⟨WL_in (tb3 (List.mem_of_getElem? (i := 238) rfl)) rfl, WL_in (tb3 (List.mem_of_getElem? (i := 239) rfl)) rfl, WL_in (tb1 (List.mem_of_getElem? (i := 1) rfl)) rfl, WL_in (tb4 (List.mem_of_getElem? (i := 0) rfl)) rfl, rfl, by decide, by decide, by decide +kernel⟩
theorem miX11_indentation : MI RX11 yX11_indentation cX11_indentation 2 none 1 := ⟨WL_in (tb4 (List.mem_of_getElem? (i := 2) rfl)) rfl, WL_in (tb4 (List.mem_of_getElem? (i := 3) rfl)) rfl, WL_in (tb1 (List.mem_of_getElem? (i := 1) rfl)) rfl, WL_in (tb4 (List.mem_of_getElem? (i := 4) rfl)) rfl, rfl, by decide, by decide, by decide +kernel⟩
theorem miX11_length : MI RX11 yX11_length cX11_length 2 none 1 := ⟨WL_in (tb4 (List.mem_of_getElem? (i := 6) rfl)) rfl, WL_in (tb4 (List.mem_of_getElem? (i := 7) rfl)) rfl, WL_in (tb1 (List.mem_of_getElem? (i := 1) rfl)) rfl, WL_in (tb4 (List.mem_of_getElem? (i := 8) rfl)) rfl, rfl, by decide, by decide, by decide +kernel⟩
theorem miX11_byteAt : MI RX11 yX11_byteAt cX11_byteAt 3 none 2 := ⟨WL_in (tb4 (List.mem_of_getElem? (i := 10) rfl)) rfl, WL_in (tb4 (List.mem_of_getElem? (i := 11) rfl)) rfl, WL_in (tb1 (List.mem_of_getElem? (i := 1) rfl)) rfl, WL_in (tb4 (List.mem_of_getElem? (i := 12) rfl)) rfl, rfl, by decide, by decide, by decide +kernel⟩
theorem miX11_isProtected : MI RX11 yX11_isProtected cX11_isProtected 2 none 1 := ⟨WL_in (tb4 (List.mem_of_getElem? (i := 15) rfl)) rfl, WL_in (tb4 (List.mem_of_getElem? (i := 16) rfl)) rfl, WL_in (tb1 (List.mem_of_getElem? (i := 1) rfl)) rfl, WL_in (tb4 (List.mem_of_getElem? (i := 17) rfl)) rfl, rfl, by decide, by decide, by decide +kernel⟩
theorem miX11_isPinned : MI RX11 yX11_isPinned cX11_isPinned 2 none 1 := ⟨WL_in (tb4 (List.mem_of_getElem? (i := 19) rfl)) rfl, WL_in (tb4 (List.mem_of_getElem? (i := 20) rfl)) rfl, WL_in (tb1 (List.mem_of_getElem? (i := 1) rfl)) rfl, WL_in (tb4 (List.mem_of_getElem? (i := 21) rfl)) rfl, rfl, by decide, by decide, by decide +kernel⟩
theorem miX11_setStep : MI RX11 yX11_setStep cX11_setStep 3 none 1 := ⟨WL_in (tb4 (List.mem_of_getElem? (i := 23) rfl)) rfl, WL_in (tb4 (List.mem_of_getElem? (i := 24) rfl)) rfl, WL_in (tb1 (List.mem_of_getElem? (i := 1) rfl)) rfl, WL_in (tb4 (List.mem_of_getElem? (i := 25) rfl)) rfl, rfl, by decide, by decide, by decide +kernel⟩
theorem miX11_setBase : MI RX11 yX11_setBase cX11_setBase 3 none 1 := ⟨WL_in (tb4 (List.mem_of_getElem? (i := 27) rfl)) rfl, WL_in (tb4 (List.mem_of_getElem? (i := 28) rfl)) rfl, WL_in (tb1 (List.mem_of_getElem? (i := 1) rfl)) rfl, WL_in (tb4 (List.mem_of_getElem? (i := 29) rfl)) rfl, rfl, by decide, by decide, by decide +kernel⟩
theorem miX11_setComment : MI RX11 yX11_setComment cX11_setComment 3 none 1 := ⟨WL_in (tb4 (List.mem_of_getElem? (i := 31) rfl)) rfl, WL_in (tb4 (List.mem_of_getElem? (i := 32) rfl)) rfl, WL_in (tb1 (List.mem_of_getElem? (i := 1) rfl)) rfl, WL_in (tb4 (List.mem_of_getElem? (i := 33) rfl)) rfl, rfl, by decide, by decide, by decide +kernel⟩
theorem msX11_canBeginComment : MS yX11_canBeginComment cX11_canBeginComment 1 none 1 := ⟨WL_in (tb4 (List.mem_of_getElem? (i := 35) rfl)) rfl, WL_in (tb1 (List.mem_of_getElem? (i := 1) rfl)) rfl, WL_in (tb4 (List.mem_of_getElem? (i := 36) rfl)) rfl, by decide, by decide, by decide +kernel⟩
theorem miX11_pair : MI RX11 yX11_pair cX11_pair 8 none 5 := ⟨WL_in (tb4 (List.mem_of_getElem? (i := 39) rfl)) rfl, WL_in (tb4 (List.mem_of_getElem? (i := 40) rfl)) rfl, WL_in (tb1 (List.mem_of_getElem? (i := 1) rfl)) rfl, WL_in (tb4 (List.mem_of_getElem? (i := 41) rfl)) rfl, rfl, by decide, by decide, by decide +kernel⟩
theorem msX11_isRuleNumber : MS yX11_isRuleNumber cX11_isRuleNumber 1 none 1 := ⟨WL_in (tb4 (List.mem_of_getElem? (i := 43) rfl)) rfl, WL_in (tb1 (List.mem_of_getElem? (i := 1) rfl)) rfl, WL_in (tb4 (List.mem_of_getElem? (i := 44) rfl)) rfl, by decide, by decide, by decide +kernel⟩
theorem miX6_find : MI RX6 yX6_find cX6_find 6 none 2 := ⟨WL_in (tb4 (List.mem_of_getElem? (i := 46) rfl)) rfl, WL_in (tb4 (List.mem_of_getElem? (i := 47) rfl)) rfl, WL_in (tb1 (List.mem_of_getElem? (i := 8) rfl)) rfl, WL_in (tb4 (List.mem_of_getElem? (i := 48) rfl)) rfl, rfl, by decide, by decide, by decide +kernel⟩
theorem miX1_byteOf : MI RX1 yX1_byteOf cX1_byteOf 2 none 1 := ⟨WL_in (tb4 (List.mem_of_getElem? (i := 50) rfl)) rfl, WL_in (tb4 (List.mem_of_getElem? (i := 51) rfl)) rfl, WL_in (tb1 (List.mem_of_getElem? (i := 7) rfl)) rfl, WL_in (tb4 (List.mem_of_getElem? (i := 52) rfl)) rfl, rfl, by decide, by decide, by decide +kernel⟩
theorem msX6_textEnd : MS yX6_textEnd cX6_textEnd 3 none 2 := ⟨WL_in (tb4 (List.mem_of_getElem? (i := 54) rfl)) rfl, WL_in (tb1 (List.mem_of_getElem? (i := 8) rfl)) rfl, WL_in (tb4 (List.mem_of_getElem? (i := 55) rfl)) rfl, by decide, by decide, by decide +kernel⟩
theorem miX11_makeRule : MI RX11 yX11_makeRule cX11_makeRule 6 none 4 := ⟨WL_in (tb4 (List.mem_of_getElem? (i := 61) rfl)) rfl, WL_in (tbS (List.mem_of_getElem? (i := 24) rfl)) rfl, WL_in (tb1 (List.mem_of_getElem? (i := 1) rfl)) rfl, WL_in (tb4 (List.mem_of_getElem? (i := 62) rfl)) rfl, rfl, by decide, by decide, by decide +kernel⟩
theorem miX7_put : MI RX7 yX7_put cX7_put 5 none 4 := ⟨WL_in (tb4 (List.mem_of_getElem? (i := 65) rfl)) rfl, WL_in (tb4 (List.mem_of_getElem? (i := 66) rfl)) rfl, WL_in (tb1 (List.mem_of_getElem? (i := 6) rfl)) rfl, WL_in (tb4 (List.mem_of_getElem? (i := 67) rfl)) rfl, rfl, by decide, by decide, by decide +kernel⟩
theorem miX6_write : MI RX6 yX6_write cX6_write 6 none 3 := ⟨WL_in (tb4 (List.mem_of_getElem? (i := 70) rfl)) rfl, WL_in (tb4 (List.mem_of_getElem? (i := 71) rfl)) rfl, WL_in (tb1 (List.mem_of_getElem? (i := 8) rfl)) rfl, WL_in (tb4 (List.mem_of_getElem? (i := 72) rfl)) rfl, rfl, by decide, by decide, by decide +kernel⟩
theorem miX7_appendText : MI RX7 yX7_appendText cX7_appendText 6 none 3 := ⟨WL_in (tb4 (List.mem_of_getElem? (i := 75) rfl)) rfl, WL_in (tb4 (List.mem_of_getElem? (i := 76) rfl)) rfl, WL_in (tb1 (List.mem_of_getElem? (i := 6) rfl)) rfl, WL_in (tb4 (List.mem_of_getElem? (i := 77) rfl)) rfl, rfl, by decide, by decide, by decide +kernel⟩
theorem miX11_starter : MI RX11 yX11_starter cX11_starter 5 none 3 := ⟨WL_in (tb4 (List.mem_of_getElem? (i := 79) rfl)) rfl, WL_in (tb4 (List.mem_of_getElem? (i := 80) rfl)) rfl, WL_in (tb1 (List.mem_of_getElem? (i := 1) rfl)) rfl, WL_in (tb4 (List.mem_of_getElem? (i := 81) rfl)) rfl, rfl, by decide, by decide, by decide +kernel⟩
theorem miX11_refusalOfOneText : MI RX11 yX11_refusalOfOneText cX11_refusalOfOneText 4 none 3 := ⟨WL_in (tb4 (List.mem_of_getElem? (i := 84) rfl)) rfl, WL_in (tbS (List.mem_of_getElem? (i := 25) rfl)) rfl, WL_in (tb1 (List.mem_of_getElem? (i := 1) rfl)) rfl, WL_in (tb4 (List.mem_of_getElem? (i := 85) rfl)) rfl, rfl, by decide, by decide, by decide +kernel⟩
theorem miX11_joiner : MI RX11 yX11_joiner cX11_joiner 5 none 3 := ⟨WL_in (tb4 (List.mem_of_getElem? (i := 87) rfl)) rfl, WL_in (tb4 (List.mem_of_getElem? (i := 88) rfl)) rfl, WL_in (tb1 (List.mem_of_getElem? (i := 1) rfl)) rfl, WL_in (tb4 (List.mem_of_getElem? (i := 89) rfl)) rfl, rfl, by decide, by decide, by decide +kernel⟩
theorem miX11_dropRule : MI RX11 yX11_dropRule cX11_dropRule 2 none 1 := ⟨WL_in (tb4 (List.mem_of_getElem? (i := 91) rfl)) rfl, WL_in (tb4 (List.mem_of_getElem? (i := 92) rfl)) rfl, WL_in (tb1 (List.mem_of_getElem? (i := 1) rfl)) rfl, WL_in (tb4 (List.mem_of_getElem? (i := 93) rfl)) rfl, rfl, by decide, by decide, by decide +kernel⟩
theorem miX7_size : MI RX7 yX7_size cX7_size 3 none 0 := ⟨WL_in (tb4 (List.mem_of_getElem? (i := 95) rfl)) rfl, WL_in (tb4 (List.mem_of_getElem? (i := 96) rfl)) rfl, WL_in (tb1 (List.mem_of_getElem? (i := 6) rfl)) rfl, WL_in (tb4 (List.mem_of_getElem? (i := 97) rfl)) rfl, rfl, by decide, by decide, by decide +kernel⟩
theorem miX11_wanted : MI RX11 yX11_wanted cX11_wanted 2 none 1 := ⟨WL_in (tb4 (List.mem_of_getElem? (i := 100) rfl)) rfl, WL_in (tb4 (List.mem_of_getElem? (i := 101) rfl)) rfl, WL_in (tb1 (List.mem_of_getElem? (i := 1) rfl)) rfl, WL_in (tb4 (List.mem_of_getElem? (i := 102) rfl)) rfl, rfl, by decide, by decide, by decide +kernel⟩
theorem miX11_reason : MI RX11 yX11_reason cX11_reason 2 none 1 := ⟨WL_in (tb4 (List.mem_of_getElem? (i := 104) rfl)) rfl, WL_in (tb4 (List.mem_of_getElem? (i := 105) rfl)) rfl, WL_in (tb1 (List.mem_of_getElem? (i := 1) rfl)) rfl, WL_in (tb4 (List.mem_of_getElem? (i := 106) rfl)) rfl, rfl, by decide, by decide, by decide +kernel⟩
theorem miX11_decidingRule : MI RX11 yX11_decidingRule cX11_decidingRule 3 none 1 := ⟨WL_in (tb4 (List.mem_of_getElem? (i := 108) rfl)) rfl, WL_in (tb4 (List.mem_of_getElem? (i := 109) rfl)) rfl, WL_in (tb1 (List.mem_of_getElem? (i := 1) rfl)) rfl, WL_in (tb4 (List.mem_of_getElem? (i := 110) rfl)) rfl, rfl, by decide, by decide, by decide +kernel⟩
theorem miX11_wouldChange : MI RX11 yX11_wouldChange cX11_wouldChange 1 none 0 := ⟨WL_in (tb4 (List.mem_of_getElem? (i := 112) rfl)) rfl, WL_in (tb4 (List.mem_of_getElem? (i := 113) rfl)) rfl, WL_in (tb1 (List.mem_of_getElem? (i := 1) rfl)) rfl, WL_in (tb4 (List.mem_of_getElem? (i := 114) rfl)) rfl, rfl, by decide, by decide, by decide +kernel⟩
theorem miX11_linesChangedWith : MI RX11 yX11_linesChangedWith cX11_linesChangedWith 5 none 2 := ⟨WL_in (tb4 (List.mem_of_getElem? (i := 117) rfl)) rfl, WL_in (tbS (List.mem_of_getElem? (i := 26) rfl)) rfl, WL_in (tb1 (List.mem_of_getElem? (i := 1) rfl)) rfl, WL_in (tb4 (List.mem_of_getElem? (i := 118) rfl)) rfl, rfl, by decide, by decide, by decide +kernel⟩
theorem miX11_changesWith : MI RX11 yX11_changesWith cX11_changesWith 3 none 2 := ⟨WL_in (tb4 (List.mem_of_getElem? (i := 121) rfl)) rfl, WL_in (tb4 (List.mem_of_getElem? (i := 122) rfl)) rfl, WL_in (tb1 (List.mem_of_getElem? (i := 1) rfl)) rfl, WL_in (tb4 (List.mem_of_getElem? (i := 123) rfl)) rfl, rfl, by decide, by decide, by decide +kernel⟩
theorem msJ6_bitCount_0f7a4 : MS yJ6_bitCount_0f7a4 cJ6_bitCount_0f7a4 1 none 1 := ⟨WL_in (tb4 (List.mem_of_getElem? (i := 125) rfl)) rfl, WL_in (tb1 (List.mem_of_getElem? (i := 16) rfl)) rfl, WL_in (tb4 (List.mem_of_getElem? (i := 126) rfl)) rfl, by decide, by decide, by decide +kernel⟩
theorem miX11_fewestChanges : MI RX11 yX11_fewestChanges cX11_fewestChanges 2 none 0 := ⟨WL_in (tb4 (List.mem_of_getElem? (i := 131) rfl)) rfl, WL_in (tb4 (List.mem_of_getElem? (i := 132) rfl)) rfl, WL_in (tb1 (List.mem_of_getElem? (i := 1) rfl)) rfl, WL_in (tb4 (List.mem_of_getElem? (i := 133) rfl)) rfl, rfl, by decide, by decide, by decide +kernel⟩
theorem miX11_findBestSetting : MI RX11 yX11_findBestSetting cX11_findBestSetting 6 none 0 := ⟨WL_in (tb4 (List.mem_of_getElem? (i := 136) rfl)) rfl, WL_in (tbS (List.mem_of_getElem? (i := 27) rfl)) rfl, WL_in (tb1 (List.mem_of_getElem? (i := 1) rfl)) rfl, WL_in (tb4 (List.mem_of_getElem? (i := 137) rfl)) rfl, rfl, by decide, by decide, by decide +kernel⟩
theorem miX11_bestStep : MI RX11 yX11_bestStep cX11_bestStep 1 none 0 := ⟨WL_in (tb4 (List.mem_of_getElem? (i := 139) rfl)) rfl, WL_in (tb4 (List.mem_of_getElem? (i := 140) rfl)) rfl, WL_in (tb1 (List.mem_of_getElem? (i := 1) rfl)) rfl, WL_in (tb4 (List.mem_of_getElem? (i := 141) rfl)) rfl, rfl, by decide, by decide, by decide +kernel⟩
theorem miX11_bestBase : MI RX11 yX11_bestBase cX11_bestBase 1 none 0 := ⟨WL_in (tb4 (List.mem_of_getElem? (i := 143) rfl)) rfl, WL_in (tb4 (List.mem_of_getElem? (i := 144) rfl)) rfl, WL_in (tb1 (List.mem_of_getElem? (i := 1) rfl)) rfl, WL_in (tb4 (List.mem_of_getElem? (i := 145) rfl)) rfl, rfl, by decide, by decide, by decide +kernel⟩
theorem miX11_tokens : MI RX11 yX11_tokens cX11_tokens 2 none 1 := ⟨WL_in (tb4 (List.mem_of_getElem? (i := 147) rfl)) rfl, WL_in (tb4 (List.mem_of_getElem? (i := 148) rfl)) rfl, WL_in (tb1 (List.mem_of_getElem? (i := 1) rfl)) rfl, WL_in (tb4 (List.mem_of_getElem? (i := 149) rfl)) rfl, rfl, by decide, by decide, by decide +kernel⟩
theorem miX9_countIn : MI RX9 yX9_countIn cX9_countIn 2 none 1 := ⟨WL_in (tb4 (List.mem_of_getElem? (i := 151) rfl)) rfl, WL_in (tb4 (List.mem_of_getElem? (i := 152) rfl)) rfl, WL_in (tb1 (List.mem_of_getElem? (i := 10) rfl)) rfl, WL_in (tb4 (List.mem_of_getElem? (i := 153) rfl)) rfl, rfl, by decide, by decide, by decide +kernel⟩
theorem miX11_tokenAt : MI RX11 yX11_tokenAt cX11_tokenAt 4 none 2 := ⟨WL_in (tb4 (List.mem_of_getElem? (i := 155) rfl)) rfl, WL_in (tb4 (List.mem_of_getElem? (i := 156) rfl)) rfl, WL_in (tb1 (List.mem_of_getElem? (i := 1) rfl)) rfl, WL_in (tb4 (List.mem_of_getElem? (i := 157) rfl)) rfl, rfl, by decide, by decide, by decide +kernel⟩
theorem miX11_findToken : MI RX11 yX11_findToken cX11_findToken 4 none 2 := ⟨WL_in (tb4 (List.mem_of_getElem? (i := 160) rfl)) rfl, WL_in (tbS (List.mem_of_getElem? (i := 28) rfl)) rfl, WL_in (tb1 (List.mem_of_getElem? (i := 1) rfl)) rfl, WL_in (tb4 (List.mem_of_getElem? (i := 161) rfl)) rfl, rfl, by decide, by decide, by decide +kernel⟩
theorem miX11_tokenLength : MI RX11 yX11_tokenLength cX11_tokenLength 4 none 2 := ⟨WL_in (tb4 (List.mem_of_getElem? (i := 163) rfl)) rfl, WL_in (tb4 (List.mem_of_getElem? (i := 164) rfl)) rfl, WL_in (tb1 (List.mem_of_getElem? (i := 1) rfl)) rfl, WL_in (tb4 (List.mem_of_getElem? (i := 165) rfl)) rfl, rfl, by decide, by decide, by decide +kernel⟩
theorem miX11_tokenKind : MI RX11 yX11_tokenKind cX11_tokenKind 4 none 2 := ⟨WL_in (tb4 (List.mem_of_getElem? (i := 167) rfl)) rfl, WL_in (tb4 (List.mem_of_getElem? (i := 168) rfl)) rfl, WL_in (tb1 (List.mem_of_getElem? (i := 1) rfl)) rfl, WL_in (tb4 (List.mem_of_getElem? (i := 169) rfl)) rfl, rfl, by decide, by decide, by decide +kernel⟩
theorem miX11_openedBy : MI RX11 yX11_openedBy cX11_openedBy 4 none 2 := ⟨WL_in (tb4 (List.mem_of_getElem? (i := 171) rfl)) rfl, WL_in (tb4 (List.mem_of_getElem? (i := 172) rfl)) rfl, WL_in (tb1 (List.mem_of_getElem? (i := 1) rfl)) rfl, WL_in (tb4 (List.mem_of_getElem? (i := 173) rfl)) rfl, rfl, by decide, by decide, by decide +kernel⟩
theorem miX11_placeOf : MI RX11 yX11_placeOf cX11_placeOf 3 none 1 := ⟨WL_in (tb4 (List.mem_of_getElem? (i := 176) rfl)) rfl, WL_in (tbS (List.mem_of_getElem? (i := 29) rfl)) rfl, WL_in (tb1 (List.mem_of_getElem? (i := 1) rfl)) rfl, WL_in (tb4 (List.mem_of_getElem? (i := 177) rfl)) rfl, rfl, by decide, by decide, by decide +kernel⟩
theorem miX11_closedBy : MI RX11 yX11_closedBy cX11_closedBy 4 none 2 := ⟨WL_in (tb4 (List.mem_of_getElem? (i := 179) rfl)) rfl, WL_in (tb4 (List.mem_of_getElem? (i := 180) rfl)) rfl, WL_in (tb1 (List.mem_of_getElem? (i := 1) rfl)) rfl, WL_in (tb4 (List.mem_of_getElem? (i := 181) rfl)) rfl, rfl, by decide, by decide, by decide +kernel⟩
theorem miX11_depth : MI RX11 yX11_depth cX11_depth 2 none 1 := ⟨WL_in (tb4 (List.mem_of_getElem? (i := 183) rfl)) rfl, WL_in (tb4 (List.mem_of_getElem? (i := 184) rfl)) rfl, WL_in (tb1 (List.mem_of_getElem? (i := 1) rfl)) rfl, WL_in (tb4 (List.mem_of_getElem? (i := 185) rfl)) rfl, rfl, by decide, by decide, by decide +kernel⟩
theorem miX11_blockRule : MI RX11 yX11_blockRule cX11_blockRule 4 none 2 := ⟨WL_in (tb4 (List.mem_of_getElem? (i := 187) rfl)) rfl, WL_in (tb4 (List.mem_of_getElem? (i := 188) rfl)) rfl, WL_in (tb1 (List.mem_of_getElem? (i := 1) rfl)) rfl, WL_in (tb4 (List.mem_of_getElem? (i := 189) rfl)) rfl, rfl, by decide, by decide, by decide +kernel⟩
theorem miX11_findBlock : MI RX11 yX11_findBlock cX11_findBlock 3 none 2 := ⟨WL_in (tb4 (List.mem_of_getElem? (i := 192) rfl)) rfl, WL_in (tbS (List.mem_of_getElem? (i := 30) rfl)) rfl, WL_in (tb1 (List.mem_of_getElem? (i := 1) rfl)) rfl, WL_in (tb4 (List.mem_of_getElem? (i := 193) rfl)) rfl, rfl, by decide, by decide, by decide +kernel⟩
theorem miX11_blockOpening : MI RX11 yX11_blockOpening cX11_blockOpening 5 none 2 := ⟨WL_in (tb4 (List.mem_of_getElem? (i := 196) rfl)) rfl, WL_in (tb4 (List.mem_of_getElem? (i := 197) rfl)) rfl, WL_in (tb1 (List.mem_of_getElem? (i := 1) rfl)) rfl, WL_in (tb4 (List.mem_of_getElem? (i := 198) rfl)) rfl, rfl, by decide, by decide, by decide +kernel⟩
theorem miX11_contentColumn : MI RX11 yX11_contentColumn cX11_contentColumn 5 none 2 := ⟨WL_in (tb4 (List.mem_of_getElem? (i := 200) rfl)) rfl, WL_in (tb4 (List.mem_of_getElem? (i := 201) rfl)) rfl, WL_in (tb1 (List.mem_of_getElem? (i := 1) rfl)) rfl, WL_in (tb4 (List.mem_of_getElem? (i := 202) rfl)) rfl, rfl, by decide, by decide, by decide +kernel⟩
theorem miX11_strays : MI RX11 yX11_strays cX11_strays 1 none 0 := ⟨WL_in (tb4 (List.mem_of_getElem? (i := 205) rfl)) rfl, WL_in (tb4 (List.mem_of_getElem? (i := 206) rfl)) rfl, WL_in (tb1 (List.mem_of_getElem? (i := 1) rfl)) rfl, WL_in (tb4 (List.mem_of_getElem? (i := 207) rfl)) rfl, rfl, by decide, by decide, by decide +kernel⟩
theorem miX11_lost : MI RX11 yX11_lost cX11_lost 1 none 0 := ⟨WL_in (tb4 (List.mem_of_getElem? (i := 209) rfl)) rfl, WL_in (tb4 (List.mem_of_getElem? (i := 210) rfl)) rfl, WL_in (tb1 (List.mem_of_getElem? (i := 1) rfl)) rfl, WL_in (tb4 (List.mem_of_getElem? (i := 211) rfl)) rfl, rfl, by decide, by decide, by decide +kernel⟩
theorem miX11_vocabulary : MI RX11 yX11_vocabulary cX11_vocabulary 1 none 0 := ⟨WL_in (tb4 (List.mem_of_getElem? (i := 213) rfl)) rfl, WL_in (tb4 (List.mem_of_getElem? (i := 214) rfl)) rfl, WL_in (tb1 (List.mem_of_getElem? (i := 1) rfl)) rfl, WL_in (tb4 (List.mem_of_getElem? (i := 215) rfl)) rfl, rfl, by decide, by decide, by decide +kernel⟩
theorem miX10_count : MI RX10 yX10_count cX10_count 4 none 2 := ⟨WL_in (tb4 (List.mem_of_getElem? (i := 217) rfl)) rfl, WL_in (tb4 (List.mem_of_getElem? (i := 218) rfl)) rfl, WL_in (tb1 (List.mem_of_getElem? (i := 13) rfl)) rfl, WL_in (tb4 (List.mem_of_getElem? (i := 219) rfl)) rfl, rfl, by decide, by decide, by decide +kernel⟩
theorem miX10_countToken : MI RX10 yX10_countToken cX10_countToken 5 none 3 := ⟨WL_in (tb4 (List.mem_of_getElem? (i := 223) rfl)) rfl, WL_in (tbS (List.mem_of_getElem? (i := 31) rfl)) rfl, WL_in (tb1 (List.mem_of_getElem? (i := 13) rfl)) rfl, WL_in (tb4 (List.mem_of_getElem? (i := 224) rfl)) rfl, rfl, by decide, by decide, by decide +kernel⟩
theorem msX10_sameText : MS yX10_sameText cX10_sameText 6 none 4 := ⟨WL_in (tb4 (List.mem_of_getElem? (i := 226) rfl)) rfl, WL_in (tb1 (List.mem_of_getElem? (i := 13) rfl)) rfl, WL_in (tb4 (List.mem_of_getElem? (i := 227) rfl)) rfl, by decide, by decide, by decide +kernel⟩
theorem miX11_commonestCount : MI RX11 yX11_commonestCount cX11_commonestCount 2 none 0 := ⟨WL_in (tb4 (List.mem_of_getElem? (i := 231) rfl)) rfl, WL_in (tb4 (List.mem_of_getElem? (i := 232) rfl)) rfl, WL_in (tb1 (List.mem_of_getElem? (i := 1) rfl)) rfl, WL_in (tb4 (List.mem_of_getElem? (i := 233) rfl)) rfl, rfl, by decide, by decide, by decide +kernel⟩
theorem miX10_commonest : MI RX10 yX10_commonest cX10_commonest 3 none 0 := ⟨WL_in (tb4 (List.mem_of_getElem? (i := 235) rfl)) rfl, WL_in (tb4 (List.mem_of_getElem? (i := 236) rfl)) rfl, WL_in (tb1 (List.mem_of_getElem? (i := 13) rfl)) rfl, WL_in (tb4 (List.mem_of_getElem? (i := 237) rfl)) rfl, rfl, by decide, by decide, by decide +kernel⟩
theorem miX11_commonestByte : MI RX11 yX11_commonestByte cX11_commonestByte 4 none 1 := ⟨WL_in (tb4 (List.mem_of_getElem? (i := 239) rfl)) rfl, WL_in (tb5 (List.mem_of_getElem? (i := 0) rfl)) rfl, WL_in (tb1 (List.mem_of_getElem? (i := 1) rfl)) rfl, WL_in (tb5 (List.mem_of_getElem? (i := 1) rfl)) rfl, rfl, by decide, by decide, by decide +kernel⟩
theorem miX11_undo : MI RX11 yX11_undo cX11_undo 1 none 0 := ⟨WL_in (tb5 (List.mem_of_getElem? (i := 3) rfl)) rfl, WL_in (tb5 (List.mem_of_getElem? (i := 4) rfl)) rfl, WL_in (tb1 (List.mem_of_getElem? (i := 1) rfl)) rfl, WL_in (tb5 (List.mem_of_getElem? (i := 5) rfl)) rfl, rfl, by decide, by decide, by decide +kernel⟩
theorem miX2_takeLatest : MI RX2 yX2_takeLatest cX2_takeLatest 3 none 1 := ⟨WL_in (tb5 (List.mem_of_getElem? (i := 7) rfl)) rfl, WL_in (tb5 (List.mem_of_getElem? (i := 8) rfl)) rfl, WL_in (tb1 (List.mem_of_getElem? (i := 9) rfl)) rfl, WL_in (tb5 (List.mem_of_getElem? (i := 9) rfl)) rfl, rfl, by decide, by decide, by decide +kernel⟩
theorem miX11_keep : MI RX11 yX11_keep cX11_keep 4 none 1 := ⟨WL_in (tb5 (List.mem_of_getElem? (i := 11) rfl)) rfl, WL_in (tb5 (List.mem_of_getElem? (i := 12) rfl)) rfl, WL_in (tb1 (List.mem_of_getElem? (i := 1) rfl)) rfl, WL_in (tb5 (List.mem_of_getElem? (i := 13) rfl)) rfl, rfl, by decide, by decide, by decide +kernel⟩
theorem miX11_imageAt : MI RX11 yX11_imageAt cX11_imageAt 2 none 1 := ⟨WL_in (tb5 (List.mem_of_getElem? (i := 16) rfl)) rfl, WL_in (tbS (List.mem_of_getElem? (i := 32) rfl)) rfl, WL_in (tb1 (List.mem_of_getElem? (i := 1) rfl)) rfl, WL_in (tb5 (List.mem_of_getElem? (i := 17) rfl)) rfl, rfl, by decide, by decide, by decide +kernel⟩
theorem miX11_back : MI RX11 yX11_back cX11_back 3 none 1 := ⟨WL_in (tb5 (List.mem_of_getElem? (i := 20) rfl)) rfl, WL_in (tb5 (List.mem_of_getElem? (i := 21) rfl)) rfl, WL_in (tb1 (List.mem_of_getElem? (i := 1) rfl)) rfl, WL_in (tb5 (List.mem_of_getElem? (i := 22) rfl)) rfl, rfl, by decide, by decide, by decide +kernel⟩
theorem miX11_draw : MI RX11 yX11_draw cX11_draw 6 none 2 := ⟨WL_in (tb5 (List.mem_of_getElem? (i := 24) rfl)) rfl, WL_in (tb5 (List.mem_of_getElem? (i := 25) rfl)) rfl, WL_in (tb1 (List.mem_of_getElem? (i := 1) rfl)) rfl, WL_in (tb5 (List.mem_of_getElem? (i := 26) rfl)) rfl, rfl, by decide, by decide, by decide +kernel⟩
theorem miX11_drawLine : MI RX11 yX11_drawLine cX11_drawLine 8 none 1 := ⟨WL_in (tb5 (List.mem_of_getElem? (i := 29) rfl)) rfl, WL_in (tbS (List.mem_of_getElem? (i := 33) rfl)) rfl, WL_in (tb1 (List.mem_of_getElem? (i := 1) rfl)) rfl, WL_in (tb5 (List.mem_of_getElem? (i := 30) rfl)) rfl, rfl, by decide, by decide, by decide +kernel⟩
theorem msX11_nextSeed : MS yX11_nextSeed cX11_nextSeed 1 none 1 := ⟨WL_in (tb5 (List.mem_of_getElem? (i := 32) rfl)) rfl, WL_in (tb1 (List.mem_of_getElem? (i := 1) rfl)) rfl, WL_in (tb5 (List.mem_of_getElem? (i := 33) rfl)) rfl, by decide, by decide, by decide +kernel⟩
theorem msX11_drawnNumber : MS yX11_drawnNumber cX11_drawnNumber 1 none 1 := ⟨WL_in (tb5 (List.mem_of_getElem? (i := 36) rfl)) rfl, WL_in (tb1 (List.mem_of_getElem? (i := 1) rfl)) rfl, WL_in (tb5 (List.mem_of_getElem? (i := 37) rfl)) rfl, by decide, by decide, by decide +kernel⟩
theorem msX11_pieceText : MS yX11_pieceText cX11_pieceText 1 none 1 := ⟨WL_in (tb5 (List.mem_of_getElem? (i := 40) rfl)) rfl, WL_in (tb1 (List.mem_of_getElem? (i := 1) rfl)) rfl, WL_in (tb5 (List.mem_of_getElem? (i := 41) rfl)) rfl, by decide, by decide, by decide +kernel⟩
theorem miJ0_length_8abf5 : MI RJ0 yJ0_length_8abf5 cJ0_length_8abf5 1 none 0 := ⟨WL_in (tb5 (List.mem_of_getElem? (i := 59) rfl)) rfl, WL_in (tb5 (List.mem_of_getElem? (i := 60) rfl)) rfl, WL_in (tb1 (List.mem_of_getElem? (i := 17) rfl)) rfl, WL_in (tb5 (List.mem_of_getElem? (i := 61) rfl)) rfl, rfl, by decide, by decide, by decide +kernel⟩
theorem miJ0_coder_7d493 : MI RJ0 yJ0_coder_7d493 cJ0_coder_7d493 1 none 0 := ⟨WL_in (tb5 (List.mem_of_getElem? (i := 63) rfl)) rfl, WL_in (tb5 (List.mem_of_getElem? (i := 64) rfl)) rfl, WL_in (tb1 (List.mem_of_getElem? (i := 17) rfl)) rfl, WL_in (tb5 (List.mem_of_getElem? (i := 65) rfl)) rfl, rfl, by decide, by decide, by decide +kernel⟩
theorem miJ0_charAt_5068e : MI RJ0 yJ0_charAt_5068e cJ0_charAt_5068e 2 none 1 := ⟨WL_in (tb5 (List.mem_of_getElem? (i := 69) rfl)) rfl, WL_in (tb5 (List.mem_of_getElem? (i := 70) rfl)) rfl, WL_in (tb1 (List.mem_of_getElem? (i := 17) rfl)) rfl, WL_in (tb5 (List.mem_of_getElem? (i := 71) rfl)) rfl, rfl, by decide, by decide, by decide +kernel⟩
theorem miJ0_isLatin1_aae02 : MI RJ0 yJ0_isLatin1_aae02 cJ0_isLatin1_aae02 1 none 0 := ⟨WL_in (tb5 (List.mem_of_getElem? (i := 73) rfl)) rfl, WL_in (tb5 (List.mem_of_getElem? (i := 74) rfl)) rfl, WL_in (tb1 (List.mem_of_getElem? (i := 17) rfl)) rfl, WL_in (tb5 (List.mem_of_getElem? (i := 75) rfl)) rfl, rfl, by decide, by decide, by decide +kernel⟩
theorem msJ1_charAt_3b067 : MS yJ1_charAt_3b067 cJ1_charAt_3b067 2 none 2 := ⟨WL_in (tb5 (List.mem_of_getElem? (i := 77) rfl)) rfl, WL_in (tb1 (List.mem_of_getElem? (i := 18) rfl)) rfl, WL_in (tb5 (List.mem_of_getElem? (i := 78) rfl)) rfl, by decide, by decide, by decide +kernel⟩
theorem msJ0_checkIndex_df160 : MS yJ0_checkIndex_df160 cJ0_checkIndex_df160 2 none 2 := ⟨WL_in (tb5 (List.mem_of_getElem? (i := 80) rfl)) rfl, WL_in (tb1 (List.mem_of_getElem? (i := 17) rfl)) rfl, WL_in (tb5 (List.mem_of_getElem? (i := 81) rfl)) rfl, by decide, by decide, by decide +kernel⟩
theorem msJ3_checkIndex_8e157 : MS yJ3_checkIndex_8e157 cJ3_checkIndex_8e157 3 none 3 := ⟨WL_in (tb5 (List.mem_of_getElem? (i := 85) rfl)) rfl, WL_in (tb1 (List.mem_of_getElem? (i := 19) rfl)) rfl, WL_in (tb5 (List.mem_of_getElem? (i := 86) rfl)) rfl, by decide, by decide, by decide +kernel⟩
theorem msJ2_charAt_3b067 : MS yJ2_charAt_3b067 cJ2_charAt_3b067 2 none 2 := ⟨WL_in (tb5 (List.mem_of_getElem? (i := 88) rfl)) rfl, WL_in (tb1 (List.mem_of_getElem? (i := 20) rfl)) rfl, WL_in (tb5 (List.mem_of_getElem? (i := 89) rfl)) rfl, by decide, by decide, by decide +kernel⟩
theorem msJ2_checkIndex_2214a : MS yJ2_checkIndex_2214a cJ2_checkIndex_2214a 2 none 2 := ⟨WL_in (tb5 (List.mem_of_getElem? (i := 91) rfl)) rfl, WL_in (tb1 (List.mem_of_getElem? (i := 20) rfl)) rfl, WL_in (tb5 (List.mem_of_getElem? (i := 92) rfl)) rfl, by decide, by decide, by decide +kernel⟩
theorem msJ2_length_9d52b : MS yJ2_length_9d52b cJ2_length_9d52b 1 none 1 := ⟨WL_in (tb5 (List.mem_of_getElem? (i := 94) rfl)) rfl, WL_in (tb1 (List.mem_of_getElem? (i := 20) rfl)) rfl, WL_in (tb5 (List.mem_of_getElem? (i := 95) rfl)) rfl, by decide, by decide, by decide +kernel⟩
theorem msJ2_getChar_3b067 : MS yJ2_getChar_3b067 cJ2_getChar_3b067 2 none 2 := ⟨WL_in (tb5 (List.mem_of_getElem? (i := 98) rfl)) rfl, WL_in (tb1 (List.mem_of_getElem? (i := 20) rfl)) rfl, WL_in (tb5 (List.mem_of_getElem? (i := 99) rfl)) rfl, by decide, by decide, by decide +kernel⟩
theorem miX11_digest : MI RX11 yX11_digest cX11_digest 4 none 0 := ⟨WL_in (tb5 (List.mem_of_getElem? (i := 108) rfl)) rfl, WL_in (tb5 (List.mem_of_getElem? (i := 109) rfl)) rfl, WL_in (tb1 (List.mem_of_getElem? (i := 1) rfl)) rfl, WL_in (tb5 (List.mem_of_getElem? (i := 110) rfl)) rfl, rfl, by decide, by decide, by decide +kernel⟩
theorem msX11_mix : MS yX11_mix cX11_mix 3 none 2 := ⟨WL_in (tb5 (List.mem_of_getElem? (i := 113) rfl)) rfl, WL_in (tb1 (List.mem_of_getElem? (i := 1) rfl)) rfl, WL_in (tb5 (List.mem_of_getElem? (i := 114) rfl)) rfl, by decide, by decide, by decide +kernel⟩
theorem miX11_mixLine : MI RX11 yX11_mixLine cX11_mixLine 8 none 2 := ⟨WL_in (tb5 (List.mem_of_getElem? (i := 118) rfl)) rfl, WL_in (tbS (List.mem_of_getElem? (i := 34) rfl)) rfl, WL_in (tb1 (List.mem_of_getElem? (i := 1) rfl)) rfl, WL_in (tb5 (List.mem_of_getElem? (i := 119) rfl)) rfl, rfl, by decide, by decide, by decide +kernel⟩
theorem miX7_mixRule : MI RX7 yX7_mixRule cX7_mixRule 7 none 2 := ⟨WL_in (tb5 (List.mem_of_getElem? (i := 121) rfl)) rfl, WL_in (tb5 (List.mem_of_getElem? (i := 122) rfl)) rfl, WL_in (tb1 (List.mem_of_getElem? (i := 6) rfl)) rfl, WL_in (tb5 (List.mem_of_getElem? (i := 123) rfl)) rfl, rfl, by decide, by decide, by decide +kernel⟩
theorem miX7_mixText : MI RX7 yX7_mixText cX7_mixText 7 none 2 := ⟨WL_in (tb5 (List.mem_of_getElem? (i := 127) rfl)) rfl, WL_in (tbS (List.mem_of_getElem? (i := 35) rfl)) rfl, WL_in (tb1 (List.mem_of_getElem? (i := 6) rfl)) rfl, WL_in (tb5 (List.mem_of_getElem? (i := 128) rfl)) rfl, rfl, by decide, by decide, by decide +kernel⟩
theorem miX12_type : MI RX12 yX12_type cX12_type 2 none 1 := ⟨WL_in (tb6 (List.mem_of_getElem? (i := 21) rfl)) rfl, WL_in (tb6 (List.mem_of_getElem? (i := 22) rfl)) rfl, WL_in (tb1 (List.mem_of_getElem? (i := 14) rfl)) rfl, WL_in (tb6 (List.mem_of_getElem? (i := 23) rfl)) rfl, rfl, by decide, by decide, by decide +kernel⟩
theorem msX12_in : MS yX12_in cX12_in 3 none 3 := ⟨WL_in (tb6 (List.mem_of_getElem? (i := 25) rfl)) rfl, WL_in (tb1 (List.mem_of_getElem? (i := 14) rfl)) rfl, WL_in (tb6 (List.mem_of_getElem? (i := 26) rfl)) rfl, by decide, by decide, by decide +kernel⟩
theorem miX12_clear : MI RX12 yX12_clear cX12_clear 2 none 0 := ⟨WL_in (tb6 (List.mem_of_getElem? (i := 28) rfl)) rfl, WL_in (tb6 (List.mem_of_getElem? (i := 29) rfl)) rfl, WL_in (tb1 (List.mem_of_getElem? (i := 14) rfl)) rfl, WL_in (tb6 (List.mem_of_getElem? (i := 30) rfl)) rfl, rfl, by decide, by decide, by decide +kernel⟩
theorem miX12_insertLine : MI RX12 yX12_insertLine cX12_insertLine 2 none 1 := ⟨WL_in (tb6 (List.mem_of_getElem? (i := 32) rfl)) rfl, WL_in (tb6 (List.mem_of_getElem? (i := 33) rfl)) rfl, WL_in (tb1 (List.mem_of_getElem? (i := 14) rfl)) rfl, WL_in (tb6 (List.mem_of_getElem? (i := 34) rfl)) rfl, rfl, by decide, by decide, by decide +kernel⟩
theorem miX12_isLineText : MI RX12 yX12_isLineText cX12_isLineText 1 none 0 := ⟨WL_in (tb6 (List.mem_of_getElem? (i := 37) rfl)) rfl, WL_in (tbS (List.mem_of_getElem? (i := 36) rfl)) rfl, WL_in (tb1 (List.mem_of_getElem? (i := 14) rfl)) rfl, WL_in (tb6 (List.mem_of_getElem? (i := 38) rfl)) rfl, rfl, by decide, by decide, by decide +kernel⟩
theorem miX12_begins : MI RX12 yX12_begins cX12_begins 2 none 0 := ⟨WL_in (tb6 (List.mem_of_getElem? (i := 41) rfl)) rfl, WL_in (tbS (List.mem_of_getElem? (i := 37) rfl)) rfl, WL_in (tb1 (List.mem_of_getElem? (i := 14) rfl)) rfl, WL_in (tb6 (List.mem_of_getElem? (i := 42) rfl)) rfl, rfl, by decide, by decide, by decide +kernel⟩
theorem miX12_copies : MI RX12 yX12_copies cX12_copies 4 none 2 := ⟨WL_in (tb6 (List.mem_of_getElem? (i := 45) rfl)) rfl, WL_in (tbS (List.mem_of_getElem? (i := 38) rfl)) rfl, WL_in (tb1 (List.mem_of_getElem? (i := 14) rfl)) rfl, WL_in (tb6 (List.mem_of_getElem? (i := 46) rfl)) rfl, rfl, by decide, by decide, by decide +kernel⟩
theorem miX12_parts : MI RX12 yX12_parts cX12_parts 3 none 1 := ⟨WL_in (tb6 (List.mem_of_getElem? (i := 49) rfl)) rfl, WL_in (tbS (List.mem_of_getElem? (i := 39) rfl)) rfl, WL_in (tb1 (List.mem_of_getElem? (i := 14) rfl)) rfl, WL_in (tb6 (List.mem_of_getElem? (i := 50) rfl)) rfl, rfl, by decide, by decide, by decide +kernel⟩
theorem miX12_copiesLine : MI RX12 yX12_copiesLine cX12_copiesLine 4 none 2 := ⟨WL_in (tb6 (List.mem_of_getElem? (i := 53) rfl)) rfl, WL_in (tbS (List.mem_of_getElem? (i := 40) rfl)) rfl, WL_in (tb1 (List.mem_of_getElem? (i := 14) rfl)) rfl, WL_in (tb6 (List.mem_of_getElem? (i := 54) rfl)) rfl, rfl, by decide, by decide, by decide +kernel⟩
theorem miX12_writes : MI RX12 yX12_writes cX12_writes 3 none 1 := ⟨WL_in (tb6 (List.mem_of_getElem? (i := 57) rfl)) rfl, WL_in (tbS (List.mem_of_getElem? (i := 41) rfl)) rfl, WL_in (tb1 (List.mem_of_getElem? (i := 14) rfl)) rfl, WL_in (tb6 (List.mem_of_getElem? (i := 58) rfl)) rfl, rfl, by decide, by decide, by decide +kernel⟩
theorem miX12_replaceLine : MI RX12 yX12_replaceLine cX12_replaceLine 3 none 1 := ⟨WL_in (tb6 (List.mem_of_getElem? (i := 60) rfl)) rfl, WL_in (tb6 (List.mem_of_getElem? (i := 61) rfl)) rfl, WL_in (tb1 (List.mem_of_getElem? (i := 14) rfl)) rfl, WL_in (tb6 (List.mem_of_getElem? (i := 62) rfl)) rfl, rfl, by decide, by decide, by decide +kernel⟩
theorem miX12_isLine : MI RX12 yX12_isLine cX12_isLine 2 none 1 := ⟨WL_in (tb6 (List.mem_of_getElem? (i := 65) rfl)) rfl, WL_in (tbS (List.mem_of_getElem? (i := 42) rfl)) rfl, WL_in (tb1 (List.mem_of_getElem? (i := 14) rfl)) rfl, WL_in (tb6 (List.mem_of_getElem? (i := 66) rfl)) rfl, rfl, by decide, by decide, by decide +kernel⟩
theorem miX12_removeLine : MI RX12 yX12_removeLine cX12_removeLine 2 none 1 := ⟨WL_in (tb6 (List.mem_of_getElem? (i := 68) rfl)) rfl, WL_in (tb6 (List.mem_of_getElem? (i := 69) rfl)) rfl, WL_in (tb1 (List.mem_of_getElem? (i := 14) rfl)) rfl, WL_in (tb6 (List.mem_of_getElem? (i := 70) rfl)) rfl, rfl, by decide, by decide, by decide +kernel⟩
theorem miX12_drops : MI RX12 yX12_drops cX12_drops 3 none 1 := ⟨WL_in (tb6 (List.mem_of_getElem? (i := 73) rfl)) rfl, WL_in (tbS (List.mem_of_getElem? (i := 43) rfl)) rfl, WL_in (tb1 (List.mem_of_getElem? (i := 14) rfl)) rfl, WL_in (tb6 (List.mem_of_getElem? (i := 74) rfl)) rfl, rfl, by decide, by decide, by decide +kernel⟩
theorem miX12_splitLine : MI RX12 yX12_splitLine cX12_splitLine 6 none 2 := ⟨WL_in (tb6 (List.mem_of_getElem? (i := 76) rfl)) rfl, WL_in (tb6 (List.mem_of_getElem? (i := 77) rfl)) rfl, WL_in (tb1 (List.mem_of_getElem? (i := 14) rfl)) rfl, WL_in (tb6 (List.mem_of_getElem? (i := 78) rfl)) rfl, rfl, by decide, by decide, by decide +kernel⟩
theorem miX12_contentAt : MI RX12 yX12_contentAt cX12_contentAt 3 none 2 := ⟨WL_in (tb6 (List.mem_of_getElem? (i := 81) rfl)) rfl, WL_in (tbS (List.mem_of_getElem? (i := 44) rfl)) rfl, WL_in (tb1 (List.mem_of_getElem? (i := 14) rfl)) rfl, WL_in (tb6 (List.mem_of_getElem? (i := 82) rfl)) rfl, rfl, by decide, by decide, by decide +kernel⟩
theorem miX12_uses : MI RX12 yX12_uses cX12_uses 4 none 2 := ⟨WL_in (tb6 (List.mem_of_getElem? (i := 85) rfl)) rfl, WL_in (tbS (List.mem_of_getElem? (i := 45) rfl)) rfl, WL_in (tb1 (List.mem_of_getElem? (i := 14) rfl)) rfl, WL_in (tb6 (List.mem_of_getElem? (i := 86) rfl)) rfl, rfl, by decide, by decide, by decide +kernel⟩
theorem miX12_looks : MI RX12 yX12_looks cX12_looks 4 none 0 := ⟨WL_in (tb6 (List.mem_of_getElem? (i := 89) rfl)) rfl, WL_in (tbS (List.mem_of_getElem? (i := 46) rfl)) rfl, WL_in (tb1 (List.mem_of_getElem? (i := 14) rfl)) rfl, WL_in (tb6 (List.mem_of_getElem? (i := 90) rfl)) rfl, rfl, by decide, by decide, by decide +kernel⟩
theorem miX12_tokenizes : MI RX12 yX12_tokenizes cX12_tokenizes 4 none 0 := ⟨WL_in (tb6 (List.mem_of_getElem? (i := 93) rfl)) rfl, WL_in (tbS (List.mem_of_getElem? (i := 47) rfl)) rfl, WL_in (tb1 (List.mem_of_getElem? (i := 14) rfl)) rfl, WL_in (tb6 (List.mem_of_getElem? (i := 94) rfl)) rfl, rfl, by decide, by decide, by decide +kernel⟩
theorem miX12_isBlank : MI RX12 yX12_isBlank cX12_isBlank 2 none 1 := ⟨WL_in (tb6 (List.mem_of_getElem? (i := 97) rfl)) rfl, WL_in (tbS (List.mem_of_getElem? (i := 48) rfl)) rfl, WL_in (tb1 (List.mem_of_getElem? (i := 14) rfl)) rfl, WL_in (tb6 (List.mem_of_getElem? (i := 98) rfl)) rfl, rfl, by decide, by decide, by decide +kernel⟩
theorem miX12_endOfLiteral : MI RX12 yX12_endOfLiteral cX12_endOfLiteral 4 none 2 := ⟨WL_in (tb6 (List.mem_of_getElem? (i := 101) rfl)) rfl, WL_in (tbS (List.mem_of_getElem? (i := 49) rfl)) rfl, WL_in (tb1 (List.mem_of_getElem? (i := 14) rfl)) rfl, WL_in (tb6 (List.mem_of_getElem? (i := 102) rfl)) rfl, rfl, by decide, by decide, by decide +kernel⟩
theorem miX12_isTriple : MI RX12 yX12_isTriple cX12_isTriple 3 none 2 := ⟨WL_in (tb6 (List.mem_of_getElem? (i := 105) rfl)) rfl, WL_in (tbS (List.mem_of_getElem? (i := 50) rfl)) rfl, WL_in (tb1 (List.mem_of_getElem? (i := 14) rfl)) rfl, WL_in (tb6 (List.mem_of_getElem? (i := 106) rfl)) rfl, rfl, by decide, by decide, by decide +kernel⟩
theorem miX12_divides : MI RX12 yX12_divides cX12_divides 6 none 2 := ⟨WL_in (tb6 (List.mem_of_getElem? (i := 109) rfl)) rfl, WL_in (tbS (List.mem_of_getElem? (i := 51) rfl)) rfl, WL_in (tb1 (List.mem_of_getElem? (i := 14) rfl)) rfl, WL_in (tb6 (List.mem_of_getElem? (i := 110) rfl)) rfl, rfl, by decide, by decide, by decide +kernel⟩
theorem miX12_adds : MI RX12 yX12_adds cX12_adds 5 none 4 := ⟨WL_in (tb6 (List.mem_of_getElem? (i := 113) rfl)) rfl, WL_in (tbS (List.mem_of_getElem? (i := 52) rfl)) rfl, WL_in (tb1 (List.mem_of_getElem? (i := 14) rfl)) rfl, WL_in (tb6 (List.mem_of_getElem? (i := 114) rfl)) rfl, rfl, by decide, by decide, by decide +kernel⟩
theorem miX12_endOfString : MI RX12 yX12_endOfString cX12_endOfString 4 none 2 := ⟨WL_in (tb6 (List.mem_of_getElem? (i := 117) rfl)) rfl, WL_in (tbS (List.mem_of_getElem? (i := 53) rfl)) rfl, WL_in (tb1 (List.mem_of_getElem? (i := 14) rfl)) rfl, WL_in (tb6 (List.mem_of_getElem? (i := 118) rfl)) rfl, rfl, by decide, by decide, by decide +kernel⟩
theorem msX12_least : MS yX12_least cX12_least 2 none 2 := ⟨WL_in (tb6 (List.mem_of_getElem? (i := 120) rfl)) rfl, WL_in (tb1 (List.mem_of_getElem? (i := 14) rfl)) rfl, WL_in (tb6 (List.mem_of_getElem? (i := 121) rfl)) rfl, by decide, by decide, by decide +kernel⟩
theorem msX12_isWord : MS yX12_isWord cX12_isWord 1 none 1 := ⟨WL_in (tb6 (List.mem_of_getElem? (i := 123) rfl)) rfl, WL_in (tb1 (List.mem_of_getElem? (i := 14) rfl)) rfl, WL_in (tb6 (List.mem_of_getElem? (i := 124) rfl)) rfl, by decide, by decide, by decide +kernel⟩
theorem miX12_endOfWord : MI RX12 yX12_endOfWord cX12_endOfWord 4 none 2 := ⟨WL_in (tb6 (List.mem_of_getElem? (i := 127) rfl)) rfl, WL_in (tbS (List.mem_of_getElem? (i := 54) rfl)) rfl, WL_in (tb1 (List.mem_of_getElem? (i := 14) rfl)) rfl, WL_in (tb6 (List.mem_of_getElem? (i := 128) rfl)) rfl, rfl, by decide, by decide, by decide +kernel⟩
theorem miX12_notes : MI RX12 yX12_notes cX12_notes 3 none 1 := ⟨WL_in (tb6 (List.mem_of_getElem? (i := 131) rfl)) rfl, WL_in (tbS (List.mem_of_getElem? (i := 55) rfl)) rfl, WL_in (tb1 (List.mem_of_getElem? (i := 14) rfl)) rfl, WL_in (tb6 (List.mem_of_getElem? (i := 132) rfl)) rfl, rfl, by decide, by decide, by decide +kernel⟩
theorem miX12_shuts : MI RX12 yX12_shuts cX12_shuts 5 none 1 := ⟨WL_in (tb6 (List.mem_of_getElem? (i := 135) rfl)) rfl, WL_in (tbS (List.mem_of_getElem? (i := 56) rfl)) rfl, WL_in (tb1 (List.mem_of_getElem? (i := 14) rfl)) rfl, WL_in (tb6 (List.mem_of_getElem? (i := 136) rfl)) rfl, rfl, by decide, by decide, by decide +kernel⟩
theorem miX12_hasText : MI RX12 yX12_hasText cX12_hasText 7 none 3 := ⟨WL_in (tb6 (List.mem_of_getElem? (i := 139) rfl)) rfl, WL_in (tbS (List.mem_of_getElem? (i := 57) rfl)) rfl, WL_in (tb1 (List.mem_of_getElem? (i := 14) rfl)) rfl, WL_in (tb6 (List.mem_of_getElem? (i := 140) rfl)) rfl, rfl, by decide, by decide, by decide +kernel⟩
theorem miX12_ruleAt : MI RX12 yX12_ruleAt cX12_ruleAt 3 none 2 := ⟨WL_in (tb6 (List.mem_of_getElem? (i := 143) rfl)) rfl, WL_in (tbS (List.mem_of_getElem? (i := 58) rfl)) rfl, WL_in (tb1 (List.mem_of_getElem? (i := 14) rfl)) rfl, WL_in (tb6 (List.mem_of_getElem? (i := 144) rfl)) rfl, rfl, by decide, by decide, by decide +kernel⟩
theorem miX12_isClosingText : MI RX12 yX12_isClosingText cX12_isClosingText 4 none 1 := ⟨WL_in (tb6 (List.mem_of_getElem? (i := 147) rfl)) rfl, WL_in (tbS (List.mem_of_getElem? (i := 59) rfl)) rfl, WL_in (tb1 (List.mem_of_getElem? (i := 14) rfl)) rfl, WL_in (tb6 (List.mem_of_getElem? (i := 148) rfl)) rfl, rfl, by decide, by decide, by decide +kernel⟩
theorem miX12_ruleFor : MI RX12 yX12_ruleFor cX12_ruleFor 6 none 2 := ⟨WL_in (tb6 (List.mem_of_getElem? (i := 151) rfl)) rfl, WL_in (tbS (List.mem_of_getElem? (i := 60) rfl)) rfl, WL_in (tb1 (List.mem_of_getElem? (i := 14) rfl)) rfl, WL_in (tb6 (List.mem_of_getElem? (i := 152) rfl)) rfl, rfl, by decide, by decide, by decide +kernel⟩
theorem miX12_isFree : MI RX12 yX12_isFree cX12_isFree 2 none 1 := ⟨WL_in (tb6 (List.mem_of_getElem? (i := 155) rfl)) rfl, WL_in (tbS (List.mem_of_getElem? (i := 61) rfl)) rfl, WL_in (tb1 (List.mem_of_getElem? (i := 14) rfl)) rfl, WL_in (tb6 (List.mem_of_getElem? (i := 156) rfl)) rfl, rfl, by decide, by decide, by decide +kernel⟩
theorem miX12_decides : MI RX12 yX12_decides cX12_decides 11 none 1 := ⟨WL_in (tb6 (List.mem_of_getElem? (i := 159) rfl)) rfl, WL_in (tbS (List.mem_of_getElem? (i := 62) rfl)) rfl, WL_in (tb1 (List.mem_of_getElem? (i := 14) rfl)) rfl, WL_in (tb6 (List.mem_of_getElem? (i := 160) rfl)) rfl, rfl, by decide, by decide, by decide +kernel⟩
theorem miX12_columnIn : MI RX12 yX12_columnIn cX12_columnIn 2 none 1 := ⟨WL_in (tb6 (List.mem_of_getElem? (i := 163) rfl)) rfl, WL_in (tbS (List.mem_of_getElem? (i := 63) rfl)) rfl, WL_in (tb1 (List.mem_of_getElem? (i := 14) rfl)) rfl, WL_in (tb6 (List.mem_of_getElem? (i := 164) rfl)) rfl, rfl, by decide, by decide, by decide +kernel⟩
theorem miX12_isAligned : MI RX12 yX12_isAligned cX12_isAligned 2 none 1 := ⟨WL_in (tb6 (List.mem_of_getElem? (i := 167) rfl)) rfl, WL_in (tbS (List.mem_of_getElem? (i := 64) rfl)) rfl, WL_in (tb1 (List.mem_of_getElem? (i := 14) rfl)) rfl, WL_in (tb6 (List.mem_of_getElem? (i := 168) rfl)) rfl, rfl, by decide, by decide, by decide +kernel⟩
theorem miX12_columnOf : MI RX12 yX12_columnOf cX12_columnOf 2 none 1 := ⟨WL_in (tb6 (List.mem_of_getElem? (i := 171) rfl)) rfl, WL_in (tbS (List.mem_of_getElem? (i := 65) rfl)) rfl, WL_in (tb1 (List.mem_of_getElem? (i := 14) rfl)) rfl, WL_in (tb6 (List.mem_of_getElem? (i := 172) rfl)) rfl, rfl, by decide, by decide, by decide +kernel⟩
theorem miX12_offers : MI RX12 yX12_offers cX12_offers 5 none 4 := ⟨WL_in (tb6 (List.mem_of_getElem? (i := 175) rfl)) rfl, WL_in (tbS (List.mem_of_getElem? (i := 66) rfl)) rfl, WL_in (tb1 (List.mem_of_getElem? (i := 14) rfl)) rfl, WL_in (tb6 (List.mem_of_getElem? (i := 176) rfl)) rfl, rfl, by decide, by decide, by decide +kernel⟩
theorem miX12_joinLines : MI RX12 yX12_joinLines cX12_joinLines 6 none 1 := ⟨WL_in (tb6 (List.mem_of_getElem? (i := 178) rfl)) rfl, WL_in (tb6 (List.mem_of_getElem? (i := 179) rfl)) rfl, WL_in (tb1 (List.mem_of_getElem? (i := 14) rfl)) rfl, WL_in (tb6 (List.mem_of_getElem? (i := 180) rfl)) rfl, rfl, by decide, by decide, by decide +kernel⟩
theorem miX12_shift : MI RX12 yX12_shift cX12_shift 6 none 3 := ⟨WL_in (tb6 (List.mem_of_getElem? (i := 182) rfl)) rfl, WL_in (tb6 (List.mem_of_getElem? (i := 183) rfl)) rfl, WL_in (tb1 (List.mem_of_getElem? (i := 14) rfl)) rfl, WL_in (tb6 (List.mem_of_getElem? (i := 184) rfl)) rfl, rfl, by decide, by decide, by decide +kernel⟩
theorem miX12_isRange : MI RX12 yX12_isRange cX12_isRange 3 none 2 := ⟨WL_in (tb6 (List.mem_of_getElem? (i := 187) rfl)) rfl, WL_in (tbS (List.mem_of_getElem? (i := 67) rfl)) rfl, WL_in (tb1 (List.mem_of_getElem? (i := 14) rfl)) rfl, WL_in (tb6 (List.mem_of_getElem? (i := 188) rfl)) rfl, rfl, by decide, by decide, by decide +kernel⟩
theorem miX12_pin : MI RX12 yX12_pin cX12_pin 2 none 1 := ⟨WL_in (tb6 (List.mem_of_getElem? (i := 190) rfl)) rfl, WL_in (tb6 (List.mem_of_getElem? (i := 191) rfl)) rfl, WL_in (tb1 (List.mem_of_getElem? (i := 14) rfl)) rfl, WL_in (tb6 (List.mem_of_getElem? (i := 192) rfl)) rfl, rfl, by decide, by decide, by decide +kernel⟩
theorem miX12_reindent : MI RX12 yX12_reindent cX12_reindent 5 none 2 := ⟨WL_in (tb6 (List.mem_of_getElem? (i := 194) rfl)) rfl, WL_in (tb6 (List.mem_of_getElem? (i := 195) rfl)) rfl, WL_in (tb1 (List.mem_of_getElem? (i := 14) rfl)) rfl, WL_in (tb6 (List.mem_of_getElem? (i := 196) rfl)) rfl, rfl, by decide, by decide, by decide +kernel⟩
theorem miX12_settles : MI RX12 yX12_settles cX12_settles 5 none 2 := ⟨WL_in (tb6 (List.mem_of_getElem? (i := 199) rfl)) rfl, WL_in (tbS (List.mem_of_getElem? (i := 68) rfl)) rfl, WL_in (tb1 (List.mem_of_getElem? (i := 14) rfl)) rfl, WL_in (tb6 (List.mem_of_getElem? (i := 200) rfl)) rfl, rfl, by decide, by decide, by decide +kernel⟩
theorem msX12_bits : MS yX12_bits cX12_bits 3 none 1 := ⟨WL_in (tb6 (List.mem_of_getElem? (i := 202) rfl)) rfl, WL_in (tb1 (List.mem_of_getElem? (i := 14) rfl)) rfl, WL_in (tb6 (List.mem_of_getElem? (i := 203) rfl)) rfl, by decide, by decide, by decide +kernel⟩
theorem miX12_lines : MI RX12 yX12_lines cX12_lines 1 none 0 := ⟨WL_in (tb6 (List.mem_of_getElem? (i := 205) rfl)) rfl, WL_in (tb6 (List.mem_of_getElem? (i := 206) rfl)) rfl, WL_in (tb1 (List.mem_of_getElem? (i := 14) rfl)) rfl, WL_in (tb6 (List.mem_of_getElem? (i := 207) rfl)) rfl, rfl, by decide, by decide, by decide +kernel⟩
theorem miX12_indentation : MI RX12 yX12_indentation cX12_indentation 2 none 1 := ⟨WL_in (tb6 (List.mem_of_getElem? (i := 209) rfl)) rfl, WL_in (tb6 (List.mem_of_getElem? (i := 210) rfl)) rfl, WL_in (tb1 (List.mem_of_getElem? (i := 14) rfl)) rfl, WL_in (tb6 (List.mem_of_getElem? (i := 211) rfl)) rfl, rfl, by decide, by decide, by decide +kernel⟩
theorem miX12_length : MI RX12 yX12_length cX12_length 2 none 1 := ⟨WL_in (tb6 (List.mem_of_getElem? (i := 213) rfl)) rfl, WL_in (tb6 (List.mem_of_getElem? (i := 214) rfl)) rfl, WL_in (tb1 (List.mem_of_getElem? (i := 14) rfl)) rfl, WL_in (tb6 (List.mem_of_getElem? (i := 215) rfl)) rfl, rfl, by decide, by decide, by decide +kernel⟩
theorem miX12_byteAt : MI RX12 yX12_byteAt cX12_byteAt 3 none 2 := ⟨WL_in (tb6 (List.mem_of_getElem? (i := 217) rfl)) rfl, WL_in (tb6 (List.mem_of_getElem? (i := 218) rfl)) rfl, WL_in (tb1 (List.mem_of_getElem? (i := 14) rfl)) rfl, WL_in (tb6 (List.mem_of_getElem? (i := 219) rfl)) rfl, rfl, by decide, by decide, by decide +kernel⟩
theorem miX12_isProtected : MI RX12 yX12_isProtected cX12_isProtected 2 none 1 := ⟨WL_in (tb6 (List.mem_of_getElem? (i := 221) rfl)) rfl, WL_in (tb6 (List.mem_of_getElem? (i := 222) rfl)) rfl, WL_in (tb1 (List.mem_of_getElem? (i := 14) rfl)) rfl, WL_in (tb6 (List.mem_of_getElem? (i := 223) rfl)) rfl, rfl, by decide, by decide, by decide +kernel⟩
theorem miX12_isPinned : MI RX12 yX12_isPinned cX12_isPinned 2 none 1 := ⟨WL_in (tb6 (List.mem_of_getElem? (i := 225) rfl)) rfl, WL_in (tb6 (List.mem_of_getElem? (i := 226) rfl)) rfl, WL_in (tb1 (List.mem_of_getElem? (i := 14) rfl)) rfl, WL_in (tb6 (List.mem_of_getElem? (i := 227) rfl)) rfl, rfl, by decide, by decide, by decide +kernel⟩
theorem miX12_setStep : MI RX12 yX12_setStep cX12_setStep 2 none 1 := ⟨WL_in (tb6 (List.mem_of_getElem? (i := 229) rfl)) rfl, WL_in (tb6 (List.mem_of_getElem? (i := 230) rfl)) rfl, WL_in (tb1 (List.mem_of_getElem? (i := 14) rfl)) rfl, WL_in (tb6 (List.mem_of_getElem? (i := 231) rfl)) rfl, rfl, by decide, by decide, by decide +kernel⟩
theorem miX12_sets : MI RX12 yX12_sets cX12_sets 4 none 2 := ⟨WL_in (tb6 (List.mem_of_getElem? (i := 234) rfl)) rfl, WL_in (tbS (List.mem_of_getElem? (i := 69) rfl)) rfl, WL_in (tb1 (List.mem_of_getElem? (i := 14) rfl)) rfl, WL_in (tb6 (List.mem_of_getElem? (i := 235) rfl)) rfl, rfl, by decide, by decide, by decide +kernel⟩
theorem miX12_setBase : MI RX12 yX12_setBase cX12_setBase 2 none 1 := ⟨WL_in (tb6 (List.mem_of_getElem? (i := 237) rfl)) rfl, WL_in (tb6 (List.mem_of_getElem? (i := 238) rfl)) rfl, WL_in (tb1 (List.mem_of_getElem? (i := 14) rfl)) rfl, WL_in (tb6 (List.mem_of_getElem? (i := 239) rfl)) rfl, rfl, by decide, by decide, by decide +kernel⟩
theorem miX12_setComment : MI RX12 yX12_setComment cX12_setComment 2 none 1 := ⟨WL_in (tb7 (List.mem_of_getElem? (i := 1) rfl)) rfl, WL_in (tb7 (List.mem_of_getElem? (i := 2) rfl)) rfl, WL_in (tb1 (List.mem_of_getElem? (i := 14) rfl)) rfl, WL_in (tb7 (List.mem_of_getElem? (i := 3) rfl)) rfl, rfl, by decide, by decide, by decide +kernel⟩
theorem miX12_pair : MI RX12 yX12_pair cX12_pair 7 none 5 := ⟨WL_in (tb7 (List.mem_of_getElem? (i := 5) rfl)) rfl, WL_in (tb7 (List.mem_of_getElem? (i := 6) rfl)) rfl, WL_in (tb1 (List.mem_of_getElem? (i := 14) rfl)) rfl, WL_in (tb7 (List.mem_of_getElem? (i := 7) rfl)) rfl, rfl, by decide, by decide, by decide +kernel⟩
theorem msX12_isRule : MS yX12_isRule cX12_isRule 2 none 2 := ⟨WL_in (tb7 (List.mem_of_getElem? (i := 9) rfl)) rfl, WL_in (tb1 (List.mem_of_getElem? (i := 14) rfl)) rfl, WL_in (tb7 (List.mem_of_getElem? (i := 10) rfl)) rfl, by decide, by decide, by decide +kernel⟩
theorem miX12_makes : MI RX12 yX12_makes cX12_makes 10 none 6 := ⟨WL_in (tb7 (List.mem_of_getElem? (i := 13) rfl)) rfl, WL_in (tbS (List.mem_of_getElem? (i := 70) rfl)) rfl, WL_in (tb1 (List.mem_of_getElem? (i := 14) rfl)) rfl, WL_in (tb7 (List.mem_of_getElem? (i := 14) rfl)) rfl, rfl, by decide, by decide, by decide +kernel⟩
theorem miX12_readsTexts : MI RX12 yX12_readsTexts cX12_readsTexts 4 none 1 := ⟨WL_in (tb7 (List.mem_of_getElem? (i := 17) rfl)) rfl, WL_in (tbS (List.mem_of_getElem? (i := 71) rfl)) rfl, WL_in (tb1 (List.mem_of_getElem? (i := 14) rfl)) rfl, WL_in (tb7 (List.mem_of_getElem? (i := 18) rfl)) rfl, rfl, by decide, by decide, by decide +kernel⟩
theorem miX12_readsOne : MI RX12 yX12_readsOne cX12_readsOne 3 none 1 := ⟨WL_in (tb7 (List.mem_of_getElem? (i := 21) rfl)) rfl, WL_in (tbS (List.mem_of_getElem? (i := 72) rfl)) rfl, WL_in (tb1 (List.mem_of_getElem? (i := 14) rfl)) rfl, WL_in (tb7 (List.mem_of_getElem? (i := 22) rfl)) rfl, rfl, by decide, by decide, by decide +kernel⟩
theorem miX12_skips : MI RX12 yX12_skips cX12_skips 1 none 0 := ⟨WL_in (tb7 (List.mem_of_getElem? (i := 25) rfl)) rfl, WL_in (tbS (List.mem_of_getElem? (i := 73) rfl)) rfl, WL_in (tb1 (List.mem_of_getElem? (i := 14) rfl)) rfl, WL_in (tb7 (List.mem_of_getElem? (i := 26) rfl)) rfl, rfl, by decide, by decide, by decide +kernel⟩
theorem miX12_writesText : MI RX12 yX12_writesText cX12_writesText 4 none 2 := ⟨WL_in (tb7 (List.mem_of_getElem? (i := 29) rfl)) rfl, WL_in (tbS (List.mem_of_getElem? (i := 74) rfl)) rfl, WL_in (tb1 (List.mem_of_getElem? (i := 14) rfl)) rfl, WL_in (tb7 (List.mem_of_getElem? (i := 30) rfl)) rfl, rfl, by decide, by decide, by decide +kernel⟩
theorem miX12_starter : MI RX12 yX12_starter cX12_starter 4 none 3 := ⟨WL_in (tb7 (List.mem_of_getElem? (i := 32) rfl)) rfl, WL_in (tb7 (List.mem_of_getElem? (i := 33) rfl)) rfl, WL_in (tb1 (List.mem_of_getElem? (i := 14) rfl)) rfl, WL_in (tb7 (List.mem_of_getElem? (i := 34) rfl)) rfl, rfl, by decide, by decide, by decide +kernel⟩
theorem miX12_joiner : MI RX12 yX12_joiner cX12_joiner 4 none 3 := ⟨WL_in (tb7 (List.mem_of_getElem? (i := 36) rfl)) rfl, WL_in (tb7 (List.mem_of_getElem? (i := 37) rfl)) rfl, WL_in (tb1 (List.mem_of_getElem? (i := 14) rfl)) rfl, WL_in (tb7 (List.mem_of_getElem? (i := 38) rfl)) rfl, rfl, by decide, by decide, by decide +kernel⟩
theorem miX12_dropRule : MI RX12 yX12_dropRule cX12_dropRule 4 none 1 := ⟨WL_in (tb7 (List.mem_of_getElem? (i := 40) rfl)) rfl, WL_in (tb7 (List.mem_of_getElem? (i := 41) rfl)) rfl, WL_in (tb1 (List.mem_of_getElem? (i := 14) rfl)) rfl, WL_in (tb7 (List.mem_of_getElem? (i := 42) rfl)) rfl, rfl, by decide, by decide, by decide +kernel⟩
theorem miX12_wanted : MI RX12 yX12_wanted cX12_wanted 2 none 1 := ⟨WL_in (tb7 (List.mem_of_getElem? (i := 44) rfl)) rfl, WL_in (tb7 (List.mem_of_getElem? (i := 45) rfl)) rfl, WL_in (tb1 (List.mem_of_getElem? (i := 14) rfl)) rfl, WL_in (tb7 (List.mem_of_getElem? (i := 46) rfl)) rfl, rfl, by decide, by decide, by decide +kernel⟩
theorem miX12_isDecided : MI RX12 yX12_isDecided cX12_isDecided 3 none 1 := ⟨WL_in (tb7 (List.mem_of_getElem? (i := 49) rfl)) rfl, WL_in (tbS (List.mem_of_getElem? (i := 75) rfl)) rfl, WL_in (tb1 (List.mem_of_getElem? (i := 14) rfl)) rfl, WL_in (tb7 (List.mem_of_getElem? (i := 50) rfl)) rfl, rfl, by decide, by decide, by decide +kernel⟩
theorem miX12_reason : MI RX12 yX12_reason cX12_reason 2 none 1 := ⟨WL_in (tb7 (List.mem_of_getElem? (i := 52) rfl)) rfl, WL_in (tb7 (List.mem_of_getElem? (i := 53) rfl)) rfl, WL_in (tb1 (List.mem_of_getElem? (i := 14) rfl)) rfl, WL_in (tb7 (List.mem_of_getElem? (i := 54) rfl)) rfl, rfl, by decide, by decide, by decide +kernel⟩
theorem miX12_decidingRule : MI RX12 yX12_decidingRule cX12_decidingRule 2 none 1 := ⟨WL_in (tb7 (List.mem_of_getElem? (i := 56) rfl)) rfl, WL_in (tb7 (List.mem_of_getElem? (i := 57) rfl)) rfl, WL_in (tb1 (List.mem_of_getElem? (i := 14) rfl)) rfl, WL_in (tb7 (List.mem_of_getElem? (i := 58) rfl)) rfl, rfl, by decide, by decide, by decide +kernel⟩
theorem miX12_wouldChange : MI RX12 yX12_wouldChange cX12_wouldChange 1 none 0 := ⟨WL_in (tb7 (List.mem_of_getElem? (i := 60) rfl)) rfl, WL_in (tb7 (List.mem_of_getElem? (i := 61) rfl)) rfl, WL_in (tb1 (List.mem_of_getElem? (i := 14) rfl)) rfl, WL_in (tb7 (List.mem_of_getElem? (i := 62) rfl)) rfl, rfl, by decide, by decide, by decide +kernel⟩
theorem miX12_changesWith : MI RX12 yX12_changesWith cX12_changesWith 3 none 2 := ⟨WL_in (tb7 (List.mem_of_getElem? (i := 64) rfl)) rfl, WL_in (tb7 (List.mem_of_getElem? (i := 65) rfl)) rfl, WL_in (tb1 (List.mem_of_getElem? (i := 14) rfl)) rfl, WL_in (tb7 (List.mem_of_getElem? (i := 66) rfl)) rfl, rfl, by decide, by decide, by decide +kernel⟩
theorem miX12_changesBy : MI RX12 yX12_changesBy cX12_changesBy 3 none 2 := ⟨WL_in (tb7 (List.mem_of_getElem? (i := 69) rfl)) rfl, WL_in (tbS (List.mem_of_getElem? (i := 76) rfl)) rfl, WL_in (tb1 (List.mem_of_getElem? (i := 14) rfl)) rfl, WL_in (tb7 (List.mem_of_getElem? (i := 70) rfl)) rfl, rfl, by decide, by decide, by decide +kernel⟩
theorem miX12_fewestChanges : MI RX12 yX12_fewestChanges cX12_fewestChanges 1 none 0 := ⟨WL_in (tb7 (List.mem_of_getElem? (i := 72) rfl)) rfl, WL_in (tb7 (List.mem_of_getElem? (i := 73) rfl)) rfl, WL_in (tb1 (List.mem_of_getElem? (i := 14) rfl)) rfl, WL_in (tb7 (List.mem_of_getElem? (i := 74) rfl)) rfl, rfl, by decide, by decide, by decide +kernel⟩
theorem miX12_searches : MI RX12 yX12_searches cX12_searches 4 none 0 := ⟨WL_in (tb7 (List.mem_of_getElem? (i := 77) rfl)) rfl, WL_in (tbS (List.mem_of_getElem? (i := 77) rfl)) rfl, WL_in (tb1 (List.mem_of_getElem? (i := 14) rfl)) rfl, WL_in (tb7 (List.mem_of_getElem? (i := 78) rfl)) rfl, rfl, by decide, by decide, by decide +kernel⟩
theorem miX12_bestStep : MI RX12 yX12_bestStep cX12_bestStep 1 none 0 := ⟨WL_in (tb7 (List.mem_of_getElem? (i := 80) rfl)) rfl, WL_in (tb7 (List.mem_of_getElem? (i := 81) rfl)) rfl, WL_in (tb1 (List.mem_of_getElem? (i := 14) rfl)) rfl, WL_in (tb7 (List.mem_of_getElem? (i := 82) rfl)) rfl, rfl, by decide, by decide, by decide +kernel⟩
theorem miX12_bestBase : MI RX12 yX12_bestBase cX12_bestBase 1 none 0 := ⟨WL_in (tb7 (List.mem_of_getElem? (i := 84) rfl)) rfl, WL_in (tb7 (List.mem_of_getElem? (i := 85) rfl)) rfl, WL_in (tb1 (List.mem_of_getElem? (i := 14) rfl)) rfl, WL_in (tb7 (List.mem_of_getElem? (i := 86) rfl)) rfl, rfl, by decide, by decide, by decide +kernel⟩
theorem miX12_tokens : MI RX12 yX12_tokens cX12_tokens 2 none 1 := ⟨WL_in (tb7 (List.mem_of_getElem? (i := 88) rfl)) rfl, WL_in (tb7 (List.mem_of_getElem? (i := 89) rfl)) rfl, WL_in (tb1 (List.mem_of_getElem? (i := 14) rfl)) rfl, WL_in (tb7 (List.mem_of_getElem? (i := 90) rfl)) rfl, rfl, by decide, by decide, by decide +kernel⟩
theorem miX12_tokenAt : MI RX12 yX12_tokenAt cX12_tokenAt 4 none 2 := ⟨WL_in (tb7 (List.mem_of_getElem? (i := 92) rfl)) rfl, WL_in (tb7 (List.mem_of_getElem? (i := 93) rfl)) rfl, WL_in (tb1 (List.mem_of_getElem? (i := 14) rfl)) rfl, WL_in (tb7 (List.mem_of_getElem? (i := 94) rfl)) rfl, rfl, by decide, by decide, by decide +kernel⟩
theorem miX12_tokenOf : MI RX12 yX12_tokenOf cX12_tokenOf 3 none 2 := ⟨WL_in (tb7 (List.mem_of_getElem? (i := 97) rfl)) rfl, WL_in (tbS (List.mem_of_getElem? (i := 78) rfl)) rfl, WL_in (tb1 (List.mem_of_getElem? (i := 14) rfl)) rfl, WL_in (tb7 (List.mem_of_getElem? (i := 98) rfl)) rfl, rfl, by decide, by decide, by decide +kernel⟩
theorem miX12_tokenLength : MI RX12 yX12_tokenLength cX12_tokenLength 4 none 2 := ⟨WL_in (tb7 (List.mem_of_getElem? (i := 100) rfl)) rfl, WL_in (tb7 (List.mem_of_getElem? (i := 101) rfl)) rfl, WL_in (tb1 (List.mem_of_getElem? (i := 14) rfl)) rfl, WL_in (tb7 (List.mem_of_getElem? (i := 102) rfl)) rfl, rfl, by decide, by decide, by decide +kernel⟩
theorem miX12_tokenKind : MI RX12 yX12_tokenKind cX12_tokenKind 4 none 2 := ⟨WL_in (tb7 (List.mem_of_getElem? (i := 104) rfl)) rfl, WL_in (tb7 (List.mem_of_getElem? (i := 105) rfl)) rfl, WL_in (tb1 (List.mem_of_getElem? (i := 14) rfl)) rfl, WL_in (tb7 (List.mem_of_getElem? (i := 106) rfl)) rfl, rfl, by decide, by decide, by decide +kernel⟩
theorem miX12_openedBy : MI RX12 yX12_openedBy cX12_openedBy 4 none 2 := ⟨WL_in (tb7 (List.mem_of_getElem? (i := 108) rfl)) rfl, WL_in (tb7 (List.mem_of_getElem? (i := 109) rfl)) rfl, WL_in (tb1 (List.mem_of_getElem? (i := 14) rfl)) rfl, WL_in (tb7 (List.mem_of_getElem? (i := 110) rfl)) rfl, rfl, by decide, by decide, by decide +kernel⟩
theorem miX12_placeOf : MI RX12 yX12_placeOf cX12_placeOf 2 none 1 := ⟨WL_in (tb7 (List.mem_of_getElem? (i := 113) rfl)) rfl, WL_in (tbS (List.mem_of_getElem? (i := 79) rfl)) rfl, WL_in (tb1 (List.mem_of_getElem? (i := 14) rfl)) rfl, WL_in (tb7 (List.mem_of_getElem? (i := 114) rfl)) rfl, rfl, by decide, by decide, by decide +kernel⟩
theorem miX12_closedBy : MI RX12 yX12_closedBy cX12_closedBy 4 none 2 := ⟨WL_in (tb7 (List.mem_of_getElem? (i := 116) rfl)) rfl, WL_in (tb7 (List.mem_of_getElem? (i := 117) rfl)) rfl, WL_in (tb1 (List.mem_of_getElem? (i := 14) rfl)) rfl, WL_in (tb7 (List.mem_of_getElem? (i := 118) rfl)) rfl, rfl, by decide, by decide, by decide +kernel⟩
theorem miX12_depth : MI RX12 yX12_depth cX12_depth 2 none 1 := ⟨WL_in (tb7 (List.mem_of_getElem? (i := 120) rfl)) rfl, WL_in (tb7 (List.mem_of_getElem? (i := 121) rfl)) rfl, WL_in (tb1 (List.mem_of_getElem? (i := 14) rfl)) rfl, WL_in (tb7 (List.mem_of_getElem? (i := 122) rfl)) rfl, rfl, by decide, by decide, by decide +kernel⟩
theorem miX12_blockRule : MI RX12 yX12_blockRule cX12_blockRule 4 none 2 := ⟨WL_in (tb7 (List.mem_of_getElem? (i := 124) rfl)) rfl, WL_in (tb7 (List.mem_of_getElem? (i := 125) rfl)) rfl, WL_in (tb1 (List.mem_of_getElem? (i := 14) rfl)) rfl, WL_in (tb7 (List.mem_of_getElem? (i := 126) rfl)) rfl, rfl, by decide, by decide, by decide +kernel⟩
theorem miX12_blockOf : MI RX12 yX12_blockOf cX12_blockOf 3 none 2 := ⟨WL_in (tb7 (List.mem_of_getElem? (i := 129) rfl)) rfl, WL_in (tbS (List.mem_of_getElem? (i := 80) rfl)) rfl, WL_in (tb1 (List.mem_of_getElem? (i := 14) rfl)) rfl, WL_in (tb7 (List.mem_of_getElem? (i := 130) rfl)) rfl, rfl, by decide, by decide, by decide +kernel⟩
theorem miX12_blockOpening : MI RX12 yX12_blockOpening cX12_blockOpening 4 none 2 := ⟨WL_in (tb7 (List.mem_of_getElem? (i := 132) rfl)) rfl, WL_in (tb7 (List.mem_of_getElem? (i := 133) rfl)) rfl, WL_in (tb1 (List.mem_of_getElem? (i := 14) rfl)) rfl, WL_in (tb7 (List.mem_of_getElem? (i := 134) rfl)) rfl, rfl, by decide, by decide, by decide +kernel⟩
theorem miX12_contentColumn : MI RX12 yX12_contentColumn cX12_contentColumn 4 none 2 := ⟨WL_in (tb7 (List.mem_of_getElem? (i := 136) rfl)) rfl, WL_in (tb7 (List.mem_of_getElem? (i := 137) rfl)) rfl, WL_in (tb1 (List.mem_of_getElem? (i := 14) rfl)) rfl, WL_in (tb7 (List.mem_of_getElem? (i := 138) rfl)) rfl, rfl, by decide, by decide, by decide +kernel⟩
theorem miX12_strays : MI RX12 yX12_strays cX12_strays 1 none 0 := ⟨WL_in (tb7 (List.mem_of_getElem? (i := 140) rfl)) rfl, WL_in (tb7 (List.mem_of_getElem? (i := 141) rfl)) rfl, WL_in (tb1 (List.mem_of_getElem? (i := 14) rfl)) rfl, WL_in (tb7 (List.mem_of_getElem? (i := 142) rfl)) rfl, rfl, by decide, by decide, by decide +kernel⟩
theorem miX12_lost : MI RX12 yX12_lost cX12_lost 1 none 0 := ⟨WL_in (tb7 (List.mem_of_getElem? (i := 144) rfl)) rfl, WL_in (tb7 (List.mem_of_getElem? (i := 145) rfl)) rfl, WL_in (tb1 (List.mem_of_getElem? (i := 14) rfl)) rfl, WL_in (tb7 (List.mem_of_getElem? (i := 146) rfl)) rfl, rfl, by decide, by decide, by decide +kernel⟩
theorem miX12_vocabulary : MI RX12 yX12_vocabulary cX12_vocabulary 3 none 0 := ⟨WL_in (tb7 (List.mem_of_getElem? (i := 148) rfl)) rfl, WL_in (tb7 (List.mem_of_getElem? (i := 149) rfl)) rfl, WL_in (tb1 (List.mem_of_getElem? (i := 14) rfl)) rfl, WL_in (tb7 (List.mem_of_getElem? (i := 150) rfl)) rfl, rfl, by decide, by decide, by decide +kernel⟩
theorem miX12_isFirst : MI RX12 yX12_isFirst cX12_isFirst 4 none 1 := ⟨WL_in (tb7 (List.mem_of_getElem? (i := 153) rfl)) rfl, WL_in (tbS (List.mem_of_getElem? (i := 81) rfl)) rfl, WL_in (tb1 (List.mem_of_getElem? (i := 14) rfl)) rfl, WL_in (tb7 (List.mem_of_getElem? (i := 154) rfl)) rfl, rfl, by decide, by decide, by decide +kernel⟩
theorem miX12_isSame : MI RX12 yX12_isSame cX12_isSame 5 none 2 := ⟨WL_in (tb7 (List.mem_of_getElem? (i := 157) rfl)) rfl, WL_in (tbS (List.mem_of_getElem? (i := 82) rfl)) rfl, WL_in (tb1 (List.mem_of_getElem? (i := 14) rfl)) rfl, WL_in (tb7 (List.mem_of_getElem? (i := 158) rfl)) rfl, rfl, by decide, by decide, by decide +kernel⟩
theorem miX12_commonestCount : MI RX12 yX12_commonestCount cX12_commonestCount 1 none 0 := ⟨WL_in (tb7 (List.mem_of_getElem? (i := 160) rfl)) rfl, WL_in (tb7 (List.mem_of_getElem? (i := 161) rfl)) rfl, WL_in (tb1 (List.mem_of_getElem? (i := 14) rfl)) rfl, WL_in (tb7 (List.mem_of_getElem? (i := 162) rfl)) rfl, rfl, by decide, by decide, by decide +kernel⟩
theorem miX12_commonest : MI RX12 yX12_commonest cX12_commonest 5 none 0 := ⟨WL_in (tb7 (List.mem_of_getElem? (i := 165) rfl)) rfl, WL_in (tbS (List.mem_of_getElem? (i := 83) rfl)) rfl, WL_in (tb1 (List.mem_of_getElem? (i := 14) rfl)) rfl, WL_in (tb7 (List.mem_of_getElem? (i := 166) rfl)) rfl, rfl, by decide, by decide, by decide +kernel⟩
theorem miX12_commonestByte : MI RX12 yX12_commonestByte cX12_commonestByte 3 none 1 := ⟨WL_in (tb7 (List.mem_of_getElem? (i := 168) rfl)) rfl, WL_in (tb7 (List.mem_of_getElem? (i := 169) rfl)) rfl, WL_in (tb1 (List.mem_of_getElem? (i := 14) rfl)) rfl, WL_in (tb7 (List.mem_of_getElem? (i := 170) rfl)) rfl, rfl, by decide, by decide, by decide +kernel⟩
theorem miX12_undo : MI RX12 yX12_undo cX12_undo 1 none 0 := ⟨WL_in (tb7 (List.mem_of_getElem? (i := 172) rfl)) rfl, WL_in (tb7 (List.mem_of_getElem? (i := 173) rfl)) rfl, WL_in (tb1 (List.mem_of_getElem? (i := 14) rfl)) rfl, WL_in (tb7 (List.mem_of_getElem? (i := 174) rfl)) rfl, rfl, by decide, by decide, by decide +kernel⟩
theorem miX12_keep : MI RX12 yX12_keep cX12_keep 3 none 1 := ⟨WL_in (tb7 (List.mem_of_getElem? (i := 176) rfl)) rfl, WL_in (tb7 (List.mem_of_getElem? (i := 177) rfl)) rfl, WL_in (tb1 (List.mem_of_getElem? (i := 14) rfl)) rfl, WL_in (tb7 (List.mem_of_getElem? (i := 178) rfl)) rfl, rfl, by decide, by decide, by decide +kernel⟩
theorem miX12_back : MI RX12 yX12_back cX12_back 2 none 1 := ⟨WL_in (tb7 (List.mem_of_getElem? (i := 180) rfl)) rfl, WL_in (tb7 (List.mem_of_getElem? (i := 181) rfl)) rfl, WL_in (tb1 (List.mem_of_getElem? (i := 14) rfl)) rfl, WL_in (tb7 (List.mem_of_getElem? (i := 182) rfl)) rfl, rfl, by decide, by decide, by decide +kernel⟩
theorem miX12_draw : MI RX12 yX12_draw cX12_draw 4 none 2 := ⟨WL_in (tb7 (List.mem_of_getElem? (i := 184) rfl)) rfl, WL_in (tb7 (List.mem_of_getElem? (i := 185) rfl)) rfl, WL_in (tb1 (List.mem_of_getElem? (i := 14) rfl)) rfl, WL_in (tb7 (List.mem_of_getElem? (i := 186) rfl)) rfl, rfl, by decide, by decide, by decide +kernel⟩
theorem miX12_drawsLine : MI RX12 yX12_drawsLine cX12_drawsLine 7 none 0 := ⟨WL_in (tb7 (List.mem_of_getElem? (i := 189) rfl)) rfl, WL_in (tbS (List.mem_of_getElem? (i := 84) rfl)) rfl, WL_in (tb1 (List.mem_of_getElem? (i := 14) rfl)) rfl, WL_in (tb7 (List.mem_of_getElem? (i := 190) rfl)) rfl, rfl, by decide, by decide, by decide +kernel⟩
theorem miX12_draws : MI RX12 yX12_draws cX12_draws 1 none 0 := ⟨WL_in (tb7 (List.mem_of_getElem? (i := 193) rfl)) rfl, WL_in (tbS (List.mem_of_getElem? (i := 85) rfl)) rfl, WL_in (tb1 (List.mem_of_getElem? (i := 14) rfl)) rfl, WL_in (tb7 (List.mem_of_getElem? (i := 194) rfl)) rfl, rfl, by decide, by decide, by decide +kernel⟩
theorem miX12_digest : MI RX12 yX12_digest cX12_digest 3 none 0 := ⟨WL_in (tb7 (List.mem_of_getElem? (i := 197) rfl)) rfl, WL_in (tb7 (List.mem_of_getElem? (i := 198) rfl)) rfl, WL_in (tb1 (List.mem_of_getElem? (i := 14) rfl)) rfl, WL_in (tb7 (List.mem_of_getElem? (i := 199) rfl)) rfl, rfl, by decide, by decide, by decide +kernel⟩
theorem miX12_mixes : MI RX12 yX12_mixes cX12_mixes 2 none 1 := ⟨WL_in (tb7 (List.mem_of_getElem? (i := 203) rfl)) rfl, WL_in (tbS (List.mem_of_getElem? (i := 86) rfl)) rfl, WL_in (tb1 (List.mem_of_getElem? (i := 14) rfl)) rfl, WL_in (tb7 (List.mem_of_getElem? (i := 204) rfl)) rfl, rfl, by decide, by decide, by decide +kernel⟩
theorem miX12_mixesRule : MI RX12 yX12_mixesRule cX12_mixesRule 4 none 1 := ⟨WL_in (tb7 (List.mem_of_getElem? (i := 208) rfl)) rfl, WL_in (tbS (List.mem_of_getElem? (i := 87) rfl)) rfl, WL_in (tb1 (List.mem_of_getElem? (i := 14) rfl)) rfl, WL_in (tb7 (List.mem_of_getElem? (i := 209) rfl)) rfl, rfl, by decide, by decide, by decide +kernel⟩
theorem miX12_mixesText : MI RX12 yX12_mixesText cX12_mixesText 3 none 1 := ⟨WL_in (tb7 (List.mem_of_getElem? (i := 212) rfl)) rfl, WL_in (tbS (List.mem_of_getElem? (i := 88) rfl)) rfl, WL_in (tb1 (List.mem_of_getElem? (i := 14) rfl)) rfl, WL_in (tb7 (List.mem_of_getElem? (i := 213) rfl)) rfl, rfl, by decide, by decide, by decide +kernel⟩
theorem mlL_9 : Cond.methodLink RL 9 yX11_init ∈ WL := WL_in (tb1 (List.mem_of_getElem? (i := 23) rfl)) rfl
theorem mlX3_17 : Cond.methodLink RX3 17 yX5_init ∈ WL := WL_in (tb1 (List.mem_of_getElem? (i := 43) rfl)) rfl
theorem mlX5_9 : Cond.methodLink RX5 9 yJ9_max_7cf53 ∈ WL := WL_in (tb1 (List.mem_of_getElem? (i := 47) rfl)) rfl
theorem mlX7_11 : Cond.methodLink RX7 11 yX5_init ∈ WL := WL_in (tb1 (List.mem_of_getElem? (i := 89) rfl)) rfl
theorem mlX1_17 : Cond.methodLink RX1 17 yX5_init ∈ WL := WL_in (tb1 (List.mem_of_getElem? (i := 152) rfl)) rfl
theorem mlX6_11 : Cond.methodLink RX6 11 yX5_init ∈ WL := WL_in (tb1 (List.mem_of_getElem? (i := 169) rfl)) rfl
theorem mlX11_32 : Cond.methodLink RX11 32 yX2_init ∈ WL := WL_in (tb1 (List.mem_of_getElem? (i := 182) rfl)) rfl
theorem mlX11_43 : Cond.methodLink RX11 43 yX5_init ∈ WL := WL_in (tb1 (List.mem_of_getElem? (i := 201) rfl)) rfl
theorem mlX9_17 : Cond.methodLink RX9 17 yX5_init ∈ WL := WL_in (tb1 (List.mem_of_getElem? (i := 209) rfl)) rfl
theorem mlX0_11 : Cond.methodLink RX0 11 yX5_init ∈ WL := WL_in (tb2 (List.mem_of_getElem? (i := 28) rfl)) rfl
theorem mlX4_11 : Cond.methodLink RX4 11 yX5_init ∈ WL := WL_in (tb2 (List.mem_of_getElem? (i := 94) rfl)) rfl
theorem mlX10_17 : Cond.methodLink RX10 17 yX5_init ∈ WL := WL_in (tb2 (List.mem_of_getElem? (i := 123) rfl)) rfl
theorem mlL_13 : Cond.methodLink RL 13 yX11_type ∈ WL := WL_in (tb2 (List.mem_of_getElem? (i := 174) rfl)) rfl
theorem mlX11_85 : Cond.methodLink RX11 85 yX11_within ∈ WL := WL_in (tb2 (List.mem_of_getElem? (i := 178) rfl)) rfl
theorem mlX11_93 : Cond.methodLink RX11 93 yX1_add ∈ WL := WL_in (tb2 (List.mem_of_getElem? (i := 181) rfl)) rfl
theorem mlX1_24 : Cond.methodLink RX1 24 yX5_set ∈ WL := WL_in (tb2 (List.mem_of_getElem? (i := 185) rfl)) rfl
theorem mlL_18 : Cond.methodLink RL 18 yX11_clear ∈ WL := WL_in (tb2 (List.mem_of_getElem? (i := 189) rfl)) rfl
theorem mlL_23 : Cond.methodLink RL 23 yX11_insertLine ∈ WL := WL_in (tb2 (List.mem_of_getElem? (i := 193) rfl)) rfl
theorem mlX11_103 : Cond.methodLink RX11 103 yX1_isLine ∈ WL := WL_in (tb2 (List.mem_of_getElem? (i := 197) rfl)) rfl
theorem mlX1_32 : Cond.methodLink RX1 32 yX1_contentStart ∈ WL := WL_in (tb2 (List.mem_of_getElem? (i := 201) rfl)) rfl
theorem mlX1_28 : Cond.methodLink RX1 28 yX5_get ∈ WL := WL_in (tb2 (List.mem_of_getElem? (i := 205) rfl)) rfl
theorem mlX1_36 : Cond.methodLink RX1 36 yX1_contentEnd ∈ WL := WL_in (tb2 (List.mem_of_getElem? (i := 209) rfl)) rfl
theorem mlX11_107 : Cond.methodLink RX11 107 yX11_beginChange ∈ WL := WL_in (tb2 (List.mem_of_getElem? (i := 213) rfl)) rfl
theorem mlX11_342 : Cond.methodLink RX11 342 yX2_remember ∈ WL := WL_in (tb2 (List.mem_of_getElem? (i := 217) rfl)) rfl
theorem mlX2_25 : Cond.methodLink RX2 25 yX2_at ∈ WL := WL_in (tb2 (List.mem_of_getElem? (i := 221) rfl)) rfl
theorem mlX2_29 : Cond.methodLink RX2 29 yX8_copy ∈ WL := WL_in (tb2 (List.mem_of_getElem? (i := 225) rfl)) rfl
theorem mlX8_33 : Cond.methodLink RX8 33 yX3_copy ∈ WL := WL_in (tb2 (List.mem_of_getElem? (i := 229) rfl)) rfl
theorem mlX3_69 : Cond.methodLink RX3 69 yX5_copy ∈ WL := WL_in (tb2 (List.mem_of_getElem? (i := 233) rfl)) rfl
theorem mlX5_21 : Cond.methodLink RX5 21 yJ9_min_7cf53 ∈ WL := WL_in (tb2 (List.mem_of_getElem? (i := 237) rfl)) rfl
theorem mlX8_37 : Cond.methodLink RX8 37 yX7_copy ∈ WL := WL_in (tb3 (List.mem_of_getElem? (i := 3) rfl)) rfl
theorem mlX7_63 : Cond.methodLink RX7 63 yX5_copy ∈ WL := WL_in (tb3 (List.mem_of_getElem? (i := 7) rfl)) rfl
theorem mlX11_110 : Cond.methodLink RX11 110 yX3_openGap ∈ WL := WL_in (tb3 (List.mem_of_getElem? (i := 8) rfl)) rfl
theorem mlX3_48 : Cond.methodLink RX3 48 yX3_copyLine ∈ WL := WL_in (tb3 (List.mem_of_getElem? (i := 12) rfl)) rfl
theorem mlX3_33 : Cond.methodLink RX3 33 yX5_get ∈ WL := WL_in (tb3 (List.mem_of_getElem? (i := 16) rfl)) rfl
theorem mlX3_37 : Cond.methodLink RX3 37 yX5_set ∈ WL := WL_in (tb3 (List.mem_of_getElem? (i := 17) rfl)) rfl
theorem mlX11_113 : Cond.methodLink RX11 113 yX1_writeLine ∈ WL := WL_in (tb3 (List.mem_of_getElem? (i := 18) rfl)) rfl
theorem mlX1_47 : Cond.methodLink RX1 47 yX3_append ∈ WL := WL_in (tb3 (List.mem_of_getElem? (i := 22) rfl)) rfl
theorem mlL_27 : Cond.methodLink RL 27 yX11_replaceLine ∈ WL := WL_in (tb3 (List.mem_of_getElem? (i := 26) rfl)) rfl
theorem mlX11_117 : Cond.methodLink RX11 117 yX3_has ∈ WL := WL_in (tb3 (List.mem_of_getElem? (i := 30) rfl)) rfl
theorem mlX11_124 : Cond.methodLink RX11 124 yX5_get ∈ WL := WL_in (tb3 (List.mem_of_getElem? (i := 34) rfl)) rfl
theorem mlL_31 : Cond.methodLink RL 31 yX11_removeLine ∈ WL := WL_in (tb3 (List.mem_of_getElem? (i := 35) rfl)) rfl
theorem mlX11_128 : Cond.methodLink RX11 128 yX3_closeGap ∈ WL := WL_in (tb3 (List.mem_of_getElem? (i := 39) rfl)) rfl
theorem mlX3_51 : Cond.methodLink RX3 51 yX3_has ∈ WL := WL_in (tb3 (List.mem_of_getElem? (i := 43) rfl)) rfl
theorem mlL_35 : Cond.methodLink RL 35 yX11_splitLine ∈ WL := WL_in (tb3 (List.mem_of_getElem? (i := 44) rfl)) rfl
theorem mlX11_134 : Cond.methodLink RX11 134 yX3_split ∈ WL := WL_in (tb3 (List.mem_of_getElem? (i := 48) rfl)) rfl
theorem mlX3_55 : Cond.methodLink RX3 55 yX3_openGap ∈ WL := WL_in (tb3 (List.mem_of_getElem? (i := 52) rfl)) rfl
theorem mlX3_41 : Cond.methodLink RX3 41 yX3_byteOf ∈ WL := WL_in (tb3 (List.mem_of_getElem? (i := 53) rfl)) rfl
theorem mlX3_58 : Cond.methodLink RX3 58 yX3_appendFrom ∈ WL := WL_in (tb3 (List.mem_of_getElem? (i := 57) rfl)) rfl
theorem mlX3_45 : Cond.methodLink RX3 45 yX3_append ∈ WL := WL_in (tb3 (List.mem_of_getElem? (i := 61) rfl)) rfl
theorem mlX11_138 : Cond.methodLink RX11 138 yX11_study ∈ WL := WL_in (tb3 (List.mem_of_getElem? (i := 62) rfl)) rfl
theorem mlX11_345 : Cond.methodLink RX11 345 yX9_divide ∈ WL := WL_in (tb3 (List.mem_of_getElem? (i := 66) rfl)) rfl
theorem mlX9_52 : Cond.methodLink RX9 52 yX5_set ∈ WL := WL_in (tb3 (List.mem_of_getElem? (i := 70) rfl)) rfl
theorem mlX9_56 : Cond.methodLink RX9 56 yX9_load ∈ WL := WL_in (tb3 (List.mem_of_getElem? (i := 71) rfl)) rfl
theorem mlX9_63 : Cond.methodLink RX9 63 yX5_get ∈ WL := WL_in (tb3 (List.mem_of_getElem? (i := 75) rfl)) rfl
theorem mlX9_68 : Cond.methodLink RX9 68 yX3_byteOf ∈ WL := WL_in (tb3 (List.mem_of_getElem? (i := 76) rfl)) rfl
theorem mlX9_60 : Cond.methodLink RX9 60 yX9_divideLine ∈ WL := WL_in (tb3 (List.mem_of_getElem? (i := 77) rfl)) rfl
theorem mlX9_72 : Cond.methodLink RX9 72 yX9_literalEnd ∈ WL := WL_in (tb3 (List.mem_of_getElem? (i := 81) rfl)) rfl
theorem mlX9_75 : Cond.methodLink RX9 75 yX9_threeQuotesAt ∈ WL := WL_in (tb3 (List.mem_of_getElem? (i := 85) rfl)) rfl
theorem mlX9_79 : Cond.methodLink RX9 79 yX9_stringEnd ∈ WL := WL_in (tb3 (List.mem_of_getElem? (i := 89) rfl)) rfl
theorem mlX9_82 : Cond.methodLink RX9 82 yX9_add ∈ WL := WL_in (tb3 (List.mem_of_getElem? (i := 93) rfl)) rfl
theorem mlX9_89 : Cond.methodLink RX9 89 yX9_wordEnd ∈ WL := WL_in (tb3 (List.mem_of_getElem? (i := 100) rfl)) rfl
theorem mlX9_92 : Cond.methodLink RX9 92 yJ9_max_7cf53 ∈ WL := WL_in (tb3 (List.mem_of_getElem? (i := 104) rfl)) rfl
theorem mlX11_348 : Cond.methodLink RX11 348 yX0_match ∈ WL := WL_in (tb3 (List.mem_of_getElem? (i := 105) rfl)) rfl
theorem mlX0_71 : Cond.methodLink RX0 71 yX0_saveStack ∈ WL := WL_in (tb3 (List.mem_of_getElem? (i := 109) rfl)) rfl
theorem mlX0_99 : Cond.methodLink RX0 99 yX5_set ∈ WL := WL_in (tb3 (List.mem_of_getElem? (i := 113) rfl)) rfl
theorem mlX0_79 : Cond.methodLink RX0 79 yX5_get ∈ WL := WL_in (tb3 (List.mem_of_getElem? (i := 114) rfl)) rfl
theorem mlX0_83 : Cond.methodLink RX0 83 yX0_findRules ∈ WL := WL_in (tb3 (List.mem_of_getElem? (i := 115) rfl)) rfl
theorem mlX0_115 : Cond.methodLink RX0 115 yX7_has ∈ WL := WL_in (tb3 (List.mem_of_getElem? (i := 119) rfl)) rfl
theorem mlX7_38 : Cond.methodLink RX7 38 yX5_get ∈ WL := WL_in (tb3 (List.mem_of_getElem? (i := 123) rfl)) rfl
theorem mlX0_121 : Cond.methodLink RX0 121 yX7_hasText ∈ WL := WL_in (tb3 (List.mem_of_getElem? (i := 124) rfl)) rfl
theorem mlX7_50 : Cond.methodLink RX7 50 yX3_byteOf ∈ WL := WL_in (tb3 (List.mem_of_getElem? (i := 128) rfl)) rfl
theorem mlX0_91 : Cond.methodLink RX0 91 yX0_close ∈ WL := WL_in (tb3 (List.mem_of_getElem? (i := 129) rfl)) rfl
theorem mlX0_125 : Cond.methodLink RX0 125 yX0_levelThatCloses ∈ WL := WL_in (tb3 (List.mem_of_getElem? (i := 133) rfl)) rfl
theorem mlX0_132 : Cond.methodLink RX0 132 yJ9_max_7cf53 ∈ WL := WL_in (tb3 (List.mem_of_getElem? (i := 137) rfl)) rfl
theorem mlX0_95 : Cond.methodLink RX0 95 yX0_open ∈ WL := WL_in (tb3 (List.mem_of_getElem? (i := 138) rfl)) rfl
theorem mlX0_138 : Cond.methodLink RX0 138 yX7_best ∈ WL := WL_in (tb3 (List.mem_of_getElem? (i := 142) rfl)) rfl
theorem mlX11_352 : Cond.methodLink RX11 352 yX4_make ∈ WL := WL_in (tb3 (List.mem_of_getElem? (i := 146) rfl)) rfl
theorem mlX4_50 : Cond.methodLink RX4 50 yX5_get ∈ WL := WL_in (tb3 (List.mem_of_getElem? (i := 150) rfl)) rfl
theorem mlX4_59 : Cond.methodLink RX4 59 yX5_set ∈ WL := WL_in (tb3 (List.mem_of_getElem? (i := 151) rfl)) rfl
theorem mlX4_67 : Cond.methodLink RX4 67 yX4_decide ∈ WL := WL_in (tb3 (List.mem_of_getElem? (i := 152) rfl)) rfl
theorem mlX4_87 : Cond.methodLink RX4 87 yX0_lastLeadingCloser ∈ WL := WL_in (tb3 (List.mem_of_getElem? (i := 156) rfl)) rfl
theorem mlX4_101 : Cond.methodLink RX4 101 yX7_best ∈ WL := WL_in (tb3 (List.mem_of_getElem? (i := 160) rfl)) rfl
theorem mlX4_106 : Cond.methodLink RX4 106 yX7_beats ∈ WL := WL_in (tb3 (List.mem_of_getElem? (i := 161) rfl)) rfl
theorem mlX4_110 : Cond.methodLink RX4 110 yX4_joinerBehind ∈ WL := WL_in (tb3 (List.mem_of_getElem? (i := 165) rfl)) rfl
theorem mlX4_117 : Cond.methodLink RX4 117 yX4_standByClosed ∈ WL := WL_in (tb3 (List.mem_of_getElem? (i := 168) rfl)) rfl
theorem mlX4_130 : Cond.methodLink RX4 130 yX4_standOnGround ∈ WL := WL_in (tb3 (List.mem_of_getElem? (i := 172) rfl)) rfl
theorem mlX4_127 : Cond.methodLink RX4 127 yX0_openBefore ∈ WL := WL_in (tb3 (List.mem_of_getElem? (i := 176) rfl)) rfl
theorem mlX4_134 : Cond.methodLink RX4 134 yX4_addSteps ∈ WL := WL_in (tb3 (List.mem_of_getElem? (i := 180) rfl)) rfl
theorem mlX11_147 : Cond.methodLink RX11 147 yX4_column ∈ WL := WL_in (tb3 (List.mem_of_getElem? (i := 184) rfl)) rfl
theorem mlX11_317 : Cond.methodLink RX11 317 yJ9_min_7cf53 ∈ WL := WL_in (tb3 (List.mem_of_getElem? (i := 191) rfl)) rfl
theorem mlX4_75 : Cond.methodLink RX4 75 yJ9_min_7cf53 ∈ WL := WL_in (tb3 (List.mem_of_getElem? (i := 192) rfl)) rfl
theorem mlX4_81 : Cond.methodLink RX4 81 yJ9_max_7cf53 ∈ WL := WL_in (tb3 (List.mem_of_getElem? (i := 193) rfl)) rfl
theorem mlX11_151 : Cond.methodLink RX11 151 yX5_set ∈ WL := WL_in (tb3 (List.mem_of_getElem? (i := 194) rfl)) rfl
theorem mlL_40 : Cond.methodLink RL 40 yX11_joinLines ∈ WL := WL_in (tb3 (List.mem_of_getElem? (i := 195) rfl)) rfl
theorem mlX11_154 : Cond.methodLink RX11 154 yX3_joinedSize ∈ WL := WL_in (tb3 (List.mem_of_getElem? (i := 199) rfl)) rfl
theorem mlX11_157 : Cond.methodLink RX11 157 yX3_join ∈ WL := WL_in (tb3 (List.mem_of_getElem? (i := 203) rfl)) rfl
theorem mlX3_62 : Cond.methodLink RX3 62 yX3_closeGap ∈ WL := WL_in (tb3 (List.mem_of_getElem? (i := 207) rfl)) rfl
theorem mlL_44 : Cond.methodLink RL 44 yX11_shift ∈ WL := WL_in (tb3 (List.mem_of_getElem? (i := 208) rfl)) rfl
theorem mlX11_160 : Cond.methodLink RX11 160 yX3_hasRange ∈ WL := WL_in (tb3 (List.mem_of_getElem? (i := 212) rfl)) rfl
theorem mlX11_164 : Cond.methodLink RX11 164 yX3_canMove ∈ WL := WL_in (tb3 (List.mem_of_getElem? (i := 216) rfl)) rfl
theorem mlX11_167 : Cond.methodLink RX11 167 yX3_move ∈ WL := WL_in (tb3 (List.mem_of_getElem? (i := 221) rfl)) rfl
theorem mlL_49 : Cond.methodLink RL 49 yX11_pin ∈ WL := WL_in (tb3 (List.mem_of_getElem? (i := 225) rfl)) rfl
theorem mlL_53 : Cond.methodLink RL 53 yX11_reindent ∈ WL := WL_in (tb3 (List.mem_of_getElem? (i := 229) rfl)) rfl
theorem mlX11_174 : Cond.methodLink RX11 174 yX11_indentAnew ∈ WL := WL_in (tb3 (List.mem_of_getElem? (i := 233) rfl)) rfl
theorem mlL_57 : Cond.methodLink RL 57 yX11_lines ∈ WL := WL_in (tb3 (List.mem_of_getElem? (i := 237) rfl)) rfl
theorem mlL_61 : Cond.methodLink RL 61 yX11_indentation ∈ WL := WL_in (tb4 (List.mem_of_getElem? (i := 1) rfl)) rfl
theorem mlL_65 : Cond.methodLink RL 65 yX11_length ∈ WL := WL_in (tb4 (List.mem_of_getElem? (i := 5) rfl)) rfl
theorem mlL_69 : Cond.methodLink RL 69 yX11_byteAt ∈ WL := WL_in (tb4 (List.mem_of_getElem? (i := 9) rfl)) rfl
theorem mlX11_178 : Cond.methodLink RX11 178 yX3_byteOf ∈ WL := WL_in (tb4 (List.mem_of_getElem? (i := 13) rfl)) rfl
theorem mlL_73 : Cond.methodLink RL 73 yX11_isProtected ∈ WL := WL_in (tb4 (List.mem_of_getElem? (i := 14) rfl)) rfl
theorem mlL_77 : Cond.methodLink RL 77 yX11_isPinned ∈ WL := WL_in (tb4 (List.mem_of_getElem? (i := 18) rfl)) rfl
theorem mlL_81 : Cond.methodLink RL 81 yX11_setStep ∈ WL := WL_in (tb4 (List.mem_of_getElem? (i := 22) rfl)) rfl
theorem mlL_85 : Cond.methodLink RL 85 yX11_setBase ∈ WL := WL_in (tb4 (List.mem_of_getElem? (i := 26) rfl)) rfl
theorem mlL_89 : Cond.methodLink RL 89 yX11_setComment ∈ WL := WL_in (tb4 (List.mem_of_getElem? (i := 30) rfl)) rfl
theorem mlX11_185 : Cond.methodLink RX11 185 yX11_canBeginComment ∈ WL := WL_in (tb4 (List.mem_of_getElem? (i := 34) rfl)) rfl
theorem mlX11_337 : Cond.methodLink RX11 337 yX11_isWordByte ∈ WL := WL_in (tb4 (List.mem_of_getElem? (i := 37) rfl)) rfl
theorem mlL_93 : Cond.methodLink RL 93 yX11_pair ∈ WL := WL_in (tb4 (List.mem_of_getElem? (i := 38) rfl)) rfl
theorem mlX11_191 : Cond.methodLink RX11 191 yX11_isRuleNumber ∈ WL := WL_in (tb4 (List.mem_of_getElem? (i := 42) rfl)) rfl
theorem mlX11_194 : Cond.methodLink RX11 194 yX6_find ∈ WL := WL_in (tb4 (List.mem_of_getElem? (i := 45) rfl)) rfl
theorem mlX6_32 : Cond.methodLink RX6 32 yX1_byteOf ∈ WL := WL_in (tb4 (List.mem_of_getElem? (i := 49) rfl)) rfl
theorem mlX6_36 : Cond.methodLink RX6 36 yX6_textEnd ∈ WL := WL_in (tb4 (List.mem_of_getElem? (i := 53) rfl)) rfl
theorem mlX6_44 : Cond.methodLink RX6 44 yJ9_max_7cf53 ∈ WL := WL_in (tb4 (List.mem_of_getElem? (i := 57) rfl)) rfl
theorem mlX6_40 : Cond.methodLink RX6 40 yX5_set ∈ WL := WL_in (tb4 (List.mem_of_getElem? (i := 58) rfl)) rfl
theorem mlX11_198 : Cond.methodLink RX11 198 yX11_makeRule ∈ WL := WL_in (tb4 (List.mem_of_getElem? (i := 59) rfl)) rfl
theorem mlX11_217 : Cond.methodLink RX11 217 yX7_has ∈ WL := WL_in (tb4 (List.mem_of_getElem? (i := 63) rfl)) rfl
theorem mlX11_356 : Cond.methodLink RX11 356 yX7_put ∈ WL := WL_in (tb4 (List.mem_of_getElem? (i := 64) rfl)) rfl
theorem mlX7_46 : Cond.methodLink RX7 46 yX5_set ∈ WL := WL_in (tb4 (List.mem_of_getElem? (i := 68) rfl)) rfl
theorem mlX11_360 : Cond.methodLink RX11 360 yX6_write ∈ WL := WL_in (tb4 (List.mem_of_getElem? (i := 69) rfl)) rfl
theorem mlX6_54 : Cond.methodLink RX6 54 yX5_get ∈ WL := WL_in (tb4 (List.mem_of_getElem? (i := 73) rfl)) rfl
theorem mlX6_57 : Cond.methodLink RX6 57 yX7_appendText ∈ WL := WL_in (tb4 (List.mem_of_getElem? (i := 74) rfl)) rfl
theorem mlL_98 : Cond.methodLink RL 98 yX11_starter ∈ WL := WL_in (tb4 (List.mem_of_getElem? (i := 78) rfl)) rfl
theorem mlX11_214 : Cond.methodLink RX11 214 yX11_refusalOfOneText ∈ WL := WL_in (tb4 (List.mem_of_getElem? (i := 82) rfl)) rfl
theorem mlL_102 : Cond.methodLink RL 102 yX11_joiner ∈ WL := WL_in (tb4 (List.mem_of_getElem? (i := 86) rfl)) rfl
theorem mlL_106 : Cond.methodLink RL 106 yX11_dropRule ∈ WL := WL_in (tb4 (List.mem_of_getElem? (i := 90) rfl)) rfl
theorem mlX11_221 : Cond.methodLink RX11 221 yX7_size ∈ WL := WL_in (tb4 (List.mem_of_getElem? (i := 94) rfl)) rfl
theorem mlX7_42 : Cond.methodLink RX7 42 yX7_has ∈ WL := WL_in (tb4 (List.mem_of_getElem? (i := 98) rfl)) rfl
theorem mlL_110 : Cond.methodLink RL 110 yX11_wanted ∈ WL := WL_in (tb4 (List.mem_of_getElem? (i := 99) rfl)) rfl
theorem mlL_114 : Cond.methodLink RL 114 yX11_reason ∈ WL := WL_in (tb4 (List.mem_of_getElem? (i := 103) rfl)) rfl
theorem mlL_118 : Cond.methodLink RL 118 yX11_decidingRule ∈ WL := WL_in (tb4 (List.mem_of_getElem? (i := 107) rfl)) rfl
theorem mlL_122 : Cond.methodLink RL 122 yX11_wouldChange ∈ WL := WL_in (tb4 (List.mem_of_getElem? (i := 111) rfl)) rfl
theorem mlX11_231 : Cond.methodLink RX11 231 yX11_linesChangedWith ∈ WL := WL_in (tb4 (List.mem_of_getElem? (i := 115) rfl)) rfl
theorem mlX11_364 : Cond.methodLink RX11 364 yX5_copy ∈ WL := WL_in (tb4 (List.mem_of_getElem? (i := 119) rfl)) rfl
theorem mlL_126 : Cond.methodLink RL 126 yX11_changesWith ∈ WL := WL_in (tb4 (List.mem_of_getElem? (i := 120) rfl)) rfl
theorem mlX11_234 : Cond.methodLink RX11 234 yJ6_bitCount_0f7a4 ∈ WL := WL_in (tb4 (List.mem_of_getElem? (i := 124) rfl)) rfl
theorem mlL_130 : Cond.methodLink RL 130 yX11_fewestChanges ∈ WL := WL_in (tb4 (List.mem_of_getElem? (i := 130) rfl)) rfl
theorem mlX11_239 : Cond.methodLink RX11 239 yX11_findBestSetting ∈ WL := WL_in (tb4 (List.mem_of_getElem? (i := 134) rfl)) rfl
theorem mlL_134 : Cond.methodLink RL 134 yX11_bestStep ∈ WL := WL_in (tb4 (List.mem_of_getElem? (i := 138) rfl)) rfl
theorem mlL_138 : Cond.methodLink RL 138 yX11_bestBase ∈ WL := WL_in (tb4 (List.mem_of_getElem? (i := 142) rfl)) rfl
theorem mlL_142 : Cond.methodLink RL 142 yX11_tokens ∈ WL := WL_in (tb4 (List.mem_of_getElem? (i := 146) rfl)) rfl
theorem mlX11_242 : Cond.methodLink RX11 242 yX9_countIn ∈ WL := WL_in (tb4 (List.mem_of_getElem? (i := 150) rfl)) rfl
theorem mlL_146 : Cond.methodLink RL 146 yX11_tokenAt ∈ WL := WL_in (tb4 (List.mem_of_getElem? (i := 154) rfl)) rfl
theorem mlX11_245 : Cond.methodLink RX11 245 yX11_findToken ∈ WL := WL_in (tb4 (List.mem_of_getElem? (i := 158) rfl)) rfl
theorem mlL_150 : Cond.methodLink RL 150 yX11_tokenLength ∈ WL := WL_in (tb4 (List.mem_of_getElem? (i := 162) rfl)) rfl
theorem mlL_154 : Cond.methodLink RL 154 yX11_tokenKind ∈ WL := WL_in (tb4 (List.mem_of_getElem? (i := 166) rfl)) rfl
theorem mlL_158 : Cond.methodLink RL 158 yX11_openedBy ∈ WL := WL_in (tb4 (List.mem_of_getElem? (i := 170) rfl)) rfl
theorem mlX11_258 : Cond.methodLink RX11 258 yX11_placeOf ∈ WL := WL_in (tb4 (List.mem_of_getElem? (i := 174) rfl)) rfl
theorem mlL_162 : Cond.methodLink RL 162 yX11_closedBy ∈ WL := WL_in (tb4 (List.mem_of_getElem? (i := 178) rfl)) rfl
theorem mlL_166 : Cond.methodLink RL 166 yX11_depth ∈ WL := WL_in (tb4 (List.mem_of_getElem? (i := 182) rfl)) rfl
theorem mlL_170 : Cond.methodLink RL 170 yX11_blockRule ∈ WL := WL_in (tb4 (List.mem_of_getElem? (i := 186) rfl)) rfl
theorem mlX11_267 : Cond.methodLink RX11 267 yX11_findBlock ∈ WL := WL_in (tb4 (List.mem_of_getElem? (i := 190) rfl)) rfl
theorem mlX11_370 : Cond.methodLink RX11 370 yX0_openBefore ∈ WL := WL_in (tb4 (List.mem_of_getElem? (i := 194) rfl)) rfl
theorem mlL_174 : Cond.methodLink RL 174 yX11_blockOpening ∈ WL := WL_in (tb4 (List.mem_of_getElem? (i := 195) rfl)) rfl
theorem mlL_178 : Cond.methodLink RL 178 yX11_contentColumn ∈ WL := WL_in (tb4 (List.mem_of_getElem? (i := 199) rfl)) rfl
theorem mlX11_282 : Cond.methodLink RX11 282 yX11_columnFrom ∈ WL := WL_in (tb4 (List.mem_of_getElem? (i := 203) rfl)) rfl
theorem mlL_182 : Cond.methodLink RL 182 yX11_strays ∈ WL := WL_in (tb4 (List.mem_of_getElem? (i := 204) rfl)) rfl
theorem mlL_186 : Cond.methodLink RL 186 yX11_lost ∈ WL := WL_in (tb4 (List.mem_of_getElem? (i := 208) rfl)) rfl
theorem mlL_190 : Cond.methodLink RL 190 yX11_vocabulary ∈ WL := WL_in (tb4 (List.mem_of_getElem? (i := 212) rfl)) rfl
theorem mlX11_291 : Cond.methodLink RX11 291 yX10_count ∈ WL := WL_in (tb4 (List.mem_of_getElem? (i := 216) rfl)) rfl
theorem mlX10_35 : Cond.methodLink RX10 35 yX5_get ∈ WL := WL_in (tb4 (List.mem_of_getElem? (i := 220) rfl)) rfl
theorem mlX10_39 : Cond.methodLink RX10 39 yX10_countToken ∈ WL := WL_in (tb4 (List.mem_of_getElem? (i := 221) rfl)) rfl
theorem mlX10_43 : Cond.methodLink RX10 43 yX10_sameText ∈ WL := WL_in (tb4 (List.mem_of_getElem? (i := 225) rfl)) rfl
theorem mlX10_60 : Cond.methodLink RX10 60 yX3_byteOf ∈ WL := WL_in (tb4 (List.mem_of_getElem? (i := 228) rfl)) rfl
theorem mlX10_47 : Cond.methodLink RX10 47 yX5_set ∈ WL := WL_in (tb4 (List.mem_of_getElem? (i := 229) rfl)) rfl
theorem mlL_194 : Cond.methodLink RL 194 yX11_commonestCount ∈ WL := WL_in (tb4 (List.mem_of_getElem? (i := 230) rfl)) rfl
theorem mlX11_296 : Cond.methodLink RX11 296 yX10_commonest ∈ WL := WL_in (tb4 (List.mem_of_getElem? (i := 234) rfl)) rfl
theorem mlL_198 : Cond.methodLink RL 198 yX11_commonestByte ∈ WL := WL_in (tb4 (List.mem_of_getElem? (i := 238) rfl)) rfl
theorem mlL_202 : Cond.methodLink RL 202 yX11_undo ∈ WL := WL_in (tb5 (List.mem_of_getElem? (i := 2) rfl)) rfl
theorem mlX11_306 : Cond.methodLink RX11 306 yX2_takeLatest ∈ WL := WL_in (tb5 (List.mem_of_getElem? (i := 6) rfl)) rfl
theorem mlL_206 : Cond.methodLink RL 206 yX11_keep ∈ WL := WL_in (tb5 (List.mem_of_getElem? (i := 10) rfl)) rfl
theorem mlX11_310 : Cond.methodLink RX11 310 yX11_imageAt ∈ WL := WL_in (tb5 (List.mem_of_getElem? (i := 14) rfl)) rfl
theorem mlX11_314 : Cond.methodLink RX11 314 yX8_copy ∈ WL := WL_in (tb5 (List.mem_of_getElem? (i := 18) rfl)) rfl
theorem mlL_210 : Cond.methodLink RL 210 yX11_back ∈ WL := WL_in (tb5 (List.mem_of_getElem? (i := 19) rfl)) rfl
theorem mlL_214 : Cond.methodLink RL 214 yX11_draw ∈ WL := WL_in (tb5 (List.mem_of_getElem? (i := 23) rfl)) rfl
theorem mlX11_322 : Cond.methodLink RX11 322 yX11_drawLine ∈ WL := WL_in (tb5 (List.mem_of_getElem? (i := 27) rfl)) rfl
theorem mlX11_373 : Cond.methodLink RX11 373 yX11_nextSeed ∈ WL := WL_in (tb5 (List.mem_of_getElem? (i := 31) rfl)) rfl
theorem mlX11_376 : Cond.methodLink RX11 376 yX11_drawnNumber ∈ WL := WL_in (tb5 (List.mem_of_getElem? (i := 35) rfl)) rfl
theorem mlX11_379 : Cond.methodLink RX11 379 yX3_append ∈ WL := WL_in (tb5 (List.mem_of_getElem? (i := 38) rfl)) rfl
theorem mlX11_382 : Cond.methodLink RX11 382 yX11_pieceText ∈ WL := WL_in (tb5 (List.mem_of_getElem? (i := 39) rfl)) rfl
theorem mlX11_386 : Cond.methodLink RX11 386 yJ0_length_8abf5 ∈ WL := WL_in (tb5 (List.mem_of_getElem? (i := 58) rfl)) rfl
theorem mlJ0_335 : Cond.methodLink RJ0 335 yJ0_coder_7d493 ∈ WL := WL_in (tb5 (List.mem_of_getElem? (i := 62) rfl)) rfl
theorem mlX11_391 : Cond.methodLink RX11 391 yJ0_charAt_5068e ∈ WL := WL_in (tb5 (List.mem_of_getElem? (i := 68) rfl)) rfl
theorem mlJ0_492 : Cond.methodLink RJ0 492 yJ0_isLatin1_aae02 ∈ WL := WL_in (tb5 (List.mem_of_getElem? (i := 72) rfl)) rfl
theorem mlJ0_495 : Cond.methodLink RJ0 495 yJ1_charAt_3b067 ∈ WL := WL_in (tb5 (List.mem_of_getElem? (i := 76) rfl)) rfl
theorem mlJ1_9 : Cond.methodLink RJ1 9 yJ0_checkIndex_df160 ∈ WL := WL_in (tb5 (List.mem_of_getElem? (i := 79) rfl)) rfl
theorem mlJ0_1059 : Cond.methodLink RJ0 1059 yJ3_checkIndex_8e157 ∈ WL := WL_in (tb5 (List.mem_of_getElem? (i := 84) rfl)) rfl
theorem mlJ0_498 : Cond.methodLink RJ0 498 yJ2_charAt_3b067 ∈ WL := WL_in (tb5 (List.mem_of_getElem? (i := 87) rfl)) rfl
theorem mlJ2_67 : Cond.methodLink RJ2 67 yJ2_checkIndex_2214a ∈ WL := WL_in (tb5 (List.mem_of_getElem? (i := 90) rfl)) rfl
theorem mlJ2_48 : Cond.methodLink RJ2 48 yJ2_length_9d52b ∈ WL := WL_in (tb5 (List.mem_of_getElem? (i := 93) rfl)) rfl
theorem mlJ2_414 : Cond.methodLink RJ2 414 yJ0_checkIndex_df160 ∈ WL := WL_in (tb5 (List.mem_of_getElem? (i := 96) rfl)) rfl
theorem mlJ2_71 : Cond.methodLink RJ2 71 yJ2_getChar_3b067 ∈ WL := WL_in (tb5 (List.mem_of_getElem? (i := 97) rfl)) rfl
theorem mlL_218 : Cond.methodLink RL 218 yX11_digest ∈ WL := WL_in (tb5 (List.mem_of_getElem? (i := 107) rfl)) rfl
theorem mlX11_327 : Cond.methodLink RX11 327 yX11_mix ∈ WL := WL_in (tb5 (List.mem_of_getElem? (i := 112) rfl)) rfl
theorem mlX11_331 : Cond.methodLink RX11 331 yX11_mixLine ∈ WL := WL_in (tb5 (List.mem_of_getElem? (i := 116) rfl)) rfl
theorem mlX11_334 : Cond.methodLink RX11 334 yX7_mixRule ∈ WL := WL_in (tb5 (List.mem_of_getElem? (i := 120) rfl)) rfl
theorem mlX7_60 : Cond.methodLink RX7 60 yX7_mixText ∈ WL := WL_in (tb5 (List.mem_of_getElem? (i := 125) rfl)) rfl
theorem mlL_12 : Cond.methodLink RL 12 yX12_init ∈ WL := WL_in (tb5 (List.mem_of_getElem? (i := 131) rfl)) rfl
theorem mlL_17 : Cond.methodLink RL 17 yX12_type ∈ WL := WL_in (tb6 (List.mem_of_getElem? (i := 20) rfl)) rfl
theorem mlX12_79 : Cond.methodLink RX12 79 yX12_in ∈ WL := WL_in (tb6 (List.mem_of_getElem? (i := 24) rfl)) rfl
theorem mlL_22 : Cond.methodLink RL 22 yX12_clear ∈ WL := WL_in (tb6 (List.mem_of_getElem? (i := 27) rfl)) rfl
theorem mlL_26 : Cond.methodLink RL 26 yX12_insertLine ∈ WL := WL_in (tb6 (List.mem_of_getElem? (i := 31) rfl)) rfl
theorem mlX12_203 : Cond.methodLink RX12 203 yX12_isLineText ∈ WL := WL_in (tb6 (List.mem_of_getElem? (i := 35) rfl)) rfl
theorem mlX12_207 : Cond.methodLink RX12 207 yX12_begins ∈ WL := WL_in (tb6 (List.mem_of_getElem? (i := 39) rfl)) rfl
theorem mlX12_75 : Cond.methodLink RX12 75 yX12_copies ∈ WL := WL_in (tb6 (List.mem_of_getElem? (i := 43) rfl)) rfl
theorem mlX12_210 : Cond.methodLink RX12 210 yX12_parts ∈ WL := WL_in (tb6 (List.mem_of_getElem? (i := 47) rfl)) rfl
theorem mlX12_200 : Cond.methodLink RX12 200 yX12_copiesLine ∈ WL := WL_in (tb6 (List.mem_of_getElem? (i := 51) rfl)) rfl
theorem mlX12_213 : Cond.methodLink RX12 213 yX12_writes ∈ WL := WL_in (tb6 (List.mem_of_getElem? (i := 55) rfl)) rfl
theorem mlL_30 : Cond.methodLink RL 30 yX12_replaceLine ∈ WL := WL_in (tb6 (List.mem_of_getElem? (i := 59) rfl)) rfl
theorem mlX12_216 : Cond.methodLink RX12 216 yX12_isLine ∈ WL := WL_in (tb6 (List.mem_of_getElem? (i := 63) rfl)) rfl
theorem mlL_34 : Cond.methodLink RL 34 yX12_removeLine ∈ WL := WL_in (tb6 (List.mem_of_getElem? (i := 67) rfl)) rfl
theorem mlX12_219 : Cond.methodLink RX12 219 yX12_drops ∈ WL := WL_in (tb6 (List.mem_of_getElem? (i := 71) rfl)) rfl
theorem mlL_39 : Cond.methodLink RL 39 yX12_splitLine ∈ WL := WL_in (tb6 (List.mem_of_getElem? (i := 75) rfl)) rfl
theorem mlX12_83 : Cond.methodLink RX12 83 yX12_contentAt ∈ WL := WL_in (tb6 (List.mem_of_getElem? (i := 79) rfl)) rfl
theorem mlX12_222 : Cond.methodLink RX12 222 yX12_uses ∈ WL := WL_in (tb6 (List.mem_of_getElem? (i := 83) rfl)) rfl
theorem mlX12_151 : Cond.methodLink RX12 151 yX12_looks ∈ WL := WL_in (tb6 (List.mem_of_getElem? (i := 87) rfl)) rfl
theorem mlX12_138 : Cond.methodLink RX12 138 yX12_tokenizes ∈ WL := WL_in (tb6 (List.mem_of_getElem? (i := 91) rfl)) rfl
theorem mlX12_114 : Cond.methodLink RX12 114 yX12_isBlank ∈ WL := WL_in (tb6 (List.mem_of_getElem? (i := 95) rfl)) rfl
theorem mlX12_101 : Cond.methodLink RX12 101 yX12_endOfLiteral ∈ WL := WL_in (tb6 (List.mem_of_getElem? (i := 99) rfl)) rfl
theorem mlX12_87 : Cond.methodLink RX12 87 yX12_isTriple ∈ WL := WL_in (tb6 (List.mem_of_getElem? (i := 103) rfl)) rfl
theorem mlX12_117 : Cond.methodLink RX12 117 yX12_divides ∈ WL := WL_in (tb6 (List.mem_of_getElem? (i := 107) rfl)) rfl
theorem mlX12_104 : Cond.methodLink RX12 104 yX12_adds ∈ WL := WL_in (tb6 (List.mem_of_getElem? (i := 111) rfl)) rfl
theorem mlX12_108 : Cond.methodLink RX12 108 yX12_endOfString ∈ WL := WL_in (tb6 (List.mem_of_getElem? (i := 115) rfl)) rfl
theorem mlX12_91 : Cond.methodLink RX12 91 yX12_least ∈ WL := WL_in (tb6 (List.mem_of_getElem? (i := 119) rfl)) rfl
theorem mlX12_94 : Cond.methodLink RX12 94 yX12_isWord ∈ WL := WL_in (tb6 (List.mem_of_getElem? (i := 122) rfl)) rfl
theorem mlX12_111 : Cond.methodLink RX12 111 yX12_endOfWord ∈ WL := WL_in (tb6 (List.mem_of_getElem? (i := 125) rfl)) rfl
theorem mlX12_141 : Cond.methodLink RX12 141 yX12_notes ∈ WL := WL_in (tb6 (List.mem_of_getElem? (i := 129) rfl)) rfl
theorem mlX12_145 : Cond.methodLink RX12 145 yX12_shuts ∈ WL := WL_in (tb6 (List.mem_of_getElem? (i := 133) rfl)) rfl
theorem mlX12_123 : Cond.methodLink RX12 123 yX12_hasText ∈ WL := WL_in (tb6 (List.mem_of_getElem? (i := 137) rfl)) rfl
theorem mlX12_120 : Cond.methodLink RX12 120 yX12_ruleAt ∈ WL := WL_in (tb6 (List.mem_of_getElem? (i := 141) rfl)) rfl
theorem mlX12_132 : Cond.methodLink RX12 132 yX12_isClosingText ∈ WL := WL_in (tb6 (List.mem_of_getElem? (i := 145) rfl)) rfl
theorem mlX12_148 : Cond.methodLink RX12 148 yX12_ruleFor ∈ WL := WL_in (tb6 (List.mem_of_getElem? (i := 149) rfl)) rfl
theorem mlX12_185 : Cond.methodLink RX12 185 yX12_isFree ∈ WL := WL_in (tb6 (List.mem_of_getElem? (i := 153) rfl)) rfl
theorem mlX12_188 : Cond.methodLink RX12 188 yX12_decides ∈ WL := WL_in (tb6 (List.mem_of_getElem? (i := 157) rfl)) rfl
theorem mlX12_179 : Cond.methodLink RX12 179 yX12_columnIn ∈ WL := WL_in (tb6 (List.mem_of_getElem? (i := 161) rfl)) rfl
theorem mlX12_160 : Cond.methodLink RX12 160 yX12_isAligned ∈ WL := WL_in (tb6 (List.mem_of_getElem? (i := 165) rfl)) rfl
theorem mlX12_163 : Cond.methodLink RX12 163 yX12_columnOf ∈ WL := WL_in (tb6 (List.mem_of_getElem? (i := 169) rfl)) rfl
theorem mlX12_182 : Cond.methodLink RX12 182 yX12_offers ∈ WL := WL_in (tb6 (List.mem_of_getElem? (i := 173) rfl)) rfl
theorem mlL_43 : Cond.methodLink RL 43 yX12_joinLines ∈ WL := WL_in (tb6 (List.mem_of_getElem? (i := 177) rfl)) rfl
theorem mlL_48 : Cond.methodLink RL 48 yX12_shift ∈ WL := WL_in (tb6 (List.mem_of_getElem? (i := 181) rfl)) rfl
theorem mlX12_225 : Cond.methodLink RX12 225 yX12_isRange ∈ WL := WL_in (tb6 (List.mem_of_getElem? (i := 185) rfl)) rfl
theorem mlL_52 : Cond.methodLink RL 52 yX12_pin ∈ WL := WL_in (tb6 (List.mem_of_getElem? (i := 189) rfl)) rfl
theorem mlL_56 : Cond.methodLink RL 56 yX12_reindent ∈ WL := WL_in (tb6 (List.mem_of_getElem? (i := 193) rfl)) rfl
theorem mlX12_228 : Cond.methodLink RX12 228 yX12_settles ∈ WL := WL_in (tb6 (List.mem_of_getElem? (i := 197) rfl)) rfl
theorem mlX12_231 : Cond.methodLink RX12 231 yX12_bits ∈ WL := WL_in (tb6 (List.mem_of_getElem? (i := 201) rfl)) rfl
theorem mlL_60 : Cond.methodLink RL 60 yX12_lines ∈ WL := WL_in (tb6 (List.mem_of_getElem? (i := 204) rfl)) rfl
theorem mlL_64 : Cond.methodLink RL 64 yX12_indentation ∈ WL := WL_in (tb6 (List.mem_of_getElem? (i := 208) rfl)) rfl
theorem mlL_68 : Cond.methodLink RL 68 yX12_length ∈ WL := WL_in (tb6 (List.mem_of_getElem? (i := 212) rfl)) rfl
theorem mlL_72 : Cond.methodLink RL 72 yX12_byteAt ∈ WL := WL_in (tb6 (List.mem_of_getElem? (i := 216) rfl)) rfl
theorem mlL_76 : Cond.methodLink RL 76 yX12_isProtected ∈ WL := WL_in (tb6 (List.mem_of_getElem? (i := 220) rfl)) rfl
theorem mlL_80 : Cond.methodLink RL 80 yX12_isPinned ∈ WL := WL_in (tb6 (List.mem_of_getElem? (i := 224) rfl)) rfl
theorem mlL_84 : Cond.methodLink RL 84 yX12_setStep ∈ WL := WL_in (tb6 (List.mem_of_getElem? (i := 228) rfl)) rfl
theorem mlX12_234 : Cond.methodLink RX12 234 yX12_sets ∈ WL := WL_in (tb6 (List.mem_of_getElem? (i := 232) rfl)) rfl
theorem mlL_88 : Cond.methodLink RL 88 yX12_setBase ∈ WL := WL_in (tb6 (List.mem_of_getElem? (i := 236) rfl)) rfl
theorem mlL_92 : Cond.methodLink RL 92 yX12_setComment ∈ WL := WL_in (tb7 (List.mem_of_getElem? (i := 0) rfl)) rfl
theorem mlL_97 : Cond.methodLink RL 97 yX12_pair ∈ WL := WL_in (tb7 (List.mem_of_getElem? (i := 4) rfl)) rfl
theorem mlX12_252 : Cond.methodLink RX12 252 yX12_isRule ∈ WL := WL_in (tb7 (List.mem_of_getElem? (i := 8) rfl)) rfl
theorem mlX12_255 : Cond.methodLink RX12 255 yX12_makes ∈ WL := WL_in (tb7 (List.mem_of_getElem? (i := 11) rfl)) rfl
theorem mlX12_246 : Cond.methodLink RX12 246 yX12_readsTexts ∈ WL := WL_in (tb7 (List.mem_of_getElem? (i := 15) rfl)) rfl
theorem mlX12_243 : Cond.methodLink RX12 243 yX12_readsOne ∈ WL := WL_in (tb7 (List.mem_of_getElem? (i := 19) rfl)) rfl
theorem mlX12_240 : Cond.methodLink RX12 240 yX12_skips ∈ WL := WL_in (tb7 (List.mem_of_getElem? (i := 23) rfl)) rfl
theorem mlX12_249 : Cond.methodLink RX12 249 yX12_writesText ∈ WL := WL_in (tb7 (List.mem_of_getElem? (i := 27) rfl)) rfl
theorem mlL_101 : Cond.methodLink RL 101 yX12_starter ∈ WL := WL_in (tb7 (List.mem_of_getElem? (i := 31) rfl)) rfl
theorem mlL_105 : Cond.methodLink RL 105 yX12_joiner ∈ WL := WL_in (tb7 (List.mem_of_getElem? (i := 35) rfl)) rfl
theorem mlL_109 : Cond.methodLink RL 109 yX12_dropRule ∈ WL := WL_in (tb7 (List.mem_of_getElem? (i := 39) rfl)) rfl
theorem mlL_113 : Cond.methodLink RL 113 yX12_wanted ∈ WL := WL_in (tb7 (List.mem_of_getElem? (i := 43) rfl)) rfl
theorem mlX12_259 : Cond.methodLink RX12 259 yX12_isDecided ∈ WL := WL_in (tb7 (List.mem_of_getElem? (i := 47) rfl)) rfl
theorem mlL_117 : Cond.methodLink RL 117 yX12_reason ∈ WL := WL_in (tb7 (List.mem_of_getElem? (i := 51) rfl)) rfl
theorem mlL_121 : Cond.methodLink RL 121 yX12_decidingRule ∈ WL := WL_in (tb7 (List.mem_of_getElem? (i := 55) rfl)) rfl
theorem mlL_125 : Cond.methodLink RL 125 yX12_wouldChange ∈ WL := WL_in (tb7 (List.mem_of_getElem? (i := 59) rfl)) rfl
theorem mlL_129 : Cond.methodLink RL 129 yX12_changesWith ∈ WL := WL_in (tb7 (List.mem_of_getElem? (i := 63) rfl)) rfl
theorem mlX12_262 : Cond.methodLink RX12 262 yX12_changesBy ∈ WL := WL_in (tb7 (List.mem_of_getElem? (i := 67) rfl)) rfl
theorem mlL_133 : Cond.methodLink RL 133 yX12_fewestChanges ∈ WL := WL_in (tb7 (List.mem_of_getElem? (i := 71) rfl)) rfl
theorem mlX12_274 : Cond.methodLink RX12 274 yX12_searches ∈ WL := WL_in (tb7 (List.mem_of_getElem? (i := 75) rfl)) rfl
theorem mlL_137 : Cond.methodLink RL 137 yX12_bestStep ∈ WL := WL_in (tb7 (List.mem_of_getElem? (i := 79) rfl)) rfl
theorem mlL_141 : Cond.methodLink RL 141 yX12_bestBase ∈ WL := WL_in (tb7 (List.mem_of_getElem? (i := 83) rfl)) rfl
theorem mlL_145 : Cond.methodLink RL 145 yX12_tokens ∈ WL := WL_in (tb7 (List.mem_of_getElem? (i := 87) rfl)) rfl
theorem mlL_149 : Cond.methodLink RL 149 yX12_tokenAt ∈ WL := WL_in (tb7 (List.mem_of_getElem? (i := 91) rfl)) rfl
theorem mlX12_277 : Cond.methodLink RX12 277 yX12_tokenOf ∈ WL := WL_in (tb7 (List.mem_of_getElem? (i := 95) rfl)) rfl
theorem mlL_153 : Cond.methodLink RL 153 yX12_tokenLength ∈ WL := WL_in (tb7 (List.mem_of_getElem? (i := 99) rfl)) rfl
theorem mlL_157 : Cond.methodLink RL 157 yX12_tokenKind ∈ WL := WL_in (tb7 (List.mem_of_getElem? (i := 103) rfl)) rfl
theorem mlL_161 : Cond.methodLink RL 161 yX12_openedBy ∈ WL := WL_in (tb7 (List.mem_of_getElem? (i := 107) rfl)) rfl
theorem mlX12_280 : Cond.methodLink RX12 280 yX12_placeOf ∈ WL := WL_in (tb7 (List.mem_of_getElem? (i := 111) rfl)) rfl
theorem mlL_165 : Cond.methodLink RL 165 yX12_closedBy ∈ WL := WL_in (tb7 (List.mem_of_getElem? (i := 115) rfl)) rfl
theorem mlL_169 : Cond.methodLink RL 169 yX12_depth ∈ WL := WL_in (tb7 (List.mem_of_getElem? (i := 119) rfl)) rfl
theorem mlL_173 : Cond.methodLink RL 173 yX12_blockRule ∈ WL := WL_in (tb7 (List.mem_of_getElem? (i := 123) rfl)) rfl
theorem mlX12_283 : Cond.methodLink RX12 283 yX12_blockOf ∈ WL := WL_in (tb7 (List.mem_of_getElem? (i := 127) rfl)) rfl
theorem mlL_177 : Cond.methodLink RL 177 yX12_blockOpening ∈ WL := WL_in (tb7 (List.mem_of_getElem? (i := 131) rfl)) rfl
theorem mlL_181 : Cond.methodLink RL 181 yX12_contentColumn ∈ WL := WL_in (tb7 (List.mem_of_getElem? (i := 135) rfl)) rfl
theorem mlL_185 : Cond.methodLink RL 185 yX12_strays ∈ WL := WL_in (tb7 (List.mem_of_getElem? (i := 139) rfl)) rfl
theorem mlL_189 : Cond.methodLink RL 189 yX12_lost ∈ WL := WL_in (tb7 (List.mem_of_getElem? (i := 143) rfl)) rfl
theorem mlL_193 : Cond.methodLink RL 193 yX12_vocabulary ∈ WL := WL_in (tb7 (List.mem_of_getElem? (i := 147) rfl)) rfl
theorem mlX12_289 : Cond.methodLink RX12 289 yX12_isFirst ∈ WL := WL_in (tb7 (List.mem_of_getElem? (i := 151) rfl)) rfl
theorem mlX12_286 : Cond.methodLink RX12 286 yX12_isSame ∈ WL := WL_in (tb7 (List.mem_of_getElem? (i := 155) rfl)) rfl
theorem mlL_197 : Cond.methodLink RL 197 yX12_commonestCount ∈ WL := WL_in (tb7 (List.mem_of_getElem? (i := 159) rfl)) rfl
theorem mlX12_295 : Cond.methodLink RX12 295 yX12_commonest ∈ WL := WL_in (tb7 (List.mem_of_getElem? (i := 163) rfl)) rfl
theorem mlL_201 : Cond.methodLink RL 201 yX12_commonestByte ∈ WL := WL_in (tb7 (List.mem_of_getElem? (i := 167) rfl)) rfl
theorem mlL_205 : Cond.methodLink RL 205 yX12_undo ∈ WL := WL_in (tb7 (List.mem_of_getElem? (i := 171) rfl)) rfl
theorem mlL_209 : Cond.methodLink RL 209 yX12_keep ∈ WL := WL_in (tb7 (List.mem_of_getElem? (i := 175) rfl)) rfl
theorem mlL_213 : Cond.methodLink RL 213 yX12_back ∈ WL := WL_in (tb7 (List.mem_of_getElem? (i := 179) rfl)) rfl
theorem mlL_217 : Cond.methodLink RL 217 yX12_draw ∈ WL := WL_in (tb7 (List.mem_of_getElem? (i := 183) rfl)) rfl
theorem mlX12_306 : Cond.methodLink RX12 306 yX12_drawsLine ∈ WL := WL_in (tb7 (List.mem_of_getElem? (i := 187) rfl)) rfl
theorem mlX12_303 : Cond.methodLink RX12 303 yX12_draws ∈ WL := WL_in (tb7 (List.mem_of_getElem? (i := 191) rfl)) rfl
theorem mlL_222 : Cond.methodLink RL 222 yX12_digest ∈ WL := WL_in (tb7 (List.mem_of_getElem? (i := 196) rfl)) rfl
theorem mlX12_315 : Cond.methodLink RX12 315 yX12_mixes ∈ WL := WL_in (tb7 (List.mem_of_getElem? (i := 201) rfl)) rfl
theorem mlX12_323 : Cond.methodLink RX12 323 yX12_mixesRule ∈ WL := WL_in (tb7 (List.mem_of_getElem? (i := 206) rfl)) rfl
theorem mlX12_318 : Cond.methodLink RX12 318 yX12_mixesText ∈ WL := WL_in (tb7 (List.mem_of_getElem? (i := 210) rfl)) rfl
end
