-- ===== PART A: goes FIRST, ahead of the names: the tables' words, and 'selects' of the private methods out of them =====
/-- a private method of a class that the tables say can be made, by its rows of tables_1 -/
def lw_okq (q : MethodName × Nat) : Prop := (q.1.cls ≠ "java/lang/invoke/MethodHandle" ∧ q.1.cls ≠ "java/lang/invoke/VarHandle") ∧ Cond.instantiable q.1.cls q.2 ∈ tables_1 ∧ Cond.privateMethod q.1 ∈ tables_1 ∧ Cond.instanceMethod q.1 ∈ tables_1
theorem lw_p0 : lw_okq (⟨"DioceseBook", "isLiving", "(I)Z"⟩, 11) := ⟨⟨by decide +kernel, by decide +kernel⟩, List.mem_of_getElem? (i := 22) (by decide +kernel), List.mem_of_getElem? (i := 544) (by decide +kernel), List.mem_of_getElem? (i := 545) (by decide +kernel)⟩
theorem lw_p1 : lw_okq (⟨"DioceseBook", "isPerson", "(I)Z"⟩, 11) := ⟨⟨by decide +kernel, by decide +kernel⟩, List.mem_of_getElem? (i := 22) (by decide +kernel), List.mem_of_getElem? (i := 548) (by decide +kernel), List.mem_of_getElem? (i := 549) (by decide +kernel)⟩
theorem lw_p2 : lw_okq (⟨"DioceseBook", "isPaper", "(I)Z"⟩, 11) := ⟨⟨by decide +kernel, by decide +kernel⟩, List.mem_of_getElem? (i := 22) (by decide +kernel), List.mem_of_getElem? (i := 571) (by decide +kernel), List.mem_of_getElem? (i := 572) (by decide +kernel)⟩
theorem lw_p3 : lw_okq (⟨"DioceseBook$Papers", "markVoid", "(I)V"⟩, 14) := ⟨⟨by decide +kernel, by decide +kernel⟩, List.mem_of_getElem? (i := 64) (by decide +kernel), List.mem_of_getElem? (i := 591) (by decide +kernel), List.mem_of_getElem? (i := 592) (by decide +kernel)⟩
theorem lw_p4 : lw_okq (⟨"DioceseBook", "isKnowable", "(I)Z"⟩, 11) := ⟨⟨by decide +kernel, by decide +kernel⟩, List.mem_of_getElem? (i := 22) (by decide +kernel), List.mem_of_getElem? (i := 606) (by decide +kernel), List.mem_of_getElem? (i := 607) (by decide +kernel)⟩
theorem lw_p5 : lw_okq (⟨"DioceseBook$Story", "clearAll", "()V"⟩, 13) := ⟨⟨by decide +kernel, by decide +kernel⟩, List.mem_of_getElem? (i := 222) (by decide +kernel), List.mem_of_getElem? (i := 631) (by decide +kernel), List.mem_of_getElem? (i := 632) (by decide +kernel)⟩
theorem lw_p6 : lw_okq (⟨"DioceseBook$Story", "fallFromAllBut", "(IIII)V"⟩, 13) := ⟨⟨by decide +kernel, by decide +kernel⟩, List.mem_of_getElem? (i := 222) (by decide +kernel), List.mem_of_getElem? (i := 647) (by decide +kernel), List.mem_of_getElem? (i := 648) (by decide +kernel)⟩
theorem lw_p7 : lw_okq (⟨"DioceseBook$Story", "fall", "(III)V"⟩, 13) := ⟨⟨by decide +kernel, by decide +kernel⟩, List.mem_of_getElem? (i := 222) (by decide +kernel), List.mem_of_getElem? (i := 651) (by decide +kernel), List.mem_of_getElem? (i := 652) (by decide +kernel)⟩
theorem lw_p8 : lw_okq (⟨"DioceseBook$Story", "takeIn", "(II)V"⟩, 13) := ⟨⟨by decide +kernel, by decide +kernel⟩, List.mem_of_getElem? (i := 222) (by decide +kernel), List.mem_of_getElem? (i := 674) (by decide +kernel), List.mem_of_getElem? (i := 675) (by decide +kernel)⟩
theorem lw_p9 : lw_okq (⟨"DioceseBook$Canons", "struckBy", "(I)I"⟩, 14) := ⟨⟨by decide +kernel, by decide +kernel⟩, List.mem_of_getElem? (i := 140) (by decide +kernel), List.mem_of_getElem? (i := 702) (by decide +kernel), List.mem_of_getElem? (i := 703) (by decide +kernel)⟩
theorem lw_p10 : lw_okq (⟨"DioceseBook$Canons", "letAll", "(I)V"⟩, 14) := ⟨⟨by decide +kernel, by decide +kernel⟩, List.mem_of_getElem? (i := 140) (by decide +kernel), List.mem_of_getElem? (i := 712) (by decide +kernel), List.mem_of_getElem? (i := 713) (by decide +kernel)⟩
theorem lw_p11 : lw_okq (⟨"DioceseBook$Canons", "isMet", "(II[I)Z"⟩, 14) := ⟨⟨by decide +kernel, by decide +kernel⟩, List.mem_of_getElem? (i := 140) (by decide +kernel), List.mem_of_getElem? (i := 716) (by decide +kernel), List.mem_of_getElem? (i := 717) (by decide +kernel)⟩
theorem lw_p12 : lw_okq (⟨"DioceseBook$Story", "lapsedTo", "(II)I"⟩, 13) := ⟨⟨by decide +kernel, by decide +kernel⟩, List.mem_of_getElem? (i := 222) (by decide +kernel), List.mem_of_getElem? (i := 729) (by decide +kernel), List.mem_of_getElem? (i := 730) (by decide +kernel)⟩
theorem lw_p13 : lw_okq (⟨"DioceseBook$Rights", "firstSold", "(II)I"⟩, 7) := ⟨⟨by decide +kernel, by decide +kernel⟩, List.mem_of_getElem? (i := 229) (by decide +kernel), List.mem_of_getElem? (i := 752) (by decide +kernel), List.mem_of_getElem? (i := 753) (by decide +kernel)⟩
theorem lw_p14 : lw_okq (⟨"DioceseBook$Rights", "livingHeir", "(II)I"⟩, 7) := ⟨⟨by decide +kernel, by decide +kernel⟩, List.mem_of_getElem? (i := 229) (by decide +kernel), List.mem_of_getElem? (i := 756) (by decide +kernel), List.mem_of_getElem? (i := 757) (by decide +kernel)⟩
theorem lw_p15 : lw_okq (⟨"DioceseBook$Story", "otherToKeep", "(III)I"⟩, 13) := ⟨⟨by decide +kernel, by decide +kernel⟩, List.mem_of_getElem? (i := 222) (by decide +kernel), List.mem_of_getElem? (i := 766) (by decide +kernel), List.mem_of_getElem? (i := 767) (by decide +kernel)⟩
def lw_privs_1 : List (MethodName × Nat) := [(⟨"DioceseBook", "isLiving", "(I)Z"⟩, 11), (⟨"DioceseBook", "isPerson", "(I)Z"⟩, 11), (⟨"DioceseBook", "isPaper", "(I)Z"⟩, 11), (⟨"DioceseBook$Papers", "markVoid", "(I)V"⟩, 14), (⟨"DioceseBook", "isKnowable", "(I)Z"⟩, 11), (⟨"DioceseBook$Story", "clearAll", "()V"⟩, 13), (⟨"DioceseBook$Story", "fallFromAllBut", "(IIII)V"⟩, 13), (⟨"DioceseBook$Story", "fall", "(III)V"⟩, 13), (⟨"DioceseBook$Story", "takeIn", "(II)V"⟩, 13), (⟨"DioceseBook$Canons", "struckBy", "(I)I"⟩, 14), (⟨"DioceseBook$Canons", "letAll", "(I)V"⟩, 14), (⟨"DioceseBook$Canons", "isMet", "(II[I)Z"⟩, 14), (⟨"DioceseBook$Story", "lapsedTo", "(II)I"⟩, 13), (⟨"DioceseBook$Rights", "firstSold", "(II)I"⟩, 7), (⟨"DioceseBook$Rights", "livingHeir", "(II)I"⟩, 7), (⟨"DioceseBook$Story", "otherToKeep", "(III)I"⟩, 13)]
theorem lw_r1 : ∀ q ∈ lw_privs_1, lw_okq q := List.forall_mem_cons.mpr ⟨lw_p0, List.forall_mem_cons.mpr ⟨lw_p1, List.forall_mem_cons.mpr ⟨lw_p2, List.forall_mem_cons.mpr ⟨lw_p3, List.forall_mem_cons.mpr ⟨lw_p4, List.forall_mem_cons.mpr ⟨lw_p5, List.forall_mem_cons.mpr ⟨lw_p6, List.forall_mem_cons.mpr ⟨lw_p7, List.forall_mem_cons.mpr ⟨lw_p8, List.forall_mem_cons.mpr ⟨lw_p9, List.forall_mem_cons.mpr ⟨lw_p10, List.forall_mem_cons.mpr ⟨lw_p11, List.forall_mem_cons.mpr ⟨lw_p12, List.forall_mem_cons.mpr ⟨lw_p13, List.forall_mem_cons.mpr ⟨lw_p14, List.forall_mem_cons.mpr ⟨lw_p15, fun _ h => absurd h List.not_mem_nil⟩⟩⟩⟩⟩⟩⟩⟩⟩⟩⟩⟩⟩⟩⟩⟩
theorem lw_p16 : lw_okq (⟨"DioceseBook$Story", "mayHoldBoth", "(IIII)Z"⟩, 13) := ⟨⟨by decide +kernel, by decide +kernel⟩, List.mem_of_getElem? (i := 222) (by decide +kernel), List.mem_of_getElem? (i := 770) (by decide +kernel), List.mem_of_getElem? (i := 771) (by decide +kernel)⟩
theorem lw_p17 : lw_okq (⟨"DioceseBook$Reader", "isAtEnd", "()Z"⟩, 6) := ⟨⟨by decide +kernel, by decide +kernel⟩, List.mem_of_getElem? (i := 194) (by decide +kernel), List.mem_of_getElem? (i := 810) (by decide +kernel), List.mem_of_getElem? (i := 811) (by decide +kernel)⟩
theorem lw_p18 : lw_okq (⟨"DioceseBook$Reader", "skipBlanks", "()V"⟩, 6) := ⟨⟨by decide +kernel, by decide +kernel⟩, List.mem_of_getElem? (i := 194) (by decide +kernel), List.mem_of_getElem? (i := 814) (by decide +kernel), List.mem_of_getElem? (i := 815) (by decide +kernel)⟩
theorem lw_p19 : lw_okq (⟨"DioceseBook$Reader", "clauseWord", "()I"⟩, 6) := ⟨⟨by decide +kernel, by decide +kernel⟩, List.mem_of_getElem? (i := 194) (by decide +kernel), List.mem_of_getElem? (i := 818) (by decide +kernel), List.mem_of_getElem? (i := 819) (by decide +kernel)⟩
theorem lw_p20 : lw_okq (⟨"DioceseBook$Reader", "takeWord", "(Ljava/lang/String;)Z"⟩, 6) := ⟨⟨by decide +kernel, by decide +kernel⟩, List.mem_of_getElem? (i := 194) (by decide +kernel), List.mem_of_getElem? (i := 823) (by decide +kernel), List.mem_of_getElem? (i := 824) (by decide +kernel)⟩
theorem lw_p21 : lw_okq (⟨"DioceseBook$Reader", "fail", "(II)V"⟩, 6) := ⟨⟨by decide +kernel, by decide +kernel⟩, List.mem_of_getElem? (i := 194) (by decide +kernel), List.mem_of_getElem? (i := 877) (by decide +kernel), List.mem_of_getElem? (i := 878) (by decide +kernel)⟩
theorem lw_p22 : lw_okq (⟨"DioceseBook$Reader", "readLet", "()V"⟩, 6) := ⟨⟨by decide +kernel, by decide +kernel⟩, List.mem_of_getElem? (i := 194) (by decide +kernel), List.mem_of_getElem? (i := 881) (by decide +kernel), List.mem_of_getElem? (i := 882) (by decide +kernel)⟩
theorem lw_p23 : lw_okq (⟨"DioceseBook$Reader", "nameWord", "()I"⟩, 6) := ⟨⟨by decide +kernel, by decide +kernel⟩, List.mem_of_getElem? (i := 194) (by decide +kernel), List.mem_of_getElem? (i := 885) (by decide +kernel), List.mem_of_getElem? (i := 886) (by decide +kernel)⟩
theorem lw_p24 : lw_okq (⟨"DioceseBook$Reader", "readNumber", "(I)I"⟩, 6) := ⟨⟨by decide +kernel, by decide +kernel⟩, List.mem_of_getElem? (i := 194) (by decide +kernel), List.mem_of_getElem? (i := 899) (by decide +kernel), List.mem_of_getElem? (i := 900) (by decide +kernel)⟩
theorem lw_p25 : lw_okq (⟨"DioceseBook$Reader", "expect", "(C)V"⟩, 6) := ⟨⟨by decide +kernel, by decide +kernel⟩, List.mem_of_getElem? (i := 194) (by decide +kernel), List.mem_of_getElem? (i := 903) (by decide +kernel), List.mem_of_getElem? (i := 904) (by decide +kernel)⟩
theorem lw_p26 : lw_okq (⟨"DioceseBook$Reader", "takeSign", "(C)Z"⟩, 6) := ⟨⟨by decide +kernel, by decide +kernel⟩, List.mem_of_getElem? (i := 194) (by decide +kernel), List.mem_of_getElem? (i := 907) (by decide +kernel), List.mem_of_getElem? (i := 908) (by decide +kernel)⟩
theorem lw_p27 : lw_okq (⟨"DioceseBook$Reader", "readBar", "()V"⟩, 6) := ⟨⟨by decide +kernel, by decide +kernel⟩, List.mem_of_getElem? (i := 194) (by decide +kernel), List.mem_of_getElem? (i := 915) (by decide +kernel), List.mem_of_getElem? (i := 916) (by decide +kernel)⟩
theorem lw_p28 : lw_okq (⟨"DioceseBook$Reader", "readTest", "(I)V"⟩, 6) := ⟨⟨by decide +kernel, by decide +kernel⟩, List.mem_of_getElem? (i := 194) (by decide +kernel), List.mem_of_getElem? (i := 923) (by decide +kernel), List.mem_of_getElem? (i := 924) (by decide +kernel)⟩
theorem lw_p29 : lw_okq (⟨"DioceseBook$Reader", "readComparison", "()V"⟩, 6) := ⟨⟨by decide +kernel, by decide +kernel⟩, List.mem_of_getElem? (i := 194) (by decide +kernel), List.mem_of_getElem? (i := 928) (by decide +kernel), List.mem_of_getElem? (i := 929) (by decide +kernel)⟩
theorem lw_p30 : lw_okq (⟨"DioceseBook$Reader", "factWord", "()I"⟩, 6) := ⟨⟨by decide +kernel, by decide +kernel⟩, List.mem_of_getElem? (i := 194) (by decide +kernel), List.mem_of_getElem? (i := 932) (by decide +kernel), List.mem_of_getElem? (i := 933) (by decide +kernel)⟩
theorem lw_p31 : lw_okq (⟨"DioceseBook$Reader", "compareSign", "()I"⟩, 6) := ⟨⟨by decide +kernel, by decide +kernel⟩, List.mem_of_getElem? (i := 194) (by decide +kernel), List.mem_of_getElem? (i := 942) (by decide +kernel), List.mem_of_getElem? (i := 943) (by decide +kernel)⟩
def lw_privs_2 : List (MethodName × Nat) := [(⟨"DioceseBook$Story", "mayHoldBoth", "(IIII)Z"⟩, 13), (⟨"DioceseBook$Reader", "isAtEnd", "()Z"⟩, 6), (⟨"DioceseBook$Reader", "skipBlanks", "()V"⟩, 6), (⟨"DioceseBook$Reader", "clauseWord", "()I"⟩, 6), (⟨"DioceseBook$Reader", "takeWord", "(Ljava/lang/String;)Z"⟩, 6), (⟨"DioceseBook$Reader", "fail", "(II)V"⟩, 6), (⟨"DioceseBook$Reader", "readLet", "()V"⟩, 6), (⟨"DioceseBook$Reader", "nameWord", "()I"⟩, 6), (⟨"DioceseBook$Reader", "readNumber", "(I)I"⟩, 6), (⟨"DioceseBook$Reader", "expect", "(C)V"⟩, 6), (⟨"DioceseBook$Reader", "takeSign", "(C)Z"⟩, 6), (⟨"DioceseBook$Reader", "readBar", "()V"⟩, 6), (⟨"DioceseBook$Reader", "readTest", "(I)V"⟩, 6), (⟨"DioceseBook$Reader", "readComparison", "()V"⟩, 6), (⟨"DioceseBook$Reader", "factWord", "()I"⟩, 6), (⟨"DioceseBook$Reader", "compareSign", "()I"⟩, 6)]
theorem lw_r2 : ∀ q ∈ lw_privs_2, lw_okq q := List.forall_mem_cons.mpr ⟨lw_p16, List.forall_mem_cons.mpr ⟨lw_p17, List.forall_mem_cons.mpr ⟨lw_p18, List.forall_mem_cons.mpr ⟨lw_p19, List.forall_mem_cons.mpr ⟨lw_p20, List.forall_mem_cons.mpr ⟨lw_p21, List.forall_mem_cons.mpr ⟨lw_p22, List.forall_mem_cons.mpr ⟨lw_p23, List.forall_mem_cons.mpr ⟨lw_p24, List.forall_mem_cons.mpr ⟨lw_p25, List.forall_mem_cons.mpr ⟨lw_p26, List.forall_mem_cons.mpr ⟨lw_p27, List.forall_mem_cons.mpr ⟨lw_p28, List.forall_mem_cons.mpr ⟨lw_p29, List.forall_mem_cons.mpr ⟨lw_p30, List.forall_mem_cons.mpr ⟨lw_p31, fun _ h => absurd h List.not_mem_nil⟩⟩⟩⟩⟩⟩⟩⟩⟩⟩⟩⟩⟩⟩⟩⟩
theorem lw_p32 : lw_okq (⟨"DioceseBook$Reader", "readStrike", "()V"⟩, 6) := ⟨⟨by decide +kernel, by decide +kernel⟩, List.mem_of_getElem? (i := 194) (by decide +kernel), List.mem_of_getElem? (i := 953) (by decide +kernel), List.mem_of_getElem? (i := 954) (by decide +kernel)⟩
theorem lw_p33 : lw_okq (⟨"DioceseBook", "refusalOfIn", "(II)I"⟩, 11) := ⟨⟨by decide +kernel, by decide +kernel⟩, List.mem_of_getElem? (i := 22) (by decide +kernel), List.mem_of_getElem? (i := 1001) (by decide +kernel), List.mem_of_getElem? (i := 1002) (by decide +kernel)⟩
theorem lw_p34 : lw_okq (⟨"DioceseBook", "isSuit", "(I)Z"⟩, 11) := ⟨⟨by decide +kernel, by decide +kernel⟩, List.mem_of_getElem? (i := 22) (by decide +kernel), List.mem_of_getElem? (i := 1048) (by decide +kernel), List.mem_of_getElem? (i := 1049) (by decide +kernel)⟩
theorem lw_p35 : lw_okq (⟨"DioceseBook$Terriers", "aloneBehind", "(II)I"⟩, 7) := ⟨⟨by decide +kernel, by decide +kernel⟩, List.mem_of_getElem? (i := 359) (by decide +kernel), List.mem_of_getElem? (i := 1126) (by decide +kernel), List.mem_of_getElem? (i := 1127) (by decide +kernel)⟩
theorem lw_p36 : lw_okq (⟨"DioceseBook$Terriers", "aloneCost", "(II)I"⟩, 7) := ⟨⟨by decide +kernel, by decide +kernel⟩, List.mem_of_getElem? (i := 359) (by decide +kernel), List.mem_of_getElem? (i := 1130) (by decide +kernel), List.mem_of_getElem? (i := 1131) (by decide +kernel)⟩
theorem lw_p37 : lw_okq (⟨"DioceseBook$Terriers", "leastFrom", "(III)I"⟩, 7) := ⟨⟨by decide +kernel, by decide +kernel⟩, List.mem_of_getElem? (i := 359) (by decide +kernel), List.mem_of_getElem? (i := 1140) (by decide +kernel), List.mem_of_getElem? (i := 1141) (by decide +kernel)⟩
theorem lw_p38 : lw_okq (⟨"DioceseBook$Terriers", "pairCost", "(III)I"⟩, 7) := ⟨⟨by decide +kernel, by decide +kernel⟩, List.mem_of_getElem? (i := 359) (by decide +kernel), List.mem_of_getElem? (i := 1144) (by decide +kernel), List.mem_of_getElem? (i := 1145) (by decide +kernel)⟩
theorem lw_p39 : lw_okq (⟨"DioceseBook$Terriers", "firstPartner", "(III)I"⟩, 7) := ⟨⟨by decide +kernel, by decide +kernel⟩, List.mem_of_getElem? (i := 359) (by decide +kernel), List.mem_of_getElem? (i := 1150) (by decide +kernel), List.mem_of_getElem? (i := 1151) (by decide +kernel)⟩
theorem lw_p40 : lw_okq (⟨"DioceseBook", "isPiece", "(I)Z"⟩, 11) := ⟨⟨by decide +kernel, by decide +kernel⟩, List.mem_of_getElem? (i := 22) (by decide +kernel), List.mem_of_getElem? (i := 1176) (by decide +kernel), List.mem_of_getElem? (i := 1177) (by decide +kernel)⟩
theorem lw_p41 : lw_okq (⟨"DioceseBook$Lives", "isAhead", "(II)Z"⟩, 12) := ⟨⟨by decide +kernel, by decide +kernel⟩, List.mem_of_getElem? (i := 388) (by decide +kernel), List.mem_of_getElem? (i := 1185) (by decide +kernel), List.mem_of_getElem? (i := 1186) (by decide +kernel)⟩
theorem lw_p42 : lw_okq (⟨"DioceseBook$Lives", "mostLinks", "(II)I"⟩, 12) := ⟨⟨by decide +kernel, by decide +kernel⟩, List.mem_of_getElem? (i := 388) (by decide +kernel), List.mem_of_getElem? (i := 1198) (by decide +kernel), List.mem_of_getElem? (i := 1199) (by decide +kernel)⟩
theorem lw_p43 : lw_okq (⟨"DioceseBook$Lives", "link", "(II)Z"⟩, 12) := ⟨⟨by decide +kernel, by decide +kernel⟩, List.mem_of_getElem? (i := 388) (by decide +kernel), List.mem_of_getElem? (i := 1202) (by decide +kernel), List.mem_of_getElem? (i := 1203) (by decide +kernel)⟩
theorem lw_p44 : lw_okq (⟨"DioceseBook$Lives", "leastBehind", "(III)I"⟩, 12) := ⟨⟨by decide +kernel, by decide +kernel⟩, List.mem_of_getElem? (i := 388) (by decide +kernel), List.mem_of_getElem? (i := 1206) (by decide +kernel), List.mem_of_getElem? (i := 1207) (by decide +kernel)⟩
theorem lw_p45 : lw_okq (⟨"DioceseBook$Visitation", "measure", "()V"⟩, 11) := ⟨⟨by decide +kernel, by decide +kernel⟩, List.mem_of_getElem? (i := 434) (by decide +kernel), List.mem_of_getElem? (i := 1219) (by decide +kernel), List.mem_of_getElem? (i := 1220) (by decide +kernel)⟩
theorem lw_p46 : lw_okq (⟨"DioceseBook$Visitation", "wayTo", "(II)I"⟩, 11) := ⟨⟨by decide +kernel, by decide +kernel⟩, List.mem_of_getElem? (i := 434) (by decide +kernel), List.mem_of_getElem? (i := 1224) (by decide +kernel), List.mem_of_getElem? (i := 1225) (by decide +kernel)⟩
theorem lw_p47 : lw_okq (⟨"DioceseBook$Visitation", "choose", "(I)V"⟩, 11) := ⟨⟨by decide +kernel, by decide +kernel⟩, List.mem_of_getElem? (i := 434) (by decide +kernel), List.mem_of_getElem? (i := 1234) (by decide +kernel), List.mem_of_getElem? (i := 1235) (by decide +kernel)⟩
def lw_privs_3 : List (MethodName × Nat) := [(⟨"DioceseBook$Reader", "readStrike", "()V"⟩, 6), (⟨"DioceseBook", "refusalOfIn", "(II)I"⟩, 11), (⟨"DioceseBook", "isSuit", "(I)Z"⟩, 11), (⟨"DioceseBook$Terriers", "aloneBehind", "(II)I"⟩, 7), (⟨"DioceseBook$Terriers", "aloneCost", "(II)I"⟩, 7), (⟨"DioceseBook$Terriers", "leastFrom", "(III)I"⟩, 7), (⟨"DioceseBook$Terriers", "pairCost", "(III)I"⟩, 7), (⟨"DioceseBook$Terriers", "firstPartner", "(III)I"⟩, 7), (⟨"DioceseBook", "isPiece", "(I)Z"⟩, 11), (⟨"DioceseBook$Lives", "isAhead", "(II)Z"⟩, 12), (⟨"DioceseBook$Lives", "mostLinks", "(II)I"⟩, 12), (⟨"DioceseBook$Lives", "link", "(II)Z"⟩, 12), (⟨"DioceseBook$Lives", "leastBehind", "(III)I"⟩, 12), (⟨"DioceseBook$Visitation", "measure", "()V"⟩, 11), (⟨"DioceseBook$Visitation", "wayTo", "(II)I"⟩, 11), (⟨"DioceseBook$Visitation", "choose", "(I)V"⟩, 11)]
theorem lw_r3 : ∀ q ∈ lw_privs_3, lw_okq q := List.forall_mem_cons.mpr ⟨lw_p32, List.forall_mem_cons.mpr ⟨lw_p33, List.forall_mem_cons.mpr ⟨lw_p34, List.forall_mem_cons.mpr ⟨lw_p35, List.forall_mem_cons.mpr ⟨lw_p36, List.forall_mem_cons.mpr ⟨lw_p37, List.forall_mem_cons.mpr ⟨lw_p38, List.forall_mem_cons.mpr ⟨lw_p39, List.forall_mem_cons.mpr ⟨lw_p40, List.forall_mem_cons.mpr ⟨lw_p41, List.forall_mem_cons.mpr ⟨lw_p42, List.forall_mem_cons.mpr ⟨lw_p43, List.forall_mem_cons.mpr ⟨lw_p44, List.forall_mem_cons.mpr ⟨lw_p45, List.forall_mem_cons.mpr ⟨lw_p46, List.forall_mem_cons.mpr ⟨lw_p47, fun _ h => absurd h List.not_mem_nil⟩⟩⟩⟩⟩⟩⟩⟩⟩⟩⟩⟩⟩⟩⟩⟩
theorem lw_p48 : lw_okq (⟨"DioceseBook$Visitation", "leastFirst", "(II)I"⟩, 11) := ⟨⟨by decide +kernel, by decide +kernel⟩, List.mem_of_getElem? (i := 434) (by decide +kernel), List.mem_of_getElem? (i := 1238) (by decide +kernel), List.mem_of_getElem? (i := 1239) (by decide +kernel)⟩
theorem lw_p49 : lw_okq (⟨"DioceseBookModel", "noLiving", "(I)Z"⟩, 97) := ⟨⟨by decide +kernel, by decide +kernel⟩, List.mem_of_getElem? (i := 1246) (by decide +kernel), List.mem_of_getElem? (i := 1570) (by decide +kernel), List.mem_of_getElem? (i := 1571) (by decide +kernel)⟩
theorem lw_p50 : lw_okq (⟨"DioceseBookModel", "noPerson", "(I)Z"⟩, 97) := ⟨⟨by decide +kernel, by decide +kernel⟩, List.mem_of_getElem? (i := 1246) (by decide +kernel), List.mem_of_getElem? (i := 1574) (by decide +kernel), List.mem_of_getElem? (i := 1575) (by decide +kernel)⟩
theorem lw_p51 : lw_okq (⟨"DioceseBookModel", "isKnown", "(I)Z"⟩, 97) := ⟨⟨by decide +kernel, by decide +kernel⟩, List.mem_of_getElem? (i := 1246) (by decide +kernel), List.mem_of_getElem? (i := 1595) (by decide +kernel), List.mem_of_getElem? (i := 1596) (by decide +kernel)⟩
theorem lw_p52 : lw_okq (⟨"DioceseBookModel", "findVoid", "(I)I"⟩, 97) := ⟨⟨by decide +kernel, by decide +kernel⟩, List.mem_of_getElem? (i := 1246) (by decide +kernel), List.mem_of_getElem? (i := 1606) (by decide +kernel), List.mem_of_getElem? (i := 1607) (by decide +kernel)⟩
theorem lw_p53 : lw_okq (⟨"DioceseBookModel", "findBook", "(I)V"⟩, 97) := ⟨⟨by decide +kernel, by decide +kernel⟩, List.mem_of_getElem? (i := 1246) (by decide +kernel), List.mem_of_getElem? (i := 1617) (by decide +kernel), List.mem_of_getElem? (i := 1618) (by decide +kernel)⟩
theorem lw_p54 : lw_okq (⟨"DioceseBookModel", "dayOn", "(II)I"⟩, 97) := ⟨⟨by decide +kernel, by decide +kernel⟩, List.mem_of_getElem? (i := 1246) (by decide +kernel), List.mem_of_getElem? (i := 1626) (by decide +kernel), List.mem_of_getElem? (i := 1627) (by decide +kernel)⟩
theorem lw_p55 : lw_okq (⟨"DioceseBookModel", "firstOf", "(II)I"⟩, 97) := ⟨⟨by decide +kernel, by decide +kernel⟩, List.mem_of_getElem? (i := 1246) (by decide +kernel), List.mem_of_getElem? (i := 1630) (by decide +kernel), List.mem_of_getElem? (i := 1631) (by decide +kernel)⟩
theorem lw_p56 : lw_okq (⟨"DioceseBookModel", "heirOf", "(II)I"⟩, 97) := ⟨⟨by decide +kernel, by decide +kernel⟩, List.mem_of_getElem? (i := 1246) (by decide +kernel), List.mem_of_getElem? (i := 1634) (by decide +kernel), List.mem_of_getElem? (i := 1635) (by decide +kernel)⟩
theorem lw_p57 : lw_okq (⟨"DioceseBookModel", "hasLeave", "(II)Z"⟩, 97) := ⟨⟨by decide +kernel, by decide +kernel⟩, List.mem_of_getElem? (i := 1246) (by decide +kernel), List.mem_of_getElem? (i := 1638) (by decide +kernel), List.mem_of_getElem? (i := 1639) (by decide +kernel)⟩
theorem lw_p58 : lw_okq (⟨"DioceseBookModel", "readAll", "()I"⟩, 97) := ⟨⟨by decide +kernel, by decide +kernel⟩, List.mem_of_getElem? (i := 1246) (by decide +kernel), List.mem_of_getElem? (i := 1656) (by decide +kernel), List.mem_of_getElem? (i := 1657) (by decide +kernel)⟩
theorem lw_p59 : lw_okq (⟨"DioceseBookModel", "here", "()I"⟩, 97) := ⟨⟨by decide +kernel, by decide +kernel⟩, List.mem_of_getElem? (i := 1246) (by decide +kernel), List.mem_of_getElem? (i := 1660) (by decide +kernel), List.mem_of_getElem? (i := 1661) (by decide +kernel)⟩
theorem lw_p60 : lw_okq (⟨"DioceseBookModel", "takeWord", "()V"⟩, 97) := ⟨⟨by decide +kernel, by decide +kernel⟩, List.mem_of_getElem? (i := 1246) (by decide +kernel), List.mem_of_getElem? (i := 1664) (by decide +kernel), List.mem_of_getElem? (i := 1665) (by decide +kernel)⟩
theorem lw_p61 : lw_okq (⟨"DioceseBookModel", "isWord", "(IIIIIII)Z"⟩, 97) := ⟨⟨by decide +kernel, by decide +kernel⟩, List.mem_of_getElem? (i := 1246) (by decide +kernel), List.mem_of_getElem? (i := 1670) (by decide +kernel), List.mem_of_getElem? (i := 1671) (by decide +kernel)⟩
theorem lw_p62 : lw_okq (⟨"DioceseBookModel", "want", "(ZII)Z"⟩, 97) := ⟨⟨by decide +kernel, by decide +kernel⟩, List.mem_of_getElem? (i := 1246) (by decide +kernel), List.mem_of_getElem? (i := 1674) (by decide +kernel), List.mem_of_getElem? (i := 1675) (by decide +kernel)⟩
theorem lw_p63 : lw_okq (⟨"DioceseBookModel", "readClause", "(II)V"⟩, 97) := ⟨⟨by decide +kernel, by decide +kernel⟩, List.mem_of_getElem? (i := 1246) (by decide +kernel), List.mem_of_getElem? (i := 1678) (by decide +kernel), List.mem_of_getElem? (i := 1679) (by decide +kernel)⟩
def lw_privs_4 : List (MethodName × Nat) := [(⟨"DioceseBook$Visitation", "leastFirst", "(II)I"⟩, 11), (⟨"DioceseBookModel", "noLiving", "(I)Z"⟩, 97), (⟨"DioceseBookModel", "noPerson", "(I)Z"⟩, 97), (⟨"DioceseBookModel", "isKnown", "(I)Z"⟩, 97), (⟨"DioceseBookModel", "findVoid", "(I)I"⟩, 97), (⟨"DioceseBookModel", "findBook", "(I)V"⟩, 97), (⟨"DioceseBookModel", "dayOn", "(II)I"⟩, 97), (⟨"DioceseBookModel", "firstOf", "(II)I"⟩, 97), (⟨"DioceseBookModel", "heirOf", "(II)I"⟩, 97), (⟨"DioceseBookModel", "hasLeave", "(II)Z"⟩, 97), (⟨"DioceseBookModel", "readAll", "()I"⟩, 97), (⟨"DioceseBookModel", "here", "()I"⟩, 97), (⟨"DioceseBookModel", "takeWord", "()V"⟩, 97), (⟨"DioceseBookModel", "isWord", "(IIIIIII)Z"⟩, 97), (⟨"DioceseBookModel", "want", "(ZII)Z"⟩, 97), (⟨"DioceseBookModel", "readClause", "(II)V"⟩, 97)]
theorem lw_r4 : ∀ q ∈ lw_privs_4, lw_okq q := List.forall_mem_cons.mpr ⟨lw_p48, List.forall_mem_cons.mpr ⟨lw_p49, List.forall_mem_cons.mpr ⟨lw_p50, List.forall_mem_cons.mpr ⟨lw_p51, List.forall_mem_cons.mpr ⟨lw_p52, List.forall_mem_cons.mpr ⟨lw_p53, List.forall_mem_cons.mpr ⟨lw_p54, List.forall_mem_cons.mpr ⟨lw_p55, List.forall_mem_cons.mpr ⟨lw_p56, List.forall_mem_cons.mpr ⟨lw_p57, List.forall_mem_cons.mpr ⟨lw_p58, List.forall_mem_cons.mpr ⟨lw_p59, List.forall_mem_cons.mpr ⟨lw_p60, List.forall_mem_cons.mpr ⟨lw_p61, List.forall_mem_cons.mpr ⟨lw_p62, List.forall_mem_cons.mpr ⟨lw_p63, fun _ h => absurd h List.not_mem_nil⟩⟩⟩⟩⟩⟩⟩⟩⟩⟩⟩⟩⟩⟩⟩⟩
theorem lw_p64 : lw_okq (⟨"DioceseBookModel", "nameOf", "()I"⟩, 97) := ⟨⟨by decide +kernel, by decide +kernel⟩, List.mem_of_getElem? (i := 1246) (by decide +kernel), List.mem_of_getElem? (i := 1682) (by decide +kernel), List.mem_of_getElem? (i := 1683) (by decide +kernel)⟩
theorem lw_p65 : lw_okq (⟨"DioceseBookModel", "takeNumber", "(I)I"⟩, 97) := ⟨⟨by decide +kernel, by decide +kernel⟩, List.mem_of_getElem? (i := 1246) (by decide +kernel), List.mem_of_getElem? (i := 1689) (by decide +kernel), List.mem_of_getElem? (i := 1690) (by decide +kernel)⟩
theorem lw_p66 : lw_okq (⟨"DioceseBookModel", "readTest", "(Z)Z"⟩, 97) := ⟨⟨by decide +kernel, by decide +kernel⟩, List.mem_of_getElem? (i := 1246) (by decide +kernel), List.mem_of_getElem? (i := 1695) (by decide +kernel), List.mem_of_getElem? (i := 1696) (by decide +kernel)⟩
theorem lw_p67 : lw_okq (⟨"DioceseBookModel", "readOne", "()Z"⟩, 97) := ⟨⟨by decide +kernel, by decide +kernel⟩, List.mem_of_getElem? (i := 1246) (by decide +kernel), List.mem_of_getElem? (i := 1699) (by decide +kernel), List.mem_of_getElem? (i := 1700) (by decide +kernel)⟩
theorem lw_p68 : lw_okq (⟨"DioceseBookModel", "push", "(I)V"⟩, 97) := ⟨⟨by decide +kernel, by decide +kernel⟩, List.mem_of_getElem? (i := 1246) (by decide +kernel), List.mem_of_getElem? (i := 1703) (by decide +kernel), List.mem_of_getElem? (i := 1704) (by decide +kernel)⟩
theorem lw_p69 : lw_okq (⟨"DioceseBookModel", "factOf", "()I"⟩, 97) := ⟨⟨by decide +kernel, by decide +kernel⟩, List.mem_of_getElem? (i := 1246) (by decide +kernel), List.mem_of_getElem? (i := 1707) (by decide +kernel), List.mem_of_getElem? (i := 1708) (by decide +kernel)⟩
theorem lw_p70 : lw_okq (⟨"DioceseBookModel", "emit", "(I)V"⟩, 97) := ⟨⟨by decide +kernel, by decide +kernel⟩, List.mem_of_getElem? (i := 1246) (by decide +kernel), List.mem_of_getElem? (i := 1711) (by decide +kernel), List.mem_of_getElem? (i := 1712) (by decide +kernel)⟩
theorem lw_p71 : lw_okq (⟨"DioceseBookModel", "letOut", "(I)V"⟩, 97) := ⟨⟨by decide +kernel, by decide +kernel⟩, List.mem_of_getElem? (i := 1246) (by decide +kernel), List.mem_of_getElem? (i := 1715) (by decide +kernel), List.mem_of_getElem? (i := 1716) (by decide +kernel)⟩
theorem lw_p72 : lw_okq (⟨"DioceseBookModel", "forceOf", "(II)I"⟩, 97) := ⟨⟨by decide +kernel, by decide +kernel⟩, List.mem_of_getElem? (i := 1246) (by decide +kernel), List.mem_of_getElem? (i := 1728) (by decide +kernel), List.mem_of_getElem? (i := 1729) (by decide +kernel)⟩
theorem lw_p73 : lw_okq (⟨"DioceseBookModel", "findCanons", "(I)V"⟩, 97) := ⟨⟨by decide +kernel, by decide +kernel⟩, List.mem_of_getElem? (i := 1246) (by decide +kernel), List.mem_of_getElem? (i := 1732) (by decide +kernel), List.mem_of_getElem? (i := 1733) (by decide +kernel)⟩
theorem lw_p74 : lw_okq (⟨"DioceseBookModel", "watch", "(III)V"⟩, 97) := ⟨⟨by decide +kernel, by decide +kernel⟩, List.mem_of_getElem? (i := 1246) (by decide +kernel), List.mem_of_getElem? (i := 1747) (by decide +kernel), List.mem_of_getElem? (i := 1748) (by decide +kernel)⟩
theorem lw_p75 : lw_okq (⟨"DioceseBookModel", "tell", "(II)V"⟩, 97) := ⟨⟨by decide +kernel, by decide +kernel⟩, List.mem_of_getElem? (i := 1246) (by decide +kernel), List.mem_of_getElem? (i := 1751) (by decide +kernel), List.mem_of_getElem? (i := 1752) (by decide +kernel)⟩
theorem lw_p76 : lw_okq (⟨"DioceseBookModel", "lay", "(III)V"⟩, 97) := ⟨⟨by decide +kernel, by decide +kernel⟩, List.mem_of_getElem? (i := 1246) (by decide +kernel), List.mem_of_getElem? (i := 1755) (by decide +kernel), List.mem_of_getElem? (i := 1756) (by decide +kernel)⟩
theorem lw_p77 : lw_okq (⟨"DioceseBookModel", "befall", "(I)V"⟩, 97) := ⟨⟨by decide +kernel, by decide +kernel⟩, List.mem_of_getElem? (i := 1246) (by decide +kernel), List.mem_of_getElem? (i := 1759) (by decide +kernel), List.mem_of_getElem? (i := 1760) (by decide +kernel)⟩
theorem lw_p78 : lw_okq (⟨"DioceseBookModel", "goIn", "(I)V"⟩, 97) := ⟨⟨by decide +kernel, by decide +kernel⟩, List.mem_of_getElem? (i := 1246) (by decide +kernel), List.mem_of_getElem? (i := 1763) (by decide +kernel), List.mem_of_getElem? (i := 1764) (by decide +kernel)⟩
theorem lw_p79 : lw_okq (⟨"DioceseBookModel", "isDead", "(II)Z"⟩, 97) := ⟨⟨by decide +kernel, by decide +kernel⟩, List.mem_of_getElem? (i := 1246) (by decide +kernel), List.mem_of_getElem? (i := 1767) (by decide +kernel), List.mem_of_getElem? (i := 1768) (by decide +kernel)⟩
def lw_privs_5 : List (MethodName × Nat) := [(⟨"DioceseBookModel", "nameOf", "()I"⟩, 97), (⟨"DioceseBookModel", "takeNumber", "(I)I"⟩, 97), (⟨"DioceseBookModel", "readTest", "(Z)Z"⟩, 97), (⟨"DioceseBookModel", "readOne", "()Z"⟩, 97), (⟨"DioceseBookModel", "push", "(I)V"⟩, 97), (⟨"DioceseBookModel", "factOf", "()I"⟩, 97), (⟨"DioceseBookModel", "emit", "(I)V"⟩, 97), (⟨"DioceseBookModel", "letOut", "(I)V"⟩, 97), (⟨"DioceseBookModel", "forceOf", "(II)I"⟩, 97), (⟨"DioceseBookModel", "findCanons", "(I)V"⟩, 97), (⟨"DioceseBookModel", "watch", "(III)V"⟩, 97), (⟨"DioceseBookModel", "tell", "(II)V"⟩, 97), (⟨"DioceseBookModel", "lay", "(III)V"⟩, 97), (⟨"DioceseBookModel", "befall", "(I)V"⟩, 97), (⟨"DioceseBookModel", "goIn", "(I)V"⟩, 97), (⟨"DioceseBookModel", "isDead", "(II)Z"⟩, 97)]
theorem lw_r5 : ∀ q ∈ lw_privs_5, lw_okq q := List.forall_mem_cons.mpr ⟨lw_p64, List.forall_mem_cons.mpr ⟨lw_p65, List.forall_mem_cons.mpr ⟨lw_p66, List.forall_mem_cons.mpr ⟨lw_p67, List.forall_mem_cons.mpr ⟨lw_p68, List.forall_mem_cons.mpr ⟨lw_p69, List.forall_mem_cons.mpr ⟨lw_p70, List.forall_mem_cons.mpr ⟨lw_p71, List.forall_mem_cons.mpr ⟨lw_p72, List.forall_mem_cons.mpr ⟨lw_p73, List.forall_mem_cons.mpr ⟨lw_p74, List.forall_mem_cons.mpr ⟨lw_p75, List.forall_mem_cons.mpr ⟨lw_p76, List.forall_mem_cons.mpr ⟨lw_p77, List.forall_mem_cons.mpr ⟨lw_p78, List.forall_mem_cons.mpr ⟨lw_p79, fun _ h => absurd h List.not_mem_nil⟩⟩⟩⟩⟩⟩⟩⟩⟩⟩⟩⟩⟩⟩⟩⟩
theorem lw_p80 : lw_okq (⟨"DioceseBookModel", "barFor", "(III)I"⟩, 97) := ⟨⟨by decide +kernel, by decide +kernel⟩, List.mem_of_getElem? (i := 1246) (by decide +kernel), List.mem_of_getElem? (i := 1771) (by decide +kernel), List.mem_of_getElem? (i := 1772) (by decide +kernel)⟩
theorem lw_p81 : lw_okq (⟨"DioceseBookModel", "isMet", "(IIIIII)Z"⟩, 97) := ⟨⟨by decide +kernel, by decide +kernel⟩, List.mem_of_getElem? (i := 1246) (by decide +kernel), List.mem_of_getElem? (i := 1775) (by decide +kernel), List.mem_of_getElem? (i := 1776) (by decide +kernel)⟩
theorem lw_p82 : lw_okq (⟨"DioceseBookModel", "factFor", "(IIII)I"⟩, 97) := ⟨⟨by decide +kernel, by decide +kernel⟩, List.mem_of_getElem? (i := 1246) (by decide +kernel), List.mem_of_getElem? (i := 1779) (by decide +kernel), List.mem_of_getElem? (i := 1780) (by decide +kernel)⟩
theorem lw_p83 : lw_okq (⟨"DioceseBookModel", "placeOf", "(II)I"⟩, 97) := ⟨⟨by decide +kernel, by decide +kernel⟩, List.mem_of_getElem? (i := 1246) (by decide +kernel), List.mem_of_getElem? (i := 1783) (by decide +kernel), List.mem_of_getElem? (i := 1784) (by decide +kernel)⟩
theorem lw_p84 : lw_okq (⟨"DioceseBookModel", "miles", "(II)I"⟩, 97) := ⟨⟨by decide +kernel, by decide +kernel⟩, List.mem_of_getElem? (i := 1246) (by decide +kernel), List.mem_of_getElem? (i := 1787) (by decide +kernel), List.mem_of_getElem? (i := 1788) (by decide +kernel)⟩
theorem lw_p85 : lw_okq (⟨"DioceseBookModel", "whoMay", "(II)I"⟩, 97) := ⟨⟨by decide +kernel, by decide +kernel⟩, List.mem_of_getElem? (i := 1246) (by decide +kernel), List.mem_of_getElem? (i := 1794) (by decide +kernel), List.mem_of_getElem? (i := 1795) (by decide +kernel)⟩
theorem lw_p86 : lw_okq (⟨"DioceseBookModel", "lapses", "(II)I"⟩, 97) := ⟨⟨by decide +kernel, by decide +kernel⟩, List.mem_of_getElem? (i := 1246) (by decide +kernel), List.mem_of_getElem? (i := 1798) (by decide +kernel), List.mem_of_getElem? (i := 1799) (by decide +kernel)⟩
theorem lw_p87 : lw_okq (⟨"DioceseBookModel", "countFrom", "(I)I"⟩, 97) := ⟨⟨by decide +kernel, by decide +kernel⟩, List.mem_of_getElem? (i := 1246) (by decide +kernel), List.mem_of_getElem? (i := 1802) (by decide +kernel), List.mem_of_getElem? (i := 1803) (by decide +kernel)⟩
theorem lw_p88 : lw_okq (⟨"DioceseBookModel", "patronOf", "(II)I"⟩, 97) := ⟨⟨by decide +kernel, by decide +kernel⟩, List.mem_of_getElem? (i := 1246) (by decide +kernel), List.mem_of_getElem? (i := 1806) (by decide +kernel), List.mem_of_getElem? (i := 1807) (by decide +kernel)⟩
theorem lw_p89 : lw_okq (⟨"DioceseBookModel", "soldTurn", "(I)I"⟩, 97) := ⟨⟨by decide +kernel, by decide +kernel⟩, List.mem_of_getElem? (i := 1246) (by decide +kernel), List.mem_of_getElem? (i := 1810) (by decide +kernel), List.mem_of_getElem? (i := 1811) (by decide +kernel)⟩
theorem lw_p90 : lw_okq (⟨"DioceseBookModel", "turnOf", "(I)I"⟩, 97) := ⟨⟨by decide +kernel, by decide +kernel⟩, List.mem_of_getElem? (i := 1246) (by decide +kernel), List.mem_of_getElem? (i := 1814) (by decide +kernel), List.mem_of_getElem? (i := 1815) (by decide +kernel)⟩
theorem lw_p91 : lw_okq (⟨"DioceseBookModel", "useTurn", "(I)V"⟩, 97) := ⟨⟨by decide +kernel, by decide +kernel⟩, List.mem_of_getElem? (i := 1246) (by decide +kernel), List.mem_of_getElem? (i := 1818) (by decide +kernel), List.mem_of_getElem? (i := 1819) (by decide +kernel)⟩
theorem lw_p92 : lw_okq (⟨"DioceseBookModel", "enter", "(III)V"⟩, 97) := ⟨⟨by decide +kernel, by decide +kernel⟩, List.mem_of_getElem? (i := 1246) (by decide +kernel), List.mem_of_getElem? (i := 1822) (by decide +kernel), List.mem_of_getElem? (i := 1823) (by decide +kernel)⟩
theorem lw_p93 : lw_okq (⟨"DioceseBookModel", "note", "(II)V"⟩, 97) := ⟨⟨by decide +kernel, by decide +kernel⟩, List.mem_of_getElem? (i := 1246) (by decide +kernel), List.mem_of_getElem? (i := 1826) (by decide +kernel), List.mem_of_getElem? (i := 1827) (by decide +kernel)⟩
theorem lw_p94 : lw_okq (⟨"DioceseBookModel", "leaveOthers", "(III)V"⟩, 97) := ⟨⟨by decide +kernel, by decide +kernel⟩, List.mem_of_getElem? (i := 1246) (by decide +kernel), List.mem_of_getElem? (i := 1830) (by decide +kernel), List.mem_of_getElem? (i := 1831) (by decide +kernel)⟩
theorem lw_p95 : lw_okq (⟨"DioceseBookModel", "leave", "(IIII)V"⟩, 97) := ⟨⟨by decide +kernel, by decide +kernel⟩, List.mem_of_getElem? (i := 1246) (by decide +kernel), List.mem_of_getElem? (i := 1834) (by decide +kernel), List.mem_of_getElem? (i := 1835) (by decide +kernel)⟩
def lw_privs_6 : List (MethodName × Nat) := [(⟨"DioceseBookModel", "barFor", "(III)I"⟩, 97), (⟨"DioceseBookModel", "isMet", "(IIIIII)Z"⟩, 97), (⟨"DioceseBookModel", "factFor", "(IIII)I"⟩, 97), (⟨"DioceseBookModel", "placeOf", "(II)I"⟩, 97), (⟨"DioceseBookModel", "miles", "(II)I"⟩, 97), (⟨"DioceseBookModel", "whoMay", "(II)I"⟩, 97), (⟨"DioceseBookModel", "lapses", "(II)I"⟩, 97), (⟨"DioceseBookModel", "countFrom", "(I)I"⟩, 97), (⟨"DioceseBookModel", "patronOf", "(II)I"⟩, 97), (⟨"DioceseBookModel", "soldTurn", "(I)I"⟩, 97), (⟨"DioceseBookModel", "turnOf", "(I)I"⟩, 97), (⟨"DioceseBookModel", "useTurn", "(I)V"⟩, 97), (⟨"DioceseBookModel", "enter", "(III)V"⟩, 97), (⟨"DioceseBookModel", "note", "(II)V"⟩, 97), (⟨"DioceseBookModel", "leaveOthers", "(III)V"⟩, 97), (⟨"DioceseBookModel", "leave", "(IIII)V"⟩, 97)]
theorem lw_r6 : ∀ q ∈ lw_privs_6, lw_okq q := List.forall_mem_cons.mpr ⟨lw_p80, List.forall_mem_cons.mpr ⟨lw_p81, List.forall_mem_cons.mpr ⟨lw_p82, List.forall_mem_cons.mpr ⟨lw_p83, List.forall_mem_cons.mpr ⟨lw_p84, List.forall_mem_cons.mpr ⟨lw_p85, List.forall_mem_cons.mpr ⟨lw_p86, List.forall_mem_cons.mpr ⟨lw_p87, List.forall_mem_cons.mpr ⟨lw_p88, List.forall_mem_cons.mpr ⟨lw_p89, List.forall_mem_cons.mpr ⟨lw_p90, List.forall_mem_cons.mpr ⟨lw_p91, List.forall_mem_cons.mpr ⟨lw_p92, List.forall_mem_cons.mpr ⟨lw_p93, List.forall_mem_cons.mpr ⟨lw_p94, List.forall_mem_cons.mpr ⟨lw_p95, fun _ h => absurd h List.not_mem_nil⟩⟩⟩⟩⟩⟩⟩⟩⟩⟩⟩⟩⟩⟩⟩⟩
theorem lw_p96 : lw_okq (⟨"DioceseBookModel", "die", "(I)V"⟩, 97) := ⟨⟨by decide +kernel, by decide +kernel⟩, List.mem_of_getElem? (i := 1246) (by decide +kernel), List.mem_of_getElem? (i := 1838) (by decide +kernel), List.mem_of_getElem? (i := 1839) (by decide +kernel)⟩
theorem lw_p97 : lw_okq (⟨"DioceseBookModel", "setOf", "(I)I"⟩, 97) := ⟨⟨by decide +kernel, by decide +kernel⟩, List.mem_of_getElem? (i := 1246) (by decide +kernel), List.mem_of_getElem? (i := 1846) (by decide +kernel), List.mem_of_getElem? (i := 1847) (by decide +kernel)⟩
theorem lw_p98 : lw_okq (⟨"DioceseBookModel", "unused", "(I)I"⟩, 97) := ⟨⟨by decide +kernel, by decide +kernel⟩, List.mem_of_getElem? (i := 1246) (by decide +kernel), List.mem_of_getElem? (i := 1850) (by decide +kernel), List.mem_of_getElem? (i := 1851) (by decide +kernel)⟩
theorem lw_p99 : lw_okq (⟨"DioceseBookModel", "whyOf", "(II)I"⟩, 97) := ⟨⟨by decide +kernel, by decide +kernel⟩, List.mem_of_getElem? (i := 1246) (by decide +kernel), List.mem_of_getElem? (i := 1858) (by decide +kernel), List.mem_of_getElem? (i := 1859) (by decide +kernel)⟩
theorem lw_p100 : lw_okq (⟨"DioceseBookModel", "livingsToday", "(Z)I"⟩, 97) := ⟨⟨by decide +kernel, by decide +kernel⟩, List.mem_of_getElem? (i := 1246) (by decide +kernel), List.mem_of_getElem? (i := 1883) (by decide +kernel), List.mem_of_getElem? (i := 1884) (by decide +kernel)⟩
theorem lw_p101 : lw_okq (⟨"DioceseBookModel", "noSuit", "(I)Z"⟩, 97) := ⟨⟨by decide +kernel, by decide +kernel⟩, List.mem_of_getElem? (i := 1246) (by decide +kernel), List.mem_of_getElem? (i := 1895) (by decide +kernel), List.mem_of_getElem? (i := 1896) (by decide +kernel)⟩
theorem lw_p102 : lw_okq (⟨"DioceseBookModel", "decayOf", "(III)I"⟩, 97) := ⟨⟨by decide +kernel, by decide +kernel⟩, List.mem_of_getElem? (i := 1246) (by decide +kernel), List.mem_of_getElem? (i := 1913) (by decide +kernel), List.mem_of_getElem? (i := 1914) (by decide +kernel)⟩
theorem lw_p103 : lw_okq (⟨"DioceseBookModel", "findMatch", "(I)V"⟩, 97) := ⟨⟨by decide +kernel, by decide +kernel⟩, List.mem_of_getElem? (i := 1246) (by decide +kernel), List.mem_of_getElem? (i := 1926) (by decide +kernel), List.mem_of_getElem? (i := 1927) (by decide +kernel)⟩
theorem lw_p104 : lw_okq (⟨"DioceseBookModel", "alone", "(I)I"⟩, 97) := ⟨⟨by decide +kernel, by decide +kernel⟩, List.mem_of_getElem? (i := 1246) (by decide +kernel), List.mem_of_getElem? (i := 1930) (by decide +kernel), List.mem_of_getElem? (i := 1931) (by decide +kernel)⟩
theorem lw_p105 : lw_okq (⟨"DioceseBookModel", "pairCost", "(II)I"⟩, 97) := ⟨⟨by decide +kernel, by decide +kernel⟩, List.mem_of_getElem? (i := 1246) (by decide +kernel), List.mem_of_getElem? (i := 1935) (by decide +kernel), List.mem_of_getElem? (i := 1936) (by decide +kernel)⟩
theorem lw_p106 : lw_okq (⟨"DioceseBookModel", "noPiece", "(I)Z"⟩, 97) := ⟨⟨by decide +kernel, by decide +kernel⟩, List.mem_of_getElem? (i := 1246) (by decide +kernel), List.mem_of_getElem? (i := 1947) (by decide +kernel), List.mem_of_getElem? (i := 1948) (by decide +kernel)⟩
theorem lw_p107 : lw_okq (⟨"DioceseBookModel", "mayFollow", "(II)Z"⟩, 97) := ⟨⟨by decide +kernel, by decide +kernel⟩, List.mem_of_getElem? (i := 1246) (by decide +kernel), List.mem_of_getElem? (i := 1951) (by decide +kernel), List.mem_of_getElem? (i := 1952) (by decide +kernel)⟩
theorem lw_p108 : lw_okq (⟨"DioceseBookModel", "isAhead", "(II)Z"⟩, 97) := ⟨⟨by decide +kernel, by decide +kernel⟩, List.mem_of_getElem? (i := 1246) (by decide +kernel), List.mem_of_getElem? (i := 1955) (by decide +kernel), List.mem_of_getElem? (i := 1956) (by decide +kernel)⟩
theorem lw_p109 : lw_okq (⟨"DioceseBookModel", "findLives", "()V"⟩, 97) := ⟨⟨by decide +kernel, by decide +kernel⟩, List.mem_of_getElem? (i := 1246) (by decide +kernel), List.mem_of_getElem? (i := 1963) (by decide +kernel), List.mem_of_getElem? (i := 1964) (by decide +kernel)⟩
theorem lw_p110 : lw_okq (⟨"DioceseBookModel", "mostPairs", "(I)I"⟩, 97) := ⟨⟨by decide +kernel, by decide +kernel⟩, List.mem_of_getElem? (i := 1246) (by decide +kernel), List.mem_of_getElem? (i := 1967) (by decide +kernel), List.mem_of_getElem? (i := 1968) (by decide +kernel)⟩
theorem lw_p111 : lw_okq (⟨"DioceseBookModel", "oneMore", "(II)Z"⟩, 97) := ⟨⟨by decide +kernel, by decide +kernel⟩, List.mem_of_getElem? (i := 1246) (by decide +kernel), List.mem_of_getElem? (i := 1971) (by decide +kernel), List.mem_of_getElem? (i := 1972) (by decide +kernel)⟩
def lw_privs_7 : List (MethodName × Nat) := [(⟨"DioceseBookModel", "die", "(I)V"⟩, 97), (⟨"DioceseBookModel", "setOf", "(I)I"⟩, 97), (⟨"DioceseBookModel", "unused", "(I)I"⟩, 97), (⟨"DioceseBookModel", "whyOf", "(II)I"⟩, 97), (⟨"DioceseBookModel", "livingsToday", "(Z)I"⟩, 97), (⟨"DioceseBookModel", "noSuit", "(I)Z"⟩, 97), (⟨"DioceseBookModel", "decayOf", "(III)I"⟩, 97), (⟨"DioceseBookModel", "findMatch", "(I)V"⟩, 97), (⟨"DioceseBookModel", "alone", "(I)I"⟩, 97), (⟨"DioceseBookModel", "pairCost", "(II)I"⟩, 97), (⟨"DioceseBookModel", "noPiece", "(I)Z"⟩, 97), (⟨"DioceseBookModel", "mayFollow", "(II)Z"⟩, 97), (⟨"DioceseBookModel", "isAhead", "(II)Z"⟩, 97), (⟨"DioceseBookModel", "findLives", "()V"⟩, 97), (⟨"DioceseBookModel", "mostPairs", "(I)I"⟩, 97), (⟨"DioceseBookModel", "oneMore", "(II)Z"⟩, 97)]
theorem lw_r7 : ∀ q ∈ lw_privs_7, lw_okq q := List.forall_mem_cons.mpr ⟨lw_p96, List.forall_mem_cons.mpr ⟨lw_p97, List.forall_mem_cons.mpr ⟨lw_p98, List.forall_mem_cons.mpr ⟨lw_p99, List.forall_mem_cons.mpr ⟨lw_p100, List.forall_mem_cons.mpr ⟨lw_p101, List.forall_mem_cons.mpr ⟨lw_p102, List.forall_mem_cons.mpr ⟨lw_p103, List.forall_mem_cons.mpr ⟨lw_p104, List.forall_mem_cons.mpr ⟨lw_p105, List.forall_mem_cons.mpr ⟨lw_p106, List.forall_mem_cons.mpr ⟨lw_p107, List.forall_mem_cons.mpr ⟨lw_p108, List.forall_mem_cons.mpr ⟨lw_p109, List.forall_mem_cons.mpr ⟨lw_p110, List.forall_mem_cons.mpr ⟨lw_p111, fun _ h => absurd h List.not_mem_nil⟩⟩⟩⟩⟩⟩⟩⟩⟩⟩⟩⟩⟩⟩⟩⟩
theorem lw_p112 : lw_okq (⟨"DioceseBookModel", "findRounds", "()V"⟩, 97) := ⟨⟨by decide +kernel, by decide +kernel⟩, List.mem_of_getElem? (i := 1246) (by decide +kernel), List.mem_of_getElem? (i := 1982) (by decide +kernel), List.mem_of_getElem? (i := 1983) (by decide +kernel)⟩
theorem lw_p113 : lw_okq (⟨"DioceseBookModel", "fromSee", "(I)I"⟩, 97) := ⟨⟨by decide +kernel, by decide +kernel⟩, List.mem_of_getElem? (i := 1246) (by decide +kernel), List.mem_of_getElem? (i := 1986) (by decide +kernel), List.mem_of_getElem? (i := 1987) (by decide +kernel)⟩
theorem lw_p114 : lw_okq (⟨"DioceseBookModel", "findDays", "(I)V"⟩, 97) := ⟨⟨by decide +kernel, by decide +kernel⟩, List.mem_of_getElem? (i := 1246) (by decide +kernel), List.mem_of_getElem? (i := 1990) (by decide +kernel), List.mem_of_getElem? (i := 1991) (by decide +kernel)⟩
theorem lw_p115 : lw_okq (⟨"DioceseBookModel", "firstDay", "(II)I"⟩, 97) := ⟨⟨by decide +kernel, by decide +kernel⟩, List.mem_of_getElem? (i := 1246) (by decide +kernel), List.mem_of_getElem? (i := 1994) (by decide +kernel), List.mem_of_getElem? (i := 1995) (by decide +kernel)⟩
theorem lw_p116 : lw_okq (⟨"DioceseBookModel", "spread", "(I)I"⟩, 97) := ⟨⟨by decide +kernel, by decide +kernel⟩, List.mem_of_getElem? (i := 1246) (by decide +kernel), List.mem_of_getElem? (i := 1998) (by decide +kernel), List.mem_of_getElem? (i := 1999) (by decide +kernel)⟩
def lw_privs_8 : List (MethodName × Nat) := [(⟨"DioceseBookModel", "findRounds", "()V"⟩, 97), (⟨"DioceseBookModel", "fromSee", "(I)I"⟩, 97), (⟨"DioceseBookModel", "findDays", "(I)V"⟩, 97), (⟨"DioceseBookModel", "firstDay", "(II)I"⟩, 97), (⟨"DioceseBookModel", "spread", "(I)I"⟩, 97)]
theorem lw_r8 : ∀ q ∈ lw_privs_8, lw_okq q := List.forall_mem_cons.mpr ⟨lw_p112, List.forall_mem_cons.mpr ⟨lw_p113, List.forall_mem_cons.mpr ⟨lw_p114, List.forall_mem_cons.mpr ⟨lw_p115, List.forall_mem_cons.mpr ⟨lw_p116, fun _ h => absurd h List.not_mem_nil⟩⟩⟩⟩⟩
def lw_privs : List (MethodName × Nat) := lw_privs_1 ++ (lw_privs_2 ++ (lw_privs_3 ++ (lw_privs_4 ++ (lw_privs_5 ++ (lw_privs_6 ++ (lw_privs_7 ++ (lw_privs_8)))))))
def lw_tbl : List Cond := k2_sels lw_privs ++ tables_1
theorem lw_privs_ok : ∀ q ∈ lw_privs, lw_okq q := by
  show ∀ q ∈ lw_privs_1 ++ (lw_privs_2 ++ (lw_privs_3 ++ (lw_privs_4 ++ (lw_privs_5 ++ (lw_privs_6 ++ (lw_privs_7 ++ (lw_privs_8))))))), lw_okq q
  exact List.forall_mem_append.mpr ⟨lw_r1, List.forall_mem_append.mpr ⟨lw_r2, List.forall_mem_append.mpr ⟨lw_r3, List.forall_mem_append.mpr ⟨lw_r4, List.forall_mem_append.mpr ⟨lw_r5, List.forall_mem_append.mpr ⟨lw_r6, List.forall_mem_append.mpr ⟨lw_r7, lw_r8⟩⟩⟩⟩⟩⟩⟩
-- ===== end of PART A; then your names; then what follows =====
def RX0 : String := "DioceseBook$Canons"
def TX0 : u_T := fun k => match k with
  | 0 => ("DioceseBook$Canons", "count", "I", false)
  | 1 => ("DioceseBook$Canons", "clauses", "[I", true)
  | 2 => ("DioceseBook$Canons", "from", "[I", true)
  | 3 => ("DioceseBook$Canons", "byDay", "[I", true)
  | 4 => ("DioceseBook$Canons", "kind", "[I", true)
  | 5 => ("DioceseBook$Canons", "subject", "[I", true)
  | 6 => ("DioceseBook$Canons", "middle", "[I", true)
  | 7 => ("DioceseBook$Canons", "end", "[I", true)
  | 8 => ("DioceseBook$Canons", "code", "[I", true)
  | 9 => ("DioceseBook$Canons", "codes", "I", false)
  | 10 => ("DioceseBook$Canons", "settledFor", "I", false)
  | 11 => ("DioceseBook$Canons", "counting", "I", false)
  | 12 => ("DioceseBook$Canons", "number", "[I", true)
  | _ => ("DioceseBook$Canons", "ruler", "[I", true)
def tyX0 : Nat → FieldType := fun k => match k with
  | 0 => .int
  | 1 => .array .int
  | 2 => .array .int
  | 3 => .array .int
  | 4 => .array .int
  | 5 => .array .int
  | 6 => .array .int
  | 7 => .array .int
  | 8 => .array .int
  | 9 => .int
  | 10 => .int
  | 11 => .int
  | 12 => .array .int
  | _ => .array .int
abbrev wsX00 : List Cond := u_ws RX0 TX0 14
theorem nmX0 : ∀ a, a < 14 → ∀ b, b < 14 → a ≠ b → (TX0 a).2.1 ≠ (TX0 b).2.1 := by decide +kernel
theorem tyX0_ok : ∀ k, k < 14 → parseFieldDescriptor (TX0 k).2.2.1 = some (tyX0 k) := by decide +kernel
def RX1 : String := "DioceseBook$Changes"
def TX1 : u_T := fun k => match k with
  | 0 => ("DioceseBook$Changes", "day", "[I", true)
  | 1 => ("DioceseBook$Changes", "paper", "[I", true)
  | 2 => ("DioceseBook$Changes", "left", "[I", true)
  | 3 => ("DioceseBook$Changes", "living", "[I", true)
  | 4 => ("DioceseBook$Changes", "person", "[I", true)
  | 5 => ("DioceseBook$Changes", "isFall", "[Z", true)
  | _ => ("DioceseBook$Changes", "size", "I", false)
def tyX1 : Nat → FieldType := fun k => match k with
  | 0 => .array .int
  | 1 => .array .int
  | 2 => .array .int
  | 3 => .array .int
  | 4 => .array .int
  | 5 => .array .boolean
  | _ => .int
abbrev wsX10 : List Cond := u_ws RX1 TX1 7
theorem nmX1 : ∀ a, a < 7 → ∀ b, b < 7 → a ≠ b → (TX1 a).2.1 ≠ (TX1 b).2.1 := by decide +kernel
theorem tyX1_ok : ∀ k, k < 7 → parseFieldDescriptor (TX1 k).2.2.1 = some (tyX1 k) := by decide +kernel
def RX2 : String := "DioceseBook$Lives"
def TX2 : u_T := fun k => match k with
  | 0 => ("DioceseBook$Lives", "name", "[I", true)
  | 1 => ("DioceseBook$Lives", "x", "[I", true)
  | 2 => ("DioceseBook$Lives", "y", "[I", true)
  | 3 => ("DioceseBook$Lives", "from", "[I", true)
  | 4 => ("DioceseBook$Lives", "to", "[I", true)
  | 5 => ("DioceseBook$Lives", "count", "I", false)
  | 6 => ("DioceseBook$Lives", "rows", "I", false)
  | 7 => ("DioceseBook$Lives", "behind", "[I", true)
  | 8 => ("DioceseBook$Lives", "isJoined", "Z", false)
  | 9 => ("DioceseBook$Lives", "choice", "[I", true)
  | 10 => ("DioceseBook$Lives", "ahead", "[I", true)
  | _ => ("DioceseBook$Lives", "tried", "I", false)
def tyX2 : Nat → FieldType := fun k => match k with
  | 0 => .array .int
  | 1 => .array .int
  | 2 => .array .int
  | 3 => .array .int
  | 4 => .array .int
  | 5 => .int
  | 6 => .int
  | 7 => .array .int
  | 8 => .boolean
  | 9 => .array .int
  | 10 => .array .int
  | _ => .int
abbrev wsX20 : List Cond := u_ws RX2 TX2 12
theorem nmX2 : ∀ a, a < 12 → ∀ b, b < 12 → a ≠ b → (TX2 a).2.1 ≠ (TX2 b).2.1 := by decide +kernel
theorem tyX2_ok : ∀ k, k < 12 → parseFieldDescriptor (TX2 k).2.2.1 = some (tyX2 k) := by decide +kernel
def RX3 : String := "DioceseBook$Papers"
def TX3 : u_T := fun k => match k with
  | 0 => ("DioceseBook$Papers", "kind", "[I", true)
  | 1 => ("DioceseBook$Papers", "day", "[I", true)
  | 2 => ("DioceseBook$Papers", "toldOn", "[I", true)
  | 3 => ("DioceseBook$Papers", "living", "[I", true)
  | 4 => ("DioceseBook$Papers", "person", "[I", true)
  | 5 => ("DioceseBook$Papers", "other", "[I", true)
  | 6 => ("DioceseBook$Papers", "value", "[I", true)
  | 7 => ("DioceseBook$Papers", "count", "I", false)
  | 8 => ("DioceseBook$Papers", "byDay", "[I", true)
  | 9 => ("DioceseBook$Papers", "openFor", "I", false)
  | 10 => ("DioceseBook$Papers", "isVoid", "[Z", true)
  | 11 => ("DioceseBook$Papers", "leaf", "[I", true)
  | 12 => ("DioceseBook$Papers", "size", "I", false)
  | _ => ("DioceseBook$Papers", "first", "[[I", true)
def tyX3 : Nat → FieldType := fun k => match k with
  | 0 => .array .int
  | 1 => .array .int
  | 2 => .array .int
  | 3 => .array .int
  | 4 => .array .int
  | 5 => .array .int
  | 6 => .array .int
  | 7 => .int
  | 8 => .array .int
  | 9 => .int
  | 10 => .array .boolean
  | 11 => .array .int
  | 12 => .int
  | _ => .array (.array .int)
abbrev wsX30 : List Cond := u_ws RX3 TX3 14
theorem nmX3 : ∀ a, a < 14 → ∀ b, b < 14 → a ≠ b → (TX3 a).2.1 ≠ (TX3 b).2.1 := by decide +kernel
theorem tyX3_ok : ∀ k, k < 14 → parseFieldDescriptor (TX3 k).2.2.1 = some (tyX3 k) := by decide +kernel
def RX4 : String := "DioceseBook$Reader"
def TX4 : u_T := fun k => match k with
  | 0 => ("DioceseBook$Reader", "canons", "LDioceseBook$Canons;", true)
  | 1 => ("DioceseBook$Reader", "text", "[C", true)
  | 2 => ("DioceseBook$Reader", "length", "I", false)
  | 3 => ("DioceseBook$Reader", "faultAt", "I", false)
  | 4 => ("DioceseBook$Reader", "wrong", "I", false)
  | _ => ("DioceseBook$Reader", "at", "I", false)
def tyX4 : Nat → FieldType := fun k => match k with
  | 0 => .object "DioceseBook$Canons"
  | 1 => .array .char
  | 2 => .int
  | 3 => .int
  | 4 => .int
  | _ => .int
abbrev wsX40 : List Cond := u_ws RX4 TX4 6
theorem nmX4 : ∀ a, a < 6 → ∀ b, b < 6 → a ≠ b → (TX4 a).2.1 ≠ (TX4 b).2.1 := by decide +kernel
theorem tyX4_ok : ∀ k, k < 6 → parseFieldDescriptor (TX4 k).2.2.1 = some (tyX4 k) := by decide +kernel
def RX5 : String := "DioceseBook$Register"
def TX5 : u_T := fun k => match k with
  | 0 => ("DioceseBook$Register", "estate", "[I", true)
  | 1 => ("DioceseBook$Register", "x", "[I", true)
  | 2 => ("DioceseBook$Register", "y", "[I", true)
  | 3 => ("DioceseBook$Register", "worth", "[I", true)
  | 4 => ("DioceseBook$Register", "persons", "I", false)
  | _ => ("DioceseBook$Register", "livings", "I", false)
def tyX5 : Nat → FieldType := fun k => match k with
  | 0 => .array .int
  | 1 => .array .int
  | 2 => .array .int
  | 3 => .array .int
  | 4 => .int
  | _ => .int
abbrev wsX50 : List Cond := u_ws RX5 TX5 6
theorem nmX5 : ∀ a, a < 6 → ∀ b, b < 6 → a ≠ b → (TX5 a).2.1 ≠ (TX5 b).2.1 := by decide +kernel
theorem tyX5_ok : ∀ k, k < 6 → parseFieldDescriptor (TX5 k).2.2.1 = some (tyX5 k) := by decide +kernel
def RX6 : String := "DioceseBook$Rights"
def TX6 : u_T := fun k => match k with
  | 0 => ("DioceseBook$Rights", "papers", "LDioceseBook$Papers;", true)
  | 1 => ("DioceseBook$Rights", "patron", "[I", true)
  | 2 => ("DioceseBook$Rights", "partner", "[I", true)
  | 3 => ("DioceseBook$Rights", "partnerNext", "[Z", true)
  | 4 => ("DioceseBook$Rights", "sold", "[I", true)
  | 5 => ("DioceseBook$Rights", "soldCount", "I", false)
  | _ => ("DioceseBook$Rights", "isUsed", "[Z", true)
def tyX6 : Nat → FieldType := fun k => match k with
  | 0 => .object "DioceseBook$Papers"
  | 1 => .array .int
  | 2 => .array .int
  | 3 => .array .boolean
  | 4 => .array .int
  | 5 => .int
  | _ => .array .boolean
abbrev wsX60 : List Cond := u_ws RX6 TX6 7
theorem nmX6 : ∀ a, a < 7 → ∀ b, b < 7 → a ≠ b → (TX6 a).2.1 ≠ (TX6 b).2.1 := by decide +kernel
theorem tyX6_ok : ∀ k, k < 7 → parseFieldDescriptor (TX6 k).2.2.1 = some (tyX6 k) := by decide +kernel
def RX7 : String := "DioceseBook$Story"
def TX7 : u_T := fun k => match k with
  | 0 => ("DioceseBook$Story", "register", "LDioceseBook$Register;", true)
  | 1 => ("DioceseBook$Story", "papers", "LDioceseBook$Papers;", true)
  | 2 => ("DioceseBook$Story", "canons", "LDioceseBook$Canons;", true)
  | 3 => ("DioceseBook$Story", "rights", "LDioceseBook$Rights;", true)
  | 4 => ("DioceseBook$Story", "changes", "LDioceseBook$Changes;", true)
  | 5 => ("DioceseBook$Story", "holders", "[J", true)
  | 6 => ("DioceseBook$Story", "since", "[[I", true)
  | 7 => ("DioceseBook$Story", "emptyFrom", "[I", true)
  | 8 => ("DioceseBook$Story", "emptyBy", "[I", true)
  | 9 => ("DioceseBook$Story", "reasons", "[I", true)
  | 10 => ("DioceseBook$Story", "facts", "[I", true)
  | 11 => ("DioceseBook$Story", "toldFor", "I", false)
  | _ => ("DioceseBook$Story", "toldUntil", "I", false)
def tyX7 : Nat → FieldType := fun k => match k with
  | 0 => .object "DioceseBook$Register"
  | 1 => .object "DioceseBook$Papers"
  | 2 => .object "DioceseBook$Canons"
  | 3 => .object "DioceseBook$Rights"
  | 4 => .object "DioceseBook$Changes"
  | 5 => .array .long
  | 6 => .array (.array .int)
  | 7 => .array .int
  | 8 => .array .int
  | 9 => .array .int
  | 10 => .array .int
  | 11 => .int
  | _ => .int
abbrev wsX70 : List Cond := u_ws RX7 TX7 13
theorem nmX7 : ∀ a, a < 13 → ∀ b, b < 13 → a ≠ b → (TX7 a).2.1 ≠ (TX7 b).2.1 := by decide +kernel
theorem tyX7_ok : ∀ k, k < 13 → parseFieldDescriptor (TX7 k).2.2.1 = some (tyX7 k) := by decide +kernel
def RX8 : String := "DioceseBook$Suits"
def TX8 : u_T := fun k => match k with
  | 0 => ("DioceseBook$Suits", "canons", "LDioceseBook$Canons;", true)
  | 1 => ("DioceseBook$Suits", "presentedOn", "[I", true)
  | 2 => ("DioceseBook$Suits", "steps", "[I", true)
  | 3 => ("DioceseBook$Suits", "stepDay", "[[I", true)
  | _ => ("DioceseBook$Suits", "count", "I", false)
def tyX8 : Nat → FieldType := fun k => match k with
  | 0 => .object "DioceseBook$Canons"
  | 1 => .array .int
  | 2 => .array .int
  | 3 => .array (.array .int)
  | _ => .int
abbrev wsX80 : List Cond := u_ws RX8 TX8 5
theorem nmX8 : ∀ a, a < 5 → ∀ b, b < 5 → a ≠ b → (TX8 a).2.1 ≠ (TX8 b).2.1 := by decide +kernel
theorem tyX8_ok : ∀ k, k < 5 → parseFieldDescriptor (TX8 k).2.2.1 = some (tyX8 k) := by decide +kernel
def RX9 : String := "DioceseBook$Terriers"
def TX9 : u_T := fun k => match k with
  | 0 => ("DioceseBook$Terriers", "size", "[I", true)
  | 1 => ("DioceseBook$Terriers", "name", "[[I", true)
  | 2 => ("DioceseBook$Terriers", "acres", "[[I", true)
  | 3 => ("DioceseBook$Terriers", "neighbour", "[[I", true)
  | 4 => ("DioceseBook$Terriers", "cost", "[[I", true)
  | 5 => ("DioceseBook$Terriers", "partners", "[I", true)
  | _ => ("DioceseBook$Terriers", "pairedFor", "I", false)
def tyX9 : Nat → FieldType := fun k => match k with
  | 0 => .array .int
  | 1 => .array (.array .int)
  | 2 => .array (.array .int)
  | 3 => .array (.array .int)
  | 4 => .array (.array .int)
  | 5 => .array .int
  | _ => .int
abbrev wsX90 : List Cond := u_ws RX9 TX9 7
theorem nmX9 : ∀ a, a < 7 → ∀ b, b < 7 → a ≠ b → (TX9 a).2.1 ≠ (TX9 b).2.1 := by decide +kernel
theorem tyX9_ok : ∀ k, k < 7 → parseFieldDescriptor (TX9 k).2.2.1 = some (tyX9 k) := by decide +kernel
def RX10 : String := "DioceseBook$Visitation"
def TX10 : u_T := fun k => match k with
  | 0 => ("DioceseBook$Visitation", "register", "LDioceseBook$Register;", true)
  | 1 => ("DioceseBook$Visitation", "living", "[I", true)
  | 2 => ("DioceseBook$Visitation", "size", "I", false)
  | 3 => ("DioceseBook$Visitation", "way", "[[I", true)
  | 4 => ("DioceseBook$Visitation", "ride", "[I", true)
  | 5 => ("DioceseBook$Visitation", "weight", "[I", true)
  | 6 => ("DioceseBook$Visitation", "dayPart", "[I", true)
  | 7 => ("DioceseBook$Visitation", "plannedSet", "I", false)
  | 8 => ("DioceseBook$Visitation", "plannedMiles", "I", false)
  | 9 => ("DioceseBook$Visitation", "days", "I", false)
  | _ => ("DioceseBook$Visitation", "miles", "I", false)
def tyX10 : Nat → FieldType := fun k => match k with
  | 0 => .object "DioceseBook$Register"
  | 1 => .array .int
  | 2 => .int
  | 3 => .array (.array .int)
  | 4 => .array .int
  | 5 => .array .int
  | 6 => .array .int
  | 7 => .int
  | 8 => .int
  | 9 => .int
  | _ => .int
abbrev wsX100 : List Cond := u_ws RX10 TX10 11
theorem nmX10 : ∀ a, a < 11 → ∀ b, b < 11 → a ≠ b → (TX10 a).2.1 ≠ (TX10 b).2.1 := by decide +kernel
theorem tyX10_ok : ∀ k, k < 11 → parseFieldDescriptor (TX10 k).2.2.1 = some (tyX10 k) := by decide +kernel
def RX11 : String := "DioceseBook"
def TX11 : u_T := fun k => match k with
  | 0 => ("DioceseBook", "register", "LDioceseBook$Register;", true)
  | 1 => ("DioceseBook", "papers", "LDioceseBook$Papers;", true)
  | 2 => ("DioceseBook", "canons", "LDioceseBook$Canons;", true)
  | 3 => ("DioceseBook", "reader", "LDioceseBook$Reader;", true)
  | 4 => ("DioceseBook", "story", "LDioceseBook$Story;", true)
  | 5 => ("DioceseBook", "suits", "LDioceseBook$Suits;", true)
  | 6 => ("DioceseBook", "terriers", "LDioceseBook$Terriers;", true)
  | 7 => ("DioceseBook", "pieces", "LDioceseBook$Lives;", true)
  | 8 => ("DioceseBook", "visitation", "LDioceseBook$Visitation;", true)
  | 9 => ("DioceseBook", "holdersBefore", "[J", true)
  | _ => ("DioceseBook", "now", "I", false)
def tyX11 : Nat → FieldType := fun k => match k with
  | 0 => .object "DioceseBook$Register"
  | 1 => .object "DioceseBook$Papers"
  | 2 => .object "DioceseBook$Canons"
  | 3 => .object "DioceseBook$Reader"
  | 4 => .object "DioceseBook$Story"
  | 5 => .object "DioceseBook$Suits"
  | 6 => .object "DioceseBook$Terriers"
  | 7 => .object "DioceseBook$Lives"
  | 8 => .object "DioceseBook$Visitation"
  | 9 => .array .long
  | _ => .int
abbrev wsX110 : List Cond := u_ws RX11 TX11 11
theorem nmX11 : ∀ a, a < 11 → ∀ b, b < 11 → a ≠ b → (TX11 a).2.1 ≠ (TX11 b).2.1 := by decide +kernel
theorem tyX11_ok : ∀ k, k < 11 → parseFieldDescriptor (TX11 k).2.2.1 = some (tyX11 k) := by decide +kernel
def RX12 : String := "DioceseBookModel"
def TX12 : u_T := fun k => match k with
  | 0 => ("DioceseBookModel", "now", "I", false)
  | 1 => ("DioceseBookModel", "persons", "I", false)
  | 2 => ("DioceseBookModel", "estate", "[I", true)
  | 3 => ("DioceseBookModel", "livings", "I", false)
  | 4 => ("DioceseBookModel", "atX", "[I", true)
  | 5 => ("DioceseBookModel", "atY", "[I", true)
  | 6 => ("DioceseBookModel", "worth", "[I", true)
  | 7 => ("DioceseBookModel", "papers", "I", false)
  | 8 => ("DioceseBookModel", "kindOf", "[I", true)
  | 9 => ("DioceseBookModel", "dayOf", "[I", true)
  | 10 => ("DioceseBookModel", "toldOn", "[I", true)
  | 11 => ("DioceseBookModel", "ofL", "[I", true)
  | 12 => ("DioceseBookModel", "ofP", "[I", true)
  | 13 => ("DioceseBookModel", "ofQ", "[I", true)
  | 14 => ("DioceseBookModel", "ofV", "[I", true)
  | 15 => ("DioceseBookModel", "isVoid", "[Z", true)
  | 16 => ("DioceseBookModel", "book", "[I", true)
  | 17 => ("DioceseBookModel", "bookSize", "I", false)
  | 18 => ("DioceseBookModel", "canons", "I", false)
  | 19 => ("DioceseBookModel", "inForce", "[I", true)
  | 20 => ("DioceseBookModel", "clauses", "[I", true)
  | 21 => ("DioceseBookModel", "clauseKind", "[I", true)
  | 22 => ("DioceseBookModel", "clauseName", "[I", true)
  | 23 => ("DioceseBookModel", "clauseNumber", "[I", true)
  | 24 => ("DioceseBookModel", "testFrom", "[I", true)
  | 25 => ("DioceseBookModel", "testTo", "[I", true)
  | 26 => ("DioceseBookModel", "unlessTo", "[I", true)
  | 27 => ("DioceseBookModel", "steps", "[I", true)
  | 28 => ("DioceseBookModel", "text", "[I", true)
  | 29 => ("DioceseBookModel", "textSize", "I", false)
  | 30 => ("DioceseBookModel", "at", "I", false)
  | 31 => ("DioceseBookModel", "faultOf", "I", false)
  | 32 => ("DioceseBookModel", "place", "I", false)
  | 33 => ("DioceseBookModel", "from", "I", false)
  | 34 => ("DioceseBookModel", "letters", "I", false)
  | 35 => ("DioceseBookModel", "made", "I", false)
  | 36 => ("DioceseBookModel", "open", "[I", true)
  | 37 => ("DioceseBookModel", "openSize", "I", false)
  | 38 => ("DioceseBookModel", "deep", "I", false)
  | 39 => ("DioceseBookModel", "isOn", "[Z", true)
  | 40 => ("DioceseBookModel", "order", "[I", true)
  | 41 => ("DioceseBookModel", "ons", "I", false)
  | 42 => ("DioceseBookModel", "ruler", "I", false)
  | 43 => ("DioceseBookModel", "holders", "[I", true)
  | 44 => ("DioceseBookModel", "holder", "[I", true)
  | 45 => ("DioceseBookModel", "since", "[I", true)
  | 46 => ("DioceseBookModel", "cause", "[I", true)
  | 47 => ("DioceseBookModel", "rightA", "[I", true)
  | 48 => ("DioceseBookModel", "rightB", "[I", true)
  | 49 => ("DioceseBookModel", "turn", "[I", true)
  | 50 => ("DioceseBookModel", "came", "[I", true)
  | 51 => ("DioceseBookModel", "comings", "I", false)
  | 52 => ("DioceseBookModel", "soldMany", "I", false)
  | 53 => ("DioceseBookModel", "soldOf", "[I", true)
  | 54 => ("DioceseBookModel", "soldFrom", "[I", true)
  | 55 => ("DioceseBookModel", "soldTo", "[I", true)
  | 56 => ("DioceseBookModel", "isUsed", "[Z", true)
  | 57 => ("DioceseBookModel", "watched", "I", false)
  | 58 => ("DioceseBookModel", "changes", "I", false)
  | 59 => ("DioceseBookModel", "changeDay", "[I", true)
  | 60 => ("DioceseBookModel", "changeMany", "[I", true)
  | 61 => ("DioceseBookModel", "changePaper", "[I", true)
  | 62 => ("DioceseBookModel", "watchedPaper", "I", false)
  | 63 => ("DioceseBookModel", "whyNot", "I", false)
  | 64 => ("DioceseBookModel", "watchedPerson", "I", false)
  | 65 => ("DioceseBookModel", "fellOn", "I", false)
  | 66 => ("DioceseBookModel", "heap", "I", false)
  | 67 => ("DioceseBookModel", "bits", "[Z", true)
  | 68 => ("DioceseBookModel", "wasHolder", "[Z", true)
  | 69 => ("DioceseBookModel", "suits", "I", false)
  | 70 => ("DioceseBookModel", "suitDay", "[I", true)
  | 71 => ("DioceseBookModel", "suitSteps", "[I", true)
  | 72 => ("DioceseBookModel", "stepDay", "[I", true)
  | 73 => ("DioceseBookModel", "fields", "[I", true)
  | 74 => ("DioceseBookModel", "fieldName", "[I", true)
  | 75 => ("DioceseBookModel", "fieldAcres", "[I", true)
  | 76 => ("DioceseBookModel", "fieldNext", "[I", true)
  | 77 => ("DioceseBookModel", "matchCost", "[I", true)
  | 78 => ("DioceseBookModel", "pieces", "I", false)
  | 79 => ("DioceseBookModel", "pieceName", "[I", true)
  | 80 => ("DioceseBookModel", "pieceX", "[I", true)
  | 81 => ("DioceseBookModel", "pieceY", "[I", true)
  | 82 => ("DioceseBookModel", "pieceFrom", "[I", true)
  | 83 => ("DioceseBookModel", "pieceTo", "[I", true)
  | 84 => ("DioceseBookModel", "behind", "[I", true)
  | 85 => ("DioceseBookModel", "ahead", "[I", true)
  | 86 => ("DioceseBookModel", "isSeen", "[Z", true)
  | 87 => ("DioceseBookModel", "by", "[I", true)
  | 88 => ("DioceseBookModel", "row", "[I", true)
  | 89 => ("DioceseBookModel", "pairsAll", "I", false)
  | 90 => ("DioceseBookModel", "chosen", "[I", true)
  | 91 => ("DioceseBookModel", "seen", "[I", true)
  | 92 => ("DioceseBookModel", "seenMany", "I", false)
  | 93 => ("DioceseBookModel", "wayTo", "[I", true)
  | 94 => ("DioceseBookModel", "round", "[I", true)
  | 95 => ("DioceseBookModel", "daysFor", "[I", true)
  | _ => ("DioceseBookModel", "milesFor", "[I", true)
def tyX12 : Nat → FieldType := fun k => match k with
  | 0 => .int
  | 1 => .int
  | 2 => .array .int
  | 3 => .int
  | 4 => .array .int
  | 5 => .array .int
  | 6 => .array .int
  | 7 => .int
  | 8 => .array .int
  | 9 => .array .int
  | 10 => .array .int
  | 11 => .array .int
  | 12 => .array .int
  | 13 => .array .int
  | 14 => .array .int
  | 15 => .array .boolean
  | 16 => .array .int
  | 17 => .int
  | 18 => .int
  | 19 => .array .int
  | 20 => .array .int
  | 21 => .array .int
  | 22 => .array .int
  | 23 => .array .int
  | 24 => .array .int
  | 25 => .array .int
  | 26 => .array .int
  | 27 => .array .int
  | 28 => .array .int
  | 29 => .int
  | 30 => .int
  | 31 => .int
  | 32 => .int
  | 33 => .int
  | 34 => .int
  | 35 => .int
  | 36 => .array .int
  | 37 => .int
  | 38 => .int
  | 39 => .array .boolean
  | 40 => .array .int
  | 41 => .int
  | 42 => .int
  | 43 => .array .int
  | 44 => .array .int
  | 45 => .array .int
  | 46 => .array .int
  | 47 => .array .int
  | 48 => .array .int
  | 49 => .array .int
  | 50 => .array .int
  | 51 => .int
  | 52 => .int
  | 53 => .array .int
  | 54 => .array .int
  | 55 => .array .int
  | 56 => .array .boolean
  | 57 => .int
  | 58 => .int
  | 59 => .array .int
  | 60 => .array .int
  | 61 => .array .int
  | 62 => .int
  | 63 => .int
  | 64 => .int
  | 65 => .int
  | 66 => .int
  | 67 => .array .boolean
  | 68 => .array .boolean
  | 69 => .int
  | 70 => .array .int
  | 71 => .array .int
  | 72 => .array .int
  | 73 => .array .int
  | 74 => .array .int
  | 75 => .array .int
  | 76 => .array .int
  | 77 => .array .int
  | 78 => .int
  | 79 => .array .int
  | 80 => .array .int
  | 81 => .array .int
  | 82 => .array .int
  | 83 => .array .int
  | 84 => .array .int
  | 85 => .array .int
  | 86 => .array .boolean
  | 87 => .array .int
  | 88 => .array .int
  | 89 => .int
  | 90 => .array .int
  | 91 => .array .int
  | 92 => .int
  | 93 => .array .int
  | 94 => .array .int
  | 95 => .array .int
  | _ => .array .int
abbrev wsX120 : List Cond := u_ws RX12 TX12 97
theorem nmX12 : ∀ a, a < 97 → ∀ b, b < 97 → a ≠ b → (TX12 a).2.1 ≠ (TX12 b).2.1 := by decide +kernel
theorem tyX12_ok : ∀ k, k < 97 → parseFieldDescriptor (TX12 k).2.2.1 = some (tyX12 k) := by decide +kernel
