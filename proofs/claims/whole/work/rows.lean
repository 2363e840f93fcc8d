section
-- ===== PART A: goes FIRST, ahead of the names: the tables' words, and 'selects' of the private methods out of them =====
/-- a private method of a class that the tables say can be made, by its rows of tables_1 -/
def lw_okq (q : MethodName × Nat) : Prop := (q.1.cls ≠ "java/lang/invoke/MethodHandle" ∧ q.1.cls ≠ "java/lang/invoke/VarHandle") ∧ Cond.instantiable q.1.cls q.2 ∈ tables_1 ∧ Cond.privateMethod q.1 ∈ tables_1 ∧ Cond.instanceMethod q.1 ∈ tables_1
theorem lw_p0 : lw_okq (⟨"DioceseBook", "isLiving", "(I)Z"⟩, 11) := ⟨⟨by decide +kernel, by decide +kernel⟩, List.mem_of_getElem? (i := 22) (by decide +kernel), List.mem_of_getElem? (i := 544) (by decide +kernel), List.mem_of_getElem? (i := 545) (by decide +kernel)⟩
theorem lw_p1 : lw_okq (⟨"DioceseBook", "isPerson", "(I)Z"⟩, 11) := ⟨⟨by decide +kernel, by decide +kernel⟩, List.mem_of_getElem? (i := 22) (by decide +kernel), List.mem_of_getElem? (i := 548) (by decide +kernel), List.mem_of_getElem? (i := 549) (by decide +kernel)⟩
theorem lw_p2 : lw_okq (⟨"DioceseBook", "isPaper", "(I)Z"⟩, 11) := ⟨⟨by decide +kernel, by decide +kernel⟩, List.mem_of_getElem? (i := 22) (by decide +kernel), List.mem_of_getElem? (i := 571) (by decide +kernel), List.mem_of_getElem? (i := 572) (by decide +kernel)⟩
theorem lw_p3 : lw_okq (⟨"DioceseBook$Papers", "markVoid", "(I)V"⟩, 14) := ⟨⟨by decide +kernel, by decide +kernel⟩, List.mem_of_getElem? (i := 64) (by decide +kernel), List.mem_of_getElem? (i := 591) (by decide +kernel), List.mem_of_getElem? (i := 592) (by decide +kernel)⟩
theorem lw_p4 : lw_okq (⟨"DioceseBook", "isKnowable", "(I)Z"⟩, 11) := ⟨⟨by decide +kernel, by decide +kernel⟩, List.mem_of_getElem? (i := 22) (by decide +kernel), List.mem_of_getElem? (i := 606) (by decide +kernel), List.mem_of_getElem? (i := 607) (by decide +kernel)⟩
theorem lw_p5 : lw_okq (⟨"DioceseBook$Story", "clearAll", "()V"⟩, 13) := ⟨⟨by decide +kernel, by decide +kernel⟩, List.mem_of_getElem? (i := 222) (by decide +kernel), List.mem_of_getElem? (i := 631) (by decide +kernel), List.mem_of_getElem? (i := 632) (by decide +kernel)⟩
theorem lw_p6 : lw_okq (⟨"DioceseBook$Story", "fallFromAllBut", "(IIII)V"⟩, 13) := ⟨⟨by decide +kernel, by decide +kernel⟩, List.mem_of_getElem? (i := 222) (by decide +kernel), List.mem_of_getElem? (i := 647) (by decide +kernel), List.mem_of_getElem? (i := 648) (by decide +kernel)⟩
theorem lw_p7 : lw_okq (⟨"DioceseBook$Story", "fall", "(III)V"⟩, 13) := ⟨⟨by decide +kernel, by decide +kernel⟩, List.mem_of_getElem? (i := 222) (by decide +kernel), List.mem_of_getElem? (i := 651) (by decide +kernel), List.mem_of_getElem? (i := 652) (by decide +kernel)⟩
theorem lw_p8 : lw_okq (⟨"DioceseBook$Story", "takeIn", "(II)V"⟩, 13) := ⟨⟨by decide +kernel, by decide +kernel⟩, List.mem_of_getElem? (i := 222) (by decide +kernel), List.mem_of_getElem? (i := 674) (by decide +kernel), List.mem_of_getElem? (i := 675) (by decide +kernel)⟩
theorem lw_p9 : lw_okq (⟨"DioceseBook$Canons", "struckBy", "(I)I"⟩, 14) := ⟨⟨by decide +kernel, by decide +kernel⟩, List.mem_of_getElem? (i := 140) (by decide +kernel), List.mem_of_getElem? (i := 702) (by decide +kernel), List.mem_of_getElem? (i := 703) (by decide +kernel)⟩
theorem lw_p10 : lw_okq (⟨"DioceseBook$Canons", "letAll", "(I)V"⟩, 14) := ⟨⟨by decide +kernel, by decide +kernel⟩, List.mem_of_getElem? (i := 140) (by decide +kernel), List.mem_of_getElem? (i := 712) (by decide +kernel), List.mem_of_getElem? (i := 713) (by decide +kernel)⟩
theorem lw_p11 : lw_okq (⟨"DioceseBook$Canons", "isMet", "(II[I)Z"⟩, 14) := ⟨⟨by decide +kernel, by decide +kernel⟩, List.mem_of_getElem? (i := 140) (by decide +kernel), List.mem_of_getElem? (i := 716) (by decide +kernel), List.mem_of_getElem? (i := 717) (by decide +kernel)⟩
theorem lw_p12 : lw_okq (⟨"DioceseBook$Story", "lapsedTo", "(II)I"⟩, 13) := ⟨⟨by decide +kernel, by decide +kernel⟩, List.mem_of_getElem? (i := 222) (by decide +kernel), List.mem_of_getElem? (i := 729) (by decide +kernel), List.mem_of_getElem? (i := 730) (by decide +kernel)⟩
theorem lw_p13 : lw_okq (⟨"DioceseBook$Rights", "firstSold", "(II)I"⟩, 7) := ⟨⟨by decide +kernel, by decide +kernel⟩, List.mem_of_getElem? (i := 229) (by decide +kernel), List.mem_of_getElem? (i := 752) (by decide +kernel), List.mem_of_getElem? (i := 753) (by decide +kernel)⟩
theorem lw_p14 : lw_okq (⟨"DioceseBook$Rights", "livingHeir", "(II)I"⟩, 7) := ⟨⟨by decide +kernel, by decide +kernel⟩, List.mem_of_getElem? (i := 229) (by decide +kernel), List.mem_of_getElem? (i := 756) (by decide +kernel), List.mem_of_getElem? (i := 757) (by decide +kernel)⟩
theorem lw_p15 : lw_okq (⟨"DioceseBook$Story", "otherToKeep", "(III)I"⟩, 13) := ⟨⟨by decide +kernel, by decide +kernel⟩, List.mem_of_getElem? (i := 222) (by decide +kernel), List.mem_of_getElem? (i := 766) (by decide +kernel), List.mem_of_getElem? (i := 767) (by decide +kernel)⟩
def lw_privs_1 : List (MethodName × Nat) := [(⟨"DioceseBook", "isLiving", "(I)Z"⟩, 11), (⟨"DioceseBook", "isPerson", "(I)Z"⟩, 11), (⟨"DioceseBook", "isPaper", "(I)Z"⟩, 11), (⟨"DioceseBook$Papers", "markVoid", "(I)V"⟩, 14), (⟨"DioceseBook", "isKnowable", "(I)Z"⟩, 11), (⟨"DioceseBook$Story", "clearAll", "()V"⟩, 13), (⟨"DioceseBook$Story", "fallFromAllBut", "(IIII)V"⟩, 13), (⟨"DioceseBook$Story", "fall", "(III)V"⟩, 13), (⟨"DioceseBook$Story", "takeIn", "(II)V"⟩, 13), (⟨"DioceseBook$Canons", "struckBy", "(I)I"⟩, 14), (⟨"DioceseBook$Canons", "letAll", "(I)V"⟩, 14), (⟨"DioceseBook$Canons", "isMet", "(II[I)Z"⟩, 14), (⟨"DioceseBook$Story", "lapsedTo", "(II)I"⟩, 13), (⟨"DioceseBook$Rights", "firstSold", "(II)I"⟩, 7), (⟨"DioceseBook$Rights", "livingHeir", "(II)I"⟩, 7), (⟨"DioceseBook$Story", "otherToKeep", "(III)I"⟩, 13)]
theorem lw_r1 : ∀ q ∈ lw_privs_1, lw_okq q := List.forall_mem_cons.mpr ⟨lw_p0, List.forall_mem_cons.mpr ⟨lw_p1, List.forall_mem_cons.mpr ⟨lw_p2, List.forall_mem_cons.mpr ⟨lw_p3, List.forall_mem_cons.mpr ⟨lw_p4, List.forall_mem_cons.mpr ⟨lw_p5, List.forall_mem_cons.mpr ⟨lw_p6, List.forall_mem_cons.mpr ⟨lw_p7, List.forall_mem_cons.mpr ⟨lw_p8, List.forall_mem_cons.mpr ⟨lw_p9, List.forall_mem_cons.mpr ⟨lw_p10, List.forall_mem_cons.mpr ⟨lw_p11, List.forall_mem_cons.mpr ⟨lw_p12, List.forall_mem_cons.mpr ⟨lw_p13, List.forall_mem_cons.mpr ⟨lw_p14, List.forall_mem_cons.mpr ⟨lw_p15, fun _ h => absurd h List.not_mem_nil⟩⟩⟩⟩⟩⟩⟩⟩⟩⟩⟩⟩⟩⟩⟩⟩
theorem lw_p16 : lw_okq (⟨"DioceseBook$Story", "mayHoldBoth", "(IIII)Z"⟩, 13) := ⟨⟨by decide +kernel, by decide +kernel⟩, List.mem_of_getElem? (i := 222) (by decide +kernel), List.mem_of_getElem? (i := 770) (by decide +kernel), List.mem_of_getElem? (i := 771) (by decide +kernel)⟩
theorem lw_p17 : lw_okq (⟨"DioceseBook$Reader", "isAtEnd", "()Z"⟩, 6) := ⟨⟨by decide +kernel, by decide +kernel⟩, List.mem_of_getElem? (i := 194) (by decide +kernel), List.mem_of_getElem? (i := 810) (by decide +kernel), List.mem_of_getElem? (i := 811) (by decide +kernel)⟩
theorem lw_p18 : lw_okq (⟨"DioceseBook$Reader", "skipBlanks", "()V"⟩, 6) := ⟨⟨by decide +kernel, by decide +kernel⟩, List.mem_of_getElem? (i := 194) (by decide +kernel), List.mem_of_getElem? (i := 814) (by decide +kernel), List.mem_of_getElem? (i := 815) (by decide +kernel)⟩
theorem lw_p19 : lw_okq (⟨"DioceseBook$Reader", "clauseWord", "()I"⟩, 6) := ⟨⟨by decide +kernel, by decide +kernel⟩, List.mem_of_getElem? (i := 194) (by decide +kernel), List.mem_of_getElem? (i := 818) (by decide +kernel), List.mem_of_getElem? (i := 819) (by decide +kernel)⟩
theorem lw_p20 : lw_okq (⟨"DioceseBook$Reader", "takeWord", "(Ljava/lang/String;)Z"⟩, 6) := ⟨⟨by decide +kernel, by decide +kernel⟩, List.mem_of_getElem? (i := 194) (by decide +kernel), List.mem_of_getElem? (i := 823) (by decide +kernel), List.mem_of_getElem? (i := 824) (by decide +kernel)⟩
theorem lw_p21 : lw_okq (⟨"DioceseBook$Reader", "fail", "(II)V"⟩, 6) := ⟨⟨by decide +kernel, by decide +kernel⟩, List.mem_of_getElem? (i := 194) (by decide +kernel), List.mem_of_getElem? (i := 877) (by decide +kernel), List.mem_of_getElem? (i := 878) (by decide +kernel)⟩
theorem lw_p22 : lw_okq (⟨"DioceseBook$Reader", "readLet", "()V"⟩, 6) := ⟨⟨by decide +kernel, by decide +kernel⟩, List.mem_of_getElem? (i := 194) (by decide +kernel), List.mem_of_getElem? (i := 881) (by decide +kernel), List.mem_of_getElem? (i := 882) (by decide +kernel)⟩
theorem lw_p23 : lw_okq (⟨"DioceseBook$Reader", "nameWord", "()I"⟩, 6) := ⟨⟨by decide +kernel, by decide +kernel⟩, List.mem_of_getElem? (i := 194) (by decide +kernel), List.mem_of_getElem? (i := 885) (by decide +kernel), List.mem_of_getElem? (i := 886) (by decide +kernel)⟩
theorem lw_p24 : lw_okq (⟨"DioceseBook$Reader", "readNumber", "(I)I"⟩, 6) := ⟨⟨by decide +kernel, by decide +kernel⟩, List.mem_of_getElem? (i := 194) (by decide +kernel), List.mem_of_getElem? (i := 899) (by decide +kernel), List.mem_of_getElem? (i := 900) (by decide +kernel)⟩
theorem lw_p25 : lw_okq (⟨"DioceseBook$Reader", "expect", "(C)V"⟩, 6) := ⟨⟨by decide +kernel, by decide +kernel⟩, List.mem_of_getElem? (i := 194) (by decide +kernel), List.mem_of_getElem? (i := 903) (by decide +kernel), List.mem_of_getElem? (i := 904) (by decide +kernel)⟩
theorem lw_p26 : lw_okq (⟨"DioceseBook$Reader", "takeSign", "(C)Z"⟩, 6) := ⟨⟨by decide +kernel, by decide +kernel⟩, List.mem_of_getElem? (i := 194) (by decide +kernel), List.mem_of_getElem? (i := 907) (by decide +kernel), List.mem_of_getElem? (i := 908) (by decide +kernel)⟩
theorem lw_p27 : lw_okq (⟨"DioceseBook$Reader", "readBar", "()V"⟩, 6) := ⟨⟨by decide +kernel, by decide +kernel⟩, List.mem_of_getElem? (i := 194) (by decide +kernel), List.mem_of_getElem? (i := 915) (by decide +kernel), List.mem_of_getElem? (i := 916) (by decide +kernel)⟩
theorem lw_p28 : lw_okq (⟨"DioceseBook$Reader", "readTest", "(I)V"⟩, 6) := ⟨⟨by decide +kernel, by decide +kernel⟩, List.mem_of_getElem? (i := 194) (by decide +kernel), List.mem_of_getElem? (i := 923) (by decide +kernel), List.mem_of_getElem? (i := 924) (by decide +kernel)⟩
theorem lw_p29 : lw_okq (⟨"DioceseBook$Reader", "readComparison", "()V"⟩, 6) := ⟨⟨by decide +kernel, by decide +kernel⟩, List.mem_of_getElem? (i := 194) (by decide +kernel), List.mem_of_getElem? (i := 928) (by decide +kernel), List.mem_of_getElem? (i := 929) (by decide +kernel)⟩
theorem lw_p30 : lw_okq (⟨"DioceseBook$Reader", "factWord", "()I"⟩, 6) := ⟨⟨by decide +kernel, by decide +kernel⟩, List.mem_of_getElem? (i := 194) (by decide +kernel), List.mem_of_getElem? (i := 932) (by decide +kernel), List.mem_of_getElem? (i := 933) (by decide +kernel)⟩
theorem lw_p31 : lw_okq (⟨"DioceseBook$Reader", "compareSign", "()I"⟩, 6) := ⟨⟨by decide +kernel, by decide +kernel⟩, List.mem_of_getElem? (i := 194) (by decide +kernel), List.mem_of_getElem? (i := 942) (by decide +kernel), List.mem_of_getElem? (i := 943) (by decide +kernel)⟩
def lw_privs_2 : List (MethodName × Nat) := [(⟨"DioceseBook$Story", "mayHoldBoth", "(IIII)Z"⟩, 13), (⟨"DioceseBook$Reader", "isAtEnd", "()Z"⟩, 6), (⟨"DioceseBook$Reader", "skipBlanks", "()V"⟩, 6), (⟨"DioceseBook$Reader", "clauseWord", "()I"⟩, 6), (⟨"DioceseBook$Reader", "takeWord", "(Ljava/lang/String;)Z"⟩, 6), (⟨"DioceseBook$Reader", "fail", "(II)V"⟩, 6), (⟨"DioceseBook$Reader", "readLet", "()V"⟩, 6), (⟨"DioceseBook$Reader", "nameWord", "()I"⟩, 6), (⟨"DioceseBook$Reader", "readNumber", "(I)I"⟩, 6), (⟨"DioceseBook$Reader", "expect", "(C)V"⟩, 6), (⟨"DioceseBook$Reader", "takeSign", "(C)Z"⟩, 6), (⟨"DioceseBook$Reader", "readBar", "()V"⟩, 6), (⟨"DioceseBook$Reader", "readTest", "(I)V"⟩, 6), (⟨"DioceseBook$Reader", "readComparison", "()V"⟩, 6), (⟨"DioceseBook$Reader", "factWord", "()I"⟩, 6), (⟨"DioceseBook$Reader", "compareSign", "()I"⟩, 6)]
theorem lw_r2 : ∀ q ∈ lw_privs_2, lw_okq q := List.forall_mem_cons.mpr ⟨lw_p16, List.forall_mem_cons.mpr ⟨lw_p17, List.forall_mem_cons.mpr ⟨lw_p18, List.forall_mem_cons.mpr ⟨lw_p19, List.forall_mem_cons.mpr ⟨lw_p20, List.forall_mem_cons.mpr ⟨lw_p21, List.forall_mem_cons.mpr ⟨lw_p22, List.forall_mem_cons.mpr ⟨lw_p23, List.forall_mem_cons.mpr ⟨lw_p24, List.forall_mem_cons.mpr ⟨lw_p25, List.forall_mem_cons.mpr ⟨lw_p26, List.forall_mem_cons.mpr ⟨lw_p27, List.forall_mem_cons.mpr ⟨lw_p28, List.forall_mem_cons.mpr ⟨lw_p29, List.forall_mem_cons.mpr ⟨lw_p30, List.forall_mem_cons.mpr ⟨lw_p31, fun _ h => absurd h List.not_mem_nil⟩⟩⟩⟩⟩⟩⟩⟩⟩⟩⟩⟩⟩⟩⟩⟩
theorem lw_p32 : lw_okq (⟨"DioceseBook$Reader", "readStrike", "()V"⟩, 6) := ⟨⟨by decide +kernel, by decide +kernel⟩, List.mem_of_getElem? (i := 194) (by decide +kernel), List.mem_of_getElem? (i := 953) (by decide +kernel), List.mem_of_getElem? (i := 954) (by decide +kernel)⟩
theorem lw_p33 : lw_okq (⟨"DioceseBook", "refusalOfIn", "(II)I"⟩, 11) := ⟨⟨by decide +kernel, by decide +kernel⟩, List.mem_of_getElem? (i := 22) (by decide +kernel), List.mem_of_getElem? (i := 1001) (by decide +kernel), List.mem_of_getElem? (i := 1002) (by decide +kernel)⟩
theorem lw_p34 : lw_okq (⟨"DioceseBook", "isSuit", "(I)Z"⟩, 11) := ⟨⟨by decide +kernel, by decide +kernel⟩, List.mem_of_getElem? (i := 22) (by decide +kernel), List.mem_of_getElem? (i := 1048) (by decide +kernel), List.mem_of_getElem? (i := 1049) (by decide +kernel)⟩
theorem lw_p35 : lw_okq (⟨"DioceseBook$Terriers", "aloneBehind", "(II)I"⟩, 7) := ⟨⟨by decide +kernel, by decide +kernel⟩, List.mem_of_getElem? (i := 359) (by decide +kernel), List.mem_of_getElem? (i := 1126) (by decide +kernel), List.mem_of_getElem? (i := 1127) (by decide +kernel)⟩
theorem lw_p36 : lw_okq (⟨"DioceseBook$Terriers", "aloneCost", "(II)I"⟩, 7) := ⟨⟨by decide +kernel, by decide +kernel⟩, List.mem_of_getElem? (i := 359) (by decide +kernel), List.mem_of_getElem? (i := 1130) (by decide +kernel), List.mem_of_getElem? (i := 1131) (by decide +kernel)⟩
theorem lw_p37 : lw_okq (⟨"DioceseBook$Terriers", "leastFrom", "(III)I"⟩, 7) := ⟨⟨by decide +kernel, by decide +kernel⟩, List.mem_of_getElem? (i := 359) (by decide +kernel), List.mem_of_getElem? (i := 1140) (by decide +kernel), List.mem_of_getElem? (i := 1141) (by decide +kernel)⟩
theorem lw_p38 : lw_okq (⟨"DioceseBook$Terriers", "pairCost", "(III)I"⟩, 7) := ⟨⟨by decide +kernel, by decide +kernel⟩, List.mem_of_getElem? (i := 359) (by decide +kernel), List.mem_of_getElem? (i := 1144) (by decide +kernel), List.mem_of_getElem? (i := 1145) (by decide +kernel)⟩
theorem lw_p39 : lw_okq (⟨"DioceseBook$Terriers", "firstPartner", "(III)I"⟩, 7) := ⟨⟨by decide +kernel, by decide +kernel⟩, List.mem_of_getElem? (i := 359) (by decide +kernel), List.mem_of_getElem? (i := 1150) (by decide +kernel), List.mem_of_getElem? (i := 1151) (by decide +kernel)⟩
theorem lw_p40 : lw_okq (⟨"DioceseBook", "isPiece", "(I)Z"⟩, 11) := ⟨⟨by decide +kernel, by decide +kernel⟩, List.mem_of_getElem? (i := 22) (by decide +kernel), List.mem_of_getElem? (i := 1176) (by decide +kernel), List.mem_of_getElem? (i := 1177) (by decide +kernel)⟩
theorem lw_p41 : lw_okq (⟨"DioceseBook$Lives", "isAhead", "(II)Z"⟩, 12) := ⟨⟨by decide +kernel, by decide +kernel⟩, List.mem_of_getElem? (i := 388) (by decide +kernel), List.mem_of_getElem? (i := 1185) (by decide +kernel), List.mem_of_getElem? (i := 1186) (by decide +kernel)⟩
theorem lw_p42 : lw_okq (⟨"DioceseBook$Lives", "mostLinks", "(II)I"⟩, 12) := ⟨⟨by decide +kernel, by decide +kernel⟩, List.mem_of_getElem? (i := 388) (by decide +kernel), List.mem_of_getElem? (i := 1198) (by decide +kernel), List.mem_of_getElem? (i := 1199) (by decide +kernel)⟩
theorem lw_p43 : lw_okq (⟨"DioceseBook$Lives", "link", "(II)Z"⟩, 12) := ⟨⟨by decide +kernel, by decide +kernel⟩, List.mem_of_getElem? (i := 388) (by decide +kernel), List.mem_of_getElem? (i := 1202) (by decide +kernel), List.mem_of_getElem? (i := 1203) (by decide +kernel)⟩
theorem lw_p44 : lw_okq (⟨"DioceseBook$Lives", "leastBehind", "(III)I"⟩, 12) := ⟨⟨by decide +kernel, by decide +kernel⟩, List.mem_of_getElem? (i := 388) (by decide +kernel), List.mem_of_getElem? (i := 1206) (by decide +kernel), List.mem_of_getElem? (i := 1207) (by decide +kernel)⟩
theorem lw_p45 : lw_okq (⟨"DioceseBook$Visitation", "measure", "()V"⟩, 11) := ⟨⟨by decide +kernel, by decide +kernel⟩, List.mem_of_getElem? (i := 434) (by decide +kernel), List.mem_of_getElem? (i := 1219) (by decide +kernel), List.mem_of_getElem? (i := 1220) (by decide +kernel)⟩
theorem lw_p46 : lw_okq (⟨"DioceseBook$Visitation", "wayTo", "(II)I"⟩, 11) := ⟨⟨by decide +kernel, by decide +kernel⟩, List.mem_of_getElem? (i := 434) (by decide +kernel), List.mem_of_getElem? (i := 1224) (by decide +kernel), List.mem_of_getElem? (i := 1225) (by decide +kernel)⟩
theorem lw_p47 : lw_okq (⟨"DioceseBook$Visitation", "choose", "(I)V"⟩, 11) := ⟨⟨by decide +kernel, by decide +kernel⟩, List.mem_of_getElem? (i := 434) (by decide +kernel), List.mem_of_getElem? (i := 1234) (by decide +kernel), List.mem_of_getElem? (i := 1235) (by decide +kernel)⟩
def lw_privs_3 : List (MethodName × Nat) := [(⟨"DioceseBook$Reader", "readStrike", "()V"⟩, 6), (⟨"DioceseBook", "refusalOfIn", "(II)I"⟩, 11), (⟨"DioceseBook", "isSuit", "(I)Z"⟩, 11), (⟨"DioceseBook$Terriers", "aloneBehind", "(II)I"⟩, 7), (⟨"DioceseBook$Terriers", "aloneCost", "(II)I"⟩, 7), (⟨"DioceseBook$Terriers", "leastFrom", "(III)I"⟩, 7), (⟨"DioceseBook$Terriers", "pairCost", "(III)I"⟩, 7), (⟨"DioceseBook$Terriers", "firstPartner", "(III)I"⟩, 7), (⟨"DioceseBook", "isPiece", "(I)Z"⟩, 11), (⟨"DioceseBook$Lives", "isAhead", "(II)Z"⟩, 12), (⟨"DioceseBook$Lives", "mostLinks", "(II)I"⟩, 12), (⟨"DioceseBook$Lives", "link", "(II)Z"⟩, 12), (⟨"DioceseBook$Lives", "leastBehind", "(III)I"⟩, 12), (⟨"DioceseBook$Visitation", "measure", "()V"⟩, 11), (⟨"DioceseBook$Visitation", "wayTo", "(II)I"⟩, 11), (⟨"DioceseBook$Visitation", "choose", "(I)V"⟩, 11)]
theorem lw_r3 : ∀ q ∈ lw_privs_3, lw_okq q := List.forall_mem_cons.mpr ⟨lw_p32, List.forall_mem_cons.mpr ⟨lw_p33, List.forall_mem_cons.mpr ⟨lw_p34, List.forall_mem_cons.mpr ⟨lw_p35, List.forall_mem_cons.mpr ⟨lw_p36, List.forall_mem_cons.mpr ⟨lw_p37, List.forall_mem_cons.mpr ⟨lw_p38, List.forall_mem_cons.mpr ⟨lw_p39, List.forall_mem_cons.mpr ⟨lw_p40, List.forall_mem_cons.mpr ⟨lw_p41, List.forall_mem_cons.mpr ⟨lw_p42, List.forall_mem_cons.mpr ⟨lw_p43, List.forall_mem_cons.mpr ⟨lw_p44, List.forall_mem_cons.mpr ⟨lw_p45, List.forall_mem_cons.mpr ⟨lw_p46, List.forall_mem_cons.mpr ⟨lw_p47, fun _ h => absurd h List.not_mem_nil⟩⟩⟩⟩⟩⟩⟩⟩⟩⟩⟩⟩⟩⟩⟩⟩
theorem lw_p48 : lw_okq (⟨"DioceseBook$Visitation", "leastFirst", "(II)I"⟩, 11) := ⟨⟨by decide +kernel, by decide +kernel⟩, List.mem_of_getElem? (i := 434) (by decide +kernel), List.mem_of_getElem? (i := 1238) (by decide +kernel), List.mem_of_getElem? (i := 1239) (by decide +kernel)⟩
theorem lw_p49 : lw_okq (⟨"DioceseBookModel", "noLiving", "(I)Z"⟩, 97) := ⟨⟨by decide +kernel, by decide +kernel⟩, List.mem_of_getElem? (i := 1246) (by decide +kernel), List.mem_of_getElem? (i := 1570) (by decide +kernel), List.mem_of_getElem? (i := 1571) (by decide +kernel)⟩
theorem lw_p50 : lw_okq (⟨"DioceseBookModel", "noPerson", "(I)Z"⟩, 97) := ⟨⟨by decide +kernel, by decide +kernel⟩, List.mem_of_getElem? (i := 1246) (by decide +kernel), List.mem_of_getElem? (i := 1574) (by decide +kernel), List.mem_of_getElem? (i := 1575) (by decide +kernel)⟩
theorem lw_p51 : lw_okq (⟨"DioceseBookModel", "isKnown", "(I)Z"⟩, 97) := ⟨⟨by decide +kernel, by decide +kernel⟩, List.mem_of_getElem? (i := 1246) (by decide +kernel), List.mem_of_getElem? (i := 1595) (by decide +kernel), List.mem_of_getElem? (i := 1596) (by decide +kernel)⟩
theorem lw_p52 : lw_okq (⟨"DioceseBookModel", "findVoid", "(I)I"⟩, 97) := ⟨⟨by decide +kernel, by decide +kernel⟩, List.mem_of_getElem? (i := 1246) (by decide +kernel), List.mem_of_getElem? (i := 1606) (by decide +kernel), List.mem_of_getElem? (i := 1607) (by decide +kernel)⟩
theorem lw_p53 : lw_okq (⟨"DioceseBookModel", "findBook", "(I)V"⟩, 97) := ⟨⟨by decide +kernel, by decide +kernel⟩, List.mem_of_getElem? (i := 1246) (by decide +kernel), List.mem_of_getElem? (i := 1617) (by decide +kernel), List.mem_of_getElem? (i := 1618) (by decide +kernel)⟩
theorem lw_p54 : lw_okq (⟨"DioceseBookModel", "dayOn", "(II)I"⟩, 97) := ⟨⟨by decide +kernel, by decide +kernel⟩, List.mem_of_getElem? (i := 1246) (by decide +kernel), List.mem_of_getElem? (i := 1626) (by decide +kernel), List.mem_of_getElem? (i := 1627) (by decide +kernel)⟩
theorem lw_p55 : lw_okq (⟨"DioceseBookModel", "firstOf", "(II)I"⟩, 97) := ⟨⟨by decide +kernel, by decide +kernel⟩, List.mem_of_getElem? (i := 1246) (by decide +kernel), List.mem_of_getElem? (i := 1630) (by decide +kernel), List.mem_of_getElem? (i := 1631) (by decide +kernel)⟩
theorem lw_p56 : lw_okq (⟨"DioceseBookModel", "heirOf", "(II)I"⟩, 97) := ⟨⟨by decide +kernel, by decide +kernel⟩, List.mem_of_getElem? (i := 1246) (by decide +kernel), List.mem_of_getElem? (i := 1634) (by decide +kernel), List.mem_of_getElem? (i := 1635) (by decide +kernel)⟩
theorem lw_p57 : lw_okq (⟨"DioceseBookModel", "hasLeave", "(II)Z"⟩, 97) := ⟨⟨by decide +kernel, by decide +kernel⟩, List.mem_of_getElem? (i := 1246) (by decide +kernel), List.mem_of_getElem? (i := 1638) (by decide +kernel), List.mem_of_getElem? (i := 1639) (by decide +kernel)⟩
theorem lw_p58 : lw_okq (⟨"DioceseBookModel", "readAll", "()I"⟩, 97) := ⟨⟨by decide +kernel, by decide +kernel⟩, List.mem_of_getElem? (i := 1246) (by decide +kernel), List.mem_of_getElem? (i := 1656) (by decide +kernel), List.mem_of_getElem? (i := 1657) (by decide +kernel)⟩
theorem lw_p59 : lw_okq (⟨"DioceseBookModel", "here", "()I"⟩, 97) := ⟨⟨by decide +kernel, by decide +kernel⟩, List.mem_of_getElem? (i := 1246) (by decide +kernel), List.mem_of_getElem? (i := 1660) (by decide +kernel), List.mem_of_getElem? (i := 1661) (by decide +kernel)⟩
theorem lw_p60 : lw_okq (⟨"DioceseBookModel", "takeWord", "()V"⟩, 97) := ⟨⟨by decide +kernel, by decide +kernel⟩, List.mem_of_getElem? (i := 1246) (by decide +kernel), List.mem_of_getElem? (i := 1664) (by decide +kernel), List.mem_of_getElem? (i := 1665) (by decide +kernel)⟩
theorem lw_p61 : lw_okq (⟨"DioceseBookModel", "isWord", "(IIIIIII)Z"⟩, 97) := ⟨⟨by decide +kernel, by decide +kernel⟩, List.mem_of_getElem? (i := 1246) (by decide +kernel), List.mem_of_getElem? (i := 1670) (by decide +kernel), List.mem_of_getElem? (i := 1671) (by decide +kernel)⟩
theorem lw_p62 : lw_okq (⟨"DioceseBookModel", "want", "(ZII)Z"⟩, 97) := ⟨⟨by decide +kernel, by decide +kernel⟩, List.mem_of_getElem? (i := 1246) (by decide +kernel), List.mem_of_getElem? (i := 1674) (by decide +kernel), List.mem_of_getElem? (i := 1675) (by decide +kernel)⟩
theorem lw_p63 : lw_okq (⟨"DioceseBookModel", "readClause", "(II)V"⟩, 97) := ⟨⟨by decide +kernel, by decide +kernel⟩, List.mem_of_getElem? (i := 1246) (by decide +kernel), List.mem_of_getElem? (i := 1678) (by decide +kernel), List.mem_of_getElem? (i := 1679) (by decide +kernel)⟩
def lw_privs_4 : List (MethodName × Nat) := [(⟨"DioceseBook$Visitation", "leastFirst", "(II)I"⟩, 11), (⟨"DioceseBookModel", "noLiving", "(I)Z"⟩, 97), (⟨"DioceseBookModel", "noPerson", "(I)Z"⟩, 97), (⟨"DioceseBookModel", "isKnown", "(I)Z"⟩, 97), (⟨"DioceseBookModel", "findVoid", "(I)I"⟩, 97), (⟨"DioceseBookModel", "findBook", "(I)V"⟩, 97), (⟨"DioceseBookModel", "dayOn", "(II)I"⟩, 97), (⟨"DioceseBookModel", "firstOf", "(II)I"⟩, 97), (⟨"DioceseBookModel", "heirOf", "(II)I"⟩, 97), (⟨"DioceseBookModel", "hasLeave", "(II)Z"⟩, 97), (⟨"DioceseBookModel", "readAll", "()I"⟩, 97), (⟨"DioceseBookModel", "here", "()I"⟩, 97), (⟨"DioceseBookModel", "takeWord", "()V"⟩, 97), (⟨"DioceseBookModel", "isWord", "(IIIIIII)Z"⟩, 97), (⟨"DioceseBookModel", "want", "(ZII)Z"⟩, 97), (⟨"DioceseBookModel", "readClause", "(II)V"⟩, 97)]
theorem lw_r4 : ∀ q ∈ lw_privs_4, lw_okq q := List.forall_mem_cons.mpr ⟨lw_p48, List.forall_mem_cons.mpr ⟨lw_p49, List.forall_mem_cons.mpr ⟨lw_p50, List.forall_mem_cons.mpr ⟨lw_p51, List.forall_mem_cons.mpr ⟨lw_p52, List.forall_mem_cons.mpr ⟨lw_p53, List.forall_mem_cons.mpr ⟨lw_p54, List.forall_mem_cons.mpr ⟨lw_p55, List.forall_mem_cons.mpr ⟨lw_p56, List.forall_mem_cons.mpr ⟨lw_p57, List.forall_mem_cons.mpr ⟨lw_p58, List.forall_mem_cons.mpr ⟨lw_p59, List.forall_mem_cons.mpr ⟨lw_p60, List.forall_mem_cons.mpr ⟨lw_p61, List.forall_mem_cons.mpr ⟨lw_p62, List.forall_mem_cons.mpr ⟨lw_p63, fun _ h => absurd h List.not_mem_nil⟩⟩⟩⟩⟩⟩⟩⟩⟩⟩⟩⟩⟩⟩⟩⟩
theorem lw_p64 : lw_okq (⟨"DioceseBookModel", "nameOf", "()I"⟩, 97) := ⟨⟨by decide +kernel, by decide +kernel⟩, List.mem_of_getElem? (i := 1246) (by decide +kernel), List.mem_of_getElem? (i := 1682) (by decide +kernel), List.mem_of_getElem? (i := 1683) (by decide +kernel)⟩
theorem lw_p65 : lw_okq (⟨"DioceseBookModel", "takeNumber", "(I)I"⟩, 97) := ⟨⟨by decide +kernel, by decide +kernel⟩, List.mem_of_getElem? (i := 1246) (by decide +kernel), List.mem_of_getElem? (i := 1689) (by decide +kernel), List.mem_of_getElem? (i := 1690) (by decide +kernel)⟩
theorem lw_p66 : lw_okq (⟨"DioceseBookModel", "readTest", "(Z)Z"⟩, 97) := ⟨⟨by decide +kernel, by decide +kernel⟩, List.mem_of_getElem? (i := 1246) (by decide +kernel), List.mem_of_getElem? (i := 1695) (by decide +kernel), List.mem_of_getElem? (i := 1696) (by decide +kernel)⟩
theorem lw_p67 : lw_okq (⟨"DioceseBookModel", "readOne", "()Z"⟩, 97) := ⟨⟨by decide +kernel, by decide +kernel⟩, List.mem_of_getElem? (i := 1246) (by decide +kernel), List.mem_of_getElem? (i := 1699) (by decide +kernel), List.mem_of_getElem? (i := 1700) (by decide +kernel)⟩
theorem lw_p68 : lw_okq (⟨"DioceseBookModel", "push", "(I)V"⟩, 97) := ⟨⟨by decide +kernel, by decide +kernel⟩, List.mem_of_getElem? (i := 1246) (by decide +kernel), List.mem_of_getElem? (i := 1703) (by decide +kernel), List.mem_of_getElem? (i := 1704) (by decide +kernel)⟩
theorem lw_p69 : lw_okq (⟨"DioceseBookModel", "factOf", "()I"⟩, 97) := ⟨⟨by decide +kernel, by decide +kernel⟩, List.mem_of_getElem? (i := 1246) (by decide +kernel), List.mem_of_getElem? (i := 1707) (by decide +kernel), List.mem_of_getElem? (i := 1708) (by decide +kernel)⟩
theorem lw_p70 : lw_okq (⟨"DioceseBookModel", "emit", "(I)V"⟩, 97) := ⟨⟨by decide +kernel, by decide +kernel⟩, List.mem_of_getElem? (i := 1246) (by decide +kernel), List.mem_of_getElem? (i := 1711) (by decide +kernel), List.mem_of_getElem? (i := 1712) (by decide +kernel)⟩
theorem lw_p71 : lw_okq (⟨"DioceseBookModel", "letOut", "(I)V"⟩, 97) := ⟨⟨by decide +kernel, by decide +kernel⟩, List.mem_of_getElem? (i := 1246) (by decide +kernel), List.mem_of_getElem? (i := 1715) (by decide +kernel), List.mem_of_getElem? (i := 1716) (by decide +kernel)⟩
theorem lw_p72 : lw_okq (⟨"DioceseBookModel", "forceOf", "(II)I"⟩, 97) := ⟨⟨by decide +kernel, by decide +kernel⟩, List.mem_of_getElem? (i := 1246) (by decide +kernel), List.mem_of_getElem? (i := 1728) (by decide +kernel), List.mem_of_getElem? (i := 1729) (by decide +kernel)⟩
theorem lw_p73 : lw_okq (⟨"DioceseBookModel", "findCanons", "(I)V"⟩, 97) := ⟨⟨by decide +kernel, by decide +kernel⟩, List.mem_of_getElem? (i := 1246) (by decide +kernel), List.mem_of_getElem? (i := 1732) (by decide +kernel), List.mem_of_getElem? (i := 1733) (by decide +kernel)⟩
theorem lw_p74 : lw_okq (⟨"DioceseBookModel", "watch", "(III)V"⟩, 97) := ⟨⟨by decide +kernel, by decide +kernel⟩, List.mem_of_getElem? (i := 1246) (by decide +kernel), List.mem_of_getElem? (i := 1747) (by decide +kernel), List.mem_of_getElem? (i := 1748) (by decide +kernel)⟩
theorem lw_p75 : lw_okq (⟨"DioceseBookModel", "tell", "(II)V"⟩, 97) := ⟨⟨by decide +kernel, by decide +kernel⟩, List.mem_of_getElem? (i := 1246) (by decide +kernel), List.mem_of_getElem? (i := 1751) (by decide +kernel), List.mem_of_getElem? (i := 1752) (by decide +kernel)⟩
theorem lw_p76 : lw_okq (⟨"DioceseBookModel", "lay", "(III)V"⟩, 97) := ⟨⟨by decide +kernel, by decide +kernel⟩, List.mem_of_getElem? (i := 1246) (by decide +kernel), List.mem_of_getElem? (i := 1755) (by decide +kernel), List.mem_of_getElem? (i := 1756) (by decide +kernel)⟩
theorem lw_p77 : lw_okq (⟨"DioceseBookModel", "befall", "(I)V"⟩, 97) := ⟨⟨by decide +kernel, by decide +kernel⟩, List.mem_of_getElem? (i := 1246) (by decide +kernel), List.mem_of_getElem? (i := 1759) (by decide +kernel), List.mem_of_getElem? (i := 1760) (by decide +kernel)⟩
theorem lw_p78 : lw_okq (⟨"DioceseBookModel", "goIn", "(I)V"⟩, 97) := ⟨⟨by decide +kernel, by decide +kernel⟩, List.mem_of_getElem? (i := 1246) (by decide +kernel), List.mem_of_getElem? (i := 1763) (by decide +kernel), List.mem_of_getElem? (i := 1764) (by decide +kernel)⟩
theorem lw_p79 : lw_okq (⟨"DioceseBookModel", "isDead", "(II)Z"⟩, 97) := ⟨⟨by decide +kernel, by decide +kernel⟩, List.mem_of_getElem? (i := 1246) (by decide +kernel), List.mem_of_getElem? (i := 1767) (by decide +kernel), List.mem_of_getElem? (i := 1768) (by decide +kernel)⟩
def lw_privs_5 : List (MethodName × Nat) := [(⟨"DioceseBookModel", "nameOf", "()I"⟩, 97), (⟨"DioceseBookModel", "takeNumber", "(I)I"⟩, 97), (⟨"DioceseBookModel", "readTest", "(Z)Z"⟩, 97), (⟨"DioceseBookModel", "readOne", "()Z"⟩, 97), (⟨"DioceseBookModel", "push", "(I)V"⟩, 97), (⟨"DioceseBookModel", "factOf", "()I"⟩, 97), (⟨"DioceseBookModel", "emit", "(I)V"⟩, 97), (⟨"DioceseBookModel", "letOut", "(I)V"⟩, 97), (⟨"DioceseBookModel", "forceOf", "(II)I"⟩, 97), (⟨"DioceseBookModel", "findCanons", "(I)V"⟩, 97), (⟨"DioceseBookModel", "watch", "(III)V"⟩, 97), (⟨"DioceseBookModel", "tell", "(II)V"⟩, 97), (⟨"DioceseBookModel", "lay", "(III)V"⟩, 97), (⟨"DioceseBookModel", "befall", "(I)V"⟩, 97), (⟨"DioceseBookModel", "goIn", "(I)V"⟩, 97), (⟨"DioceseBookModel", "isDead", "(II)Z"⟩, 97)]
theorem lw_r5 : ∀ q ∈ lw_privs_5, lw_okq q := List.forall_mem_cons.mpr ⟨lw_p64, List.forall_mem_cons.mpr ⟨lw_p65, List.forall_mem_cons.mpr ⟨lw_p66, List.forall_mem_cons.mpr ⟨lw_p67, List.forall_mem_cons.mpr ⟨lw_p68, List.forall_mem_cons.mpr ⟨lw_p69, List.forall_mem_cons.mpr ⟨lw_p70, List.forall_mem_cons.mpr ⟨lw_p71, List.forall_mem_cons.mpr ⟨lw_p72, List.forall_mem_cons.mpr ⟨lw_p73, List.forall_mem_cons.mpr ⟨lw_p74, List.forall_mem_cons.mpr ⟨lw_p75, List.forall_mem_cons.mpr ⟨lw_p76, List.forall_mem_cons.mpr ⟨lw_p77, List.forall_mem_cons.mpr ⟨lw_p78, List.forall_mem_cons.mpr ⟨lw_p79, fun _ h => absurd h List.not_mem_nil⟩⟩⟩⟩⟩⟩⟩⟩⟩⟩⟩⟩⟩⟩⟩⟩
theorem lw_p80 : lw_okq (⟨"DioceseBookModel", "barFor", "(III)I"⟩, 97) := ⟨⟨by decide +kernel, by decide +kernel⟩, List.mem_of_getElem? (i := 1246) (by decide +kernel), List.mem_of_getElem? (i := 1771) (by decide +kernel), List.mem_of_getElem? (i := 1772) (by decide +kernel)⟩
theorem lw_p81 : lw_okq (⟨"DioceseBookModel", "isMet", "(IIIIII)Z"⟩, 97) := ⟨⟨by decide +kernel, by decide +kernel⟩, List.mem_of_getElem? (i := 1246) (by decide +kernel), List.mem_of_getElem? (i := 1775) (by decide +kernel), List.mem_of_getElem? (i := 1776) (by decide +kernel)⟩
theorem lw_p82 : lw_okq (⟨"DioceseBookModel", "factFor", "(IIII)I"⟩, 97) := ⟨⟨by decide +kernel, by decide +kernel⟩, List.mem_of_getElem? (i := 1246) (by decide +kernel), List.mem_of_getElem? (i := 1779) (by decide +kernel), List.mem_of_getElem? (i := 1780) (by decide +kernel)⟩
theorem lw_p83 : lw_okq (⟨"DioceseBookModel", "placeOf", "(II)I"⟩, 97) := ⟨⟨by decide +kernel, by decide +kernel⟩, List.mem_of_getElem? (i := 1246) (by decide +kernel), List.mem_of_getElem? (i := 1783) (by decide +kernel), List.mem_of_getElem? (i := 1784) (by decide +kernel)⟩
theorem lw_p84 : lw_okq (⟨"DioceseBookModel", "miles", "(II)I"⟩, 97) := ⟨⟨by decide +kernel, by decide +kernel⟩, List.mem_of_getElem? (i := 1246) (by decide +kernel), List.mem_of_getElem? (i := 1787) (by decide +kernel), List.mem_of_getElem? (i := 1788) (by decide +kernel)⟩
theorem lw_p85 : lw_okq (⟨"DioceseBookModel", "whoMay", "(II)I"⟩, 97) := ⟨⟨by decide +kernel, by decide +kernel⟩, List.mem_of_getElem? (i := 1246) (by decide +kernel), List.mem_of_getElem? (i := 1794) (by decide +kernel), List.mem_of_getElem? (i := 1795) (by decide +kernel)⟩
theorem lw_p86 : lw_okq (⟨"DioceseBookModel", "lapses", "(II)I"⟩, 97) := ⟨⟨by decide +kernel, by decide +kernel⟩, List.mem_of_getElem? (i := 1246) (by decide +kernel), List.mem_of_getElem? (i := 1798) (by decide +kernel), List.mem_of_getElem? (i := 1799) (by decide +kernel)⟩
theorem lw_p87 : lw_okq (⟨"DioceseBookModel", "countFrom", "(I)I"⟩, 97) := ⟨⟨by decide +kernel, by decide +kernel⟩, List.mem_of_getElem? (i := 1246) (by decide +kernel), List.mem_of_getElem? (i := 1802) (by decide +kernel), List.mem_of_getElem? (i := 1803) (by decide +kernel)⟩
theorem lw_p88 : lw_okq (⟨"DioceseBookModel", "patronOf", "(II)I"⟩, 97) := ⟨⟨by decide +kernel, by decide +kernel⟩, List.mem_of_getElem? (i := 1246) (by decide +kernel), List.mem_of_getElem? (i := 1806) (by decide +kernel), List.mem_of_getElem? (i := 1807) (by decide +kernel)⟩
theorem lw_p89 : lw_okq (⟨"DioceseBookModel", "soldTurn", "(I)I"⟩, 97) := ⟨⟨by decide +kernel, by decide +kernel⟩, List.mem_of_getElem? (i := 1246) (by decide +kernel), List.mem_of_getElem? (i := 1810) (by decide +kernel), List.mem_of_getElem? (i := 1811) (by decide +kernel)⟩
theorem lw_p90 : lw_okq (⟨"DioceseBookModel", "turnOf", "(I)I"⟩, 97) := ⟨⟨by decide +kernel, by decide +kernel⟩, List.mem_of_getElem? (i := 1246) (by decide +kernel), List.mem_of_getElem? (i := 1814) (by decide +kernel), List.mem_of_getElem? (i := 1815) (by decide +kernel)⟩
theorem lw_p91 : lw_okq (⟨"DioceseBookModel", "useTurn", "(I)V"⟩, 97) := ⟨⟨by decide +kernel, by decide +kernel⟩, List.mem_of_getElem? (i := 1246) (by decide +kernel), List.mem_of_getElem? (i := 1818) (by decide +kernel), List.mem_of_getElem? (i := 1819) (by decide +kernel)⟩
theorem lw_p92 : lw_okq (⟨"DioceseBookModel", "enter", "(III)V"⟩, 97) := ⟨⟨by decide +kernel, by decide +kernel⟩, List.mem_of_getElem? (i := 1246) (by decide +kernel), List.mem_of_getElem? (i := 1822) (by decide +kernel), List.mem_of_getElem? (i := 1823) (by decide +kernel)⟩
theorem lw_p93 : lw_okq (⟨"DioceseBookModel", "note", "(II)V"⟩, 97) := ⟨⟨by decide +kernel, by decide +kernel⟩, List.mem_of_getElem? (i := 1246) (by decide +kernel), List.mem_of_getElem? (i := 1826) (by decide +kernel), List.mem_of_getElem? (i := 1827) (by decide +kernel)⟩
theorem lw_p94 : lw_okq (⟨"DioceseBookModel", "leaveOthers", "(III)V"⟩, 97) := ⟨⟨by decide +kernel, by decide +kernel⟩, List.mem_of_getElem? (i := 1246) (by decide +kernel), List.mem_of_getElem? (i := 1830) (by decide +kernel), List.mem_of_getElem? (i := 1831) (by decide +kernel)⟩
theorem lw_p95 : lw_okq (⟨"DioceseBookModel", "leave", "(IIII)V"⟩, 97) := ⟨⟨by decide +kernel, by decide +kernel⟩, List.mem_of_getElem? (i := 1246) (by decide +kernel), List.mem_of_getElem? (i := 1834) (by decide +kernel), List.mem_of_getElem? (i := 1835) (by decide +kernel)⟩
def lw_privs_6 : List (MethodName × Nat) := [(⟨"DioceseBookModel", "barFor", "(III)I"⟩, 97), (⟨"DioceseBookModel", "isMet", "(IIIIII)Z"⟩, 97), (⟨"DioceseBookModel", "factFor", "(IIII)I"⟩, 97), (⟨"DioceseBookModel", "placeOf", "(II)I"⟩, 97), (⟨"DioceseBookModel", "miles", "(II)I"⟩, 97), (⟨"DioceseBookModel", "whoMay", "(II)I"⟩, 97), (⟨"DioceseBookModel", "lapses", "(II)I"⟩, 97), (⟨"DioceseBookModel", "countFrom", "(I)I"⟩, 97), (⟨"DioceseBookModel", "patronOf", "(II)I"⟩, 97), (⟨"DioceseBookModel", "soldTurn", "(I)I"⟩, 97), (⟨"DioceseBookModel", "turnOf", "(I)I"⟩, 97), (⟨"DioceseBookModel", "useTurn", "(I)V"⟩, 97), (⟨"DioceseBookModel", "enter", "(III)V"⟩, 97), (⟨"DioceseBookModel", "note", "(II)V"⟩, 97), (⟨"DioceseBookModel", "leaveOthers", "(III)V"⟩, 97), (⟨"DioceseBookModel", "leave", "(IIII)V"⟩, 97)]
theorem lw_r6 : ∀ q ∈ lw_privs_6, lw_okq q := List.forall_mem_cons.mpr ⟨lw_p80, List.forall_mem_cons.mpr ⟨lw_p81, List.forall_mem_cons.mpr ⟨lw_p82, List.forall_mem_cons.mpr ⟨lw_p83, List.forall_mem_cons.mpr ⟨lw_p84, List.forall_mem_cons.mpr ⟨lw_p85, List.forall_mem_cons.mpr ⟨lw_p86, List.forall_mem_cons.mpr ⟨lw_p87, List.forall_mem_cons.mpr ⟨lw_p88, List.forall_mem_cons.mpr ⟨lw_p89, List.forall_mem_cons.mpr ⟨lw_p90, List.forall_mem_cons.mpr ⟨lw_p91, List.forall_mem_cons.mpr ⟨lw_p92, List.forall_mem_cons.mpr ⟨lw_p93, List.forall_mem_cons.mpr ⟨lw_p94, List.forall_mem_cons.mpr ⟨lw_p95, fun _ h => absurd h List.not_mem_nil⟩⟩⟩⟩⟩⟩⟩⟩⟩⟩⟩⟩⟩⟩⟩⟩
theorem lw_p96 : lw_okq (⟨"DioceseBookModel", "die", "(I)V"⟩, 97) := ⟨⟨by decide +kernel, by decide +kernel⟩, List.mem_of_getElem? (i := 1246) (by decide +kernel), List.mem_of_getElem? (i := 1838) (by decide +kernel), List.mem_of_getElem? (i := 1839) (by decide +kernel)⟩
theorem lw_p97 : lw_okq (⟨"DioceseBookModel", "setOf", "(I)I"⟩, 97) := ⟨⟨by decide +kernel, by decide +kernel⟩, List.mem_of_getElem? (i := 1246) (by decide +kernel), List.mem_of_getElem? (i := 1846) (by decide +kernel), List.mem_of_getElem? (i := 1847) (by decide +kernel)⟩
theorem lw_p98 : lw_okq (⟨"DioceseBookModel", "unused", "(I)I"⟩, 97) := ⟨⟨by decide +kernel, by decide +kernel⟩, List.mem_of_getElem? (i := 1246) (by decide +kernel), List.mem_of_getElem? (i := 1850) (by decide +kernel), List.mem_of_getElem? (i := 1851) (by decide +kernel)⟩
theorem lw_p99 : lw_okq (⟨"DioceseBookModel", "whyOf", "(II)I"⟩, 97) := ⟨⟨by decide +kernel, by decide +kernel⟩, List.mem_of_getElem? (i := 1246) (by decide +kernel), List.mem_of_getElem? (i := 1858) (by decide +kernel), List.mem_of_getElem? (i := 1859) (by decide +kernel)⟩
theorem lw_p100 : lw_okq (⟨"DioceseBookModel", "livingsToday", "(Z)I"⟩, 97) := ⟨⟨by decide +kernel, by decide +kernel⟩, List.mem_of_getElem? (i := 1246) (by decide +kernel), List.mem_of_getElem? (i := 1883) (by decide +kernel), List.mem_of_getElem? (i := 1884) (by decide +kernel)⟩
theorem lw_p101 : lw_okq (⟨"DioceseBookModel", "noSuit", "(I)Z"⟩, 97) := ⟨⟨by decide +kernel, by decide +kernel⟩, List.mem_of_getElem? (i := 1246) (by decide +kernel), List.mem_of_getElem? (i := 1895) (by decide +kernel), List.mem_of_getElem? (i := 1896) (by decide +kernel)⟩
theorem lw_p102 : lw_okq (⟨"DioceseBookModel", "decayOf", "(III)I"⟩, 97) := ⟨⟨by decide +kernel, by decide +kernel⟩, List.mem_of_getElem? (i := 1246) (by decide +kernel), List.mem_of_getElem? (i := 1913) (by decide +kernel), List.mem_of_getElem? (i := 1914) (by decide +kernel)⟩
theorem lw_p103 : lw_okq (⟨"DioceseBookModel", "findMatch", "(I)V"⟩, 97) := ⟨⟨by decide +kernel, by decide +kernel⟩, List.mem_of_getElem? (i := 1246) (by decide +kernel), List.mem_of_getElem? (i := 1926) (by decide +kernel), List.mem_of_getElem? (i := 1927) (by decide +kernel)⟩
theorem lw_p104 : lw_okq (⟨"DioceseBookModel", "alone", "(I)I"⟩, 97) := ⟨⟨by decide +kernel, by decide +kernel⟩, List.mem_of_getElem? (i := 1246) (by decide +kernel), List.mem_of_getElem? (i := 1930) (by decide +kernel), List.mem_of_getElem? (i := 1931) (by decide +kernel)⟩
theorem lw_p105 : lw_okq (⟨"DioceseBookModel", "pairCost", "(II)I"⟩, 97) := ⟨⟨by decide +kernel, by decide +kernel⟩, List.mem_of_getElem? (i := 1246) (by decide +kernel), List.mem_of_getElem? (i := 1935) (by decide +kernel), List.mem_of_getElem? (i := 1936) (by decide +kernel)⟩
theorem lw_p106 : lw_okq (⟨"DioceseBookModel", "noPiece", "(I)Z"⟩, 97) := ⟨⟨by decide +kernel, by decide +kernel⟩, List.mem_of_getElem? (i := 1246) (by decide +kernel), List.mem_of_getElem? (i := 1947) (by decide +kernel), List.mem_of_getElem? (i := 1948) (by decide +kernel)⟩
theorem lw_p107 : lw_okq (⟨"DioceseBookModel", "mayFollow", "(II)Z"⟩, 97) := ⟨⟨by decide +kernel, by decide +kernel⟩, List.mem_of_getElem? (i := 1246) (by decide +kernel), List.mem_of_getElem? (i := 1951) (by decide +kernel), List.mem_of_getElem? (i := 1952) (by decide +kernel)⟩
theorem lw_p108 : lw_okq (⟨"DioceseBookModel", "isAhead", "(II)Z"⟩, 97) := ⟨⟨by decide +kernel, by decide +kernel⟩, List.mem_of_getElem? (i := 1246) (by decide +kernel), List.mem_of_getElem? (i := 1955) (by decide +kernel), List.mem_of_getElem? (i := 1956) (by decide +kernel)⟩
theorem lw_p109 : lw_okq (⟨"DioceseBookModel", "findLives", "()V"⟩, 97) := ⟨⟨by decide +kernel, by decide +kernel⟩, List.mem_of_getElem? (i := 1246) (by decide +kernel), List.mem_of_getElem? (i := 1963) (by decide +kernel), List.mem_of_getElem? (i := 1964) (by decide +kernel)⟩
theorem lw_p110 : lw_okq (⟨"DioceseBookModel", "mostPairs", "(I)I"⟩, 97) := ⟨⟨by decide +kernel, by decide +kernel⟩, List.mem_of_getElem? (i := 1246) (by decide +kernel), List.mem_of_getElem? (i := 1967) (by decide +kernel), List.mem_of_getElem? (i := 1968) (by decide +kernel)⟩
theorem lw_p111 : lw_okq (⟨"DioceseBookModel", "oneMore", "(II)Z"⟩, 97) := ⟨⟨by decide +kernel, by decide +kernel⟩, List.mem_of_getElem? (i := 1246) (by decide +kernel), List.mem_of_getElem? (i := 1971) (by decide +kernel), List.mem_of_getElem? (i := 1972) (by decide +kernel)⟩
def lw_privs_7 : List (MethodName × Nat) := [(⟨"DioceseBookModel", "die", "(I)V"⟩, 97), (⟨"DioceseBookModel", "setOf", "(I)I"⟩, 97), (⟨"DioceseBookModel", "unused", "(I)I"⟩, 97), (⟨"DioceseBookModel", "whyOf", "(II)I"⟩, 97), (⟨"DioceseBookModel", "livingsToday", "(Z)I"⟩, 97), (⟨"DioceseBookModel", "noSuit", "(I)Z"⟩, 97), (⟨"DioceseBookModel", "decayOf", "(III)I"⟩, 97), (⟨"DioceseBookModel", "findMatch", "(I)V"⟩, 97), (⟨"DioceseBookModel", "alone", "(I)I"⟩, 97), (⟨"DioceseBookModel", "pairCost", "(II)I"⟩, 97), (⟨"DioceseBookModel", "noPiece", "(I)Z"⟩, 97), (⟨"DioceseBookModel", "mayFollow", "(II)Z"⟩, 97), (⟨"DioceseBookModel", "isAhead", "(II)Z"⟩, 97), (⟨"DioceseBookModel", "findLives", "()V"⟩, 97), (⟨"DioceseBookModel", "mostPairs", "(I)I"⟩, 97), (⟨"DioceseBookModel", "oneMore", "(II)Z"⟩, 97)]
theorem lw_r7 : ∀ q ∈ lw_privs_7, lw_okq q := List.forall_mem_cons.mpr ⟨lw_p96, List.forall_mem_cons.mpr ⟨lw_p97, List.forall_mem_cons.mpr ⟨lw_p98, List.forall_mem_cons.mpr ⟨lw_p99, List.forall_mem_cons.mpr ⟨lw_p100, List.forall_mem_cons.mpr ⟨lw_p101, List.forall_mem_cons.mpr ⟨lw_p102, List.forall_mem_cons.mpr ⟨lw_p103, List.forall_mem_cons.mpr ⟨lw_p104, List.forall_mem_cons.mpr ⟨lw_p105, List.forall_mem_cons.mpr ⟨lw_p106, List.forall_mem_cons.mpr ⟨lw_p107, List.forall_mem_cons.mpr ⟨lw_p108, List.forall_mem_cons.mpr ⟨lw_p109, List.forall_mem_cons.mpr ⟨lw_p110, List.forall_mem_cons.mpr ⟨lw_p111, fun _ h => absurd h List.not_mem_nil⟩⟩⟩⟩⟩⟩⟩⟩⟩⟩⟩⟩⟩⟩⟩⟩
theorem lw_p112 : lw_okq (⟨"DioceseBookModel", "findRounds", "()V"⟩, 97) := ⟨⟨by decide +kernel, by decide +kernel⟩, List.mem_of_getElem? (i := 1246) (by decide +kernel), List.mem_of_getElem? (i := 1982) (by decide +kernel), List.mem_of_getElem? (i := 1983) (by decide +kernel)⟩
theorem lw_p113 : lw_okq (⟨"DioceseBookModel", "fromSee", "(I)I"⟩, 97) := ⟨⟨by decide +kernel, by decide +kernel⟩, List.mem_of_getElem? (i := 1246) (by decide +kernel), List.mem_of_getElem? (i := 1986) (by decide +kernel), List.mem_of_getElem? (i := 1987) (by decide +kernel)⟩
theorem lw_p114 : lw_okq (⟨"DioceseBookModel", "findDays", "(I)V"⟩, 97) := ⟨⟨by decide +kernel, by decide +kernel⟩, List.mem_of_getElem? (i := 1246) (by decide +kernel), List.mem_of_getElem? (i := 1990) (by decide +kernel), List.mem_of_getElem? (i := 1991) (by decide +kernel)⟩
theorem lw_p115 : lw_okq (⟨"DioceseBookModel", "firstDay", "(II)I"⟩, 97) := ⟨⟨by decide +kernel, by decide +kernel⟩, List.mem_of_getElem? (i := 1246) (by decide +kernel), List.mem_of_getElem? (i := 1994) (by decide +kernel), List.mem_of_getElem? (i := 1995) (by decide +kernel)⟩
theorem lw_p116 : lw_okq (⟨"DioceseBookModel", "spread", "(I)I"⟩, 97) := ⟨⟨by decide +kernel, by decide +kernel⟩, List.mem_of_getElem? (i := 1246) (by decide +kernel), List.mem_of_getElem? (i := 1998) (by decide +kernel), List.mem_of_getElem? (i := 1999) (by decide +kernel)⟩
def lw_privs_8 : List (MethodName × Nat) := [(⟨"DioceseBookModel", "findRounds", "()V"⟩, 97), (⟨"DioceseBookModel", "fromSee", "(I)I"⟩, 97), (⟨"DioceseBookModel", "findDays", "(I)V"⟩, 97), (⟨"DioceseBookModel", "firstDay", "(II)I"⟩, 97), (⟨"DioceseBookModel", "spread", "(I)I"⟩, 97)]
theorem lw_r8 : ∀ q ∈ lw_privs_8, lw_okq q := List.forall_mem_cons.mpr ⟨lw_p112, List.forall_mem_cons.mpr ⟨lw_p113, List.forall_mem_cons.mpr ⟨lw_p114, List.forall_mem_cons.mpr ⟨lw_p115, List.forall_mem_cons.mpr ⟨lw_p116, fun _ h => absurd h List.not_mem_nil⟩⟩⟩⟩⟩
def lw_privs : List (MethodName × Nat) := lw_privs_1 ++ (lw_privs_2 ++ (lw_privs_3 ++ (lw_privs_4 ++ (lw_privs_5 ++ (lw_privs_6 ++ (lw_privs_7 ++ (lw_privs_8)))))))
def lw_tbl : List Cond := k2_sels lw_privs ++ tables_1
theorem lw_privs_ok : ∀ q ∈ lw_privs, lw_okq q := by
  show ∀ q ∈ lw_privs_1 ++ (lw_privs_2 ++ (lw_privs_3 ++ (lw_privs_4 ++ (lw_privs_5 ++ (lw_privs_6 ++ (lw_privs_7 ++ (lw_privs_8))))))), lw_okq q
  exact List.forall_mem_append.mpr ⟨lw_r1, List.forall_mem_append.mpr ⟨lw_r2, List.forall_mem_append.mpr ⟨lw_r3, List.forall_mem_append.mpr ⟨lw_r4, List.forall_mem_append.mpr ⟨lw_r5, List.forall_mem_append.mpr ⟨lw_r6, List.forall_mem_append.mpr ⟨lw_r7, lw_r8⟩⟩⟩⟩⟩⟩⟩
-- ===== end of PART A; then your names; then what follows =====
def RX0 : String := "DioceseBook$Canons"
def TX0 : u_T := fun k => match k with
  | 0 => ("DioceseBook$Canons", "count", "I", false)
  | 1 => ("DioceseBook$Canons", "clauses", "[I", true)
  | 2 => ("DioceseBook$Canons", "from", "[I", true)
  | 3 => ("DioceseBook$Canons", "byDay", "[I", true)
  | 4 => ("DioceseBook$Canons", "kind", "[I", true)
  | 5 => ("DioceseBook$Canons", "subject", "[I", true)
  | 6 => ("DioceseBook$Canons", "middle", "[I", true)
  | 7 => ("DioceseBook$Canons", "end", "[I", true)
  | 8 => ("DioceseBook$Canons", "code", "[I", true)
  | 9 => ("DioceseBook$Canons", "codes", "I", false)
  | 10 => ("DioceseBook$Canons", "settledFor", "I", false)
  | 11 => ("DioceseBook$Canons", "counting", "I", false)
  | 12 => ("DioceseBook$Canons", "number", "[I", true)
  | _ => ("DioceseBook$Canons", "ruler", "[I", true)
def tyX0 : Nat → FieldType := fun k => match k with
  | 0 => .int
  | 1 => .array .int
  | 2 => .array .int
  | 3 => .array .int
  | 4 => .array .int
  | 5 => .array .int
  | 6 => .array .int
  | 7 => .array .int
  | 8 => .array .int
  | 9 => .int
  | 10 => .int
  | 11 => .int
  | 12 => .array .int
  | _ => .array .int
abbrev wsX00 : List Cond := u_ws RX0 TX0 14
theorem nmX0 : ∀ a, a < 14 → ∀ b, b < 14 → a ≠ b → (TX0 a).2.1 ≠ (TX0 b).2.1 := by decide +kernel
theorem tyX0_ok : ∀ k, k < 14 → parseFieldDescriptor (TX0 k).2.2.1 = some (tyX0 k) := by decide +kernel
def RX1 : String := "DioceseBook$Changes"
def TX1 : u_T := fun k => match k with
  | 0 => ("DioceseBook$Changes", "day", "[I", true)
  | 1 => ("DioceseBook$Changes", "paper", "[I", true)
  | 2 => ("DioceseBook$Changes", "left", "[I", true)
  | 3 => ("DioceseBook$Changes", "living", "[I", true)
  | 4 => ("DioceseBook$Changes", "person", "[I", true)
  | 5 => ("DioceseBook$Changes", "isFall", "[Z", true)
  | _ => ("DioceseBook$Changes", "size", "I", false)
def tyX1 : Nat → FieldType := fun k => match k with
  | 0 => .array .int
  | 1 => .array .int
  | 2 => .array .int
  | 3 => .array .int
  | 4 => .array .int
  | 5 => .array .boolean
  | _ => .int
abbrev wsX10 : List Cond := u_ws RX1 TX1 7
theorem nmX1 : ∀ a, a < 7 → ∀ b, b < 7 → a ≠ b → (TX1 a).2.1 ≠ (TX1 b).2.1 := by decide +kernel
theorem tyX1_ok : ∀ k, k < 7 → parseFieldDescriptor (TX1 k).2.2.1 = some (tyX1 k) := by decide +kernel
def RX2 : String := "DioceseBook$Lives"
def TX2 : u_T := fun k => match k with
  | 0 => ("DioceseBook$Lives", "name", "[I", true)
  | 1 => ("DioceseBook$Lives", "x", "[I", true)
  | 2 => ("DioceseBook$Lives", "y", "[I", true)
  | 3 => ("DioceseBook$Lives", "from", "[I", true)
  | 4 => ("DioceseBook$Lives", "to", "[I", true)
  | 5 => ("DioceseBook$Lives", "count", "I", false)
  | 6 => ("DioceseBook$Lives", "rows", "I", false)
  | 7 => ("DioceseBook$Lives", "behind", "[I", true)
  | 8 => ("DioceseBook$Lives", "isJoined", "Z", false)
  | 9 => ("DioceseBook$Lives", "choice", "[I", true)
  | 10 => ("DioceseBook$Lives", "ahead", "[I", true)
  | _ => ("DioceseBook$Lives", "tried", "I", false)
def tyX2 : Nat → FieldType := fun k => match k with
  | 0 => .array .int
  | 1 => .array .int
  | 2 => .array .int
  | 3 => .array .int
  | 4 => .array .int
  | 5 => .int
  | 6 => .int
  | 7 => .array .int
  | 8 => .boolean
  | 9 => .array .int
  | 10 => .array .int
  | _ => .int
abbrev wsX20 : List Cond := u_ws RX2 TX2 12
theorem nmX2 : ∀ a, a < 12 → ∀ b, b < 12 → a ≠ b → (TX2 a).2.1 ≠ (TX2 b).2.1 := by decide +kernel
theorem tyX2_ok : ∀ k, k < 12 → parseFieldDescriptor (TX2 k).2.2.1 = some (tyX2 k) := by decide +kernel
def RX3 : String := "DioceseBook$Papers"
def TX3 : u_T := fun k => match k with
  | 0 => ("DioceseBook$Papers", "kind", "[I", true)
  | 1 => ("DioceseBook$Papers", "day", "[I", true)
  | 2 => ("DioceseBook$Papers", "toldOn", "[I", true)
  | 3 => ("DioceseBook$Papers", "living", "[I", true)
  | 4 => ("DioceseBook$Papers", "person", "[I", true)
  | 5 => ("DioceseBook$Papers", "other", "[I", true)
  | 6 => ("DioceseBook$Papers", "value", "[I", true)
  | 7 => ("DioceseBook$Papers", "count", "I", false)
  | 8 => ("DioceseBook$Papers", "byDay", "[I", true)
  | 9 => ("DioceseBook$Papers", "openFor", "I", false)
  | 10 => ("DioceseBook$Papers", "isVoid", "[Z", true)
  | 11 => ("DioceseBook$Papers", "leaf", "[I", true)
  | 12 => ("DioceseBook$Papers", "size", "I", false)
  | _ => ("DioceseBook$Papers", "first", "[[I", true)
def tyX3 : Nat → FieldType := fun k => match k with
  | 0 => .array .int
  | 1 => .array .int
  | 2 => .array .int
  | 3 => .array .int
  | 4 => .array .int
  | 5 => .array .int
  | 6 => .array .int
  | 7 => .int
  | 8 => .array .int
  | 9 => .int
  | 10 => .array .boolean
  | 11 => .array .int
  | 12 => .int
  | _ => .array (.array .int)
abbrev wsX30 : List Cond := u_ws RX3 TX3 14
theorem nmX3 : ∀ a, a < 14 → ∀ b, b < 14 → a ≠ b → (TX3 a).2.1 ≠ (TX3 b).2.1 := by decide +kernel
theorem tyX3_ok : ∀ k, k < 14 → parseFieldDescriptor (TX3 k).2.2.1 = some (tyX3 k) := by decide +kernel
def RX4 : String := "DioceseBook$Reader"
def TX4 : u_T := fun k => match k with
  | 0 => ("DioceseBook$Reader", "canons", "LDioceseBook$Canons;", true)
  | 1 => ("DioceseBook$Reader", "text", "[C", true)
  | 2 => ("DioceseBook$Reader", "length", "I", false)
  | 3 => ("DioceseBook$Reader", "faultAt", "I", false)
  | 4 => ("DioceseBook$Reader", "wrong", "I", false)
  | _ => ("DioceseBook$Reader", "at", "I", false)
def tyX4 : Nat → FieldType := fun k => match k with
  | 0 => .object "DioceseBook$Canons"
  | 1 => .array .char
  | 2 => .int
  | 3 => .int
  | 4 => .int
  | _ => .int
abbrev wsX40 : List Cond := u_ws RX4 TX4 6
theorem nmX4 : ∀ a, a < 6 → ∀ b, b < 6 → a ≠ b → (TX4 a).2.1 ≠ (TX4 b).2.1 := by decide +kernel
theorem tyX4_ok : ∀ k, k < 6 → parseFieldDescriptor (TX4 k).2.2.1 = some (tyX4 k) := by decide +kernel
def RX5 : String := "DioceseBook$Register"
def TX5 : u_T := fun k => match k with
  | 0 => ("DioceseBook$Register", "estate", "[I", true)
  | 1 => ("DioceseBook$Register", "x", "[I", true)
  | 2 => ("DioceseBook$Register", "y", "[I", true)
  | 3 => ("DioceseBook$Register", "worth", "[I", true)
  | 4 => ("DioceseBook$Register", "persons", "I", false)
  | _ => ("DioceseBook$Register", "livings", "I", false)
def tyX5 : Nat → FieldType := fun k => match k with
  | 0 => .array .int
  | 1 => .array .int
  | 2 => .array .int
  | 3 => .array .int
  | 4 => .int
  | _ => .int
abbrev wsX50 : List Cond := u_ws RX5 TX5 6
theorem nmX5 : ∀ a, a < 6 → ∀ b, b < 6 → a ≠ b → (TX5 a).2.1 ≠ (TX5 b).2.1 := by decide +kernel
theorem tyX5_ok : ∀ k, k < 6 → parseFieldDescriptor (TX5 k).2.2.1 = some (tyX5 k) := by decide +kernel
def RX6 : String := "DioceseBook$Rights"
def TX6 : u_T := fun k => match k with
  | 0 => ("DioceseBook$Rights", "papers", "LDioceseBook$Papers;", true)
  | 1 => ("DioceseBook$Rights", "patron", "[I", true)
  | 2 => ("DioceseBook$Rights", "partner", "[I", true)
  | 3 => ("DioceseBook$Rights", "partnerNext", "[Z", true)
  | 4 => ("DioceseBook$Rights", "sold", "[I", true)
  | 5 => ("DioceseBook$Rights", "soldCount", "I", false)
  | _ => ("DioceseBook$Rights", "isUsed", "[Z", true)
def tyX6 : Nat → FieldType := fun k => match k with
  | 0 => .object "DioceseBook$Papers"
  | 1 => .array .int
  | 2 => .array .int
  | 3 => .array .boolean
  | 4 => .array .int
  | 5 => .int
  | _ => .array .boolean
abbrev wsX60 : List Cond := u_ws RX6 TX6 7
theorem nmX6 : ∀ a, a < 7 → ∀ b, b < 7 → a ≠ b → (TX6 a).2.1 ≠ (TX6 b).2.1 := by decide +kernel
theorem tyX6_ok : ∀ k, k < 7 → parseFieldDescriptor (TX6 k).2.2.1 = some (tyX6 k) := by decide +kernel
def RX7 : String := "DioceseBook$Story"
def TX7 : u_T := fun k => match k with
  | 0 => ("DioceseBook$Story", "register", "LDioceseBook$Register;", true)
  | 1 => ("DioceseBook$Story", "papers", "LDioceseBook$Papers;", true)
  | 2 => ("DioceseBook$Story", "canons", "LDioceseBook$Canons;", true)
  | 3 => ("DioceseBook$Story", "rights", "LDioceseBook$Rights;", true)
  | 4 => ("DioceseBook$Story", "changes", "LDioceseBook$Changes;", true)
  | 5 => ("DioceseBook$Story", "holders", "[J", true)
  | 6 => ("DioceseBook$Story", "since", "[[I", true)
  | 7 => ("DioceseBook$Story", "emptyFrom", "[I", true)
  | 8 => ("DioceseBook$Story", "emptyBy", "[I", true)
  | 9 => ("DioceseBook$Story", "reasons", "[I", true)
  | 10 => ("DioceseBook$Story", "facts", "[I", true)
  | 11 => ("DioceseBook$Story", "toldFor", "I", false)
  | _ => ("DioceseBook$Story", "toldUntil", "I", false)
def tyX7 : Nat → FieldType := fun k => match k with
  | 0 => .object "DioceseBook$Register"
  | 1 => .object "DioceseBook$Papers"
  | 2 => .object "DioceseBook$Canons"
  | 3 => .object "DioceseBook$Rights"
  | 4 => .object "DioceseBook$Changes"
  | 5 => .array .long
  | 6 => .array (.array .int)
  | 7 => .array .int
  | 8 => .array .int
  | 9 => .array .int
  | 10 => .array .int
  | 11 => .int
  | _ => .int
abbrev wsX70 : List Cond := u_ws RX7 TX7 13
theorem nmX7 : ∀ a, a < 13 → ∀ b, b < 13 → a ≠ b → (TX7 a).2.1 ≠ (TX7 b).2.1 := by decide +kernel
theorem tyX7_ok : ∀ k, k < 13 → parseFieldDescriptor (TX7 k).2.2.1 = some (tyX7 k) := by decide +kernel
def RX8 : String := "DioceseBook$Suits"
def TX8 : u_T := fun k => match k with
  | 0 => ("DioceseBook$Suits", "canons", "LDioceseBook$Canons;", true)
  | 1 => ("DioceseBook$Suits", "presentedOn", "[I", true)
  | 2 => ("DioceseBook$Suits", "steps", "[I", true)
  | 3 => ("DioceseBook$Suits", "stepDay", "[[I", true)
  | _ => ("DioceseBook$Suits", "count", "I", false)
def tyX8 : Nat → FieldType := fun k => match k with
  | 0 => .object "DioceseBook$Canons"
  | 1 => .array .int
  | 2 => .array .int
  | 3 => .array (.array .int)
  | _ => .int
abbrev wsX80 : List Cond := u_ws RX8 TX8 5
theorem nmX8 : ∀ a, a < 5 → ∀ b, b < 5 → a ≠ b → (TX8 a).2.1 ≠ (TX8 b).2.1 := by decide +kernel
theorem tyX8_ok : ∀ k, k < 5 → parseFieldDescriptor (TX8 k).2.2.1 = some (tyX8 k) := by decide +kernel
def RX9 : String := "DioceseBook$Terriers"
def TX9 : u_T := fun k => match k with
  | 0 => ("DioceseBook$Terriers", "size", "[I", true)
  | 1 => ("DioceseBook$Terriers", "name", "[[I", true)
  | 2 => ("DioceseBook$Terriers", "acres", "[[I", true)
  | 3 => ("DioceseBook$Terriers", "neighbour", "[[I", true)
  | 4 => ("DioceseBook$Terriers", "cost", "[[I", true)
  | 5 => ("DioceseBook$Terriers", "partners", "[I", true)
  | _ => ("DioceseBook$Terriers", "pairedFor", "I", false)
def tyX9 : Nat → FieldType := fun k => match k with
  | 0 => .array .int
  | 1 => .array (.array .int)
  | 2 => .array (.array .int)
  | 3 => .array (.array .int)
  | 4 => .array (.array .int)
  | 5 => .array .int
  | _ => .int
abbrev wsX90 : List Cond := u_ws RX9 TX9 7
theorem nmX9 : ∀ a, a < 7 → ∀ b, b < 7 → a ≠ b → (TX9 a).2.1 ≠ (TX9 b).2.1 := by decide +kernel
theorem tyX9_ok : ∀ k, k < 7 → parseFieldDescriptor (TX9 k).2.2.1 = some (tyX9 k) := by decide +kernel
def RX10 : String := "DioceseBook$Visitation"
def TX10 : u_T := fun k => match k with
  | 0 => ("DioceseBook$Visitation", "register", "LDioceseBook$Register;", true)
  | 1 => ("DioceseBook$Visitation", "living", "[I", true)
  | 2 => ("DioceseBook$Visitation", "size", "I", false)
  | 3 => ("DioceseBook$Visitation", "way", "[[I", true)
  | 4 => ("DioceseBook$Visitation", "ride", "[I", true)
  | 5 => ("DioceseBook$Visitation", "weight", "[I", true)
  | 6 => ("DioceseBook$Visitation", "dayPart", "[I", true)
  | 7 => ("DioceseBook$Visitation", "plannedSet", "I", false)
  | 8 => ("DioceseBook$Visitation", "plannedMiles", "I", false)
  | 9 => ("DioceseBook$Visitation", "days", "I", false)
  | _ => ("DioceseBook$Visitation", "miles", "I", false)
def tyX10 : Nat → FieldType := fun k => match k with
  | 0 => .object "DioceseBook$Register"
  | 1 => .array .int
  | 2 => .int
  | 3 => .array (.array .int)
  | 4 => .array .int
  | 5 => .array .int
  | 6 => .array .int
  | 7 => .int
  | 8 => .int
  | 9 => .int
  | _ => .int
abbrev wsX100 : List Cond := u_ws RX10 TX10 11
theorem nmX10 : ∀ a, a < 11 → ∀ b, b < 11 → a ≠ b → (TX10 a).2.1 ≠ (TX10 b).2.1 := by decide +kernel
theorem tyX10_ok : ∀ k, k < 11 → parseFieldDescriptor (TX10 k).2.2.1 = some (tyX10 k) := by decide +kernel
def RX11 : String := "DioceseBook"
def TX11 : u_T := fun k => match k with
  | 0 => ("DioceseBook", "register", "LDioceseBook$Register;", true)
  | 1 => ("DioceseBook", "papers", "LDioceseBook$Papers;", true)
  | 2 => ("DioceseBook", "canons", "LDioceseBook$Canons;", true)
  | 3 => ("DioceseBook", "reader", "LDioceseBook$Reader;", true)
  | 4 => ("DioceseBook", "story", "LDioceseBook$Story;", true)
  | 5 => ("DioceseBook", "suits", "LDioceseBook$Suits;", true)
  | 6 => ("DioceseBook", "terriers", "LDioceseBook$Terriers;", true)
  | 7 => ("DioceseBook", "pieces", "LDioceseBook$Lives;", true)
  | 8 => ("DioceseBook", "visitation", "LDioceseBook$Visitation;", true)
  | 9 => ("DioceseBook", "holdersBefore", "[J", true)
  | _ => ("DioceseBook", "now", "I", false)
def tyX11 : Nat → FieldType := fun k => match k with
  | 0 => .object "DioceseBook$Register"
  | 1 => .object "DioceseBook$Papers"
  | 2 => .object "DioceseBook$Canons"
  | 3 => .object "DioceseBook$Reader"
  | 4 => .object "DioceseBook$Story"
  | 5 => .object "DioceseBook$Suits"
  | 6 => .object "DioceseBook$Terriers"
  | 7 => .object "DioceseBook$Lives"
  | 8 => .object "DioceseBook$Visitation"
  | 9 => .array .long
  | _ => .int
abbrev wsX110 : List Cond := u_ws RX11 TX11 11
theorem nmX11 : ∀ a, a < 11 → ∀ b, b < 11 → a ≠ b → (TX11 a).2.1 ≠ (TX11 b).2.1 := by decide +kernel
theorem tyX11_ok : ∀ k, k < 11 → parseFieldDescriptor (TX11 k).2.2.1 = some (tyX11 k) := by decide +kernel
def RX12 : String := "DioceseBookModel"
def TX12 : u_T := fun k => match k with
  | 0 => ("DioceseBookModel", "now", "I", false)
  | 1 => ("DioceseBookModel", "persons", "I", false)
  | 2 => ("DioceseBookModel", "estate", "[I", true)
  | 3 => ("DioceseBookModel", "livings", "I", false)
  | 4 => ("DioceseBookModel", "atX", "[I", true)
  | 5 => ("DioceseBookModel", "atY", "[I", true)
  | 6 => ("DioceseBookModel", "worth", "[I", true)
  | 7 => ("DioceseBookModel", "papers", "I", false)
  | 8 => ("DioceseBookModel", "kindOf", "[I", true)
  | 9 => ("DioceseBookModel", "dayOf", "[I", true)
  | 10 => ("DioceseBookModel", "toldOn", "[I", true)
  | 11 => ("DioceseBookModel", "ofL", "[I", true)
  | 12 => ("DioceseBookModel", "ofP", "[I", true)
  | 13 => ("DioceseBookModel", "ofQ", "[I", true)
  | 14 => ("DioceseBookModel", "ofV", "[I", true)
  | 15 => ("DioceseBookModel", "isVoid", "[Z", true)
  | 16 => ("DioceseBookModel", "book", "[I", true)
  | 17 => ("DioceseBookModel", "bookSize", "I", false)
  | 18 => ("DioceseBookModel", "canons", "I", false)
  | 19 => ("DioceseBookModel", "inForce", "[I", true)
  | 20 => ("DioceseBookModel", "clauses", "[I", true)
  | 21 => ("DioceseBookModel", "clauseKind", "[I", true)
  | 22 => ("DioceseBookModel", "clauseName", "[I", true)
  | 23 => ("DioceseBookModel", "clauseNumber", "[I", true)
  | 24 => ("DioceseBookModel", "testFrom", "[I", true)
  | 25 => ("DioceseBookModel", "testTo", "[I", true)
  | 26 => ("DioceseBookModel", "unlessTo", "[I", true)
  | 27 => ("DioceseBookModel", "steps", "[I", true)
  | 28 => ("DioceseBookModel", "text", "[I", true)
  | 29 => ("DioceseBookModel", "textSize", "I", false)
  | 30 => ("DioceseBookModel", "at", "I", false)
  | 31 => ("DioceseBookModel", "faultOf", "I", false)
  | 32 => ("DioceseBookModel", "place", "I", false)
  | 33 => ("DioceseBookModel", "from", "I", false)
  | 34 => ("DioceseBookModel", "letters", "I", false)
  | 35 => ("DioceseBookModel", "made", "I", false)
  | 36 => ("DioceseBookModel", "open", "[I", true)
  | 37 => ("DioceseBookModel", "openSize", "I", false)
  | 38 => ("DioceseBookModel", "deep", "I", false)
  | 39 => ("DioceseBookModel", "isOn", "[Z", true)
  | 40 => ("DioceseBookModel", "order", "[I", true)
  | 41 => ("DioceseBookModel", "ons", "I", false)
  | 42 => ("DioceseBookModel", "ruler", "I", false)
  | 43 => ("DioceseBookModel", "holders", "[I", true)
  | 44 => ("DioceseBookModel", "holder", "[I", true)
  | 45 => ("DioceseBookModel", "since", "[I", true)
  | 46 => ("DioceseBookModel", "cause", "[I", true)
  | 47 => ("DioceseBookModel", "rightA", "[I", true)
  | 48 => ("DioceseBookModel", "rightB", "[I", true)
  | 49 => ("DioceseBookModel", "turn", "[I", true)
  | 50 => ("DioceseBookModel", "came", "[I", true)
  | 51 => ("DioceseBookModel", "comings", "I", false)
  | 52 => ("DioceseBookModel", "soldMany", "I", false)
  | 53 => ("DioceseBookModel", "soldOf", "[I", true)
  | 54 => ("DioceseBookModel", "soldFrom", "[I", true)
  | 55 => ("DioceseBookModel", "soldTo", "[I", true)
  | 56 => ("DioceseBookModel", "isUsed", "[Z", true)
  | 57 => ("DioceseBookModel", "watched", "I", false)
  | 58 => ("DioceseBookModel", "changes", "I", false)
  | 59 => ("DioceseBookModel", "changeDay", "[I", true)
  | 60 => ("DioceseBookModel", "changeMany", "[I", true)
  | 61 => ("DioceseBookModel", "changePaper", "[I", true)
  | 62 => ("DioceseBookModel", "watchedPaper", "I", false)
  | 63 => ("DioceseBookModel", "whyNot", "I", false)
  | 64 => ("DioceseBookModel", "watchedPerson", "I", false)
  | 65 => ("DioceseBookModel", "fellOn", "I", false)
  | 66 => ("DioceseBookModel", "heap", "I", false)
  | 67 => ("DioceseBookModel", "bits", "[Z", true)
  | 68 => ("DioceseBookModel", "wasHolder", "[Z", true)
  | 69 => ("DioceseBookModel", "suits", "I", false)
  | 70 => ("DioceseBookModel", "suitDay", "[I", true)
  | 71 => ("DioceseBookModel", "suitSteps", "[I", true)
  | 72 => ("DioceseBookModel", "stepDay", "[I", true)
  | 73 => ("DioceseBookModel", "fields", "[I", true)
  | 74 => ("DioceseBookModel", "fieldName", "[I", true)
  | 75 => ("DioceseBookModel", "fieldAcres", "[I", true)
  | 76 => ("DioceseBookModel", "fieldNext", "[I", true)
  | 77 => ("DioceseBookModel", "matchCost", "[I", true)
  | 78 => ("DioceseBookModel", "pieces", "I", false)
  | 79 => ("DioceseBookModel", "pieceName", "[I", true)
  | 80 => ("DioceseBookModel", "pieceX", "[I", true)
  | 81 => ("DioceseBookModel", "pieceY", "[I", true)
  | 82 => ("DioceseBookModel", "pieceFrom", "[I", true)
  | 83 => ("DioceseBookModel", "pieceTo", "[I", true)
  | 84 => ("DioceseBookModel", "behind", "[I", true)
  | 85 => ("DioceseBookModel", "ahead", "[I", true)
  | 86 => ("DioceseBookModel", "isSeen", "[Z", true)
  | 87 => ("DioceseBookModel", "by", "[I", true)
  | 88 => ("DioceseBookModel", "row", "[I", true)
  | 89 => ("DioceseBookModel", "pairsAll", "I", false)
  | 90 => ("DioceseBookModel", "chosen", "[I", true)
  | 91 => ("DioceseBookModel", "seen", "[I", true)
  | 92 => ("DioceseBookModel", "seenMany", "I", false)
  | 93 => ("DioceseBookModel", "wayTo", "[I", true)
  | 94 => ("DioceseBookModel", "round", "[I", true)
  | 95 => ("DioceseBookModel", "daysFor", "[I", true)
  | _ => ("DioceseBookModel", "milesFor", "[I", true)
def tyX12 : Nat → FieldType := fun k => match k with
  | 0 => .int
  | 1 => .int
  | 2 => .array .int
  | 3 => .int
  | 4 => .array .int
  | 5 => .array .int
  | 6 => .array .int
  | 7 => .int
  | 8 => .array .int
  | 9 => .array .int
  | 10 => .array .int
  | 11 => .array .int
  | 12 => .array .int
  | 13 => .array .int
  | 14 => .array .int
  | 15 => .array .boolean
  | 16 => .array .int
  | 17 => .int
  | 18 => .int
  | 19 => .array .int
  | 20 => .array .int
  | 21 => .array .int
  | 22 => .array .int
  | 23 => .array .int
  | 24 => .array .int
  | 25 => .array .int
  | 26 => .array .int
  | 27 => .array .int
  | 28 => .array .int
  | 29 => .int
  | 30 => .int
  | 31 => .int
  | 32 => .int
  | 33 => .int
  | 34 => .int
  | 35 => .int
  | 36 => .array .int
  | 37 => .int
  | 38 => .int
  | 39 => .array .boolean
  | 40 => .array .int
  | 41 => .int
  | 42 => .int
  | 43 => .array .int
  | 44 => .array .int
  | 45 => .array .int
  | 46 => .array .int
  | 47 => .array .int
  | 48 => .array .int
  | 49 => .array .int
  | 50 => .array .int
  | 51 => .int
  | 52 => .int
  | 53 => .array .int
  | 54 => .array .int
  | 55 => .array .int
  | 56 => .array .boolean
  | 57 => .int
  | 58 => .int
  | 59 => .array .int
  | 60 => .array .int
  | 61 => .array .int
  | 62 => .int
  | 63 => .int
  | 64 => .int
  | 65 => .int
  | 66 => .int
  | 67 => .array .boolean
  | 68 => .array .boolean
  | 69 => .int
  | 70 => .array .int
  | 71 => .array .int
  | 72 => .array .int
  | 73 => .array .int
  | 74 => .array .int
  | 75 => .array .int
  | 76 => .array .int
  | 77 => .array .int
  | 78 => .int
  | 79 => .array .int
  | 80 => .array .int
  | 81 => .array .int
  | 82 => .array .int
  | 83 => .array .int
  | 84 => .array .int
  | 85 => .array .int
  | 86 => .array .boolean
  | 87 => .array .int
  | 88 => .array .int
  | 89 => .int
  | 90 => .array .int
  | 91 => .array .int
  | 92 => .int
  | 93 => .array .int
  | 94 => .array .int
  | 95 => .array .int
  | _ => .array .int
abbrev wsX120 : List Cond := u_ws RX12 TX12 97
theorem nmX12 : ∀ a, a < 97 → ∀ b, b < 97 → a ≠ b → (TX12 a).2.1 ≠ (TX12 b).2.1 := by decide +kernel
theorem tyX12_ok : ∀ k, k < 97 → parseFieldDescriptor (TX12 k).2.2.1 = some (tyX12 k) := by decide +kernel
end
section
/-! THE ABSTRACT MACHINE: the part of the JVM that the methods (constructors apart) use, over mathematical integers and a store of numbered cells. Sound over W by part 03. -/
/-- a value: int, long, a cell's number, a row (of a cell of rows), a string constant's number -/
abbrev AV : Type := Int ⊕ Int ⊕ Nat ⊕ (Nat × Int) ⊕ Nat
abbrev aI (z : Int) : AV := .inl z
abbrev aL (z : Int) : AV := .inr (.inl z)
abbrev aP (k : Nat) : AV := .inr (.inr (.inl k))
abbrev aR (k : Nat) (i : Int) : AV := .inr (.inr (.inr (.inl (k, i))))
abbrev aS (k : Nat) : AV := .inr (.inr (.inr (.inr k)))
/-- the store: cell, place -/
abbrev AM : Type := Nat → Int → Int
def am_up (M : AM) (k : Nat) (i z : Int) : AM := fun k' i' => if k' = k ∧ i' = i then z else M k' i'
/-- a cell's kind: object (class, fields: 0 int, 1 boolean, k + 2 the cell k); array (0 int, 1 boolean, 2 char, 3 long; length); rows (number, length, first row's cell); a row (of which, which, length); constants -/
abbrev AK : Type := (Nat × List Nat) ⊕ (Nat × Nat) ⊕ (Nat × Nat × Nat) ⊕ (Nat × Nat × Nat) ⊕ List Int
abbrev kO (ci : Nat) (fs : List Nat) : AK := .inl (ci, fs)
abbrev kA (ty n : Nat) : AK := .inr (.inl (ty, n))
abbrev kR (n len base : Nat) : AK := .inr (.inr (.inl (n, len, base)))
abbrev kW (k r len : Nat) : AK := .inr (.inr (.inr (.inl (k, r, len))))
abbrev kC (cs : List Int) : AK := .inr (.inr (.inr (.inr cs)))
-- int arithmetic
def a_add (a b : Int) : Int := (Int32.ofInt a + Int32.ofInt b).toInt
def a_sub (a b : Int) : Int := (Int32.ofInt a - Int32.ofInt b).toInt
def a_mul (a b : Int) : Int := (Int32.ofInt a * Int32.ofInt b).toInt
def a_div (a b : Int) : Int := (Int32.ofInt a / Int32.ofInt b).toInt
def a_rem (a b : Int) : Int := (Int32.ofInt a - Int32.ofInt a / Int32.ofInt b * Int32.ofInt b).toInt
def a_neg (a : Int) : Int := (-(Int32.ofInt a)).toInt
def a_and (a b : Int) : Int := (Int32.ofInt a &&& Int32.ofInt b).toInt
def a_or (a b : Int) : Int := (Int32.ofInt a ||| Int32.ofInt b).toInt
def a_xor (a b : Int) : Int := (Int32.ofInt a ^^^ Int32.ofInt b).toInt
def a_shl (a b : Int) : Int := (Int32.ofInt a <<< (Int32.ofInt b &&& 31)).toInt
def a_shr (a b : Int) : Int := (Int32.ofInt a >>> (Int32.ofInt b &&& 31)).toInt
def a_ushr (a b : Int) : Int := ((Int32.ofInt a).toUInt32 >>> ((Int32.ofInt b).toUInt32 &&& Int32.toUInt32 31)).toInt32.toInt
def a_i2c (a : Int) : Int := ((Int32.ofInt a).toUInt32 % 65536).toInt32.toInt
def a_i2l (a : Int) : Int := (Int32.ofInt a).toInt64.toInt
-- long arithmetic
def a_l2i (a : Int) : Int := (Int64.ofInt a).toInt32.toInt
def a_ladd (a b : Int) : Int := (Int64.ofInt a + Int64.ofInt b).toInt
def a_lsub (a b : Int) : Int := (Int64.ofInt a - Int64.ofInt b).toInt
def a_land (a b : Int) : Int := (Int64.ofInt a &&& Int64.ofInt b).toInt
def a_lor (a b : Int) : Int := (Int64.ofInt a ||| Int64.ofInt b).toInt
def a_lxor (a b : Int) : Int := (Int64.ofInt a ^^^ Int64.ofInt b).toInt
def a_lshl (a b : Int) : Int := (Int64.ofInt a <<< ((Int32.ofInt b).toInt64 &&& 63)).toInt
def a_lshr (a b : Int) : Int := (Int64.ofInt a >>> ((Int32.ofInt b).toInt64 &&& 63)).toInt
def a_lushr (a b : Int) : Int := ((Int64.ofInt a).toUInt64 >>> ((Int32.ofInt b).toInt64.toUInt64 &&& Int64.toUInt64 63)).toInt64.toInt
def a_cmp (a b : Int) : Int := if b < a then 1 else if a = b then 0 else -1
-- locals: none is what nobody may read
abbrev AL : Type := List (Option AV)
def al_kill (ls : AL) (i : Nat) : AL := match i with
  | 0 => ls
  | j + 1 => match ls[j]? with
    | some (some (.inr (.inl _))) => ls.set j none
    | _ => ls
def al_set1 (ls : AL) (i : Nat) (v : AV) : AL := (al_kill ls i).set i (some v)
def al_set2 (ls : AL) (i : Nat) (v : AV) : AL := ((al_kill ls i).set i (some v)).set (i + 1) none
def av_cat (v : AV) : Nat := match v with
  | .inr (.inl _) => 2
  | _ => 1
def av_cats (st : List AV) : Nat := match st with
  | [] => 0
  | v :: r => av_cat v + av_cats r
/-- the locals with which a method begins -/
def al_args : Nat → List AV → AL
  | n, [] => List.replicate n none
  | n, v :: vs => match v with
    | .inr (.inl _) => some v :: none :: al_args (n - 2) vs
    | _ => some v :: al_args (n - 1) vs
/-- what stands beside an instruction in the table: a number, two places -/
abbrev AX : Type := Int × Nat × Nat
abbrev AB : Type := List (Jvm.ClassFile.Instr × AX)
/-- a program: cells' kinds; of a method: class, size of the locals, kind of its answer (0 none, 1 int, 2 boolean, 3 char), 1 where it has a receiver; its blocks; string constants -/
abbrev AG : Type := (Nat → AK) × (Nat → Nat × Nat × Nat × Nat) × (Nat → Nat → AB) × (Nat → List Int)
section AMS
variable (G : AG)
def a_fld (M : AM) (c k : Nat) (fs : List Nat) : Option AV := match fs[k]? with
  | none => none
  | some 0 => some (aI (M c k))
  | some 1 => some (aI (M c k))
  | some (j + 2) => some (aP j)
def a_tsw (nx : Nat → Prop) (pc : Nat) (a : Int) : Int → List Int → Prop
  | _, [] => True
  | lo, o :: os => (a = lo → nx ((pc : Int) + o).toNat) ∧ a_tsw nx pc a (lo + 1) os
def a_lsw (nx : Nat → Prop) (pc : Nat) (a d : Int) : List (Int × Int) → Prop
  | [] => nx ((pc : Int) + d).toNat
  | q :: r => (a = q.1 → nx ((pc : Int) + q.2).toNat) ∧ (a ≠ q.1 → a_lsw nx pc a d r)
def a_cnd (c : Jvm.ClassFile.Cond) (a b : Int) (A B : Prop) : Prop := match c with
  | .eq => (a = b → A) ∧ (a ≠ b → B)
  | .ne => (a ≠ b → A) ∧ (a = b → B)
  | .lt => (a < b → A) ∧ (b ≤ a → B)
  | .ge => (b ≤ a → A) ∧ (a < b → B)
  | .gt => (b < a → A) ∧ (a ≤ b → B)
  | .le => (a ≤ b → A) ∧ (b < a → B)
def a_bin (i : Jvm.ClassFile.Instr) : Option (Int → Int → Int) := match i with
  | .iadd => some a_add
  | .isub => some a_sub
  | .imul => some a_mul
  | .iand => some a_and
  | .ior => some a_or
  | .ixor => some a_xor
  | .ishl => some a_shl
  | .ishr => some a_shr
  | .iushr => some a_ushr
  | _ => none
def a_binL (i : Jvm.ClassFile.Instr) : Option (Int → Int → Int) := match i with
  | .ladd => some a_ladd
  | .lsub => some a_lsub
  | .land => some a_land
  | .lor => some a_lor
  | .lxor => some a_lxor
  | _ => none
def a_shL (i : Jvm.ClassFile.Instr) : Option (Int → Int → Int) := match i with
  | .lshl => some a_lshl
  | .lshr => some a_lshr
  | .lushr => some a_lushr
  | _ => none
/-- one step: where 'run y as M K' says that the method y, begun so, ends with K; and 'nx pc rest ls st M' what is asked of the next state ([] for rest: at a block's begin) -/
def a_step (run : Nat → List AV → AM → (Option AV → AM → Prop) → Prop) (nx : Nat → AB → AL → List AV → AM → Prop) (rk : Nat) (Q : Option AV → AM → Prop) (pc : Nat) (ins : Jvm.ClassFile.Instr) (x : AX) (rs : AB) (ls : AL) (st : List AV) (M : AM) : Prop :=
  match ins with
  | .iconst n => nx (pc + 1) rs ls (aI n :: st) M
  | .bipush n => nx (pc + 2) rs ls (aI n :: st) M
  | .sipush n => nx (pc + 3) rs ls (aI n :: st) M
  | .lconst n => nx (pc + 1) rs ls (aL (n : Nat) :: st) M
  | .ldc _ => match x with
    | (z, 0, _) => nx (pc + 2) rs ls (aI z :: st) M
    | (_, 1, k) => nx (pc + 2) rs ls (aS k :: st) M
    | _ => False
  | .ldc_w _ => nx (pc + 3) rs ls (aI x.1 :: st) M
  | .ldc2_w _ => nx (pc + 3) rs ls (aL x.1 :: st) M
  | .iload_n k => match ls[(k : Nat)]? with
    | some (some (.inl z)) => nx (pc + 1) rs ls (aI z :: st) M
    | _ => False
  | .iload k => match ls[k]? with
    | some (some (.inl z)) => nx (pc + 2) rs ls (aI z :: st) M
    | _ => False
  | .lload_n k => match ls[(k : Nat)]? with
    | some (some (.inr (.inl z))) => nx (pc + 1) rs ls (aL z :: st) M
    | _ => False
  | .lload k => match ls[k]? with
    | some (some (.inr (.inl z))) => nx (pc + 2) rs ls (aL z :: st) M
    | _ => False
  | .aload_n k => match ls[(k : Nat)]? with
    | some (some (.inr (.inr v))) => nx (pc + 1) rs ls (.inr (.inr v) :: st) M
    | _ => False
  | .aload k => match ls[k]? with
    | some (some (.inr (.inr v))) => nx (pc + 2) rs ls (.inr (.inr v) :: st) M
    | _ => False
  | .istore_n k => match st with
    | .inl z :: st => nx (pc + 1) rs (al_set1 ls k (aI z)) st M
    | _ => False
  | .istore k => match st with
    | .inl z :: st => nx (pc + 2) rs (al_set1 ls k (aI z)) st M
    | _ => False
  | .lstore_n k => match st with
    | .inr (.inl z) :: st => nx (pc + 1) rs (al_set2 ls k (aL z)) st M
    | _ => False
  | .lstore k => match st with
    | .inr (.inl z) :: st => nx (pc + 2) rs (al_set2 ls k (aL z)) st M
    | _ => False
  | .astore_n k => match st with
    | .inr (.inr v) :: st => nx (pc + 1) rs (al_set1 ls k (.inr (.inr v))) st M
    | _ => False
  | .astore k => match st with
    | .inr (.inr v) :: st => nx (pc + 2) rs (al_set1 ls k (.inr (.inr v))) st M
    | _ => False
  | .iinc k n => match ls[k]? with
    | some (some (.inl z)) => nx (pc + 3) rs (al_set1 ls k (aI (a_add z n))) st M
    | _ => False
  | .dup => match st with
    | v :: st => cond (Nat.beq (av_cat v) 1) (nx (pc + 1) rs ls (v :: v :: st) M) False
    | _ => False
  | .dup_x1 => match st with
    | v :: w :: st => cond (Nat.beq (av_cat v) 1 && Nat.beq (av_cat w) 1) (nx (pc + 1) rs ls (v :: w :: v :: st) M) False
    | _ => False
  | .dup2 => match st with
    | v :: w :: st => cond (Nat.beq (av_cat v) 1 && Nat.beq (av_cat w) 1) (nx (pc + 1) rs ls (v :: w :: v :: w :: st) M) False
    | _ => False
  | .pop => match st with
    | v :: st => cond (Nat.beq (av_cat v) 1) (nx (pc + 1) rs ls st M) False
    | _ => False
  | .ineg => match st with
    | .inl a :: st => nx (pc + 1) rs ls (aI (a_neg a) :: st) M
    | _ => False
  | .idiv => match st with
    | .inl b :: .inl a :: st => b ≠ 0 ∧ nx (pc + 1) rs ls (aI (a_div a b) :: st) M
    | _ => False
  | .irem => match st with
    | .inl b :: .inl a :: st => b ≠ 0 ∧ nx (pc + 1) rs ls (aI (a_rem a b) :: st) M
    | _ => False
  | .i2l => match st with
    | .inl a :: st => nx (pc + 1) rs ls (aL a :: st) M
    | _ => False
  | .l2i => match st with
    | .inr (.inl a) :: st => nx (pc + 1) rs ls (aI (a_l2i a) :: st) M
    | _ => False
  | .i2c => match st with
    | .inl a :: st => nx (pc + 1) rs ls (aI (a_i2c a) :: st) M
    | _ => False
  | .lcmp => match st with
    | .inr (.inl b) :: .inr (.inl a) :: st => nx (pc + 1) rs ls (aI (a_cmp a b) :: st) M
    | _ => False
  | .goto o => nx ((pc : Int) + o).toNat [] ls st M
  | .if_icmp c o => match st with
    | .inl b :: .inl a :: st => a_cnd c a b (nx ((pc : Int) + o).toNat [] ls st M) (nx (pc + 3) rs ls st M)
    | _ => False
  | .ifCond c o => match st with
    | .inl a :: st => a_cnd c a 0 (nx ((pc : Int) + o).toNat [] ls st M) (nx (pc + 3) rs ls st M)
    | _ => False
  | .tableswitch d lo hi offs => match st with
    | .inl a :: st => a_tsw (fun t => nx t [] ls st M) pc a lo offs.toList ∧ (a < lo ∨ hi < a → nx ((pc : Int) + d).toNat [] ls st M)
    | _ => False
  | .lookupswitch d ps => match st with
    | .inl a :: st => a_lsw (fun t => nx t [] ls st M) pc a d ps.toList
    | _ => False
  | .getfield _ => match st with
    | .inr (.inr (.inl c)) :: st => match G.1 c with
      | .inl (ci, fs) => cond (Nat.beq ci x.2.1) (match a_fld M c x.2.2 fs with
        | some v => nx (pc + 3) rs ls (v :: st) M
        | none => False) False
      | _ => False
    | _ => False
  | .putfield _ => match st with
    | .inl z :: .inr (.inr (.inl c)) :: st => match G.1 c with
      | .inl (ci, fs) => cond (Nat.beq ci x.2.1) (match fs[x.2.2]? with
        | some 0 => nx (pc + 3) rs ls st (am_up M c x.2.2 z)
        | some 1 => (z = 0 ∨ z = 1) ∧ nx (pc + 3) rs ls st (am_up M c x.2.2 z)
        | _ => False) False
      | _ => False
    | _ => False
  | .getstatic _ => nx (pc + 3) rs ls (aP x.2.1 :: st) M
  | .arraylength => match st with
    | .inr (.inr (.inl c)) :: st => match G.1 c with
      | .inr (.inl (_, n)) => nx (pc + 1) rs ls (aI n :: st) M
      | _ => False
    | _ => False
  | .iaload => match st with
    | .inl i :: .inr (.inr (.inl c)) :: st => match G.1 c with
      | .inr (.inl (0, n)) => (0 ≤ i ∧ i < n) ∧ nx (pc + 1) rs ls (aI (M c i) :: st) M
      | .inr (.inr (.inr (.inr cs))) => (0 ≤ i ∧ i < cs.length) ∧ nx (pc + 1) rs ls (aI (cs.getD i.toNat 0) :: st) M
      | _ => False
    | .inl i :: .inr (.inr (.inr (.inl (c, r)))) :: st => match G.1 c with
      | .inr (.inr (.inl (_, len, _))) => (0 ≤ i ∧ i < len) ∧ nx (pc + 1) rs ls (aI (M c (r * len + i)) :: st) M
      | _ => False
    | _ => False
  | .aaload => match st with
    | .inl i :: .inr (.inr (.inl c)) :: st => match G.1 c with
      | .inr (.inr (.inl (n, _, _))) => (0 ≤ i ∧ i < n) ∧ nx (pc + 1) rs ls (aR c i :: st) M
      | _ => False
    | _ => False
  | .baload => match st with
    | .inl i :: .inr (.inr (.inl c)) :: st => match G.1 c with
      | .inr (.inl (1, n)) => (0 ≤ i ∧ i < n) ∧ nx (pc + 1) rs ls (aI (M c i) :: st) M
      | _ => False
    | _ => False
  | .caload => match st with
    | .inl i :: .inr (.inr (.inl c)) :: st => match G.1 c with
      | .inr (.inl (2, n)) => (0 ≤ i ∧ i < n) ∧ nx (pc + 1) rs ls (aI (M c i) :: st) M
      | _ => False
    | _ => False
  | .laload => match st with
    | .inl i :: .inr (.inr (.inl c)) :: st => match G.1 c with
      | .inr (.inl (3, n)) => (0 ≤ i ∧ i < n) ∧ nx (pc + 1) rs ls (aL (M c i) :: st) M
      | _ => False
    | _ => False
  | .iastore => match st with
    | .inl z :: .inl i :: .inr (.inr (.inl c)) :: st => match G.1 c with
      | .inr (.inl (0, n)) => (0 ≤ i ∧ i < n) ∧ nx (pc + 1) rs ls st (am_up M c i z)
      | _ => False
    | .inl z :: .inl i :: .inr (.inr (.inr (.inl (c, r)))) :: st => match G.1 c with
      | .inr (.inr (.inl (_, len, _))) => (0 ≤ i ∧ i < len) ∧ nx (pc + 1) rs ls st (am_up M c (r * len + i) z)
      | _ => False
    | _ => False
  | .bastore => match st with
    | .inl z :: .inl i :: .inr (.inr (.inl c)) :: st => match G.1 c with
      | .inr (.inl (1, n)) => (0 ≤ i ∧ i < n) ∧ (z = 0 ∨ z = 1) ∧ nx (pc + 1) rs ls st (am_up M c i z)
      | _ => False
    | _ => False
  | .castore => match st with
    | .inl z :: .inl i :: .inr (.inr (.inl c)) :: st => match G.1 c with
      | .inr (.inl (2, n)) => (0 ≤ i ∧ i < n) ∧ (0 ≤ z ∧ z < 65536) ∧ nx (pc + 1) rs ls st (am_up M c i z)
      | _ => False
    | _ => False
  | .lastore => match st with
    | .inr (.inl z) :: .inl i :: .inr (.inr (.inl c)) :: st => match G.1 c with
      | .inr (.inl (3, n)) => (0 ≤ i ∧ i < n) ∧ nx (pc + 1) rs ls st (am_up M c i z)
      | _ => False
    | _ => False
  | .invokestatic _ => cond (Nat.ble x.2.2 st.length && Nat.ble (av_cats (st.drop x.2.2)) 8 && Nat.beq (G.2.1 x.2.1).2.2.2 0) (run x.2.1 (st.take x.2.2).reverse M (fun r M' => nx (pc + 3) rs ls (r.toList ++ st.drop x.2.2) M')) False
  | .invokevirtual _ => match x.1 with
    | 0 => match st[x.2.2]? with
      | some (.inr (.inr (.inl c))) => match G.1 c with
        | .inl (ci, _) => cond (Nat.beq ci (G.2.1 x.2.1).1 && Nat.ble (av_cats (st.drop (x.2.2 + 1))) 8 && Nat.beq (G.2.1 x.2.1).2.2.2 1) (run x.2.1 (aP c :: (st.take x.2.2).reverse) M (fun r M' => nx (pc + 3) rs ls (r.toList ++ st.drop (x.2.2 + 1)) M')) False
        | _ => False
      | _ => False
    | 1 => match st with
      | .inr (.inr (.inr (.inr k))) :: st => cond (Nat.ble (av_cats st) 8) (nx (pc + 3) rs ls (aI (G.2.2.2 k).length :: st) M) False
      | _ => False
    | 2 => match st with
      | .inl i :: .inr (.inr (.inr (.inr k))) :: st => cond (Nat.ble (av_cats st) 8) ((0 ≤ i ∧ i < (G.2.2.2 k).length) ∧ nx (pc + 3) rs ls (aI ((G.2.2.2 k).getD i.toNat 0) :: st) M) False
      | _ => False
    | _ => False
  | .ireturn => match st with
    | [.inl z] => match rk with
      | 1 => Q (some (aI z)) M
      | 2 => (z = 0 ∨ z = 1) ∧ Q (some (aI z)) M
      | 3 => (0 ≤ z ∧ z < 65536) ∧ Q (some (aI z)) M
      | _ => False
    | _ => False
  | .return_ => match st with
    | [] => match rk with
      | 0 => Q none M
      | _ => False
    | _ => False
  | ins => match a_bin ins with
    | some f => match st with
      | .inl b :: .inl a :: st => nx (pc + 1) rs ls (aI (f a b) :: st) M
      | _ => False
    | none => match a_binL ins with
      | some f => match st with
        | .inr (.inl b) :: .inr (.inl a) :: st => nx (pc + 1) rs ls (aL (f a b) :: st) M
        | _ => False
      | none => match a_shL ins with
        | some f => match st with
          | .inl b :: .inr (.inl a) :: st => nx (pc + 1) rs ls (aL (f a b) :: st) M
          | _ => False
        | none => False
end AMS
/-- a predicate that is kept by what the machine does: by a weaker end, at a block's begin, by a step (backwards) -/
def a_Mono (R : Nat → Nat → Nat → AB → AL → List AV → AM → (Option AV → AM → Prop) → Prop) : Prop := ∀ d y pc rs ls st M Q Q', (∀ r M', Q r M' → Q' r M') → R d y pc rs ls st M Q → R d y pc rs ls st M Q'
def a_Nil (G : AG) (R : Nat → Nat → Nat → AB → AL → List AV → AM → (Option AV → AM → Prop) → Prop) : Prop := ∀ d y pc ls st M Q, R d y pc (G.2.2.1 y pc) ls st M Q → R d y pc [] ls st M Q
/-- the method y' called d deep: by R, one less deep -/
def a_Kof (G : AG) (R : Nat → Nat → Nat → AB → AL → List AV → AM → (Option AV → AM → Prop) → Prop) (d y' : Nat) (as : List AV) (M : AM) (K : Option AV → AM → Prop) : Prop := ∃ d', d = d' + 1 ∧ av_cats as ≤ (G.2.1 y').2.1 ∧ R d' y' 0 [] (al_args (G.2.1 y').2.1 as) [] M K
def a_Stp (G : AG) (R : Nat → Nat → Nat → AB → AL → List AV → AM → (Option AV → AM → Prop) → Prop) : Prop := ∀ d y pc ins x rs ls st M Q, a_step G (a_Kof G R d) (fun pc' rs' ls' st' M' => R d y pc' rs' ls' st' M' Q) (G.2.1 y).2.2.1 Q pc ins x rs ls st M → R d y pc ((ins, x) :: rs) ls st M Q
/-- THE MACHINE: the method y, at pc with 'rs' of its block before it, ends with Q, not more than d calls deep -/
def aE (G : AG) (d y pc : Nat) (rs : AB) (ls : AL) (st : List AV) (M : AM) (Q : Option AV → AM → Prop) : Prop := ∀ R, a_Mono R → a_Nil G R → a_Stp G R → R d y pc rs ls st M Q
end
section
/-! THE ABSTRACT MACHINE IS SOUND: what it runs, the methods run. First the worlds. -/
def aR32 (z : Int) : Prop := -2147483648 ≤ z ∧ z < 2147483648
def aR64 (z : Int) : Prop := -9223372036854775808 ≤ z ∧ z < 9223372036854775808
theorem aR32_of (x : Int32) : aR32 x.toInt := by
  have h1 := Int32.minValue_le_toInt x
  have h2 := Int32.toInt_lt x
  simp [aR32, Int32.minValue] at *
  omega
theorem aR64_of (x : Int64) : aR64 x.toInt := by
  have h1 := Int64.minValue_le_toInt x
  have h2 := Int64.toInt_lt x
  simp [aR64, Int64.minValue] at *
  omega
theorem a32_t {z : Int} (h : aR32 z) : (Int32.ofInt z).toInt = z := Int32.toInt_ofInt_of_le h.1 h.2
theorem a64_t {z : Int} (h : aR64 z) : (Int64.ofInt z).toInt = z := Int64.toInt_ofInt_of_le h.1 h.2
theorem a32_o (x : Int32) : Int32.ofInt x.toInt = x := Int32.ofInt_toInt x
theorem a64_o (x : Int64) : Int64.ofInt x.toInt = x := Int64.ofInt_toInt x
theorem a32_lt {a b : Int} (ha : aR32 a) (hb : aR32 b) : Int32.ofInt a < Int32.ofInt b ↔ a < b := by rw [Int32.lt_iff_toInt_lt, a32_t ha, a32_t hb]
theorem a32_le {a b : Int} (ha : aR32 a) (hb : aR32 b) : Int32.ofInt a ≤ Int32.ofInt b ↔ a ≤ b := by rw [Int32.le_iff_toInt_le, a32_t ha, a32_t hb]
theorem a32_eq {a b : Int} (ha : aR32 a) (hb : aR32 b) : Int32.ofInt a = Int32.ofInt b ↔ a = b := by rw [← Int32.toInt_inj, a32_t ha, a32_t hb]
theorem a64_lt {a b : Int} (ha : aR64 a) (hb : aR64 b) : Int64.ofInt a < Int64.ofInt b ↔ a < b := by rw [Int64.lt_iff_toInt_lt, a64_t ha, a64_t hb]
theorem a64_eq {a b : Int} (ha : aR64 a) (hb : aR64 b) : Int64.ofInt a = Int64.ofInt b ↔ a = b := by rw [← Int64.toInt_inj, a64_t ha, a64_t hb]
/-- an index that is within -/
theorem a32_ix {i : Int} {n : Nat} (h0 : 0 ≤ i) (h1 : i < n) (hr : aR32 i) : vp_in (Int32.ofInt i) n ∧ (Int32.ofInt i).toNatClampNeg = i.toNat := by
  have e : (Int32.ofInt i).toInt = i := a32_t hr
  refine ⟨vp_in_iff.mpr (by rw [e]; exact ⟨h0, h1⟩), ?_⟩
  rw [← Int32.toNat_toInt, e]
section AW
variable (G : AG) (ad : Nat → Nat) (cA : Nat → ClassId) (nc : Nat)
def a_isL (q : Nat) : Bool := match G.1 q with
  | .inr (.inl (3, _)) => true
  | _ => false
/-- the values of an object's fields, from the place j on -/
def aw_fv (M : AM) (q : Nat) : Nat → List Nat → List Value
  | _, [] => []
  | j, f :: fs => (match f with
    | k + 2 => .ref (ad k)
    | _ => .int (Int32.ofInt (M q j))) :: aw_fv M q (j + 1) fs
def aw_e (M : AM) (q : Nat) : va_E := match G.1 q with
  | .inl (ci, fs) => .inr (ci, aw_fv ad M q 0 fs)
  | .inr (.inl (3, n)) => .inl (cA 3, n, .inr (.inl (fun j => Int64.ofInt (M q j))))
  | .inr (.inl (t, n)) => .inl (cA t, n, .inl (fun j => Int32.ofInt (M q j)))
  | .inr (.inr (.inl (n, _, base))) => .inl (cA 4, n, .inr (.inr (.inr (.inr (fun i => if i < n then some (ad (base + i)) else none)))))
  | .inr (.inr (.inr (.inl (k, r, len)))) => .inl (cA 0, len, .inl (fun j => if j < len then Int32.ofInt (M k (r * len + j)) else 0))
  | .inr (.inr (.inr (.inr _))) => .inr (0, [])
/-- the world that a store stands for -/
def aw (M : AM) : va_W := (List.range nc).map fun q => (ad q, aw_e G ad cA M q)
/-- the kinds fit each other -/
def aGW : Prop := (∀ q k r len, G.1 q = kW k r len → ∃ n base, G.1 k = kR n len base ∧ q = base + r ∧ r < n) ∧ (∀ k n len base, G.1 k = kR n len base → ∀ r, r < n → base + r < nc ∧ G.1 (base + r) = kW k r len) ∧ (∀ q, nc ≤ q → ∃ cs, G.1 q = kC cs) ∧ (∀ q cs, G.1 q = kC cs → ∀ z ∈ cs, aR32 z) ∧ (∀ q t n, G.1 q = kA t n → t ≤ 3 ∧ n < 2 ^ 31)
def a_rb (k : Nat) : Nat := match G.1 k with
  | .inr (.inr (.inl (_, _, b))) => b
  | _ => 0
/-- a value as the JVM has it -/
def acv (v : AV) : Value := match v with
  | .inl z => .int (Int32.ofInt z)
  | .inr (.inl z) => .long (Int64.ofInt z)
  | .inr (.inr (.inl k)) => .ref (ad k)
  | .inr (.inr (.inr (.inl (k, i)))) => .ref (ad (a_rb G k + i.toNat))
  | .inr (.inr (.inr (.inr k))) => .ref (ad (5000 + k))
def aOKV (ns : Nat) (v : AV) : Prop := match v with
  | .inl z => aR32 z
  | .inr (.inl z) => aR64 z
  | .inr (.inr (.inl _)) => True
  | .inr (.inr (.inr (.inl (k, i)))) => ∃ n len base, G.1 k = kR n len base ∧ 0 ≤ i ∧ i < n
  | .inr (.inr (.inr (.inr k))) => k < ns
def aOKM (M : AM) : Prop := ∀ q i, (a_isL G q = true → aR64 (M q i)) ∧ (a_isL G q = false → aR32 (M q i))
variable {G ad cA nc}
theorem aw_at {M : AM} {q : Nat} (h : q < nc) : (aw G ad cA nc M)[q]? = some (ad q, aw_e G ad cA M q) := by simp [aw, h]
theorem aw_in {q : Nat} (hG : aGW G nc) (h : ∀ cs, G.1 q ≠ kC cs) : q < nc := by
  rcases Nat.lt_or_ge q nc with h1 | h1
  · exact h1
  · obtain ⟨cs, h2⟩ := hG.2.2.1 q h1
    exact absurd h2 (h cs)
theorem aw_fv_get {M : AM} {q : Nat} : ∀ (fs : List Nat) (j k : Nat), (aw_fv ad M q j fs)[k]? = match fs[k]? with
    | none => none
    | some (c + 2) => some (.ref (ad c))
    | some _ => some (.int (Int32.ofInt (M q ((j + k : Nat) : Int)))) := by
  intro fs
  induction fs with
  | nil => intro j k; simp [aw_fv]
  | cons f fs ih =>
    intro j k
    cases k with
    | zero => cases f with
      | zero => simp [aw_fv]
      | succ f => cases f <;> simp [aw_fv]
    | succ k =>
      simp only [aw_fv, List.getElem?_cons_succ, ih]
      rw [show j + 1 + k = j + (k + 1) by omega]
theorem aw_fv_len {M : AM} {q : Nat} : ∀ (fs : List Nat) (j : Nat), (aw_fv ad M q j fs).length = fs.length := by
  intro fs
  induction fs with
  | nil => intro j; rfl
  | cons f fs ih => intro j; simp [aw_fv, ih]
/-- a store written in one place is a world written in one cell -/
theorem aw_set {M : AM} {k q : Nat} {i z : Int} (h : ∀ q', q' < nc → q' ≠ q → aw_e G ad cA (am_up M k i z) q' = aw_e G ad cA M q') : aw G ad cA nc (am_up M k i z) = (aw G ad cA nc M).set q (ad q, aw_e G ad cA (am_up M k i z) q) := by
  apply List.ext_getElem?
  intro j
  by_cases hj : j < nc
  · rw [aw_at hj, List.getElem?_set]
    by_cases e : q = j
    · subst e
      simp [aw, hj]
    · rw [if_neg e, aw_at hj, h j hj (fun x => e x.symm)]
  · rw [List.getElem?_eq_none (by simp [aw]; omega), List.getElem?_eq_none (by simp [aw]; omega)]
theorem aw_other {M : AM} {k : Nat} {i z : Int} {q : Nat} (hG : aGW G nc) (hk : ∀ n len base, G.1 k ≠ kR n len base) (hq : q ≠ k) : aw_e G ad cA (am_up M k i z) q = aw_e G ad cA M q := by
  unfold aw_e
  split
  next ci fs e =>
    congr 2
    apply List.ext_getElem?
    intro j
    rw [aw_fv_get, aw_fv_get]
    simp [am_up, hq]
  next n e => simp [am_up, hq]
  next t n _ e => simp [am_up, hq]
  next n _ base e => rfl
  next k' r len e =>
    obtain ⟨n, base, e2, -⟩ := hG.1 q k' r len e
    have hne : k' ≠ k := fun x => hk n len base (x ▸ e2)
    simp [am_up, hne]
  next => rfl
theorem aw_otherR {M : AM} {k n len base r : Nat} {j z : Int} {q : Nat} (hG : aGW G nc) (hk : G.1 k = kR n len base) (hr : r < n) (h0 : 0 ≤ j) (h1 : j < len) (hq : q ≠ base + r) : aw_e G ad cA (am_up M k (r * len + j) z) q = aw_e G ad cA M q := by
  unfold aw_e
  split
  next ci fs e =>
    have hne : q ≠ k := fun x => by rw [x, hk] at e; cases e
    congr 2
    apply List.ext_getElem?
    intro j
    rw [aw_fv_get, aw_fv_get]
    simp [am_up, hne]
  next m e =>
    have hne : q ≠ k := fun x => by rw [x, hk] at e; cases e
    simp [am_up, hne]
  next t m _ e =>
    have hne : q ≠ k := fun x => by rw [x, hk] at e; cases e
    simp [am_up, hne]
  next m _ b e => rfl
  next k' r' len' e =>
    obtain ⟨n', b', e2, e3, e4⟩ := hG.1 q k' r' len' e
    by_cases hkk : k' = k
    · subst hkk
      rw [hk] at e2
      cases e2
      have hrr : r' ≠ r := fun x => hq (by rw [e3, x])
      congr 4
      funext j'
      by_cases hj : j' < len
      · rw [if_pos hj, if_pos hj]
        have : ¬ ((r' : Int) * len + j' = r * len + j) := by
          intro x
          have h4 : ((r' : Int) - r) * len = j - j' := by rw [Int.sub_mul]; omega
          rcases Int.lt_or_gt_of_ne (show (r' : Int) ≠ r by omega) with g | g
          · have : ((r' : Int) - r) * len ≤ -1 * len := Int.mul_le_mul_of_nonneg_right (by omega) (by omega)
            omega
          · have : 1 * (len : Int) ≤ ((r' : Int) - r) * len := Int.mul_le_mul_of_nonneg_right (by omega) (by omega)
            omega
        simp [am_up, this]
      · rw [if_neg hj, if_neg hj]
    · simp [am_up, hkk]
  next => rfl
theorem aOKM_up {M : AM} {k : Nat} {i z : Int} (h : aOKM G M) (hz : (a_isL G k = true → aR64 z) ∧ (a_isL G k = false → aR32 z)) : aOKM G (am_up M k i z) := by
  intro q j
  unfold am_up
  by_cases hc : q = k ∧ j = i
  · rw [if_pos hc, hc.1]; exact hz
  · rw [if_neg hc]; exact h q j
end AW
end
section
/-! THE ABSTRACT MACHINE IS SOUND, second: locals, the words, one method's walk. -/
/-- the locals hold what the abstract ones say -/
def aLoc (cv : AV → Value) (lsC : Array Slot) (nL : Nat) (ls : AL) : Prop := lsC.size = nL ∧ lv_wf lsC ∧ ∀ (i : Nat) (v : AV), ls[i]? = some (some v) → lsC[i]? = some (.val (cv v))
/-- the same as the kit's rows ask for it -/
def al_prs (cv : AV → Value) (ls : AL) : List (Nat × Value) := (List.range ls.length).filterMap fun i => match ls[i]? with
  | some (some v) => some (i, cv v)
  | _ => none
theorem al_mem {cv : AV → Value} {ls : AL} {i : Nat} {w : Value} : (i, w) ∈ al_prs cv ls ↔ ∃ v, ls[i]? = some (some v) ∧ w = cv v := by
  unfold al_prs
  rw [List.mem_filterMap]
  constructor
  · rintro ⟨j, -, h⟩
    split at h
    next v e => cases h; exact ⟨v, e, rfl⟩
    next => cases h
  · rintro ⟨v, h, rfl⟩
    refine ⟨i, List.mem_range.mpr (List.getElem?_eq_some_iff.mp h).1, ?_⟩
    rw [h]
theorem al_has {cv : AV → Value} {lsC : Array Slot} {nL : Nat} {ls : AL} (h : aLoc cv lsC nL ls) : lv_has lsC nL (al_prs cv ls) := by
  refine ⟨h.1, h.2.1, fun q hq => ?_⟩
  obtain ⟨v, h1, h2⟩ := al_mem.mp (show (q.1, q.2) ∈ _ from hq)
  rw [h2]
  exact h.2.2 q.1 v h1
theorem al_kill_get {ls : AL} {i j : Nat} {w : AV} (h : (al_kill ls i)[j]? = some (some w)) : ls[j]? = some (some w) ∧ ¬ (j + 1 = i ∧ ∃ z, w = aL z) := by
  unfold al_kill at h
  split at h
  · exact ⟨h, fun x => by omega⟩
  next k =>
    split at h
    next z e =>
      rw [List.getElem?_set] at h
      split at h
      · split at h <;> cases h
      next hne => exact ⟨h, fun x => hne (by omega)⟩
    next hn =>
      refine ⟨h, fun x => ?_⟩
      obtain ⟨x1, z, x2⟩ := x
      have : j = k := by omega
      subst this
      subst x2
      exact hn z h
theorem acv_cat {G : AG} {ad : Nat → Nat} {v : AV} : (acv G ad v).category = 2 ↔ ∃ z, v = aL z := by
  rcases v with z | z | k | ⟨k, i⟩ | k <;> simp [acv, Value.category]
theorem acv_catN {G : AG} {ad : Nat → Nat} (v : AV) : (acv G ad v).category = av_cat v := by
  rcases v with z | z | k | ⟨k, i⟩ | k <;> rfl
theorem acv_cats {G : AG} {ad : Nat → Nat} (st : List AV) : ((st.map (acv G ad)).map fun v => v.category).sum = av_cats st := by
  induction st with
  | nil => rfl
  | cons v r ih => simp only [List.map_cons, List.sum_cons, av_cats]; rw [acv_catN, ← ih]
theorem al_store1 {G : AG} {ad : Nat → Nat} {lsC : Array Slot} {nL i : Nat} {ls : AL} {v : AV} (h : lv_has lsC nL ((i, acv G ad v) :: (al_prs (acv G ad) ls).filter (fun q => !(q.1 == i) && !(q.1 + 1 == i && q.2.category == 2)))) : aLoc (acv G ad) lsC nL (al_set1 ls i v) := by
  refine ⟨h.1, h.2.1, fun j w hj => ?_⟩
  unfold al_set1 at hj
  rw [List.getElem?_set] at hj
  split at hj
  next e =>
    subst e
    split at hj
    · cases hj
      exact h.2.2 (i, acv G ad v) List.mem_cons_self
    · cases hj
  next e =>
    obtain ⟨h1, h2⟩ := al_kill_get hj
    refine h.2.2 (j, acv G ad w) (List.mem_cons_of_mem _ (List.mem_filter.mpr ⟨al_mem.mpr ⟨w, h1, rfl⟩, ?_⟩))
    have e2 : (j == i) = false := by simp; omega
    by_cases hji : j + 1 = i
    · have : ¬ (acv G ad w).category = 2 := fun x => h2 ⟨hji, acv_cat.mp x⟩
      simp [e2, this]
    · simp [e2, hji]
theorem al_store2 {G : AG} {ad : Nat → Nat} {lsC : Array Slot} {nL i : Nat} {ls : AL} {v : AV} (h : lv_has lsC nL ((i, acv G ad v) :: (al_prs (acv G ad) ls).filter (fun q => !(q.1 == i) && (!(q.1 == i + 1) && !(q.1 + 1 == i && q.2.category == 2))))) : aLoc (acv G ad) lsC nL (al_set2 ls i v) := by
  refine ⟨h.1, h.2.1, fun j w hj => ?_⟩
  unfold al_set2 at hj
  rw [List.getElem?_set] at hj
  split at hj
  next e => split at hj <;> cases hj
  next e0 =>
  rw [List.getElem?_set] at hj
  split at hj
  next e =>
    subst e
    split at hj
    · cases hj
      exact h.2.2 (i, acv G ad v) List.mem_cons_self
    · cases hj
  next e =>
    obtain ⟨h1, h2⟩ := al_kill_get hj
    refine h.2.2 (j, acv G ad w) (List.mem_cons_of_mem _ (List.mem_filter.mpr ⟨al_mem.mpr ⟨w, h1, rfl⟩, ?_⟩))
    have e2 : (j == i) = false := by simp; omega
    have e3 : (j == i + 1) = false := by simp; omega
    by_cases hji : j + 1 = i
    · have : ¬ (acv G ad w).category = 2 := fun x => h2 ⟨hji, acv_cat.mp x⟩
      simp [e2, e3, this]
    · simp [e2, e3, hji]
/-- which values the locals have is kept by a store -/
theorem al_set1_ok {P : AV → Prop} {ls : AL} {i : Nat} {v : AV} (h : ∀ w, some w ∈ ls → P w) (hv : P v) : ∀ w, some w ∈ al_set1 ls i v → P w := by
  intro w hw
  obtain ⟨j, hj⟩ := List.getElem?_of_mem hw
  unfold al_set1 at hj
  rw [List.getElem?_set] at hj
  split at hj
  · split at hj
    · cases hj; exact hv
    · cases hj
  · exact h w (List.mem_of_getElem? (al_kill_get hj).1)
theorem al_set2_ok {P : AV → Prop} {ls : AL} {i : Nat} {v : AV} (h : ∀ w, some w ∈ ls → P w) (hv : P v) : ∀ w, some w ∈ al_set2 ls i v → P w := by
  intro w hw
  obtain ⟨j, hj⟩ := List.getElem?_of_mem hw
  unfold al_set2 at hj
  rw [List.getElem?_set] at hj
  split at hj
  · split at hj <;> cases hj
  · rw [List.getElem?_set] at hj
    split at hj
    · split at hj
      · cases hj; exact hv
      · cases hj
    · exact h w (List.mem_of_getElem? (al_kill_get hj).1)
/-- the locals at the begin -/
theorem al_args_ok {P : AV → Prop} : ∀ (vs : List AV) (n : Nat), (∀ v ∈ vs, P v) → ∀ w, some w ∈ al_args n vs → P w := by
  intro vs
  induction vs with
  | nil => intro n _ w hw; have := List.eq_of_mem_replicate hw; cases this
  | cons v vs ih =>
    intro n hv w hw
    unfold al_args at hw
    split at hw
    · rcases List.mem_cons.mp hw with h | h
      · cases h; exact hv _ List.mem_cons_self
      · rcases List.mem_cons.mp h with h | h
        · cases h
        · exact ih _ (fun u hu => hv u (List.mem_cons_of_mem _ hu)) w h
    · rcases List.mem_cons.mp hw with h | h
      · cases h; exact hv _ List.mem_cons_self
      · exact ih _ (fun u hu => hv u (List.mem_cons_of_mem _ hu)) w h
theorem al_args_get {G : AG} {ad : Nat → Nat} : ∀ (vs : List AV) (n k i : Nat) (w : AV), (al_args n vs)[i]? = some (some w) → (k + i, acv G ad w) ∈ lv_args k (vs.map (acv G ad)) := by
  intro vs
  induction vs with
  | nil => intro n k i w h; have := List.eq_of_mem_replicate (List.mem_of_getElem? (show (List.replicate n none)[i]? = some (some w) from h)); cases this
  | cons v vs ih =>
    intro n k i w h
    rw [List.map_cons]
    unfold lv_args
    unfold al_args at h
    split at h
    next z =>
      rw [if_pos (show (acv G ad (Sum.inr (Sum.inl z))).category = 2 from rfl)]
      match i, h with
      | 0, h => cases h; exact List.mem_cons_self
      | 1, h => cases h
      | i + 2, h => rw [show k + (i + 2) = k + 2 + i by omega]; exact List.mem_cons_of_mem _ (ih _ _ _ _ h)
    next hn =>
      rw [if_neg (fun x => by obtain ⟨z, hz⟩ := acv_cat.mp x; exact hn z hz)]
      match i, h with
      | 0, h => cases h; exact List.mem_cons_self
      | i + 1, h => rw [show k + (i + 1) = k + 1 + i by omega]; exact List.mem_cons_of_mem _ (ih _ _ _ _ h)
theorem al_sl {G : AG} {ad : Nat → Nat} (vs : List AV) : (lg_sl (vs.map (acv G ad))).length = av_cats vs := by
  induction vs with
  | nil => rfl
  | cons v vs ih =>
    have e : lg_sl ((v :: vs).map (acv G ad)) = (if (acv G ad v).category = 2 then [.val (acv G ad v), .second] else [.val (acv G ad v)]) ++ lg_sl (vs.map (acv G ad)) := by simp [lg_sl]
    rw [e, List.length_append, ih]
    rcases v with z | z | k | ⟨k, i⟩ | k <;> simp [acv, Value.category, av_cats, av_cat]
theorem al_entry {G : AG} {ad : Nat → Nat} {vs : List AV} {n : Nat} (h : av_cats vs ≤ n) : aLoc (acv G ad) ((lg_sl (vs.map (acv G ad)) ++ List.replicate (n - (lg_sl (vs.map (acv G ad))).length) Slot.unset).toArray) n (al_args n vs) := by
  have h1 := lv_entry (vs.map (acv G ad)) (n := n) (by rw [al_sl]; exact h)
  refine ⟨h1.1, h1.2.1, fun i w hi => ?_⟩
  have h2 := al_args_get (G := G) (ad := ad) vs n 0 i w hi
  rw [Nat.zero_add] at h2
  exact h1.2.2 _ h2
end
section
/-! THE ABSTRACT MACHINE IS SOUND, third: the words of the tables, the step. -/
section SND
variable (G : AG) (ad : Nat → Nat) (cA : Nat → ClassId) (nc ns nm ncl : Nat) (D : va_G) (cl : List vw_C)
variable (cn : Nat → String) (yn : Nat → MethodName) (bc : Nat → ByteArray) (tf : Nat → u_T × Nat × (Nat → FieldType)) (AW AN : List Cond)
variable (zs : List ((String × String × String) × Nat)) (sk : Nat → String × Nat × String) (XS : State → Heap → Prop)
def aTys : List (ClassId × FieldType) := [(cA 0, .int), (cA 1, .boolean), (cA 2, .char), (cA 3, .long), (cA 4, .array .int)]
def aF : Nat → Prop := fun a => ∃ q, q < nc ∧ a = ad q
def aRty (k : Nat) : Option FieldType := match k with
  | 1 => some .int
  | 2 => some .boolean
  | 3 => some .char
  | _ => none
def aRoom (d : Nat) : Room := { frames := 10 + d, cells := 0, slots := 0, locals := 100 * (10 + d) }
abbrev aMx (y : Nat) : Nat := (G.2.1 y).2.1
abbrev aOw (y : Nat) : String := cn (G.2.1 y).1
def aWs (y : Nat) : List Cond := Cond.code (yn y) (bc y) (aMx G y) (aRty (G.2.1 y).2.2.1) :: AW
def aX (s : State) : Prop := va_K D cl (aTys cA) s ∧ (∀ q cs, G.1 q = kC cs → cs ≠ [] → va_T .int (ad q) cs.length (fun j => .int (Int32.ofInt (cs.getD j 0))) (aF ad nc) s s.heap) ∧ (∀ z ∈ zs, va_Z z.1.1 z.1.2.1 z.1.2.2 (.ref (ad z.2)) (aF ad nc) s s.heap) ∧ (∀ w ∈ AN, va_Nw w s) ∧ (∀ k, k < ns → vk_R (sk k).1 (sk k).2.1 (sk k).2.2 (ad (5000 + k)) s) ∧ XS s s.heap
def aPc (as : List AV) (M : AM) : Array Value → State → Prop := va_Pc (as.map (acv G ad)) (fun U => va_P D cl (aw G ad cA nc M) U.heap ∧ aX G ad cA nc ns D cl AN zs sk XS U)
def aQc (Q : Option AV → AM → Prop) : Array Value → State → Outcome → State → Prop := fun _ st oc t => (∃ (r : Option AV) (M' : AM), oc = .returned (r.map (acv G ad)) ∧ Q r M' ∧ (∀ v, r = some v → aOKV G ns v) ∧ aOKM G M' ∧ va_P D cl (aw G ad cA nc M') t.heap) ∧ va_F (aF ad nc) st t
def aCtx (d y : Nat) (p : Program) (s : State) (m : MethodId) (args : Array Value) (meth : Method) (c : Code) : Prop :=
  p.tables.exec = Jvm.exec ∧ c.code = bc y ∧ meth.sig.returnType = aRty (G.2.1 y).2.2.1 ∧ c.maxLocals = aMx G y ∧ s.vm.findClass (aOw G cn y) = some m.cls ∧ (∀ w ∈ AW, w.before args s = true) ∧ meth.locks = false ∧ aX G ad cA nc ns D cl AN zs sk XS s
/-- what the tables must say for one instruction -/
def okF (y i : Nat) (x : AX) : Prop := x.2.1 < ncl ∧ x.2.2 < (tf x.2.1).2.1 ∧ Cond.fieldLink (aOw G cn y) i ((tf x.2.1).1 x.2.2).1 ((tf x.2.1).1 x.2.2).2.1 ((tf x.2.1).1 x.2.2).2.2.1 ∈ AW
def aLenN : MethodName := ⟨"java/lang/String", "length", "()I"⟩
def aChrN : MethodName := ⟨"java/lang/String", "charAt", "(I)C"⟩
def okI (y : Nat) (ins : Jvm.ClassFile.Instr) (x : AX) : Prop := match ins with
  | .iconst n => aR32 n
  | .bipush n => -128 ≤ n ∧ n < 128
  | .sipush n => -32768 ≤ n ∧ n < 32768
  | .iinc k n => aR32 n ∧ k < aMx G y
  | .ldc i => match x with
    | (z, 0, _) => aR32 z ∧ Cond.constant (aOw G cn y) i (Int32.ofInt z) ∈ AW
    | (_, 1, k) => k < ns ∧ (sk k).1 = aOw G cn y ∧ (sk k).2.1 = i
    | _ => True
  | .ldc_w i => aR32 x.1 ∧ Cond.constant (aOw G cn y) i (Int32.ofInt x.1) ∈ AW
  | .ldc2_w i => aR64 x.1 ∧ Cond.constantLong (aOw G cn y) i (Int64.ofInt x.1) ∈ AW
  | .istore_n k => (k : Nat) < aMx G y
  | .istore k => k < aMx G y
  | .astore_n k => (k : Nat) < aMx G y
  | .astore k => k < aMx G y
  | .lstore_n k => (k : Nat) + 1 < aMx G y
  | .lstore k => k + 1 < aMx G y
  | .getfield i => okF G ncl cn tf AW y i x
  | .putfield i => okF G ncl cn tf AW y i x ∧ ((tf x.2.1).1 x.2.2).2.2.2 = false
  | .getstatic i => ∃ C n d, ((C, n, d), x.2.1) ∈ zs ∧ Cond.fieldLink (aOw G cn y) i C n d ∈ AW
  | .invokestatic i => x.2.1 < nm ∧ (parseMethodDescriptor (yn x.2.1).desc).map (fun d => d.parameters.length) = some x.2.2 ∧ ((Cond.methodLink (aOw G cn y) i (yn x.2.1) ∈ AW) ∨ ∃ host, Cond.methodLinkNest (aOw G cn y) i (yn x.2.1) host ∈ AN)
  | .invokevirtual i => match x.1 with
    | 0 => x.2.1 < nm ∧ (parseMethodDescriptor (yn x.2.1).desc).map (fun d => d.parameters.length) = some x.2.2 ∧ Cond.methodLink (aOw G cn y) i (yn x.2.1) ∈ AW
    | 1 => Cond.methodLink (aOw G cn y) i aLenN ∈ AW
    | 2 => Cond.methodLink (aOw G cn y) i aChrN ∈ AW
    | _ => True
  | .tableswitch _ lo hi offs => hi - lo + 1 = offs.size ∧ aR32 lo ∧ aR32 hi
  | .lookupswitch _ ps => (ps.toList.zip (ps.toList.drop 1)).all (fun (a, next) => a.1 < next.1) = true
  | _ => True
def a_len (i : Jvm.ClassFile.Instr) : Nat := match i with
  | .bipush _ => 2
  | .sipush _ => 3
  | .ldc _ => 2
  | .ldc_w _ => 3
  | .ldc2_w _ => 3
  | .iload _ => 2
  | .lload _ => 2
  | .aload _ => 2
  | .istore _ => 2
  | .lstore _ => 2
  | .astore _ => 2
  | .iinc _ _ => 3
  | .if_icmp _ _ => 3
  | .ifCond _ _ => 3
  | .goto _ => 3
  | .getfield _ => 3
  | .putfield _ => 3
  | .getstatic _ => 3
  | .invokestatic _ => 3
  | .invokevirtual _ => 3
  | _ => 1
/-- a jump goes to a place, not ahead of the first -/
def okJ (pc : Nat) (ins : Jvm.ClassFile.Instr) : Prop := match ins with
  | .goto o => 0 ≤ (pc : Int) + o
  | .if_icmp _ o => 0 ≤ (pc : Int) + o
  | .ifCond _ o => 0 ≤ (pc : Int) + o
  | .tableswitch d _ _ offs => 0 ≤ (pc : Int) + d ∧ ∀ o ∈ offs.toList, 0 ≤ (pc : Int) + o
  | .lookupswitch d ps => 0 ≤ (pc : Int) + d ∧ ∀ q ∈ ps.toList, 0 ≤ (pc : Int) + q.2
  | _ => True
def okD (y pc : Nat) (ins : Jvm.ClassFile.Instr) : Prop := match ins with
  | .tableswitch _ _ _ _ => ∃ n, decode (bc y) pc = .ok (ins, n)
  | .lookupswitch _ _ => ∃ n, decode (bc y) pc = .ok (ins, n)
  | _ => decode (bc y) pc = .ok (ins, a_len ins)
/-- a block's rest, from pc on -/
def okL (y : Nat) : Nat → AB → Prop
  | _, [] => True
  | pc, (ins, x) :: rs => okD bc y pc ins ∧ okJ pc ins ∧ okI G ns nm ncl cn yn tf AW AN zs sk y ins x ∧ okL y (pc + a_len ins) rs
/-- the facts of the tables -/
def aTab : Prop := aGW G nc ∧ (∀ i j, i < nc → j < nc → ad i = ad j → i = j) ∧
  (∀ ci, ci < ncl → cl[ci]? = some (cn ci, (tf ci).1, (tf ci).2.1) ∧ (∀ w ∈ u_ws (cn ci) (tf ci).1 (tf ci).2.1, w ∈ AW) ∧ (∀ k, k < (tf ci).2.1 → parseFieldDescriptor ((tf ci).1 k).2.2.1 = some ((tf ci).2.2 k)) ∧ (∀ a, a < (tf ci).2.1 → ∀ b, b < (tf ci).2.1 → a ≠ b → ((tf ci).1 a).2.1 ≠ ((tf ci).1 b).2.1)) ∧
  (∀ q ci fs, G.1 q = kO ci fs → ci < ncl ∧ fs.length = (tf ci).2.1 ∧ ∀ k, (fs[k]? = some 0 → (tf ci).2.2 k = .int) ∧ (fs[k]? = some 1 → (tf ci).2.2 k = .boolean)) ∧
  (∀ y, y < nm → Cond.code (yn y) (bc y) (aMx G y) (aRty (G.2.1 y).2.2.1) ∈ AW ∧ Cond.initialized (yn y).cls ∈ AW ∧ (yn y).cls = aOw G cn y ∧ plainName (yn y).cls = true ∧ ((yn y).cls ≠ "java/lang/invoke/MethodHandle" ∧ (yn y).cls ≠ "java/lang/invoke/VarHandle") ∧ aMx G y ≤ 80 ∧ ((G.2.1 y).2.2.2 = 1 → (G.2.1 y).1 < ncl ∧ Cond.instanceMethod (yn y) ∈ AW ∧ Cond.selects (aOw G cn y) (yn y) (yn y) ∈ AW) ∧ ((G.2.1 y).2.2.2 = 0 → Cond.static (yn y) ∈ AW)) ∧
  (∀ w ∈ AW, goodWord w = true) ∧ (∀ w ∈ AN, ∃ a i x h, w = .methodLinkNest a i x h) ∧
  (∀ y pc, y < nm → okL G ns nm ncl cn yn bc tf AW AN zs sk y pc (G.2.2.1 y pc)) ∧
  (∀ {u U : State} {H : Heap}, u.vm.Alike U.vm → XS u H → XS U H) ∧ (∀ {U : State} {H H1 : Heap}, XS U H → (∀ a : Nat, a < H.size → ¬ aF ad nc a → H1[a]? = H[a]?) → XS U H1)
end SND
end
section
/-! THE ABSTRACT MACHINE IS SOUND, fourth: one step. -/
theorem a_i8 {n : Int} (h : -128 ≤ n ∧ n < 128) : (Int8.ofInt n).toInt32 = Int32.ofInt n := by
  apply Int32.toInt_inj.mp
  rw [Int8.toInt_toInt32, Int8.toInt_ofInt_of_le (by omega) (by omega), Int32.toInt_ofInt_of_le (by omega) (by omega)]
theorem a_i16 {n : Int} (h : -32768 ≤ n ∧ n < 32768) : (Int16.ofInt n).toInt32 = Int32.ofInt n := by
  apply Int32.toInt_inj.mp
  rw [Int16.toInt_toInt32, Int16.toInt_ofInt_of_le (by omega) (by omega), Int32.toInt_ofInt_of_le (by omega) (by omega)]
theorem a_cond {b : Bool} {A : Prop} (h : cond b A False) : b = true ∧ A := by
  cases b
  · exact h.elim
  · exact ⟨rfl, h⟩
theorem a_st1 {P : AV → Prop} {v : AV} {st : List AV} (h : ∀ w ∈ v :: st, P w) : P v ∧ ∀ w ∈ st, P w := List.forall_mem_cons.mp h
theorem a_stc {P : AV → Prop} {v : AV} {st : List AV} (h : P v) (h2 : ∀ w ∈ st, P w) : ∀ w ∈ v :: st, P w := List.forall_mem_cons.mpr ⟨h, h2⟩
/-- which instructions: calls; over the heap and ends; all others -/
def a_kc (i : Jvm.ClassFile.Instr) : Bool := match i with | .invokestatic _ => true | .invokevirtual _ => true | _ => false
def a_kh (i : Jvm.ClassFile.Instr) : Bool := match i with | .getfield _ => true | .putfield _ => true | .getstatic _ => true | .arraylength => true | .iaload => true | .aaload => true | .baload => true | .caload => true | .laload => true | .iastore => true | .bastore => true | .castore => true | .lastore => true | .ireturn => true | .return_ => true | .ldc _ => true | _ => false
def a_kl (i : Jvm.ClassFile.Instr) : Bool := match i with | .getfield _ => false | .putfield _ => false | .getstatic _ => false | .arraylength => false | .iaload => false | .aaload => false | .baload => false | .caload => false | .laload => false | .iastore => false | .bastore => false | .castore => false | .lastore => false | .invokestatic _ => false | .invokevirtual _ => false | .ireturn => false | .return_ => false | .ldc _ => false | _ => true
section ST
variable {G : AG} {ad : Nat → Nat} {cA : Nat → ClassId} {nc ns nm ncl : Nat} {D : va_G} {cl : List vw_C}
variable {cn : Nat → String} {yn : Nat → MethodName} {bc : Nat → ByteArray} {tf : Nat → u_T × Nat × (Nat → FieldType)} {AW AN : List Cond}
variable {zs : List ((String × String × String) × Nat)} {sk : Nat → String × Nat × String} {XS : State → Heap → Prop}
variable {p : Program} {l : Launch} {e : Env} {R : Room} {s : State} {m : MethodId} {args : Array Value} {below : List Frame} {meth : Method} {c : Code} {H : Heap} {locs : List Loc} {cells slots : Nat} {QQ : State → Prop} {lsC : Array Slot}
theorem a_top {pc : Nat} {x y : Int32} {rest : List Value} (h : x = y) (k : W p l e R s m args below meth c H locs cells slots QQ (F0 m pc lsC (.int x :: rest))) : W p l e R s m args below meth c H locs cells slots QQ (F0 m pc lsC (.int y :: rest)) := h ▸ k
theorem a_topL {pc : Nat} {x y : Int64} {rest : List Value} (h : x = y) (k : W p l e R s m args below meth c H locs cells slots QQ (F0 m pc lsC (.long x :: rest))) : W p l e R s m args below meth c H locs cells slots QQ (F0 m pc lsC (.long y :: rest)) := h ▸ k
/-- what stands at a place of a method's walk -/
def aInv (G : AG) (ad : Nat → Nat) (cA : Nat → ClassId) (nc ns : Nat) (D : va_G) (cl : List vw_C) (y : Nat) (ls : AL) (st : List AV) (M : AM) (s : State) (H : Heap) (locs : List Loc) (lsC : Array Slot) : Prop :=
  aLoc (acv G ad) lsC (aMx G y) ls ∧ (∀ v ∈ st, aOKV G ns v) ∧ (∀ v, some v ∈ ls → aOKV G ns v) ∧ aOKM G M ∧ va_P D cl (aw G ad cA nc M) H ∧ va_S (aF ad nc) s.heap H locs
theorem aD_of (hT : ∀ i j, i < nc → j < nc → ad i = ad j → i = j) (M : AM) : va_D (aF ad nc) (aw G ad cA nc M) := by
  have key : ∀ (i : Nat) (p : Nat × va_E), (aw G ad cA nc M)[i]? = some p → i < nc ∧ p.1 = ad i := fun i p h => by
    have hi : i < nc := by have := (List.getElem?_eq_some_iff.mp h).1; simpa [aw] using this
    rw [aw_at hi] at h
    cases h
    exact ⟨hi, rfl⟩
  refine ⟨fun i j p q hp hq hpq => ?_, fun k q hq => ?_⟩
  · obtain ⟨h1, h2⟩ := key i p hp
    obtain ⟨h3, h4⟩ := key j q hq
    exact hT i j h1 h3 (by rw [← h2, ← h4]; exact hpq)
  · obtain ⟨h1, h2⟩ := key k q hq
    exact ⟨k, h1, h2⟩
theorem aw_eO {M : AM} {q ci : Nat} {fs : List Nat} (h : G.1 q = .inl (ci, fs)) : aw_e G ad cA M q = .inr (ci, aw_fv ad M q 0 fs) := by simp only [aw_e, h]
theorem aw_eL {M : AM} {q n : Nat} (h : G.1 q = kA 3 n) : aw_e G ad cA M q = .inl (cA 3, n, .inr (.inl (fun j => Int64.ofInt (M q j)))) := by simp only [aw_e, h]
theorem aw_eA {M : AM} {q t n : Nat} (h : G.1 q = kA t n) (ht : t ≠ 3) : aw_e G ad cA M q = .inl (cA t, n, .inl (fun j => Int32.ofInt (M q j))) := by
  unfold aw_e
  rw [h]
  split
  next e => cases e
  next e => cases e; exact absurd rfl ht
  next e => cases e; rfl
  next e => cases e
  next e => cases e
  next e => cases e
theorem aw_eR {M : AM} {q n len base : Nat} (h : G.1 q = kR n len base) : aw_e G ad cA M q = .inl (cA 4, n, .inr (.inr (.inr (.inr (fun i => if i < n then some (ad (base + i)) else none))))) := by simp only [aw_e, h]
theorem aw_eW {M : AM} {q k r len : Nat} (h : G.1 q = kW k r len) : aw_e G ad cA M q = .inl (cA 0, len, .inl (fun j => if j < len then Int32.ofInt (M k (r * len + j)) else 0)) := by simp only [aw_e, h]
theorem a_isLf {q : Nat} (h : ∀ n, G.1 q ≠ kA 3 n) : a_isL G q = false := by
  unfold a_isL
  split
  next n e => exact absurd e (h n)
  next => rfl
theorem aOKM_i {M : AM} (h : aOKM G M) {q : Nat} (hq : ∀ n, G.1 q ≠ kA 3 n) (i : Int) : aR32 (M q i) := (h q i).2 (a_isLf hq)
theorem aOKM_l {M : AM} (h : aOKM G M) {q n : Nat} (hq : G.1 q = kA 3 n) (i : Int) : aR64 (M q i) := (h q i).1 (by simp only [a_isL, hq])
theorem aOKM_upi {M : AM} {k : Nat} {i z : Int} (h : aOKM G M) (hk : ∀ n, G.1 k ≠ kA 3 n) (hz : aR32 z) : aOKM G (am_up M k i z) := aOKM_up h ⟨fun x => (by rw [a_isLf hk] at x; cases x), fun _ => hz⟩
theorem aOKM_upl {M : AM} {k n : Nat} {i z : Int} (h : aOKM G M) (hk : G.1 k = kA 3 n) (hz : aR64 z) : aOKM G (am_up M k i z) := aOKM_up h ⟨fun _ => hz, fun x => by simp only [a_isL, hk] at x; cases x⟩
end ST
end
section
theorem a_w64 {a : Int} (h : aR32 a) : (Int32.ofInt a).toInt64 = Int64.ofInt a := by
  apply Int64.toInt_inj.mp
  rw [Int32.toInt_toInt64, a32_t h, a64_t ⟨by have := h.1; omega, by have := h.2; omega⟩]
theorem a_cmpR (a b : Int) : aR32 (a_cmp a b) := by
  unfold a_cmp
  split
  · exact ⟨by decide, by decide⟩
  · split <;> exact ⟨by decide, by decide⟩
theorem a_lgc {a b : Int} (ha : aR64 a) (hb : aR64 b) : Int32.ofInt (a_cmp a b) = lg_cmp (Int64.ofInt a) (Int64.ofInt b) := by
  unfold a_cmp lg_cmp
  by_cases h1 : b < a
  · rw [if_pos h1, if_pos ((a64_lt hb ha).mpr h1)]; rfl
  · rw [if_neg h1, if_neg (fun z => h1 ((a64_lt hb ha).mp z))]
    by_cases h2 : a = b
    · rw [if_pos h2, if_pos ((a64_eq ha hb).mpr h2)]; rfl
    · rw [if_neg h2, if_neg (fun z => h2 ((a64_eq ha hb).mp z))]; rfl
theorem a_tsw_at (nx : Nat → Prop) (pc : Nat) (a : Int) : ∀ (os : List Int) (j : Nat) (lo o : Int), a_tsw nx pc a lo os → os[j]? = some o → a = lo + j → nx ((pc : Int) + o).toNat := by
  intro os
  induction os with
  | nil => intro j lo o _ h; simp at h
  | cons q os ih =>
    intro j lo o h hj ha
    cases j with
    | zero => simp at hj; subst hj; exact h.1 (by omega)
    | succ j => exact ih j (lo + 1) o h.2 (by simpa using hj) (by omega)
theorem a_lsw_at (nx : Nat → Prop) (pc : Nat) (a d : Int) : ∀ (ps : List (Int × Int)), a_lsw nx pc a d ps → 0 ≤ (pc : Int) + d → (∀ q ∈ ps, 0 ≤ (pc : Int) + q.2) → ∃ o, Op.lookupswitch.offset ps d a = o ∧ 0 ≤ (pc : Int) + o ∧ nx ((pc : Int) + o).toNat := by
  intro ps
  induction ps with
  | nil => intro h h0 _; exact ⟨d, rfl, h0, h⟩
  | cons q r ih =>
    intro h h0 hq
    obtain ⟨k, o⟩ := q
    rw [Op.lookupswitch.offset_cons]
    by_cases hk : a = k
    · exact ⟨o, by rw [if_pos (by first | exact hk | exact hk.symm)], hq _ List.mem_cons_self, h.1 hk⟩
    · obtain ⟨o2, g1, g2⟩ := ih (h.2 hk) h0 (fun z hz => hq z (List.mem_cons_of_mem _ hz))
      exact ⟨o2, by rw [if_neg (by first | exact hk | exact (fun z => hk z.symm))]; exact g1, g2⟩
section SP
variable {G : AG} {ad : Nat → Nat} {cA : Nat → ClassId} {nc ns nm ncl : Nat} {D : va_G} {cl : List vw_C}
variable {cn : Nat → String} {yn : Nat → MethodName} {bc : Nat → ByteArray} {tf : Nat → u_T × Nat × (Nat → FieldType)} {AW AN : List Cond}
variable {zs : List ((String × String × String) × Nat)} {sk : Nat → String × Nat × String} {XS : State → Heap → Prop}
variable {p : Program} {l : Launch} {e : Env} {s : State} {m : MethodId} {args : Array Value} {below : List Frame} {meth : Method} {c : Code} {H : Heap} {locs : List Loc} {lsC : Array Slot} {d y : Nat} {Q : Option AV → AM → Prop}
/-- the walk's goal -/
abbrev aWl (G : AG) (ad : Nat → Nat) (cA : Nat → ClassId) (nc ns : Nat) (D : va_G) (cl : List vw_C) (d : Nat) (Q : Option AV → AM → Prop) (p : Program) (l : Launch) (e : Env) (s : State) (m : MethodId) (args : Array Value) (below : List Frame) (meth : Method) (c : Code) (H : Heap) (locs : List Loc) (lsC : Array Slot) (pc : Nat) (st : List Value) : Prop :=
  W p l e (aRoom d) s m args below meth c H locs 0 0 (MQ below (aQc G ad cA nc ns D cl Q) args s 0 0 (aF ad nc)) (F0 m pc lsC st)
/-- the next places of the walk are known -/
abbrev aIH (G : AG) (ad : Nat → Nat) (cA : Nat → ClassId) (nc ns nm ncl : Nat) (D : va_G) (cl : List vw_C) (cn : Nat → String) (yn : Nat → MethodName) (bc : Nat → ByteArray) (tf : Nat → u_T × Nat × (Nat → FieldType)) (AW AN : List Cond) (zs : List ((String × String × String) × Nat)) (sk : Nat → String × Nat × String) (d y : Nat) (Q : Option AV → AM → Prop) (p : Program) (l : Launch) (e : Env) (s : State) (m : MethodId) (args : Array Value) (below : List Frame) (meth : Method) (c : Code) (nx : Nat → AB → AL → List AV → AM → Prop) : Prop :=
  ∀ pc rs ls st M, nx pc rs ls st M → okL G ns nm ncl cn yn bc tf AW AN zs sk y pc rs → ∀ H locs lsC, aInv G ad cA nc ns D cl y ls st M s H locs lsC → aWl G ad cA nc ns D cl d Q p l e s m args below meth c H locs lsC pc (st.map (acv G ad))
theorem a_jump {pc : Nat} {o : Int} (h : 0 ≤ (pc : Int) + o) : (pc : Int) + o = ((((pc : Int) + o).toNat : Nat) : Int) := (Int.toNat_of_nonneg h).symm
set_option maxHeartbeats 4000000 in
/-- instructions that leave the heap alone -/
theorem a_step_l {run : Nat → List AV → AM → (Option AV → AM → Prop) → Prop} {nx : Nat → AB → AL → List AV → AM → Prop} {pc : Nat} {ins : Jvm.ClassFile.Instr} {x : AX} {rs : AB} {ls : AL} {st : List AV} {M : AM}
    (hC : aCtx G ad cA nc ns D cl cn bc AW AN zs sk XS d y p s m args meth c) (hI : aInv G ad cA nc ns D cl y ls st M s H locs lsC)
    (hD : okD bc y pc ins) (hJ : okJ pc ins) (hO : okI G ns nm ncl cn yn tf AW AN zs sk y ins x) (hrs : okL G ns nm ncl cn yn bc tf AW AN zs sk y (pc + a_len ins) rs)
    (IH : aIH G ad cA nc ns nm ncl D cl cn yn bc tf AW AN zs sk d y Q p l e s m args below meth c nx)
    (hk : a_kl ins = true)
    (h : a_step G run nx (G.2.1 y).2.2.1 Q pc ins x rs ls st M) : aWl G ad cA nc ns D cl d Q p l e s m args below meth c H locs lsC pc (st.map (acv G ad)) := by
  obtain ⟨hx, hb, hr, hml, hown, hts, hlk, hX⟩ := id hC
  obtain ⟨hL, hst, hls, hM, hP, hS⟩ := id hI
  unfold a_step at h
  cases ins
  case iconst n => exact lv_iconst (v := Int32.ofInt n) hx hb hD rfl (IH _ _ _ _ _ h hrs _ _ _ ⟨hL, a_stc hO hst, hls, hM, hP, hS⟩)
  case bipush n => exact lv_bipush (v := Int32.ofInt n) hx hb hD (a_i8 hO) (IH _ _ _ _ _ h hrs _ _ _ ⟨hL, a_stc ⟨by have := hO.1; omega, by have := hO.2; omega⟩ hst, hls, hM, hP, hS⟩)
  case sipush n => exact lv_sipush (v := Int32.ofInt n) hx hb hD (a_i16 hO) (IH _ _ _ _ _ h hrs _ _ _ ⟨hL, a_stc ⟨by have := hO.1; omega, by have := hO.2; omega⟩ hst, hls, hM, hP, hS⟩)
  case lconst n => exact lv_lconst (v := Int64.ofInt (n : Nat)) hx hb hD (by match n with | 0 => rfl | 1 => rfl) (IH _ _ _ _ _ h hrs _ _ _ ⟨hL, a_stc ⟨by omega, by omega⟩ hst, hls, hM, hP, hS⟩)
  case ldc_w i => exact lv_ldcw hx hb hown (hts _ hO.2) hD (IH _ _ _ _ _ h hrs _ _ _ ⟨hL, a_stc hO.1 hst, hls, hM, hP, hS⟩)
  case ldc2_w i => exact lv_ldc2 hx hb hown (hts _ hO.2) hD (IH _ _ _ _ _ h hrs _ _ _ ⟨hL, a_stc hO.1 hst, hls, hM, hP, hS⟩)
  case iload_n k =>
    dsimp only at h
    split at h
    next z ez => exact lv_iload_n hx hb hD rfl (hL.2.2 _ _ ez) (IH _ _ _ _ _ h hrs _ _ _ ⟨hL, a_stc (hls _ (List.mem_of_getElem? ez)) hst, hls, hM, hP, hS⟩)
    next => exact h.elim
  case iload k =>
    dsimp only at h
    split at h
    next z ez => exact lv_iload hx hb hD (hL.2.2 _ _ ez) (IH _ _ _ _ _ h hrs _ _ _ ⟨hL, a_stc (hls _ (List.mem_of_getElem? ez)) hst, hls, hM, hP, hS⟩)
    next => exact h.elim
  case lload_n k =>
    dsimp only at h
    split at h
    next z ez => exact lv_lload_n hx hb hD rfl (hL.2.2 _ _ ez) (IH _ _ _ _ _ h hrs _ _ _ ⟨hL, a_stc (hls _ (List.mem_of_getElem? ez)) hst, hls, hM, hP, hS⟩)
    next => exact h.elim
  case lload k =>
    dsimp only at h
    split at h
    next z ez => exact lv_lload hx hb hD (hL.2.2 _ _ ez) (IH _ _ _ _ _ h hrs _ _ _ ⟨hL, a_stc (hls _ (List.mem_of_getElem? ez)) hst, hls, hM, hP, hS⟩)
    next => exact h.elim
  case aload_n k =>
    dsimp only at h
    split at h
    next v ez =>
      have k1 := IH _ _ _ _ _ h hrs _ _ _ ⟨hL, a_stc (hls _ (List.mem_of_getElem? ez)) hst, hls, hM, hP, hS⟩
      have k2 := hL.2.2 _ _ ez
      rcases v with a | ⟨a, i⟩ | a <;> exact lv_aload_n hx hb hD rfl k2 k1
    next => exact h.elim
  case aload k =>
    dsimp only at h
    split at h
    next v ez =>
      have k1 := IH _ _ _ _ _ h hrs _ _ _ ⟨hL, a_stc (hls _ (List.mem_of_getElem? ez)) hst, hls, hM, hP, hS⟩
      have k2 := hL.2.2 _ _ ez
      rcases v with a | ⟨a, i⟩ | a <;> exact lv_aload hx hb hD k2 k1
    next => exact h.elim
  case istore_n k =>
    dsimp only at h
    split at h
    next z st => exact lv_istore_n hx hb hD rfl (al_has hL) hO rfl (fun lsC' h' => IH _ _ _ _ _ h hrs _ _ _ ⟨al_store1 (v := aI z) h', (a_st1 hst).2, al_set1_ok hls (a_st1 hst).1, hM, hP, hS⟩)
    next => exact h.elim
  case istore k =>
    dsimp only at h
    split at h
    next z st => exact lv_istore hx hb hD (al_has hL) hO rfl (fun lsC' h' => IH _ _ _ _ _ h hrs _ _ _ ⟨al_store1 (v := aI z) h', (a_st1 hst).2, al_set1_ok hls (a_st1 hst).1, hM, hP, hS⟩)
    next => exact h.elim
  case lstore_n k =>
    dsimp only at h
    split at h
    next z st => exact lv_lstore_n hx hb hD rfl (al_has hL) hO rfl (fun lsC' h' => IH _ _ _ _ _ h hrs _ _ _ ⟨al_store2 (v := aL z) h', (a_st1 hst).2, al_set2_ok hls (a_st1 hst).1, hM, hP, hS⟩)
    next => exact h.elim
  case lstore k =>
    dsimp only at h
    split at h
    next z st => exact lv_lstore hx hb hD (al_has hL) hO rfl (fun lsC' h' => IH _ _ _ _ _ h hrs _ _ _ ⟨al_store2 (v := aL z) h', (a_st1 hst).2, al_set2_ok hls (a_st1 hst).1, hM, hP, hS⟩)
    next => exact h.elim
  case astore_n k =>
    dsimp only at h
    split at h
    next v st =>
      rcases v with a | ⟨a, i⟩ | a
      · exact lv_astore_n hx hb hD rfl (al_has hL) hO rfl (fun lsC' h' => IH _ _ _ _ _ h hrs _ _ _ ⟨al_store1 (v := aP a) h', (a_st1 hst).2, al_set1_ok hls (a_st1 hst).1, hM, hP, hS⟩)
      · exact lv_astore_n hx hb hD rfl (al_has hL) hO rfl (fun lsC' h' => IH _ _ _ _ _ h hrs _ _ _ ⟨al_store1 (v := aR a i) h', (a_st1 hst).2, al_set1_ok hls (a_st1 hst).1, hM, hP, hS⟩)
      · exact lv_astore_n hx hb hD rfl (al_has hL) hO rfl (fun lsC' h' => IH _ _ _ _ _ h hrs _ _ _ ⟨al_store1 (v := aS a) h', (a_st1 hst).2, al_set1_ok hls (a_st1 hst).1, hM, hP, hS⟩)
    next => exact h.elim
  case astore k =>
    dsimp only at h
    split at h
    next v st =>
      rcases v with a | ⟨a, i⟩ | a
      · exact lv_astore hx hb hD (al_has hL) hO rfl (fun lsC' h' => IH _ _ _ _ _ h hrs _ _ _ ⟨al_store1 (v := aP a) h', (a_st1 hst).2, al_set1_ok hls (a_st1 hst).1, hM, hP, hS⟩)
      · exact lv_astore hx hb hD (al_has hL) hO rfl (fun lsC' h' => IH _ _ _ _ _ h hrs _ _ _ ⟨al_store1 (v := aR a i) h', (a_st1 hst).2, al_set1_ok hls (a_st1 hst).1, hM, hP, hS⟩)
      · exact lv_astore hx hb hD (al_has hL) hO rfl (fun lsC' h' => IH _ _ _ _ _ h hrs _ _ _ ⟨al_store1 (v := aS a) h', (a_st1 hst).2, al_set1_ok hls (a_st1 hst).1, hM, hP, hS⟩)
    next => exact h.elim
  case iinc k n =>
    dsimp only at h
    split at h
    next z ez =>
      obtain ⟨j, hj⟩ := List.getElem?_of_mem (al_mem (cv := acv G ad).mpr ⟨_, ez, rfl⟩)
      exact lv_iinc (v := Int32.ofInt (a_add z n)) hx hb hD (al_has hL) hj (a32_o _).symm hO.2 rfl (fun lsC' h' => IH _ _ _ _ _ h hrs _ _ _ ⟨al_store1 (v := aI (a_add z n)) h', hst, al_set1_ok hls (aR32_of _), hM, hP, hS⟩)
    next => exact h.elim
  case dup =>
    dsimp only at h
    split at h
    next v st =>
      obtain ⟨h1, h⟩ := a_cond h
      exact lv_dup hx hb hD ((acv_catN v).trans (Nat.eq_of_beq_eq_true h1)) (IH _ _ _ _ _ h hrs _ _ _ ⟨hL, a_stc (a_st1 hst).1 hst, hls, hM, hP, hS⟩)
    next => exact h.elim
  case dup_x1 =>
    dsimp only at h
    split at h
    next v w st =>
      obtain ⟨h1, h⟩ := a_cond h
      rw [Bool.and_eq_true] at h1
      exact lv_dup_x1 hx hb hD ((acv_catN v).trans (Nat.eq_of_beq_eq_true h1.1)) ((acv_catN w).trans (Nat.eq_of_beq_eq_true h1.2)) (IH _ _ _ _ _ h hrs _ _ _ ⟨hL, a_stc (a_st1 hst).1 (a_stc (a_st1 (a_st1 hst).2).1 (a_stc (a_st1 hst).1 (a_st1 (a_st1 hst).2).2)), hls, hM, hP, hS⟩)
    next => exact h.elim
  case dup2 =>
    dsimp only at h
    split at h
    next v w st =>
      obtain ⟨h1, h⟩ := a_cond h
      rw [Bool.and_eq_true] at h1
      exact lv_dup2_11 hx hb hD ((acv_catN v).trans (Nat.eq_of_beq_eq_true h1.1)) ((acv_catN w).trans (Nat.eq_of_beq_eq_true h1.2)) (IH _ _ _ _ _ h hrs _ _ _ ⟨hL, a_stc (a_st1 hst).1 (a_stc (a_st1 (a_st1 hst).2).1 hst), hls, hM, hP, hS⟩)
    next => exact h.elim
  case pop =>
    dsimp only at h
    split at h
    next v st =>
      obtain ⟨h1, h⟩ := a_cond h
      exact lv_pop hx hb hD ((acv_catN v).trans (Nat.eq_of_beq_eq_true h1)) (IH _ _ _ _ _ h hrs _ _ _ ⟨hL, (a_st1 hst).2, hls, hM, hP, hS⟩)
    next => exact h.elim
  case ineg =>
    dsimp only at h
    split at h
    next a st => exact lv_ineg hx hb hD (a_top (a32_o _) (IH _ _ _ _ _ h hrs _ _ _ ⟨hL, a_stc (aR32_of _) (a_st1 hst).2, hls, hM, hP, hS⟩))
    next => exact h.elim
  case idiv =>
    dsimp only at h
    split at h
    next b a st =>
      exact lv_idiv hx hb hD (fun q => h.1 ((a32_eq (a_st1 hst).1 ⟨by decide, by decide⟩).mp q)) (a_top (a32_o _) (IH _ _ _ _ _ h.2 hrs _ _ _ ⟨hL, a_stc (aR32_of _) (a_st1 (a_st1 hst).2).2, hls, hM, hP, hS⟩))
    next => exact h.elim
  case irem =>
    dsimp only at h
    split at h
    next b a st =>
      exact lv_irem hx hb hD (fun q => h.1 ((a32_eq (a_st1 hst).1 ⟨by decide, by decide⟩).mp q)) (a_top (a32_o _) (IH _ _ _ _ _ h.2 hrs _ _ _ ⟨hL, a_stc (aR32_of _) (a_st1 (a_st1 hst).2).2, hls, hM, hP, hS⟩))
    next => exact h.elim
  case i2l =>
    dsimp only at h
    split at h
    next a st =>
      have ha := (a_st1 hst).1
      exact lv_i2l (v := Int64.ofInt a) hx hb hD (a_w64 ha) (IH _ _ _ _ _ h hrs _ _ _ ⟨hL, a_stc ⟨by have := ha.1; omega, by have := ha.2; omega⟩ (a_st1 hst).2, hls, hM, hP, hS⟩)
    next => exact h.elim
  case l2i =>
    dsimp only at h
    split at h
    next a st => exact lv_l2i hx hb hD (a32_o _).symm (IH _ _ _ _ _ h hrs _ _ _ ⟨hL, a_stc (aR32_of _) (a_st1 hst).2, hls, hM, hP, hS⟩)
    next => exact h.elim
  case i2c =>
    dsimp only at h
    split at h
    next a st => exact lv_i2c hx hb hD (a32_o _).symm (IH _ _ _ _ _ h hrs _ _ _ ⟨hL, a_stc (aR32_of _) (a_st1 hst).2, hls, hM, hP, hS⟩)
    next => exact h.elim
  case lcmp =>
    dsimp only at h
    split at h
    next b a st =>
      exact W.lcmp hx hb hD (a_top (a_lgc (a_st1 (a_st1 hst).2).1 (a_st1 hst).1) (IH _ _ _ _ _ h hrs _ _ _ ⟨hL, a_stc (a_cmpR a b) (a_st1 (a_st1 hst).2).2, hls, hM, hP, hS⟩))
    next => exact h.elim
  case goto o => exact lv_goto hx hb hD (a_jump hJ) (IH _ _ _ _ _ h trivial _ _ _ ⟨hL, hst, hls, hM, hP, hS⟩)
  case if_icmp cc o =>
    dsimp only at h
    split at h
    next b a st =>
      have hb1 := (a_st1 hst).1
      have ha1 := (a_st1 (a_st1 hst).2).1
      have K1 := fun hh => IH ((pc : Int) + o).toNat [] ls st M hh trivial H locs lsC ⟨hL, (a_st1 (a_st1 hst).2).2, hls, hM, hP, hS⟩
      have K2 := fun hh => IH (pc + 3) rs ls st M hh hrs H locs lsC ⟨hL, (a_st1 (a_st1 hst).2).2, hls, hM, hP, hS⟩
      cases cc <;> dsimp only [a_cnd] at h
      · exact lv_icmp_eq hx hb hD (a_jump hJ) (fun q => K1 (h.1 ((a32_eq ha1 hb1).mp q))) (fun q => K2 (h.2 (fun z => q ((a32_eq ha1 hb1).mpr z))))
      · exact lv_icmp_ne hx hb hD (a_jump hJ) (fun q => K1 (h.1 (fun z => q ((a32_eq ha1 hb1).mpr z)))) (fun q => K2 (h.2 ((a32_eq ha1 hb1).mp q)))
      · exact lv_icmp_lt hx hb hD (a_jump hJ) (fun q => K1 (h.1 ((a32_lt ha1 hb1).mp q))) (fun q => K2 (h.2 (Int.not_lt.mp (fun z => q ((a32_lt ha1 hb1).mpr z)))))
      · exact lv_icmp_ge hx hb hD (a_jump hJ) (fun q => K1 (h.1 ((a32_le hb1 ha1).mp q))) (fun q => K2 (h.2 (Int.not_le.mp (fun z => q ((a32_le hb1 ha1).mpr z)))))
      · exact lv_icmp_gt hx hb hD (a_jump hJ) (fun q => K1 (h.1 ((a32_lt hb1 ha1).mp q))) (fun q => K2 (h.2 (Int.not_lt.mp (fun z => q ((a32_lt hb1 ha1).mpr z)))))
      · exact lv_icmp_le hx hb hD (a_jump hJ) (fun q => K1 (h.1 ((a32_le ha1 hb1).mp q))) (fun q => K2 (h.2 (Int.not_le.mp (fun z => q ((a32_le ha1 hb1).mpr z)))))
    next => exact h.elim
  case ifCond cc o =>
    dsimp only at h
    split at h
    next a st =>
      have hb1 : aR32 0 := ⟨by decide, by decide⟩
      have ha1 := (a_st1 hst).1
      have K1 := fun hh => IH ((pc : Int) + o).toNat [] ls st M hh trivial H locs lsC ⟨hL, (a_st1 hst).2, hls, hM, hP, hS⟩
      have K2 := fun hh => IH (pc + 3) rs ls st M hh hrs H locs lsC ⟨hL, (a_st1 hst).2, hls, hM, hP, hS⟩
      cases cc <;> dsimp only [a_cnd] at h
      · exact lv_if_eq hx hb hD (a_jump hJ) (fun q => K1 (h.1 ((a32_eq ha1 hb1).mp q))) (fun q => K2 (h.2 (fun z => q ((a32_eq ha1 hb1).mpr z))))
      · exact lv_if_ne hx hb hD (a_jump hJ) (fun q => K1 (h.1 (fun z => q ((a32_eq ha1 hb1).mpr z)))) (fun q => K2 (h.2 ((a32_eq ha1 hb1).mp q)))
      · exact lv_if_lt hx hb hD (a_jump hJ) (fun q => K1 (h.1 ((a32_lt ha1 hb1).mp q))) (fun q => K2 (h.2 (Int.not_lt.mp (fun z => q ((a32_lt ha1 hb1).mpr z)))))
      · exact lv_if_ge hx hb hD (a_jump hJ) (fun q => K1 (h.1 ((a32_le hb1 ha1).mp q))) (fun q => K2 (h.2 (Int.not_le.mp (fun z => q ((a32_le hb1 ha1).mpr z)))))
      · exact lv_if_gt hx hb hD (a_jump hJ) (fun q => K1 (h.1 ((a32_lt hb1 ha1).mp q))) (fun q => K2 (h.2 (Int.not_lt.mp (fun z => q ((a32_lt hb1 ha1).mpr z)))))
      · exact lv_if_le hx hb hD (a_jump hJ) (fun q => K1 (h.1 ((a32_le ha1 hb1).mp q))) (fun q => K2 (h.2 (Int.not_le.mp (fun z => q ((a32_le ha1 hb1).mpr z)))))
    next => exact h.elim
  case tableswitch d0 lo hi offs =>
    dsimp only at h
    split at h
    next a st =>
      obtain ⟨n, hD⟩ := hD
      have ha1 : (Int32.ofInt a).toInt = a := a32_t (a_st1 hst).1
      by_cases h1 : a < lo ∨ hi < a
      · exact lv_tableOut hx hb hD (by rw [ha1]; exact h1) (a_jump hJ.1) (IH _ _ _ _ _ (h.2 h1) trivial _ _ _ ⟨hL, (a_st1 hst).2, hls, hM, hP, hS⟩)
      · have hlt : (a - lo).toNat < offs.size := by have := hO.1; omega
        have hoff : offs[(a - lo).toNat]? = some offs[(a - lo).toNat] := by simp [hlt]
        refine lv_tableIn hx hb hD (by rw [ha1]; omega) (by rw [ha1]; omega) (off := offs[(a - lo).toNat]) (by rw [ha1]; exact hoff) (a_jump (hJ.2 _ (by simp))) ?_
        refine IH _ _ _ _ _ (a_tsw_at _ _ _ _ (a - lo).toNat _ _ h.1 (by simp [hlt]) (by omega)) trivial _ _ _ ⟨hL, (a_st1 hst).2, hls, hM, hP, hS⟩
    next => exact h.elim
  case lookupswitch d0 ps =>
    dsimp only at h
    split at h
    next a st =>
      obtain ⟨n, hD⟩ := hD
      have ha1 : (Int32.ofInt a).toInt = a := a32_t (a_st1 hst).1
      obtain ⟨o, g1, g2, g3⟩ := a_lsw_at _ pc a d0 ps.toList h hJ.1 hJ.2
      exact lv_lookup hx hb hD hO (by rw [ha1]; exact g1) (a_jump g2) (IH _ _ _ _ _ g3 trivial _ _ _ ⟨hL, (a_st1 hst).2, hls, hM, hP, hS⟩)
    next => exact h.elim
  case iadd =>
    dsimp only [a_bin, a_binL, a_shL] at h
    split at h
    next b a st => exact lv_iadd hx hb hD (a_top (a32_o _) (IH _ _ _ _ _ h hrs _ _ _ ⟨hL, a_stc (aR32_of _) (a_st1 (a_st1 hst).2).2, hls, hM, hP, hS⟩))
    next => exact h.elim
  case isub =>
    dsimp only [a_bin, a_binL, a_shL] at h
    split at h
    next b a st => exact lv_isub hx hb hD (a_top (a32_o _) (IH _ _ _ _ _ h hrs _ _ _ ⟨hL, a_stc (aR32_of _) (a_st1 (a_st1 hst).2).2, hls, hM, hP, hS⟩))
    next => exact h.elim
  case imul =>
    dsimp only [a_bin, a_binL, a_shL] at h
    split at h
    next b a st => exact lv_imul hx hb hD (a_top (a32_o _) (IH _ _ _ _ _ h hrs _ _ _ ⟨hL, a_stc (aR32_of _) (a_st1 (a_st1 hst).2).2, hls, hM, hP, hS⟩))
    next => exact h.elim
  case iand =>
    dsimp only [a_bin, a_binL, a_shL] at h
    split at h
    next b a st => exact lv_iand hx hb hD (a_top (a32_o _) (IH _ _ _ _ _ h hrs _ _ _ ⟨hL, a_stc (aR32_of _) (a_st1 (a_st1 hst).2).2, hls, hM, hP, hS⟩))
    next => exact h.elim
  case ior =>
    dsimp only [a_bin, a_binL, a_shL] at h
    split at h
    next b a st => exact lv_ior hx hb hD (a_top (a32_o _) (IH _ _ _ _ _ h hrs _ _ _ ⟨hL, a_stc (aR32_of _) (a_st1 (a_st1 hst).2).2, hls, hM, hP, hS⟩))
    next => exact h.elim
  case ixor =>
    dsimp only [a_bin, a_binL, a_shL] at h
    split at h
    next b a st => exact lv_ixor hx hb hD (a_top (a32_o _) (IH _ _ _ _ _ h hrs _ _ _ ⟨hL, a_stc (aR32_of _) (a_st1 (a_st1 hst).2).2, hls, hM, hP, hS⟩))
    next => exact h.elim
  case ishl =>
    dsimp only [a_bin, a_binL, a_shL] at h
    split at h
    next b a st => exact lv_ishl hx hb hD (a_top (a32_o _) (IH _ _ _ _ _ h hrs _ _ _ ⟨hL, a_stc (aR32_of _) (a_st1 (a_st1 hst).2).2, hls, hM, hP, hS⟩))
    next => exact h.elim
  case ishr =>
    dsimp only [a_bin, a_binL, a_shL] at h
    split at h
    next b a st => exact lv_ishr hx hb hD (a_top (a32_o _) (IH _ _ _ _ _ h hrs _ _ _ ⟨hL, a_stc (aR32_of _) (a_st1 (a_st1 hst).2).2, hls, hM, hP, hS⟩))
    next => exact h.elim
  case ladd =>
    dsimp only [a_bin, a_binL, a_shL] at h
    split at h
    next b a st => exact lv_ladd hx hb hD (a_topL (a64_o _) (IH _ _ _ _ _ h hrs _ _ _ ⟨hL, a_stc (aR64_of _) (a_st1 (a_st1 hst).2).2, hls, hM, hP, hS⟩))
    next => exact h.elim
  case lsub =>
    dsimp only [a_bin, a_binL, a_shL] at h
    split at h
    next b a st => exact lv_lsub hx hb hD (a_topL (a64_o _) (IH _ _ _ _ _ h hrs _ _ _ ⟨hL, a_stc (aR64_of _) (a_st1 (a_st1 hst).2).2, hls, hM, hP, hS⟩))
    next => exact h.elim
  case land =>
    dsimp only [a_bin, a_binL, a_shL] at h
    split at h
    next b a st => exact lv_land hx hb hD (a_topL (a64_o _) (IH _ _ _ _ _ h hrs _ _ _ ⟨hL, a_stc (aR64_of _) (a_st1 (a_st1 hst).2).2, hls, hM, hP, hS⟩))
    next => exact h.elim
  case lor =>
    dsimp only [a_bin, a_binL, a_shL] at h
    split at h
    next b a st => exact lv_lor hx hb hD (a_topL (a64_o _) (IH _ _ _ _ _ h hrs _ _ _ ⟨hL, a_stc (aR64_of _) (a_st1 (a_st1 hst).2).2, hls, hM, hP, hS⟩))
    next => exact h.elim
  case lxor =>
    dsimp only [a_bin, a_binL, a_shL] at h
    split at h
    next b a st => exact lv_lxor hx hb hD (a_topL (a64_o _) (IH _ _ _ _ _ h hrs _ _ _ ⟨hL, a_stc (aR64_of _) (a_st1 (a_st1 hst).2).2, hls, hM, hP, hS⟩))
    next => exact h.elim
  case iushr =>
    dsimp only [a_bin, a_binL, a_shL] at h
    split at h
    next b a st => exact lv_iushr hx hb hD (a32_o _).symm (IH _ _ _ _ _ h hrs _ _ _ ⟨hL, a_stc (aR32_of _) (a_st1 (a_st1 hst).2).2, hls, hM, hP, hS⟩)
    next => exact h.elim
  case lshl =>
    dsimp only [a_bin, a_binL, a_shL] at h
    split at h
    next b a st => exact lv_lshl hx hb hD (a64_o _).symm (IH _ _ _ _ _ h hrs _ _ _ ⟨hL, a_stc (aR64_of _) (a_st1 (a_st1 hst).2).2, hls, hM, hP, hS⟩)
    next => exact h.elim
  case lshr =>
    dsimp only [a_bin, a_binL, a_shL] at h
    split at h
    next b a st => exact lv_lshr hx hb hD (a64_o _).symm (IH _ _ _ _ _ h hrs _ _ _ ⟨hL, a_stc (aR64_of _) (a_st1 (a_st1 hst).2).2, hls, hM, hP, hS⟩)
    next => exact h.elim
  case lushr =>
    dsimp only [a_bin, a_binL, a_shL] at h
    split at h
    next b a st => exact lv_lushr hx hb hD (a64_o _).symm (IH _ _ _ _ _ h hrs _ _ _ ⟨hL, a_stc (aR64_of _) (a_st1 (a_st1 hst).2).2, hls, hM, hP, hS⟩)
    next => exact h.elim
  all_goals first | exact (Bool.noConfusion hk) | exact h.elim
end SP
end
section
/-! THE ABSTRACT MACHINE IS SOUND: instructions over the heap, ends. -/
theorem a_ix {i : Int} {n : Nat} (h : 0 ≤ i ∧ i < n) (hr : aR32 i) : vp_in (Int32.ofInt i) n := (a32_ix h.1 h.2 hr).1
theorem a_ixn {i : Int} {n : Nat} (h : 0 ≤ i ∧ i < n) (hr : aR32 i) : (Int32.ofInt i).toNatClampNeg = i.toNat := (a32_ix h.1 h.2 hr).2
theorem a_tn {i : Int} (h : 0 ≤ i) : ((i.toNat : Nat) : Int) = i := Int.toNat_of_nonneg h
theorem a_nch {z : Int} (h : 0 ≤ z ∧ z < 65536) : narrow .char (.int (Int32.ofInt z)) = .int (Int32.ofInt z) ∧ fits .char (.int (Int32.ofInt z)) = true ∧ vp_nar .char (Int32.ofInt z) = Int32.ofInt z := by
  have e : Int32.ofInt z = nI z.toNat := by
    unfold nI
    apply Int32.toInt_inj.mp
    rw [a32_t ⟨by omega, by omega⟩, Int32.toInt_ofNat_of_lt (by omega)]
    omega
  rw [e]
  obtain ⟨h1, h2⟩ := pk_charN (q := z.toNat) (by omega)
  refine ⟨h1, h2, ?_⟩
  unfold vp_nar
  rw [h1]
section AALD
variable {p : Program} {l : Launch} {e : Env} {R : Room} {s : State} {m : MethodId} {args : Array Value} {below : List Frame} {meth : Method} {c : Code} {H : Heap} {locs : List Loc} {cells slots : Nat} {Q : State → Prop}
variable {cc : ByteArray} {pc : Nat} {ls : Array Slot} {rest : List Value} {D : va_G} {cl : List vw_C} {a : Nat} {tys : List (ClassId × FieldType)} {ws : va_W}
/-- a row out of an array of rows -/
theorem a_aald (hexec : p.tables.exec = Jvm.exec) (hb : c.code = cc) (hK : va_K D cl tys s) (hP : va_P D cl ws H) (q0 t0 : Nat) {cA : ClassId} {ty : FieldType} {n : Nat} {f : Nat → Option Nat} (ha : ws[q0]? = some (a, .inl (cA, n, .inr (.inr (.inr (.inr f)))))) (ht : tys[t0]? = some (cA, .array ty)) {i : Int32} (hin : vp_in i n) (hdg : decode cc pc = .ok (.aaload, 1))
    (kk : W p l e R s m args below meth c H locs cells slots Q (F0 m (pc + 1) ls (va_rf (f i.toNatClampNeg) :: rest))) : W p l e R s m args below meth c H locs cells slots Q (F0 m pc ls (.int i :: .ref a :: rest)) := by
  have hlt : i.toNatClampNeg < n := Nat.not_le.mp fun q => hin (Or.inr q)
  exact W.aald (v := va_rf (f i.toNatClampNeg)) (ty := .array ty) hexec hb (hP q0 _ ha) ((hK.2 t0 _ ht).1 n (fun j => va_rf (f j))) rfl (fun q => by cases q) (by show ¬ (i < 0 ∨ (arrV _ _ _).slots.size ≤ _); rw [arrV_size]; exact hin) (by show (arrV _ _ _).slots[_]? = _; rw [arrV_read _ _ hlt]) rfl rfl hdg kk
end AALD
section SH
variable {G : AG} {ad : Nat → Nat} {cA : Nat → ClassId} {nc ns nm ncl : Nat} {D : va_G} {cl : List vw_C}
variable {cn : Nat → String} {yn : Nat → MethodName} {bc : Nat → ByteArray} {tf : Nat → u_T × Nat × (Nat → FieldType)} {AW AN : List Cond}
variable {zs : List ((String × String × String) × Nat)} {sk : Nat → String × Nat × String} {XS : State → Heap → Prop}
variable {p : Program} {l : Launch} {e : Env} {s : State} {m : MethodId} {args : Array Value} {below : List Frame} {meth : Method} {c : Code} {H : Heap} {locs : List Loc} {lsC : Array Slot} {d y : Nat} {Q : Option AV → AM → Prop}
theorem aw_putA {M : AM} {k t n : Nat} {i z : Int} (hG : aGW G nc) (hk : G.1 k = kA t n) (ht : t ≠ 3) (hi : 0 ≤ i) : (aw G ad cA nc M).set k (ad k, .inl (cA t, n, .inl (upd (fun j => Int32.ofInt (M k j)) i.toNat (Int32.ofInt z)))) = aw G ad cA nc (am_up M k i z) := by
  rw [aw_set (q := k) (fun q' _ hq => aw_other hG (fun a b c x => by rw [hk] at x; cases x) hq), aw_eA hk ht]
  refine congrArg (fun f => (aw G ad cA nc M).set k (ad k, .inl (cA t, n, .inl f))) (funext fun j => ?_)
  by_cases hj : j = i.toNat
  · subst hj; simp [upd, am_up, a_tn hi]
  · have : ¬ (j : Int) = i := by omega
    simp [upd, am_up, hj, this]
theorem aw_putL {M : AM} {k n : Nat} {i z : Int} (hG : aGW G nc) (hk : G.1 k = kA 3 n) (hi : 0 ≤ i) : (aw G ad cA nc M).set k (ad k, .inl (cA 3, n, .inr (.inl (vp_updL (fun j => Int64.ofInt (M k j)) i.toNat (Int64.ofInt z))))) = aw G ad cA nc (am_up M k i z) := by
  rw [aw_set (q := k) (fun q' _ hq => aw_other hG (fun a b c x => by rw [hk] at x; cases x) hq), aw_eL hk]
  refine congrArg (fun f => (aw G ad cA nc M).set k (ad k, .inl (cA 3, n, .inr (.inl f)))) (funext fun j => ?_)
  by_cases hj : j = i.toNat
  · subst hj; simp [vp_updL, am_up, a_tn hi]
  · have : ¬ (j : Int) = i := by omega
    simp [vp_updL, am_up, hj, this]
theorem aw_putR {M : AM} {k n len base : Nat} {r i z : Int} (hG : aGW G nc) (hk : G.1 k = kR n len base) (hr0 : 0 ≤ r) (hr1 : r < n) (hi : 0 ≤ i) (hi1 : i < len) : (aw G ad cA nc M).set (base + r.toNat) (ad (base + r.toNat), .inl (cA 0, len, .inl (upd (fun j => if j < len then Int32.ofInt (M k ((r.toNat : Nat) * len + j)) else 0) i.toNat (Int32.ofInt z)))) = aw G ad cA nc (am_up M k (r * len + i) z) := by
  obtain ⟨hb, hw⟩ := hG.2.1 k n len base hk r.toNat (by omega)
  have er : ((r.toNat : Nat) : Int) = r := a_tn hr0
  rw [aw_set (q := base + r.toNat) (fun q' _ hq => by have := aw_otherR (ad := ad) (cA := cA) (M := M) (z := z) hG hk (r := r.toNat) (by omega) hi hi1 hq; rw [er] at this; exact this), aw_eW hw]
  refine congrArg (fun f => (aw G ad cA nc M).set (base + r.toNat) (ad (base + r.toNat), .inl (cA 0, len, .inl f))) (funext fun j => ?_)
  by_cases hj : j = i.toNat
  · subst hj
    have : i.toNat < len := by omega
    simp [upd, am_up, er, a_tn hi, this]
  · have : ¬ (j : Int) = i := by omega
    simp [upd, am_up, er, hj, this]
theorem aw_putO {M : AM} {k ci j : Nat} {fs : List Nat} {z : Int} (hG : aGW G nc) (hk : G.1 k = .inl (ci, fs)) (hf : fs[j]? = some 0 ∨ fs[j]? = some 1) : (aw G ad cA nc M).set k (ad k, .inr (ci, (aw_fv ad M k 0 fs).set j (.int (Int32.ofInt z)))) = aw G ad cA nc (am_up M k j z) := by
  rw [aw_set (q := k) (fun q' _ hq => aw_other hG (fun a b c x => by rw [hk] at x; cases x) hq), aw_eO hk]
  refine congrArg (fun f => (aw G ad cA nc M).set k (ad k, .inr (ci, f))) (List.ext_getElem? fun i => ?_)
  rw [List.getElem?_set, aw_fv_get, aw_fv_get, aw_fv_len]
  by_cases h : j = i
  · subst h
    have hl : j < fs.length := by rcases hf with hf | hf <;> exact (List.getElem?_eq_some_iff.mp hf).1
    rw [if_pos rfl, if_pos hl]
    rcases hf with hf | hf <;> simp [hf, am_up]
  · rw [if_neg h]
    have h2 : ¬ ((i : Nat) : Int) = (j : Int) := by omega
    split <;> simp [am_up, h2]
set_option maxHeartbeats 4000000 in
/-- instructions over the heap -/
theorem a_step_h {run : Nat → List AV → AM → (Option AV → AM → Prop) → Prop} {nx : Nat → AB → AL → List AV → AM → Prop} {pc : Nat} {ins : Jvm.ClassFile.Instr} {x : AX} {rs : AB} {ls : AL} {st : List AV} {M : AM}
    (hT : aTab G ad nc ns nm ncl cl cn yn bc tf AW AN zs sk XS)
    (hC : aCtx G ad cA nc ns D cl cn bc AW AN zs sk XS d y p s m args meth c) (hI : aInv G ad cA nc ns D cl y ls st M s H locs lsC)
    (hD : okD bc y pc ins) (hJ : okJ pc ins) (hO : okI G ns nm ncl cn yn tf AW AN zs sk y ins x) (hrs : okL G ns nm ncl cn yn bc tf AW AN zs sk y (pc + a_len ins) rs)
    (IH : aIH G ad cA nc ns nm ncl D cl cn yn bc tf AW AN zs sk d y Q p l e s m args below meth c nx)
    (hk : a_kh ins = true)
    (h : a_step G run nx (G.2.1 y).2.2.1 Q pc ins x rs ls st M) : aWl G ad cA nc ns D cl d Q p l e s m args below meth c H locs lsC pc (st.map (acv G ad)) := by
  obtain ⟨hx, hb, hr, hml, hown, hts, hlk, hX⟩ := id hC
  obtain ⟨hL, hst, hls, hM, hP, hS⟩ := id hI
  obtain ⟨hG, hadi, hcl, hKf, hMt, hgw, hAN, hblk, hXm, hXk⟩ := id hT
  have hDD := aD_of (G := G) (cA := cA) hadi M
  have hK := hX.1
  have t0 : (aTys cA)[0]? = some (cA 0, .int) := rfl
  have t1 : (aTys cA)[1]? = some (cA 1, .boolean) := rfl
  have t2 : (aTys cA)[2]? = some (cA 2, .char) := rfl
  have t3 : (aTys cA)[3]? = some (cA 3, .long) := rfl
  have t4 : (aTys cA)[4]? = some (cA 4, .array .int) := rfl
  unfold a_step at h
  cases ins
  case ldc i =>
    dsimp only at h
    split at h
    next z k => exact lv_ldc hx hb hown (hts _ hO.2) hD (IH _ _ _ _ _ h hrs _ _ _ ⟨hL, a_stc hO.1 hst, hls, hM, hP, hS⟩)
    next z k =>
      obtain ⟨o1, o2, o3⟩ := hO
      have hz := hX.2.2.2.2.1 k o1
      rw [o2, o3] at hz
      exact va_ldcS hx hb hown hz hD (IH _ _ _ _ _ h hrs _ _ _ ⟨hL, a_stc o1 hst, hls, hM, hP, hS⟩)
    next => exact h.elim
  case getfield i =>
    dsimp only at h
    split at h
    next q st =>
      split at h
      next ci fs eq =>
        replace h := a_cond h
        obtain ⟨h1, h⟩ := h
        have eci : ci = x.2.1 := Nat.eq_of_beq_eq_true h1
        subst eci
        obtain ⟨o1, o2, o3⟩ := hO
        obtain ⟨g1, g2, g3, g4⟩ := hcl _ o1
        have hq : q < nc := aw_in hG (fun cs x => by rw [eq] at x; cases x)
        have hv := aw_fv_get (ad := ad) (M := M) (q := q) fs 0 x.2.2
        unfold a_fld at h
        have he : (aw G ad cA nc M)[q]? = some (ad q, .inr (x.2.1, aw_fv ad M q 0 fs)) := by rw [aw_at hq, aw_eO eq]
        have nl : ∀ n, G.1 q ≠ kA 3 n := fun n x => by rw [eq] at x; cases x
        split at h
        next v ev =>
          split at ev
          next => cases ev
          next f0 =>
            cases ev
            rw [f0] at hv
            exact va_get hx hb hts g2 hown hK hP q he g1 x.2.2 o2 (hts _ o3) (fun _ z => z) hv hD (a_top (by rw [Nat.zero_add]) (IH _ _ _ _ _ h hrs _ _ _ ⟨hL, a_stc (aOKM_i hM nl _) (a_st1 hst).2, hls, hM, hP, hS⟩))
          next f0 =>
            cases ev
            rw [f0] at hv
            exact va_get hx hb hts g2 hown hK hP q he g1 x.2.2 o2 (hts _ o3) (fun _ z => z) hv hD (a_top (by rw [Nat.zero_add]) (IH _ _ _ _ _ h hrs _ _ _ ⟨hL, a_stc (aOKM_i hM nl _) (a_st1 hst).2, hls, hM, hP, hS⟩))
          next j f0 =>
            cases ev
            rw [f0] at hv
            exact va_get hx hb hts g2 hown hK hP q he g1 x.2.2 o2 (hts _ o3) (fun _ z => z) hv hD (IH _ _ _ _ _ h hrs _ _ _ ⟨hL, a_stc trivial (a_st1 hst).2, hls, hM, hP, hS⟩)
        next => exact h.elim
      next => exact h.elim
    next => exact h.elim
  case putfield i =>
    dsimp only at h
    split at h
    next z q st =>
      split at h
      next ci fs eq =>
        replace h := a_cond h
        obtain ⟨h1, h⟩ := h
        have eci : ci = x.2.1 := Nat.eq_of_beq_eq_true h1
        subst eci
        obtain ⟨⟨o1, o2, o3⟩, o4⟩ := hO
        obtain ⟨g1, g2, g3, g4⟩ := hcl _ o1
        obtain ⟨k1, k2, k3⟩ := hKf q _ fs eq
        have hq : q < nc := aw_in hG (fun cs x => by rw [eq] at x; cases x)
        have he : (aw G ad cA nc M)[q]? = some (ad q, .inr (x.2.1, aw_fv ad M q 0 fs)) := by rw [aw_at hq, aw_eO eq]
        have nl : ∀ n, G.1 q ≠ kA 3 n := fun n x => by rw [eq] at x; cases x
        have hz := (a_st1 hst).1
        split at h
        next f0 =>
          exact va_put hx hb hts g2 _ g3 g4 hown hK hP hDD hS q he g1 x.2.2 o2 (hts _ o3) (fun _ z => z) o4 (ty := .int) (by rw [g3 _ o2, (k3 x.2.2).1 f0]) rfl rfl (by rw [aw_fv_len, k2]; exact o2) hD (fun H1 locs1 a1 a2 a3 => IH _ _ _ _ _ h hrs _ _ _ ⟨hL, (a_st1 (a_st1 hst).2).2, hls, aOKM_upi hM nl hz, by rw [← aw_putO hG eq (Or.inl f0)]; exact a1, a3⟩)
        next f0 =>
          have hn : narrow .boolean (.int (Int32.ofInt z)) = .int (Int32.ofInt z) ∧ fits .boolean (.int (Int32.ofInt z)) = true := by rcases h.1 with h0 | h0 <;> rw [h0] <;> exact ⟨rfl, rfl⟩
          exact va_put hx hb hts g2 _ g3 g4 hown hK hP hDD hS q he g1 x.2.2 o2 (hts _ o3) (fun _ z => z) o4 (ty := .boolean) (by rw [g3 _ o2, (k3 x.2.2).2 f0]) hn.1 hn.2 (by rw [aw_fv_len, k2]; exact o2) hD (fun H1 locs1 a1 a2 a3 => IH _ _ _ _ _ h.2 hrs _ _ _ ⟨hL, (a_st1 (a_st1 hst).2).2, hls, aOKM_upi hM nl hz, by rw [← aw_putO hG eq (Or.inr f0)]; exact a1, a3⟩)
        next => exact h.elim
      next => exact h.elim
    next => exact h.elim
  case getstatic i =>
    obtain ⟨C, n, dd, o3, o4⟩ := hO
    exact va_gets hx hb (hX.2.2.1 _ o3) hS hown (hts _ o4) (fun _ z => z) hD (IH _ _ _ _ _ h hrs _ _ _ ⟨hL, a_stc trivial hst, hls, hM, hP, hS⟩)
  case arraylength =>
    dsimp only at h
    split at h
    next q st =>
      split at h
      next t n eq =>
        have hq : q < nc := aw_in hG (fun cs x => by rw [eq] at x; cases x)
        obtain ⟨w1, w2⟩ := hG.2.2.2.2 q t n eq
        have nn : aR32 (n : Int) := ⟨by omega, by omega⟩
        have en : Int32.ofNat n = Int32.ofInt (n : Int) := by first | rfl | simp
        rcases (show t = 3 ∨ t ≠ 3 by omega) with h3 | h3
        · subst h3
          exact va_alen hx hb hK hP q 3 (by rw [aw_at hq, aw_eL eq]) t3 en hD (IH _ _ _ _ _ h hrs _ _ _ ⟨hL, a_stc nn (a_st1 hst).2, hls, hM, hP, hS⟩)
        · have he : (aw G ad cA nc M)[q]? = some (ad q, .inl (cA t, n, .inl (fun j => Int32.ofInt (M q j)))) := by rw [aw_at hq, aw_eA eq h3]
          have k9 := IH _ _ _ _ _ h hrs H locs lsC ⟨hL, a_stc nn (a_st1 hst).2, hls, hM, hP, hS⟩
          rcases (show t = 0 ∨ t = 1 ∨ t = 2 by omega) with h0 | h0 | h0 <;> subst h0
          · exact va_alen hx hb hK hP q 0 he t0 en hD k9
          · exact va_alen hx hb hK hP q 1 he t1 en hD k9
          · exact va_alen hx hb hK hP q 2 he t2 en hD k9
      next => exact h.elim
    next => exact h.elim
  case iaload =>
    dsimp only at h
    split at h
    next i q st =>
      have hi := (a_st1 hst).1
      split at h
      next n eq =>
        have hq : q < nc := aw_in hG (fun cs x => by rw [eq] at x; cases x)
        have he : (aw G ad cA nc M)[q]? = some (ad q, .inl (cA 0, n, .inl (fun j => Int32.ofInt (M q j)))) := by rw [aw_at hq, aw_eA eq (by decide)]
        have nl : ∀ n, G.1 q ≠ kA 3 n := fun n x => by rw [eq] at x; cases x
        exact va_iald hx hb hK hP q 0 he t0 (a_ix h.1 hi) hD (a_top (by rw [a_ixn h.1 hi, a_tn h.1.1]) (IH _ _ _ _ _ h.2 hrs _ _ _ ⟨hL, a_stc (aOKM_i hM nl _) (a_st1 (a_st1 hst).2).2, hls, hM, hP, hS⟩))
      next cs eq =>
        have hz : aR32 (cs.getD i.toNat 0) := by
          have hl : i.toNat < cs.length := by have := h.1; omega
          rw [List.getD_eq_getElem?_getD, List.getElem?_eq_getElem hl]
          exact hG.2.2.2.1 q cs eq _ (List.getElem_mem hl)
        have hne : cs ≠ [] := fun x => by rw [x] at h; have := h.1; simp at this; omega
        exact va_ti hx hb (hX.2.1 q cs eq hne) hS (a_ix h.1 hi) (v := .int (Int32.ofInt (cs.getD i.toNat 0))) (by rw [a_ixn h.1 hi]) hD (IH _ _ _ _ _ h.2 hrs _ _ _ ⟨hL, a_stc hz (a_st1 (a_st1 hst).2).2, hls, hM, hP, hS⟩)
      next => exact h.elim
    next i q r st =>
      have hi := (a_st1 hst).1
      have hr := (a_st1 (a_st1 hst).2).1
      split at h
      next n len base eq =>
        obtain ⟨n', len', base', e1, e2, e3⟩ := hr
        rw [eq] at e1
        cases e1
        obtain ⟨hb2, hw⟩ := hG.2.1 q n len base eq r.toNat (by omega)
        have he : (aw G ad cA nc M)[base + r.toNat]? = some (ad (base + r.toNat), .inl (cA 0, len, .inl (fun j => if j < len then Int32.ofInt (M q ((r.toNat : Nat) * len + j)) else 0))) := by rw [aw_at hb2, aw_eW hw]
        have hrb : a_rb G q = base := by simp only [a_rb, eq]
        have nl : ∀ n, G.1 q ≠ kA 3 n := fun n x => by rw [eq] at x; cases x
        have k9 := va_iald hx hb hK hP (base + r.toNat) 0 he t0 (a_ix h.1 hi) hD (a_top (by rw [a_ixn h.1 hi, if_pos (by omega), a_tn h.1.1, a_tn e2]) (IH _ _ _ _ _ h.2 hrs _ _ _ ⟨hL, a_stc (aOKM_i hM nl _) (a_st1 (a_st1 hst).2).2, hls, hM, hP, hS⟩))
        simpa only [List.map_cons, acv, hrb] using k9
      next => exact h.elim
    next => exact h.elim
  case aaload =>
    dsimp only at h
    split at h
    next i q st =>
      have hi := (a_st1 hst).1
      split at h
      next n len base eq =>
        have hq : q < nc := aw_in hG (fun cs x => by rw [eq] at x; cases x)
        have he : (aw G ad cA nc M)[q]? = some (ad q, .inl (cA 4, n, .inr (.inr (.inr (.inr (fun i => if i < n then some (ad (base + i)) else none)))))) := by rw [aw_at hq, aw_eR eq]
        have hrb : a_rb G q = base := by simp only [a_rb, eq]
        have k9 := IH _ _ _ _ _ h.2 hrs H locs lsC ⟨hL, a_stc ⟨n, len, base, eq, h.1.1, h.1.2⟩ (a_st1 (a_st1 hst).2).2, hls, hM, hP, hS⟩
        refine a_aald hx hb hK hP q 4 he t4 (a_ix h.1 hi) hD ?_
        rw [a_ixn h.1 hi, if_pos (by have := h.1; omega)]
        simpa only [List.map_cons, acv, hrb, va_rf] using k9
      next => exact h.elim
    next => exact h.elim
  case baload =>
    dsimp only at h
    split at h
    next i q st =>
      have hi := (a_st1 hst).1
      split at h
      next n eq =>
        have hq : q < nc := aw_in hG (fun cs x => by rw [eq] at x; cases x)
        have he : (aw G ad cA nc M)[q]? = some (ad q, .inl (cA 1, n, .inl (fun j => Int32.ofInt (M q j)))) := by rw [aw_at hq, aw_eA eq (by decide)]
        have nl : ∀ n, G.1 q ≠ kA 3 n := fun n x => by rw [eq] at x; cases x
        exact va_zald hx hb hK hP q 1 he t1 (a_ix h.1 hi) hD (a_top (by rw [a_ixn h.1 hi, a_tn h.1.1]) (IH _ _ _ _ _ h.2 hrs _ _ _ ⟨hL, a_stc (aOKM_i hM nl _) (a_st1 (a_st1 hst).2).2, hls, hM, hP, hS⟩))
      next => exact h.elim
    next => exact h.elim
  case caload =>
    dsimp only at h
    split at h
    next i q st =>
      have hi := (a_st1 hst).1
      split at h
      next n eq =>
        have hq : q < nc := aw_in hG (fun cs x => by rw [eq] at x; cases x)
        have he : (aw G ad cA nc M)[q]? = some (ad q, .inl (cA 2, n, .inl (fun j => Int32.ofInt (M q j)))) := by rw [aw_at hq, aw_eA eq (by decide)]
        have nl : ∀ n, G.1 q ≠ kA 3 n := fun n x => by rw [eq] at x; cases x
        exact va_cald hx hb hK hP q 2 he t2 (a_ix h.1 hi) hD (a_top (by rw [a_ixn h.1 hi, a_tn h.1.1]) (IH _ _ _ _ _ h.2 hrs _ _ _ ⟨hL, a_stc (aOKM_i hM nl _) (a_st1 (a_st1 hst).2).2, hls, hM, hP, hS⟩))
      next => exact h.elim
    next => exact h.elim
  case laload =>
    dsimp only at h
    split at h
    next i q st =>
      have hi := (a_st1 hst).1
      split at h
      next n eq =>
        have hq : q < nc := aw_in hG (fun cs x => by rw [eq] at x; cases x)
        have he : (aw G ad cA nc M)[q]? = some (ad q, .inl (cA 3, n, .inr (.inl (fun j => Int64.ofInt (M q j))))) := by rw [aw_at hq, aw_eL eq]
        exact va_lald hx hb hK hP q 3 he t3 (a_ix h.1 hi) hD (a_topL (by rw [a_ixn h.1 hi, a_tn h.1.1]) (IH _ _ _ _ _ h.2 hrs _ _ _ ⟨hL, a_stc (aOKM_l hM eq _) (a_st1 (a_st1 hst).2).2, hls, hM, hP, hS⟩))
      next => exact h.elim
    next => exact h.elim
  case iastore =>
    dsimp only at h
    split at h
    next z i q st =>
      have hz := (a_st1 hst).1
      have hi := (a_st1 (a_st1 hst).2).1
      split at h
      next n eq =>
        have hq : q < nc := aw_in hG (fun cs x => by rw [eq] at x; cases x)
        have he : (aw G ad cA nc M)[q]? = some (ad q, .inl (cA 0, n, .inl (fun j => Int32.ofInt (M q j)))) := by rw [aw_at hq, aw_eA eq (by decide)]
        have nl : ∀ n, G.1 q ≠ kA 3 n := fun n x => by rw [eq] at x; cases x
        exact va_iast hx hb hK hP hDD hS q 0 he t0 (a_ix h.1 hi) hD (fun H1 locs1 a1 a2 a3 => IH _ _ _ _ _ h.2 hrs _ _ _ ⟨hL, (a_st1 (a_st1 (a_st1 hst).2).2).2, hls, aOKM_upi hM nl hz, by rw [← aw_putA hG eq (by decide) h.1.1, ← a_ixn h.1 hi]; exact a1, a3⟩)
      next => exact h.elim
    next z i q r st =>
      have hz := (a_st1 hst).1
      have hi := (a_st1 (a_st1 hst).2).1
      have hr := (a_st1 (a_st1 (a_st1 hst).2).2).1
      split at h
      next n len base eq =>
        obtain ⟨n', len', base', e1, e2, e3⟩ := hr
        rw [eq] at e1
        cases e1
        obtain ⟨hb2, hw⟩ := hG.2.1 q n len base eq r.toNat (by omega)
        have he : (aw G ad cA nc M)[base + r.toNat]? = some (ad (base + r.toNat), .inl (cA 0, len, .inl (fun j => if j < len then Int32.ofInt (M q ((r.toNat : Nat) * len + j)) else 0))) := by rw [aw_at hb2, aw_eW hw]
        have hrb : a_rb G q = base := by simp only [a_rb, eq]
        have nl : ∀ n, G.1 q ≠ kA 3 n := fun n x => by rw [eq] at x; cases x
        have k9 := va_iast (x := Int32.ofInt z) hx hb hK hP hDD hS (base + r.toNat) 0 he t0 (a_ix h.1 hi) hD (fun H1 locs1 a1 a2 a3 => IH _ _ _ _ _ h.2 hrs H1 locs1 lsC ⟨hL, (a_st1 (a_st1 (a_st1 hst).2).2).2, hls, aOKM_upi hM nl hz, by rw [← aw_putR hG eq e2 e3 h.1.1 h.1.2, ← a_ixn h.1 hi]; exact a1, a3⟩)
        simpa only [List.map_cons, acv, hrb] using k9
      next => exact h.elim
    next => exact h.elim
  case bastore =>
    dsimp only at h
    split at h
    next z i q st =>
      have hz := (a_st1 hst).1
      have hi := (a_st1 (a_st1 hst).2).1
      split at h
      next n eq =>
        have hq : q < nc := aw_in hG (fun cs x => by rw [eq] at x; cases x)
        have he : (aw G ad cA nc M)[q]? = some (ad q, .inl (cA 1, n, .inl (fun j => Int32.ofInt (M q j)))) := by rw [aw_at hq, aw_eA eq (by decide)]
        have nl : ∀ n, G.1 q ≠ kA 3 n := fun n x => by rw [eq] at x; cases x
        have hn : vp_nar .boolean (Int32.ofInt z) = Int32.ofInt z := by rcases h.2.1 with h0 | h0 <;> rw [h0] <;> rfl
        exact va_zast hx hb hK hP hDD hS q 1 he t1 (a_ix h.1 hi) hD (fun H1 locs1 a1 a2 a3 => IH _ _ _ _ _ h.2.2 hrs _ _ _ ⟨hL, (a_st1 (a_st1 (a_st1 hst).2).2).2, hls, aOKM_upi hM nl hz, by rw [hn] at a1; rw [← aw_putA hG eq (by decide) h.1.1, ← a_ixn h.1 hi]; exact a1, a3⟩)
      next => exact h.elim
    next => exact h.elim
  case castore =>
    dsimp only at h
    split at h
    next z i q st =>
      have hz := (a_st1 hst).1
      have hi := (a_st1 (a_st1 hst).2).1
      split at h
      next n eq =>
        have hq : q < nc := aw_in hG (fun cs x => by rw [eq] at x; cases x)
        have he : (aw G ad cA nc M)[q]? = some (ad q, .inl (cA 2, n, .inl (fun j => Int32.ofInt (M q j)))) := by rw [aw_at hq, aw_eA eq (by decide)]
        have nl : ∀ n, G.1 q ≠ kA 3 n := fun n x => by rw [eq] at x; cases x
        have hn : vp_nar .char (Int32.ofInt z) = Int32.ofInt z := (a_nch h.2.1).2.2
        exact va_cast hx hb hK hP hDD hS q 2 he t2 (a_ix h.1 hi) hD (fun H1 locs1 a1 a2 a3 => IH _ _ _ _ _ h.2.2 hrs _ _ _ ⟨hL, (a_st1 (a_st1 (a_st1 hst).2).2).2, hls, aOKM_upi hM nl hz, by rw [hn] at a1; rw [← aw_putA hG eq (by decide) h.1.1, ← a_ixn h.1 hi]; exact a1, a3⟩)
      next => exact h.elim
    next => exact h.elim
  case lastore =>
    dsimp only at h
    split at h
    next z i q st =>
      have hz := (a_st1 hst).1
      have hi := (a_st1 (a_st1 hst).2).1
      split at h
      next n eq =>
        have hq : q < nc := aw_in hG (fun cs x => by rw [eq] at x; cases x)
        have he : (aw G ad cA nc M)[q]? = some (ad q, .inl (cA 3, n, .inr (.inl (fun j => Int64.ofInt (M q j))))) := by rw [aw_at hq, aw_eL eq]
        exact va_last hx hb hK hP hDD hS q 3 he t3 (a_ix h.1 hi) hD (fun H1 locs1 a1 a2 a3 => IH _ _ _ _ _ h.2 hrs _ _ _ ⟨hL, (a_st1 (a_st1 (a_st1 hst).2).2).2, hls, aOKM_upl hM eq hz, by rw [← aw_putL hG eq h.1.1, ← a_ixn h.1 hi]; exact a1, a3⟩)
      next => exact h.elim
    next => exact h.elim
  case ireturn =>
    dsimp only at h
    split at h
    next z =>
      have hz := (a_st1 hst).1
      have hq : ∀ rk, (G.2.1 y).2.2.1 = rk → narrow ((aRty rk).getD .int) (.int (Int32.ofInt z)) = .int (Int32.ofInt z) ∧ aRty rk = some ((aRty rk).getD .int) ∧ Q (some (aI z)) M := by
        intro rk hrk
        rw [hrk] at h
        split at h
        · exact ⟨rfl, rfl, h⟩
        · refine ⟨?_, rfl, h.2⟩
          rcases h.1 with h0 | h0 <;> rw [h0] <;> rfl
        · exact ⟨(a_nch h.1).1, rfl, h.2⟩
        · exact h.elim
      obtain ⟨q1, q2, q3⟩ := hq _ rfl
      exact W.zret hx hb (hr.trans q2) q1 (fun t ht _ => ⟨⟨some (aI z), M, rfl, q3, fun v hv => (by cases hv; exact hz), hM, by rw [ht]; exact hP⟩, va_S.F hS ht⟩) hS.2.2 hD hlk
    next => exact h.elim
  case return_ =>
    dsimp only at h
    split at h
    next =>
      have hq : ∀ rk, (G.2.1 y).2.2.1 = rk → aRty rk = none ∧ Q none M := by
        intro rk hrk
        rw [hrk] at h
        split at h
        · exact ⟨rfl, h⟩
        · exact h.elim
      obtain ⟨q2, q3⟩ := hq _ rfl
      exact W.vret hx hb (hr.trans q2) (fun t ht _ => ⟨⟨none, M, rfl, q3, fun v hv => (by cases hv), hM, by rw [ht]; exact hP⟩, va_S.F hS ht⟩) hS.2.2 hD hlk
    next => exact h.elim
  all_goals first | exact (Bool.noConfusion hk) | exact h.elim
end SH
end
section
/-! THE ABSTRACT MACHINE IS SOUND: calls, and the whole walk of a method. -/
theorem a_opt {G : AG} {ad : Nat → Nat} (r : Option AV) (st : List AV) : (r.map (acv G ad)).toList ++ st.map (acv G ad) = (r.toList ++ st).map (acv G ad) := by cases r <;> simp
section SC
variable {G : AG} {ad : Nat → Nat} {cA : Nat → ClassId} {nc ns nm ncl : Nat} {D : va_G} {cl : List vw_C}
variable {cn : Nat → String} {yn : Nat → MethodName} {bc : Nat → ByteArray} {tf : Nat → u_T × Nat × (Nat → FieldType)} {AW AN : List Cond}
variable {zs : List ((String × String × String) × Nat)} {sk : Nat → String × Nat × String} {XS : State → Heap → Prop}
variable {p : Program} {l : Launch} {e : Env} {s : State} {m : MethodId} {args : Array Value} {below : List Frame} {meth : Method} {c : Code} {H : Heap} {locs : List Loc} {lsC : Array Slot} {d y : Nat} {Q : Option AV → AM → Prop}
/-- String.length() and charAt() of the string constants -/
def aStr (G : AG) (ad : Nat → Nat) (cA : Nat → ClassId) (nc ns : Nat) (D : va_G) (cl : List vw_C) (cn : Nat → String) (bc : Nat → ByteArray) (AW AN : List Cond) (zs : List ((String × String × String) × Nat)) (sk : Nat → String × Nat × String) (XS : State → Heap → Prop) (l : Launch) : Prop :=
  ∀ (y d : Nat) (Q : Option AV → AM → Prop) (p : Program) (e : Env) (s : State) (m : MethodId) (args : Array Value) (below : List Frame) (meth : Method) (c : Code), aCtx G ad cA nc ns D cl cn bc AW AN zs sk XS d y p s m args meth c →
    ∀ (pc i k : Nat) (rest : List Value) (H : Heap) (locs : List Loc) (lsC : Array Slot), decode (bc y) pc = .ok (.invokevirtual i, 3) → k < ns → (rest.map fun v => v.category).sum ≤ 8 → lsC.size = aMx G y → va_S (aF ad nc) s.heap H locs →
      (Cond.methodLink (aOw G cn y) i aLenN ∈ AW → (∀ locs1, va_S (aF ad nc) s.heap H locs1 → aWl G ad cA nc ns D cl d Q p l e s m args below meth c H locs1 lsC (pc + 3) (.int (Int32.ofInt (G.2.2.2 k).length) :: rest)) → aWl G ad cA nc ns D cl d Q p l e s m args below meth c H locs lsC pc (.ref (ad (5000 + k)) :: rest)) ∧
      (∀ z : Int, 0 ≤ z ∧ z < (G.2.2.2 k).length → Cond.methodLink (aOw G cn y) i aChrN ∈ AW → (∀ locs1, va_S (aF ad nc) s.heap H locs1 → aWl G ad cA nc ns D cl d Q p l e s m args below meth c H locs1 lsC (pc + 3) (.int (Int32.ofInt ((G.2.2.2 k).getD z.toNat 0)) :: rest)) → aWl G ad cA nc ns D cl d Q p l e s m args below meth c H locs lsC pc (.int (Int32.ofInt z) :: .ref (ad (5000 + k)) :: rest))
/-- behind a call -/
theorem a_call {K Qf : Option AV → AM → Prop} {pc : Nat} {a : Array Value} {st0 rest : List Value} (hr : va_Run p l e (aRoom d) s m args below meth c H locs 0 0 0 0 (F0 m pc lsC st0) rest (aQc G ad cA nc ns D cl K a) (aF ad nc)) (hS : va_S (aF ad nc) s.heap H locs)
    (kk : ∀ (r : Option AV) (M' : AM) (H1 : Heap) (locs1 : List Loc), K r M' → (∀ v, r = some v → aOKV G ns v) → aOKM G M' → va_P D cl (aw G ad cA nc M') H1 → va_S (aF ad nc) s.heap H1 locs1 → aWl G ad cA nc ns D cl d Qf p l e s m args below meth c H1 locs1 lsC (pc + 3) ((r.map (acv G ad)).toList ++ rest)) : aWl G ad cA nc ns D cl d Qf p l e s m args below meth c H locs lsC pc st0 := by
  intro T hT X
  obtain ⟨v, st₀, t, T', L, h0, X', hL, e1, e2, ⟨⟨r, M', hv, hp, hrk, hM, hP⟩, hz, hk⟩, st⟩ := hr T hT X
  cases hv
  rw [h0] at hz hk
  obtain ⟨t2, a1, b1⟩ := kk r M' T'.heap (locs ++ L) hp hrk hM (by rw [e1]; exact hP)
    ⟨Nat.le_trans hS.1 (by rw [e1]; exact hz), fun q h1 h2 => by rw [e1, hk q (Nat.lt_of_lt_of_le h1 hS.1) h2]; exact hS.2.1 q h1 h2, fun q hq => by
      rcases List.mem_append.mp hq with h | h
      · exact hS.2.2 q h
      · exact hL q h⟩ T' rfl X'
  exact ⟨t2, st t2 a1, b1⟩
/-- the facts of the entry hold wherever the tables are warmer and only the world has changed -/
theorem aX_warm (hT : aTab G ad nc ns nm ncl cl cn yn bc tf AW AN zs sk XS) (hX : aX G ad cA nc ns D cl AN zs sk XS s) (hS : va_S (aF ad nc) s.heap H locs) {U : State} (hU : U.heap = H) (hW : s.WarmedH U.vm) : aX G ad cA nc ns D cl AN zs sk XS U := by
  obtain ⟨hG, hadi, hcl, hKf, hMt, hgw, hAN, hblk, hXm, hXk⟩ := id hT
  obtain ⟨x1, x2, x3, x4, x5, x6⟩ := hX
  have hq : ∀ a : Nat, a < s.heap.size → ¬ aF ad nc a → U.heap[a]? = s.heap[a]? := fun a h1 h2 => by rw [hU]; exact hS.2.1 a h1 h2
  refine ⟨va_K.moved hW.alike x1, fun q cs h1 h2 => ((x2 q cs h1 h2).kept hq).moved hW.alike, fun z hz => ((x3 z hz).kept hq).moved hW.alike, fun w hw => ?_, fun k hk => (x5 k hk).warm hW, hXm hW.alike (hXk x6 hq)⟩
  obtain ⟨a, i, x, h, rfl⟩ := hAN w hw
  exact va_Nw.warmM hW (x4 _ hw)
theorem aPc_blind (hT : aTab G ad nc ns nm ncl cl cn yn bc tf AW AN zs sk XS) (as : List AV) (M : AM) : FrameBlind (aPc G ad cA nc ns D cl AN zs sk XS as M) := by
  intro a U g mk q
  obtain ⟨q1, q2, q3⟩ := q
  refine ⟨q1, q2, aX_warm hT q3 va_S.rf (U := U.calling g mk a) rfl ?_⟩
  exact State.WarmedH.refl U
theorem aWs_good (hT : aTab G ad nc ns nm ncl cl cn yn bc tf AW AN zs sk XS) {y : Nat} (hy : y < nm) : GoodIn AW (aWs G yn bc AW y) := by
  obtain ⟨hG, hadi, hcl, hKf, hMt, hgw, -⟩ := id hT
  intro w hw
  rcases List.mem_cons.mp hw with h | h
  · rw [h]; exact ⟨(hMt y hy).1, good_of_word (hgw _ (hMt y hy).1)⟩
  · exact ⟨h, good_of_word (hgw _ h)⟩
set_option maxHeartbeats 4000000 in
/-- calls -/
theorem a_step_c {run : Nat → List AV → AM → (Option AV → AM → Prop) → Prop} {nx : Nat → AB → AL → List AV → AM → Prop} {pc : Nat} {ins : Jvm.ClassFile.Instr} {x : AX} {rs : AB} {ls : AL} {st : List AV} {M : AM}
    (hT : aTab G ad nc ns nm ncl cl cn yn bc tf AW AN zs sk XS) (hSt : aStr G ad cA nc ns D cl cn bc AW AN zs sk XS l)
    (hsb : ∀ k, k < ns → aR32 (G.2.2.2 k).length ∧ ∀ z ∈ G.2.2.2 k, aR32 z)
    (hC : aCtx G ad cA nc ns D cl cn bc AW AN zs sk XS d y p s m args meth c) (hI : aInv G ad cA nc ns D cl y ls st M s H locs lsC)
    (hD : okD bc y pc ins) (hJ : okJ pc ins) (hO : okI G ns nm ncl cn yn tf AW AN zs sk y ins x) (hrs : okL G ns nm ncl cn yn bc tf AW AN zs sk y (pc + a_len ins) rs)
    (IH : aIH G ad cA nc ns nm ncl D cl cn yn bc tf AW AN zs sk d y Q p l e s m args below meth c nx)
    (RUN : ∀ y' as M' K, run y' as M' K → y' < nm → (∀ v ∈ as, aOKV G ns v) → aOKM G M' → ∃ d', d = d' + 1 ∧ Met l (yn y') (aWs G yn bc AW y') (aRoom d') (aPc G ad cA nc ns D cl AN zs sk XS as M') (aQc G ad cA nc ns D cl K) 0 0 (aF ad nc))
    (hk : a_kc ins = true)
    (h : a_step G run nx (G.2.1 y).2.2.1 Q pc ins x rs ls st M) : aWl G ad cA nc ns D cl d Q p l e s m args below meth c H locs lsC pc (st.map (acv G ad)) := by
  obtain ⟨hx, hb, hr, hml, hown, hts, hlk, hX⟩ := id hC
  obtain ⟨hL, hst, hls, hM, hP, hS⟩ := id hI
  obtain ⟨hG, hadi, hcl, hKf, hMt, hgw, hAN, hblk, hXm, hXk⟩ := id hT
  have hK := hX.1
  unfold a_step at h
  cases ins
  case invokestatic i =>
    dsimp only at h
    replace h := a_cond h
    obtain ⟨h1, h⟩ := h
    rw [Bool.and_eq_true, Bool.and_eq_true] at h1
    obtain ⟨⟨c1, c2⟩, c3⟩ := h1
    have c1 : x.2.2 ≤ st.length := Nat.le_of_ble_eq_true c1
    have c2 : av_cats (st.drop x.2.2) ≤ 8 := Nat.le_of_ble_eq_true c2
    have c3 : (G.2.1 x.2.1).2.2.2 = 0 := Nat.eq_of_beq_eq_true c3
    obtain ⟨o1, o2, o3⟩ := hO
    obtain ⟨m1, m2, m3, m4, m5, m6, m7, m8⟩ := hMt _ o1
    have hok1 : ∀ v ∈ (st.take x.2.2).reverse, aOKV G ns v := fun v hv => hst v (List.mem_of_mem_take (List.mem_reverse.mp hv))
    obtain ⟨d', hd, hMet⟩ := RUN _ _ _ _ h o1 hok1 hM
    subst hd
    have hgo := aWs_good (yn := yn) hT o1
    have hlen : ((st.take x.2.2).reverse.map (acv G ad)).length = x.2.2 := by simp; omega
    have hstk : st.map (acv G ad) = ((st.take x.2.2).reverse.map (acv G ad)).reverse ++ (st.drop x.2.2).map (acv G ad) := by
      rw [← List.map_reverse, List.reverse_reverse, ← List.map_append, List.take_append_drop]
    have hpre : PreS s H (aPc G ad cA nc ns D cl AN zs sk XS (st.take x.2.2).reverse M) ((st.take x.2.2).reverse.map (acv G ad)) := ⟨aPc_blind hT _ _, fun U hU hW => ⟨rfl, by rw [hU]; exact hP, aX_warm hT hX hS hU hW⟩⟩
    have hpl : ∀ sig, parseMethodDescriptor (yn x.2.1).desc = some sig → x.2.2 = sig.parameters.length := fun sig hh => by rw [hh] at o2; exact (Option.some.inj o2).symm
    have hW8 : 2 * (F0 m pc lsC (st.map (acv G ad))).monitorRoom + (((st.drop x.2.2).map (acv G ad)).map fun v => v.category).sum ≤ 8 := lv_room (by rw [acv_cats]; exact c2)
    have hfr : (aRoom d').frames + 1 ≤ (aRoom (d' + 1)).frames := by simp only [aRoom]; omega
    have hlo : 8 + (aMx G x.2.1 + 11) + (aRoom d').locals ≤ (aRoom (d' + 1)).locals := by simp only [aRoom]; omega
    have kk : ∀ (r : Option AV) (M' : AM) (H1 : Heap) (locs1 : List Loc), nx (pc + 3) rs ls (r.toList ++ st.drop x.2.2) M' → (∀ v, r = some v → aOKV G ns v) → aOKM G M' → va_P D cl (aw G ad cA nc M') H1 → va_S (aF ad nc) s.heap H1 locs1 → aWl G ad cA nc ns D cl (d' + 1) Q p l e s m args below meth c H1 locs1 lsC (pc + 3) ((r.map (acv G ad)).toList ++ (st.drop x.2.2).map (acv G ad)) := fun r M' H1 locs1 hn hr2 hM2 hP2 hS2 => by
      rw [a_opt]
      refine IH _ _ _ _ _ hn hrs _ _ _ ⟨hL, fun v hv => ?_, hls, hM2, hP2, hS2⟩
      rcases List.mem_append.mp hv with g | g
      · exact hr2 v (by cases r <;> simp at g; rw [g])
      · exact hst v (List.mem_of_mem_drop g)
    rcases o3 with o3 | ⟨host, o3⟩
    · exact a_call (va_runS (As := (st.take x.2.2).reverse.map (acv G ad)) ⟨hx, hb, hml, hown, hts⟩ hMet ⟨⟨rfl, rfl, hfr, hlo, pay_in hts hgo, List.mem_cons_self, hts _ m1, hts _ m2, m5, hpl, hts _ o3⟩, hts _ (m8 c3)⟩ hpre rfl hlen hL.1 hstk hW8 hD ⟨Nat.le_refl _, Nat.le_refl _⟩) hS kk
    · exact a_call (va_runSN (As := (st.take x.2.2).reverse.map (acv G ad)) ⟨hx, hb, hml, hown, hts⟩ hMet ⟨⟨⟨rfl, rfl, hfr, hlo, pay_in hts hgo, List.mem_cons_self⟩, hts _ m1, hts _ m2, m5, hpl, va_Nw.use rfl (hX.2.2.2.1 _ o3)⟩, hts _ (m8 c3), trivial⟩ hpre rfl hlen hL.1 hstk hW8 hD ⟨Nat.le_refl _, Nat.le_refl _⟩) hS kk
  case invokevirtual i =>
    dsimp only at h
    split at h
    next e0 =>
      split at h
      next q eq =>
        split at h
        next ci fs eK =>
          replace h := a_cond h
          obtain ⟨h1, h⟩ := h
          rw [Bool.and_eq_true, Bool.and_eq_true] at h1
          obtain ⟨⟨c0, c2⟩, c3⟩ := h1
          have c0 : ci = (G.2.1 x.2.1).1 := Nat.eq_of_beq_eq_true c0
          have c2 : av_cats (st.drop (x.2.2 + 1)) ≤ 8 := Nat.le_of_ble_eq_true c2
          have c3 : (G.2.1 x.2.1).2.2.2 = 1 := Nat.eq_of_beq_eq_true c3
          have c1 : x.2.2 < st.length := (List.getElem?_eq_some_iff.mp eq).1
          simp only [okI, e0] at hO
          obtain ⟨o1, o2, o3⟩ := hO
          obtain ⟨m1, m2, m3, m4, m5, m6, m7, m8⟩ := hMt _ o1
          obtain ⟨n1, n2, n3⟩ := m7 c3
          obtain ⟨g1, g2, g3, g4⟩ := hcl _ n1
          have hq : q < nc := aw_in hG (fun cs x => by rw [eK] at x; cases x)
          have he : (aw G ad cA nc M)[q]? = some (ad q, .inr (ci, aw_fv ad M q 0 fs)) := by rw [aw_at hq, aw_eO eK]
          have hok1 : ∀ v ∈ (aP q) :: (st.take x.2.2).reverse, aOKV G ns v := a_stc trivial (fun v hv => hst v (List.mem_of_mem_take (List.mem_reverse.mp hv)))
          obtain ⟨d', hd, hMet⟩ := RUN _ _ _ _ h o1 hok1 hM
          subst hd
          have hgo := aWs_good (yn := yn) hT o1
          have hlen : ((st.take x.2.2).reverse.map (acv G ad)).length = x.2.2 := by simp; omega
          have hstk : st.map (acv G ad) = ((st.take x.2.2).reverse.map (acv G ad)).reverse ++ .ref (ad q) :: (st.drop (x.2.2 + 1)).map (acv G ad) := by
            have e9 : st = st.take x.2.2 ++ aP q :: st.drop (x.2.2 + 1) := by
              have e8 : st[x.2.2] = aP q := (List.getElem?_eq_some_iff.mp eq).2
              rw [← e8, List.getElem_cons_drop, List.take_append_drop]
            rw [← List.map_reverse, List.reverse_reverse]
            exact (congrArg (List.map (acv G ad)) e9).trans (by rw [List.map_append]; rfl)
          have hpre : PreV s H (aOw G cn x.2.1) (ad q) (aPc G ad cA nc ns D cl AN zs sk XS (aP q :: (st.take x.2.2).reverse) M) ((st.take x.2.2).reverse.map (acv G ad)) := ⟨aPc_blind hT _ _, va_recv hK hP g1 (by rw [← c0]; exact he), fun U hU hW => ⟨rfl, by rw [hU]; exact hP, aX_warm hT hX hS hU hW⟩⟩
          have hpl : ∀ sig, parseMethodDescriptor (yn x.2.1).desc = some sig → x.2.2 = sig.parameters.length := fun sig hh => by rw [hh] at o2; exact (Option.some.inj o2).symm
          have hW8 : 2 * (F0 m pc lsC (st.map (acv G ad))).monitorRoom + (((st.drop (x.2.2 + 1)).map (acv G ad)).map fun v => v.category).sum ≤ 8 := lv_room (by rw [acv_cats]; exact c2)
          have hfr : (aRoom d').frames + 1 ≤ (aRoom (d' + 1)).frames := by simp only [aRoom]; omega
          have hlo : 8 + (aMx G x.2.1 + 11) + (aRoom d').locals ≤ (aRoom (d' + 1)).locals := by simp only [aRoom]; omega
          have kk : ∀ (r : Option AV) (M' : AM) (H1 : Heap) (locs1 : List Loc), nx (pc + 3) rs ls (r.toList ++ st.drop (x.2.2 + 1)) M' → (∀ v, r = some v → aOKV G ns v) → aOKM G M' → va_P D cl (aw G ad cA nc M') H1 → va_S (aF ad nc) s.heap H1 locs1 → aWl G ad cA nc ns D cl (d' + 1) Q p l e s m args below meth c H1 locs1 lsC (pc + 3) ((r.map (acv G ad)).toList ++ (st.drop (x.2.2 + 1)).map (acv G ad)) := fun r M' H1 locs1 hn hr2 hM2 hP2 hS2 => by
            rw [a_opt]
            refine IH _ _ _ _ _ hn hrs _ _ _ ⟨hL, fun v hv => ?_, hls, hM2, hP2, hS2⟩
            rcases List.mem_append.mp hv with g | g
            · exact hr2 v (by cases r <;> simp at g; rw [g])
            · exact hst v (List.mem_of_mem_drop g)
          exact a_call (va_runV (As := (st.take x.2.2).reverse.map (acv G ad)) ⟨hx, hb, hml, hown, hts⟩ hMet ⟨⟨rfl, rfl, hfr, hlo, pay_in hts hgo, List.mem_cons_self, hts _ m1, hts _ m2, m5, hpl, hts _ o3⟩, hts _ n2, hts _ n3⟩ hpre rfl hlen hL.1 hstk hW8 hD ⟨Nat.le_refl _, Nat.le_refl _⟩) hS kk
        next => exact h.elim
      next => exact h.elim
    next e0 =>
      split at h
      next k st =>
        replace h := a_cond h
        obtain ⟨c2, h⟩ := h
        have c2 : av_cats st ≤ 8 := Nat.le_of_ble_eq_true c2
        simp only [okI, e0] at hO
        have hks : k < ns := (a_st1 hst).1
        refine (hSt y d Q p e s m args below meth c hC pc i k (st.map (acv G ad)) H locs lsC hD hks (by rw [acv_cats]; exact c2) hL.1 hS).1 hO (fun locs1 hS1 => ?_)
        exact IH _ _ _ _ _ h hrs _ _ _ ⟨hL, a_stc (hsb k hks).1 (a_st1 hst).2, hls, hM, hP, hS1⟩
      next => exact h.elim
    next e0 =>
      split at h
      next z k st =>
        replace h := a_cond h
        obtain ⟨c2, hz, h⟩ := h
        have c2 : av_cats st ≤ 8 := Nat.le_of_ble_eq_true c2
        simp only [okI, e0] at hO
        have hks : k < ns := (a_st1 (a_st1 hst).2).1
        have hzz : aR32 ((G.2.2.2 k).getD z.toNat 0) := by
          have hl : z.toNat < (G.2.2.2 k).length := by omega
          rw [List.getD_eq_getElem?_getD, List.getElem?_eq_getElem hl]
          exact (hsb k hks).2 _ (List.getElem_mem hl)
        refine (hSt y d Q p e s m args below meth c hC pc i k (st.map (acv G ad)) H locs lsC hD hks (by rw [acv_cats]; exact c2) hL.1 hS).2 z hz hO (fun locs1 hS1 => ?_)
        exact IH _ _ _ _ _ h hrs _ _ _ ⟨hL, a_stc hzz (a_st1 (a_st1 hst).2).2, hls, hM, hP, hS1⟩
      next => exact h.elim
    next => exact h.elim
  all_goals exact (Bool.noConfusion hk)
end SC
end
section
section SM
variable {G : AG} {ad : Nat → Nat} {cA : Nat → ClassId} {nc ns nm ncl : Nat} {D : va_G} {cl : List vw_C}
variable {cn : Nat → String} {yn : Nat → MethodName} {bc : Nat → ByteArray} {tf : Nat → u_T × Nat × (Nat → FieldType)} {AW AN : List Cond}
variable {zs : List ((String × String × String) × Nat)} {sk : Nat → String × Nat × String} {XS : State → Heap → Prop} {l : Launch}
/-- one step, of any instruction -/
theorem a_step_ok {p : Program} {e : Env} {s : State} {m : MethodId} {args : Array Value} {below : List Frame} {meth : Method} {c : Code} {H : Heap} {locs : List Loc} {lsC : Array Slot} {d y : Nat} {Q : Option AV → AM → Prop} {run : Nat → List AV → AM → (Option AV → AM → Prop) → Prop} {nx : Nat → AB → AL → List AV → AM → Prop} {pc : Nat} {ins : Jvm.ClassFile.Instr} {x : AX} {rs : AB} {ls : AL} {st : List AV} {M : AM}
    (hT : aTab G ad nc ns nm ncl cl cn yn bc tf AW AN zs sk XS) (hSt : aStr G ad cA nc ns D cl cn bc AW AN zs sk XS l) (hsb : ∀ k, k < ns → aR32 (G.2.2.2 k).length ∧ ∀ z ∈ G.2.2.2 k, aR32 z)
    (hC : aCtx G ad cA nc ns D cl cn bc AW AN zs sk XS d y p s m args meth c) (hI : aInv G ad cA nc ns D cl y ls st M s H locs lsC)
    (hD : okD bc y pc ins) (hJ : okJ pc ins) (hO : okI G ns nm ncl cn yn tf AW AN zs sk y ins x) (hrs : okL G ns nm ncl cn yn bc tf AW AN zs sk y (pc + a_len ins) rs)
    (IH : aIH G ad cA nc ns nm ncl D cl cn yn bc tf AW AN zs sk d y Q p l e s m args below meth c nx)
    (RUN : ∀ y' as M' K, run y' as M' K → y' < nm → (∀ v ∈ as, aOKV G ns v) → aOKM G M' → ∃ d', d = d' + 1 ∧ Met l (yn y') (aWs G yn bc AW y') (aRoom d') (aPc G ad cA nc ns D cl AN zs sk XS as M') (aQc G ad cA nc ns D cl K) 0 0 (aF ad nc))
    (h : a_step G run nx (G.2.1 y).2.2.1 Q pc ins x rs ls st M) : aWl G ad cA nc ns D cl d Q p l e s m args below meth c H locs lsC pc (st.map (acv G ad)) := by
  by_cases h1 : a_kc ins = true
  · exact a_step_c hT hSt hsb hC hI hD hJ hO hrs IH RUN h1 h
  · by_cases h2 : a_kh ins = true
    · exact a_step_h hT hC hI hD hJ hO hrs IH h2 h
    · refine a_step_l hC hI hD hJ hO hrs IH ?_ h
      cases ins <;> first | rfl | exact absurd rfl h1 | exact absurd rfl h2
/-- the soundness of a place, as a predicate of it -/
def aSnd (G : AG) (ad : Nat → Nat) (cA : Nat → ClassId) (nc ns nm ncl : Nat) (D : va_G) (cl : List vw_C) (cn : Nat → String) (yn : Nat → MethodName) (bc : Nat → ByteArray) (tf : Nat → u_T × Nat × (Nat → FieldType)) (AW AN : List Cond) (zs : List ((String × String × String) × Nat)) (sk : Nat → String × Nat × String) (XS : State → Heap → Prop) (l : Launch) (d y pc : Nat) (rs : AB) (ls : AL) (st : List AV) (M : AM) (Q : Option AV → AM → Prop) : Prop :=
  y < nm → okL G ns nm ncl cn yn bc tf AW AN zs sk y pc rs → ∀ (p : Program) (e : Env) (s : State) (m : MethodId) (args : Array Value) (below : List Frame) (meth : Method) (c : Code), aCtx G ad cA nc ns D cl cn bc AW AN zs sk XS d y p s m args meth c → ∀ (H : Heap) (locs : List Loc) (lsC : Array Slot), aInv G ad cA nc ns D cl y ls st M s H locs lsC → aWl G ad cA nc ns D cl d Q p l e s m args below meth c H locs lsC pc (st.map (acv G ad))
/-- a method's contract out of it -/
theorem a_met_of (hT : aTab G ad nc ns nm ncl cl cn yn bc tf AW AN zs sk XS) {d y : Nat} {as : List AV} {M : AM} {Q : Option AV → AM → Prop}
    (h : aSnd G ad cA nc ns nm ncl D cl cn yn bc tf AW AN zs sk XS l d y 0 [] (al_args (aMx G y) as) [] M Q) (hy : y < nm) (hc : av_cats as ≤ aMx G y) (has : ∀ v ∈ as, aOKV G ns v) (hM : aOKM G M) :
    Met l (yn y) (aWs G yn bc AW y) (aRoom d) (aPc G ad cA nc ns D cl AN zs sk XS as M) (aQc G ad cA nc ns D cl Q) 0 0 (aF ad nc) := by
  obtain ⟨hG, hadi, hcl, hKf, hMt, hgw, hAN, hblk, hXm, hXk⟩ := id hT
  obtain ⟨m1, m2, m3, m4, m5, m6, m7, m8⟩ := hMt _ hy
  refine Met.ofW (cc := bc y) (maxL := aMx G y) (ret := aRty (G.2.1 y).2.2.1) m4 rfl ?_
  intro p e s m args below meth c s₁ B hml hv
  obtain ⟨rfl, hP, hX⟩ := hv
  have hts := atoms_spec (ws := aWs G yn bc AW y) B.pre
  have hown : s.vm.findClass (aOw G cn y) = some m.cls := by rw [← m3]; exact findClass_of_methodNamed B.named
  rw [lg_entry_eq]
  exact h hy trivial p e s m _ below meth c ⟨B.exec, B.bytes, B.returns, hml, hown, fun w hw => hts w (List.mem_cons_of_mem _ hw), B.notSynchronized, hX⟩ s.heap [] _ ⟨al_entry hc, fun v hv => (by cases hv), al_args_ok as _ has, hM, hP, va_S.rf⟩
theorem a_sound (hT : aTab G ad nc ns nm ncl cl cn yn bc tf AW AN zs sk XS) (hSt : aStr G ad cA nc ns D cl cn bc AW AN zs sk XS l) (hsb : ∀ k, k < ns → aR32 (G.2.2.2 k).length ∧ ∀ z ∈ G.2.2.2 k, aR32 z) {d y pc : Nat} {rs : AB} {ls : AL} {st : List AV} {M : AM} {Q : Option AV → AM → Prop} (h : aE G d y pc rs ls st M Q) : aSnd G ad cA nc ns nm ncl D cl cn yn bc tf AW AN zs sk XS l d y pc rs ls st M Q := by
  refine h (aSnd G ad cA nc ns nm ncl D cl cn yn bc tf AW AN zs sk XS l) ?_ ?_ ?_
  · intro d y pc rs ls st M Q Q' hQ h hy hok p e s m args below meth c hC H locs lsC hI T hT X
    obtain ⟨t, a, o, b1, b2, ⟨⟨r, M', g1, g2, g3⟩, g4⟩, b3⟩ := h hy hok p e s m args below meth c hC H locs lsC hI T hT X
    exact ⟨t, a, o, b1, b2, ⟨⟨r, M', g1, hQ _ _ g2, g3⟩, g4⟩, b3⟩
  · intro d y pc ls st M Q h hy hok
    exact h hy (hT.2.2.2.2.2.2.2.1 y pc hy)
  · intro d y pc ins x rs ls st M Q h hy hok p e s m args below meth c hC H locs lsC hI
    obtain ⟨hD, hJ, hO, hrs⟩ := hok
    refine a_step_ok hT hSt hsb hC hI hD hJ hO hrs (fun pc' rs' ls' st' M' h' hok' H' locs' lsC' hI' => h' hy hok' p e s m args below meth c hC H' locs' lsC' hI') ?_ h
    intro y' as M' K h' hy' has' hM'
    obtain ⟨d', e1, e2, h2⟩ := h'
    exact ⟨d', e1, a_met_of hT h2 hy' e2 has' hM'⟩
/-- the method y, begun with 'as' over the store M, ends with Q, its calls not more than h deep -/
def aC (G : AG) (h y : Nat) (as : List AV) (M : AM) (Q : Option AV → AM → Prop) : Prop := av_cats as ≤ aMx G y ∧ ∀ d, h ≤ d → aE G d y 0 [] (al_args (aMx G y) as) [] M Q
/-- WHAT THE ABSTRACT MACHINE RUNS, THE METHOD RUNS: its contract -/
theorem a_met (hT : aTab G ad nc ns nm ncl cl cn yn bc tf AW AN zs sk XS) (hSt : aStr G ad cA nc ns D cl cn bc AW AN zs sk XS l) (hsb : ∀ k, k < ns → aR32 (G.2.2.2 k).length ∧ ∀ z ∈ G.2.2.2 k, aR32 z)
    {h y : Nat} {as : List AV} {M : AM} {Q : Option AV → AM → Prop} (hE : aC G h y as M Q) (hy : y < nm) (has : ∀ v ∈ as, aOKV G ns v) (hM : aOKM G M) :
    Met l (yn y) (aWs G yn bc AW y) (aRoom h) (aPc G ad cA nc ns D cl AN zs sk XS as M) (aQc G ad cA nc ns D cl Q) 0 0 (aF ad nc) := a_met_of hT (a_sound hT hSt hsb (hE.2 h (Nat.le_refl _))) hy hE.1 has hM
end SM
end
section
/-! THE ABSTRACT MACHINE, how it is used: a block's run read off as a proposition. -/
section US
variable {G : AG}
theorem a_tsw_mono {nx nx' : Nat → Prop} (h : ∀ t, nx t → nx' t) {pc : Nat} {a : Int} : ∀ (os : List Int) (lo : Int), a_tsw nx pc a lo os → a_tsw nx' pc a lo os
  | [], _, _ => trivial
  | _ :: os, lo, hs => ⟨fun e => h _ (hs.1 e), a_tsw_mono h os (lo + 1) hs.2⟩
theorem a_lsw_mono {nx nx' : Nat → Prop} (h : ∀ t, nx t → nx' t) {pc : Nat} {a d : Int} : ∀ (ps : List (Int × Int)), a_lsw nx pc a d ps → a_lsw nx' pc a d ps
  | [], hs => h _ hs
  | _ :: ps, hs => ⟨fun e => h _ (hs.1 e), fun e => a_lsw_mono h ps (hs.2 e)⟩
theorem a_cnd_mono {c : Jvm.ClassFile.Cond} {a b : Int} {A B A' B' : Prop} (hA : A → A') (hB : B → B') (h : a_cnd c a b A B) : a_cnd c a b A' B' := by
  cases c <;> exact ⟨fun e => hA (h.1 e), fun e => hB (h.2 e)⟩
set_option maxHeartbeats 4000000 in
theorem a_step_mono {run run' : Nat → List AV → AM → (Option AV → AM → Prop) → Prop} {nx nx' : Nat → AB → AL → List AV → AM → Prop} (hr : ∀ y as M K K', (∀ r M', K r M' → K' r M') → run y as M K → run' y as M K') (hn : ∀ pc rs ls st M, nx pc rs ls st M → nx' pc rs ls st M)
    {rk : Nat} {Q : Option AV → AM → Prop} {pc : Nat} {ins : Jvm.ClassFile.Instr} {x : AX} {rs : AB} {ls : AL} {st : List AV} {M : AM} (h : a_step G run nx rk Q pc ins x rs ls st M) : a_step G run' nx' rk Q pc ins x rs ls st M := by
  unfold a_step at h ⊢
  cases ins <;> dsimp only [a_bin, a_binL, a_shL] at h ⊢
  all_goals first
    | exact h
    | exact hn _ _ _ _ _ h
    | skip
  all_goals (revert h)
  all_goals repeat' (first
    | exact fun h => h.elim
    | exact fun h => hn _ _ _ _ _ h
    | exact fun h => ⟨h.1, hn _ _ _ _ _ h.2⟩
    | exact fun h => ⟨h.1, h.2.1, hn _ _ _ _ _ h.2.2⟩
    | exact fun h => a_cnd_mono (hn _ _ _ _ _) (hn _ _ _ _ _) h
    | exact fun h => ⟨a_tsw_mono (fun t => hn _ _ _ _ _) _ _ h.1, fun e => hn _ _ _ _ _ (h.2 e)⟩
    | exact fun h => a_lsw_mono (fun t => hn _ _ _ _ _) _ h
    | exact fun h => hr _ _ _ _ _ (fun r M' => hn _ _ _ _ _) h
    | exact fun h => h
    | (refine fun h => ?_; obtain ⟨h1, h⟩ := a_cond h; rw [h1]; revert h; dsimp only [cond])
    | split)
end US
section UT
variable {G : AG}
theorem aE_mono : a_Mono (aE G) := fun d y pc rs ls st M Q Q' hQ h R m n s => m _ _ _ _ _ _ _ _ _ hQ (h R m n s)
theorem aE_nil : a_Nil G (aE G) := fun d y pc ls st M Q h R m n s => n _ _ _ _ _ _ _ (h R m n s)
theorem aE_stp : a_Stp G (aE G) := fun d y pc ins x rs ls st M Q h R m n s => s _ _ _ _ _ _ _ _ _ _ (a_step_mono (fun _ _ _ _ _ hK h => by
  obtain ⟨d', e1, e2, h3⟩ := h
  exact ⟨d', e1, e2, m _ _ _ _ _ _ _ _ _ hK (h3 R m n s)⟩) (fun _ _ _ _ _ h => h R m n s) h)
/-- the method y called at the depth d -/
def aK (G : AG) (d y : Nat) (as : List AV) (M : AM) (K : Option AV → AM → Prop) : Prop := a_Kof G (aE G) d y as M K
theorem aK_of {h d y : Nat} {as : List AV} {M : AM} {K K' : Option AV → AM → Prop} (hc : aC G h y as M K) (hd : h < d) (hK : ∀ r M', K r M' → K' r M') : aK G d y as M K' := by
  obtain ⟨h1, h2⟩ := hc
  cases d with
  | zero => omega
  | succ d => exact ⟨d, rfl, h1, aE_mono _ _ _ _ _ _ _ _ _ hK (h2 d (by omega))⟩
theorem aC_mono {h h' y : Nat} {as : List AV} {M : AM} {K K' : Option AV → AM → Prop} (hc : aC G h y as M K) (hd : h ≤ h') (hK : ∀ r M', K r M' → K' r M') : aC G h' y as M K' := ⟨hc.1, fun d h2 => aE_mono _ _ _ _ _ _ _ _ _ hK (hc.2 d (by omega))⟩
/-- calls of which the answer is known: by the table 'pu' -/
abbrev AP : Type := Nat → List AV → AM → Option (Option AV)
/-- a call that answers an int; one that answers nothing -/
def aKi (G : AG) (d y : Nat) (as : List AV) (M : AM) (K : Int → AM → Prop) : Prop := aK G d y as M (fun r M' => ∃ z, r = some (aI z) ∧ K z M')
def aKv (G : AG) (d y : Nat) (as : List AV) (M : AM) (K : AM → Prop) : Prop := aK G d y as M (fun r M' => r = none ∧ K M')
def aKp (G : AG) (pu : AP) (d y : Nat) (as : List AV) (M : AM) (K : Option AV → AM → Prop) : Prop := match pu y as M with
  | some r => K r M
  | none => match (G.2.1 y).2.2.1 with
    | 0 => aKv G d y as M (fun M' => K none M')
    | _ => aKi G d y as M (fun z M' => K (some (aI z)) M')
/-- contracts of methods that answer an int, or nothing -/
def aCi (G : AG) (h y : Nat) (as : List AV) (M : AM) (K : Int → AM → Prop) : Prop := aC G h y as M (fun r M' => ∃ z, r = some (aI z) ∧ K z M')
def aCv (G : AG) (h y : Nat) (as : List AV) (M : AM) (K : AM → Prop) : Prop := aC G h y as M (fun r M' => r = none ∧ K M')
theorem aKi_of {h d y : Nat} {as : List AV} {M : AM} {K K' : Int → AM → Prop} (hc : aCi G h y as M K) (hd : h < d) (hK : ∀ z M', K z M' → K' z M') : aKi G d y as M K' := aK_of hc hd (fun r M' q => by
  obtain ⟨z, e, k⟩ := q
  exact ⟨z, e, hK _ _ k⟩)
theorem aKv_of {h d y : Nat} {as : List AV} {M : AM} {K K' : AM → Prop} (hc : aCv G h y as M K) (hd : h < d) (hK : ∀ M', K M' → K' M') : aKv G d y as M K' := aK_of hc hd (fun r M' q => ⟨q.1, hK _ q.2⟩)
/-- the truth of c as an int -/
def a_bl (c : Prop) [Decidable c] : Int := if c then 1 else 0
theorem a_bl0 {c : Prop} [Decidable c] : a_bl c = 0 ↔ ¬ c := by unfold a_bl; split <;> simp [*]
theorem a_bl1 {c : Prop} [Decidable c] : a_bl c = 1 ↔ c := by unfold a_bl; split <;> simp [*]
theorem a_bl01 {c : Prop} [Decidable c] : a_bl c = 0 ∨ a_bl c = 1 := by unfold a_bl; split <;> simp
/-- locals of which less is known -/
def al_le (ls ls' : AL) : Prop := ls.length = ls'.length ∧ ∀ (i : Nat) (v : AV), ls[i]? = some (some v) → ls'[i]? = some (some v)
theorem al_le_kill {ls ls' : AL} (h : al_le ls ls') (i : Nat) : al_le (al_kill ls i) (al_kill ls' i) := by
  have hl : ∀ (l : AL), (al_kill l i).length = l.length := fun l => by
    unfold al_kill
    split
    · rfl
    · split <;> simp
  refine ⟨by rw [hl, hl, h.1], fun j v hj => ?_⟩
  obtain ⟨h1, h2⟩ := al_kill_get hj
  have h3 := h.2 j v h1
  unfold al_kill
  split
  · exact h3
  next k =>
    split
    next z e =>
      rw [List.getElem?_set]
      split
      next e2 =>
        subst e2
        rw [h3] at e
        cases e
        exact absurd ⟨rfl, z, rfl⟩ h2
      · exact h3
    · exact h3
theorem al_le_set {ls ls' : AL} (h : al_le ls ls') (i : Nat) (v : Option AV) : al_le (ls.set i v) (ls'.set i v) := by
  refine ⟨by simp [h.1], fun j w hj => ?_⟩
  rw [List.getElem?_set] at hj ⊢
  split at hj
  next e =>
    rw [if_pos e]
    split at hj
    next hl => rw [if_pos (by rw [← h.1]; exact hl)]; exact hj
    · cases hj
  next e => rw [if_neg e]; exact h.2 j w hj
theorem al_le_set1 {ls ls' : AL} (h : al_le ls ls') (i : Nat) (v : AV) : al_le (al_set1 ls i v) (al_set1 ls' i v) := al_le_set (al_le_kill h i) i _
theorem al_le_set2 {ls ls' : AL} (h : al_le ls ls') (i : Nat) (v : AV) : al_le (al_set2 ls i v) (al_set2 ls' i v) := al_le_set (al_le_set (al_le_kill h i) i _) (i + 1) _
set_option maxHeartbeats 4000000 in
theorem a_step_le {run : Nat → List AV → AM → (Option AV → AM → Prop) → Prop} {nx : Nat → AB → AL → List AV → AM → Prop} {rk : Nat} {Q : Option AV → AM → Prop} {pc : Nat} {ins : Jvm.ClassFile.Instr} {x : AX} {rs : AB} {ls ls' : AL} {st : List AV} {M : AM} (hle : al_le ls ls') (h : a_step G run (fun pc rs l st M => ∀ l', al_le l l' → nx pc rs l' st M) rk Q pc ins x rs ls st M)
    (hr : ∀ y as M K K', (∀ r M', K r M' → K' r M') → run y as M K → run y as M K') : a_step G run nx rk Q pc ins x rs ls' st M := by
  have ld : ∀ {k : Nat} {v : AV}, ls[k]? = some (some v) → ls'[k]? = some (some v) := fun h => hle.2 _ _ h
  unfold a_step at h ⊢
  cases ins
  case iload_n k =>
    dsimp only at h ⊢
    split at h
    next z e => rw [ld e]; exact h _ hle
    next => exact h.elim
  case iload k =>
    dsimp only at h ⊢
    split at h
    next z e => rw [ld e]; exact h _ hle
    next => exact h.elim
  case lload_n k =>
    dsimp only at h ⊢
    split at h
    next z e => rw [ld e]; exact h _ hle
    next => exact h.elim
  case lload k =>
    dsimp only at h ⊢
    split at h
    next z e => rw [ld e]; exact h _ hle
    next => exact h.elim
  case aload_n k =>
    dsimp only at h ⊢
    split at h
    next z e => rw [ld e]; exact h _ hle
    next => exact h.elim
  case aload k =>
    dsimp only at h ⊢
    split at h
    next z e => rw [ld e]; exact h _ hle
    next => exact h.elim
  case iinc k n =>
    dsimp only at h ⊢
    split at h
    next z e => rw [ld e]; exact h _ (al_le_set1 hle _ _)
    next => exact h.elim
  all_goals dsimp only [a_bin, a_binL, a_shL] at h ⊢
  all_goals first
    | exact h
    | exact h _ hle
    | skip
  all_goals (revert h)
  all_goals repeat' (first
    | exact fun h => h.elim
    | exact fun h => h _ hle
    | exact fun h => h _ (al_le_set1 hle _ _)
    | exact fun h => h _ (al_le_set2 hle _ _)
    | exact fun h => ⟨h.1, h.2 _ hle⟩
    | exact fun h => ⟨h.1, h.2.1, h.2.2 _ hle⟩
    | exact fun h => a_cnd_mono (fun k => k _ hle) (fun k => k _ hle) h
    | exact fun h => ⟨a_tsw_mono (fun t k => k _ hle) _ _ h.1, fun e => h.2 e _ hle⟩
    | exact fun h => a_lsw_mono (fun t k => k _ hle) _ h
    | exact fun h => hr _ _ _ _ _ (fun r M' k => k _ hle) h
    | exact fun h => h
    | (refine fun h => ?_; obtain ⟨h1, h⟩ := a_cond h; rw [h1]; revert h; dsimp only [cond])
    | split)
theorem aE_le {d y pc : Nat} {rs : AB} {ls ls' : AL} {st : List AV} {M : AM} {Q : Option AV → AM → Prop} (hle : al_le ls ls') (h : aE G d y pc rs ls st M Q) : aE G d y pc rs ls' st M Q := by
  refine h (fun d y pc rs ls st M Q => ∀ ls', al_le ls ls' → aE G d y pc rs ls' st M Q) ?_ ?_ ?_ ls' hle
  · intro d y pc rs ls st M Q Q' hQ h ls' hl
    exact aE_mono _ _ _ _ _ _ _ _ _ hQ (h ls' hl)
  · intro d y pc ls st M Q h ls' hl
    exact aE_nil _ _ _ _ _ _ _ (h ls' hl)
  · intro d y pc ins x rs ls st M Q h ls' hl
    refine aE_stp _ _ _ _ _ _ _ _ _ _ (a_step_le hl (a_step_mono (fun y as M K K' hK h => ?_) (fun pc rs l st M h l' hl' => h l' hl') h) (fun y as M K K' hK h => ?_))
    · obtain ⟨d', e1, e2, h3⟩ := h
      exact ⟨d', e1, e2, aE_mono _ _ _ _ _ _ _ _ _ hK (h3 _ ⟨rfl, fun _ _ q => q⟩)⟩
    · obtain ⟨d', e1, e2, h3⟩ := h
      exact ⟨d', e1, e2, aE_mono _ _ _ _ _ _ _ _ _ hK h3⟩
/-- locals, but those that nobody reads again -/
def al_mask : List Bool → AL → AL
  | [], _ => []
  | _ :: _, [] => []
  | true :: bs, v :: ls => v :: al_mask bs ls
  | false :: bs, _ :: ls => none :: al_mask bs ls
theorem al_mask_le : ∀ (bs : List Bool) (ls : AL), bs.length = ls.length → al_le (al_mask bs ls) ls
  | [], [], _ => ⟨rfl, fun i v h => h⟩
  | [], _ :: _, h => by cases h
  | _ :: _, [], h => by cases h
  | b :: bs, v :: ls, h => by
    obtain ⟨h1, h2⟩ := al_mask_le bs ls (Nat.succ.inj h)
    cases b
    · refine ⟨by simp [al_mask, h1], fun i w hi => ?_⟩
      cases i with
      | zero => simp [al_mask] at hi
      | succ i => simp only [al_mask, List.getElem?_cons_succ] at hi ⊢; exact h2 i w hi
    · refine ⟨by simp [al_mask, h1], fun i w hi => ?_⟩
      cases i with
      | zero => simpa [al_mask] using hi
      | succ i => simp only [al_mask, List.getElem?_cons_succ] at hi ⊢; exact h2 i w hi
def a_stop (pc : Nat) : List (Nat × List Bool) → Option (List Bool)
  | [] => none
  | (q, b) :: r => cond (Nat.beq pc q) (some b) (a_stop pc r)
/-- a block run, up to the places 'stops' (there with what is read again alone) -/
def aB (G : AG) (pu : AP) (stops : List (Nat × List Bool)) (d y : Nat) (Q : Option AV → AM → Prop) : Nat → Nat → AB → AL → List AV → AM → Prop
  | 0, pc, rs, ls, st, M => aE G d y pc rs ls st M Q
  | n + 1, pc, rs, ls, st, M => match rs with
    | [] => match a_stop pc stops with
      | some b => cond (Nat.beq b.length ls.length) (aE G d y pc [] (al_mask b ls) st M Q) False
      | none => aB G pu stops d y Q n pc (G.2.2.1 y pc) ls st M
    | (ins, x) :: rs => a_step G (aKp G pu d) (fun pc' rs' ls' st' M' => aB G pu stops d y Q n pc' rs' ls' st' M') (G.2.1 y).2.2.1 Q pc ins x rs ls st M
/-- what the table of known answers must hold to, p deep -/
def aPu (G : AG) (pu : AP) (p : Nat) : Prop := ∀ y as M r, pu y as M = some r → aC G p y as M (fun r' M' => r' = r ∧ M' = M)
theorem aB_ok {pu : AP} {p : Nat} (hpu : aPu G pu p) {stops : List (Nat × List Bool)} {d y : Nat} (hd : p < d) {Q : Option AV → AM → Prop} : ∀ (n pc : Nat) (rs : AB) (ls : AL) (st : List AV) (M : AM), aB G pu stops d y Q n pc rs ls st M → aE G d y pc rs ls st M Q := by
  intro n
  induction n with
  | zero => intro pc rs ls st M h; exact h
  | succ n ih =>
    intro pc rs ls st M h
    unfold aB at h
    split at h
    · split at h
      next b hs =>
        replace h := a_cond h
        exact aE_le (al_mask_le _ _ (Nat.eq_of_beq_eq_true h.1)) h.2
      next hs => exact aE_nil _ _ _ _ _ _ _ (ih _ _ _ _ _ h)
    · refine aE_stp _ _ _ _ _ _ _ _ _ _ (a_step_mono (fun y as M K K' hK h => ?_) (fun _ _ _ _ _ h => ih _ _ _ _ _ h) h)
      unfold aKp at h
      split at h
      next r e => exact aK_of (hpu _ _ _ _ e) hd (fun r' M' hh => by rw [hh.1, hh.2]; exact hK _ _ h)
      next e =>
        split at h
        · obtain ⟨d', e1, e2, h3⟩ := h
          exact ⟨d', e1, e2, aE_mono _ _ _ _ _ _ _ _ _ (fun r M' q => hK _ _ (by rw [q.1]; exact q.2)) h3⟩
        · obtain ⟨d', e1, e2, h3⟩ := h
          exact ⟨d', e1, e2, aE_mono _ _ _ _ _ _ _ _ _ (fun r M' q => by
            obtain ⟨z, e, k⟩ := q
            exact hK _ _ (by rw [e]; exact k)) h3⟩
/-- from a block's begin -/
theorem aE_go {pu : AP} {p : Nat} (hpu : aPu G pu p) (stops : List (Nat × List Bool)) (n : Nat) {d y pc : Nat} (hd : p < d) {ls : AL} {st : List AV} {M : AM} {Q : Option AV → AM → Prop} (h : aB G pu stops d y Q n pc (G.2.2.1 y pc) ls st M) : aE G d y pc [] ls st M Q := aE_nil _ _ _ _ _ _ _ (aB_ok hpu hd n _ _ _ _ _ h)
end UT
end
section
/-! what a program decides of the tables: one Boolean a method -/
def a_find (pc : Nat) : List (Nat × AB) → AB
  | [] => []
  | (q, b) :: r => cond (Nat.beq pc q) b (a_find pc r)
theorem a_find_all {P : Nat → AB → Prop} {pc : Nat} (h0 : P pc []) : ∀ (L : List (Nat × AB)), (∀ e ∈ L, P e.1 e.2) → P pc (a_find pc L)
  | [], _ => h0
  | (q, b) :: r, h => by
    unfold a_find
    cases e : Nat.beq pc q
    · exact a_find_all h0 r (fun x hx => h x (List.mem_cons_of_mem _ hx))
    · have : pc = q := Nat.eq_of_beq_eq_true e
      subst this
      exact h _ List.mem_cons_self
/-- the words that are good for a callee -/
def aAW : List Cond := lw_tbl.filter goodWord
theorem aAW_good : ∀ w ∈ aAW, goodWord w = true := fun w h => (List.mem_filter.mp h).2
theorem aAW_tbl : ∀ w ∈ aAW, w ∈ lw_tbl := fun w h => (List.mem_filter.mp h).1
def ck_w (i : Nat) (w : Cond) : Bool := match lw_tbl[i]? with
  | some v => decide (v = w) && goodWord w
  | none => false
theorem ck_w_ok {i : Nat} {w : Cond} (h : ck_w i w = true) : w ∈ aAW := by
  unfold ck_w at h
  split at h
  next v e =>
    rw [Bool.and_eq_true, decide_eq_true_eq] at h
    exact List.mem_filter.mpr ⟨h.1 ▸ List.mem_of_getElem? e, h.2⟩
  next => cases h
def ck_r32 (z : Int) : Bool := decide (-2147483648 ≤ z) && decide (z < 2147483648)
def ck_r64 (z : Int) : Bool := decide (-9223372036854775808 ≤ z) && decide (z < 9223372036854775808)
theorem ck_r32_ok {z : Int} (h : ck_r32 z = true) : aR32 z := by
  simpa [ck_r32, aR32] using h
theorem ck_r64_ok {z : Int} (h : ck_r64 z = true) : aR64 z := by
  simpa [ck_r64, aR64] using h
section CK
variable (G : AG) (ns nm ncl : Nat) (cn : Nat → String) (yn : Nat → MethodName) (bc : Nat → ByteArray) (tf : Nat → u_T × Nat × (Nat → FieldType)) (AN : List Cond)
variable (zs : List ((String × String × String) × Nat)) (sk : Nat → String × Nat × String) (ar : Nat → Nat)
def ck_F (y j : Nat) (x : AX) (i : Nat) : Bool := Nat.blt x.2.1 ncl && Nat.blt x.2.2 (tf x.2.1).2.1 && ck_w i (Cond.fieldLink (aOw G cn y) j ((tf x.2.1).1 x.2.2).1 ((tf x.2.1).1 x.2.2).2.1 ((tf x.2.1).1 x.2.2).2.2.1)
def ck_N (y j : Nat) (n : MethodName) (i : Nat) : Bool := match AN[i]? with
  | some (.methodLinkNest a b c _) => decide (a = aOw G cn y) && Nat.beq b j && decide (c = n)
  | _ => false
def ck_Z (y j q : Nat) (i : Nat) : List ((String × String × String) × Nat) → Bool
  | [] => false
  | z :: r => cond (Nat.beq z.2 q) (ck_w i (Cond.fieldLink (aOw G cn y) j z.1.1 z.1.2.1 z.1.2.2)) (ck_Z y j q i r)
def ck_I (y : Nat) (ins : Jvm.ClassFile.Instr) (x : AX) (i : Nat) : Bool := match ins with
  | .iconst n => ck_r32 n
  | .bipush n => decide (-128 ≤ n) && decide (n < 128)
  | .sipush n => decide (-32768 ≤ n) && decide (n < 32768)
  | .iinc k n => ck_r32 n && Nat.blt k (aMx G y)
  | .ldc j => match x with
    | (z, 0, _) => ck_r32 z && ck_w i (Cond.constant (aOw G cn y) j (Int32.ofInt z))
    | (_, 1, k) => Nat.blt k ns && decide ((sk k).1 = aOw G cn y) && Nat.beq (sk k).2.1 j
    | _ => true
  | .ldc_w j => ck_r32 x.1 && ck_w i (Cond.constant (aOw G cn y) j (Int32.ofInt x.1))
  | .ldc2_w j => ck_r64 x.1 && ck_w i (Cond.constantLong (aOw G cn y) j (Int64.ofInt x.1))
  | .istore_n k => Nat.blt k (aMx G y)
  | .istore k => Nat.blt k (aMx G y)
  | .astore_n k => Nat.blt k (aMx G y)
  | .astore k => Nat.blt k (aMx G y)
  | .lstore_n k => Nat.blt (k + 1) (aMx G y)
  | .lstore k => Nat.blt (k + 1) (aMx G y)
  | .getfield j => ck_F G ncl cn tf y j x i
  | .putfield j => ck_F G ncl cn tf y j x i && !((tf x.2.1).1 x.2.2).2.2.2
  | .getstatic j => ck_Z G cn y j x.2.1 i zs
  | .invokestatic j => Nat.blt x.2.1 nm && Nat.beq x.2.2 (ar x.2.1) && cond (Nat.blt i 100000) (ck_w i (Cond.methodLink (aOw G cn y) j (yn x.2.1))) (ck_N G cn AN y j (yn x.2.1) (i - 100000))
  | .invokevirtual j => match x.1 with
    | 0 => Nat.blt x.2.1 nm && Nat.beq x.2.2 (ar x.2.1) && ck_w i (Cond.methodLink (aOw G cn y) j (yn x.2.1))
    | 1 => ck_w i (Cond.methodLink (aOw G cn y) j aLenN)
    | 2 => ck_w i (Cond.methodLink (aOw G cn y) j aChrN)
    | _ => true
  | .tableswitch _ lo hi offs => decide (hi - lo + 1 = offs.size) && ck_r32 lo && ck_r32 hi
  | .lookupswitch _ ps => (ps.toList.zip (ps.toList.drop 1)).all (fun (a, next) => a.1 < next.1)
  | _ => true
def ck_J (pc : Nat) (ins : Jvm.ClassFile.Instr) : Bool := match ins with
  | .goto o => decide (0 ≤ (pc : Int) + o)
  | .if_icmp _ o => decide (0 ≤ (pc : Int) + o)
  | .ifCond _ o => decide (0 ≤ (pc : Int) + o)
  | .tableswitch d _ _ offs => decide (0 ≤ (pc : Int) + d) && offs.toList.all (fun o => decide (0 ≤ (pc : Int) + o))
  | .lookupswitch d ps => decide (0 ≤ (pc : Int) + d) && ps.toList.all (fun q => decide (0 ≤ (pc : Int) + q.2))
  | _ => true
def ck_sw (ins : Jvm.ClassFile.Instr) : Bool := match ins with
  | .tableswitch _ _ _ _ => true
  | .lookupswitch _ _ => true
  | _ => false
def ck_D (y pc : Nat) (ins : Jvm.ClassFile.Instr) : Bool := match decode (bc y) pc with
  | .ok (i, n) => decide (i = ins) && (ck_sw ins || Nat.beq n (a_len ins))
  | _ => false
def ck_L (y : Nat) : Nat → AB → List Nat → Bool
  | _, [], _ => true
  | _, _ :: _, [] => false
  | pc, (ins, x) :: rs, i :: is => ck_D bc y pc ins && ck_J pc ins && ck_I G ns nm ncl cn yn tf AN zs sk ar y ins x i && ck_L y (pc + a_len ins) rs is
def ck_B (y : Nat) : List (Nat × AB) → List (List Nat) → Bool
  | [], _ => true
  | _ :: _, [] => false
  | (pc, b) :: r, i :: is => ck_L G ns nm ncl cn yn bc tf AN zs sk ar y pc b i && ck_B y r is
variable {G ns nm ncl cn yn bc tf AN zs sk ar}
theorem ck_F_ok {y j i : Nat} {x : AX} (h : ck_F G ncl cn tf y j x i = true) : okF G ncl cn tf aAW y j x := by
  unfold ck_F at h
  rw [Bool.and_eq_true, Bool.and_eq_true] at h
  exact ⟨Nat.le_of_ble_eq_true h.1.1, Nat.le_of_ble_eq_true h.1.2, ck_w_ok h.2⟩
theorem ck_Z_ok {y j q i : Nat} : ∀ (z : List ((String × String × String) × Nat)), ck_Z G cn y j q i z = true → ∃ C n d, ((C, n, d), q) ∈ z ∧ Cond.fieldLink (aOw G cn y) j C n d ∈ aAW
  | [], h => by cases h
  | z :: r, h => by
    unfold ck_Z at h
    cases e : Nat.beq z.2 q
    · rw [e] at h
      obtain ⟨C, n, d, h1, h2⟩ := ck_Z_ok r h
      exact ⟨C, n, d, List.mem_cons_of_mem _ h1, h2⟩
    · rw [e] at h
      have := Nat.eq_of_beq_eq_true e
      subst this
      exact ⟨z.1.1, z.1.2.1, z.1.2.2, List.mem_cons_self, ck_w_ok h⟩
theorem ck_N_ok {y j i : Nat} {n : MethodName} (h : ck_N G cn AN y j n i = true) : ∃ host, Cond.methodLinkNest (aOw G cn y) j n host ∈ AN := by
  unfold ck_N at h
  split at h
  next a b c d e =>
    rw [Bool.and_eq_true, Bool.and_eq_true, decide_eq_true_eq, decide_eq_true_eq] at h
    obtain ⟨⟨h1, h2⟩, h3⟩ := h
    have h2 := Nat.eq_of_beq_eq_true h2
    subst h1; subst h2; subst h3
    exact ⟨d, List.mem_of_getElem? e⟩
  next => cases h
theorem ck_I_ok (har : ∀ y, y < nm → (parseMethodDescriptor (yn y).desc).map (fun d => d.parameters.length) = some (ar y)) {y i : Nat} {ins : Jvm.ClassFile.Instr} {x : AX} (h : ck_I G ns nm ncl cn yn tf AN zs sk ar y ins x i = true) : okI G ns nm ncl cn yn tf aAW AN zs sk y ins x := by
  have lt : ∀ {a b : Nat}, Nat.blt a b = true → a < b := fun h => Nat.le_of_ble_eq_true h
  cases ins <;> try exact trivial
  case iconst n => exact ck_r32_ok h
  case bipush n => simpa [ck_I, okI] using h
  case sipush n => simpa [ck_I, okI] using h
  case iinc k n =>
    simp only [ck_I, Bool.and_eq_true] at h
    exact ⟨ck_r32_ok h.1, lt h.2⟩
  case ldc j =>
    simp only [ck_I] at h
    simp only [okI]
    split at h
    next z k =>
      rw [Bool.and_eq_true] at h
      exact ⟨ck_r32_ok h.1, ck_w_ok h.2⟩
    next z k =>
      rw [Bool.and_eq_true, Bool.and_eq_true, decide_eq_true_eq] at h
      exact ⟨lt h.1.1, h.1.2, Nat.eq_of_beq_eq_true h.2⟩
    next h1 h2 => split <;> first | trivial | (exfalso; first | exact h1 _ _ rfl | exact h2 _ _ rfl)
  case ldc_w j =>
    simp only [ck_I, Bool.and_eq_true] at h
    exact ⟨ck_r32_ok h.1, ck_w_ok h.2⟩
  case ldc2_w j =>
    simp only [ck_I, Bool.and_eq_true] at h
    exact ⟨ck_r64_ok h.1, ck_w_ok h.2⟩
  case istore_n k => exact lt h
  case istore k => exact lt h
  case astore_n k => exact lt h
  case astore k => exact lt h
  case lstore_n k => exact lt h
  case lstore k => exact lt h
  case getfield j => exact ck_F_ok h
  case putfield j =>
    simp only [ck_I, Bool.and_eq_true] at h
    exact ⟨ck_F_ok h.1, by simpa using h.2⟩
  case getstatic j => exact ck_Z_ok zs h
  case invokestatic j =>
    simp only [ck_I, Bool.and_eq_true] at h
    obtain ⟨⟨h1, h2⟩, h3⟩ := h
    refine ⟨lt h1, by rw [har _ (lt h1), Nat.eq_of_beq_eq_true h2], ?_⟩
    cases e : Nat.blt i 100000
    · rw [e] at h3; exact Or.inr (ck_N_ok h3)
    · rw [e] at h3; exact Or.inl (ck_w_ok h3)
  case invokevirtual j =>
    simp only [ck_I] at h
    simp only [okI]
    split at h
    next e =>
      simp only [e]
      rw [Bool.and_eq_true, Bool.and_eq_true] at h
      exact ⟨lt h.1.1, by rw [har _ (lt h.1.1), Nat.eq_of_beq_eq_true h.1.2], ck_w_ok h.2⟩
    next e => simp only [e]; exact ck_w_ok h
    next e => simp only [e]; exact ck_w_ok h
    next h0 h1 h2 => split <;> first | trivial | (exfalso; first | exact h0 ‹_› | exact h1 ‹_› | exact h2 ‹_›)
  case tableswitch d lo hi offs =>
    simp only [ck_I, Bool.and_eq_true, decide_eq_true_eq] at h
    exact ⟨h.1.1, ck_r32_ok h.1.2, ck_r32_ok h.2⟩
  case lookupswitch d ps => exact h
theorem ck_J_ok {pc : Nat} {ins : Jvm.ClassFile.Instr} (h : ck_J pc ins = true) : okJ pc ins := by
  cases ins
  case tableswitch d lo hi offs =>
    simp only [ck_J, Bool.and_eq_true, decide_eq_true_eq, List.all_eq_true] at h
    exact h
  case lookupswitch d ps =>
    simp only [ck_J, Bool.and_eq_true, decide_eq_true_eq, List.all_eq_true] at h
    exact h
  all_goals first | exact trivial | (simpa [ck_J, okJ] using h)
theorem ck_D_ok {y pc : Nat} {ins : Jvm.ClassFile.Instr} (h : ck_D bc y pc ins = true) : okD bc y pc ins := by
  unfold ck_D at h
  split at h
  next i n e =>
    rw [Bool.and_eq_true, decide_eq_true_eq, Bool.or_eq_true] at h
    obtain ⟨h1, h2⟩ := h
    subst h1
    cases i <;> first
      | exact ⟨n, e⟩
      | (rcases h2 with h2 | h2
         · cases h2
         · rw [Nat.eq_of_beq_eq_true h2] at e; exact e)
  next => cases h
theorem ck_L_ok (har : ∀ y, y < nm → (parseMethodDescriptor (yn y).desc).map (fun d => d.parameters.length) = some (ar y)) {y : Nat} : ∀ (b : AB) (pc : Nat) (is : List Nat), ck_L G ns nm ncl cn yn bc tf AN zs sk ar y pc b is = true → okL G ns nm ncl cn yn bc tf aAW AN zs sk y pc b
  | [], _, _, _ => trivial
  | _ :: _, _, [], h => by cases h
  | (ins, x) :: rs, pc, i :: is, h => by
    unfold ck_L at h
    rw [Bool.and_eq_true, Bool.and_eq_true, Bool.and_eq_true] at h
    exact ⟨ck_D_ok h.1.1.1, ck_J_ok h.1.1.2, ck_I_ok har h.1.2, ck_L_ok har rs _ is h.2⟩
theorem ck_B_ok (har : ∀ y, y < nm → (parseMethodDescriptor (yn y).desc).map (fun d => d.parameters.length) = some (ar y)) {y : Nat} : ∀ (L : List (Nat × AB)) (is : List (List Nat)), ck_B G ns nm ncl cn yn bc tf AN zs sk ar y L is = true → ∀ e ∈ L, okL G ns nm ncl cn yn bc tf aAW AN zs sk y e.1 e.2
  | [], _, _ => fun e he => by cases he
  | _ :: _, [], h => by cases h
  | (pc, b) :: r, i :: is, h => by
    unfold ck_B at h
    rw [Bool.and_eq_true] at h
    intro e he
    rcases List.mem_cons.mp he with q | q
    · rw [q]; exact ck_L_ok har _ _ _ h.1
    · exact ck_B_ok har r is h.2 e q
end CK
end
section
/-! THE SYSTEM 1: its cells, methods, blocks (by program from the names, the listing and the tables) -/
def s1_kd : Nat → AK := fun q => cond (Nat.blt q 207) (cond (Nat.blt q 44) (cond (Nat.blt q 22) (cond (Nat.blt q 11) (cond (Nat.blt q 5) (cond (Nat.blt q 2) (cond (Nat.blt q 1) (kO 11 [3, 4, 5, 6, 9, 10, 11, 12, 13, 14, 0]) (kO 5 [15, 16, 17, 18, 0, 0])) (cond (Nat.blt q 3) (kO 3 [19, 20, 21, 22, 23, 24, 25, 0, 26, 0, 27, 28, 0, 29]) (cond (Nat.blt q 4) (kO 0 [0, 30, 31, 32, 33, 34, 35, 36, 37, 0, 0, 0, 38, 39]) (kO 4 [5, 40, 0, 0, 0, 0])))) (cond (Nat.blt q 8) (cond (Nat.blt q 6) (kO 6 [4, 41, 42, 43, 44, 0, 45]) (cond (Nat.blt q 7) (kO 1 [46, 47, 48, 49, 50, 51, 0]) (kO 7 [3, 4, 5, 7, 8, 52, 53, 54, 55, 56, 57, 0, 0]))) (cond (Nat.blt q 9) (kO 8 [5, 58, 59, 60, 0]) (cond (Nat.blt q 10) (kO 9 [61, 62, 63, 64, 65, 66, 0]) (kO 2 [67, 68, 69, 70, 71, 0, 0, 72, 1, 73, 74, 0]))))) (cond (Nat.blt q 16) (cond (Nat.blt q 13) (cond (Nat.blt q 12) (kO 10 [3, 75, 0, 76, 77, 78, 79, 0, 0, 0, 0]) (kA 3 12)) (cond (Nat.blt q 14) (kA 0 40) (cond (Nat.blt q 15) (kA 0 12) (kA 0 12)))) (cond (Nat.blt q 19) (cond (Nat.blt q 17) (kA 0 12) (cond (Nat.blt q 18) (kA 0 150) (kA 0 150))) (cond (Nat.blt q 20) (kA 0 150) (cond (Nat.blt q 21) (kA 0 150) (kA 0 150)))))) (cond (Nat.blt q 33) (cond (Nat.blt q 27) (cond (Nat.blt q 24) (cond (Nat.blt q 23) (kA 0 150) (kA 0 150)) (cond (Nat.blt q 25) (kA 0 150) (cond (Nat.blt q 26) (kA 1 150) (kA 0 150)))) (cond (Nat.blt q 30) (cond (Nat.blt q 28) (kR 6 40 78) (cond (Nat.blt q 29) (kA 0 10) (kA 0 10))) (cond (Nat.blt q 31) (kA 0 10) (cond (Nat.blt q 32) (kA 0 120) (kA 0 120))))) (cond (Nat.blt q 38) (cond (Nat.blt q 35) (cond (Nat.blt q 34) (kA 0 120) (kA 0 120)) (cond (Nat.blt q 36) (kA 0 2000) (cond (Nat.blt q 37) (kA 0 8) (kA 0 8)))) (cond (Nat.blt q 41) (cond (Nat.blt q 39) (kA 2 200) (cond (Nat.blt q 40) (kA 0 12) (kA 0 12))) (cond (Nat.blt q 42) (kA 1 12) (cond (Nat.blt q 43) (kA 0 150) (kA 1 150))))))) (cond (Nat.blt q 66) (cond (Nat.blt q 55) (cond (Nat.blt q 49) (cond (Nat.blt q 46) (cond (Nat.blt q 45) (kA 0 300) (kA 0 300)) (cond (Nat.blt q 47) (kA 0 300) (cond (Nat.blt q 48) (kA 0 300) (kA 0 300)))) (cond (Nat.blt q 52) (cond (Nat.blt q 50) (kA 1 300) (cond (Nat.blt q 51) (kA 3 12) (kR 12 40 84))) (cond (Nat.blt q 53) (kA 0 12) (cond (Nat.blt q 54) (kA 0 12) (kA 0 150))))) (cond (Nat.blt q 60) (cond (Nat.blt q 57) (cond (Nat.blt q 56) (kA 0 6) (kA 0 20)) (cond (Nat.blt q 58) (kA 0 20) (cond (Nat.blt q 59) (kR 20 5 96) (kA 0 24)))) (cond (Nat.blt q 63) (cond (Nat.blt q 61) (kR 24 8 116) (cond (Nat.blt q 62) (kR 24 8 140) (kR 24 8 164))) (cond (Nat.blt q 64) (kR 9 256 188) (cond (Nat.blt q 65) (kA 0 8) (kA 0 16)))))) (cond (Nat.blt q 77) (cond (Nat.blt q 71) (cond (Nat.blt q 68) (cond (Nat.blt q 67) (kA 0 16) (kA 0 16)) (cond (Nat.blt q 69) (kA 0 16) (cond (Nat.blt q 70) (kA 0 16) (kA 0 16)))) (cond (Nat.blt q 74) (cond (Nat.blt q 72) (kA 0 16) (cond (Nat.blt q 73) (kA 0 16) (kA 0 8))) (cond (Nat.blt q 75) (kR 8 256 197) (cond (Nat.blt q 76) (kA 0 256) (kA 0 256))))) (cond (Nat.blt q 140) (cond (Nat.blt q 84) (cond (Nat.blt q 78) (kA 0 8) (kW 27 (q - 78) 40)) (cond (Nat.blt q 96) (kW 51 (q - 84) 40) (cond (Nat.blt q 116) (kW 58 (q - 96) 5) (kW 60 (q - 116) 8)))) (cond (Nat.blt q 197) (cond (Nat.blt q 164) (kW 61 (q - 140) 8) (cond (Nat.blt q 188) (kW 62 (q - 164) 8) (kW 63 (q - 188) 256))) (cond (Nat.blt q 205) (kW 74 (q - 197) 256) (cond (Nat.blt q 206) (kC [6, 30, 100, 0, 0, 0, 0, 0]) (kC [24, 99, 999, 1, 1, 2, 999, 999])))))))) (kC [])
def s1_cn : Nat → String := fun c => (cond (Nat.blt c 8) (cond (Nat.blt c 4) (cond (Nat.blt c 2) (cond (Nat.blt c 1) RX0 RX1) (cond (Nat.blt c 3) RX2 RX3)) (cond (Nat.blt c 6) (cond (Nat.blt c 5) RX4 RX5) (cond (Nat.blt c 7) RX6 RX7))) (cond (Nat.blt c 12) (cond (Nat.blt c 10) (cond (Nat.blt c 9) RX8 RX9) (cond (Nat.blt c 11) RX10 RX11)) (cond (Nat.blt c 14) (cond (Nat.blt c 13) RX12 "java/lang/Math") (cond (Nat.blt c 15) "java/lang/Integer" "java/lang/Long"))))
def s1_tf : Nat → u_T × Nat × (Nat → FieldType) := fun c => (cond (Nat.blt c 6) (cond (Nat.blt c 3) (cond (Nat.blt c 1) (TX0, 14, tyX0) (cond (Nat.blt c 2) (TX1, 7, tyX1) (TX2, 12, tyX2))) (cond (Nat.blt c 4) (TX3, 14, tyX3) (cond (Nat.blt c 5) (TX4, 6, tyX4) (TX5, 6, tyX5)))) (cond (Nat.blt c 9) (cond (Nat.blt c 7) (TX6, 7, tyX6) (cond (Nat.blt c 8) (TX7, 13, tyX7) (TX8, 5, tyX8))) (cond (Nat.blt c 11) (cond (Nat.blt c 10) (TX9, 7, tyX9) (TX10, 11, tyX10)) (cond (Nat.blt c 12) (TX11, 11, tyX11) (TX12, 97, tyX12)))))
def s1_mt : Nat → Nat × Nat × Nat × Nat := fun y => (cond (Nat.blt y 78) (cond (Nat.blt y 39) (cond (Nat.blt y 19) (cond (Nat.blt y 9) (cond (Nat.blt y 4) (cond (Nat.blt y 2) (cond (Nat.blt y 1) (0, 1, 0, 1) (0, 6, 0, 1)) (cond (Nat.blt y 3) (0, 2, 0, 1) (0, 1, 1, 1))) (cond (Nat.blt y 6) (cond (Nat.blt y 5) (0, 4, 1, 1) (0, 2, 2, 1)) (cond (Nat.blt y 7) (0, 3, 1, 1) (cond (Nat.blt y 8) (0, 4, 0, 1) (0, 4, 1, 1))))) (cond (Nat.blt y 14) (cond (Nat.blt y 11) (cond (Nat.blt y 10) (0, 3, 0, 1) (0, 7, 1, 1)) (cond (Nat.blt y 12) (0, 9, 2, 1) (cond (Nat.blt y 13) (0, 5, 2, 0) (1, 1, 1, 0)))) (cond (Nat.blt y 16) (cond (Nat.blt y 15) (1, 1, 0, 1) (1, 7, 0, 1)) (cond (Nat.blt y 17) (1, 5, 1, 1) (cond (Nat.blt y 18) (1, 4, 1, 1) (1, 9, 1, 1)))))) (cond (Nat.blt y 29) (cond (Nat.blt y 24) (cond (Nat.blt y 21) (cond (Nat.blt y 20) (1, 4, 1, 0) (2, 6, 1, 1)) (cond (Nat.blt y 22) (2, 3, 2, 1) (cond (Nat.blt y 23) (2, 4, 2, 1) (2, 4, 0, 1)))) (cond (Nat.blt y 26) (cond (Nat.blt y 25) (2, 5, 1, 1) (2, 5, 1, 1)) (cond (Nat.blt y 27) (2, 4, 2, 1) (cond (Nat.blt y 28) (3, 1, 2, 0) (3, 1, 2, 0))))) (cond (Nat.blt y 34) (cond (Nat.blt y 31) (cond (Nat.blt y 30) (3, 1, 2, 0) (3, 10, 1, 1)) (cond (Nat.blt y 32) (3, 4, 0, 1) (cond (Nat.blt y 33) (3, 3, 0, 1) (3, 5, 2, 1)))) (cond (Nat.blt y 36) (cond (Nat.blt y 35) (3, 2, 2, 1) (3, 5, 1, 1)) (cond (Nat.blt y 37) (3, 5, 1, 1) (cond (Nat.blt y 38) (4, 2, 0, 1) (4, 4, 1, 1))))))) (cond (Nat.blt y 58) (cond (Nat.blt y 48) (cond (Nat.blt y 43) (cond (Nat.blt y 41) (cond (Nat.blt y 40) (4, 1, 2, 1) (4, 3, 0, 1)) (cond (Nat.blt y 42) (4, 3, 0, 1) (4, 3, 0, 1))) (cond (Nat.blt y 45) (cond (Nat.blt y 44) (4, 3, 0, 1) (4, 7, 0, 1)) (cond (Nat.blt y 46) (4, 4, 0, 1) (cond (Nat.blt y 47) (4, 4, 1, 1) (4, 2, 0, 1))))) (cond (Nat.blt y 53) (cond (Nat.blt y 50) (cond (Nat.blt y 49) (4, 2, 2, 1) (4, 4, 2, 1)) (cond (Nat.blt y 51) (4, 1, 0, 1) (cond (Nat.blt y 52) (4, 1, 1, 1) (4, 1, 1, 1)))) (cond (Nat.blt y 55) (cond (Nat.blt y 54) (4, 1, 1, 1) (4, 1, 1, 1)) (cond (Nat.blt y 56) (5, 2, 1, 1) (cond (Nat.blt y 57) (5, 4, 1, 1) (5, 3, 1, 1)))))) (cond (Nat.blt y 68) (cond (Nat.blt y 63) (cond (Nat.blt y 60) (cond (Nat.blt y 59) (5, 2, 1, 1) (6, 2, 0, 1)) (cond (Nat.blt y 61) (6, 4, 0, 1) (cond (Nat.blt y 62) (6, 2, 0, 1) (6, 2, 1, 1)))) (cond (Nat.blt y 65) (cond (Nat.blt y 64) (6, 4, 1, 1) (6, 4, 1, 1)) (cond (Nat.blt y 66) (6, 5, 1, 1) (cond (Nat.blt y 67) (6, 5, 1, 1) (6, 4, 0, 1))))) (cond (Nat.blt y 73) (cond (Nat.blt y 70) (cond (Nat.blt y 69) (7, 1, 0, 1) (7, 7, 0, 1)) (cond (Nat.blt y 71) (7, 2, 0, 1) (cond (Nat.blt y 72) (7, 10, 0, 1) (7, 6, 1, 1)))) (cond (Nat.blt y 75) (cond (Nat.blt y 74) (7, 6, 2, 1) (7, 6, 0, 1)) (cond (Nat.blt y 76) (7, 5, 0, 1) (cond (Nat.blt y 77) (7, 3, 2, 1) (7, 2, 1, 1)))))))) (cond (Nat.blt y 117) (cond (Nat.blt y 97) (cond (Nat.blt y 87) (cond (Nat.blt y 82) (cond (Nat.blt y 80) (cond (Nat.blt y 79) (7, 4, 1, 1) (7, 4, 1, 1)) (cond (Nat.blt y 81) (7, 3, 1, 1) (7, 5, 1, 1))) (cond (Nat.blt y 84) (cond (Nat.blt y 83) (7, 7, 1, 1) (7, 7, 1, 1)) (cond (Nat.blt y 85) (7, 3, 1, 0) (cond (Nat.blt y 86) (8, 2, 1, 1) (8, 3, 1, 1))))) (cond (Nat.blt y 92) (cond (Nat.blt y 89) (cond (Nat.blt y 88) (8, 3, 1, 1) (8, 4, 1, 1)) (cond (Nat.blt y 90) (8, 4, 1, 1) (cond (Nat.blt y 91) (8, 5, 2, 1) (8, 4, 1, 1)))) (cond (Nat.blt y 94) (cond (Nat.blt y 93) (9, 6, 1, 1) (9, 1, 1, 1)) (cond (Nat.blt y 95) (9, 3, 1, 1) (cond (Nat.blt y 96) (9, 6, 0, 1) (9, 6, 1, 1)))))) (cond (Nat.blt y 107) (cond (Nat.blt y 102) (cond (Nat.blt y 99) (cond (Nat.blt y 98) (9, 5, 1, 1) (9, 6, 1, 1)) (cond (Nat.blt y 100) (9, 3, 1, 1) (cond (Nat.blt y 101) (9, 5, 1, 1) (10, 4, 2, 1)))) (cond (Nat.blt y 104) (cond (Nat.blt y 103) (10, 3, 0, 1) (10, 5, 1, 1)) (cond (Nat.blt y 105) (10, 5, 0, 1) (cond (Nat.blt y 106) (10, 4, 1, 1) (10, 4, 1, 1))))) (cond (Nat.blt y 112) (cond (Nat.blt y 109) (cond (Nat.blt y 108) (11, 2, 1, 1) (11, 2, 1, 1)) (cond (Nat.blt y 110) (11, 4, 1, 1) (cond (Nat.blt y 111) (11, 5, 1, 1) (11, 8, 1, 1)))) (cond (Nat.blt y 114) (cond (Nat.blt y 113) (11, 3, 1, 1) (11, 3, 1, 1)) (cond (Nat.blt y 115) (11, 4, 1, 1) (cond (Nat.blt y 116) (11, 2, 1, 1) (11, 5, 1, 1))))))) (cond (Nat.blt y 136) (cond (Nat.blt y 126) (cond (Nat.blt y 121) (cond (Nat.blt y 119) (cond (Nat.blt y 118) (11, 3, 1, 1) (11, 1, 1, 1)) (cond (Nat.blt y 120) (11, 4, 1, 1) (11, 3, 1, 1))) (cond (Nat.blt y 123) (cond (Nat.blt y 122) (11, 5, 1, 1) (11, 5, 1, 1)) (cond (Nat.blt y 124) (11, 4, 1, 1) (cond (Nat.blt y 125) (11, 4, 1, 1) (11, 3, 1, 1))))) (cond (Nat.blt y 131) (cond (Nat.blt y 128) (cond (Nat.blt y 127) (11, 6, 1, 1) (11, 6, 1, 1)) (cond (Nat.blt y 129) (11, 6, 1, 1) (cond (Nat.blt y 130) (11, 4, 1, 1) (11, 3, 1, 1)))) (cond (Nat.blt y 133) (cond (Nat.blt y 132) (11, 3, 1, 1) (11, 4, 1, 1)) (cond (Nat.blt y 134) (11, 8, 1, 1) (cond (Nat.blt y 135) (11, 6, 1, 1) (11, 3, 1, 1)))))) (cond (Nat.blt y 146) (cond (Nat.blt y 141) (cond (Nat.blt y 138) (cond (Nat.blt y 137) (11, 6, 1, 1) (11, 3, 1, 1)) (cond (Nat.blt y 139) (11, 2, 1, 1) (cond (Nat.blt y 140) (11, 4, 1, 1) (11, 3, 2, 0)))) (cond (Nat.blt y 143) (cond (Nat.blt y 142) (11, 1, 1, 0) (11, 1, 2, 0)) (cond (Nat.blt y 144) (11, 1, 2, 0) (cond (Nat.blt y 145) (11, 2, 2, 0) (11, 2, 2, 1))))) (cond (Nat.blt y 151) (cond (Nat.blt y 148) (cond (Nat.blt y 147) (11, 2, 2, 1) (11, 2, 2, 1)) (cond (Nat.blt y 149) (11, 2, 2, 1) (cond (Nat.blt y 150) (11, 2, 2, 1) (11, 2, 2, 1)))) (cond (Nat.blt y 153) (cond (Nat.blt y 152) (14, 1, 1, 0) (15, 2, 1, 0)) (cond (Nat.blt y 154) (13, 1, 1, 0) (cond (Nat.blt y 155) (13, 2, 1, 0) (13, 2, 1, 0)))))))))
def s1_ar : Nat → Nat := fun y => (cond (Nat.blt y 78) (cond (Nat.blt y 39) (cond (Nat.blt y 19) (cond (Nat.blt y 9) (cond (Nat.blt y 4) (cond (Nat.blt y 2) (cond (Nat.blt y 1) 0 4) (cond (Nat.blt y 3) 1 0)) (cond (Nat.blt y 6) (cond (Nat.blt y 5) 1 1) (cond (Nat.blt y 7) 2 (cond (Nat.blt y 8) 1 1)))) (cond (Nat.blt y 14) (cond (Nat.blt y 11) (cond (Nat.blt y 10) 1 2) (cond (Nat.blt y 12) 3 (cond (Nat.blt y 13) 2 1))) (cond (Nat.blt y 16) (cond (Nat.blt y 15) 0 6) (cond (Nat.blt y 17) 2 (cond (Nat.blt y 18) 2 4))))) (cond (Nat.blt y 29) (cond (Nat.blt y 24) (cond (Nat.blt y 21) (cond (Nat.blt y 20) 4 5) (cond (Nat.blt y 22) 2 (cond (Nat.blt y 23) 2 0))) (cond (Nat.blt y 26) (cond (Nat.blt y 25) 3 2) (cond (Nat.blt y 27) 2 (cond (Nat.blt y 28) 1 1)))) (cond (Nat.blt y 34) (cond (Nat.blt y 31) (cond (Nat.blt y 30) 1 7) (cond (Nat.blt y 32) 1 (cond (Nat.blt y 33) 1 3))) (cond (Nat.blt y 36) (cond (Nat.blt y 35) 1 2) (cond (Nat.blt y 37) 2 (cond (Nat.blt y 38) 1 0)))))) (cond (Nat.blt y 58) (cond (Nat.blt y 48) (cond (Nat.blt y 43) (cond (Nat.blt y 41) (cond (Nat.blt y 40) 0 2) (cond (Nat.blt y 42) 0 0)) (cond (Nat.blt y 45) (cond (Nat.blt y 44) 0 1) (cond (Nat.blt y 46) 0 (cond (Nat.blt y 47) 1 1)))) (cond (Nat.blt y 53) (cond (Nat.blt y 50) (cond (Nat.blt y 49) 1 1) (cond (Nat.blt y 51) 0 (cond (Nat.blt y 52) 0 0))) (cond (Nat.blt y 55) (cond (Nat.blt y 54) 0 0) (cond (Nat.blt y 56) 1 (cond (Nat.blt y 57) 3 2))))) (cond (Nat.blt y 68) (cond (Nat.blt y 63) (cond (Nat.blt y 60) (cond (Nat.blt y 59) 1 0) (cond (Nat.blt y 61) 3 (cond (Nat.blt y 62) 1 1))) (cond (Nat.blt y 65) (cond (Nat.blt y 64) 1 2) (cond (Nat.blt y 66) 2 (cond (Nat.blt y 67) 2 1)))) (cond (Nat.blt y 73) (cond (Nat.blt y 70) (cond (Nat.blt y 69) 0 2) (cond (Nat.blt y 71) 0 (cond (Nat.blt y 72) 2 3))) (cond (Nat.blt y 75) (cond (Nat.blt y 74) 4 4) (cond (Nat.blt y 76) 3 (cond (Nat.blt y 77) 2 1))))))) (cond (Nat.blt y 117) (cond (Nat.blt y 97) (cond (Nat.blt y 87) (cond (Nat.blt y 82) (cond (Nat.blt y 80) (cond (Nat.blt y 79) 1 1) (cond (Nat.blt y 81) 2 2)) (cond (Nat.blt y 84) (cond (Nat.blt y 83) 3 2) (cond (Nat.blt y 85) 3 (cond (Nat.blt y 86) 1 2)))) (cond (Nat.blt y 92) (cond (Nat.blt y 89) (cond (Nat.blt y 88) 2 2) (cond (Nat.blt y 90) 2 (cond (Nat.blt y 91) 2 1))) (cond (Nat.blt y 94) (cond (Nat.blt y 93) 4 0) (cond (Nat.blt y 95) 2 (cond (Nat.blt y 96) 1 3))))) (cond (Nat.blt y 107) (cond (Nat.blt y 102) (cond (Nat.blt y 99) (cond (Nat.blt y 98) 3 3) (cond (Nat.blt y 100) 2 (cond (Nat.blt y 101) 2 2))) (cond (Nat.blt y 104) (cond (Nat.blt y 103) 0 2) (cond (Nat.blt y 105) 1 (cond (Nat.blt y 106) 2 1)))) (cond (Nat.blt y 112) (cond (Nat.blt y 109) (cond (Nat.blt y 108) 1 1) (cond (Nat.blt y 110) 3 (cond (Nat.blt y 111) 3 6))) (cond (Nat.blt y 114) (cond (Nat.blt y 113) 2 2) (cond (Nat.blt y 115) 3 (cond (Nat.blt y 116) 1 2)))))) (cond (Nat.blt y 136) (cond (Nat.blt y 126) (cond (Nat.blt y 121) (cond (Nat.blt y 119) (cond (Nat.blt y 118) 1 0) (cond (Nat.blt y 120) 3 2)) (cond (Nat.blt y 123) (cond (Nat.blt y 122) 4 4) (cond (Nat.blt y 124) 2 (cond (Nat.blt y 125) 2 2)))) (cond (Nat.blt y 131) (cond (Nat.blt y 128) (cond (Nat.blt y 127) 4 5) (cond (Nat.blt y 129) 3 (cond (Nat.blt y 130) 3 2))) (cond (Nat.blt y 133) (cond (Nat.blt y 132) 2 3) (cond (Nat.blt y 134) 4 (cond (Nat.blt y 135) 5 2))))) (cond (Nat.blt y 146) (cond (Nat.blt y 141) (cond (Nat.blt y 138) (cond (Nat.blt y 137) 5 2) (cond (Nat.blt y 139) 1 (cond (Nat.blt y 140) 3 3))) (cond (Nat.blt y 143) (cond (Nat.blt y 142) 1 1) (cond (Nat.blt y 144) 1 (cond (Nat.blt y 145) 2 1)))) (cond (Nat.blt y 151) (cond (Nat.blt y 148) (cond (Nat.blt y 147) 1 1) (cond (Nat.blt y 149) 1 (cond (Nat.blt y 150) 1 1))) (cond (Nat.blt y 153) (cond (Nat.blt y 152) 1 1) (cond (Nat.blt y 154) 1 (cond (Nat.blt y 155) 2 2))))))))
def s1_yn : Nat → MethodName := fun y => (cond (Nat.blt y 78) (cond (Nat.blt y 39) (cond (Nat.blt y 19) (cond (Nat.blt y 9) (cond (Nat.blt y 4) (cond (Nat.blt y 2) (cond (Nat.blt y 1) ⟨"DioceseBook$Canons", "draft", "()V"⟩ ⟨"DioceseBook$Canons", "addClause", "(IIII)V"⟩) (cond (Nat.blt y 3) ⟨"DioceseBook$Canons", "addCode", "(I)V"⟩ ⟨"DioceseBook$Canons", "codePlace", "()I"⟩)) (cond (Nat.blt y 6) (cond (Nat.blt y 5) ⟨"DioceseBook$Canons", "enact", "(I)I"⟩ ⟨"DioceseBook$Canons", "isCounting", "(I)Z"⟩) (cond (Nat.blt y 7) ⟨"DioceseBook$Canons", "numberOn", "(II)I"⟩ (cond (Nat.blt y 8) ⟨"DioceseBook$Canons", "settle", "(I)V"⟩ ⟨"DioceseBook$Canons", "struckBy", "(I)I"⟩)))) (cond (Nat.blt y 14) (cond (Nat.blt y 11) (cond (Nat.blt y 10) ⟨"DioceseBook$Canons", "letAll", "(I)V"⟩ ⟨"DioceseBook$Canons", "firstBar", "(I[I)I"⟩) (cond (Nat.blt y 12) ⟨"DioceseBook$Canons", "isMet", "(II[I)Z"⟩ (cond (Nat.blt y 13) ⟨"DioceseBook$Canons", "compares", "(I[I)Z"⟩ ⟨"DioceseBook$Changes", "stateOf", "(I)I"⟩))) (cond (Nat.blt y 16) (cond (Nat.blt y 15) ⟨"DioceseBook$Changes", "clearAll", "()V"⟩ ⟨"DioceseBook$Changes", "note", "(IIZIII)V"⟩) (cond (Nat.blt y 17) ⟨"DioceseBook$Changes", "rowOf", "(II)I"⟩ (cond (Nat.blt y 18) ⟨"DioceseBook$Changes", "lastFall", "(II)I"⟩ ⟨"DioceseBook$Changes", "daysOf", "(IIII)I"⟩))))) (cond (Nat.blt y 29) (cond (Nat.blt y 24) (cond (Nat.blt y 21) (cond (Nat.blt y 20) ⟨"DioceseBook$Changes", "common", "(IIII)I"⟩ ⟨"DioceseBook$Lives", "add", "(IIIII)I"⟩) (cond (Nat.blt y 22) ⟨"DioceseBook$Lives", "isAhead", "(II)Z"⟩ (cond (Nat.blt y 23) ⟨"DioceseBook$Lives", "joins", "(II)Z"⟩ ⟨"DioceseBook$Lives", "join", "()V"⟩))) (cond (Nat.blt y 26) (cond (Nat.blt y 25) ⟨"DioceseBook$Lives", "leastBehind", "(III)I"⟩ ⟨"DioceseBook$Lives", "mostLinks", "(II)I"⟩) (cond (Nat.blt y 27) ⟨"DioceseBook$Lives", "link", "(II)Z"⟩ (cond (Nat.blt y 28) ⟨"DioceseBook$Papers", "hasLiving", "(I)Z"⟩ ⟨"DioceseBook$Papers", "hasPerson", "(I)Z"⟩)))) (cond (Nat.blt y 34) (cond (Nat.blt y 31) (cond (Nat.blt y 30) ⟨"DioceseBook$Papers", "hasOther", "(I)Z"⟩ ⟨"DioceseBook$Papers", "add", "(IIIIIII)I"⟩) (cond (Nat.blt y 32) ⟨"DioceseBook$Papers", "open", "(I)V"⟩ (cond (Nat.blt y 33) ⟨"DioceseBook$Papers", "markVoid", "(I)V"⟩ ⟨"DioceseBook$Papers", "hadBy", "(III)Z"⟩))) (cond (Nat.blt y 36) (cond (Nat.blt y 35) ⟨"DioceseBook$Papers", "isInBook", "(I)Z"⟩ ⟨"DioceseBook$Papers", "heirBy", "(II)I"⟩) (cond (Nat.blt y 37) ⟨"DioceseBook$Papers", "firstNotice", "(II)I"⟩ (cond (Nat.blt y 38) ⟨"DioceseBook$Reader", "append", "(I)V"⟩ ⟨"DioceseBook$Reader", "readText", "()I"⟩)))))) (cond (Nat.blt y 58) (cond (Nat.blt y 48) (cond (Nat.blt y 43) (cond (Nat.blt y 41) (cond (Nat.blt y 40) ⟨"DioceseBook$Reader", "isAtEnd", "()Z"⟩ ⟨"DioceseBook$Reader", "fail", "(II)V"⟩) (cond (Nat.blt y 42) ⟨"DioceseBook$Reader", "readLet", "()V"⟩ ⟨"DioceseBook$Reader", "readStrike", "()V"⟩)) (cond (Nat.blt y 45) (cond (Nat.blt y 44) ⟨"DioceseBook$Reader", "readBar", "()V"⟩ ⟨"DioceseBook$Reader", "readTest", "(I)V"⟩) (cond (Nat.blt y 46) ⟨"DioceseBook$Reader", "readComparison", "()V"⟩ (cond (Nat.blt y 47) ⟨"DioceseBook$Reader", "readNumber", "(I)I"⟩ ⟨"DioceseBook$Reader", "expect", "(C)V"⟩)))) (cond (Nat.blt y 53) (cond (Nat.blt y 50) (cond (Nat.blt y 49) ⟨"DioceseBook$Reader", "takeSign", "(C)Z"⟩ ⟨"DioceseBook$Reader", "takeWord", "(Ljava/lang/String;)Z"⟩) (cond (Nat.blt y 51) ⟨"DioceseBook$Reader", "skipBlanks", "()V"⟩ (cond (Nat.blt y 52) ⟨"DioceseBook$Reader", "clauseWord", "()I"⟩ ⟨"DioceseBook$Reader", "nameWord", "()I"⟩))) (cond (Nat.blt y 55) (cond (Nat.blt y 54) ⟨"DioceseBook$Reader", "factWord", "()I"⟩ ⟨"DioceseBook$Reader", "compareSign", "()I"⟩) (cond (Nat.blt y 56) ⟨"DioceseBook$Register", "addPerson", "(I)I"⟩ (cond (Nat.blt y 57) ⟨"DioceseBook$Register", "addLiving", "(III)I"⟩ ⟨"DioceseBook$Register", "milesBetween", "(II)I"⟩))))) (cond (Nat.blt y 68) (cond (Nat.blt y 63) (cond (Nat.blt y 60) (cond (Nat.blt y 59) ⟨"DioceseBook$Register", "milesFromSee", "(I)I"⟩ ⟨"DioceseBook$Rights", "clearAll", "()V"⟩) (cond (Nat.blt y 61) ⟨"DioceseBook$Rights", "grant", "(III)V"⟩ (cond (Nat.blt y 62) ⟨"DioceseBook$Rights", "sell", "(I)V"⟩ ⟨"DioceseBook$Rights", "turnOf", "(I)I"⟩))) (cond (Nat.blt y 65) (cond (Nat.blt y 64) ⟨"DioceseBook$Rights", "soldLeft", "(I)I"⟩ ⟨"DioceseBook$Rights", "firstSold", "(II)I"⟩) (cond (Nat.blt y 66) ⟨"DioceseBook$Rights", "patronOn", "(II)I"⟩ (cond (Nat.blt y 67) ⟨"DioceseBook$Rights", "livingHeir", "(II)I"⟩ ⟨"DioceseBook$Rights", "useTurn", "(I)V"⟩)))) (cond (Nat.blt y 73) (cond (Nat.blt y 70) (cond (Nat.blt y 69) ⟨"DioceseBook$Story", "forget", "()V"⟩ ⟨"DioceseBook$Story", "tell", "(II)V"⟩) (cond (Nat.blt y 71) ⟨"DioceseBook$Story", "clearAll", "()V"⟩ (cond (Nat.blt y 72) ⟨"DioceseBook$Story", "takeIn", "(II)V"⟩ ⟨"DioceseBook$Story", "otherToKeep", "(III)I"⟩))) (cond (Nat.blt y 75) (cond (Nat.blt y 74) ⟨"DioceseBook$Story", "mayHoldBoth", "(IIII)Z"⟩ ⟨"DioceseBook$Story", "fallFromAllBut", "(IIII)V"⟩) (cond (Nat.blt y 76) ⟨"DioceseBook$Story", "fall", "(III)V"⟩ (cond (Nat.blt y 77) ⟨"DioceseBook$Story", "isHolder", "(II)Z"⟩ ⟨"DioceseBook$Story", "holderCount", "(I)I"⟩))))))) (cond (Nat.blt y 117) (cond (Nat.blt y 97) (cond (Nat.blt y 87) (cond (Nat.blt y 82) (cond (Nat.blt y 80) (cond (Nat.blt y 79) ⟨"DioceseBook$Story", "livingsThatAre", "(I)I"⟩ ⟨"DioceseBook$Story", "firstHolder", "(I)I"⟩) (cond (Nat.blt y 81) ⟨"DioceseBook$Story", "presenter", "(II)I"⟩ ⟨"DioceseBook$Story", "lapsedTo", "(II)I"⟩)) (cond (Nat.blt y 84) (cond (Nat.blt y 83) ⟨"DioceseBook$Story", "barOf", "(III)I"⟩ ⟨"DioceseBook$Story", "decayOf", "(II)I"⟩) (cond (Nat.blt y 85) ⟨"DioceseBook$Story", "ofBoth", "(III)I"⟩ (cond (Nat.blt y 86) ⟨"DioceseBook$Suits", "add", "(I)I"⟩ ⟨"DioceseBook$Suits", "addStep", "(II)I"⟩)))) (cond (Nat.blt y 92) (cond (Nat.blt y 89) (cond (Nat.blt y 88) ⟨"DioceseBook$Suits", "undoFrom", "(II)I"⟩ ⟨"DioceseBook$Suits", "stepsBy", "(II)I"⟩) (cond (Nat.blt y 90) ⟨"DioceseBook$Suits", "lastDay", "(II)I"⟩ (cond (Nat.blt y 91) ⟨"DioceseBook$Suits", "sleeps", "(II)Z"⟩ ⟨"DioceseBook$Suits", "fees", "(I)I"⟩))) (cond (Nat.blt y 94) (cond (Nat.blt y 93) ⟨"DioceseBook$Terriers", "add", "(IIII)I"⟩ ⟨"DioceseBook$Terriers", "leastCost", "()I"⟩) (cond (Nat.blt y 95) ⟨"DioceseBook$Terriers", "partner", "(II)I"⟩ (cond (Nat.blt y 96) ⟨"DioceseBook$Terriers", "pair", "(I)V"⟩ ⟨"DioceseBook$Terriers", "leastFrom", "(III)I"⟩))))) (cond (Nat.blt y 107) (cond (Nat.blt y 102) (cond (Nat.blt y 99) (cond (Nat.blt y 98) ⟨"DioceseBook$Terriers", "firstPartner", "(III)I"⟩ ⟨"DioceseBook$Terriers", "pairCost", "(III)I"⟩) (cond (Nat.blt y 100) ⟨"DioceseBook$Terriers", "aloneCost", "(II)I"⟩ (cond (Nat.blt y 101) ⟨"DioceseBook$Terriers", "aloneBehind", "(II)I"⟩ ⟨"DioceseBook$Visitation", "prepare", "(II)Z"⟩))) (cond (Nat.blt y 104) (cond (Nat.blt y 103) ⟨"DioceseBook$Visitation", "measure", "()V"⟩ ⟨"DioceseBook$Visitation", "wayTo", "(II)I"⟩) (cond (Nat.blt y 105) ⟨"DioceseBook$Visitation", "choose", "(I)V"⟩ (cond (Nat.blt y 106) ⟨"DioceseBook$Visitation", "leastFirst", "(II)I"⟩ ⟨"DioceseBook$Visitation", "setOf", "(I)I"⟩)))) (cond (Nat.blt y 112) (cond (Nat.blt y 109) (cond (Nat.blt y 108) ⟨"DioceseBook", "go", "(I)I"⟩ ⟨"DioceseBook", "person", "(I)I"⟩) (cond (Nat.blt y 110) ⟨"DioceseBook", "living", "(III)I"⟩ (cond (Nat.blt y 111) ⟨"DioceseBook", "set", "(III)I"⟩ ⟨"DioceseBook", "paper", "(IIIIII)I"⟩))) (cond (Nat.blt y 114) (cond (Nat.blt y 113) ⟨"DioceseBook", "told", "(II)I"⟩ ⟨"DioceseBook", "book", "(II)I"⟩) (cond (Nat.blt y 115) ⟨"DioceseBook", "about", "(III)I"⟩ (cond (Nat.blt y 116) ⟨"DioceseBook", "count", "(I)I"⟩ ⟨"DioceseBook", "feed", "(IJ)I"⟩)))))) (cond (Nat.blt y 136) (cond (Nat.blt y 126) (cond (Nat.blt y 121) (cond (Nat.blt y 119) (cond (Nat.blt y 118) ⟨"DioceseBook", "canon", "(I)I"⟩ ⟨"DioceseBook", "fault", "()I"⟩) (cond (Nat.blt y 120) ⟨"DioceseBook", "force", "(III)I"⟩ ⟨"DioceseBook", "counts", "(II)I"⟩)) (cond (Nat.blt y 123) (cond (Nat.blt y 122) ⟨"DioceseBook", "barred", "(IIII)I"⟩ ⟨"DioceseBook", "seat", "(IIII)I"⟩) (cond (Nat.blt y 124) ⟨"DioceseBook", "good", "(II)I"⟩ (cond (Nat.blt y 125) ⟨"DioceseBook", "why", "(II)I"⟩ ⟨"DioceseBook", "refusalOfIn", "(II)I"⟩)))) (cond (Nat.blt y 131) (cond (Nat.blt y 128) (cond (Nat.blt y 127) ⟨"DioceseBook", "change", "(IIII)I"⟩ ⟨"DioceseBook", "days", "(IIIII)I"⟩) (cond (Nat.blt y 129) ⟨"DioceseBook", "news", "(III)I"⟩ (cond (Nat.blt y 130) ⟨"DioceseBook", "present", "(III)I"⟩ ⟨"DioceseBook", "step", "(II)I"⟩))) (cond (Nat.blt y 133) (cond (Nat.blt y 132) ⟨"DioceseBook", "appeal", "(II)I"⟩ ⟨"DioceseBook", "suit", "(III)I"⟩) (cond (Nat.blt y 134) ⟨"DioceseBook", "decay", "(IIII)I"⟩ (cond (Nat.blt y 135) ⟨"DioceseBook", "field", "(IIIII)I"⟩ ⟨"DioceseBook", "match", "(II)I"⟩))))) (cond (Nat.blt y 146) (cond (Nat.blt y 141) (cond (Nat.blt y 138) (cond (Nat.blt y 137) ⟨"DioceseBook", "piece", "(IIIII)I"⟩ ⟨"DioceseBook", "one", "(II)I"⟩) (cond (Nat.blt y 139) ⟨"DioceseBook", "lives", "(I)I"⟩ (cond (Nat.blt y 140) ⟨"DioceseBook", "plan", "(III)I"⟩ ⟨"DioceseBook", "within", "(III)Z"⟩))) (cond (Nat.blt y 143) (cond (Nat.blt y 142) ⟨"DioceseBook", "oneIf", "(Z)I"⟩ ⟨"DioceseBook", "isDay", "(I)Z"⟩) (cond (Nat.blt y 144) ⟨"DioceseBook", "isName", "(I)Z"⟩ (cond (Nat.blt y 145) ⟨"DioceseBook", "isPlace", "(II)Z"⟩ ⟨"DioceseBook", "isKnowable", "(I)Z"⟩)))) (cond (Nat.blt y 151) (cond (Nat.blt y 148) (cond (Nat.blt y 147) ⟨"DioceseBook", "isPerson", "(I)Z"⟩ ⟨"DioceseBook", "isLiving", "(I)Z"⟩) (cond (Nat.blt y 149) ⟨"DioceseBook", "isPaper", "(I)Z"⟩ (cond (Nat.blt y 150) ⟨"DioceseBook", "isSuit", "(I)Z"⟩ ⟨"DioceseBook", "isPiece", "(I)Z"⟩))) (cond (Nat.blt y 153) (cond (Nat.blt y 152) ⟨"java/lang/Integer", "bitCount", "(I)I"⟩ ⟨"java/lang/Long", "bitCount", "(J)I"⟩) (cond (Nat.blt y 154) ⟨"java/lang/Math", "abs", "(I)I"⟩ (cond (Nat.blt y 155) ⟨"java/lang/Math", "max", "(II)I"⟩ ⟨"java/lang/Math", "min", "(II)I"⟩))))))))
def s1_bc : Nat → ByteArray := fun y => (cond (Nat.blt y 78) (cond (Nat.blt y 39) (cond (Nat.blt y 19) (cond (Nat.blt y 9) (cond (Nat.blt y 4) (cond (Nat.blt y 2) (cond (Nat.blt y 1) prog_2_method_2_code prog_2_method_3_code) (cond (Nat.blt y 3) prog_2_method_4_code prog_2_method_5_code)) (cond (Nat.blt y 6) (cond (Nat.blt y 5) prog_2_method_6_code prog_2_method_7_code) (cond (Nat.blt y 7) prog_2_method_8_code (cond (Nat.blt y 8) prog_2_method_9_code prog_2_method_10_code)))) (cond (Nat.blt y 14) (cond (Nat.blt y 11) (cond (Nat.blt y 10) prog_2_method_11_code prog_2_method_12_code) (cond (Nat.blt y 12) prog_2_method_13_code (cond (Nat.blt y 13) prog_2_method_14_code prog_3_method_2_code))) (cond (Nat.blt y 16) (cond (Nat.blt y 15) prog_3_method_3_code prog_3_method_4_code) (cond (Nat.blt y 17) prog_3_method_5_code (cond (Nat.blt y 18) prog_3_method_6_code prog_3_method_7_code))))) (cond (Nat.blt y 29) (cond (Nat.blt y 24) (cond (Nat.blt y 21) (cond (Nat.blt y 20) prog_3_method_8_code prog_4_method_2_code) (cond (Nat.blt y 22) prog_4_method_3_code (cond (Nat.blt y 23) prog_4_method_4_code prog_4_method_5_code))) (cond (Nat.blt y 26) (cond (Nat.blt y 25) prog_4_method_6_code prog_4_method_7_code) (cond (Nat.blt y 27) prog_4_method_8_code (cond (Nat.blt y 28) prog_5_method_2_code prog_5_method_3_code)))) (cond (Nat.blt y 34) (cond (Nat.blt y 31) (cond (Nat.blt y 30) prog_5_method_4_code prog_5_method_5_code) (cond (Nat.blt y 32) prog_5_method_6_code (cond (Nat.blt y 33) prog_5_method_7_code prog_5_method_8_code))) (cond (Nat.blt y 36) (cond (Nat.blt y 35) prog_5_method_9_code prog_5_method_10_code) (cond (Nat.blt y 37) prog_5_method_11_code (cond (Nat.blt y 38) prog_6_method_2_code prog_6_method_3_code)))))) (cond (Nat.blt y 58) (cond (Nat.blt y 48) (cond (Nat.blt y 43) (cond (Nat.blt y 41) (cond (Nat.blt y 40) prog_6_method_4_code prog_6_method_5_code) (cond (Nat.blt y 42) prog_6_method_6_code prog_6_method_7_code)) (cond (Nat.blt y 45) (cond (Nat.blt y 44) prog_6_method_8_code prog_6_method_9_code) (cond (Nat.blt y 46) prog_6_method_10_code (cond (Nat.blt y 47) prog_6_method_11_code prog_6_method_12_code)))) (cond (Nat.blt y 53) (cond (Nat.blt y 50) (cond (Nat.blt y 49) prog_6_method_13_code prog_6_method_14_code) (cond (Nat.blt y 51) prog_6_method_15_code (cond (Nat.blt y 52) prog_6_method_16_code prog_6_method_17_code))) (cond (Nat.blt y 55) (cond (Nat.blt y 54) prog_6_method_18_code prog_6_method_19_code) (cond (Nat.blt y 56) prog_7_method_2_code (cond (Nat.blt y 57) prog_7_method_3_code prog_7_method_4_code))))) (cond (Nat.blt y 68) (cond (Nat.blt y 63) (cond (Nat.blt y 60) (cond (Nat.blt y 59) prog_7_method_5_code prog_8_method_2_code) (cond (Nat.blt y 61) prog_8_method_3_code (cond (Nat.blt y 62) prog_8_method_4_code prog_8_method_5_code))) (cond (Nat.blt y 65) (cond (Nat.blt y 64) prog_8_method_6_code prog_8_method_7_code) (cond (Nat.blt y 66) prog_8_method_8_code (cond (Nat.blt y 67) prog_8_method_9_code prog_8_method_10_code)))) (cond (Nat.blt y 73) (cond (Nat.blt y 70) (cond (Nat.blt y 69) prog_9_method_2_code prog_9_method_3_code) (cond (Nat.blt y 71) prog_9_method_4_code (cond (Nat.blt y 72) prog_9_method_5_code prog_9_method_6_code))) (cond (Nat.blt y 75) (cond (Nat.blt y 74) prog_9_method_7_code prog_9_method_8_code) (cond (Nat.blt y 76) prog_9_method_9_code (cond (Nat.blt y 77) prog_9_method_10_code prog_9_method_11_code))))))) (cond (Nat.blt y 117) (cond (Nat.blt y 97) (cond (Nat.blt y 87) (cond (Nat.blt y 82) (cond (Nat.blt y 80) (cond (Nat.blt y 79) prog_9_method_12_code prog_9_method_13_code) (cond (Nat.blt y 81) prog_9_method_14_code prog_9_method_15_code)) (cond (Nat.blt y 84) (cond (Nat.blt y 83) prog_9_method_16_code prog_9_method_17_code) (cond (Nat.blt y 85) prog_9_method_18_code (cond (Nat.blt y 86) prog_10_method_2_code prog_10_method_3_code)))) (cond (Nat.blt y 92) (cond (Nat.blt y 89) (cond (Nat.blt y 88) prog_10_method_4_code prog_10_method_5_code) (cond (Nat.blt y 90) prog_10_method_6_code (cond (Nat.blt y 91) prog_10_method_7_code prog_10_method_8_code))) (cond (Nat.blt y 94) (cond (Nat.blt y 93) prog_11_method_2_code prog_11_method_3_code) (cond (Nat.blt y 95) prog_11_method_4_code (cond (Nat.blt y 96) prog_11_method_5_code prog_11_method_6_code))))) (cond (Nat.blt y 107) (cond (Nat.blt y 102) (cond (Nat.blt y 99) (cond (Nat.blt y 98) prog_11_method_7_code prog_11_method_8_code) (cond (Nat.blt y 100) prog_11_method_9_code (cond (Nat.blt y 101) prog_11_method_10_code prog_12_method_2_code))) (cond (Nat.blt y 104) (cond (Nat.blt y 103) prog_12_method_3_code prog_12_method_4_code) (cond (Nat.blt y 105) prog_12_method_5_code (cond (Nat.blt y 106) prog_12_method_6_code prog_12_method_7_code)))) (cond (Nat.blt y 112) (cond (Nat.blt y 109) (cond (Nat.blt y 108) prog_1_method_2_code prog_1_method_3_code) (cond (Nat.blt y 110) prog_1_method_4_code (cond (Nat.blt y 111) prog_1_method_5_code prog_1_method_6_code))) (cond (Nat.blt y 114) (cond (Nat.blt y 113) prog_1_method_7_code prog_1_method_8_code) (cond (Nat.blt y 115) prog_1_method_9_code (cond (Nat.blt y 116) prog_1_method_10_code prog_1_method_11_code)))))) (cond (Nat.blt y 136) (cond (Nat.blt y 126) (cond (Nat.blt y 121) (cond (Nat.blt y 119) (cond (Nat.blt y 118) prog_1_method_12_code prog_1_method_13_code) (cond (Nat.blt y 120) prog_1_method_14_code prog_1_method_15_code)) (cond (Nat.blt y 123) (cond (Nat.blt y 122) prog_1_method_16_code prog_1_method_17_code) (cond (Nat.blt y 124) prog_1_method_18_code (cond (Nat.blt y 125) prog_1_method_19_code prog_1_method_20_code)))) (cond (Nat.blt y 131) (cond (Nat.blt y 128) (cond (Nat.blt y 127) prog_1_method_21_code prog_1_method_22_code) (cond (Nat.blt y 129) prog_1_method_23_code (cond (Nat.blt y 130) prog_1_method_24_code prog_1_method_25_code))) (cond (Nat.blt y 133) (cond (Nat.blt y 132) prog_1_method_26_code prog_1_method_27_code) (cond (Nat.blt y 134) prog_1_method_28_code (cond (Nat.blt y 135) prog_1_method_29_code prog_1_method_30_code))))) (cond (Nat.blt y 146) (cond (Nat.blt y 141) (cond (Nat.blt y 138) (cond (Nat.blt y 137) prog_1_method_31_code prog_1_method_32_code) (cond (Nat.blt y 139) prog_1_method_33_code (cond (Nat.blt y 140) prog_1_method_34_code prog_1_method_35_code))) (cond (Nat.blt y 143) (cond (Nat.blt y 142) prog_1_method_36_code prog_1_method_37_code) (cond (Nat.blt y 144) prog_1_method_38_code (cond (Nat.blt y 145) prog_1_method_39_code prog_1_method_40_code)))) (cond (Nat.blt y 151) (cond (Nat.blt y 148) (cond (Nat.blt y 147) prog_1_method_41_code prog_1_method_42_code) (cond (Nat.blt y 149) prog_1_method_43_code (cond (Nat.blt y 150) prog_1_method_44_code prog_1_method_45_code))) (cond (Nat.blt y 153) (cond (Nat.blt y 152) prog_15_method_49_code prog_16_method_50_code) (cond (Nat.blt y 154) prog_17_method_59_code (cond (Nat.blt y 155) prog_17_method_65_code prog_17_method_69_code))))))))
/-- DioceseBook$Canons.draft()V -/
def s1_b0 : List (Nat × AB) := [(0, [(.aload_n 0, 0, 0, 0), (.getfield 46, 0, 0, 0), (.bipush 10, 0, 0, 0), (.if_icmp .ge 25, 0, 0, 0), (.aload_n 0, 0, 0, 0), (.getfield 11, 0, 0, 1), (.aload_n 0, 0, 0, 0), (.getfield 46, 0, 0, 0), (.iconst 0, 0, 0, 0), (.iastore, 0, 0, 0), (.aload_n 0, 0, 0, 0), (.aload_n 0, 0, 0, 0), (.getfield 46, 0, 0, 0), (.sipush 200, 0, 0, 0), (.imul, 0, 0, 0), (.putfield 49, 0, 0, 9)]),
  (31, [(.return_, 0, 0, 0)])]
def s1_i0 : List (List Nat) := [[0, 262, 0, 0, 0, 265, 0, 262, 0, 0, 0, 0, 262, 0, 0, 274], [0]]
/-- DioceseBook$Canons.addClause(IIII)V -/
def s1_b1 : List (Nat × AB) := [(0, [(.aload_n 0, 0, 0, 0), (.getfield 46, 0, 0, 0), (.bipush 10, 0, 0, 0), (.if_icmp .ge 82, 0, 0, 0), (.aload_n 0, 0, 0, 0), (.getfield 11, 0, 0, 1), (.aload_n 0, 0, 0, 0), (.getfield 46, 0, 0, 0), (.iaload, 0, 0, 0), (.bipush 12, 0, 0, 0), (.if_icmp .ge 68, 0, 0, 0), (.aload_n 0, 0, 0, 0), (.getfield 46, 0, 0, 0), (.bipush 12, 0, 0, 0), (.imul, 0, 0, 0), (.aload_n 0, 0, 0, 0), (.getfield 11, 0, 0, 1), (.aload_n 0, 0, 0, 0), (.getfield 46, 0, 0, 0), (.iaload, 0, 0, 0), (.iadd, 0, 0, 0), (.istore 5, 0, 0, 0), (.aload_n 0, 0, 0, 0), (.getfield 21, 0, 0, 4), (.iload 5, 0, 0, 0), (.iload_n 1, 0, 0, 0), (.iastore, 0, 0, 0), (.aload_n 0, 0, 0, 0), (.getfield 24, 0, 0, 5), (.iload 5, 0, 0, 0), (.iload_n 2, 0, 0, 0), (.iastore, 0, 0, 0), (.aload_n 0, 0, 0, 0), (.getfield 27, 0, 0, 6), (.iload 5, 0, 0, 0), (.iload_n 3, 0, 0, 0), (.iastore, 0, 0, 0), (.aload_n 0, 0, 0, 0), (.getfield 30, 0, 0, 7), (.iload 5, 0, 0, 0), (.iload 4, 0, 0, 0), (.iastore, 0, 0, 0), (.aload_n 0, 0, 0, 0), (.getfield 11, 0, 0, 1), (.aload_n 0, 0, 0, 0), (.getfield 46, 0, 0, 0), (.dup2, 0, 0, 0), (.iaload, 0, 0, 0), (.iconst 1, 0, 0, 0), (.iadd, 0, 0, 0), (.iastore, 0, 0, 0)]),
  (88, [(.return_, 0, 0, 0)])]
def s1_i1 : List (List Nat) := [[0, 262, 0, 0, 0, 265, 0, 262, 0, 0, 0, 0, 262, 0, 0, 0, 265, 0, 262, 0, 0, 0, 0, 269, 0, 0, 0, 0, 270, 0, 0, 0, 0, 271, 0, 0, 0, 0, 272, 0, 0, 0, 0, 265, 0, 262, 0, 0, 0, 0, 0], [0]]
/-- DioceseBook$Canons.addCode(I)V -/
def s1_b2 : List (Nat × AB) := [(0, [(.aload_n 0, 0, 0, 0), (.getfield 49, 0, 0, 9), (.aload_n 0, 0, 0, 0), (.getfield 46, 0, 0, 0), (.iconst 1, 0, 0, 0), (.iadd, 0, 0, 0), (.sipush 200, 0, 0, 0), (.imul, 0, 0, 0), (.if_icmp .ge 35, 0, 0, 0), (.aload_n 0, 0, 0, 0), (.getfield 49, 0, 0, 9), (.aload_n 0, 0, 0, 0), (.getfield 33, 0, 0, 8), (.arraylength, 0, 0, 0), (.if_icmp .ge 23, 0, 0, 0), (.aload_n 0, 0, 0, 0), (.getfield 33, 0, 0, 8), (.aload_n 0, 0, 0, 0), (.getfield 49, 0, 0, 9), (.iload_n 1, 0, 0, 0), (.iastore, 0, 0, 0), (.aload_n 0, 0, 0, 0), (.dup, 0, 0, 0), (.getfield 49, 0, 0, 9), (.iconst 1, 0, 0, 0), (.iadd, 0, 0, 0), (.putfield 49, 0, 0, 9)]),
  (49, [(.return_, 0, 0, 0)])]
def s1_i2 : List (List Nat) := [[0, 274, 0, 262, 0, 0, 0, 0, 0, 0, 274, 0, 273, 0, 0, 0, 273, 0, 274, 0, 0, 0, 0, 274, 0, 0, 274], [0]]
/-- DioceseBook$Canons.codePlace()I -/
def s1_b3 : List (Nat × AB) := [(0, [(.aload_n 0, 0, 0, 0), (.getfield 49, 0, 0, 9), (.ireturn, 0, 0, 0)])]
def s1_i3 : List (List Nat) := [[0, 274, 0]]
/-- DioceseBook$Canons.enact(I)I -/
def s1_b4 : List (Nat × AB) := [(0, [(.aload_n 0, 0, 0, 0), (.getfield 46, 0, 0, 0), (.istore_n 2, 0, 0, 0), (.aload_n 0, 0, 0, 0), (.getfield 15, 0, 0, 2), (.iload_n 2, 0, 0, 0), (.iload_n 1, 0, 0, 0), (.iastore, 0, 0, 0), (.iload_n 2, 0, 0, 0), (.istore_n 3, 0, 0, 0)]),
  (14, [(.iload_n 3, 0, 0, 0), (.ifCond .le 40, 0, 0, 0), (.aload_n 0, 0, 0, 0), (.getfield 15, 0, 0, 2), (.aload_n 0, 0, 0, 0), (.getfield 18, 0, 0, 3), (.iload_n 3, 0, 0, 0), (.iconst 1, 0, 0, 0), (.isub, 0, 0, 0), (.iaload, 0, 0, 0), (.iaload, 0, 0, 0), (.iload_n 1, 0, 0, 0), (.if_icmp .le 23, 0, 0, 0), (.aload_n 0, 0, 0, 0), (.getfield 18, 0, 0, 3), (.iload_n 3, 0, 0, 0), (.aload_n 0, 0, 0, 0), (.getfield 18, 0, 0, 3), (.iload_n 3, 0, 0, 0), (.iconst 1, 0, 0, 0), (.isub, 0, 0, 0), (.iaload, 0, 0, 0), (.iastore, 0, 0, 0), (.iinc 3 (-1), 0, 0, 0), (.goto (-38), 0, 0, 0)]),
  (55, [(.aload_n 0, 0, 0, 0), (.getfield 18, 0, 0, 3), (.iload_n 3, 0, 0, 0), (.iload_n 2, 0, 0, 0), (.iastore, 0, 0, 0), (.aload_n 0, 0, 0, 0), (.dup, 0, 0, 0), (.getfield 46, 0, 0, 0), (.iconst 1, 0, 0, 0), (.iadd, 0, 0, 0), (.putfield 46, 0, 0, 0), (.aload_n 0, 0, 0, 0), (.iconst (-1), 0, 0, 0), (.putfield 36, 0, 0, 10), (.iload_n 2, 0, 0, 0), (.ireturn, 0, 0, 0)])]
def s1_i4 : List (List Nat) := [[0, 262, 0, 0, 267, 0, 0, 0, 0, 0], [0, 0, 0, 267, 0, 268, 0, 0, 0, 0, 0, 0, 0, 0, 268, 0, 0, 268, 0, 0, 0, 0, 0, 0, 0], [0, 268, 0, 0, 0, 0, 0, 262, 0, 0, 262, 0, 0, 275, 0, 0]]
/-- DioceseBook$Canons.isCounting(I)Z -/
def s1_b5 : List (Nat × AB) := [(0, [(.aload_n 0, 0, 0, 0), (.getfield 52, 0, 0, 11), (.iload_n 1, 0, 0, 0), (.ishr, 0, 0, 0), (.iconst 1, 0, 0, 0), (.iand, 0, 0, 0), (.iconst 1, 0, 0, 0), (.if_icmp .ne 7, 0, 0, 0), (.iconst 1, 0, 0, 0), (.goto 4, 0, 0, 0)]),
  (16, [(.iconst 0, 0, 0, 0)]),
  (17, [(.ireturn, 0, 0, 0)])]
def s1_i5 : List (List Nat) := [[0, 276, 0, 0, 0, 0, 0, 0, 0, 0], [0], [0]]
/-- DioceseBook$Canons.numberOn(II)I -/
def s1_b6 : List (Nat × AB) := [(0, [(.aload_n 0, 0, 0, 0), (.iload_n 2, 0, 0, 0), (.invokevirtual 55, 0, 7, 1), (.aload_n 0, 0, 0, 0), (.getfield 40, 0, 0, 12), (.iload_n 1, 0, 0, 0), (.iaload, 0, 0, 0), (.ireturn, 0, 0, 0)])]
def s1_i6 : List (List Nat) := [[0, 0, 814, 0, 277, 0, 0, 0]]
/-- DioceseBook$Canons.settle(I)V -/
def s1_b7 : List (Nat × AB) := [(0, [(.aload_n 0, 0, 0, 0), (.getfield 36, 0, 0, 10), (.iload_n 1, 0, 0, 0), (.if_icmp .ne 4, 0, 0, 0), (.return_, 0, 0, 0)]),
  (9, [(.aload_n 0, 0, 0, 0), (.iload_n 1, 0, 0, 0), (.putfield 36, 0, 0, 10), (.aload_n 0, 0, 0, 0), (.iconst 0, 0, 0, 0), (.putfield 52, 0, 0, 11), (.iconst 0, 0, 0, 0), (.istore_n 2, 0, 0, 0), (.aload_n 0, 0, 0, 0), (.getfield 46, 0, 0, 0), (.iconst 1, 0, 0, 0), (.isub, 0, 0, 0), (.istore_n 3, 0, 0, 0)]),
  (28, [(.iload_n 3, 0, 0, 0), (.ifCond .lt 47, 0, 0, 0), (.aload_n 0, 0, 0, 0), (.getfield 15, 0, 0, 2), (.iload_n 3, 0, 0, 0), (.iaload, 0, 0, 0), (.iload_n 1, 0, 0, 0), (.if_icmp .gt 31, 0, 0, 0), (.iload_n 2, 0, 0, 0), (.iload_n 3, 0, 0, 0), (.ishr, 0, 0, 0), (.iconst 1, 0, 0, 0), (.iand, 0, 0, 0), (.ifCond .ne 23, 0, 0, 0), (.aload_n 0, 0, 0, 0), (.dup, 0, 0, 0), (.getfield 52, 0, 0, 11), (.iconst 1, 0, 0, 0), (.iload_n 3, 0, 0, 0), (.ishl, 0, 0, 0), (.ior, 0, 0, 0), (.putfield 52, 0, 0, 11), (.iload_n 2, 0, 0, 0), (.aload_n 0, 0, 0, 0), (.iload_n 3, 0, 0, 0), (.invokevirtual 59, 0, 8, 1), (.ior, 0, 0, 0), (.istore_n 2, 0, 0, 0)]),
  (70, [(.iinc 3 (-1), 0, 0, 0), (.goto (-45), 0, 0, 0)]),
  (76, [(.iconst 0, 0, 0, 0), (.istore_n 3, 0, 0, 0)]),
  (78, [(.iload_n 3, 0, 0, 0), (.bipush 8, 0, 0, 0), (.if_icmp .ge 27, 0, 0, 0), (.aload_n 0, 0, 0, 0), (.getfield 40, 0, 0, 12), (.iload_n 3, 0, 0, 0), (.getstatic 63, 0, 205, 0), (.iload_n 3, 0, 0, 0), (.iaload, 0, 0, 0), (.iastore, 0, 0, 0), (.aload_n 0, 0, 0, 0), (.getfield 43, 0, 0, 13), (.iload_n 3, 0, 0, 0), (.iconst (-1), 0, 0, 0), (.iastore, 0, 0, 0), (.iinc 3 1, 0, 0, 0), (.goto (-27), 0, 0, 0)]),
  (108, [(.iconst 0, 0, 0, 0), (.istore_n 3, 0, 0, 0)]),
  (110, [(.iload_n 3, 0, 0, 0), (.aload_n 0, 0, 0, 0), (.getfield 46, 0, 0, 0), (.if_icmp .ge 32, 0, 0, 0), (.aload_n 0, 0, 0, 0), (.aload_n 0, 0, 0, 0), (.getfield 18, 0, 0, 3), (.iload_n 3, 0, 0, 0), (.iaload, 0, 0, 0), (.invokevirtual 66, 0, 5, 1), (.ifCond .eq 13, 0, 0, 0), (.aload_n 0, 0, 0, 0), (.aload_n 0, 0, 0, 0), (.getfield 18, 0, 0, 3), (.iload_n 3, 0, 0, 0), (.iaload, 0, 0, 0), (.invokevirtual 70, 0, 9, 1)]),
  (141, [(.iinc 3 1, 0, 0, 0), (.goto (-34), 0, 0, 0)]),
  (147, [(.return_, 0, 0, 0)])]
def s1_i7 : List (List Nat) := [[0, 275, 0, 0, 0], [0, 0, 275, 0, 0, 276, 0, 0, 0, 262, 0, 0, 0], [0, 0, 0, 267, 0, 0, 0, 0, 0, 0, 0, 0, 0, 0, 0, 0, 276, 0, 0, 0, 0, 276, 0, 0, 0, 818, 0, 0], [0, 0], [0, 0], [0, 0, 0, 0, 277, 0, 822, 0, 0, 0, 0, 279, 0, 0, 0, 0, 0], [0, 0], [0, 0, 262, 0, 0, 0, 268, 0, 0, 824, 0, 0, 0, 268, 0, 0, 828], [0, 0], [0]]
/-- DioceseBook$Canons.struckBy(I)I -/
def s1_b8 : List (Nat × AB) := [(0, [(.iconst 0, 0, 0, 0), (.istore_n 2, 0, 0, 0), (.iload_n 1, 0, 0, 0), (.bipush 12, 0, 0, 0), (.imul, 0, 0, 0), (.istore_n 3, 0, 0, 0)]),
  (7, [(.iload_n 3, 0, 0, 0), (.iload_n 1, 0, 0, 0), (.bipush 12, 0, 0, 0), (.imul, 0, 0, 0), (.aload_n 0, 0, 0, 0), (.getfield 11, 0, 0, 1), (.iload_n 1, 0, 0, 0), (.iaload, 0, 0, 0), (.iadd, 0, 0, 0), (.if_icmp .ge 30, 0, 0, 0), (.aload_n 0, 0, 0, 0), (.getfield 21, 0, 0, 4), (.iload_n 3, 0, 0, 0), (.iaload, 0, 0, 0), (.iconst 2, 0, 0, 0), (.if_icmp .ne 14, 0, 0, 0), (.iload_n 2, 0, 0, 0), (.iconst 1, 0, 0, 0), (.aload_n 0, 0, 0, 0), (.getfield 24, 0, 0, 5), (.iload_n 3, 0, 0, 0), (.iaload, 0, 0, 0), (.ishl, 0, 0, 0), (.ior, 0, 0, 0), (.istore_n 2, 0, 0, 0)]),
  (43, [(.iinc 3 1, 0, 0, 0), (.goto (-39), 0, 0, 0)]),
  (49, [(.iload_n 2, 0, 0, 0), (.ireturn, 0, 0, 0)])]
def s1_i8 : List (List Nat) := [[0, 0, 0, 0, 0, 0], [0, 0, 0, 0, 0, 265, 0, 0, 0, 0, 0, 269, 0, 0, 0, 0, 0, 0, 0, 270, 0, 0, 0, 0, 0], [0, 0], [0, 0]]
/-- DioceseBook$Canons.letAll(I)V -/
def s1_b9 : List (Nat × AB) := [(0, [(.iload_n 1, 0, 0, 0), (.bipush 12, 0, 0, 0), (.imul, 0, 0, 0), (.istore_n 2, 0, 0, 0)]),
  (5, [(.iload_n 2, 0, 0, 0), (.iload_n 1, 0, 0, 0), (.bipush 12, 0, 0, 0), (.imul, 0, 0, 0), (.aload_n 0, 0, 0, 0), (.getfield 11, 0, 0, 1), (.iload_n 1, 0, 0, 0), (.iaload, 0, 0, 0), (.iadd, 0, 0, 0), (.if_icmp .ge 47, 0, 0, 0), (.aload_n 0, 0, 0, 0), (.getfield 21, 0, 0, 4), (.iload_n 2, 0, 0, 0), (.iaload, 0, 0, 0), (.ifCond .ne 32, 0, 0, 0), (.aload_n 0, 0, 0, 0), (.getfield 40, 0, 0, 12), (.aload_n 0, 0, 0, 0), (.getfield 24, 0, 0, 5), (.iload_n 2, 0, 0, 0), (.iaload, 0, 0, 0), (.aload_n 0, 0, 0, 0), (.getfield 27, 0, 0, 6), (.iload_n 2, 0, 0, 0), (.iaload, 0, 0, 0), (.iastore, 0, 0, 0), (.aload_n 0, 0, 0, 0), (.getfield 43, 0, 0, 13), (.aload_n 0, 0, 0, 0), (.getfield 24, 0, 0, 5), (.iload_n 2, 0, 0, 0), (.iaload, 0, 0, 0), (.iload_n 1, 0, 0, 0), (.iastore, 0, 0, 0)]),
  (58, [(.iinc 2 1, 0, 0, 0), (.goto (-56), 0, 0, 0)]),
  (64, [(.return_, 0, 0, 0)])]
def s1_i9 : List (List Nat) := [[0, 0, 0, 0], [0, 0, 0, 0, 0, 265, 0, 0, 0, 0, 0, 269, 0, 0, 0, 0, 277, 0, 270, 0, 0, 0, 271, 0, 0, 0, 0, 279, 0, 270, 0, 0, 0, 0], [0, 0], [0]]
/-- DioceseBook$Canons.firstBar(I[I)I -/
def s1_b10 : List (Nat × AB) := [(0, [(.aload_n 0, 0, 0, 0), (.iload_n 1, 0, 0, 0), (.invokevirtual 55, 0, 7, 1), (.iconst 0, 0, 0, 0), (.istore_n 3, 0, 0, 0)]),
  (7, [(.iload_n 3, 0, 0, 0), (.aload_n 0, 0, 0, 0), (.getfield 46, 0, 0, 0), (.if_icmp .ge 138, 0, 0, 0), (.aload_n 0, 0, 0, 0), (.getfield 18, 0, 0, 3), (.iload_n 3, 0, 0, 0), (.iaload, 0, 0, 0), (.istore 4, 0, 0, 0), (.iconst 0, 0, 0, 0), (.istore 5, 0, 0, 0)]),
  (26, [(.iload 5, 0, 0, 0), (.aload_n 0, 0, 0, 0), (.getfield 11, 0, 0, 1), (.iload 4, 0, 0, 0), (.iaload, 0, 0, 0), (.if_icmp .ge 109, 0, 0, 0), (.aload_n 0, 0, 0, 0), (.iload 4, 0, 0, 0), (.invokevirtual 66, 0, 5, 1), (.ifCond .eq 100, 0, 0, 0), (.iload 4, 0, 0, 0), (.bipush 12, 0, 0, 0), (.imul, 0, 0, 0), (.iload 5, 0, 0, 0), (.iadd, 0, 0, 0), (.istore 6, 0, 0, 0), (.aload_n 0, 0, 0, 0), (.getfield 21, 0, 0, 4), (.iload 6, 0, 0, 0), (.iaload, 0, 0, 0), (.iconst 1, 0, 0, 0), (.if_icmp .ne 73, 0, 0, 0), (.aload_n 0, 0, 0, 0), (.aload_n 0, 0, 0, 0), (.getfield 24, 0, 0, 5), (.iload 6, 0, 0, 0), (.iaload, 0, 0, 0), (.aload_n 0, 0, 0, 0), (.getfield 27, 0, 0, 6), (.iload 6, 0, 0, 0), (.iaload, 0, 0, 0), (.aload_n 2, 0, 0, 0), (.invokevirtual 73, 0, 11, 3), (.ifCond .eq 51, 0, 0, 0), (.aload_n 0, 0, 0, 0), (.getfield 30, 0, 0, 7), (.iload 6, 0, 0, 0), (.iaload, 0, 0, 0), (.aload_n 0, 0, 0, 0), (.getfield 27, 0, 0, 6), (.iload 6, 0, 0, 0), (.iaload, 0, 0, 0), (.if_icmp .le 25, 0, 0, 0), (.aload_n 0, 0, 0, 0), (.aload_n 0, 0, 0, 0), (.getfield 27, 0, 0, 6), (.iload 6, 0, 0, 0), (.iaload, 0, 0, 0), (.aload_n 0, 0, 0, 0), (.getfield 30, 0, 0, 7), (.iload 6, 0, 0, 0), (.iaload, 0, 0, 0), (.aload_n 2, 0, 0, 0), (.invokevirtual 73, 0, 11, 3), (.ifCond .ne 12, 0, 0, 0)]),
  (129, [(.bipush 100, 0, 0, 0), (.iload 4, 0, 0, 0), (.imul, 0, 0, 0), (.iload 5, 0, 0, 0), (.iadd, 0, 0, 0), (.ireturn, 0, 0, 0)]),
  (138, [(.iinc 5 1, 0, 0, 0), (.goto (-115), 0, 0, 0)]),
  (144, [(.iinc 3 1, 0, 0, 0), (.goto (-140), 0, 0, 0)]),
  (150, [(.iconst (-1), 0, 0, 0), (.ireturn, 0, 0, 0)])]
def s1_i10 : List (List Nat) := [[0, 0, 814, 0, 0], [0, 0, 262, 0, 0, 268, 0, 0, 0, 0, 0], [0, 0, 265, 0, 0, 0, 0, 0, 824, 0, 0, 0, 0, 0, 0, 0, 0, 269, 0, 0, 0, 0, 0, 0, 270, 0, 0, 0, 271, 0, 0, 0, 832, 0, 0, 272, 0, 0, 0, 271, 0, 0, 0, 0, 0, 271, 0, 0, 0, 272, 0, 0, 0, 832, 0], [0, 0, 0, 0, 0, 0], [0, 0], [0, 0], [0, 0]]
/-- DioceseBook$Canons.isMet(II[I)Z -/
def s1_b11 : List (Nat × AB) := [(0, [(.lconst 0, 0, 0, 0), (.lstore 4, 0, 0, 0), (.iload_n 1, 0, 0, 0), (.istore 6, 0, 0, 0)]),
  (6, [(.iload 6, 0, 0, 0), (.iload_n 2, 0, 0, 0), (.if_icmp .ge 116, 0, 0, 0), (.lload 4, 0, 0, 0), (.lconst 1, 0, 0, 0), (.land, 0, 0, 0), (.lstore 7, 0, 0, 0), (.aload_n 0, 0, 0, 0), (.getfield 33, 0, 0, 8), (.iload 6, 0, 0, 0), (.iaload, 0, 0, 0), (.tableswitch 72 (-3) (-1) #[63, 47, 27], 0, 0, 0)]),
  (52, [(.lload 4, 0, 0, 0), (.iconst 1, 0, 0, 0), (.lushr, 0, 0, 0), (.lstore 4, 0, 0, 0), (.lload 4, 0, 0, 0), (.ldc2_w 77, -2, 0, 0), (.lload 7, 0, 0, 0), (.lor, 0, 0, 0), (.land, 0, 0, 0), (.lstore 4, 0, 0, 0), (.goto 50, 0, 0, 0)]),
  (72, [(.lload 4, 0, 0, 0), (.iconst 1, 0, 0, 0), (.lushr, 0, 0, 0), (.lstore 4, 0, 0, 0), (.lload 4, 0, 0, 0), (.lload 7, 0, 0, 0), (.lor, 0, 0, 0), (.lstore 4, 0, 0, 0), (.goto 34, 0, 0, 0)]),
  (88, [(.lload 4, 0, 0, 0), (.lconst 1, 0, 0, 0), (.lxor, 0, 0, 0), (.lstore 4, 0, 0, 0), (.goto 25, 0, 0, 0)]),
  (97, [(.lload 4, 0, 0, 0), (.iconst 1, 0, 0, 0), (.lshl, 0, 0, 0), (.aload_n 0, 0, 0, 0), (.getfield 33, 0, 0, 8), (.iload 6, 0, 0, 0), (.iaload, 0, 0, 0), (.aload_n 3, 0, 0, 0), (.invokestatic 79, 0, 12, 2), (.invokestatic 83, 0, 141, 1), (.i2l, 0, 0, 0), (.lor, 0, 0, 0), (.lstore 4, 0, 0, 0)]),
  (119, [(.iinc 6 1, 0, 0, 0), (.goto (-116), 0, 0, 0)]),
  (125, [(.lload 4, 0, 0, 0), (.lconst 1, 0, 0, 0), (.land, 0, 0, 0), (.lconst 1, 0, 0, 0), (.lcmp, 0, 0, 0), (.ifCond .ne 7, 0, 0, 0), (.iconst 1, 0, 0, 0), (.goto 4, 0, 0, 0)]),
  (138, [(.iconst 0, 0, 0, 0)]),
  (139, [(.ireturn, 0, 0, 0)])]
def s1_i11 : List (List Nat) := [[0, 0, 0, 0], [0, 0, 0, 0, 0, 0, 0, 0, 273, 0, 0, 0], [0, 0, 0, 0, 0, 836, 0, 0, 0, 0, 0], [0, 0, 0, 0, 0, 0, 0, 0, 0], [0, 0, 0, 0, 0], [0, 0, 0, 0, 273, 0, 0, 0, 837, 100002, 0, 0, 0], [0, 0], [0, 0, 0, 0, 0, 0, 0, 0], [0], [0]]
/-- DioceseBook$Canons.compares(I[I)Z -/
def s1_b12 : List (Nat × AB) := [(0, [(.aload_n 1, 0, 0, 0), (.iload_n 0, 0, 0, 0), (.sipush 30000, 0, 0, 0), (.idiv, 0, 0, 0), (.iaload, 0, 0, 0), (.istore_n 2, 0, 0, 0), (.iload_n 0, 0, 0, 0), (.sipush 10000, 0, 0, 0), (.idiv, 0, 0, 0), (.iconst 3, 0, 0, 0), (.irem, 0, 0, 0), (.istore_n 3, 0, 0, 0), (.iload_n 0, 0, 0, 0), (.sipush 10000, 0, 0, 0), (.irem, 0, 0, 0), (.istore 4, 0, 0, 0), (.iload_n 2, 0, 0, 0), (.iconst (-1), 0, 0, 0), (.if_icmp .ne 5, 0, 0, 0), (.iconst 0, 0, 0, 0), (.ireturn, 0, 0, 0)]),
  (30, [(.iload_n 3, 0, 0, 0), (.ifCond .ne 15, 0, 0, 0), (.iload_n 2, 0, 0, 0), (.iload 4, 0, 0, 0), (.if_icmp .ge 7, 0, 0, 0), (.iconst 1, 0, 0, 0), (.goto 4, 0, 0, 0)]),
  (44, [(.iconst 0, 0, 0, 0)]),
  (45, [(.ireturn, 0, 0, 0)]),
  (46, [(.iload_n 3, 0, 0, 0), (.iconst 1, 0, 0, 0), (.if_icmp .ne 17, 0, 0, 0), (.iload_n 2, 0, 0, 0), (.iload 4, 0, 0, 0), (.if_icmp .le 7, 0, 0, 0), (.iconst 1, 0, 0, 0), (.goto 18, 0, 0, 0)]),
  (61, [(.iconst 0, 0, 0, 0), (.goto 14, 0, 0, 0)]),
  (65, [(.iload_n 2, 0, 0, 0), (.iload 4, 0, 0, 0), (.if_icmp .ne 7, 0, 0, 0), (.iconst 1, 0, 0, 0), (.goto 4, 0, 0, 0)]),
  (75, [(.iconst 0, 0, 0, 0)]),
  (76, [(.ireturn, 0, 0, 0)])]
def s1_i12 : List (List Nat) := [[0, 0, 0, 0, 0, 0, 0, 0, 0, 0, 0, 0, 0, 0, 0, 0, 0, 0, 0, 0, 0], [0, 0, 0, 0, 0, 0, 0], [0], [0], [0, 0, 0, 0, 0, 0, 0, 0], [0, 0], [0, 0, 0, 0, 0], [0], [0]]
/-- DioceseBook$Changes.stateOf(I)I -/
def s1_b13 : List (Nat × AB) := [(0, [(.iload_n 0, 0, 0, 0), (.iconst 2, 0, 0, 0), (.invokestatic 33, 0, 155, 2), (.ireturn, 0, 0, 0)])]
def s1_i13 : List (List Nat) := [[0, 0, 902, 0]]
/-- DioceseBook$Changes.clearAll()V -/
def s1_b14 : List (Nat × AB) := [(0, [(.aload_n 0, 0, 0, 0), (.iconst 0, 0, 0, 0), (.putfield 39, 0, 1, 6), (.return_, 0, 0, 0)])]
def s1_i14 : List (List Nat) := [[0, 0, 389, 0]]
/-- DioceseBook$Changes.note(IIZIII)V -/
def s1_b15 : List (Nat × AB) := [(0, [(.aload_n 0, 0, 0, 0), (.getfield 39, 0, 1, 6), (.sipush 300, 0, 0, 0), (.if_icmp .ge 76, 0, 0, 0), (.aload_n 0, 0, 0, 0), (.getfield 23, 0, 1, 3), (.aload_n 0, 0, 0, 0), (.getfield 39, 0, 1, 6), (.iload_n 1, 0, 0, 0), (.iastore, 0, 0, 0), (.aload_n 0, 0, 0, 0), (.getfield 26, 0, 1, 4), (.aload_n 0, 0, 0, 0), (.getfield 39, 0, 1, 6), (.iload_n 2, 0, 0, 0), (.iastore, 0, 0, 0), (.aload_n 0, 0, 0, 0), (.getfield 29, 0, 1, 5), (.aload_n 0, 0, 0, 0), (.getfield 39, 0, 1, 6), (.iload_n 3, 0, 0, 0), (.bastore, 0, 0, 0), (.aload_n 0, 0, 0, 0), (.getfield 13, 0, 1, 0), (.aload_n 0, 0, 0, 0), (.getfield 39, 0, 1, 6), (.iload 4, 0, 0, 0), (.iastore, 0, 0, 0), (.aload_n 0, 0, 0, 0), (.getfield 17, 0, 1, 1), (.aload_n 0, 0, 0, 0), (.getfield 39, 0, 1, 6), (.iload 5, 0, 0, 0), (.iastore, 0, 0, 0), (.aload_n 0, 0, 0, 0), (.getfield 20, 0, 1, 2), (.aload_n 0, 0, 0, 0), (.getfield 39, 0, 1, 6), (.iload 6, 0, 0, 0), (.iastore, 0, 0, 0), (.aload_n 0, 0, 0, 0), (.dup, 0, 0, 0), (.getfield 39, 0, 1, 6), (.iconst 1, 0, 0, 0), (.iadd, 0, 0, 0), (.putfield 39, 0, 1, 6)]),
  (83, [(.return_, 0, 0, 0)])]
def s1_i15 : List (List Nat) := [[0, 389, 0, 0, 0, 386, 0, 389, 0, 0, 0, 387, 0, 389, 0, 0, 0, 388, 0, 389, 0, 0, 0, 380, 0, 389, 0, 0, 0, 382, 0, 389, 0, 0, 0, 384, 0, 389, 0, 0, 0, 0, 389, 0, 0, 389], [0]]
/-- DioceseBook$Changes.rowOf(II)I -/
def s1_b16 : List (Nat × AB) := [(0, [(.iconst 0, 0, 0, 0), (.istore_n 3, 0, 0, 0), (.iconst 0, 0, 0, 0), (.istore 4, 0, 0, 0)]),
  (5, [(.iload 4, 0, 0, 0), (.aload_n 0, 0, 0, 0), (.getfield 39, 0, 1, 6), (.if_icmp .ge 31, 0, 0, 0), (.aload_n 0, 0, 0, 0), (.getfield 23, 0, 1, 3), (.iload 4, 0, 0, 0), (.iaload, 0, 0, 0), (.iload_n 1, 0, 0, 0), (.if_icmp .ne 14, 0, 0, 0), (.iload_n 3, 0, 0, 0), (.iload_n 2, 0, 0, 0), (.if_icmp .ne 6, 0, 0, 0), (.iload 4, 0, 0, 0), (.ireturn, 0, 0, 0)]),
  (33, [(.iinc 3 1, 0, 0, 0)]),
  (36, [(.iinc 4 1, 0, 0, 0), (.goto (-34), 0, 0, 0)]),
  (42, [(.iconst (-1), 0, 0, 0), (.ireturn, 0, 0, 0)])]
def s1_i16 : List (List Nat) := [[0, 0, 0, 0], [0, 0, 389, 0, 0, 386, 0, 0, 0, 0, 0, 0, 0, 0, 0], [0], [0, 0], [0, 0]]
/-- DioceseBook$Changes.lastFall(II)I -/
def s1_b17 : List (Nat × AB) := [(0, [(.aload_n 0, 0, 0, 0), (.getfield 39, 0, 1, 6), (.iconst 1, 0, 0, 0), (.isub, 0, 0, 0), (.istore_n 3, 0, 0, 0)]),
  (7, [(.iload_n 3, 0, 0, 0), (.ifCond .lt 45, 0, 0, 0), (.aload_n 0, 0, 0, 0), (.getfield 23, 0, 1, 3), (.iload_n 3, 0, 0, 0), (.iaload, 0, 0, 0), (.iload_n 2, 0, 0, 0), (.if_icmp .ne 29, 0, 0, 0), (.aload_n 0, 0, 0, 0), (.getfield 26, 0, 1, 4), (.iload_n 3, 0, 0, 0), (.iaload, 0, 0, 0), (.iload_n 1, 0, 0, 0), (.if_icmp .ne 19, 0, 0, 0), (.aload_n 0, 0, 0, 0), (.getfield 29, 0, 1, 5), (.iload_n 3, 0, 0, 0), (.baload, 0, 0, 0), (.ifCond .eq 10, 0, 0, 0), (.aload_n 0, 0, 0, 0), (.getfield 13, 0, 1, 0), (.iload_n 3, 0, 0, 0), (.iaload, 0, 0, 0), (.ireturn, 0, 0, 0)]),
  (47, [(.iinc 3 (-1), 0, 0, 0), (.goto (-43), 0, 0, 0)]),
  (53, [(.iconst (-1), 0, 0, 0), (.ireturn, 0, 0, 0)])]
def s1_i17 : List (List Nat) := [[0, 389, 0, 0, 0], [0, 0, 0, 386, 0, 0, 0, 0, 0, 387, 0, 0, 0, 0, 0, 388, 0, 0, 0, 0, 380, 0, 0, 0], [0, 0], [0, 0]]
/-- DioceseBook$Changes.daysOf(IIII)I -/
def s1_b18 : List (Nat × AB) := [(0, [(.iconst 0, 0, 0, 0), (.istore 5, 0, 0, 0), (.iconst 0, 0, 0, 0), (.istore 6, 0, 0, 0), (.iconst 0, 0, 0, 0), (.istore 7, 0, 0, 0), (.iconst 0, 0, 0, 0), (.istore 8, 0, 0, 0)]),
  (12, [(.iload 8, 0, 0, 0), (.aload_n 0, 0, 0, 0), (.getfield 39, 0, 1, 6), (.if_icmp .ge 73, 0, 0, 0), (.aload_n 0, 0, 0, 0), (.getfield 23, 0, 1, 3), (.iload 8, 0, 0, 0), (.iaload, 0, 0, 0), (.iload_n 1, 0, 0, 0), (.if_icmp .ne 56, 0, 0, 0), (.iload 5, 0, 0, 0), (.iload 7, 0, 0, 0), (.iload 4, 0, 0, 0), (.if_icmp .ne 22, 0, 0, 0), (.iload 6, 0, 0, 0), (.aload_n 0, 0, 0, 0), (.getfield 13, 0, 1, 0), (.iload 8, 0, 0, 0), (.iaload, 0, 0, 0), (.iconst 1, 0, 0, 0), (.isub, 0, 0, 0), (.iload_n 2, 0, 0, 0), (.iload_n 3, 0, 0, 0), (.invokestatic 43, 0, 19, 4), (.goto 4, 0, 0, 0)]),
  (60, [(.iconst 0, 0, 0, 0)]),
  (61, [(.iadd, 0, 0, 0), (.istore 5, 0, 0, 0), (.aload_n 0, 0, 0, 0), (.getfield 13, 0, 1, 0), (.iload 8, 0, 0, 0), (.iaload, 0, 0, 0), (.istore 6, 0, 0, 0), (.aload_n 0, 0, 0, 0), (.getfield 20, 0, 1, 2), (.iload 8, 0, 0, 0), (.iaload, 0, 0, 0), (.invokestatic 47, 0, 13, 1), (.istore 7, 0, 0, 0)]),
  (85, [(.iinc 8 1, 0, 0, 0), (.goto (-76), 0, 0, 0)]),
  (91, [(.iload 5, 0, 0, 0), (.iload 7, 0, 0, 0), (.iload 4, 0, 0, 0), (.if_icmp .ne 16, 0, 0, 0), (.iload 6, 0, 0, 0), (.sipush 30000, 0, 0, 0), (.iload_n 2, 0, 0, 0), (.iload_n 3, 0, 0, 0), (.invokestatic 43, 0, 19, 4), (.goto 4, 0, 0, 0)]),
  (113, [(.iconst 0, 0, 0, 0)]),
  (114, [(.iadd, 0, 0, 0), (.ireturn, 0, 0, 0)])]
def s1_i18 : List (List Nat) := [[0, 0, 0, 0, 0, 0, 0, 0], [0, 0, 389, 0, 0, 386, 0, 0, 0, 0, 0, 0, 0, 0, 0, 0, 380, 0, 0, 0, 0, 0, 0, 1142, 0], [0], [0, 0, 0, 380, 0, 0, 0, 0, 384, 0, 0, 1146, 0], [0, 0], [0, 0, 0, 0, 0, 0, 0, 0, 1142, 0], [0], [0, 0]]
/-- DioceseBook$Changes.common(IIII)I -/
def s1_b19 : List (Nat × AB) := [(0, [(.iconst 0, 0, 0, 0), (.iload_n 1, 0, 0, 0), (.iload_n 3, 0, 0, 0), (.invokestatic 33, 0, 155, 2), (.iload_n 0, 0, 0, 0), (.iload_n 2, 0, 0, 0), (.invokestatic 51, 0, 154, 2), (.isub, 0, 0, 0), (.iconst 1, 0, 0, 0), (.iadd, 0, 0, 0), (.invokestatic 51, 0, 154, 2), (.ireturn, 0, 0, 0)])]
def s1_i19 : List (List Nat) := [[0, 0, 0, 902, 0, 0, 1145, 0, 0, 0, 1145, 0]]
/-- DioceseBook$Lives.add(IIIII)I -/
def s1_b20 : List (Nat × AB) := [(0, [(.aload_n 0, 0, 0, 0), (.getfield 36, 0, 2, 5), (.bipush 16, 0, 0, 0), (.if_icmp .lt 6, 0, 0, 0), (.ldc 40, -100004, 0, 0), (.ireturn, 0, 0, 0)]),
  (12, [(.aload_n 0, 0, 0, 0), (.getfield 11, 0, 2, 0), (.aload_n 0, 0, 0, 0), (.getfield 36, 0, 2, 5), (.iload_n 1, 0, 0, 0), (.iastore, 0, 0, 0), (.aload_n 0, 0, 0, 0), (.getfield 15, 0, 2, 1), (.aload_n 0, 0, 0, 0), (.getfield 36, 0, 2, 5), (.iload_n 2, 0, 0, 0), (.iastore, 0, 0, 0), (.aload_n 0, 0, 0, 0), (.getfield 18, 0, 2, 2), (.aload_n 0, 0, 0, 0), (.getfield 36, 0, 2, 5), (.iload_n 3, 0, 0, 0), (.iastore, 0, 0, 0), (.aload_n 0, 0, 0, 0), (.getfield 21, 0, 2, 3), (.aload_n 0, 0, 0, 0), (.getfield 36, 0, 2, 5), (.iload 4, 0, 0, 0), (.iastore, 0, 0, 0), (.aload_n 0, 0, 0, 0), (.getfield 24, 0, 2, 4), (.aload_n 0, 0, 0, 0), (.getfield 36, 0, 2, 5), (.iload 5, 0, 0, 0), (.iastore, 0, 0, 0), (.aload_n 0, 0, 0, 0), (.iconst 0, 0, 0, 0), (.putfield 41, 0, 2, 8), (.aload_n 0, 0, 0, 0), (.dup, 0, 0, 0), (.getfield 36, 0, 2, 5), (.dup_x1, 0, 0, 0), (.iconst 1, 0, 0, 0), (.iadd, 0, 0, 0), (.putfield 36, 0, 2, 5), (.ireturn, 0, 0, 0)])]
def s1_i20 : List (List Nat) := [[0, 515, 0, 0, 1287, 0], [0, 510, 0, 515, 0, 0, 0, 511, 0, 515, 0, 0, 0, 512, 0, 515, 0, 0, 0, 513, 0, 515, 0, 0, 0, 514, 0, 515, 0, 0, 0, 0, 521, 0, 0, 515, 0, 0, 0, 515, 0]]
/-- DioceseBook$Lives.isAhead(II)Z -/
def s1_b21 : List (Nat × AB) := [(0, [(.aload_n 0, 0, 0, 0), (.getfield 21, 0, 2, 3), (.iload_n 1, 0, 0, 0), (.iaload, 0, 0, 0), (.aload_n 0, 0, 0, 0), (.getfield 24, 0, 2, 4), (.iload_n 2, 0, 0, 0), (.iaload, 0, 0, 0), (.if_icmp .ne 29, 0, 0, 0), (.aload_n 0, 0, 0, 0), (.getfield 24, 0, 2, 4), (.iload_n 1, 0, 0, 0), (.iaload, 0, 0, 0), (.aload_n 0, 0, 0, 0), (.getfield 21, 0, 2, 3), (.iload_n 2, 0, 0, 0), (.iaload, 0, 0, 0), (.if_icmp .ne 14, 0, 0, 0), (.iload_n 1, 0, 0, 0), (.iload_n 2, 0, 0, 0), (.if_icmp .ge 7, 0, 0, 0), (.iconst 1, 0, 0, 0), (.goto 4, 0, 0, 0)]),
  (39, [(.iconst 0, 0, 0, 0)]),
  (40, [(.ireturn, 0, 0, 0)]),
  (41, [(.aload_n 0, 0, 0, 0), (.getfield 24, 0, 2, 4), (.iload_n 1, 0, 0, 0), (.iaload, 0, 0, 0), (.aload_n 0, 0, 0, 0), (.getfield 21, 0, 2, 3), (.iload_n 2, 0, 0, 0), (.iaload, 0, 0, 0), (.if_icmp .gt 7, 0, 0, 0), (.iconst 1, 0, 0, 0), (.goto 4, 0, 0, 0)]),
  (60, [(.iconst 0, 0, 0, 0)]),
  (61, [(.ireturn, 0, 0, 0)])]
def s1_i21 : List (List Nat) := [[0, 513, 0, 0, 0, 514, 0, 0, 0, 0, 514, 0, 0, 0, 513, 0, 0, 0, 0, 0, 0, 0, 0], [0], [0], [0, 514, 0, 0, 0, 513, 0, 0, 0, 0, 0], [0], [0]]
/-- DioceseBook$Lives.joins(II)Z -/
def s1_b22 : List (Nat × AB) := [(0, [(.aload_n 0, 0, 0, 0), (.getfield 15, 0, 2, 1), (.iload_n 1, 0, 0, 0), (.iaload, 0, 0, 0), (.aload_n 0, 0, 0, 0), (.getfield 15, 0, 2, 1), (.iload_n 2, 0, 0, 0), (.iaload, 0, 0, 0), (.isub, 0, 0, 0), (.invokestatic 45, 0, 153, 1), (.aload_n 0, 0, 0, 0), (.getfield 18, 0, 2, 2), (.iload_n 1, 0, 0, 0), (.iaload, 0, 0, 0), (.aload_n 0, 0, 0, 0), (.getfield 18, 0, 2, 2), (.iload_n 2, 0, 0, 0), (.iaload, 0, 0, 0), (.isub, 0, 0, 0), (.invokestatic 45, 0, 153, 1), (.iadd, 0, 0, 0), (.istore_n 3, 0, 0, 0), (.aload_n 0, 0, 0, 0), (.getfield 11, 0, 2, 0), (.iload_n 1, 0, 0, 0), (.iaload, 0, 0, 0), (.aload_n 0, 0, 0, 0), (.getfield 11, 0, 2, 0), (.iload_n 2, 0, 0, 0), (.iaload, 0, 0, 0), (.if_icmp .ne 41, 0, 0, 0), (.aload_n 0, 0, 0, 0), (.iload_n 1, 0, 0, 0), (.iload_n 2, 0, 0, 0), (.invokevirtual 51, 0, 21, 2), (.ifCond .eq 32, 0, 0, 0), (.aload_n 0, 0, 0, 0), (.getfield 21, 0, 2, 3), (.iload_n 2, 0, 0, 0), (.iaload, 0, 0, 0), (.aload_n 0, 0, 0, 0), (.getfield 24, 0, 2, 4), (.iload_n 1, 0, 0, 0), (.iaload, 0, 0, 0), (.isub, 0, 0, 0), (.iload_n 3, 0, 0, 0), (.bipush 20, 0, 0, 0), (.iadd, 0, 0, 0), (.iconst 1, 0, 0, 0), (.isub, 0, 0, 0), (.bipush 20, 0, 0, 0), (.idiv, 0, 0, 0), (.if_icmp .lt 7, 0, 0, 0), (.iconst 1, 0, 0, 0), (.goto 4, 0, 0, 0)]),
  (87, [(.iconst 0, 0, 0, 0)]),
  (88, [(.ireturn, 0, 0, 0)])]
def s1_i22 : List (List Nat) := [[0, 511, 0, 0, 0, 511, 0, 0, 0, 1300, 0, 512, 0, 0, 0, 512, 0, 0, 0, 1300, 0, 0, 0, 510, 0, 0, 0, 510, 0, 0, 0, 0, 0, 0, 1301, 0, 0, 513, 0, 0, 0, 514, 0, 0, 0, 0, 0, 0, 0, 0, 0, 0, 0, 0, 0], [0], [0]]
/-- DioceseBook$Lives.join()V -/
def s1_b23 : List (Nat × AB) := [(0, [(.aload_n 0, 0, 0, 0), (.getfield 41, 0, 2, 8), (.ifCond .eq 4, 0, 0, 0), (.return_, 0, 0, 0)]),
  (8, [(.aload_n 0, 0, 0, 0), (.iconst 1, 0, 0, 0), (.putfield 41, 0, 2, 8), (.iconst 0, 0, 0, 0), (.istore_n 1, 0, 0, 0)]),
  (15, [(.iload_n 1, 0, 0, 0), (.aload_n 0, 0, 0, 0), (.getfield 36, 0, 2, 5), (.if_icmp .ge 57, 0, 0, 0), (.aload_n 0, 0, 0, 0), (.getfield 30, 0, 2, 9), (.iload_n 1, 0, 0, 0), (.iconst 0, 0, 0, 0), (.iastore, 0, 0, 0), (.iconst 0, 0, 0, 0), (.istore_n 2, 0, 0, 0)]),
  (32, [(.iload_n 2, 0, 0, 0), (.aload_n 0, 0, 0, 0), (.getfield 36, 0, 2, 5), (.if_icmp .ge 34, 0, 0, 0), (.aload_n 0, 0, 0, 0), (.getfield 30, 0, 2, 9), (.iload_n 1, 0, 0, 0), (.dup2, 0, 0, 0), (.iaload, 0, 0, 0), (.aload_n 0, 0, 0, 0), (.iload_n 1, 0, 0, 0), (.iload_n 2, 0, 0, 0), (.invokevirtual 55, 0, 22, 2), (.ifCond .eq 9, 0, 0, 0), (.iconst 1, 0, 0, 0), (.iload_n 2, 0, 0, 0), (.ishl, 0, 0, 0), (.goto 4, 0, 0, 0)]),
  (62, [(.iconst 0, 0, 0, 0)]),
  (63, [(.ior, 0, 0, 0), (.iastore, 0, 0, 0), (.iinc 2 1, 0, 0, 0), (.goto (-36), 0, 0, 0)]),
  (71, [(.iinc 1 1, 0, 0, 0), (.goto (-59), 0, 0, 0)]),
  (77, [(.aload_n 0, 0, 0, 0), (.iconst 0, 0, 0, 0), (.iconst 0, 0, 0, 0), (.invokevirtual 58, 0, 25, 2), (.istore_n 1, 0, 0, 0), (.aload_n 0, 0, 0, 0), (.aload_n 0, 0, 0, 0), (.getfield 36, 0, 2, 5), (.iload_n 1, 0, 0, 0), (.isub, 0, 0, 0), (.putfield 62, 0, 2, 6), (.iconst 0, 0, 0, 0), (.istore_n 2, 0, 0, 0), (.iconst 0, 0, 0, 0), (.istore_n 3, 0, 0, 0)]),
  (98, [(.iload_n 3, 0, 0, 0), (.aload_n 0, 0, 0, 0), (.getfield 36, 0, 2, 5), (.if_icmp .ge 46, 0, 0, 0), (.aload_n 0, 0, 0, 0), (.getfield 27, 0, 2, 7), (.iload_n 3, 0, 0, 0), (.aload_n 0, 0, 0, 0), (.iload_n 3, 0, 0, 0), (.iload_n 2, 0, 0, 0), (.iload_n 1, 0, 0, 0), (.invokevirtual 65, 0, 24, 3), (.iastore, 0, 0, 0), (.aload_n 0, 0, 0, 0), (.getfield 27, 0, 2, 7), (.iload_n 3, 0, 0, 0), (.iaload, 0, 0, 0), (.iconst (-1), 0, 0, 0), (.if_icmp .eq 17, 0, 0, 0), (.iload_n 2, 0, 0, 0), (.iconst 1, 0, 0, 0), (.aload_n 0, 0, 0, 0), (.getfield 27, 0, 2, 7), (.iload_n 3, 0, 0, 0), (.iaload, 0, 0, 0), (.ishl, 0, 0, 0), (.ior, 0, 0, 0), (.istore_n 2, 0, 0, 0), (.iinc 1 (-1), 0, 0, 0)]),
  (143, [(.iinc 3 1, 0, 0, 0), (.goto (-48), 0, 0, 0)]),
  (149, [(.return_, 0, 0, 0)])]
def s1_i23 : List (List Nat) := [[0, 521, 0, 0], [0, 0, 521, 0, 0], [0, 0, 515, 0, 0, 522, 0, 0, 0, 0, 0], [0, 0, 515, 0, 0, 522, 0, 0, 0, 0, 0, 0, 1313, 0, 0, 0, 0, 0], [0], [0, 0, 0, 0], [0, 0], [0, 0, 0, 1314, 0, 0, 0, 515, 0, 0, 517, 0, 0, 0, 0], [0, 0, 515, 0, 0, 519, 0, 0, 0, 0, 0, 1322, 0, 0, 519, 0, 0, 0, 0, 0, 0, 0, 519, 0, 0, 0, 0, 0, 0], [0, 0], [0]]
/-- DioceseBook$Lives.leastBehind(III)I -/
def s1_b24 : List (Nat × AB) := [(0, [(.iconst 0, 0, 0, 0), (.istore 4, 0, 0, 0)]),
  (3, [(.iload 4, 0, 0, 0), (.aload_n 0, 0, 0, 0), (.getfield 36, 0, 2, 5), (.if_icmp .ge 49, 0, 0, 0), (.aload_n 0, 0, 0, 0), (.getfield 30, 0, 2, 9), (.iload_n 1, 0, 0, 0), (.iaload, 0, 0, 0), (.iload_n 2, 0, 0, 0), (.iconst (-1), 0, 0, 0), (.ixor, 0, 0, 0), (.iand, 0, 0, 0), (.iconst 1, 0, 0, 0), (.iload 4, 0, 0, 0), (.ishl, 0, 0, 0), (.iand, 0, 0, 0), (.ifCond .eq 25, 0, 0, 0), (.aload_n 0, 0, 0, 0), (.iload_n 1, 0, 0, 0), (.iconst 1, 0, 0, 0), (.iadd, 0, 0, 0), (.iload_n 2, 0, 0, 0), (.iconst 1, 0, 0, 0), (.iload 4, 0, 0, 0), (.ishl, 0, 0, 0), (.ior, 0, 0, 0), (.invokevirtual 58, 0, 25, 2), (.iload_n 3, 0, 0, 0), (.iconst 1, 0, 0, 0), (.isub, 0, 0, 0), (.if_icmp .ne 6, 0, 0, 0), (.iload 4, 0, 0, 0), (.ireturn, 0, 0, 0)]),
  (52, [(.iinc 4 1, 0, 0, 0), (.goto (-52), 0, 0, 0)]),
  (58, [(.iconst (-1), 0, 0, 0), (.ireturn, 0, 0, 0)])]
def s1_i24 : List (List Nat) := [[0, 0], [0, 0, 515, 0, 0, 522, 0, 0, 0, 0, 0, 0, 0, 0, 0, 0, 0, 0, 0, 0, 0, 0, 0, 0, 0, 0, 1314, 0, 0, 0, 0, 0, 0], [0, 0], [0, 0]]
/-- DioceseBook$Lives.mostLinks(II)I -/
def s1_b25 : List (Nat × AB) := [(0, [(.iconst 0, 0, 0, 0), (.istore_n 3, 0, 0, 0)]),
  (2, [(.iload_n 3, 0, 0, 0), (.aload_n 0, 0, 0, 0), (.getfield 36, 0, 2, 5), (.if_icmp .ge 16, 0, 0, 0), (.aload_n 0, 0, 0, 0), (.getfield 33, 0, 2, 10), (.iload_n 3, 0, 0, 0), (.iconst (-1), 0, 0, 0), (.iastore, 0, 0, 0), (.iinc 3 1, 0, 0, 0), (.goto (-18), 0, 0, 0)]),
  (23, [(.iconst 0, 0, 0, 0), (.istore_n 3, 0, 0, 0), (.iload_n 1, 0, 0, 0), (.istore 4, 0, 0, 0)]),
  (28, [(.iload 4, 0, 0, 0), (.aload_n 0, 0, 0, 0), (.getfield 36, 0, 2, 5), (.if_icmp .ge 27, 0, 0, 0), (.aload_n 0, 0, 0, 0), (.iload_n 2, 0, 0, 0), (.putfield 69, 0, 2, 11), (.aload_n 0, 0, 0, 0), (.iload 4, 0, 0, 0), (.iconst 0, 0, 0, 0), (.invokevirtual 72, 0, 26, 2), (.ifCond .eq 6, 0, 0, 0), (.iinc 3 1, 0, 0, 0)]),
  (55, [(.iinc 4 1, 0, 0, 0), (.goto (-30), 0, 0, 0)]),
  (61, [(.iload_n 3, 0, 0, 0), (.ireturn, 0, 0, 0)])]
def s1_i25 : List (List Nat) := [[0, 0], [0, 0, 515, 0, 0, 523, 0, 0, 0, 0, 0], [0, 0, 0, 0], [0, 0, 515, 0, 0, 0, 524, 0, 0, 0, 1318, 0, 0], [0, 0], [0, 0]]
/-- DioceseBook$Lives.link(II)Z -/
def s1_b26 : List (Nat × AB) := [(0, [(.iconst 0, 0, 0, 0), (.istore_n 3, 0, 0, 0)]),
  (2, [(.iload_n 3, 0, 0, 0), (.aload_n 0, 0, 0, 0), (.getfield 36, 0, 2, 5), (.if_icmp .ge 82, 0, 0, 0), (.iload_n 2, 0, 0, 0), (.bipush 16, 0, 0, 0), (.if_icmp .gt 76, 0, 0, 0), (.aload_n 0, 0, 0, 0), (.getfield 30, 0, 2, 9), (.iload_n 1, 0, 0, 0), (.iaload, 0, 0, 0), (.aload_n 0, 0, 0, 0), (.getfield 69, 0, 2, 11), (.iconst (-1), 0, 0, 0), (.ixor, 0, 0, 0), (.iand, 0, 0, 0), (.iconst 1, 0, 0, 0), (.iload_n 3, 0, 0, 0), (.ishl, 0, 0, 0), (.iand, 0, 0, 0), (.ifCond .eq 50, 0, 0, 0), (.aload_n 0, 0, 0, 0), (.dup, 0, 0, 0), (.getfield 69, 0, 2, 11), (.iconst 1, 0, 0, 0), (.iload_n 3, 0, 0, 0), (.ishl, 0, 0, 0), (.ior, 0, 0, 0), (.putfield 69, 0, 2, 11), (.aload_n 0, 0, 0, 0), (.getfield 33, 0, 2, 10), (.iload_n 3, 0, 0, 0), (.iaload, 0, 0, 0), (.iconst (-1), 0, 0, 0), (.if_icmp .eq 19, 0, 0, 0), (.aload_n 0, 0, 0, 0), (.aload_n 0, 0, 0, 0), (.getfield 33, 0, 2, 10), (.iload_n 3, 0, 0, 0), (.iaload, 0, 0, 0), (.iload_n 2, 0, 0, 0), (.iconst 1, 0, 0, 0), (.iadd, 0, 0, 0), (.invokevirtual 72, 0, 26, 2), (.ifCond .eq 12, 0, 0, 0)]),
  (74, [(.aload_n 0, 0, 0, 0), (.getfield 33, 0, 2, 10), (.iload_n 3, 0, 0, 0), (.iload_n 1, 0, 0, 0), (.iastore, 0, 0, 0), (.iconst 1, 0, 0, 0), (.ireturn, 0, 0, 0)]),
  (83, [(.iinc 3 1, 0, 0, 0), (.goto (-84), 0, 0, 0)]),
  (89, [(.iconst 0, 0, 0, 0), (.ireturn, 0, 0, 0)])]
def s1_i26 : List (List Nat) := [[0, 0], [0, 0, 515, 0, 0, 0, 0, 0, 522, 0, 0, 0, 524, 0, 0, 0, 0, 0, 0, 0, 0, 0, 0, 524, 0, 0, 0, 0, 524, 0, 523, 0, 0, 0, 0, 0, 0, 523, 0, 0, 0, 0, 0, 1318, 0], [0, 523, 0, 0, 0, 0, 0], [0, 0], [0, 0]]
/-- DioceseBook$Papers.hasLiving(I)Z -/
def s1_b27 : List (Nat × AB) := [(0, [(.iload_n 0, 0, 0, 0), (.iconst 0, 0, 0, 0), (.bipush 12, 0, 0, 0), (.invokestatic 54, 0, 140, 3), (.ifCond .eq 18, 0, 0, 0), (.sipush 3992, 0, 0, 0), (.iload_n 0, 0, 0, 0), (.ishr, 0, 0, 0), (.iconst 1, 0, 0, 0), (.iand, 0, 0, 0), (.iconst 1, 0, 0, 0), (.if_icmp .ne 7, 0, 0, 0), (.iconst 1, 0, 0, 0), (.goto 4, 0, 0, 0)]),
  (25, [(.iconst 0, 0, 0, 0)]),
  (26, [(.ireturn, 0, 0, 0)])]
def s1_i27 : List (List Nat) := [[0, 0, 0, 100000, 0, 0, 0, 0, 0, 0, 0, 0, 0, 0], [0], [0]]
/-- DioceseBook$Papers.hasPerson(I)Z -/
def s1_b28 : List (Nat × AB) := [(0, [(.iload_n 0, 0, 0, 0), (.iconst 0, 0, 0, 0), (.bipush 9, 0, 0, 0), (.invokestatic 54, 0, 140, 3), (.ireturn, 0, 0, 0)])]
def s1_i28 : List (List Nat) := [[0, 0, 0, 100000, 0]]
/-- DioceseBook$Papers.hasOther(I)Z -/
def s1_b29 : List (Nat × AB) := [(0, [(.iload_n 0, 0, 0, 0), (.iconst 0, 0, 0, 0), (.bipush 12, 0, 0, 0), (.invokestatic 54, 0, 140, 3), (.ifCond .eq 18, 0, 0, 0), (.sipush 712, 0, 0, 0), (.iload_n 0, 0, 0, 0), (.ishr, 0, 0, 0), (.iconst 1, 0, 0, 0), (.iand, 0, 0, 0), (.iconst 1, 0, 0, 0), (.if_icmp .ne 7, 0, 0, 0), (.iconst 1, 0, 0, 0), (.goto 4, 0, 0, 0)]),
  (25, [(.iconst 0, 0, 0, 0)]),
  (26, [(.ireturn, 0, 0, 0)])]
def s1_i29 : List (List Nat) := [[0, 0, 0, 100000, 0, 0, 0, 0, 0, 0, 0, 0, 0, 0], [0], [0]]
/-- DioceseBook$Papers.add(IIIIIII)I -/
def s1_b30 : List (Nat × AB) := [(0, [(.aload_n 0, 0, 0, 0), (.getfield 58, 0, 3, 7), (.istore 8, 0, 0, 0), (.aload_n 0, 0, 0, 0), (.getfield 11, 0, 3, 0), (.iload 8, 0, 0, 0), (.iload_n 1, 0, 0, 0), (.iastore, 0, 0, 0), (.aload_n 0, 0, 0, 0), (.getfield 15, 0, 3, 1), (.iload 8, 0, 0, 0), (.iload_n 2, 0, 0, 0), (.iastore, 0, 0, 0), (.aload_n 0, 0, 0, 0), (.getfield 18, 0, 3, 2), (.iload 8, 0, 0, 0), (.iload_n 3, 0, 0, 0), (.iastore, 0, 0, 0), (.aload_n 0, 0, 0, 0), (.getfield 21, 0, 3, 3), (.iload 8, 0, 0, 0), (.iload_n 1, 0, 0, 0), (.invokestatic 61, 0, 27, 1), (.ifCond .eq 8, 0, 0, 0), (.iload 4, 0, 0, 0), (.goto 4, 0, 0, 0)]),
  (48, [(.iconst (-1), 0, 0, 0)]),
  (49, [(.iastore, 0, 0, 0), (.aload_n 0, 0, 0, 0), (.getfield 24, 0, 3, 4), (.iload 8, 0, 0, 0), (.iload_n 1, 0, 0, 0), (.invokestatic 65, 0, 28, 1), (.ifCond .eq 8, 0, 0, 0), (.iload 5, 0, 0, 0), (.goto 4, 0, 0, 0)]),
  (68, [(.iconst (-1), 0, 0, 0)]),
  (69, [(.iastore, 0, 0, 0), (.aload_n 0, 0, 0, 0), (.getfield 27, 0, 3, 5), (.iload 8, 0, 0, 0), (.iload_n 1, 0, 0, 0), (.invokestatic 68, 0, 29, 1), (.ifCond .eq 8, 0, 0, 0), (.iload 6, 0, 0, 0), (.goto 4, 0, 0, 0)]),
  (88, [(.iconst (-1), 0, 0, 0)]),
  (89, [(.iastore, 0, 0, 0), (.aload_n 0, 0, 0, 0), (.getfield 30, 0, 3, 6), (.iload 8, 0, 0, 0), (.iload_n 1, 0, 0, 0), (.bipush 11, 0, 0, 0), (.if_icmp .eq 9, 0, 0, 0), (.iload_n 1, 0, 0, 0), (.bipush 12, 0, 0, 0), (.if_icmp .ne 8, 0, 0, 0)]),
  (108, [(.iload 7, 0, 0, 0), (.goto 4, 0, 0, 0)]),
  (113, [(.iconst (-1), 0, 0, 0)]),
  (114, [(.iastore, 0, 0, 0), (.iload 8, 0, 0, 0), (.istore 9, 0, 0, 0)]),
  (119, [(.iload 9, 0, 0, 0), (.ifCond .le 43, 0, 0, 0), (.aload_n 0, 0, 0, 0), (.getfield 15, 0, 3, 1), (.aload_n 0, 0, 0, 0), (.getfield 33, 0, 3, 8), (.iload 9, 0, 0, 0), (.iconst 1, 0, 0, 0), (.isub, 0, 0, 0), (.iaload, 0, 0, 0), (.iaload, 0, 0, 0), (.iload_n 2, 0, 0, 0), (.if_icmp .le 25, 0, 0, 0), (.aload_n 0, 0, 0, 0), (.getfield 33, 0, 3, 8), (.iload 9, 0, 0, 0), (.aload_n 0, 0, 0, 0), (.getfield 33, 0, 3, 8), (.iload 9, 0, 0, 0), (.iconst 1, 0, 0, 0), (.isub, 0, 0, 0), (.iaload, 0, 0, 0), (.iastore, 0, 0, 0), (.iinc 9 (-1), 0, 0, 0), (.goto (-42), 0, 0, 0)]),
  (164, [(.aload_n 0, 0, 0, 0), (.getfield 33, 0, 3, 8), (.iload 9, 0, 0, 0), (.iload 8, 0, 0, 0), (.iastore, 0, 0, 0), (.aload_n 0, 0, 0, 0), (.dup, 0, 0, 0), (.getfield 58, 0, 3, 7), (.iconst 1, 0, 0, 0), (.iadd, 0, 0, 0), (.putfield 58, 0, 3, 7), (.aload_n 0, 0, 0, 0), (.iconst (-1), 0, 0, 0), (.putfield 36, 0, 3, 9), (.iload 8, 0, 0, 0), (.ireturn, 0, 0, 0)])]
def s1_i30 : List (List Nat) := [[0, 211, 0, 0, 188, 0, 0, 0, 0, 191, 0, 0, 0, 0, 194, 0, 0, 0, 0, 196, 0, 0, 696, 0, 0, 0], [0], [0, 0, 200, 0, 0, 697, 0, 0, 0], [0], [0, 0, 204, 0, 0, 698, 0, 0, 0], [0], [0, 0, 208, 0, 0, 0, 0, 0, 0, 0], [0, 0], [0], [0, 0, 0], [0, 0, 0, 191, 0, 213, 0, 0, 0, 0, 0, 0, 0, 0, 213, 0, 0, 213, 0, 0, 0, 0, 0, 0, 0], [0, 213, 0, 0, 0, 0, 0, 211, 0, 0, 211, 0, 0, 214, 0, 0]]
/-- DioceseBook$Papers.open(I)V -/
def s1_b31 : List (Nat × AB) := [(0, [(.aload_n 0, 0, 0, 0), (.getfield 36, 0, 3, 9), (.iload_n 1, 0, 0, 0), (.if_icmp .ne 4, 0, 0, 0), (.return_, 0, 0, 0)]),
  (9, [(.aload_n 0, 0, 0, 0), (.iload_n 1, 0, 0, 0), (.putfield 36, 0, 3, 9), (.aload_n 0, 0, 0, 0), (.iload_n 1, 0, 0, 0), (.invokevirtual 71, 0, 32, 1), (.iconst 0, 0, 0, 0), (.istore_n 2, 0, 0, 0)]),
  (21, [(.iload_n 2, 0, 0, 0), (.iconst 5, 0, 0, 0), (.if_icmp .gt 32, 0, 0, 0), (.iconst 0, 0, 0, 0), (.istore_n 3, 0, 0, 0)]),
  (28, [(.iload_n 3, 0, 0, 0), (.bipush 40, 0, 0, 0), (.if_icmp .ge 18, 0, 0, 0), (.aload_n 0, 0, 0, 0), (.getfield 51, 0, 3, 13), (.iload_n 2, 0, 0, 0), (.aaload, 0, 0, 0), (.iload_n 3, 0, 0, 0), (.iconst (-1), 0, 0, 0), (.iastore, 0, 0, 0), (.iinc 3 1, 0, 0, 0), (.goto (-18), 0, 0, 0)]),
  (49, [(.iinc 2 1, 0, 0, 0), (.goto (-31), 0, 0, 0)]),
  (55, [(.aload_n 0, 0, 0, 0), (.iconst 0, 0, 0, 0), (.putfield 75, 0, 3, 12), (.iconst 0, 0, 0, 0), (.istore_n 2, 0, 0, 0)]),
  (62, [(.iload_n 2, 0, 0, 0), (.aload_n 0, 0, 0, 0), (.getfield 58, 0, 3, 7), (.if_icmp .ge 100, 0, 0, 0), (.aload_n 0, 0, 0, 0), (.getfield 33, 0, 3, 8), (.iload_n 2, 0, 0, 0), (.iaload, 0, 0, 0), (.istore_n 3, 0, 0, 0), (.aload_n 0, 0, 0, 0), (.iload_n 3, 0, 0, 0), (.invokevirtual 78, 0, 34, 1), (.ifCond .eq 79, 0, 0, 0), (.aload_n 0, 0, 0, 0), (.getfield 44, 0, 3, 11), (.aload_n 0, 0, 0, 0), (.getfield 75, 0, 3, 12), (.iload_n 3, 0, 0, 0), (.iastore, 0, 0, 0), (.aload_n 0, 0, 0, 0), (.dup, 0, 0, 0), (.getfield 75, 0, 3, 12), (.iconst 1, 0, 0, 0), (.iadd, 0, 0, 0), (.putfield 75, 0, 3, 12), (.aload_n 0, 0, 0, 0), (.getfield 11, 0, 3, 0), (.iload_n 3, 0, 0, 0), (.iaload, 0, 0, 0), (.iconst 5, 0, 0, 0), (.if_icmp .gt 49, 0, 0, 0), (.aload_n 0, 0, 0, 0), (.getfield 51, 0, 3, 13), (.aload_n 0, 0, 0, 0), (.getfield 11, 0, 3, 0), (.iload_n 3, 0, 0, 0), (.iaload, 0, 0, 0), (.aaload, 0, 0, 0), (.aload_n 0, 0, 0, 0), (.getfield 24, 0, 3, 4), (.iload_n 3, 0, 0, 0), (.iaload, 0, 0, 0), (.iaload, 0, 0, 0), (.iconst (-1), 0, 0, 0), (.if_icmp .ne 27, 0, 0, 0), (.aload_n 0, 0, 0, 0), (.getfield 51, 0, 3, 13), (.aload_n 0, 0, 0, 0), (.getfield 11, 0, 3, 0), (.iload_n 3, 0, 0, 0), (.iaload, 0, 0, 0), (.aaload, 0, 0, 0), (.aload_n 0, 0, 0, 0), (.getfield 24, 0, 3, 4), (.iload_n 3, 0, 0, 0), (.iaload, 0, 0, 0), (.aload_n 0, 0, 0, 0), (.getfield 15, 0, 3, 1), (.iload_n 3, 0, 0, 0), (.iaload, 0, 0, 0), (.iastore, 0, 0, 0)]),
  (161, [(.iinc 2 1, 0, 0, 0), (.goto (-102), 0, 0, 0)]),
  (167, [(.return_, 0, 0, 0)])]
def s1_i31 : List (List Nat) := [[0, 214, 0, 0, 0], [0, 0, 214, 0, 0, 707, 0, 0], [0, 0, 0, 0, 0], [0, 0, 0, 0, 223, 0, 0, 0, 0, 0, 0, 0], [0, 0], [0, 0, 221, 0, 0], [0, 0, 211, 0, 0, 213, 0, 0, 0, 0, 0, 711, 0, 0, 217, 0, 221, 0, 0, 0, 0, 221, 0, 0, 221, 0, 188, 0, 0, 0, 0, 0, 223, 0, 188, 0, 0, 0, 0, 200, 0, 0, 0, 0, 0, 0, 223, 0, 188, 0, 0, 0, 0, 200, 0, 0, 0, 191, 0, 0, 0], [0, 0], [0]]
/-- DioceseBook$Papers.markVoid(I)V -/
def s1_b32 : List (Nat × AB) := [(0, [(.iconst 0, 0, 0, 0), (.istore_n 2, 0, 0, 0)]),
  (2, [(.iload_n 2, 0, 0, 0), (.aload_n 0, 0, 0, 0), (.getfield 58, 0, 3, 7), (.if_icmp .ge 16, 0, 0, 0), (.aload_n 0, 0, 0, 0), (.getfield 40, 0, 3, 10), (.iload_n 2, 0, 0, 0), (.iconst 0, 0, 0, 0), (.bastore, 0, 0, 0), (.iinc 2 1, 0, 0, 0), (.goto (-18), 0, 0, 0)]),
  (23, [(.aload_n 0, 0, 0, 0), (.getfield 58, 0, 3, 7), (.iconst 1, 0, 0, 0), (.isub, 0, 0, 0), (.istore_n 2, 0, 0, 0)]),
  (30, [(.iload_n 2, 0, 0, 0), (.ifCond .lt 51, 0, 0, 0), (.aload_n 0, 0, 0, 0), (.getfield 11, 0, 3, 0), (.iload_n 2, 0, 0, 0), (.iaload, 0, 0, 0), (.bipush 12, 0, 0, 0), (.if_icmp .ne 34, 0, 0, 0), (.aload_n 0, 0, 0, 0), (.getfield 18, 0, 3, 2), (.iload_n 2, 0, 0, 0), (.iaload, 0, 0, 0), (.iload_n 1, 0, 0, 0), (.if_icmp .gt 24, 0, 0, 0), (.aload_n 0, 0, 0, 0), (.getfield 40, 0, 3, 10), (.iload_n 2, 0, 0, 0), (.baload, 0, 0, 0), (.ifCond .ne 15, 0, 0, 0), (.aload_n 0, 0, 0, 0), (.getfield 40, 0, 3, 10), (.aload_n 0, 0, 0, 0), (.getfield 30, 0, 3, 6), (.iload_n 2, 0, 0, 0), (.iaload, 0, 0, 0), (.iconst 1, 0, 0, 0), (.bastore, 0, 0, 0)]),
  (76, [(.iinc 2 (-1), 0, 0, 0), (.goto (-49), 0, 0, 0)]),
  (82, [(.return_, 0, 0, 0)])]
def s1_i32 : List (List Nat) := [[0, 0], [0, 0, 211, 0, 0, 215, 0, 0, 0, 0, 0], [0, 211, 0, 0, 0], [0, 0, 0, 188, 0, 0, 0, 0, 0, 194, 0, 0, 0, 0, 0, 215, 0, 0, 0, 0, 215, 0, 208, 0, 0, 0, 0], [0, 0], [0]]
/-- DioceseBook$Papers.hadBy(III)Z -/
def s1_b33 : List (Nat × AB) := [(0, [(.aload_n 0, 0, 0, 0), (.getfield 51, 0, 3, 13), (.iload_n 1, 0, 0, 0), (.aaload, 0, 0, 0), (.iload_n 2, 0, 0, 0), (.iaload, 0, 0, 0), (.istore 4, 0, 0, 0), (.iload 4, 0, 0, 0), (.iconst (-1), 0, 0, 0), (.if_icmp .eq 13, 0, 0, 0), (.iload 4, 0, 0, 0), (.iload_n 3, 0, 0, 0), (.if_icmp .gt 7, 0, 0, 0), (.iconst 1, 0, 0, 0), (.goto 4, 0, 0, 0)]),
  (26, [(.iconst 0, 0, 0, 0)]),
  (27, [(.ireturn, 0, 0, 0)])]
def s1_i33 : List (List Nat) := [[0, 223, 0, 0, 0, 0, 0, 0, 0, 0, 0, 0, 0, 0, 0], [0], [0]]
/-- DioceseBook$Papers.isInBook(I)Z -/
def s1_b34 : List (Nat × AB) := [(0, [(.aload_n 0, 0, 0, 0), (.getfield 18, 0, 3, 2), (.iload_n 1, 0, 0, 0), (.iaload, 0, 0, 0), (.aload_n 0, 0, 0, 0), (.getfield 36, 0, 3, 9), (.if_icmp .gt 16, 0, 0, 0), (.aload_n 0, 0, 0, 0), (.getfield 40, 0, 3, 10), (.iload_n 1, 0, 0, 0), (.baload, 0, 0, 0), (.ifCond .ne 7, 0, 0, 0), (.iconst 1, 0, 0, 0), (.goto 4, 0, 0, 0)]),
  (26, [(.iconst 0, 0, 0, 0)]),
  (27, [(.ireturn, 0, 0, 0)])]
def s1_i34 : List (List Nat) := [[0, 194, 0, 0, 0, 214, 0, 0, 215, 0, 0, 0, 0, 0], [0], [0]]
/-- DioceseBook$Papers.heirBy(II)I -/
def s1_b35 : List (Nat × AB) := [(0, [(.aload_n 0, 0, 0, 0), (.getfield 75, 0, 3, 12), (.iconst 1, 0, 0, 0), (.isub, 0, 0, 0), (.istore_n 3, 0, 0, 0)]),
  (7, [(.iload_n 3, 0, 0, 0), (.ifCond .lt 59, 0, 0, 0), (.aload_n 0, 0, 0, 0), (.getfield 44, 0, 3, 11), (.iload_n 3, 0, 0, 0), (.iaload, 0, 0, 0), (.istore 4, 0, 0, 0), (.aload_n 0, 0, 0, 0), (.getfield 11, 0, 3, 0), (.iload 4, 0, 0, 0), (.iaload, 0, 0, 0), (.bipush 6, 0, 0, 0), (.if_icmp .ne 33, 0, 0, 0), (.aload_n 0, 0, 0, 0), (.getfield 24, 0, 3, 4), (.iload 4, 0, 0, 0), (.iaload, 0, 0, 0), (.iload_n 1, 0, 0, 0), (.if_icmp .ne 22, 0, 0, 0), (.aload_n 0, 0, 0, 0), (.getfield 15, 0, 3, 1), (.iload 4, 0, 0, 0), (.iaload, 0, 0, 0), (.iload_n 2, 0, 0, 0), (.if_icmp .gt 11, 0, 0, 0), (.aload_n 0, 0, 0, 0), (.getfield 27, 0, 3, 5), (.iload 4, 0, 0, 0), (.iaload, 0, 0, 0), (.ireturn, 0, 0, 0)]),
  (61, [(.iinc 3 (-1), 0, 0, 0), (.goto (-57), 0, 0, 0)]),
  (67, [(.iconst (-1), 0, 0, 0), (.ireturn, 0, 0, 0)])]
def s1_i35 : List (List Nat) := [[0, 221, 0, 0, 0], [0, 0, 0, 217, 0, 0, 0, 0, 188, 0, 0, 0, 0, 0, 200, 0, 0, 0, 0, 0, 191, 0, 0, 0, 0, 0, 204, 0, 0, 0], [0, 0], [0, 0]]
/-- DioceseBook$Papers.firstNotice(II)I -/
def s1_b36 : List (Nat × AB) := [(0, [(.iconst 0, 0, 0, 0), (.istore_n 3, 0, 0, 0)]),
  (2, [(.iload_n 3, 0, 0, 0), (.aload_n 0, 0, 0, 0), (.getfield 75, 0, 3, 12), (.if_icmp .ge 59, 0, 0, 0), (.aload_n 0, 0, 0, 0), (.getfield 44, 0, 3, 11), (.iload_n 3, 0, 0, 0), (.iaload, 0, 0, 0), (.istore 4, 0, 0, 0), (.aload_n 0, 0, 0, 0), (.getfield 11, 0, 3, 0), (.iload 4, 0, 0, 0), (.iaload, 0, 0, 0), (.bipush 10, 0, 0, 0), (.if_icmp .ne 33, 0, 0, 0), (.aload_n 0, 0, 0, 0), (.getfield 21, 0, 3, 3), (.iload 4, 0, 0, 0), (.iaload, 0, 0, 0), (.iload_n 1, 0, 0, 0), (.if_icmp .ne 22, 0, 0, 0), (.aload_n 0, 0, 0, 0), (.getfield 15, 0, 3, 1), (.iload 4, 0, 0, 0), (.iaload, 0, 0, 0), (.iload_n 2, 0, 0, 0), (.if_icmp .lt 11, 0, 0, 0), (.aload_n 0, 0, 0, 0), (.getfield 15, 0, 3, 1), (.iload 4, 0, 0, 0), (.iaload, 0, 0, 0), (.ireturn, 0, 0, 0)]),
  (60, [(.iinc 3 1, 0, 0, 0), (.goto (-61), 0, 0, 0)]),
  (66, [(.iconst (-1), 0, 0, 0), (.ireturn, 0, 0, 0)])]
def s1_i36 : List (List Nat) := [[0, 0], [0, 0, 221, 0, 0, 217, 0, 0, 0, 0, 188, 0, 0, 0, 0, 0, 196, 0, 0, 0, 0, 0, 191, 0, 0, 0, 0, 0, 191, 0, 0, 0], [0, 0], [0, 0]]
/-- DioceseBook$Reader.append(I)V -/
def s1_b37 : List (Nat × AB) := [(0, [(.aload_n 0, 0, 0, 0), (.getfield 23, 0, 4, 2), (.sipush 200, 0, 0, 0), (.if_icmp .ge 24, 0, 0, 0), (.aload_n 0, 0, 0, 0), (.getfield 11, 0, 4, 1), (.aload_n 0, 0, 0, 0), (.getfield 23, 0, 4, 2), (.iload_n 1, 0, 0, 0), (.i2c, 0, 0, 0), (.castore, 0, 0, 0), (.aload_n 0, 0, 0, 0), (.dup, 0, 0, 0), (.getfield 23, 0, 4, 2), (.iconst 1, 0, 0, 0), (.iadd, 0, 0, 0), (.putfield 23, 0, 4, 2)]),
  (31, [(.return_, 0, 0, 0)])]
def s1_i37 : List (List Nat) := [[0, 318, 0, 0, 0, 317, 0, 318, 0, 0, 0, 0, 0, 318, 0, 0, 318], [0]]
/-- DioceseBook$Reader.readText()I -/
def s1_b38 : List (Nat × AB) := [(0, [(.aload_n 0, 0, 0, 0), (.iconst 0, 0, 0, 0), (.putfield 26, 0, 4, 5), (.aload_n 0, 0, 0, 0), (.iconst 0, 0, 0, 0), (.putfield 29, 0, 4, 4), (.aload_n 0, 0, 0, 0), (.iconst (-1), 0, 0, 0), (.putfield 15, 0, 4, 3), (.aload_n 0, 0, 0, 0), (.getfield 19, 0, 4, 0), (.invokevirtual 32, 0, 0, 0), (.iconst 0, 0, 0, 0), (.istore_n 1, 0, 0, 0)]),
  (24, [(.iload_n 1, 0, 0, 0), (.bipush 12, 0, 0, 0), (.if_icmp .gt 89, 0, 0, 0), (.aload_n 0, 0, 0, 0), (.getfield 29, 0, 4, 4), (.ifCond .ne 82, 0, 0, 0), (.aload_n 0, 0, 0, 0), (.invokevirtual 37, 0, 39, 0), (.ifCond .ne 75, 0, 0, 0), (.aload_n 0, 0, 0, 0), (.getfield 26, 0, 4, 5), (.istore_n 2, 0, 0, 0), (.aload_n 0, 0, 0, 0), (.invokevirtual 41, 0, 51, 0), (.istore_n 3, 0, 0, 0), (.iload_n 3, 0, 0, 0), (.iconst (-1), 0, 0, 0), (.if_icmp .ne 12, 0, 0, 0), (.aload_n 0, 0, 0, 0), (.iconst 1, 0, 0, 0), (.iload_n 2, 0, 0, 0), (.invokevirtual 45, 0, 40, 2), (.goto 45, 0, 0, 0)]),
  (68, [(.iload_n 1, 0, 0, 0), (.bipush 12, 0, 0, 0), (.if_icmp .lt 12, 0, 0, 0), (.aload_n 0, 0, 0, 0), (.iconst 4, 0, 0, 0), (.iload_n 2, 0, 0, 0), (.invokevirtual 45, 0, 40, 2), (.goto 30, 0, 0, 0)]),
  (83, [(.iload_n 3, 0, 0, 0), (.ifCond .ne 10, 0, 0, 0), (.aload_n 0, 0, 0, 0), (.invokevirtual 49, 0, 41, 0), (.goto 19, 0, 0, 0)]),
  (94, [(.iload_n 3, 0, 0, 0), (.iconst 1, 0, 0, 0), (.if_icmp .ne 10, 0, 0, 0), (.aload_n 0, 0, 0, 0), (.invokevirtual 52, 0, 43, 0), (.goto 7, 0, 0, 0)]),
  (106, [(.aload_n 0, 0, 0, 0), (.invokevirtual 55, 0, 42, 0)]),
  (110, [(.iinc 1 1, 0, 0, 0), (.goto (-89), 0, 0, 0)]),
  (116, [(.aload_n 0, 0, 0, 0), (.iconst 0, 0, 0, 0), (.putfield 23, 0, 4, 2), (.aload_n 0, 0, 0, 0), (.getfield 29, 0, 4, 4), (.ireturn, 0, 0, 0)])]
def s1_i38 : List (List Nat) := [[0, 0, 323, 0, 0, 322, 0, 0, 320, 0, 316, 922, 0, 0], [0, 0, 0, 0, 322, 0, 0, 926, 0, 0, 323, 0, 0, 934, 0, 0, 0, 0, 0, 0, 0, 993, 0], [0, 0, 0, 0, 0, 0, 993, 0], [0, 0, 0, 997, 0], [0, 0, 0, 0, 1031, 0], [0, 1069], [0, 0], [0, 0, 318, 0, 322, 0]]
/-- DioceseBook$Reader.isAtEnd()Z -/
def s1_b39 : List (Nat × AB) := [(0, [(.aload_n 0, 0, 0, 0), (.invokevirtual 58, 0, 50, 0), (.aload_n 0, 0, 0, 0), (.getfield 26, 0, 4, 5), (.aload_n 0, 0, 0, 0), (.getfield 23, 0, 4, 2), (.if_icmp .lt 7, 0, 0, 0), (.iconst 1, 0, 0, 0), (.goto 4, 0, 0, 0)]),
  (19, [(.iconst 0, 0, 0, 0)]),
  (20, [(.ireturn, 0, 0, 0)])]
def s1_i39 : List (List Nat) := [[0, 930, 0, 323, 0, 318, 0, 0, 0], [0], [0]]
/-- DioceseBook$Reader.fail(II)V -/
def s1_b40 : List (Nat × AB) := [(0, [(.aload_n 0, 0, 0, 0), (.getfield 29, 0, 4, 4), (.ifCond .ne 13, 0, 0, 0), (.aload_n 0, 0, 0, 0), (.iload_n 1, 0, 0, 0), (.putfield 29, 0, 4, 4), (.aload_n 0, 0, 0, 0), (.iload_n 2, 0, 0, 0), (.putfield 15, 0, 4, 3)]),
  (17, [(.return_, 0, 0, 0)])]
def s1_i40 : List (List Nat) := [[0, 322, 0, 0, 0, 322, 0, 0, 320], [0]]
/-- DioceseBook$Reader.readLet()V -/
def s1_b41 : List (Nat × AB) := [(0, [(.aload_n 0, 0, 0, 0), (.invokevirtual 61, 0, 52, 0), (.istore_n 1, 0, 0, 0), (.iload_n 1, 0, 0, 0), (.iconst (-1), 0, 0, 0), (.if_icmp .ne 13, 0, 0, 0), (.aload_n 0, 0, 0, 0), (.iconst 1, 0, 0, 0), (.aload_n 0, 0, 0, 0), (.getfield 26, 0, 4, 5), (.invokevirtual 45, 0, 40, 2), (.return_, 0, 0, 0)]),
  (20, [(.aload_n 0, 0, 0, 0), (.getstatic 64, 0, 206, 0), (.iload_n 1, 0, 0, 0), (.iaload, 0, 0, 0), (.invokevirtual 68, 0, 46, 1), (.istore_n 2, 0, 0, 0), (.aload_n 0, 0, 0, 0), (.bipush 59, 0, 0, 0), (.invokevirtual 72, 0, 47, 1), (.aload_n 0, 0, 0, 0), (.getfield 19, 0, 4, 0), (.iconst 0, 0, 0, 0), (.iload_n 1, 0, 0, 0), (.iload_n 2, 0, 0, 0), (.iconst 0, 0, 0, 0), (.invokevirtual 76, 0, 1, 4), (.return_, 0, 0, 0)])]
def s1_i41 : List (List Nat) := [[0, 1001, 0, 0, 0, 0, 0, 0, 0, 323, 993, 0], [0, 1013, 0, 0, 1015, 0, 0, 0, 1019, 0, 316, 0, 0, 0, 0, 1027, 0]]
/-- DioceseBook$Reader.readStrike()V -/
def s1_b42 : List (Nat × AB) := [(0, [(.aload_n 0, 0, 0, 0), (.invokevirtual 58, 0, 50, 0), (.aload_n 0, 0, 0, 0), (.getfield 26, 0, 4, 5), (.istore_n 1, 0, 0, 0), (.aload_n 0, 0, 0, 0), (.sipush 9999, 0, 0, 0), (.invokevirtual 68, 0, 46, 1), (.istore_n 2, 0, 0, 0), (.iload_n 2, 0, 0, 0), (.aload_n 0, 0, 0, 0), (.getfield 19, 0, 4, 0), (.getfield 80, 0, 0, 0), (.if_icmp .lt 9, 0, 0, 0), (.aload_n 0, 0, 0, 0), (.iconst 3, 0, 0, 0), (.iload_n 1, 0, 0, 0), (.invokevirtual 45, 0, 40, 2)]),
  (34, [(.aload_n 0, 0, 0, 0), (.bipush 59, 0, 0, 0), (.invokevirtual 72, 0, 47, 1), (.aload_n 0, 0, 0, 0), (.getfield 19, 0, 4, 0), (.iconst 2, 0, 0, 0), (.iload_n 2, 0, 0, 0), (.iconst 0, 0, 0, 0), (.iconst 0, 0, 0, 0), (.invokevirtual 76, 0, 1, 4), (.return_, 0, 0, 0)])]
def s1_i42 : List (List Nat) := [[0, 930, 0, 323, 0, 0, 0, 1015, 0, 0, 0, 316, 263, 0, 0, 0, 0, 993], [0, 0, 1019, 0, 316, 0, 0, 0, 0, 1027, 0]]
/-- DioceseBook$Reader.readBar()V -/
def s1_b43 : List (Nat × AB) := [(0, [(.aload_n 0, 0, 0, 0), (.getfield 19, 0, 4, 0), (.invokevirtual 83, 0, 3, 0), (.istore_n 1, 0, 0, 0), (.aload_n 0, 0, 0, 0), (.iconst 0, 0, 0, 0), (.invokevirtual 86, 0, 44, 1), (.aload_n 0, 0, 0, 0), (.getfield 19, 0, 4, 0), (.invokevirtual 83, 0, 3, 0), (.istore_n 2, 0, 0, 0), (.aload_n 0, 0, 0, 0), (.ldc 90, 0, 1, 0), (.invokevirtual 92, 0, 49, 1), (.ifCond .eq 8, 0, 0, 0), (.aload_n 0, 0, 0, 0), (.iconst 0, 0, 0, 0), (.invokevirtual 86, 0, 44, 1)]),
  (35, [(.aload_n 0, 0, 0, 0), (.bipush 59, 0, 0, 0), (.invokevirtual 72, 0, 47, 1), (.aload_n 0, 0, 0, 0), (.getfield 19, 0, 4, 0), (.iconst 1, 0, 0, 0), (.iload_n 1, 0, 0, 0), (.iload_n 2, 0, 0, 0), (.aload_n 0, 0, 0, 0), (.getfield 19, 0, 4, 0), (.invokevirtual 83, 0, 3, 0), (.invokevirtual 76, 0, 1, 4), (.return_, 0, 0, 0)])]
def s1_i43 : List (List Nat) := [[0, 316, 1035, 0, 0, 0, 1039, 0, 316, 1035, 0, 0, 0, 939, 0, 0, 0, 1039], [0, 0, 1019, 0, 316, 0, 0, 0, 0, 316, 1035, 1027, 0]]
/-- DioceseBook$Reader.readTest(I)V -/
def s1_b44 : List (Nat × AB) := [(0, [(.iconst 0, 0, 0, 0), (.istore_n 2, 0, 0, 0), (.iconst 0, 0, 0, 0), (.istore_n 3, 0, 0, 0), (.iconst 1, 0, 0, 0), (.istore 4, 0, 0, 0), (.iconst 0, 0, 0, 0), (.istore 5, 0, 0, 0)]),
  (10, [(.iload 5, 0, 0, 0), (.sipush 200, 0, 0, 0), (.if_icmp .ge 159, 0, 0, 0), (.aload_n 0, 0, 0, 0), (.getfield 29, 0, 4, 4), (.ifCond .ne 152, 0, 0, 0), (.iload 4, 0, 0, 0), (.ifCond .eq 147, 0, 0, 0), (.iconst 0, 0, 0, 0), (.istore 6, 0, 0, 0)]),
  (33, [(.iload 6, 0, 0, 0), (.sipush 200, 0, 0, 0), (.if_icmp .ge 18, 0, 0, 0), (.aload_n 0, 0, 0, 0), (.ldc 96, 0, 1, 1), (.invokevirtual 92, 0, 49, 1), (.ifCond .eq 9, 0, 0, 0), (.iinc 6 1, 0, 0, 0), (.goto (-20), 0, 0, 0)]),
  (56, [(.aload_n 0, 0, 0, 0), (.bipush 40, 0, 0, 0), (.invokevirtual 98, 0, 48, 1), (.ifCond .ne 10, 0, 0, 0), (.aload_n 0, 0, 0, 0), (.invokevirtual 102, 0, 45, 0), (.goto 36, 0, 0, 0)]),
  (72, [(.iload_n 1, 0, 0, 0), (.bipush 8, 0, 0, 0), (.if_icmp .lt 17, 0, 0, 0), (.aload_n 0, 0, 0, 0), (.iconst 5, 0, 0, 0), (.aload_n 0, 0, 0, 0), (.getfield 26, 0, 4, 5), (.iconst 1, 0, 0, 0), (.isub, 0, 0, 0), (.invokevirtual 45, 0, 40, 2), (.goto 16, 0, 0, 0)]),
  (92, [(.aload_n 0, 0, 0, 0), (.iload_n 1, 0, 0, 0), (.iconst 1, 0, 0, 0), (.iadd, 0, 0, 0), (.invokevirtual 86, 0, 44, 1), (.aload_n 0, 0, 0, 0), (.bipush 41, 0, 0, 0), (.invokevirtual 72, 0, 47, 1)]),
  (105, [(.iload 6, 0, 0, 0), (.iconst 2, 0, 0, 0), (.irem, 0, 0, 0), (.iconst 1, 0, 0, 0), (.if_icmp .ne 12, 0, 0, 0), (.aload_n 0, 0, 0, 0), (.getfield 19, 0, 4, 0), (.bipush (-3), 0, 0, 0), (.invokevirtual 105, 0, 2, 1)]),
  (122, [(.iload_n 2, 0, 0, 0), (.ifCond .eq 11, 0, 0, 0), (.aload_n 0, 0, 0, 0), (.getfield 19, 0, 4, 0), (.iconst (-1), 0, 0, 0), (.invokevirtual 105, 0, 2, 1)]),
  (134, [(.aload_n 0, 0, 0, 0), (.ldc 108, 0, 1, 2), (.invokevirtual 92, 0, 49, 1), (.istore_n 2, 0, 0, 0), (.iload_n 2, 0, 0, 0), (.ifCond .ne 26, 0, 0, 0), (.iload_n 3, 0, 0, 0), (.ifCond .eq 12, 0, 0, 0), (.aload_n 0, 0, 0, 0), (.getfield 19, 0, 4, 0), (.bipush (-2), 0, 0, 0), (.invokevirtual 105, 0, 2, 1)]),
  (158, [(.aload_n 0, 0, 0, 0), (.ldc 110, 0, 1, 3), (.invokevirtual 92, 0, 49, 1), (.istore_n 3, 0, 0, 0), (.iload_n 3, 0, 0, 0), (.istore 4, 0, 0, 0)]),
  (168, [(.iinc 5 1, 0, 0, 0), (.goto (-161), 0, 0, 0)]),
  (174, [(.return_, 0, 0, 0)])]
def s1_i44 : List (List Nat) := [[0, 0, 0, 0, 0, 0, 0, 0], [0, 0, 0, 0, 322, 0, 0, 0, 0, 0], [0, 0, 0, 0, 0, 939, 0, 0, 0], [0, 0, 1023, 0, 0, 1044, 0], [0, 0, 0, 0, 0, 0, 323, 0, 0, 993, 0], [0, 0, 0, 0, 1039, 0, 0, 1019], [0, 0, 0, 0, 0, 0, 316, 0, 1062], [0, 0, 0, 316, 0, 1062], [0, 0, 939, 0, 0, 0, 0, 0, 0, 316, 0, 1062], [0, 0, 939, 0, 0, 0], [0, 0], [0]]
/-- DioceseBook$Reader.readComparison()V -/
def s1_b45 : List (Nat × AB) := [(0, [(.aload_n 0, 0, 0, 0), (.invokevirtual 112, 0, 53, 0), (.istore_n 1, 0, 0, 0), (.iload_n 1, 0, 0, 0), (.iconst (-1), 0, 0, 0), (.if_icmp .ne 13, 0, 0, 0), (.aload_n 0, 0, 0, 0), (.iconst 1, 0, 0, 0), (.aload_n 0, 0, 0, 0), (.getfield 26, 0, 4, 5), (.invokevirtual 45, 0, 40, 2), (.return_, 0, 0, 0)]),
  (20, [(.aload_n 0, 0, 0, 0), (.invokevirtual 115, 0, 54, 0), (.istore_n 2, 0, 0, 0), (.iload_n 2, 0, 0, 0), (.iconst (-1), 0, 0, 0), (.if_icmp .ne 13, 0, 0, 0), (.aload_n 0, 0, 0, 0), (.iconst 1, 0, 0, 0), (.aload_n 0, 0, 0, 0), (.getfield 26, 0, 4, 5), (.invokevirtual 45, 0, 40, 2), (.return_, 0, 0, 0)]),
  (40, [(.aload_n 0, 0, 0, 0), (.sipush 9999, 0, 0, 0), (.invokevirtual 68, 0, 46, 1), (.istore_n 3, 0, 0, 0), (.aload_n 0, 0, 0, 0), (.getfield 19, 0, 4, 0), (.iload_n 1, 0, 0, 0), (.iconst 3, 0, 0, 0), (.imul, 0, 0, 0), (.iload_n 2, 0, 0, 0), (.iadd, 0, 0, 0), (.sipush 10000, 0, 0, 0), (.imul, 0, 0, 0), (.iload_n 3, 0, 0, 0), (.iadd, 0, 0, 0), (.invokevirtual 105, 0, 2, 1), (.return_, 0, 0, 0)])]
def s1_i45 : List (List Nat) := [[0, 1048, 0, 0, 0, 0, 0, 0, 0, 323, 993, 0], [0, 1058, 0, 0, 0, 0, 0, 0, 0, 323, 993, 0], [0, 0, 1015, 0, 0, 316, 0, 0, 0, 0, 0, 0, 0, 0, 0, 1062, 0]]
/-- DioceseBook$Reader.readNumber(I)I -/
def s1_b46 : List (Nat × AB) := [(0, [(.aload_n 0, 0, 0, 0), (.invokevirtual 58, 0, 50, 0), (.aload_n 0, 0, 0, 0), (.getfield 26, 0, 4, 5), (.istore_n 2, 0, 0, 0), (.iconst 0, 0, 0, 0), (.istore_n 3, 0, 0, 0)]),
  (11, [(.aload_n 0, 0, 0, 0), (.getfield 26, 0, 4, 5), (.aload_n 0, 0, 0, 0), (.getfield 23, 0, 4, 2), (.if_icmp .ge 72, 0, 0, 0), (.aload_n 0, 0, 0, 0), (.getfield 11, 0, 4, 1), (.aload_n 0, 0, 0, 0), (.getfield 26, 0, 4, 5), (.caload, 0, 0, 0), (.bipush 48, 0, 0, 0), (.if_icmp .lt 58, 0, 0, 0), (.aload_n 0, 0, 0, 0), (.getfield 11, 0, 4, 1), (.aload_n 0, 0, 0, 0), (.getfield 26, 0, 4, 5), (.caload, 0, 0, 0), (.bipush 57, 0, 0, 0), (.if_icmp .gt 44, 0, 0, 0), (.aload_n 0, 0, 0, 0), (.getfield 26, 0, 4, 5), (.iload_n 2, 0, 0, 0), (.isub, 0, 0, 0), (.iconst 4, 0, 0, 0), (.if_icmp .ge 21, 0, 0, 0), (.bipush 10, 0, 0, 0), (.iload_n 3, 0, 0, 0), (.imul, 0, 0, 0), (.aload_n 0, 0, 0, 0), (.getfield 11, 0, 4, 1), (.aload_n 0, 0, 0, 0), (.getfield 26, 0, 4, 5), (.caload, 0, 0, 0), (.iadd, 0, 0, 0), (.bipush 48, 0, 0, 0), (.isub, 0, 0, 0), (.istore_n 3, 0, 0, 0)]),
  (78, [(.aload_n 0, 0, 0, 0), (.dup, 0, 0, 0), (.getfield 26, 0, 4, 5), (.iconst 1, 0, 0, 0), (.iadd, 0, 0, 0), (.putfield 26, 0, 4, 5), (.goto (-77), 0, 0, 0)]),
  (91, [(.aload_n 0, 0, 0, 0), (.getfield 26, 0, 4, 5), (.iload_n 2, 0, 0, 0), (.if_icmp .ne 12, 0, 0, 0), (.aload_n 0, 0, 0, 0), (.iconst 1, 0, 0, 0), (.iload_n 2, 0, 0, 0), (.invokevirtual 45, 0, 40, 2), (.goto 24, 0, 0, 0)]),
  (108, [(.aload_n 0, 0, 0, 0), (.getfield 26, 0, 4, 5), (.iload_n 2, 0, 0, 0), (.isub, 0, 0, 0), (.iconst 4, 0, 0, 0), (.if_icmp .gt 8, 0, 0, 0), (.iload_n 3, 0, 0, 0), (.iload_n 1, 0, 0, 0), (.if_icmp .le 9, 0, 0, 0)]),
  (123, [(.aload_n 0, 0, 0, 0), (.iconst 2, 0, 0, 0), (.iload_n 2, 0, 0, 0), (.invokevirtual 45, 0, 40, 2)]),
  (129, [(.iload_n 3, 0, 0, 0), (.ireturn, 0, 0, 0)])]
def s1_i46 : List (List Nat) := [[0, 930, 0, 323, 0, 0, 0], [0, 323, 0, 318, 0, 0, 317, 0, 323, 0, 0, 0, 0, 317, 0, 323, 0, 0, 0, 0, 323, 0, 0, 0, 0, 0, 0, 0, 0, 317, 0, 323, 0, 0, 0, 0, 0], [0, 0, 323, 0, 0, 323, 0], [0, 323, 0, 0, 0, 0, 0, 993, 0], [0, 323, 0, 0, 0, 0, 0, 0, 0], [0, 0, 0, 993], [0, 0]]
/-- DioceseBook$Reader.expect(C)V -/
def s1_b47 : List (Nat × AB) := [(0, [(.aload_n 0, 0, 0, 0), (.iload_n 1, 0, 0, 0), (.invokevirtual 98, 0, 48, 1), (.ifCond .ne 12, 0, 0, 0), (.aload_n 0, 0, 0, 0), (.iconst 1, 0, 0, 0), (.aload_n 0, 0, 0, 0), (.getfield 26, 0, 4, 5), (.invokevirtual 45, 0, 40, 2)]),
  (17, [(.return_, 0, 0, 0)])]
def s1_i47 : List (List Nat) := [[0, 0, 1023, 0, 0, 0, 0, 323, 993], [0]]
/-- DioceseBook$Reader.takeSign(C)Z -/
def s1_b48 : List (Nat × AB) := [(0, [(.aload_n 0, 0, 0, 0), (.invokevirtual 58, 0, 50, 0), (.aload_n 0, 0, 0, 0), (.getfield 26, 0, 4, 5), (.aload_n 0, 0, 0, 0), (.getfield 23, 0, 4, 2), (.if_icmp .ge 28, 0, 0, 0), (.aload_n 0, 0, 0, 0), (.getfield 11, 0, 4, 1), (.aload_n 0, 0, 0, 0), (.getfield 26, 0, 4, 5), (.caload, 0, 0, 0), (.iload_n 1, 0, 0, 0), (.if_icmp .ne 15, 0, 0, 0), (.aload_n 0, 0, 0, 0), (.dup, 0, 0, 0), (.getfield 26, 0, 4, 5), (.iconst 1, 0, 0, 0), (.iadd, 0, 0, 0), (.putfield 26, 0, 4, 5), (.iconst 1, 0, 0, 0), (.ireturn, 0, 0, 0)]),
  (40, [(.iconst 0, 0, 0, 0), (.ireturn, 0, 0, 0)])]
def s1_i48 : List (List Nat) := [[0, 930, 0, 323, 0, 318, 0, 0, 317, 0, 323, 0, 0, 0, 0, 0, 323, 0, 0, 323, 0, 0], [0, 0]]
/-- DioceseBook$Reader.takeWord(Ljava/lang/String;)Z -/
def s1_b49 : List (Nat × AB) := [(0, [(.aload_n 0, 0, 0, 0), (.invokevirtual 58, 0, 50, 0), (.aload_n 0, 0, 0, 0), (.getfield 26, 0, 4, 5), (.istore_n 2, 0, 0, 0)]),
  (9, [(.iload_n 2, 0, 0, 0), (.aload_n 0, 0, 0, 0), (.getfield 23, 0, 4, 2), (.if_icmp .ge 31, 0, 0, 0), (.aload_n 0, 0, 0, 0), (.getfield 11, 0, 4, 1), (.iload_n 2, 0, 0, 0), (.caload, 0, 0, 0), (.bipush 97, 0, 0, 0), (.if_icmp .lt 20, 0, 0, 0), (.aload_n 0, 0, 0, 0), (.getfield 11, 0, 4, 1), (.iload_n 2, 0, 0, 0), (.caload, 0, 0, 0), (.bipush 122, 0, 0, 0), (.if_icmp .gt 9, 0, 0, 0), (.iinc 2 1, 0, 0, 0), (.goto (-33), 0, 0, 0)]),
  (45, [(.iload_n 2, 0, 0, 0), (.aload_n 0, 0, 0, 0), (.getfield 26, 0, 4, 5), (.isub, 0, 0, 0), (.aload_n 1, 0, 0, 0), (.invokevirtual 118, 1, 0, 0), (.if_icmp .eq 5, 0, 0, 0), (.iconst 0, 0, 0, 0), (.ireturn, 0, 0, 0)]),
  (60, [(.iconst 0, 0, 0, 0), (.istore_n 3, 0, 0, 0)]),
  (62, [(.iload_n 3, 0, 0, 0), (.aload_n 1, 0, 0, 0), (.invokevirtual 118, 1, 0, 0), (.if_icmp .ge 30, 0, 0, 0), (.aload_n 0, 0, 0, 0), (.getfield 11, 0, 4, 1), (.aload_n 0, 0, 0, 0), (.getfield 26, 0, 4, 5), (.iload_n 3, 0, 0, 0), (.iadd, 0, 0, 0), (.caload, 0, 0, 0), (.aload_n 1, 0, 0, 0), (.iload_n 3, 0, 0, 0), (.invokevirtual 122, 2, 0, 0), (.if_icmp .eq 5, 0, 0, 0), (.iconst 0, 0, 0, 0), (.ireturn, 0, 0, 0)]),
  (91, [(.iinc 3 1, 0, 0, 0), (.goto (-32), 0, 0, 0)]),
  (97, [(.aload_n 0, 0, 0, 0), (.iload_n 2, 0, 0, 0), (.putfield 26, 0, 4, 5), (.iconst 1, 0, 0, 0), (.ireturn, 0, 0, 0)])]
def s1_i49 : List (List Nat) := [[0, 930, 0, 323, 0], [0, 0, 318, 0, 0, 317, 0, 0, 0, 0, 0, 317, 0, 0, 0, 0, 0, 0], [0, 0, 323, 0, 0, 943, 0, 0, 0], [0, 0], [0, 0, 943, 0, 0, 317, 0, 323, 0, 0, 0, 0, 0, 953, 0, 0, 0], [0, 0], [0, 0, 323, 0, 0]]
/-- DioceseBook$Reader.skipBlanks()V -/
def s1_b50 : List (Nat × AB) := [(0, [(.aload_n 0, 0, 0, 0), (.getfield 26, 0, 4, 5), (.aload_n 0, 0, 0, 0), (.getfield 23, 0, 4, 2), (.if_icmp .ge 30, 0, 0, 0), (.aload_n 0, 0, 0, 0), (.getfield 11, 0, 4, 1), (.aload_n 0, 0, 0, 0), (.getfield 26, 0, 4, 5), (.caload, 0, 0, 0), (.bipush 32, 0, 0, 0), (.if_icmp .ne 16, 0, 0, 0), (.aload_n 0, 0, 0, 0), (.dup, 0, 0, 0), (.getfield 26, 0, 4, 5), (.iconst 1, 0, 0, 0), (.iadd, 0, 0, 0), (.putfield 26, 0, 4, 5), (.goto (-35), 0, 0, 0)]),
  (38, [(.return_, 0, 0, 0)])]
def s1_i50 : List (List Nat) := [[0, 323, 0, 318, 0, 0, 317, 0, 323, 0, 0, 0, 0, 0, 323, 0, 0, 323, 0], [0]]
/-- DioceseBook$Reader.clauseWord()I -/
def s1_b51 : List (Nat × AB) := [(0, [(.aload_n 0, 0, 0, 0), (.ldc 126, 0, 1, 4), (.invokevirtual 92, 0, 49, 1), (.ifCond .eq 5, 0, 0, 0), (.iconst 0, 0, 0, 0), (.ireturn, 0, 0, 0)]),
  (11, [(.aload_n 0, 0, 0, 0), (.ldc 128, 0, 1, 5), (.invokevirtual 92, 0, 49, 1), (.ifCond .eq 5, 0, 0, 0), (.iconst 1, 0, 0, 0), (.ireturn, 0, 0, 0)]),
  (22, [(.aload_n 0, 0, 0, 0), (.ldc 130, 0, 1, 6), (.invokevirtual 92, 0, 49, 1), (.ifCond .eq 7, 0, 0, 0), (.iconst 2, 0, 0, 0), (.goto 4, 0, 0, 0)]),
  (35, [(.iconst (-1), 0, 0, 0)]),
  (36, [(.ireturn, 0, 0, 0)])]
def s1_i51 : List (List Nat) := [[0, 0, 939, 0, 0, 0], [0, 0, 939, 0, 0, 0], [0, 0, 939, 0, 0, 0], [0], [0]]
/-- DioceseBook$Reader.nameWord()I -/
def s1_b52 : List (Nat × AB) := [(0, [(.aload_n 0, 0, 0, 0), (.ldc 132, 0, 1, 7), (.invokevirtual 92, 0, 49, 1), (.ifCond .eq 5, 0, 0, 0), (.iconst 0, 0, 0, 0), (.ireturn, 0, 0, 0)]),
  (11, [(.aload_n 0, 0, 0, 0), (.ldc 134, 0, 1, 8), (.invokevirtual 92, 0, 49, 1), (.ifCond .eq 5, 0, 0, 0), (.iconst 1, 0, 0, 0), (.ireturn, 0, 0, 0)]),
  (22, [(.aload_n 0, 0, 0, 0), (.ldc 136, 0, 1, 9), (.invokevirtual 92, 0, 49, 1), (.ifCond .eq 5, 0, 0, 0), (.iconst 2, 0, 0, 0), (.ireturn, 0, 0, 0)]),
  (33, [(.aload_n 0, 0, 0, 0), (.ldc 138, 0, 1, 10), (.invokevirtual 92, 0, 49, 1), (.ifCond .eq 5, 0, 0, 0), (.iconst 3, 0, 0, 0), (.ireturn, 0, 0, 0)]),
  (44, [(.aload_n 0, 0, 0, 0), (.ldc 140, 0, 1, 11), (.invokevirtual 92, 0, 49, 1), (.ifCond .eq 5, 0, 0, 0), (.iconst 4, 0, 0, 0), (.ireturn, 0, 0, 0)]),
  (55, [(.aload_n 0, 0, 0, 0), (.ldc 142, 0, 1, 12), (.invokevirtual 92, 0, 49, 1), (.ifCond .eq 5, 0, 0, 0), (.iconst 5, 0, 0, 0), (.ireturn, 0, 0, 0)]),
  (66, [(.aload_n 0, 0, 0, 0), (.ldc 144, 0, 1, 13), (.invokevirtual 92, 0, 49, 1), (.ifCond .eq 6, 0, 0, 0), (.bipush 6, 0, 0, 0), (.ireturn, 0, 0, 0)]),
  (78, [(.aload_n 0, 0, 0, 0), (.ldc 146, 0, 1, 14), (.invokevirtual 92, 0, 49, 1), (.ifCond .eq 8, 0, 0, 0), (.bipush 7, 0, 0, 0), (.goto 4, 0, 0, 0)]),
  (92, [(.iconst (-1), 0, 0, 0)]),
  (93, [(.ireturn, 0, 0, 0)])]
def s1_i52 : List (List Nat) := [[0, 0, 939, 0, 0, 0], [0, 0, 939, 0, 0, 0], [0, 0, 939, 0, 0, 0], [0, 0, 939, 0, 0, 0], [0, 0, 939, 0, 0, 0], [0, 0, 939, 0, 0, 0], [0, 0, 939, 0, 0, 0], [0, 0, 939, 0, 0, 0], [0], [0]]
/-- DioceseBook$Reader.factWord()I -/
def s1_b53 : List (Nat × AB) := [(0, [(.aload_n 0, 0, 0, 0), (.ldc 148, 0, 1, 15), (.invokevirtual 92, 0, 49, 1), (.ifCond .eq 5, 0, 0, 0), (.iconst 0, 0, 0, 0), (.ireturn, 0, 0, 0)]),
  (11, [(.aload_n 0, 0, 0, 0), (.ldc 150, 0, 1, 16), (.invokevirtual 92, 0, 49, 1), (.ifCond .eq 5, 0, 0, 0), (.iconst 1, 0, 0, 0), (.ireturn, 0, 0, 0)]),
  (22, [(.aload_n 0, 0, 0, 0), (.ldc 152, 0, 1, 17), (.invokevirtual 92, 0, 49, 1), (.ifCond .eq 5, 0, 0, 0), (.iconst 2, 0, 0, 0), (.ireturn, 0, 0, 0)]),
  (33, [(.aload_n 0, 0, 0, 0), (.ldc 154, 0, 1, 18), (.invokevirtual 92, 0, 49, 1), (.ifCond .eq 5, 0, 0, 0), (.iconst 3, 0, 0, 0), (.ireturn, 0, 0, 0)]),
  (44, [(.aload_n 0, 0, 0, 0), (.ldc 156, 0, 1, 19), (.invokevirtual 92, 0, 49, 1), (.ifCond .eq 5, 0, 0, 0), (.iconst 4, 0, 0, 0), (.ireturn, 0, 0, 0)]),
  (55, [(.aload_n 0, 0, 0, 0), (.ldc 158, 0, 1, 20), (.invokevirtual 92, 0, 49, 1), (.ifCond .eq 7, 0, 0, 0), (.iconst 5, 0, 0, 0), (.goto 4, 0, 0, 0)]),
  (68, [(.iconst (-1), 0, 0, 0)]),
  (69, [(.ireturn, 0, 0, 0)])]
def s1_i53 : List (List Nat) := [[0, 0, 939, 0, 0, 0], [0, 0, 939, 0, 0, 0], [0, 0, 939, 0, 0, 0], [0, 0, 939, 0, 0, 0], [0, 0, 939, 0, 0, 0], [0, 0, 939, 0, 0, 0], [0], [0]]
/-- DioceseBook$Reader.compareSign()I -/
def s1_b54 : List (Nat × AB) := [(0, [(.aload_n 0, 0, 0, 0), (.bipush 60, 0, 0, 0), (.invokevirtual 98, 0, 48, 1), (.ifCond .eq 5, 0, 0, 0), (.iconst 0, 0, 0, 0), (.ireturn, 0, 0, 0)]),
  (11, [(.aload_n 0, 0, 0, 0), (.bipush 62, 0, 0, 0), (.invokevirtual 98, 0, 48, 1), (.ifCond .eq 5, 0, 0, 0), (.iconst 1, 0, 0, 0), (.ireturn, 0, 0, 0)]),
  (22, [(.aload_n 0, 0, 0, 0), (.bipush 61, 0, 0, 0), (.invokevirtual 98, 0, 48, 1), (.ifCond .eq 7, 0, 0, 0), (.iconst 2, 0, 0, 0), (.goto 4, 0, 0, 0)]),
  (35, [(.iconst (-1), 0, 0, 0)]),
  (36, [(.ireturn, 0, 0, 0)])]
def s1_i54 : List (List Nat) := [[0, 0, 1023, 0, 0, 0], [0, 0, 1023, 0, 0, 0], [0, 0, 1023, 0, 0, 0], [0], [0]]
/-- DioceseBook$Register.addPerson(I)I -/
def s1_b55 : List (Nat × AB) := [(0, [(.aload_n 0, 0, 0, 0), (.getfield 24, 0, 5, 4), (.bipush 40, 0, 0, 0), (.if_icmp .lt 6, 0, 0, 0), (.ldc 28, -100004, 0, 0), (.ireturn, 0, 0, 0)]),
  (12, [(.aload_n 0, 0, 0, 0), (.getfield 11, 0, 5, 0), (.aload_n 0, 0, 0, 0), (.getfield 24, 0, 5, 4), (.iload_n 1, 0, 0, 0), (.iastore, 0, 0, 0), (.aload_n 0, 0, 0, 0), (.dup, 0, 0, 0), (.getfield 24, 0, 5, 4), (.dup_x1, 0, 0, 0), (.iconst 1, 0, 0, 0), (.iadd, 0, 0, 0), (.putfield 24, 0, 5, 4), (.ireturn, 0, 0, 0)])]
def s1_i55 : List (List Nat) := [[0, 159, 0, 0, 644, 0], [0, 152, 0, 159, 0, 0, 0, 0, 159, 0, 0, 0, 159, 0]]
/-- DioceseBook$Register.addLiving(III)I -/
def s1_b56 : List (Nat × AB) := [(0, [(.aload_n 0, 0, 0, 0), (.getfield 29, 0, 5, 5), (.bipush 12, 0, 0, 0), (.if_icmp .lt 6, 0, 0, 0), (.ldc 28, -100004, 0, 0), (.ireturn, 0, 0, 0)]),
  (12, [(.aload_n 0, 0, 0, 0), (.getfield 15, 0, 5, 1), (.aload_n 0, 0, 0, 0), (.getfield 29, 0, 5, 5), (.iload_n 1, 0, 0, 0), (.iastore, 0, 0, 0), (.aload_n 0, 0, 0, 0), (.getfield 18, 0, 5, 2), (.aload_n 0, 0, 0, 0), (.getfield 29, 0, 5, 5), (.iload_n 2, 0, 0, 0), (.iastore, 0, 0, 0), (.aload_n 0, 0, 0, 0), (.getfield 21, 0, 5, 3), (.aload_n 0, 0, 0, 0), (.getfield 29, 0, 5, 5), (.iload_n 3, 0, 0, 0), (.iastore, 0, 0, 0), (.aload_n 0, 0, 0, 0), (.dup, 0, 0, 0), (.getfield 29, 0, 5, 5), (.dup_x1, 0, 0, 0), (.iconst 1, 0, 0, 0), (.iadd, 0, 0, 0), (.putfield 29, 0, 5, 5), (.ireturn, 0, 0, 0)])]
def s1_i56 : List (List Nat) := [[0, 163, 0, 0, 644, 0], [0, 154, 0, 163, 0, 0, 0, 155, 0, 163, 0, 0, 0, 156, 0, 163, 0, 0, 0, 0, 163, 0, 0, 0, 163, 0]]
/-- DioceseBook$Register.milesBetween(II)I -/
def s1_b57 : List (Nat × AB) := [(0, [(.aload_n 0, 0, 0, 0), (.getfield 15, 0, 5, 1), (.iload_n 1, 0, 0, 0), (.iaload, 0, 0, 0), (.aload_n 0, 0, 0, 0), (.getfield 15, 0, 5, 1), (.iload_n 2, 0, 0, 0), (.iaload, 0, 0, 0), (.isub, 0, 0, 0), (.invokestatic 32, 0, 153, 1), (.aload_n 0, 0, 0, 0), (.getfield 18, 0, 5, 2), (.iload_n 1, 0, 0, 0), (.iaload, 0, 0, 0), (.aload_n 0, 0, 0, 0), (.getfield 18, 0, 5, 2), (.iload_n 2, 0, 0, 0), (.iaload, 0, 0, 0), (.isub, 0, 0, 0), (.invokestatic 32, 0, 153, 1), (.iadd, 0, 0, 0), (.ireturn, 0, 0, 0)])]
def s1_i57 : List (List Nat) := [[0, 154, 0, 0, 0, 154, 0, 0, 0, 803, 0, 155, 0, 0, 0, 155, 0, 0, 0, 803, 0, 0]]
/-- DioceseBook$Register.milesFromSee(I)I -/
def s1_b58 : List (Nat × AB) := [(0, [(.aload_n 0, 0, 0, 0), (.getfield 15, 0, 5, 1), (.iload_n 1, 0, 0, 0), (.iaload, 0, 0, 0), (.invokestatic 32, 0, 153, 1), (.aload_n 0, 0, 0, 0), (.getfield 18, 0, 5, 2), (.iload_n 1, 0, 0, 0), (.iaload, 0, 0, 0), (.invokestatic 32, 0, 153, 1), (.iadd, 0, 0, 0), (.ireturn, 0, 0, 0)])]
def s1_i58 : List (List Nat) := [[0, 154, 0, 0, 803, 0, 155, 0, 0, 803, 0, 0]]
/-- DioceseBook$Rights.clearAll()V -/
def s1_b59 : List (Nat × AB) := [(0, [(.iconst 0, 0, 0, 0), (.istore_n 1, 0, 0, 0)]),
  (2, [(.iload_n 1, 0, 0, 0), (.bipush 12, 0, 0, 0), (.if_icmp .ge 16, 0, 0, 0), (.aload_n 0, 0, 0, 0), (.iload_n 1, 0, 0, 0), (.iconst (-1), 0, 0, 0), (.iconst (-1), 0, 0, 0), (.invokevirtual 36, 0, 60, 3), (.iinc 1 1, 0, 0, 0), (.goto (-16), 0, 0, 0)]),
  (21, [(.aload_n 0, 0, 0, 0), (.iconst 0, 0, 0, 0), (.putfield 40, 0, 6, 5), (.return_, 0, 0, 0)])]
def s1_i59 : List (List Nat) := [[0, 0], [0, 0, 0, 0, 0, 0, 0, 755, 0, 0], [0, 0, 356, 0]]
/-- DioceseBook$Rights.grant(III)V -/
def s1_b60 : List (Nat × AB) := [(0, [(.aload_n 0, 0, 0, 0), (.getfield 11, 0, 6, 1), (.iload_n 1, 0, 0, 0), (.iload_n 2, 0, 0, 0), (.iastore, 0, 0, 0), (.aload_n 0, 0, 0, 0), (.getfield 17, 0, 6, 2), (.iload_n 1, 0, 0, 0), (.iload_n 3, 0, 0, 0), (.iastore, 0, 0, 0), (.aload_n 0, 0, 0, 0), (.getfield 20, 0, 6, 3), (.iload_n 1, 0, 0, 0), (.iconst 0, 0, 0, 0), (.bastore, 0, 0, 0), (.return_, 0, 0, 0)])]
def s1_i60 : List (List Nat) := [[0, 352, 0, 0, 0, 0, 353, 0, 0, 0, 0, 354, 0, 0, 0, 0]]
/-- DioceseBook$Rights.sell(I)V -/
def s1_b61 : List (Nat × AB) := [(0, [(.aload_n 0, 0, 0, 0), (.getfield 40, 0, 6, 5), (.sipush 150, 0, 0, 0), (.if_icmp .ge 33, 0, 0, 0), (.aload_n 0, 0, 0, 0), (.getfield 26, 0, 6, 4), (.aload_n 0, 0, 0, 0), (.getfield 40, 0, 6, 5), (.iload_n 1, 0, 0, 0), (.iastore, 0, 0, 0), (.aload_n 0, 0, 0, 0), (.getfield 29, 0, 6, 6), (.aload_n 0, 0, 0, 0), (.getfield 40, 0, 6, 5), (.iconst 0, 0, 0, 0), (.bastore, 0, 0, 0), (.aload_n 0, 0, 0, 0), (.dup, 0, 0, 0), (.getfield 40, 0, 6, 5), (.iconst 1, 0, 0, 0), (.iadd, 0, 0, 0), (.putfield 40, 0, 6, 5)]),
  (40, [(.return_, 0, 0, 0)])]
def s1_i61 : List (List Nat) := [[0, 356, 0, 0, 0, 355, 0, 356, 0, 0, 0, 357, 0, 356, 0, 0, 0, 0, 356, 0, 0, 356], [0]]
/-- DioceseBook$Rights.turnOf(I)I -/
def s1_b62 : List (Nat × AB) := [(0, [(.aload_n 0, 0, 0, 0), (.getfield 20, 0, 6, 3), (.iload_n 1, 0, 0, 0), (.baload, 0, 0, 0), (.ifCond .eq 12, 0, 0, 0), (.aload_n 0, 0, 0, 0), (.getfield 17, 0, 6, 2), (.iload_n 1, 0, 0, 0), (.iaload, 0, 0, 0), (.goto 9, 0, 0, 0)]),
  (18, [(.aload_n 0, 0, 0, 0), (.getfield 11, 0, 6, 1), (.iload_n 1, 0, 0, 0), (.iaload, 0, 0, 0)]),
  (24, [(.ireturn, 0, 0, 0)])]
def s1_i62 : List (List Nat) := [[0, 354, 0, 0, 0, 0, 353, 0, 0, 0], [0, 352, 0, 0], [0]]
/-- DioceseBook$Rights.soldLeft(I)I -/
def s1_b63 : List (Nat × AB) := [(0, [(.iconst 0, 0, 0, 0), (.istore_n 2, 0, 0, 0), (.iconst 0, 0, 0, 0), (.istore_n 3, 0, 0, 0)]),
  (4, [(.iload_n 3, 0, 0, 0), (.aload_n 0, 0, 0, 0), (.getfield 40, 0, 6, 5), (.if_icmp .ge 39, 0, 0, 0), (.aload_n 0, 0, 0, 0), (.getfield 32, 0, 6, 0), (.getfield 44, 0, 3, 3), (.aload_n 0, 0, 0, 0), (.getfield 26, 0, 6, 4), (.iload_n 3, 0, 0, 0), (.iaload, 0, 0, 0), (.iaload, 0, 0, 0), (.iload_n 1, 0, 0, 0), (.if_icmp .ne 15, 0, 0, 0), (.aload_n 0, 0, 0, 0), (.getfield 29, 0, 6, 6), (.iload_n 3, 0, 0, 0), (.baload, 0, 0, 0), (.ifCond .ne 6, 0, 0, 0), (.iinc 2 1, 0, 0, 0)]),
  (42, [(.iinc 3 1, 0, 0, 0), (.goto (-41), 0, 0, 0)]),
  (48, [(.iload_n 2, 0, 0, 0), (.ireturn, 0, 0, 0)])]
def s1_i63 : List (List Nat) := [[0, 0, 0, 0], [0, 0, 356, 0, 0, 351, 198, 0, 355, 0, 0, 0, 0, 0, 0, 357, 0, 0, 0, 0], [0, 0], [0, 0]]
/-- DioceseBook$Rights.firstSold(II)I -/
def s1_b64 : List (Nat × AB) := [(0, [(.iconst 0, 0, 0, 0), (.istore_n 3, 0, 0, 0)]),
  (2, [(.iload_n 3, 0, 0, 0), (.aload_n 0, 0, 0, 0), (.getfield 40, 0, 6, 5), (.if_icmp .ge 56, 0, 0, 0), (.aload_n 0, 0, 0, 0), (.getfield 32, 0, 6, 0), (.getfield 44, 0, 3, 3), (.aload_n 0, 0, 0, 0), (.getfield 26, 0, 6, 4), (.iload_n 3, 0, 0, 0), (.iaload, 0, 0, 0), (.iaload, 0, 0, 0), (.iload_n 1, 0, 0, 0), (.if_icmp .ne 32, 0, 0, 0), (.aload_n 0, 0, 0, 0), (.getfield 32, 0, 6, 0), (.getfield 47, 0, 3, 4), (.aload_n 0, 0, 0, 0), (.getfield 26, 0, 6, 4), (.iload_n 3, 0, 0, 0), (.iaload, 0, 0, 0), (.iaload, 0, 0, 0), (.iload_n 2, 0, 0, 0), (.if_icmp .ne 14, 0, 0, 0), (.aload_n 0, 0, 0, 0), (.getfield 29, 0, 6, 6), (.iload_n 3, 0, 0, 0), (.baload, 0, 0, 0), (.ifCond .ne 5, 0, 0, 0), (.iload_n 3, 0, 0, 0), (.ireturn, 0, 0, 0)]),
  (57, [(.iinc 3 1, 0, 0, 0), (.goto (-58), 0, 0, 0)]),
  (63, [(.iconst (-1), 0, 0, 0), (.ireturn, 0, 0, 0)])]
def s1_i64 : List (List Nat) := [[0, 0], [0, 0, 356, 0, 0, 351, 198, 0, 355, 0, 0, 0, 0, 0, 0, 351, 202, 0, 355, 0, 0, 0, 0, 0, 0, 357, 0, 0, 0, 0, 0], [0, 0], [0, 0]]
/-- DioceseBook$Rights.patronOn(II)I -/
def s1_b65 : List (Nat × AB) := [(0, [(.aload_n 0, 0, 0, 0), (.iload_n 1, 0, 0, 0), (.invokevirtual 50, 0, 62, 1), (.istore_n 3, 0, 0, 0), (.iload_n 3, 0, 0, 0), (.iconst (-1), 0, 0, 0), (.if_icmp .ne 6, 0, 0, 0), (.bipush (-4), 0, 0, 0), (.ireturn, 0, 0, 0)]),
  (14, [(.aload_n 0, 0, 0, 0), (.iload_n 1, 0, 0, 0), (.iload_n 3, 0, 0, 0), (.invokevirtual 54, 0, 64, 2), (.istore 4, 0, 0, 0), (.aload_n 0, 0, 0, 0), (.iload 4, 0, 0, 0), (.iconst (-1), 0, 0, 0), (.if_icmp .ne 7, 0, 0, 0), (.iload_n 3, 0, 0, 0), (.goto 18, 0, 0, 0)]),
  (33, [(.aload_n 0, 0, 0, 0), (.getfield 32, 0, 6, 0), (.getfield 58, 0, 3, 5), (.aload_n 0, 0, 0, 0), (.getfield 26, 0, 6, 4), (.iload 4, 0, 0, 0), (.iaload, 0, 0, 0), (.iaload, 0, 0, 0)]),
  (48, [(.iload_n 2, 0, 0, 0), (.invokevirtual 61, 0, 66, 2), (.ireturn, 0, 0, 0)])]
def s1_i65 : List (List Nat) := [[0, 0, 864, 0, 0, 0, 0, 0, 0], [0, 0, 0, 868, 0, 0, 0, 0, 0, 0, 0], [0, 351, 207, 0, 355, 0, 0, 0], [0, 872, 0]]
/-- DioceseBook$Rights.livingHeir(II)I -/
def s1_b66 : List (Nat × AB) := [(0, [(.iload_n 1, 0, 0, 0), (.istore_n 3, 0, 0, 0), (.iconst 0, 0, 0, 0), (.istore 4, 0, 0, 0)]),
  (5, [(.iload 4, 0, 0, 0), (.bipush 12, 0, 0, 0), (.if_icmp .ge 40, 0, 0, 0), (.aload_n 0, 0, 0, 0), (.getfield 32, 0, 6, 0), (.iconst 1, 0, 0, 0), (.iload_n 3, 0, 0, 0), (.iload_n 2, 0, 0, 0), (.invokevirtual 64, 0, 33, 3), (.ifCond .eq 27, 0, 0, 0), (.aload_n 0, 0, 0, 0), (.getfield 32, 0, 6, 0), (.iload_n 3, 0, 0, 0), (.iload_n 2, 0, 0, 0), (.invokevirtual 68, 0, 35, 2), (.istore_n 3, 0, 0, 0), (.iload_n 3, 0, 0, 0), (.iconst (-1), 0, 0, 0), (.if_icmp .ne 6, 0, 0, 0), (.bipush (-4), 0, 0, 0), (.ireturn, 0, 0, 0)]),
  (43, [(.iinc 4 1, 0, 0, 0), (.goto (-41), 0, 0, 0)]),
  (49, [(.aload_n 0, 0, 0, 0), (.getfield 32, 0, 6, 0), (.iconst 1, 0, 0, 0), (.iload_n 3, 0, 0, 0), (.iload_n 2, 0, 0, 0), (.invokevirtual 64, 0, 33, 3), (.ifCond .eq 8, 0, 0, 0), (.bipush (-4), 0, 0, 0), (.goto 4, 0, 0, 0)]),
  (67, [(.iload_n 3, 0, 0, 0)]),
  (68, [(.ireturn, 0, 0, 0)])]
def s1_i66 : List (List Nat) := [[0, 0, 0, 0], [0, 0, 0, 0, 351, 0, 0, 0, 876, 0, 0, 351, 0, 0, 877, 0, 0, 0, 0, 0, 0], [0, 0], [0, 351, 0, 0, 0, 876, 0, 0, 0], [0], [0]]
/-- DioceseBook$Rights.useTurn(I)V -/
def s1_b67 : List (Nat × AB) := [(0, [(.aload_n 0, 0, 0, 0), (.iload_n 1, 0, 0, 0), (.invokevirtual 50, 0, 62, 1), (.istore_n 2, 0, 0, 0), (.iload_n 2, 0, 0, 0), (.iconst (-1), 0, 0, 0), (.if_icmp .ne 4, 0, 0, 0), (.return_, 0, 0, 0)]),
  (12, [(.aload_n 0, 0, 0, 0), (.iload_n 1, 0, 0, 0), (.iload_n 2, 0, 0, 0), (.invokevirtual 54, 0, 64, 2), (.istore_n 3, 0, 0, 0), (.iload_n 3, 0, 0, 0), (.iconst (-1), 0, 0, 0), (.if_icmp .eq 10, 0, 0, 0), (.aload_n 0, 0, 0, 0), (.getfield 29, 0, 6, 6), (.iload_n 3, 0, 0, 0), (.iconst 1, 0, 0, 0), (.bastore, 0, 0, 0)]),
  (31, [(.aload_n 0, 0, 0, 0), (.getfield 17, 0, 6, 2), (.iload_n 1, 0, 0, 0), (.iaload, 0, 0, 0), (.iconst (-1), 0, 0, 0), (.if_icmp .eq 23, 0, 0, 0), (.aload_n 0, 0, 0, 0), (.getfield 20, 0, 6, 3), (.iload_n 1, 0, 0, 0), (.aload_n 0, 0, 0, 0), (.getfield 20, 0, 6, 3), (.iload_n 1, 0, 0, 0), (.baload, 0, 0, 0), (.ifCond .ne 7, 0, 0, 0), (.iconst 1, 0, 0, 0), (.goto 4, 0, 0, 0)]),
  (59, [(.iconst 0, 0, 0, 0)]),
  (60, [(.bastore, 0, 0, 0)]),
  (61, [(.return_, 0, 0, 0)])]
def s1_i67 : List (List Nat) := [[0, 0, 864, 0, 0, 0, 0, 0], [0, 0, 0, 868, 0, 0, 0, 0, 0, 357, 0, 0, 0], [0, 353, 0, 0, 0, 0, 0, 354, 0, 0, 354, 0, 0, 0, 0, 0], [0], [0], [0]]
/-- DioceseBook$Story.forget()V -/
def s1_b68 : List (Nat × AB) := [(0, [(.aload_n 0, 0, 0, 0), (.iconst (-1), 0, 0, 0), (.putfield 39, 0, 7, 11), (.return_, 0, 0, 0)])]
def s1_i68 : List (List Nat) := [[0, 0, 422, 0]]
/-- DioceseBook$Story.tell(II)V -/
def s1_b69 : List (Nat × AB) := [(0, [(.aload_n 0, 0, 0, 0), (.getfield 50, 0, 7, 1), (.iload_n 1, 0, 0, 0), (.invokevirtual 74, 0, 31, 1), (.aload_n 0, 0, 0, 0), (.getfield 39, 0, 7, 11), (.iload_n 1, 0, 0, 0), (.if_icmp .ne 12, 0, 0, 0), (.aload_n 0, 0, 0, 0), (.getfield 43, 0, 7, 12), (.iload_n 2, 0, 0, 0), (.if_icmp .ne 4, 0, 0, 0), (.return_, 0, 0, 0)]),
  (25, [(.aload_n 0, 0, 0, 0), (.iload_n 1, 0, 0, 0), (.putfield 39, 0, 7, 11), (.aload_n 0, 0, 0, 0), (.iload_n 2, 0, 0, 0), (.putfield 43, 0, 7, 12), (.aload_n 0, 0, 0, 0), (.invokevirtual 78, 0, 70, 0), (.iconst 0, 0, 0, 0), (.istore_n 3, 0, 0, 0)]),
  (41, [(.iload_n 3, 0, 0, 0), (.aload_n 0, 0, 0, 0), (.getfield 50, 0, 7, 1), (.getfield 81, 0, 3, 12), (.if_icmp .ge 210, 0, 0, 0), (.aload_n 0, 0, 0, 0), (.getfield 50, 0, 7, 1), (.getfield 84, 0, 3, 1), (.aload_n 0, 0, 0, 0), (.getfield 50, 0, 7, 1), (.getfield 87, 0, 3, 11), (.iload_n 3, 0, 0, 0), (.iaload, 0, 0, 0), (.iaload, 0, 0, 0), (.iload_n 2, 0, 0, 0), (.if_icmp .gt 189, 0, 0, 0), (.aload_n 0, 0, 0, 0), (.getfield 50, 0, 7, 1), (.getfield 87, 0, 3, 11), (.iload_n 3, 0, 0, 0), (.iaload, 0, 0, 0), (.istore 4, 0, 0, 0), (.aload_n 0, 0, 0, 0), (.getfield 50, 0, 7, 1), (.getfield 90, 0, 3, 3), (.iload 4, 0, 0, 0), (.iaload, 0, 0, 0), (.istore 5, 0, 0, 0), (.aload_n 0, 0, 0, 0), (.getfield 50, 0, 7, 1), (.getfield 93, 0, 3, 4), (.iload 4, 0, 0, 0), (.iaload, 0, 0, 0), (.istore 6, 0, 0, 0), (.aload_n 0, 0, 0, 0), (.getfield 50, 0, 7, 1), (.getfield 96, 0, 3, 0), (.iload 4, 0, 0, 0), (.iaload, 0, 0, 0), (.tableswitch 135 1 9 #[50, 135, 62, 72, 135, 135, 84, 108, 123], 0, 0, 0)]),
  (168, [(.aload_n 0, 0, 0, 0), (.iconst (-1), 0, 0, 0), (.iconst (-1), 0, 0, 0), (.iload 4, 0, 0, 0), (.iconst 1, 0, 0, 0), (.invokevirtual 99, 0, 74, 4), (.goto 76, 0, 0, 0)]),
  (180, [(.aload_n 0, 0, 0, 0), (.iload 4, 0, 0, 0), (.iload_n 3, 0, 0, 0), (.invokevirtual 103, 0, 71, 2), (.goto 66, 0, 0, 0)]),
  (190, [(.aload_n 0, 0, 0, 0), (.iload 5, 0, 0, 0), (.iload 4, 0, 0, 0), (.iconst 2, 0, 0, 0), (.invokevirtual 107, 0, 75, 3), (.goto 54, 0, 0, 0)]),
  (202, [(.aload_n 0, 0, 0, 0), (.getfield 63, 0, 7, 3), (.iload 5, 0, 0, 0), (.iload 6, 0, 0, 0), (.aload_n 0, 0, 0, 0), (.getfield 50, 0, 7, 1), (.getfield 111, 0, 3, 5), (.iload 4, 0, 0, 0), (.iaload, 0, 0, 0), (.invokevirtual 114, 0, 60, 3), (.goto 30, 0, 0, 0)]),
  (226, [(.aload_n 0, 0, 0, 0), (.getfield 63, 0, 7, 3), (.iload 5, 0, 0, 0), (.iload 6, 0, 0, 0), (.iconst (-1), 0, 0, 0), (.invokevirtual 114, 0, 60, 3), (.goto 15, 0, 0, 0)]),
  (241, [(.aload_n 0, 0, 0, 0), (.getfield 63, 0, 7, 3), (.iload 4, 0, 0, 0), (.invokevirtual 117, 0, 61, 1), (.goto 3, 0, 0, 0)]),
  (253, [(.iinc 3 1, 0, 0, 0), (.goto (-215), 0, 0, 0)]),
  (259, [(.return_, 0, 0, 0)])]
def s1_i69 : List (List Nat) := [[0, 406, 0, 746, 0, 422, 0, 0, 0, 423, 0, 0, 0], [0, 0, 422, 0, 0, 423, 0, 747, 0, 0], [0, 0, 406, 220, 0, 0, 406, 192, 0, 406, 218, 0, 0, 0, 0, 0, 0, 406, 218, 0, 0, 0, 0, 406, 197, 0, 0, 0, 0, 406, 201, 0, 0, 0, 0, 406, 189, 0, 0, 0], [0, 0, 0, 0, 0, 763, 0], [0, 0, 0, 790, 0], [0, 0, 0, 0, 767, 0], [0, 408, 0, 0, 0, 406, 205, 0, 0, 890, 0], [0, 408, 0, 0, 0, 890, 0], [0, 408, 0, 891, 0], [0, 0], [0]]
/-- DioceseBook$Story.clearAll()V -/
def s1_b70 : List (Nat × AB) := [(0, [(.iconst 0, 0, 0, 0), (.istore_n 1, 0, 0, 0)]),
  (2, [(.iload_n 1, 0, 0, 0), (.bipush 12, 0, 0, 0), (.if_icmp .ge 30, 0, 0, 0), (.aload_n 0, 0, 0, 0), (.getfield 11, 0, 7, 5), (.iload_n 1, 0, 0, 0), (.lconst 0, 0, 0, 0), (.lastore, 0, 0, 0), (.aload_n 0, 0, 0, 0), (.getfield 22, 0, 7, 7), (.iload_n 1, 0, 0, 0), (.iconst 0, 0, 0, 0), (.iastore, 0, 0, 0), (.aload_n 0, 0, 0, 0), (.getfield 26, 0, 7, 8), (.iload_n 1, 0, 0, 0), (.iconst 0, 0, 0, 0), (.iastore, 0, 0, 0), (.iinc 1 1, 0, 0, 0), (.goto (-30), 0, 0, 0)]),
  (35, [(.aload_n 0, 0, 0, 0), (.getfield 63, 0, 7, 3), (.invokevirtual 120, 0, 59, 0), (.aload_n 0, 0, 0, 0), (.getfield 70, 0, 7, 4), (.invokevirtual 121, 0, 14, 0), (.return_, 0, 0, 0)])]
def s1_i70 : List (List Nat) := [[0, 0], [0, 0, 0, 0, 412, 0, 0, 0, 0, 415, 0, 0, 0, 0, 417, 0, 0, 0, 0, 0], [0, 408, 751, 0, 410, 759, 0]]
/-- DioceseBook$Story.takeIn(II)V -/
def s1_b71 : List (Nat × AB) := [(0, [(.aload_n 0, 0, 0, 0), (.getfield 50, 0, 7, 1), (.getfield 90, 0, 3, 3), (.iload_n 1, 0, 0, 0), (.iaload, 0, 0, 0), (.istore_n 3, 0, 0, 0), (.aload_n 0, 0, 0, 0), (.getfield 50, 0, 7, 1), (.getfield 93, 0, 3, 4), (.iload_n 1, 0, 0, 0), (.iaload, 0, 0, 0), (.istore 4, 0, 0, 0), (.aload_n 0, 0, 0, 0), (.getfield 50, 0, 7, 1), (.getfield 111, 0, 3, 5), (.iload_n 1, 0, 0, 0), (.iaload, 0, 0, 0), (.istore 5, 0, 0, 0), (.aload_n 0, 0, 0, 0), (.getfield 50, 0, 7, 1), (.getfield 84, 0, 3, 1), (.iload_n 1, 0, 0, 0), (.iaload, 0, 0, 0), (.istore 6, 0, 0, 0), (.aload_n 0, 0, 0, 0), (.getfield 11, 0, 7, 5), (.iload_n 3, 0, 0, 0), (.laload, 0, 0, 0), (.lconst 0, 0, 0, 0), (.lcmp, 0, 0, 0), (.ifCond .eq 7, 0, 0, 0), (.iconst 1, 0, 0, 0), (.goto 4, 0, 0, 0)]),
  (58, [(.iconst 0, 0, 0, 0)]),
  (59, [(.aload_n 0, 0, 0, 0), (.getfield 50, 0, 7, 1), (.iconst 1, 0, 0, 0), (.iload 4, 0, 0, 0), (.iload 6, 0, 0, 0), (.invokevirtual 122, 0, 33, 3), (.ifCond .eq 7, 0, 0, 0), (.iconst 2, 0, 0, 0), (.goto 4, 0, 0, 0)]),
  (78, [(.iconst 0, 0, 0, 0)]),
  (79, [(.ior, 0, 0, 0), (.aload_n 0, 0, 0, 0), (.iload 4, 0, 0, 0), (.iload_n 3, 0, 0, 0), (.iload 6, 0, 0, 0), (.invokevirtual 126, 0, 82, 3), (.iconst (-1), 0, 0, 0), (.if_icmp .eq 7, 0, 0, 0), (.iconst 4, 0, 0, 0), (.goto 4, 0, 0, 0)]),
  (97, [(.iconst 0, 0, 0, 0)]),
  (98, [(.ior, 0, 0, 0), (.aload_n 0, 0, 0, 0), (.iload_n 3, 0, 0, 0), (.iload 6, 0, 0, 0), (.invokevirtual 130, 0, 80, 2), (.iload 5, 0, 0, 0), (.if_icmp .eq 8, 0, 0, 0), (.bipush 8, 0, 0, 0), (.goto 4, 0, 0, 0)]),
  (116, [(.iconst 0, 0, 0, 0)]),
  (117, [(.ior, 0, 0, 0), (.istore 7, 0, 0, 0), (.aload_n 0, 0, 0, 0), (.getfield 31, 0, 7, 9), (.iload_n 1, 0, 0, 0), (.iload 7, 0, 0, 0), (.iastore, 0, 0, 0), (.iload 7, 0, 0, 0), (.ifCond .eq 17, 0, 0, 0), (.aload_n 0, 0, 0, 0), (.getfield 54, 0, 7, 2), (.iconst 3, 0, 0, 0), (.iload 6, 0, 0, 0), (.invokevirtual 134, 0, 6, 2), (.iconst 1, 0, 0, 0), (.if_icmp .ne 7, 0, 0, 0)]),
  (147, [(.iconst 1, 0, 0, 0), (.goto 4, 0, 0, 0)]),
  (151, [(.iconst 0, 0, 0, 0)]),
  (152, [(.istore 8, 0, 0, 0), (.iload 7, 0, 0, 0), (.ifCond .ne 31, 0, 0, 0), (.aload_n 0, 0, 0, 0), (.iload_n 3, 0, 0, 0), (.iload 6, 0, 0, 0), (.invokevirtual 137, 0, 81, 2), (.ifCond .eq 21, 0, 0, 0), (.aload_n 0, 0, 0, 0), (.getfield 54, 0, 7, 2), (.iconst 4, 0, 0, 0), (.iload 6, 0, 0, 0), (.invokevirtual 134, 0, 6, 2), (.iconst 1, 0, 0, 0), (.if_icmp .ne 7, 0, 0, 0), (.iconst 1, 0, 0, 0), (.goto 4, 0, 0, 0)]),
  (187, [(.iconst 0, 0, 0, 0)]),
  (188, [(.istore 9, 0, 0, 0), (.iload 8, 0, 0, 0), (.ifCond .eq 18, 0, 0, 0), (.aload_n 0, 0, 0, 0), (.getfield 63, 0, 7, 3), (.iload_n 3, 0, 0, 0), (.iload 6, 0, 0, 0), (.invokevirtual 140, 0, 65, 2), (.iload 5, 0, 0, 0), (.if_icmp .eq 8, 0, 0, 0)]),
  (210, [(.iload 9, 0, 0, 0), (.ifCond .eq 11, 0, 0, 0)]),
  (215, [(.aload_n 0, 0, 0, 0), (.getfield 63, 0, 7, 3), (.iload_n 3, 0, 0, 0), (.invokevirtual 143, 0, 67, 1)]),
  (223, [(.aload_n 0, 0, 0, 0), (.iload_n 3, 0, 0, 0), (.iload 4, 0, 0, 0), (.invokevirtual 146, 0, 76, 2), (.ifCond .ne 59, 0, 0, 0), (.aload_n 0, 0, 0, 0), (.getfield 11, 0, 7, 5), (.iload_n 3, 0, 0, 0), (.dup2, 0, 0, 0), (.laload, 0, 0, 0), (.lconst 1, 0, 0, 0), (.iload 4, 0, 0, 0), (.lshl, 0, 0, 0), (.lor, 0, 0, 0), (.lastore, 0, 0, 0), (.aload_n 0, 0, 0, 0), (.getfield 19, 0, 7, 6), (.iload_n 3, 0, 0, 0), (.aaload, 0, 0, 0), (.iload 4, 0, 0, 0), (.iload_n 2, 0, 0, 0), (.iastore, 0, 0, 0), (.aload_n 0, 0, 0, 0), (.getfield 22, 0, 7, 7), (.iload_n 3, 0, 0, 0), (.iconst (-1), 0, 0, 0), (.iastore, 0, 0, 0), (.aload_n 0, 0, 0, 0), (.getfield 26, 0, 7, 8), (.iload_n 3, 0, 0, 0), (.iconst (-1), 0, 0, 0), (.iastore, 0, 0, 0), (.aload_n 0, 0, 0, 0), (.getfield 70, 0, 7, 4), (.iload_n 3, 0, 0, 0), (.iload 4, 0, 0, 0), (.iconst 0, 0, 0, 0), (.iload 6, 0, 0, 0), (.iload_n 1, 0, 0, 0), (.aload_n 0, 0, 0, 0), (.iload_n 3, 0, 0, 0), (.invokevirtual 150, 0, 77, 1), (.invokevirtual 154, 0, 15, 6)]),
  (289, [(.aload_n 0, 0, 0, 0), (.iload_n 3, 0, 0, 0), (.aload_n 0, 0, 0, 0), (.iload_n 3, 0, 0, 0), (.iload 4, 0, 0, 0), (.iload 6, 0, 0, 0), (.invokevirtual 158, 0, 72, 3), (.iload_n 1, 0, 0, 0), (.iconst 3, 0, 0, 0), (.invokevirtual 99, 0, 74, 4), (.return_, 0, 0, 0)])]
def s1_i71 : List (List Nat) := [[0, 406, 197, 0, 0, 0, 0, 406, 201, 0, 0, 0, 0, 406, 205, 0, 0, 0, 0, 406, 192, 0, 0, 0, 0, 412, 0, 0, 0, 0, 0, 0, 0], [0], [0, 406, 0, 0, 0, 794, 0, 0, 0], [0], [0, 0, 0, 0, 0, 795, 0, 0, 0, 0], [0], [0, 0, 0, 0, 841, 0, 0, 0, 0], [0], [0, 0, 0, 419, 0, 0, 0, 0, 0, 0, 407, 0, 0, 849, 0, 0], [0, 0], [0], [0, 0, 0, 0, 0, 0, 845, 0, 0, 407, 0, 0, 849, 0, 0, 0, 0], [0], [0, 0, 0, 0, 408, 0, 0, 860, 0, 0], [0, 0], [0, 408, 0, 878], [0, 0, 0, 771, 0, 0, 412, 0, 0, 0, 0, 0, 0, 0, 0, 0, 414, 0, 0, 0, 0, 0, 0, 415, 0, 0, 0, 0, 417, 0, 0, 0, 0, 410, 0, 0, 0, 0, 0, 0, 0, 776, 786], [0, 0, 0, 0, 0, 0, 882, 0, 0, 763, 0]]
/-- DioceseBook$Story.otherToKeep(III)I -/
def s1_b72 : List (Nat × AB) := [(0, [(.iconst (-1), 0, 0, 0), (.istore 4, 0, 0, 0), (.iconst 0, 0, 0, 0), (.istore 5, 0, 0, 0)]),
  (6, [(.iload 5, 0, 0, 0), (.aload_n 0, 0, 0, 0), (.getfield 46, 0, 7, 0), (.getfield 161, 0, 5, 5), (.if_icmp .ge 56, 0, 0, 0), (.iload 5, 0, 0, 0), (.iload_n 1, 0, 0, 0), (.if_icmp .eq 44, 0, 0, 0), (.aload_n 0, 0, 0, 0), (.iload 5, 0, 0, 0), (.iload_n 2, 0, 0, 0), (.invokevirtual 146, 0, 76, 2), (.ifCond .eq 34, 0, 0, 0), (.iload 4, 0, 0, 0), (.iconst (-1), 0, 0, 0), (.if_icmp .eq 24, 0, 0, 0), (.aload_n 0, 0, 0, 0), (.getfield 19, 0, 7, 6), (.iload 5, 0, 0, 0), (.aaload, 0, 0, 0), (.iload_n 2, 0, 0, 0), (.iaload, 0, 0, 0), (.aload_n 0, 0, 0, 0), (.getfield 19, 0, 7, 6), (.iload 4, 0, 0, 0), (.aaload, 0, 0, 0), (.iload_n 2, 0, 0, 0), (.iaload, 0, 0, 0), (.if_icmp .le 7, 0, 0, 0)]),
  (61, [(.iload 5, 0, 0, 0), (.istore 4, 0, 0, 0)]),
  (65, [(.iinc 5 1, 0, 0, 0), (.goto (-62), 0, 0, 0)]),
  (71, [(.iload 4, 0, 0, 0), (.iconst (-1), 0, 0, 0), (.if_icmp .eq 20, 0, 0, 0), (.aload_n 0, 0, 0, 0), (.iload_n 1, 0, 0, 0), (.iload 4, 0, 0, 0), (.iload_n 2, 0, 0, 0), (.iload_n 3, 0, 0, 0), (.invokevirtual 164, 0, 73, 4), (.ifCond .eq 8, 0, 0, 0), (.iload 4, 0, 0, 0), (.goto 4, 0, 0, 0)]),
  (94, [(.iconst (-1), 0, 0, 0)]),
  (95, [(.ireturn, 0, 0, 0)])]
def s1_i72 : List (List Nat) := [[0, 0, 0, 0], [0, 0, 405, 164, 0, 0, 0, 0, 0, 0, 0, 771, 0, 0, 0, 0, 0, 414, 0, 0, 0, 0, 0, 414, 0, 0, 0, 0, 0], [0, 0], [0, 0], [0, 0, 0, 0, 0, 0, 0, 0, 886, 0, 0, 0], [0], [0]]
/-- DioceseBook$Story.mayHoldBoth(IIII)Z -/
def s1_b73 : List (Nat × AB) := [(0, [(.aload_n 0, 0, 0, 0), (.getfield 54, 0, 7, 2), (.iconst 2, 0, 0, 0), (.iload 4, 0, 0, 0), (.invokevirtual 134, 0, 6, 2), (.istore 5, 0, 0, 0), (.aload_n 0, 0, 0, 0), (.getfield 50, 0, 7, 1), (.iconst 5, 0, 0, 0), (.iload_n 3, 0, 0, 0), (.iload 4, 0, 0, 0), (.invokevirtual 122, 0, 33, 3), (.ifCond .eq 57, 0, 0, 0), (.aload_n 0, 0, 0, 0), (.getfield 46, 0, 7, 0), (.iload_n 1, 0, 0, 0), (.iload_n 2, 0, 0, 0), (.invokevirtual 168, 0, 57, 2), (.aload_n 0, 0, 0, 0), (.getfield 54, 0, 7, 2), (.iconst 1, 0, 0, 0), (.iload 4, 0, 0, 0), (.invokevirtual 134, 0, 6, 2), (.if_icmp .gt 35, 0, 0, 0), (.aload_n 0, 0, 0, 0), (.getfield 46, 0, 7, 0), (.getfield 171, 0, 5, 3), (.iload_n 1, 0, 0, 0), (.iaload, 0, 0, 0), (.iload 5, 0, 0, 0), (.if_icmp .gt 21, 0, 0, 0), (.aload_n 0, 0, 0, 0), (.getfield 46, 0, 7, 0), (.getfield 171, 0, 5, 3), (.iload_n 2, 0, 0, 0), (.iaload, 0, 0, 0), (.iload 5, 0, 0, 0), (.if_icmp .gt 7, 0, 0, 0), (.iconst 1, 0, 0, 0), (.goto 4, 0, 0, 0)]),
  (80, [(.iconst 0, 0, 0, 0)]),
  (81, [(.ireturn, 0, 0, 0)])]
def s1_i73 : List (List Nat) := [[0, 407, 0, 0, 849, 0, 0, 406, 0, 0, 0, 794, 0, 0, 405, 0, 0, 799, 0, 407, 0, 0, 849, 0, 0, 405, 158, 0, 0, 0, 0, 0, 405, 158, 0, 0, 0, 0, 0, 0], [0], [0]]
/-- DioceseBook$Story.fallFromAllBut(IIII)V -/
def s1_b74 : List (Nat × AB) := [(0, [(.iconst 0, 0, 0, 0), (.istore 5, 0, 0, 0)]),
  (3, [(.iload 5, 0, 0, 0), (.aload_n 0, 0, 0, 0), (.getfield 46, 0, 7, 0), (.getfield 161, 0, 5, 5), (.if_icmp .ge 30, 0, 0, 0), (.iload 5, 0, 0, 0), (.iload_n 1, 0, 0, 0), (.if_icmp .eq 18, 0, 0, 0), (.iload 5, 0, 0, 0), (.iload_n 2, 0, 0, 0), (.if_icmp .eq 12, 0, 0, 0), (.aload_n 0, 0, 0, 0), (.iload 5, 0, 0, 0), (.iload_n 3, 0, 0, 0), (.iload 4, 0, 0, 0), (.invokevirtual 107, 0, 75, 3)]),
  (36, [(.iinc 5 1, 0, 0, 0), (.goto (-36), 0, 0, 0)]),
  (42, [(.return_, 0, 0, 0)])]
def s1_i74 : List (List Nat) := [[0, 0], [0, 0, 405, 164, 0, 0, 0, 0, 0, 0, 0, 0, 0, 0, 0, 767], [0, 0], [0]]
/-- DioceseBook$Story.fall(III)V -/
def s1_b75 : List (Nat × AB) := [(0, [(.aload_n 0, 0, 0, 0), (.getfield 50, 0, 7, 1), (.getfield 93, 0, 3, 4), (.iload_n 2, 0, 0, 0), (.iaload, 0, 0, 0), (.istore 4, 0, 0, 0), (.aload_n 0, 0, 0, 0), (.iload_n 1, 0, 0, 0), (.iload 4, 0, 0, 0), (.invokevirtual 146, 0, 76, 2), (.ifCond .ne 4, 0, 0, 0), (.return_, 0, 0, 0)]),
  (22, [(.aload_n 0, 0, 0, 0), (.getfield 11, 0, 7, 5), (.iload_n 1, 0, 0, 0), (.dup2, 0, 0, 0), (.laload, 0, 0, 0), (.lconst 1, 0, 0, 0), (.iload 4, 0, 0, 0), (.lshl, 0, 0, 0), (.ldc2_w 174, -1, 0, 0), (.lxor, 0, 0, 0), (.land, 0, 0, 0), (.lastore, 0, 0, 0), (.aload_n 0, 0, 0, 0), (.getfield 11, 0, 7, 5), (.iload_n 1, 0, 0, 0), (.laload, 0, 0, 0), (.lconst 0, 0, 0, 0), (.lcmp, 0, 0, 0), (.ifCond .ne 25, 0, 0, 0), (.aload_n 0, 0, 0, 0), (.getfield 22, 0, 7, 7), (.iload_n 1, 0, 0, 0), (.aload_n 0, 0, 0, 0), (.getfield 50, 0, 7, 1), (.getfield 84, 0, 3, 1), (.iload_n 2, 0, 0, 0), (.iaload, 0, 0, 0), (.iastore, 0, 0, 0), (.aload_n 0, 0, 0, 0), (.getfield 26, 0, 7, 8), (.iload_n 1, 0, 0, 0), (.iload_n 3, 0, 0, 0), (.iastore, 0, 0, 0)]),
  (72, [(.aload_n 0, 0, 0, 0), (.getfield 70, 0, 7, 4), (.iload_n 1, 0, 0, 0), (.iload 4, 0, 0, 0), (.iconst 1, 0, 0, 0), (.aload_n 0, 0, 0, 0), (.getfield 50, 0, 7, 1), (.getfield 84, 0, 3, 1), (.iload_n 2, 0, 0, 0), (.iaload, 0, 0, 0), (.iload_n 2, 0, 0, 0), (.aload_n 0, 0, 0, 0), (.iload_n 1, 0, 0, 0), (.invokevirtual 150, 0, 77, 1), (.invokevirtual 154, 0, 15, 6), (.return_, 0, 0, 0)])]
def s1_i75 : List (List Nat) := [[0, 406, 201, 0, 0, 0, 0, 0, 0, 771, 0, 0], [0, 412, 0, 0, 0, 0, 0, 0, 775, 0, 0, 0, 0, 412, 0, 0, 0, 0, 0, 0, 415, 0, 0, 406, 192, 0, 0, 0, 0, 417, 0, 0, 0], [0, 410, 0, 0, 0, 0, 406, 192, 0, 0, 0, 0, 0, 776, 786, 0]]
/-- DioceseBook$Story.isHolder(II)Z -/
def s1_b76 : List (Nat × AB) := [(0, [(.aload_n 0, 0, 0, 0), (.getfield 11, 0, 7, 5), (.iload_n 1, 0, 0, 0), (.laload, 0, 0, 0), (.iload_n 2, 0, 0, 0), (.lshr, 0, 0, 0), (.lconst 1, 0, 0, 0), (.land, 0, 0, 0), (.lconst 1, 0, 0, 0), (.lcmp, 0, 0, 0), (.ifCond .ne 7, 0, 0, 0), (.iconst 1, 0, 0, 0), (.goto 4, 0, 0, 0)]),
  (19, [(.iconst 0, 0, 0, 0)]),
  (20, [(.ireturn, 0, 0, 0)])]
def s1_i76 : List (List Nat) := [[0, 412, 0, 0, 0, 0, 0, 0, 0, 0, 0, 0, 0], [0], [0]]
/-- DioceseBook$Story.holderCount(I)I -/
def s1_b77 : List (Nat × AB) := [(0, [(.aload_n 0, 0, 0, 0), (.getfield 11, 0, 7, 5), (.iload_n 1, 0, 0, 0), (.laload, 0, 0, 0), (.invokestatic 176, 0, 152, 1), (.ireturn, 0, 0, 0)])]
def s1_i77 : List (List Nat) := [[0, 412, 0, 0, 780, 0]]
/-- DioceseBook$Story.livingsThatAre(I)I -/
def s1_b78 : List (Nat × AB) := [(0, [(.iconst 0, 0, 0, 0), (.istore_n 2, 0, 0, 0), (.iconst 0, 0, 0, 0), (.istore_n 3, 0, 0, 0)]),
  (4, [(.iload_n 3, 0, 0, 0), (.aload_n 0, 0, 0, 0), (.getfield 46, 0, 7, 0), (.getfield 161, 0, 5, 5), (.if_icmp .ge 32, 0, 0, 0), (.iload_n 2, 0, 0, 0), (.aload_n 0, 0, 0, 0), (.iload_n 3, 0, 0, 0), (.invokevirtual 150, 0, 77, 1), (.invokestatic 182, 0, 13, 1), (.iload_n 1, 0, 0, 0), (.if_icmp .ne 7, 0, 0, 0), (.iconst 1, 0, 0, 0), (.goto 4, 0, 0, 0)]),
  (32, [(.iconst 0, 0, 0, 0)]),
  (33, [(.invokestatic 185, 0, 141, 1), (.iadd, 0, 0, 0), (.istore_n 2, 0, 0, 0), (.iinc 3 1, 0, 0, 0), (.goto (-37), 0, 0, 0)]),
  (44, [(.iload_n 2, 0, 0, 0), (.ireturn, 0, 0, 0)])]
def s1_i78 : List (List Nat) := [[0, 0, 0, 0], [0, 0, 405, 164, 0, 0, 0, 0, 776, 899, 0, 0, 0, 0], [0], [100001, 0, 0, 0, 0], [0, 0]]
/-- DioceseBook$Story.firstHolder(I)I -/
def s1_b79 : List (Nat × AB) := [(0, [(.iconst (-1), 0, 0, 0), (.istore_n 2, 0, 0, 0), (.iconst 0, 0, 0, 0), (.istore_n 3, 0, 0, 0)]),
  (4, [(.iload_n 3, 0, 0, 0), (.aload_n 0, 0, 0, 0), (.getfield 46, 0, 7, 0), (.getfield 189, 0, 5, 4), (.if_icmp .ge 44, 0, 0, 0), (.aload_n 0, 0, 0, 0), (.iload_n 1, 0, 0, 0), (.iload_n 3, 0, 0, 0), (.invokevirtual 146, 0, 76, 2), (.ifCond .eq 29, 0, 0, 0), (.iload_n 2, 0, 0, 0), (.iconst (-1), 0, 0, 0), (.if_icmp .eq 22, 0, 0, 0), (.aload_n 0, 0, 0, 0), (.getfield 19, 0, 7, 6), (.iload_n 1, 0, 0, 0), (.aaload, 0, 0, 0), (.iload_n 3, 0, 0, 0), (.iaload, 0, 0, 0), (.aload_n 0, 0, 0, 0), (.getfield 19, 0, 7, 6), (.iload_n 1, 0, 0, 0), (.aaload, 0, 0, 0), (.iload_n 2, 0, 0, 0), (.iaload, 0, 0, 0), (.if_icmp .ge 5, 0, 0, 0)]),
  (48, [(.iload_n 3, 0, 0, 0), (.istore_n 2, 0, 0, 0)]),
  (50, [(.iinc 3 1, 0, 0, 0), (.goto (-49), 0, 0, 0)]),
  (56, [(.iload_n 2, 0, 0, 0), (.ireturn, 0, 0, 0)])]
def s1_i79 : List (List Nat) := [[0, 0, 0, 0], [0, 0, 405, 161, 0, 0, 0, 0, 771, 0, 0, 0, 0, 0, 414, 0, 0, 0, 0, 0, 414, 0, 0, 0, 0, 0], [0, 0], [0, 0], [0, 0]]
/-- DioceseBook$Story.presenter(II)I -/
def s1_b80 : List (Nat × AB) := [(0, [(.aload_n 0, 0, 0, 0), (.getfield 11, 0, 7, 5), (.iload_n 1, 0, 0, 0), (.laload, 0, 0, 0), (.lconst 0, 0, 0, 0), (.lcmp, 0, 0, 0), (.ifCond .eq 5, 0, 0, 0), (.iconst (-1), 0, 0, 0), (.ireturn, 0, 0, 0)]),
  (13, [(.aload_n 0, 0, 0, 0), (.iload_n 1, 0, 0, 0), (.iload_n 2, 0, 0, 0), (.invokevirtual 137, 0, 81, 2), (.tableswitch 41 0 2 #[25, 35, 38], 0, 0, 0)]),
  (44, [(.aload_n 0, 0, 0, 0), (.getfield 63, 0, 7, 3), (.iload_n 1, 0, 0, 0), (.iload_n 2, 0, 0, 0), (.invokevirtual 140, 0, 65, 2), (.ireturn, 0, 0, 0)]),
  (54, [(.bipush (-2), 0, 0, 0), (.ireturn, 0, 0, 0)]),
  (57, [(.bipush (-3), 0, 0, 0), (.ireturn, 0, 0, 0)]),
  (60, [(.bipush (-4), 0, 0, 0), (.ireturn, 0, 0, 0)])]
def s1_i80 : List (List Nat) := [[0, 412, 0, 0, 0, 0, 0, 0, 0], [0, 0, 0, 845, 0], [0, 408, 0, 0, 860, 0], [0, 0], [0, 0], [0, 0]]
/-- DioceseBook$Story.lapsedTo(II)I -/
def s1_b81 : List (Nat × AB) := [(0, [(.bipush 30, 0, 0, 0), (.aload_n 0, 0, 0, 0), (.getfield 54, 0, 7, 2), (.iconst 0, 0, 0, 0), (.aload_n 0, 0, 0, 0), (.getfield 22, 0, 7, 7), (.iload_n 1, 0, 0, 0), (.iaload, 0, 0, 0), (.invokevirtual 134, 0, 6, 2), (.imul, 0, 0, 0), (.istore_n 3, 0, 0, 0), (.aload_n 0, 0, 0, 0), (.getfield 26, 0, 7, 8), (.iload_n 1, 0, 0, 0), (.iaload, 0, 0, 0), (.iconst 2, 0, 0, 0), (.if_icmp .ne 20, 0, 0, 0), (.aload_n 0, 0, 0, 0), (.getfield 50, 0, 7, 1), (.iload_n 1, 0, 0, 0), (.aload_n 0, 0, 0, 0), (.getfield 22, 0, 7, 7), (.iload_n 1, 0, 0, 0), (.iaload, 0, 0, 0), (.invokevirtual 192, 0, 36, 2), (.goto 9, 0, 0, 0)]),
  (45, [(.aload_n 0, 0, 0, 0), (.getfield 22, 0, 7, 7), (.iload_n 1, 0, 0, 0), (.iaload, 0, 0, 0)]),
  (51, [(.istore 4, 0, 0, 0), (.iload_n 3, 0, 0, 0), (.ifCond .le 15, 0, 0, 0), (.iload 4, 0, 0, 0), (.iconst (-1), 0, 0, 0), (.if_icmp .eq 9, 0, 0, 0), (.iload_n 2, 0, 0, 0), (.iload 4, 0, 0, 0), (.if_icmp .ge 5, 0, 0, 0)]),
  (69, [(.iconst 0, 0, 0, 0), (.ireturn, 0, 0, 0)]),
  (71, [(.iload_n 2, 0, 0, 0), (.iload 4, 0, 0, 0), (.isub, 0, 0, 0), (.iload_n 3, 0, 0, 0), (.idiv, 0, 0, 0), (.iconst 3, 0, 0, 0), (.invokestatic 195, 0, 155, 2), (.ireturn, 0, 0, 0)])]
def s1_i81 : List (List Nat) := [[0, 0, 407, 0, 0, 415, 0, 0, 849, 0, 0, 0, 417, 0, 0, 0, 0, 0, 406, 0, 0, 415, 0, 0, 853, 0], [0, 415, 0, 0], [0, 0, 0, 0, 0, 0, 0, 0, 0], [0, 0], [0, 0, 0, 0, 0, 0, 857, 0]]
/-- DioceseBook$Story.barOf(III)I -/
def s1_b82 : List (Nat × AB) := [(0, [(.aload_n 0, 0, 0, 0), (.getfield 50, 0, 7, 1), (.getfield 200, 0, 3, 13), (.iconst 0, 0, 0, 0), (.aaload, 0, 0, 0), (.iload_n 1, 0, 0, 0), (.iaload, 0, 0, 0), (.istore 4, 0, 0, 0), (.aload_n 0, 0, 0, 0), (.getfield 50, 0, 7, 1), (.getfield 200, 0, 3, 13), (.iconst 2, 0, 0, 0), (.aaload, 0, 0, 0), (.iload_n 1, 0, 0, 0), (.iaload, 0, 0, 0), (.istore 5, 0, 0, 0), (.aload_n 0, 0, 0, 0), (.getfield 36, 0, 7, 10), (.iconst 0, 0, 0, 0), (.aload_n 0, 0, 0, 0), (.getfield 50, 0, 7, 1), (.iconst 0, 0, 0, 0), (.iload_n 1, 0, 0, 0), (.iload_n 3, 0, 0, 0), (.invokevirtual 122, 0, 33, 3), (.ifCond .eq 14, 0, 0, 0), (.iload_n 3, 0, 0, 0), (.iload 4, 0, 0, 0), (.isub, 0, 0, 0), (.sipush 360, 0, 0, 0), (.idiv, 0, 0, 0), (.goto 4, 0, 0, 0)]),
  (55, [(.iconst (-1), 0, 0, 0)]),
  (56, [(.iastore, 0, 0, 0), (.aload_n 0, 0, 0, 0), (.getfield 36, 0, 7, 10), (.iconst 1, 0, 0, 0), (.aload_n 0, 0, 0, 0), (.getfield 50, 0, 7, 1), (.iconst 2, 0, 0, 0), (.iload_n 1, 0, 0, 0), (.iload_n 3, 0, 0, 0), (.invokevirtual 122, 0, 33, 3), (.ifCond .eq 10, 0, 0, 0), (.iload_n 3, 0, 0, 0), (.iload 5, 0, 0, 0), (.isub, 0, 0, 0), (.goto 4, 0, 0, 0)]),
  (82, [(.iconst (-1), 0, 0, 0)]),
  (83, [(.iastore, 0, 0, 0), (.aload_n 0, 0, 0, 0), (.getfield 36, 0, 7, 10), (.iconst 2, 0, 0, 0), (.iconst 0, 0, 0, 0), (.iastore, 0, 0, 0), (.aload_n 0, 0, 0, 0), (.getfield 36, 0, 7, 10), (.iconst 3, 0, 0, 0), (.iconst 0, 0, 0, 0), (.iastore, 0, 0, 0), (.iconst 0, 0, 0, 0), (.istore 6, 0, 0, 0)]),
  (101, [(.iload 6, 0, 0, 0), (.aload_n 0, 0, 0, 0), (.getfield 46, 0, 7, 0), (.getfield 161, 0, 5, 5), (.if_icmp .ge 60, 0, 0, 0), (.iload 6, 0, 0, 0), (.iload_n 2, 0, 0, 0), (.if_icmp .eq 48, 0, 0, 0), (.aload_n 0, 0, 0, 0), (.iload 6, 0, 0, 0), (.iload_n 1, 0, 0, 0), (.invokevirtual 146, 0, 76, 2), (.ifCond .eq 38, 0, 0, 0), (.aload_n 0, 0, 0, 0), (.getfield 36, 0, 7, 10), (.iconst 2, 0, 0, 0), (.dup2, 0, 0, 0), (.iaload, 0, 0, 0), (.iconst 1, 0, 0, 0), (.iadd, 0, 0, 0), (.iastore, 0, 0, 0), (.aload_n 0, 0, 0, 0), (.getfield 36, 0, 7, 10), (.iconst 3, 0, 0, 0), (.aload_n 0, 0, 0, 0), (.getfield 36, 0, 7, 10), (.iconst 3, 0, 0, 0), (.iaload, 0, 0, 0), (.aload_n 0, 0, 0, 0), (.getfield 46, 0, 7, 0), (.iload 6, 0, 0, 0), (.iload_n 2, 0, 0, 0), (.invokevirtual 168, 0, 57, 2), (.invokestatic 203, 0, 154, 2), (.iastore, 0, 0, 0)]),
  (164, [(.iinc 6 1, 0, 0, 0), (.goto (-66), 0, 0, 0)]),
  (170, [(.aload_n 0, 0, 0, 0), (.getfield 36, 0, 7, 10), (.iconst 4, 0, 0, 0), (.aload_n 0, 0, 0, 0), (.getfield 46, 0, 7, 0), (.getfield 171, 0, 5, 3), (.iload_n 2, 0, 0, 0), (.iaload, 0, 0, 0), (.iastore, 0, 0, 0), (.aload_n 0, 0, 0, 0), (.getfield 36, 0, 7, 10), (.iconst 5, 0, 0, 0), (.aload_n 0, 0, 0, 0), (.getfield 50, 0, 7, 1), (.iconst 5, 0, 0, 0), (.iload_n 1, 0, 0, 0), (.iload_n 3, 0, 0, 0), (.invokevirtual 122, 0, 33, 3), (.invokestatic 185, 0, 141, 1), (.iastore, 0, 0, 0), (.aload_n 0, 0, 0, 0), (.getfield 54, 0, 7, 2), (.iload_n 3, 0, 0, 0), (.aload_n 0, 0, 0, 0), (.getfield 36, 0, 7, 10), (.invokevirtual 206, 0, 10, 2), (.ireturn, 0, 0, 0)])]
def s1_i82 : List (List Nat) := [[0, 406, 225, 0, 0, 0, 0, 0, 0, 406, 225, 0, 0, 0, 0, 0, 0, 421, 0, 0, 406, 0, 0, 0, 794, 0, 0, 0, 0, 0, 0, 0], [0], [0, 0, 421, 0, 0, 406, 0, 0, 0, 794, 0, 0, 0, 0, 0], [0], [0, 0, 421, 0, 0, 0, 0, 421, 0, 0, 0, 0, 0], [0, 0, 405, 164, 0, 0, 0, 0, 0, 0, 0, 771, 0, 0, 421, 0, 0, 0, 0, 0, 0, 0, 421, 0, 0, 421, 0, 0, 0, 405, 0, 0, 799, 806, 0], [0, 0], [0, 421, 0, 0, 405, 158, 0, 0, 0, 0, 421, 0, 0, 406, 0, 0, 0, 794, 100001, 0, 0, 407, 0, 0, 421, 810, 0]]
/-- DioceseBook$Story.decayOf(II)I -/
def s1_b83 : List (Nat × AB) := [(0, [(.aload_n 0, 0, 0, 0), (.getfield 70, 0, 7, 4), (.iload_n 1, 0, 0, 0), (.iload_n 2, 0, 0, 0), (.invokevirtual 210, 0, 17, 2), (.istore_n 3, 0, 0, 0), (.iload_n 3, 0, 0, 0), (.iconst (-1), 0, 0, 0), (.if_icmp .ne 5, 0, 0, 0), (.iconst 0, 0, 0, 0), (.ireturn, 0, 0, 0)]),
  (17, [(.iconst (-1), 0, 0, 0), (.istore 4, 0, 0, 0), (.iconst 0, 0, 0, 0), (.istore 5, 0, 0, 0)]),
  (23, [(.iload 5, 0, 0, 0), (.aload_n 0, 0, 0, 0), (.getfield 50, 0, 7, 1), (.getfield 81, 0, 3, 12), (.if_icmp .ge 114, 0, 0, 0), (.aload_n 0, 0, 0, 0), (.getfield 50, 0, 7, 1), (.getfield 87, 0, 3, 11), (.iload 5, 0, 0, 0), (.iaload, 0, 0, 0), (.istore 6, 0, 0, 0), (.aload_n 0, 0, 0, 0), (.getfield 50, 0, 7, 1), (.getfield 96, 0, 3, 0), (.iload 6, 0, 0, 0), (.iaload, 0, 0, 0), (.bipush 11, 0, 0, 0), (.if_icmp .ne 81, 0, 0, 0), (.aload_n 0, 0, 0, 0), (.getfield 50, 0, 7, 1), (.getfield 90, 0, 3, 3), (.iload 6, 0, 0, 0), (.iaload, 0, 0, 0), (.iload_n 2, 0, 0, 0), (.if_icmp .ne 67, 0, 0, 0), (.aload_n 0, 0, 0, 0), (.getfield 50, 0, 7, 1), (.getfield 84, 0, 3, 1), (.iload 6, 0, 0, 0), (.iaload, 0, 0, 0), (.iload_n 3, 0, 0, 0), (.iload_n 3, 0, 0, 0), (.bipush 90, 0, 0, 0), (.iadd, 0, 0, 0), (.invokestatic 213, 0, 140, 3), (.ifCond .eq 46, 0, 0, 0), (.iload 4, 0, 0, 0), (.iconst (-1), 0, 0, 0), (.if_icmp .eq 28, 0, 0, 0), (.iload 4, 0, 0, 0), (.aload_n 0, 0, 0, 0), (.getfield 50, 0, 7, 1), (.getfield 216, 0, 3, 6), (.iload 6, 0, 0, 0), (.iaload, 0, 0, 0), (.aload_n 0, 0, 0, 0), (.getfield 54, 0, 7, 2), (.iconst 5, 0, 0, 0), (.iload_n 3, 0, 0, 0), (.invokevirtual 134, 0, 6, 2), (.invokestatic 219, 0, 84, 3), (.ireturn, 0, 0, 0)]),
  (128, [(.aload_n 0, 0, 0, 0), (.getfield 50, 0, 7, 1), (.getfield 216, 0, 3, 6), (.iload 6, 0, 0, 0), (.iaload, 0, 0, 0), (.istore 4, 0, 0, 0)]),
  (140, [(.iinc 5 1, 0, 0, 0), (.goto (-120), 0, 0, 0)]),
  (146, [(.iload 4, 0, 0, 0), (.iconst 0, 0, 0, 0), (.invokestatic 203, 0, 154, 2), (.ireturn, 0, 0, 0)])]
def s1_i83 : List (List Nat) := [[0, 410, 0, 0, 1216, 0, 0, 0, 0, 0, 0], [0, 0, 0, 0], [0, 0, 406, 220, 0, 0, 406, 218, 0, 0, 0, 0, 406, 189, 0, 0, 0, 0, 0, 406, 197, 0, 0, 0, 0, 0, 406, 192, 0, 0, 0, 0, 0, 0, 100003, 0, 0, 0, 0, 0, 0, 406, 210, 0, 0, 0, 407, 0, 0, 849, 1218, 0], [0, 406, 210, 0, 0, 0], [0, 0], [0, 0, 806, 0]]
/-- DioceseBook$Story.ofBoth(III)I -/
def s1_b84 : List (Nat × AB) := [(0, [(.iload_n 2, 0, 0, 0), (.lookupswitch 39 #[(0, 27), (1, 33)], 0, 0, 0)]),
  (28, [(.iload_n 0, 0, 0, 0), (.iload_n 1, 0, 0, 0), (.invokestatic 195, 0, 155, 2), (.ireturn, 0, 0, 0)]),
  (34, [(.iload_n 0, 0, 0, 0), (.iload_n 1, 0, 0, 0), (.invokestatic 203, 0, 154, 2), (.ireturn, 0, 0, 0)]),
  (40, [(.iload_n 0, 0, 0, 0), (.iload_n 1, 0, 0, 0), (.iadd, 0, 0, 0), (.iconst 2, 0, 0, 0), (.idiv, 0, 0, 0), (.ireturn, 0, 0, 0)])]
def s1_i84 : List (List Nat) := [[0, 0], [0, 0, 857, 0], [0, 0, 806, 0], [0, 0, 0, 0, 0, 0]]
/-- DioceseBook$Suits.add(I)I -/
def s1_b85 : List (Nat × AB) := [(0, [(.aload_n 0, 0, 0, 0), (.getfield 27, 0, 8, 4), (.bipush 20, 0, 0, 0), (.if_icmp .lt 6, 0, 0, 0), (.ldc 31, -100004, 0, 0), (.ireturn, 0, 0, 0)]),
  (12, [(.aload_n 0, 0, 0, 0), (.getfield 11, 0, 8, 1), (.aload_n 0, 0, 0, 0), (.getfield 27, 0, 8, 4), (.iload_n 1, 0, 0, 0), (.iastore, 0, 0, 0), (.aload_n 0, 0, 0, 0), (.getfield 15, 0, 8, 2), (.aload_n 0, 0, 0, 0), (.getfield 27, 0, 8, 4), (.iconst 0, 0, 0, 0), (.iastore, 0, 0, 0), (.aload_n 0, 0, 0, 0), (.dup, 0, 0, 0), (.getfield 27, 0, 8, 4), (.dup_x1, 0, 0, 0), (.iconst 1, 0, 0, 0), (.iadd, 0, 0, 0), (.putfield 27, 0, 8, 4), (.ireturn, 0, 0, 0)])]
def s1_i85 : List (List Nat) := [[0, 462, 0, 0, 1159, 0], [0, 459, 0, 462, 0, 0, 0, 460, 0, 462, 0, 0, 0, 0, 462, 0, 0, 0, 462, 0]]
/-- DioceseBook$Suits.addStep(II)I -/
def s1_b86 : List (Nat × AB) := [(0, [(.aload_n 0, 0, 0, 0), (.getfield 15, 0, 8, 2), (.iload_n 1, 0, 0, 0), (.iaload, 0, 0, 0), (.iconst 5, 0, 0, 0), (.if_icmp .lt 6, 0, 0, 0), (.ldc 32, -100003, 0, 0), (.ireturn, 0, 0, 0)]),
  (13, [(.aload_n 0, 0, 0, 0), (.getfield 20, 0, 8, 3), (.iload_n 1, 0, 0, 0), (.aaload, 0, 0, 0), (.aload_n 0, 0, 0, 0), (.getfield 15, 0, 8, 2), (.iload_n 1, 0, 0, 0), (.iaload, 0, 0, 0), (.iload_n 2, 0, 0, 0), (.iastore, 0, 0, 0), (.aload_n 0, 0, 0, 0), (.getfield 15, 0, 8, 2), (.iload_n 1, 0, 0, 0), (.dup2, 0, 0, 0), (.iaload, 0, 0, 0), (.iconst 1, 0, 0, 0), (.iadd, 0, 0, 0), (.iastore, 0, 0, 0), (.aload_n 0, 0, 0, 0), (.getfield 15, 0, 8, 2), (.iload_n 1, 0, 0, 0), (.iaload, 0, 0, 0), (.ireturn, 0, 0, 0)])]
def s1_i86 : List (List Nat) := [[0, 460, 0, 0, 0, 0, 1180, 0], [0, 461, 0, 0, 0, 460, 0, 0, 0, 0, 0, 460, 0, 0, 0, 0, 0, 0, 0, 460, 0, 0, 0]]
/-- DioceseBook$Suits.undoFrom(II)I -/
def s1_b87 : List (Nat × AB) := [(0, [(.iload_n 2, 0, 0, 0), (.aload_n 0, 0, 0, 0), (.getfield 15, 0, 8, 2), (.iload_n 1, 0, 0, 0), (.iaload, 0, 0, 0), (.if_icmp .le 6, 0, 0, 0), (.ldc 32, -100003, 0, 0), (.ireturn, 0, 0, 0)]),
  (13, [(.aload_n 0, 0, 0, 0), (.getfield 15, 0, 8, 2), (.iload_n 1, 0, 0, 0), (.iload_n 2, 0, 0, 0), (.iconst 1, 0, 0, 0), (.isub, 0, 0, 0), (.iastore, 0, 0, 0), (.aload_n 0, 0, 0, 0), (.getfield 15, 0, 8, 2), (.iload_n 1, 0, 0, 0), (.iaload, 0, 0, 0), (.ireturn, 0, 0, 0)])]
def s1_i87 : List (List Nat) := [[0, 0, 460, 0, 0, 0, 1180, 0], [0, 460, 0, 0, 0, 0, 0, 0, 460, 0, 0, 0]]
/-- DioceseBook$Suits.stepsBy(II)I -/
def s1_b88 : List (Nat × AB) := [(0, [(.iconst 0, 0, 0, 0), (.istore_n 3, 0, 0, 0)]),
  (2, [(.iload_n 3, 0, 0, 0), (.aload_n 0, 0, 0, 0), (.getfield 15, 0, 8, 2), (.iload_n 1, 0, 0, 0), (.iaload, 0, 0, 0), (.if_icmp .ge 21, 0, 0, 0), (.aload_n 0, 0, 0, 0), (.getfield 20, 0, 8, 3), (.iload_n 1, 0, 0, 0), (.aaload, 0, 0, 0), (.iload_n 3, 0, 0, 0), (.iaload, 0, 0, 0), (.iload_n 2, 0, 0, 0), (.if_icmp .gt 9, 0, 0, 0), (.iinc 3 1, 0, 0, 0), (.goto (-25), 0, 0, 0)]),
  (30, [(.iload_n 3, 0, 0, 0), (.ireturn, 0, 0, 0)])]
def s1_i88 : List (List Nat) := [[0, 0], [0, 0, 460, 0, 0, 0, 0, 461, 0, 0, 0, 0, 0, 0, 0, 0], [0, 0]]
/-- DioceseBook$Suits.lastDay(II)I -/
def s1_b89 : List (Nat × AB) := [(0, [(.aload_n 0, 0, 0, 0), (.iload_n 1, 0, 0, 0), (.iload_n 2, 0, 0, 0), (.invokevirtual 33, 0, 88, 2), (.istore_n 3, 0, 0, 0), (.iload_n 3, 0, 0, 0), (.ifCond .le 14, 0, 0, 0), (.aload_n 0, 0, 0, 0), (.getfield 20, 0, 8, 3), (.iload_n 1, 0, 0, 0), (.aaload, 0, 0, 0), (.iload_n 3, 0, 0, 0), (.iconst 1, 0, 0, 0), (.isub, 0, 0, 0), (.iaload, 0, 0, 0), (.ireturn, 0, 0, 0)]),
  (22, [(.aload_n 0, 0, 0, 0), (.getfield 11, 0, 8, 1), (.iload_n 1, 0, 0, 0), (.iaload, 0, 0, 0), (.iload_n 2, 0, 0, 0), (.if_icmp .gt 12, 0, 0, 0), (.aload_n 0, 0, 0, 0), (.getfield 11, 0, 8, 1), (.iload_n 1, 0, 0, 0), (.iaload, 0, 0, 0), (.goto 4, 0, 0, 0)]),
  (41, [(.iconst (-1), 0, 0, 0)]),
  (42, [(.ireturn, 0, 0, 0)])]
def s1_i89 : List (List Nat) := [[0, 0, 0, 1172, 0, 0, 0, 0, 461, 0, 0, 0, 0, 0, 0, 0], [0, 459, 0, 0, 0, 0, 0, 459, 0, 0, 0], [0], [0]]
/-- DioceseBook$Suits.sleeps(II)Z -/
def s1_b90 : List (Nat × AB) := [(0, [(.aload_n 0, 0, 0, 0), (.iload_n 1, 0, 0, 0), (.iload_n 2, 0, 0, 0), (.invokevirtual 37, 0, 89, 2), (.istore_n 3, 0, 0, 0), (.aload_n 0, 0, 0, 0), (.getfield 23, 0, 8, 0), (.bipush 6, 0, 0, 0), (.iload_n 2, 0, 0, 0), (.invokevirtual 42, 0, 6, 2), (.istore 4, 0, 0, 0), (.iload_n 3, 0, 0, 0), (.iconst (-1), 0, 0, 0), (.if_icmp .eq 30, 0, 0, 0), (.iload 4, 0, 0, 0), (.ifCond .le 25, 0, 0, 0), (.aload_n 0, 0, 0, 0), (.iload_n 1, 0, 0, 0), (.iload_n 2, 0, 0, 0), (.invokevirtual 33, 0, 88, 2), (.iconst 5, 0, 0, 0), (.if_icmp .ge 15, 0, 0, 0), (.iload_n 2, 0, 0, 0), (.iload_n 3, 0, 0, 0), (.isub, 0, 0, 0), (.iload 4, 0, 0, 0), (.if_icmp .le 7, 0, 0, 0), (.iconst 1, 0, 0, 0), (.goto 4, 0, 0, 0)]),
  (51, [(.iconst 0, 0, 0, 0)]),
  (52, [(.ireturn, 0, 0, 0)])]
def s1_i90 : List (List Nat) := [[0, 0, 0, 1198, 0, 0, 458, 0, 0, 1199, 0, 0, 0, 0, 0, 0, 0, 0, 0, 1172, 0, 0, 0, 0, 0, 0, 0, 0, 0], [0], [0]]
/-- DioceseBook$Suits.fees(I)I -/
def s1_b91 : List (Nat × AB) := [(0, [(.iconst 0, 0, 0, 0), (.istore_n 2, 0, 0, 0), (.iconst 0, 0, 0, 0), (.istore_n 3, 0, 0, 0)]),
  (4, [(.iload_n 3, 0, 0, 0), (.aload_n 0, 0, 0, 0), (.getfield 15, 0, 8, 2), (.iload_n 1, 0, 0, 0), (.iaload, 0, 0, 0), (.if_icmp .ge 29, 0, 0, 0), (.iload_n 2, 0, 0, 0), (.aload_n 0, 0, 0, 0), (.getfield 23, 0, 8, 0), (.bipush 7, 0, 0, 0), (.aload_n 0, 0, 0, 0), (.getfield 20, 0, 8, 3), (.iload_n 1, 0, 0, 0), (.aaload, 0, 0, 0), (.iload_n 3, 0, 0, 0), (.iaload, 0, 0, 0), (.invokevirtual 42, 0, 6, 2), (.iadd, 0, 0, 0), (.istore_n 2, 0, 0, 0), (.iinc 3 1, 0, 0, 0), (.goto (-33), 0, 0, 0)]),
  (40, [(.iload_n 2, 0, 0, 0), (.ireturn, 0, 0, 0)])]
def s1_i91 : List (List Nat) := [[0, 0, 0, 0], [0, 0, 460, 0, 0, 0, 0, 0, 458, 0, 0, 461, 0, 0, 0, 0, 1199, 0, 0, 0, 0], [0, 0]]
/-- DioceseBook$Terriers.add(IIII)I -/
def s1_b92 : List (Nat × AB) := [(0, [(.aload_n 0, 0, 0, 0), (.getfield 13, 0, 9, 0), (.iload_n 1, 0, 0, 0), (.iaload, 0, 0, 0), (.istore 5, 0, 0, 0), (.iload 5, 0, 0, 0), (.bipush 8, 0, 0, 0), (.if_icmp .lt 6, 0, 0, 0), (.ldc 38, -100004, 0, 0), (.ireturn, 0, 0, 0)]),
  (18, [(.aload_n 0, 0, 0, 0), (.getfield 19, 0, 9, 1), (.iload_n 1, 0, 0, 0), (.aaload, 0, 0, 0), (.iload 5, 0, 0, 0), (.iload_n 2, 0, 0, 0), (.iastore, 0, 0, 0), (.aload_n 0, 0, 0, 0), (.getfield 22, 0, 9, 2), (.iload_n 1, 0, 0, 0), (.aaload, 0, 0, 0), (.iload 5, 0, 0, 0), (.iload_n 3, 0, 0, 0), (.iastore, 0, 0, 0), (.aload_n 0, 0, 0, 0), (.getfield 25, 0, 9, 3), (.iload_n 1, 0, 0, 0), (.aaload, 0, 0, 0), (.iload 5, 0, 0, 0), (.iload 4, 0, 0, 0), (.iastore, 0, 0, 0), (.aload_n 0, 0, 0, 0), (.getfield 13, 0, 9, 0), (.iload_n 1, 0, 0, 0), (.dup2, 0, 0, 0), (.iaload, 0, 0, 0), (.iconst 1, 0, 0, 0), (.iadd, 0, 0, 0), (.iastore, 0, 0, 0), (.aload_n 0, 0, 0, 0), (.iconst (-1), 0, 0, 0), (.putfield 34, 0, 9, 6), (.iload 5, 0, 0, 0), (.ireturn, 0, 0, 0)])]
def s1_i92 : List (List Nat) := [[0, 482, 0, 0, 0, 0, 0, 0, 1233, 0], [0, 483, 0, 0, 0, 0, 0, 0, 484, 0, 0, 0, 0, 0, 0, 485, 0, 0, 0, 0, 0, 0, 482, 0, 0, 0, 0, 0, 0, 0, 0, 488, 0, 0]]
/-- DioceseBook$Terriers.leastCost()I -/
def s1_b93 : List (Nat × AB) := [(0, [(.aload_n 0, 0, 0, 0), (.getfield 28, 0, 9, 4), (.iconst 0, 0, 0, 0), (.aaload, 0, 0, 0), (.iconst 0, 0, 0, 0), (.iaload, 0, 0, 0), (.ireturn, 0, 0, 0)])]
def s1_i93 : List (List Nat) := [[0, 486, 0, 0, 0, 0, 0]]
/-- DioceseBook$Terriers.partner(II)I -/
def s1_b94 : List (Nat × AB) := [(0, [(.iload_n 2, 0, 0, 0), (.iconst 0, 0, 0, 0), (.aload_n 0, 0, 0, 0), (.getfield 13, 0, 9, 0), (.iconst 2, 0, 0, 0), (.iload_n 1, 0, 0, 0), (.imul, 0, 0, 0), (.iaload, 0, 0, 0), (.iconst 1, 0, 0, 0), (.isub, 0, 0, 0), (.invokestatic 39, 0, 140, 3), (.ifCond .eq 12, 0, 0, 0), (.aload_n 0, 0, 0, 0), (.getfield 31, 0, 9, 5), (.iload_n 2, 0, 0, 0), (.iaload, 0, 0, 0), (.goto 4, 0, 0, 0)]),
  (27, [(.iconst (-1), 0, 0, 0)]),
  (28, [(.ireturn, 0, 0, 0)])]
def s1_i94 : List (List Nat) := [[0, 0, 0, 482, 0, 0, 0, 0, 0, 0, 100004, 0, 0, 487, 0, 0, 0], [0], [0]]
/-- DioceseBook$Terriers.pair(I)V -/
def s1_b95 : List (Nat × AB) := [(0, [(.aload_n 0, 0, 0, 0), (.getfield 34, 0, 9, 6), (.iload_n 1, 0, 0, 0), (.if_icmp .ne 4, 0, 0, 0), (.return_, 0, 0, 0)]),
  (9, [(.aload_n 0, 0, 0, 0), (.iload_n 1, 0, 0, 0), (.putfield 34, 0, 9, 6), (.aload_n 0, 0, 0, 0), (.getfield 13, 0, 9, 0), (.iconst 2, 0, 0, 0), (.iload_n 1, 0, 0, 0), (.imul, 0, 0, 0), (.iaload, 0, 0, 0), (.istore_n 2, 0, 0, 0), (.iconst 1, 0, 0, 0), (.aload_n 0, 0, 0, 0), (.getfield 13, 0, 9, 0), (.iconst 2, 0, 0, 0), (.iload_n 1, 0, 0, 0), (.imul, 0, 0, 0), (.iconst 1, 0, 0, 0), (.iadd, 0, 0, 0), (.iaload, 0, 0, 0), (.ishl, 0, 0, 0), (.istore_n 3, 0, 0, 0), (.iconst 0, 0, 0, 0), (.istore 4, 0, 0, 0)]),
  (39, [(.iload 4, 0, 0, 0), (.iload_n 3, 0, 0, 0), (.if_icmp .ge 29, 0, 0, 0), (.aload_n 0, 0, 0, 0), (.getfield 28, 0, 9, 4), (.iload_n 2, 0, 0, 0), (.aaload, 0, 0, 0), (.iload 4, 0, 0, 0), (.aload_n 0, 0, 0, 0), (.iconst 2, 0, 0, 0), (.iload_n 1, 0, 0, 0), (.imul, 0, 0, 0), (.iconst 1, 0, 0, 0), (.iadd, 0, 0, 0), (.iload 4, 0, 0, 0), (.invokevirtual 43, 0, 100, 2), (.iastore, 0, 0, 0), (.iinc 4 1, 0, 0, 0), (.goto (-29), 0, 0, 0)]),
  (71, [(.iload_n 2, 0, 0, 0), (.iconst 1, 0, 0, 0), (.isub, 0, 0, 0), (.istore 4, 0, 0, 0)]),
  (76, [(.iload 4, 0, 0, 0), (.ifCond .lt 53, 0, 0, 0), (.iconst 0, 0, 0, 0), (.istore 5, 0, 0, 0)]),
  (84, [(.iload 5, 0, 0, 0), (.iload_n 3, 0, 0, 0), (.if_icmp .ge 38, 0, 0, 0), (.iload 5, 0, 0, 0), (.invokestatic 47, 0, 151, 1), (.iload 4, 0, 0, 0), (.if_icmp .gt 22, 0, 0, 0), (.aload_n 0, 0, 0, 0), (.getfield 28, 0, 9, 4), (.iload 4, 0, 0, 0), (.aaload, 0, 0, 0), (.iload 5, 0, 0, 0), (.aload_n 0, 0, 0, 0), (.iload_n 1, 0, 0, 0), (.iload 4, 0, 0, 0), (.iload 5, 0, 0, 0), (.invokevirtual 53, 0, 96, 3), (.iastore, 0, 0, 0)]),
  (119, [(.iinc 5 1, 0, 0, 0), (.goto (-38), 0, 0, 0)]),
  (125, [(.iinc 4 (-1), 0, 0, 0), (.goto (-52), 0, 0, 0)]),
  (131, [(.iconst 0, 0, 0, 0), (.istore 4, 0, 0, 0), (.iconst 0, 0, 0, 0), (.istore 5, 0, 0, 0)]),
  (137, [(.iload 5, 0, 0, 0), (.iload_n 2, 0, 0, 0), (.if_icmp .ge 54, 0, 0, 0), (.aload_n 0, 0, 0, 0), (.getfield 31, 0, 9, 5), (.iload 5, 0, 0, 0), (.aload_n 0, 0, 0, 0), (.iload_n 1, 0, 0, 0), (.iload 5, 0, 0, 0), (.iload 4, 0, 0, 0), (.invokevirtual 57, 0, 97, 3), (.iastore, 0, 0, 0), (.iload 4, 0, 0, 0), (.aload_n 0, 0, 0, 0), (.getfield 31, 0, 9, 5), (.iload 5, 0, 0, 0), (.iaload, 0, 0, 0), (.iconst (-1), 0, 0, 0), (.if_icmp .ne 7, 0, 0, 0), (.iconst 0, 0, 0, 0), (.goto 12, 0, 0, 0)]),
  (176, [(.iconst 1, 0, 0, 0), (.aload_n 0, 0, 0, 0), (.getfield 31, 0, 9, 5), (.iload 5, 0, 0, 0), (.iaload, 0, 0, 0), (.ishl, 0, 0, 0)]),
  (185, [(.ior, 0, 0, 0), (.istore 4, 0, 0, 0), (.iinc 5 1, 0, 0, 0), (.goto (-54), 0, 0, 0)]),
  (194, [(.return_, 0, 0, 0)])]
def s1_i95 : List (List Nat) := [[0, 488, 0, 0, 0], [0, 0, 488, 0, 482, 0, 0, 0, 0, 0, 0, 0, 482, 0, 0, 0, 0, 0, 0, 0, 0, 0, 0], [0, 0, 0, 0, 486, 0, 0, 0, 0, 0, 0, 0, 0, 0, 0, 1242, 0, 0, 0], [0, 0, 0, 0], [0, 0, 0, 0], [0, 0, 0, 0, 1250, 0, 0, 0, 486, 0, 0, 0, 0, 0, 0, 0, 1256, 0], [0, 0], [0, 0], [0, 0, 0, 0], [0, 0, 0, 0, 487, 0, 0, 0, 0, 0, 1266, 0, 0, 0, 487, 0, 0, 0, 0, 0, 0], [0, 0, 487, 0, 0, 0], [0, 0, 0, 0], [0]]
/-- DioceseBook$Terriers.leastFrom(III)I -/
def s1_b96 : List (Nat × AB) := [(0, [(.aload_n 0, 0, 0, 0), (.iconst 2, 0, 0, 0), (.iload_n 1, 0, 0, 0), (.imul, 0, 0, 0), (.iload_n 2, 0, 0, 0), (.invokevirtual 60, 0, 99, 2), (.aload_n 0, 0, 0, 0), (.getfield 28, 0, 9, 4), (.iload_n 2, 0, 0, 0), (.iconst 1, 0, 0, 0), (.iadd, 0, 0, 0), (.aaload, 0, 0, 0), (.iload_n 3, 0, 0, 0), (.iaload, 0, 0, 0), (.iadd, 0, 0, 0), (.istore 4, 0, 0, 0), (.iconst 0, 0, 0, 0), (.istore 5, 0, 0, 0)]),
  (24, [(.iload 5, 0, 0, 0), (.aload_n 0, 0, 0, 0), (.getfield 13, 0, 9, 0), (.iconst 2, 0, 0, 0), (.iload_n 1, 0, 0, 0), (.imul, 0, 0, 0), (.iconst 1, 0, 0, 0), (.iadd, 0, 0, 0), (.iaload, 0, 0, 0), (.if_icmp .ge 49, 0, 0, 0), (.iload_n 3, 0, 0, 0), (.iload 5, 0, 0, 0), (.ishr, 0, 0, 0), (.iconst 1, 0, 0, 0), (.iand, 0, 0, 0), (.ifCond .ne 34, 0, 0, 0), (.iload 4, 0, 0, 0), (.aload_n 0, 0, 0, 0), (.iload_n 1, 0, 0, 0), (.iload_n 2, 0, 0, 0), (.iload 5, 0, 0, 0), (.invokevirtual 63, 0, 98, 3), (.aload_n 0, 0, 0, 0), (.getfield 28, 0, 9, 4), (.iload_n 2, 0, 0, 0), (.iconst 1, 0, 0, 0), (.iadd, 0, 0, 0), (.aaload, 0, 0, 0), (.iload_n 3, 0, 0, 0), (.iconst 1, 0, 0, 0), (.iload 5, 0, 0, 0), (.ishl, 0, 0, 0), (.ior, 0, 0, 0), (.iaload, 0, 0, 0), (.iadd, 0, 0, 0), (.invokestatic 66, 0, 155, 2), (.istore 4, 0, 0, 0)]),
  (79, [(.iinc 5 1, 0, 0, 0), (.goto (-58), 0, 0, 0)]),
  (85, [(.iload 4, 0, 0, 0), (.ireturn, 0, 0, 0)])]
def s1_i96 : List (List Nat) := [[0, 0, 0, 0, 0, 1246, 0, 486, 0, 0, 0, 0, 0, 0, 0, 0, 0, 0], [0, 0, 482, 0, 0, 0, 0, 0, 0, 0, 0, 0, 0, 0, 0, 0, 0, 0, 0, 0, 0, 1260, 0, 486, 0, 0, 0, 0, 0, 0, 0, 0, 0, 0, 0, 1265, 0], [0, 0], [0, 0]]
/-- DioceseBook$Terriers.firstPartner(III)I -/
def s1_b97 : List (Nat × AB) := [(0, [(.iconst 0, 0, 0, 0), (.istore 4, 0, 0, 0)]),
  (3, [(.iload 4, 0, 0, 0), (.aload_n 0, 0, 0, 0), (.getfield 13, 0, 9, 0), (.iconst 2, 0, 0, 0), (.iload_n 1, 0, 0, 0), (.imul, 0, 0, 0), (.iconst 1, 0, 0, 0), (.iadd, 0, 0, 0), (.iaload, 0, 0, 0), (.if_icmp .ge 56, 0, 0, 0), (.iload_n 3, 0, 0, 0), (.iload 4, 0, 0, 0), (.ishr, 0, 0, 0), (.iconst 1, 0, 0, 0), (.iand, 0, 0, 0), (.ifCond .ne 41, 0, 0, 0), (.aload_n 0, 0, 0, 0), (.iload_n 1, 0, 0, 0), (.iload_n 2, 0, 0, 0), (.iload 4, 0, 0, 0), (.invokevirtual 63, 0, 98, 3), (.aload_n 0, 0, 0, 0), (.getfield 28, 0, 9, 4), (.iload_n 2, 0, 0, 0), (.iconst 1, 0, 0, 0), (.iadd, 0, 0, 0), (.aaload, 0, 0, 0), (.iload_n 3, 0, 0, 0), (.iconst 1, 0, 0, 0), (.iload 4, 0, 0, 0), (.ishl, 0, 0, 0), (.ior, 0, 0, 0), (.iaload, 0, 0, 0), (.iadd, 0, 0, 0), (.aload_n 0, 0, 0, 0), (.getfield 28, 0, 9, 4), (.iload_n 2, 0, 0, 0), (.aaload, 0, 0, 0), (.iload_n 3, 0, 0, 0), (.iaload, 0, 0, 0), (.if_icmp .ne 6, 0, 0, 0), (.iload 4, 0, 0, 0), (.ireturn, 0, 0, 0)]),
  (65, [(.iinc 4 1, 0, 0, 0), (.goto (-65), 0, 0, 0)]),
  (71, [(.iconst (-1), 0, 0, 0), (.ireturn, 0, 0, 0)])]
def s1_i97 : List (List Nat) := [[0, 0], [0, 0, 482, 0, 0, 0, 0, 0, 0, 0, 0, 0, 0, 0, 0, 0, 0, 0, 0, 0, 1260, 0, 486, 0, 0, 0, 0, 0, 0, 0, 0, 0, 0, 0, 0, 486, 0, 0, 0, 0, 0, 0, 0], [0, 0], [0, 0]]
/-- DioceseBook$Terriers.pairCost(III)I -/
def s1_b98 : List (Nat × AB) := [(0, [(.iconst 2, 0, 0, 0), (.iload_n 1, 0, 0, 0), (.imul, 0, 0, 0), (.istore 4, 0, 0, 0), (.iload 4, 0, 0, 0), (.iconst 1, 0, 0, 0), (.iadd, 0, 0, 0), (.istore 5, 0, 0, 0), (.aload_n 0, 0, 0, 0), (.getfield 22, 0, 9, 2), (.iload 4, 0, 0, 0), (.aaload, 0, 0, 0), (.iload_n 2, 0, 0, 0), (.iaload, 0, 0, 0), (.aload_n 0, 0, 0, 0), (.getfield 22, 0, 9, 2), (.iload 5, 0, 0, 0), (.aaload, 0, 0, 0), (.iload_n 3, 0, 0, 0), (.iaload, 0, 0, 0), (.isub, 0, 0, 0), (.invokestatic 71, 0, 153, 1), (.aload_n 0, 0, 0, 0), (.getfield 19, 0, 9, 1), (.iload 4, 0, 0, 0), (.aaload, 0, 0, 0), (.iload_n 2, 0, 0, 0), (.iaload, 0, 0, 0), (.aload_n 0, 0, 0, 0), (.getfield 19, 0, 9, 1), (.iload 5, 0, 0, 0), (.aaload, 0, 0, 0), (.iload_n 3, 0, 0, 0), (.iaload, 0, 0, 0), (.if_icmp .ne 7, 0, 0, 0), (.iconst 0, 0, 0, 0), (.goto 5, 0, 0, 0)]),
  (58, [(.bipush 7, 0, 0, 0)]),
  (60, [(.iadd, 0, 0, 0), (.aload_n 0, 0, 0, 0), (.getfield 25, 0, 9, 3), (.iload 4, 0, 0, 0), (.aaload, 0, 0, 0), (.iload_n 2, 0, 0, 0), (.iaload, 0, 0, 0), (.aload_n 0, 0, 0, 0), (.getfield 25, 0, 9, 3), (.iload 5, 0, 0, 0), (.aaload, 0, 0, 0), (.iload_n 3, 0, 0, 0), (.iaload, 0, 0, 0), (.if_icmp .ne 7, 0, 0, 0), (.iconst 0, 0, 0, 0), (.goto 4, 0, 0, 0)]),
  (86, [(.iconst 3, 0, 0, 0)]),
  (87, [(.iadd, 0, 0, 0), (.ireturn, 0, 0, 0)])]
def s1_i98 : List (List Nat) := [[0, 0, 0, 0, 0, 0, 0, 0, 0, 484, 0, 0, 0, 0, 0, 484, 0, 0, 0, 0, 0, 1264, 0, 483, 0, 0, 0, 0, 0, 483, 0, 0, 0, 0, 0, 0, 0], [0], [0, 0, 485, 0, 0, 0, 0, 0, 485, 0, 0, 0, 0, 0, 0, 0], [0], [0, 0]]
/-- DioceseBook$Terriers.aloneCost(II)I -/
def s1_b99 : List (Nat × AB) := [(0, [(.bipush 10, 0, 0, 0), (.aload_n 0, 0, 0, 0), (.getfield 22, 0, 9, 2), (.iload_n 1, 0, 0, 0), (.aaload, 0, 0, 0), (.iload_n 2, 0, 0, 0), (.iaload, 0, 0, 0), (.bipush 10, 0, 0, 0), (.idiv, 0, 0, 0), (.iadd, 0, 0, 0), (.ireturn, 0, 0, 0)])]
def s1_i99 : List (List Nat) := [[0, 0, 484, 0, 0, 0, 0, 0, 0, 0, 0]]
/-- DioceseBook$Terriers.aloneBehind(II)I -/
def s1_b100 : List (Nat × AB) := [(0, [(.iconst 0, 0, 0, 0), (.istore_n 3, 0, 0, 0), (.iconst 0, 0, 0, 0), (.istore 4, 0, 0, 0)]),
  (5, [(.iload 4, 0, 0, 0), (.aload_n 0, 0, 0, 0), (.getfield 13, 0, 9, 0), (.iload_n 1, 0, 0, 0), (.iaload, 0, 0, 0), (.if_icmp .ge 32, 0, 0, 0), (.iload_n 3, 0, 0, 0), (.iload_n 2, 0, 0, 0), (.iload 4, 0, 0, 0), (.ishr, 0, 0, 0), (.iconst 1, 0, 0, 0), (.iand, 0, 0, 0), (.ifCond .ne 13, 0, 0, 0), (.aload_n 0, 0, 0, 0), (.iload_n 1, 0, 0, 0), (.iload 4, 0, 0, 0), (.invokevirtual 60, 0, 99, 2), (.goto 4, 0, 0, 0)]),
  (36, [(.iconst 0, 0, 0, 0)]),
  (37, [(.iadd, 0, 0, 0), (.istore_n 3, 0, 0, 0), (.iinc 4 1, 0, 0, 0), (.goto (-37), 0, 0, 0)]),
  (45, [(.iload_n 3, 0, 0, 0), (.ireturn, 0, 0, 0)])]
def s1_i100 : List (List Nat) := [[0, 0, 0, 0], [0, 0, 482, 0, 0, 0, 0, 0, 0, 0, 0, 0, 0, 0, 0, 0, 1246, 0], [0], [0, 0, 0, 0], [0, 0]]
/-- DioceseBook$Visitation.prepare(II)Z -/
def s1_b101 : List (Nat × AB) := [(0, [(.aload_n 0, 0, 0, 0), (.getfield 31, 0, 10, 7), (.iload_n 1, 0, 0, 0), (.if_icmp .eq 79, 0, 0, 0), (.aload_n 0, 0, 0, 0), (.iload_n 1, 0, 0, 0), (.putfield 31, 0, 10, 7), (.aload_n 0, 0, 0, 0), (.iconst 0, 0, 0, 0), (.putfield 35, 0, 10, 8), (.aload_n 0, 0, 0, 0), (.iconst 0, 0, 0, 0), (.putfield 38, 0, 10, 2), (.iconst 0, 0, 0, 0), (.istore_n 3, 0, 0, 0)]),
  (25, [(.iload_n 3, 0, 0, 0), (.aload_n 0, 0, 0, 0), (.getfield 27, 0, 10, 0), (.getfield 41, 0, 5, 5), (.if_icmp .ge 47, 0, 0, 0), (.aload_n 0, 0, 0, 0), (.getfield 38, 0, 10, 2), (.bipush 8, 0, 0, 0), (.if_icmp .ge 38, 0, 0, 0), (.iload_n 1, 0, 0, 0), (.iload_n 3, 0, 0, 0), (.ishr, 0, 0, 0), (.iconst 1, 0, 0, 0), (.iand, 0, 0, 0), (.iconst 1, 0, 0, 0), (.if_icmp .ne 23, 0, 0, 0), (.aload_n 0, 0, 0, 0), (.getfield 9, 0, 10, 1), (.aload_n 0, 0, 0, 0), (.getfield 38, 0, 10, 2), (.iload_n 3, 0, 0, 0), (.iastore, 0, 0, 0), (.aload_n 0, 0, 0, 0), (.dup, 0, 0, 0), (.getfield 38, 0, 10, 2), (.iconst 1, 0, 0, 0), (.iadd, 0, 0, 0), (.putfield 38, 0, 10, 2)]),
  (74, [(.iinc 3 1, 0, 0, 0), (.goto (-52), 0, 0, 0)]),
  (80, [(.aload_n 0, 0, 0, 0), (.invokevirtual 46, 0, 102, 0)]),
  (84, [(.iconst 0, 0, 0, 0), (.istore_n 3, 0, 0, 0)]),
  (86, [(.iload_n 3, 0, 0, 0), (.aload_n 0, 0, 0, 0), (.getfield 38, 0, 10, 2), (.if_icmp .ge 23, 0, 0, 0), (.aload_n 0, 0, 0, 0), (.getfield 18, 0, 10, 4), (.iconst 1, 0, 0, 0), (.iload_n 3, 0, 0, 0), (.ishl, 0, 0, 0), (.iaload, 0, 0, 0), (.iload_n 2, 0, 0, 0), (.if_icmp .le 5, 0, 0, 0), (.iconst 0, 0, 0, 0), (.ireturn, 0, 0, 0)]),
  (108, [(.iinc 3 1, 0, 0, 0), (.goto (-25), 0, 0, 0)]),
  (114, [(.aload_n 0, 0, 0, 0), (.getfield 35, 0, 10, 8), (.iload_n 2, 0, 0, 0), (.if_icmp .eq 13, 0, 0, 0), (.aload_n 0, 0, 0, 0), (.iload_n 2, 0, 0, 0), (.putfield 35, 0, 10, 8), (.aload_n 0, 0, 0, 0), (.iload_n 2, 0, 0, 0), (.invokevirtual 49, 0, 104, 1)]),
  (132, [(.iconst 1, 0, 0, 0), (.ireturn, 0, 0, 0)])]
def s1_i101 : List (List Nat) := [[0, 564, 0, 0, 0, 0, 564, 0, 0, 565, 0, 0, 559, 0, 0], [0, 0, 557, 162, 0, 0, 559, 0, 0, 0, 0, 0, 0, 0, 0, 0, 0, 558, 0, 559, 0, 0, 0, 0, 559, 0, 0, 559], [0, 0], [0, 1335], [0, 0], [0, 0, 559, 0, 0, 561, 0, 0, 0, 0, 0, 0, 0, 0], [0, 0], [0, 565, 0, 0, 0, 0, 565, 0, 0, 1350], [0, 0]]
/-- DioceseBook$Visitation.measure()V -/
def s1_b102 : List (Nat × AB) := [(0, [(.iconst 1, 0, 0, 0), (.istore_n 1, 0, 0, 0)]),
  (2, [(.iload_n 1, 0, 0, 0), (.iconst 1, 0, 0, 0), (.aload_n 0, 0, 0, 0), (.getfield 38, 0, 10, 2), (.ishl, 0, 0, 0), (.if_icmp .ge 97, 0, 0, 0), (.aload_n 0, 0, 0, 0), (.getfield 18, 0, 10, 4), (.iload_n 1, 0, 0, 0), (.ldc 53, 1000000, 0, 0), (.iastore, 0, 0, 0), (.iconst 0, 0, 0, 0), (.istore_n 2, 0, 0, 0)]),
  (22, [(.iload_n 2, 0, 0, 0), (.aload_n 0, 0, 0, 0), (.getfield 38, 0, 10, 2), (.if_icmp .ge 73, 0, 0, 0), (.iload_n 1, 0, 0, 0), (.iload_n 2, 0, 0, 0), (.ishr, 0, 0, 0), (.iconst 1, 0, 0, 0), (.iand, 0, 0, 0), (.iconst 1, 0, 0, 0), (.if_icmp .ne 58, 0, 0, 0), (.aload_n 0, 0, 0, 0), (.getfield 15, 0, 10, 3), (.iload_n 2, 0, 0, 0), (.aaload, 0, 0, 0), (.iload_n 1, 0, 0, 0), (.aload_n 0, 0, 0, 0), (.iload_n 1, 0, 0, 0), (.iconst 1, 0, 0, 0), (.iload_n 2, 0, 0, 0), (.ishl, 0, 0, 0), (.ixor, 0, 0, 0), (.iload_n 2, 0, 0, 0), (.invokevirtual 54, 0, 103, 2), (.iastore, 0, 0, 0), (.aload_n 0, 0, 0, 0), (.getfield 18, 0, 10, 4), (.iload_n 1, 0, 0, 0), (.aload_n 0, 0, 0, 0), (.getfield 18, 0, 10, 4), (.iload_n 1, 0, 0, 0), (.iaload, 0, 0, 0), (.aload_n 0, 0, 0, 0), (.getfield 15, 0, 10, 3), (.iload_n 2, 0, 0, 0), (.aaload, 0, 0, 0), (.iload_n 1, 0, 0, 0), (.iaload, 0, 0, 0), (.aload_n 0, 0, 0, 0), (.getfield 27, 0, 10, 0), (.aload_n 0, 0, 0, 0), (.getfield 9, 0, 10, 1), (.iload_n 2, 0, 0, 0), (.iaload, 0, 0, 0), (.invokevirtual 58, 0, 58, 1), (.iadd, 0, 0, 0), (.invokestatic 62, 0, 155, 2), (.iastore, 0, 0, 0)]),
  (94, [(.iinc 2 1, 0, 0, 0), (.goto (-75), 0, 0, 0)]),
  (100, [(.iinc 1 1, 0, 0, 0), (.goto (-101), 0, 0, 0)]),
  (106, [(.return_, 0, 0, 0)])]
def s1_i102 : List (List Nat) := [[0, 0], [0, 0, 0, 559, 0, 0, 0, 561, 0, 1339, 0, 0, 0], [0, 0, 559, 0, 0, 0, 0, 0, 0, 0, 0, 0, 560, 0, 0, 0, 0, 0, 0, 0, 0, 0, 0, 1340, 0, 0, 561, 0, 0, 561, 0, 0, 0, 560, 0, 0, 0, 0, 0, 557, 0, 558, 0, 0, 1344, 0, 1349, 0], [0, 0], [0, 0], [0]]
/-- DioceseBook$Visitation.wayTo(II)I -/
def s1_b103 : List (Nat × AB) := [(0, [(.iload_n 1, 0, 0, 0), (.ifCond .ne 17, 0, 0, 0), (.aload_n 0, 0, 0, 0), (.getfield 27, 0, 10, 0), (.aload_n 0, 0, 0, 0), (.getfield 9, 0, 10, 1), (.iload_n 2, 0, 0, 0), (.iaload, 0, 0, 0), (.invokevirtual 58, 0, 58, 1), (.ireturn, 0, 0, 0)]),
  (18, [(.ldc 53, 1000000, 0, 0), (.istore_n 3, 0, 0, 0), (.iconst 0, 0, 0, 0), (.istore 4, 0, 0, 0)]),
  (24, [(.iload 4, 0, 0, 0), (.aload_n 0, 0, 0, 0), (.getfield 38, 0, 10, 2), (.if_icmp .ge 54, 0, 0, 0), (.iload_n 1, 0, 0, 0), (.iload 4, 0, 0, 0), (.ishr, 0, 0, 0), (.iconst 1, 0, 0, 0), (.iand, 0, 0, 0), (.iconst 1, 0, 0, 0), (.if_icmp .ne 38, 0, 0, 0), (.iload_n 3, 0, 0, 0), (.aload_n 0, 0, 0, 0), (.getfield 15, 0, 10, 3), (.iload 4, 0, 0, 0), (.aaload, 0, 0, 0), (.iload_n 1, 0, 0, 0), (.iaload, 0, 0, 0), (.aload_n 0, 0, 0, 0), (.getfield 27, 0, 10, 0), (.aload_n 0, 0, 0, 0), (.getfield 9, 0, 10, 1), (.iload 4, 0, 0, 0), (.iaload, 0, 0, 0), (.aload_n 0, 0, 0, 0), (.getfield 9, 0, 10, 1), (.iload_n 2, 0, 0, 0), (.iaload, 0, 0, 0), (.invokevirtual 67, 0, 57, 2), (.iadd, 0, 0, 0), (.invokestatic 62, 0, 155, 2), (.istore_n 3, 0, 0, 0)]),
  (78, [(.iinc 4 1, 0, 0, 0), (.goto (-57), 0, 0, 0)]),
  (84, [(.iload_n 3, 0, 0, 0), (.ireturn, 0, 0, 0)])]
def s1_i103 : List (List Nat) := [[0, 0, 0, 557, 0, 558, 0, 0, 1344, 0], [1339, 0, 0, 0], [0, 0, 559, 0, 0, 0, 0, 0, 0, 0, 0, 0, 0, 560, 0, 0, 0, 0, 0, 557, 0, 558, 0, 0, 0, 558, 0, 0, 1348, 0, 1349, 0], [0, 0], [0, 0]]
/-- DioceseBook$Visitation.choose(I)V -/
def s1_b104 : List (Nat × AB) := [(0, [(.iconst 1, 0, 0, 0), (.aload_n 0, 0, 0, 0), (.getfield 38, 0, 10, 2), (.ishl, 0, 0, 0), (.iconst 1, 0, 0, 0), (.isub, 0, 0, 0), (.istore_n 2, 0, 0, 0), (.aload_n 0, 0, 0, 0), (.getfield 21, 0, 10, 5), (.iconst 0, 0, 0, 0), (.iconst 0, 0, 0, 0), (.iastore, 0, 0, 0), (.iconst 1, 0, 0, 0), (.istore_n 3, 0, 0, 0)]),
  (18, [(.iload_n 3, 0, 0, 0), (.iload_n 2, 0, 0, 0), (.if_icmp .gt 83, 0, 0, 0), (.aload_n 0, 0, 0, 0), (.getfield 21, 0, 10, 5), (.iload_n 3, 0, 0, 0), (.ldc 53, 1000000, 0, 0), (.iastore, 0, 0, 0), (.iload_n 3, 0, 0, 0), (.istore 4, 0, 0, 0)]),
  (34, [(.iload 4, 0, 0, 0), (.ifCond .le 61, 0, 0, 0), (.aload_n 0, 0, 0, 0), (.getfield 18, 0, 10, 4), (.iload 4, 0, 0, 0), (.iaload, 0, 0, 0), (.iload_n 1, 0, 0, 0), (.if_icmp .gt 39, 0, 0, 0), (.aload_n 0, 0, 0, 0), (.getfield 21, 0, 10, 5), (.iload_n 3, 0, 0, 0), (.aload_n 0, 0, 0, 0), (.getfield 21, 0, 10, 5), (.iload_n 3, 0, 0, 0), (.iaload, 0, 0, 0), (.sipush 10000, 0, 0, 0), (.aload_n 0, 0, 0, 0), (.getfield 18, 0, 10, 4), (.iload 4, 0, 0, 0), (.iaload, 0, 0, 0), (.iadd, 0, 0, 0), (.aload_n 0, 0, 0, 0), (.getfield 21, 0, 10, 5), (.iload_n 3, 0, 0, 0), (.iload 4, 0, 0, 0), (.ixor, 0, 0, 0), (.iaload, 0, 0, 0), (.iadd, 0, 0, 0), (.invokestatic 62, 0, 155, 2), (.iastore, 0, 0, 0)]),
  (86, [(.iload 4, 0, 0, 0), (.iconst 1, 0, 0, 0), (.isub, 0, 0, 0), (.iload_n 3, 0, 0, 0), (.iand, 0, 0, 0), (.istore 4, 0, 0, 0), (.goto (-60), 0, 0, 0)]),
  (97, [(.iinc 3 1, 0, 0, 0), (.goto (-82), 0, 0, 0)]),
  (103, [(.aload_n 0, 0, 0, 0), (.aload_n 0, 0, 0, 0), (.getfield 21, 0, 10, 5), (.iload_n 2, 0, 0, 0), (.iaload, 0, 0, 0), (.sipush 10000, 0, 0, 0), (.idiv, 0, 0, 0), (.putfield 70, 0, 10, 9), (.aload_n 0, 0, 0, 0), (.aload_n 0, 0, 0, 0), (.getfield 21, 0, 10, 5), (.iload_n 2, 0, 0, 0), (.iaload, 0, 0, 0), (.sipush 10000, 0, 0, 0), (.irem, 0, 0, 0), (.putfield 73, 0, 10, 10), (.iload_n 2, 0, 0, 0), (.istore_n 3, 0, 0, 0), (.iconst 0, 0, 0, 0), (.istore 4, 0, 0, 0)]),
  (136, [(.iload 4, 0, 0, 0), (.bipush 8, 0, 0, 0), (.if_icmp .ge 32, 0, 0, 0), (.aload_n 0, 0, 0, 0), (.getfield 24, 0, 10, 6), (.iload 4, 0, 0, 0), (.aload_n 0, 0, 0, 0), (.iload_n 3, 0, 0, 0), (.iload_n 1, 0, 0, 0), (.invokevirtual 76, 0, 105, 2), (.iastore, 0, 0, 0), (.iload_n 3, 0, 0, 0), (.aload_n 0, 0, 0, 0), (.getfield 24, 0, 10, 6), (.iload 4, 0, 0, 0), (.iaload, 0, 0, 0), (.ixor, 0, 0, 0), (.istore_n 3, 0, 0, 0), (.iinc 4 1, 0, 0, 0), (.goto (-33), 0, 0, 0)]),
  (172, [(.return_, 0, 0, 0)])]
def s1_i104 : List (List Nat) := [[0, 0, 559, 0, 0, 0, 0, 0, 562, 0, 0, 0, 0, 0], [0, 0, 0, 0, 562, 0, 1339, 0, 0, 0], [0, 0, 0, 561, 0, 0, 0, 0, 0, 562, 0, 0, 562, 0, 0, 0, 0, 561, 0, 0, 0, 0, 562, 0, 0, 0, 0, 0, 1349, 0], [0, 0, 0, 0, 0, 0, 0], [0, 0], [0, 0, 562, 0, 0, 0, 0, 566, 0, 0, 562, 0, 0, 0, 0, 568, 0, 0, 0, 0], [0, 0, 0, 0, 563, 0, 0, 0, 0, 1354, 0, 0, 0, 563, 0, 0, 0, 0, 0, 0], [0]]
/-- DioceseBook$Visitation.leastFirst(II)I -/
def s1_b105 : List (Nat × AB) := [(0, [(.iconst 1, 0, 0, 0), (.istore_n 3, 0, 0, 0)]),
  (2, [(.iload_n 3, 0, 0, 0), (.iload_n 1, 0, 0, 0), (.if_icmp .gt 56, 0, 0, 0), (.iload_n 3, 0, 0, 0), (.iload_n 1, 0, 0, 0), (.iand, 0, 0, 0), (.iload_n 3, 0, 0, 0), (.if_icmp .ne 43, 0, 0, 0), (.aload_n 0, 0, 0, 0), (.getfield 18, 0, 10, 4), (.iload_n 3, 0, 0, 0), (.iaload, 0, 0, 0), (.iload_n 2, 0, 0, 0), (.if_icmp .gt 33, 0, 0, 0), (.sipush 10000, 0, 0, 0), (.aload_n 0, 0, 0, 0), (.getfield 18, 0, 10, 4), (.iload_n 3, 0, 0, 0), (.iaload, 0, 0, 0), (.iadd, 0, 0, 0), (.aload_n 0, 0, 0, 0), (.getfield 21, 0, 10, 5), (.iload_n 1, 0, 0, 0), (.iload_n 3, 0, 0, 0), (.ixor, 0, 0, 0), (.iaload, 0, 0, 0), (.iadd, 0, 0, 0), (.aload_n 0, 0, 0, 0), (.getfield 21, 0, 10, 5), (.iload_n 1, 0, 0, 0), (.iaload, 0, 0, 0), (.if_icmp .ne 5, 0, 0, 0), (.iload_n 3, 0, 0, 0), (.ireturn, 0, 0, 0)]),
  (54, [(.iinc 3 1, 0, 0, 0), (.goto (-55), 0, 0, 0)]),
  (60, [(.iconst 0, 0, 0, 0), (.ireturn, 0, 0, 0)])]
def s1_i105 : List (List Nat) := [[0, 0], [0, 0, 0, 0, 0, 0, 0, 0, 0, 561, 0, 0, 0, 0, 0, 0, 561, 0, 0, 0, 0, 562, 0, 0, 0, 0, 0, 0, 562, 0, 0, 0, 0, 0], [0, 0], [0, 0]]
/-- DioceseBook$Visitation.setOf(I)I -/
def s1_b106 : List (Nat × AB) := [(0, [(.iconst 0, 0, 0, 0), (.istore_n 2, 0, 0, 0), (.iconst 0, 0, 0, 0), (.istore_n 3, 0, 0, 0)]),
  (4, [(.iload_n 3, 0, 0, 0), (.aload_n 0, 0, 0, 0), (.getfield 38, 0, 10, 2), (.if_icmp .ge 35, 0, 0, 0), (.iload_n 1, 0, 0, 0), (.bipush 8, 0, 0, 0), (.if_icmp .ge 29, 0, 0, 0), (.iload_n 2, 0, 0, 0), (.aload_n 0, 0, 0, 0), (.getfield 24, 0, 10, 6), (.iload_n 1, 0, 0, 0), (.iaload, 0, 0, 0), (.iload_n 3, 0, 0, 0), (.ishr, 0, 0, 0), (.iconst 1, 0, 0, 0), (.iand, 0, 0, 0), (.aload_n 0, 0, 0, 0), (.getfield 9, 0, 10, 1), (.iload_n 3, 0, 0, 0), (.iaload, 0, 0, 0), (.ishl, 0, 0, 0), (.ior, 0, 0, 0), (.istore_n 2, 0, 0, 0), (.iinc 3 1, 0, 0, 0), (.goto (-37), 0, 0, 0)]),
  (44, [(.iload_n 2, 0, 0, 0), (.ireturn, 0, 0, 0)])]
def s1_i106 : List (List Nat) := [[0, 0, 0, 0], [0, 0, 559, 0, 0, 0, 0, 0, 0, 563, 0, 0, 0, 0, 0, 0, 0, 558, 0, 0, 0, 0, 0, 0, 0], [0, 0]]
/-- DioceseBook.go(I)I -/
def s1_b107 : List (Nat × AB) := [(0, [(.iload_n 1, 0, 0, 0), (.iconst 0, 0, 0, 0), (.sipush 9999, 0, 0, 0), (.invokestatic 82, 0, 140, 3), (.ifCond .ne 6, 0, 0, 0), (.ldc 86, -100002, 0, 0), (.ireturn, 0, 0, 0)]),
  (14, [(.aload_n 0, 0, 0, 0), (.getfield 87, 0, 11, 10), (.iload_n 1, 0, 0, 0), (.iadd, 0, 0, 0), (.sipush 30000, 0, 0, 0), (.if_icmp .le 6, 0, 0, 0), (.ldc 91, -100003, 0, 0), (.ireturn, 0, 0, 0)]),
  (29, [(.aload_n 0, 0, 0, 0), (.dup, 0, 0, 0), (.getfield 87, 0, 11, 10), (.iload_n 1, 0, 0, 0), (.iadd, 0, 0, 0), (.putfield 87, 0, 11, 10), (.aload_n 0, 0, 0, 0), (.getfield 87, 0, 11, 10), (.ireturn, 0, 0, 0)])]
def s1_i107 : List (List Nat) := [[0, 0, 0, 631, 0, 634, 0], [0, 603, 0, 0, 0, 0, 635, 0], [0, 0, 603, 0, 0, 603, 0, 603, 0]]
/-- DioceseBook.person(I)I -/
def s1_b108 : List (Nat × AB) := [(0, [(.iload_n 1, 0, 0, 0), (.iconst 0, 0, 0, 0), (.sipush 9999, 0, 0, 0), (.invokestatic 82, 0, 140, 3), (.ifCond .ne 6, 0, 0, 0), (.ldc 86, -100002, 0, 0), (.ireturn, 0, 0, 0)]),
  (14, [(.aload_n 0, 0, 0, 0), (.getfield 10, 0, 11, 0), (.iload_n 1, 0, 0, 0), (.invokevirtual 92, 0, 55, 1), (.ireturn, 0, 0, 0)])]
def s1_i108 : List (List Nat) := [[0, 0, 0, 631, 0, 634, 0], [0, 593, 0, 640, 0]]
/-- DioceseBook.living(III)I -/
def s1_b109 : List (Nat × AB) := [(0, [(.iload_n 1, 0, 0, 0), (.iload_n 2, 0, 0, 0), (.invokestatic 96, 0, 144, 2), (.ifCond .eq 14, 0, 0, 0), (.iload_n 3, 0, 0, 0), (.iconst 0, 0, 0, 0), (.sipush 999, 0, 0, 0), (.invokestatic 82, 0, 140, 3), (.ifCond .ne 6, 0, 0, 0)]),
  (19, [(.ldc 86, -100002, 0, 0), (.ireturn, 0, 0, 0)]),
  (22, [(.aload_n 0, 0, 0, 0), (.getfield 10, 0, 11, 0), (.iload_n 1, 0, 0, 0), (.iload_n 2, 0, 0, 0), (.iload_n 3, 0, 0, 0), (.invokevirtual 100, 0, 56, 3), (.ireturn, 0, 0, 0)])]
def s1_i109 : List (List Nat) := [[0, 0, 649, 0, 0, 0, 0, 631, 0], [634, 0], [0, 593, 0, 0, 0, 652, 0]]
/-- DioceseBook.set(III)I -/
def s1_b110 : List (Nat × AB) := [(0, [(.iload_n 1, 0, 0, 0), (.ifCond .ne 11, 0, 0, 0), (.aload_n 0, 0, 0, 0), (.iload_n 2, 0, 0, 0), (.invokevirtual 104, 0, 147, 1), (.ifCond .eq 16, 0, 0, 0)]),
  (12, [(.iload_n 1, 0, 0, 0), (.iconst 1, 0, 0, 0), (.if_icmp .ne 14, 0, 0, 0), (.aload_n 0, 0, 0, 0), (.iload_n 2, 0, 0, 0), (.invokevirtual 108, 0, 146, 1), (.ifCond .ne 6, 0, 0, 0)]),
  (25, [(.ldc 111, -100001, 0, 0), (.ireturn, 0, 0, 0)]),
  (28, [(.iload_n 1, 0, 0, 0), (.ifCond .ne 45, 0, 0, 0), (.iload_n 3, 0, 0, 0), (.iconst 0, 0, 0, 0), (.sipush 999, 0, 0, 0), (.invokestatic 82, 0, 140, 3), (.ifCond .eq 34, 0, 0, 0), (.aload_n 0, 0, 0, 0), (.getfield 10, 0, 11, 0), (.getfield 112, 0, 5, 3), (.iload_n 2, 0, 0, 0), (.iaload, 0, 0, 0), (.istore 4, 0, 0, 0), (.aload_n 0, 0, 0, 0), (.getfield 10, 0, 11, 0), (.getfield 112, 0, 5, 3), (.iload_n 2, 0, 0, 0), (.iload_n 3, 0, 0, 0), (.iastore, 0, 0, 0), (.aload_n 0, 0, 0, 0), (.getfield 44, 0, 11, 4), (.invokevirtual 116, 0, 68, 0), (.iload 4, 0, 0, 0), (.ireturn, 0, 0, 0)]),
  (74, [(.iload_n 1, 0, 0, 0), (.iconst 1, 0, 0, 0), (.if_icmp .ne 38, 0, 0, 0), (.iload_n 3, 0, 0, 0), (.iconst 0, 0, 0, 0), (.sipush 9999, 0, 0, 0), (.invokestatic 82, 0, 140, 3), (.ifCond .eq 27, 0, 0, 0), (.aload_n 0, 0, 0, 0), (.getfield 10, 0, 11, 0), (.getfield 119, 0, 5, 0), (.iload_n 2, 0, 0, 0), (.iaload, 0, 0, 0), (.istore 4, 0, 0, 0), (.aload_n 0, 0, 0, 0), (.getfield 10, 0, 11, 0), (.getfield 119, 0, 5, 0), (.iload_n 2, 0, 0, 0), (.iload_n 3, 0, 0, 0), (.iastore, 0, 0, 0), (.iload 4, 0, 0, 0), (.ireturn, 0, 0, 0)]),
  (114, [(.ldc 86, -100002, 0, 0), (.ireturn, 0, 0, 0)])]
def s1_i110 : List (List Nat) := [[0, 0, 0, 0, 660, 0], [0, 0, 0, 0, 0, 664, 0], [668, 0], [0, 0, 0, 0, 0, 631, 0, 0, 593, 157, 0, 0, 0, 0, 593, 157, 0, 0, 0, 0, 597, 669, 0, 0], [0, 0, 0, 0, 0, 0, 631, 0, 0, 593, 153, 0, 0, 0, 0, 593, 153, 0, 0, 0, 0, 0], [634, 0]]
/-- DioceseBook.paper(IIIIII)I -/
def s1_b111 : List (Nat × AB) := [(0, [(.aload_n 0, 0, 0, 0), (.iload 5, 0, 0, 0), (.invokevirtual 108, 0, 146, 1), (.ifCond .ne 20, 0, 0, 0), (.iload_n 1, 0, 0, 0), (.iconst 3, 0, 0, 0), (.if_icmp .ne 19, 0, 0, 0), (.iload 5, 0, 0, 0), (.bipush (-4), 0, 0, 0), (.bipush (-2), 0, 0, 0), (.invokestatic 82, 0, 140, 3), (.ifCond .eq 7, 0, 0, 0)]),
  (26, [(.iconst 1, 0, 0, 0), (.goto 4, 0, 0, 0)]),
  (30, [(.iconst 0, 0, 0, 0)]),
  (31, [(.istore 7, 0, 0, 0), (.iload_n 1, 0, 0, 0), (.invokestatic 122, 0, 27, 1), (.ifCond .eq 11, 0, 0, 0), (.aload_n 0, 0, 0, 0), (.iload_n 3, 0, 0, 0), (.invokevirtual 104, 0, 147, 1), (.ifCond .eq 46, 0, 0, 0)]),
  (48, [(.iload_n 1, 0, 0, 0), (.invokestatic 125, 0, 28, 1), (.ifCond .eq 12, 0, 0, 0), (.aload_n 0, 0, 0, 0), (.iload 4, 0, 0, 0), (.invokevirtual 108, 0, 146, 1), (.ifCond .eq 30, 0, 0, 0)]),
  (64, [(.iload_n 1, 0, 0, 0), (.invokestatic 128, 0, 29, 1), (.ifCond .eq 8, 0, 0, 0), (.iload 7, 0, 0, 0), (.ifCond .eq 18, 0, 0, 0)]),
  (76, [(.iload_n 1, 0, 0, 0), (.bipush 12, 0, 0, 0), (.if_icmp .ne 15, 0, 0, 0), (.aload_n 0, 0, 0, 0), (.iload 6, 0, 0, 0), (.invokevirtual 131, 0, 148, 1), (.ifCond .ne 6, 0, 0, 0)]),
  (91, [(.ldc 111, -100001, 0, 0), (.ireturn, 0, 0, 0)]),
  (94, [(.iload_n 1, 0, 0, 0), (.iconst 0, 0, 0, 0), (.bipush 12, 0, 0, 0), (.invokestatic 82, 0, 140, 3), (.ifCond .eq 52, 0, 0, 0), (.iload_n 2, 0, 0, 0), (.iconst 0, 0, 0, 0), (.aload_n 0, 0, 0, 0), (.getfield 87, 0, 11, 10), (.invokestatic 82, 0, 140, 3), (.ifCond .eq 40, 0, 0, 0), (.iload_n 1, 0, 0, 0), (.bipush 11, 0, 0, 0), (.if_icmp .ne 15, 0, 0, 0), (.iload 6, 0, 0, 0), (.iconst 0, 0, 0, 0), (.sipush 9999, 0, 0, 0), (.invokestatic 82, 0, 140, 3), (.ifCond .eq 22, 0, 0, 0)]),
  (134, [(.iload_n 1, 0, 0, 0), (.bipush 6, 0, 0, 0), (.if_icmp .eq 9, 0, 0, 0), (.iload_n 1, 0, 0, 0), (.bipush 7, 0, 0, 0), (.if_icmp .ne 13, 0, 0, 0)]),
  (146, [(.iload 4, 0, 0, 0), (.iload 5, 0, 0, 0), (.if_icmp .ne 6, 0, 0, 0)]),
  (153, [(.ldc 86, -100002, 0, 0), (.ireturn, 0, 0, 0)]),
  (156, [(.aload_n 0, 0, 0, 0), (.getfield 19, 0, 11, 1), (.getfield 134, 0, 3, 7), (.sipush 150, 0, 0, 0), (.if_icmp .lt 6, 0, 0, 0), (.ldc 137, -100004, 0, 0), (.ireturn, 0, 0, 0)]),
  (172, [(.aload_n 0, 0, 0, 0), (.getfield 44, 0, 11, 4), (.invokevirtual 116, 0, 68, 0), (.aload_n 0, 0, 0, 0), (.getfield 19, 0, 11, 1), (.iload_n 1, 0, 0, 0), (.iload_n 2, 0, 0, 0), (.aload_n 0, 0, 0, 0), (.getfield 87, 0, 11, 10), (.iload_n 3, 0, 0, 0), (.iload 4, 0, 0, 0), (.iload 5, 0, 0, 0), (.iload 6, 0, 0, 0), (.invokevirtual 138, 0, 30, 7), (.ireturn, 0, 0, 0)])]
def s1_i111 : List (List Nat) := [[0, 0, 664, 0, 0, 0, 0, 0, 0, 0, 631, 0], [0, 0], [0], [0, 0, 677, 0, 0, 0, 660, 0], [0, 681, 0, 0, 0, 664, 0], [0, 684, 0, 0, 0], [0, 0, 0, 0, 0, 687, 0], [668, 0], [0, 0, 0, 631, 0, 0, 0, 0, 603, 631, 0, 0, 0, 0, 0, 0, 0, 631, 0], [0, 0, 0, 0, 0, 0], [0, 0, 0], [634, 0], [0, 594, 212, 0, 0, 691, 0], [0, 597, 669, 0, 594, 0, 0, 0, 603, 0, 0, 0, 0, 692, 0]]
/-- DioceseBook.told(II)I -/
def s1_b112 : List (Nat × AB) := [(0, [(.aload_n 0, 0, 0, 0), (.iload_n 1, 0, 0, 0), (.invokevirtual 131, 0, 148, 1), (.ifCond .ne 6, 0, 0, 0), (.ldc 111, -100001, 0, 0), (.ireturn, 0, 0, 0)]),
  (11, [(.iload_n 2, 0, 0, 0), (.tableswitch 142 0 7 #[48, 58, 68, 78, 88, 98, 108, 118], 0, 0, 0)]),
  (60, [(.aload_n 0, 0, 0, 0), (.getfield 19, 0, 11, 1), (.getfield 142, 0, 3, 0), (.iload_n 1, 0, 0, 0), (.iaload, 0, 0, 0), (.ireturn, 0, 0, 0)]),
  (70, [(.aload_n 0, 0, 0, 0), (.getfield 19, 0, 11, 1), (.getfield 145, 0, 3, 1), (.iload_n 1, 0, 0, 0), (.iaload, 0, 0, 0), (.ireturn, 0, 0, 0)]),
  (80, [(.aload_n 0, 0, 0, 0), (.getfield 19, 0, 11, 1), (.getfield 148, 0, 3, 2), (.iload_n 1, 0, 0, 0), (.iaload, 0, 0, 0), (.ireturn, 0, 0, 0)]),
  (90, [(.aload_n 0, 0, 0, 0), (.getfield 19, 0, 11, 1), (.getfield 151, 0, 3, 3), (.iload_n 1, 0, 0, 0), (.iaload, 0, 0, 0), (.ireturn, 0, 0, 0)]),
  (100, [(.aload_n 0, 0, 0, 0), (.getfield 19, 0, 11, 1), (.getfield 154, 0, 3, 4), (.iload_n 1, 0, 0, 0), (.iaload, 0, 0, 0), (.ireturn, 0, 0, 0)]),
  (110, [(.aload_n 0, 0, 0, 0), (.getfield 19, 0, 11, 1), (.getfield 157, 0, 3, 5), (.iload_n 1, 0, 0, 0), (.iaload, 0, 0, 0), (.ireturn, 0, 0, 0)]),
  (120, [(.aload_n 0, 0, 0, 0), (.getfield 19, 0, 11, 1), (.getfield 160, 0, 3, 6), (.iload_n 1, 0, 0, 0), (.iaload, 0, 0, 0), (.ireturn, 0, 0, 0)]),
  (130, [(.aload_n 0, 0, 0, 0), (.getfield 19, 0, 11, 1), (.aload_n 0, 0, 0, 0), (.getfield 87, 0, 11, 10), (.invokevirtual 163, 0, 31, 1), (.aload_n 0, 0, 0, 0), (.getfield 19, 0, 11, 1), (.getfield 167, 0, 3, 10), (.iload_n 1, 0, 0, 0), (.baload, 0, 0, 0), (.invokestatic 171, 0, 141, 1), (.ireturn, 0, 0, 0)]),
  (154, [(.ldc 86, -100002, 0, 0), (.ireturn, 0, 0, 0)])]
def s1_i112 : List (List Nat) := [[0, 0, 687, 0, 668, 0], [0, 0], [0, 594, 190, 0, 0, 0], [0, 594, 193, 0, 0, 0], [0, 594, 195, 0, 0, 0], [0, 594, 199, 0, 0, 0], [0, 594, 203, 0, 0, 0], [0, 594, 206, 0, 0, 0], [0, 594, 209, 0, 0, 0], [0, 594, 0, 603, 703, 0, 594, 216, 0, 0, 715, 0], [634, 0]]
/-- DioceseBook.book(II)I -/
def s1_b113 : List (Nat × AB) := [(0, [(.aload_n 0, 0, 0, 0), (.iload_n 1, 0, 0, 0), (.invokevirtual 175, 0, 145, 1), (.ifCond .ne 6, 0, 0, 0), (.ldc 86, -100002, 0, 0), (.ireturn, 0, 0, 0)]),
  (11, [(.aload_n 0, 0, 0, 0), (.getfield 19, 0, 11, 1), (.iload_n 1, 0, 0, 0), (.invokevirtual 163, 0, 31, 1), (.iload_n 2, 0, 0, 0), (.iconst 0, 0, 0, 0), (.aload_n 0, 0, 0, 0), (.getfield 19, 0, 11, 1), (.getfield 178, 0, 3, 12), (.iconst 1, 0, 0, 0), (.isub, 0, 0, 0), (.invokestatic 82, 0, 140, 3), (.ifCond .eq 15, 0, 0, 0), (.aload_n 0, 0, 0, 0), (.getfield 19, 0, 11, 1), (.getfield 181, 0, 3, 11), (.iload_n 2, 0, 0, 0), (.iaload, 0, 0, 0), (.goto 4, 0, 0, 0)]),
  (48, [(.iconst (-1), 0, 0, 0)]),
  (49, [(.ireturn, 0, 0, 0)])]
def s1_i113 : List (List Nat) := [[0, 0, 722, 0, 634, 0], [0, 594, 0, 703, 0, 0, 0, 594, 222, 0, 0, 631, 0, 0, 594, 219, 0, 0, 0], [0], [0]]
/-- DioceseBook.about(III)I -/
def s1_b114 : List (Nat × AB) := [(0, [(.aload_n 0, 0, 0, 0), (.iload_n 1, 0, 0, 0), (.invokevirtual 108, 0, 146, 1), (.ifCond .ne 6, 0, 0, 0), (.ldc 111, -100001, 0, 0), (.ireturn, 0, 0, 0)]),
  (11, [(.aload_n 0, 0, 0, 0), (.iload_n 2, 0, 0, 0), (.invokevirtual 175, 0, 145, 1), (.ifCond .eq 12, 0, 0, 0), (.iload_n 3, 0, 0, 0), (.iconst 0, 0, 0, 0), (.iconst 4, 0, 0, 0), (.invokestatic 82, 0, 140, 3), (.ifCond .ne 6, 0, 0, 0)]),
  (28, [(.ldc 86, -100002, 0, 0), (.ireturn, 0, 0, 0)]),
  (31, [(.aload_n 0, 0, 0, 0), (.getfield 19, 0, 11, 1), (.iload_n 2, 0, 0, 0), (.invokevirtual 163, 0, 31, 1), (.iload_n 3, 0, 0, 0), (.tableswitch 80 0 3 #[32, 44, 56, 68], 0, 0, 0)]),
  (72, [(.aload_n 0, 0, 0, 0), (.getfield 19, 0, 11, 1), (.getfield 184, 0, 3, 13), (.iconst 0, 0, 0, 0), (.aaload, 0, 0, 0), (.iload_n 1, 0, 0, 0), (.iaload, 0, 0, 0), (.ireturn, 0, 0, 0)]),
  (84, [(.aload_n 0, 0, 0, 0), (.getfield 19, 0, 11, 1), (.getfield 184, 0, 3, 13), (.iconst 1, 0, 0, 0), (.aaload, 0, 0, 0), (.iload_n 1, 0, 0, 0), (.iaload, 0, 0, 0), (.ireturn, 0, 0, 0)]),
  (96, [(.aload_n 0, 0, 0, 0), (.getfield 19, 0, 11, 1), (.getfield 184, 0, 3, 13), (.iconst 2, 0, 0, 0), (.aaload, 0, 0, 0), (.iload_n 1, 0, 0, 0), (.iaload, 0, 0, 0), (.ireturn, 0, 0, 0)]),
  (108, [(.aload_n 0, 0, 0, 0), (.getfield 19, 0, 11, 1), (.iload_n 1, 0, 0, 0), (.sipush 30000, 0, 0, 0), (.invokevirtual 188, 0, 35, 2), (.ireturn, 0, 0, 0)]),
  (120, [(.aload_n 0, 0, 0, 0), (.getfield 19, 0, 11, 1), (.iconst 5, 0, 0, 0), (.iload_n 1, 0, 0, 0), (.sipush 30000, 0, 0, 0), (.invokevirtual 192, 0, 33, 3), (.invokestatic 171, 0, 141, 1), (.ireturn, 0, 0, 0)])]
def s1_i114 : List (List Nat) := [[0, 0, 664, 0, 668, 0], [0, 0, 722, 0, 0, 0, 0, 631, 0], [634, 0], [0, 594, 0, 703, 0, 0], [0, 594, 224, 0, 0, 0, 0, 0], [0, 594, 224, 0, 0, 0, 0, 0], [0, 594, 224, 0, 0, 0, 0, 0], [0, 594, 0, 0, 730, 0], [0, 594, 0, 0, 0, 734, 715, 0]]
/-- DioceseBook.count(I)I -/
def s1_b115 : List (Nat × AB) := [(0, [(.iload_n 1, 0, 0, 0), (.tableswitch 195 0 10 #[59, 64, 72, 80, 88, 115, 123, 131, 139, 163, 187], 0, 0, 0)]),
  (60, [(.aload_n 0, 0, 0, 0), (.getfield 87, 0, 11, 10), (.ireturn, 0, 0, 0)]),
  (65, [(.aload_n 0, 0, 0, 0), (.getfield 10, 0, 11, 0), (.getfield 195, 0, 5, 4), (.ireturn, 0, 0, 0)]),
  (73, [(.aload_n 0, 0, 0, 0), (.getfield 10, 0, 11, 0), (.getfield 198, 0, 5, 5), (.ireturn, 0, 0, 0)]),
  (81, [(.aload_n 0, 0, 0, 0), (.getfield 19, 0, 11, 1), (.getfield 134, 0, 3, 7), (.ireturn, 0, 0, 0)]),
  (89, [(.aload_n 0, 0, 0, 0), (.getfield 19, 0, 11, 1), (.aload_n 0, 0, 0, 0), (.getfield 87, 0, 11, 10), (.invokevirtual 163, 0, 31, 1), (.aload_n 0, 0, 0, 0), (.getfield 19, 0, 11, 1), (.getfield 134, 0, 3, 7), (.aload_n 0, 0, 0, 0), (.getfield 19, 0, 11, 1), (.getfield 178, 0, 3, 12), (.isub, 0, 0, 0), (.ireturn, 0, 0, 0)]),
  (116, [(.aload_n 0, 0, 0, 0), (.getfield 26, 0, 11, 2), (.getfield 201, 0, 0, 0), (.ireturn, 0, 0, 0)]),
  (124, [(.aload_n 0, 0, 0, 0), (.getfield 51, 0, 11, 5), (.getfield 202, 0, 8, 4), (.ireturn, 0, 0, 0)]),
  (132, [(.aload_n 0, 0, 0, 0), (.getfield 65, 0, 11, 7), (.getfield 203, 0, 2, 5), (.ireturn, 0, 0, 0)]),
  (140, [(.aload_n 0, 0, 0, 0), (.getfield 44, 0, 11, 4), (.aload_n 0, 0, 0, 0), (.getfield 87, 0, 11, 10), (.aload_n 0, 0, 0, 0), (.getfield 87, 0, 11, 10), (.invokevirtual 204, 0, 69, 2), (.aload_n 0, 0, 0, 0), (.getfield 44, 0, 11, 4), (.iconst 0, 0, 0, 0), (.invokevirtual 210, 0, 78, 1), (.ireturn, 0, 0, 0)]),
  (164, [(.aload_n 0, 0, 0, 0), (.getfield 44, 0, 11, 4), (.aload_n 0, 0, 0, 0), (.getfield 87, 0, 11, 10), (.aload_n 0, 0, 0, 0), (.getfield 87, 0, 11, 10), (.invokevirtual 204, 0, 69, 2), (.aload_n 0, 0, 0, 0), (.getfield 44, 0, 11, 4), (.iconst 2, 0, 0, 0), (.invokevirtual 210, 0, 78, 1), (.ireturn, 0, 0, 0)]),
  (188, [(.aload_n 0, 0, 0, 0), (.getfield 35, 0, 11, 3), (.getfield 213, 0, 4, 2), (.ireturn, 0, 0, 0)]),
  (196, [(.ldc 86, -100002, 0, 0), (.ireturn, 0, 0, 0)])]
def s1_i115 : List (List Nat) := [[0, 0], [0, 603, 0], [0, 593, 160, 0], [0, 593, 165, 0], [0, 594, 212, 0], [0, 594, 0, 603, 703, 0, 594, 212, 0, 594, 222, 0, 0], [0, 595, 264, 0], [0, 598, 463, 0], [0, 600, 516, 0], [0, 597, 0, 603, 0, 603, 742, 0, 597, 0, 895, 0], [0, 597, 0, 603, 0, 603, 742, 0, 597, 0, 895, 0], [0, 596, 319, 0], [634, 0]]
/-- DioceseBook.feed(IJ)I -/
def s1_b116 : List (Nat × AB) := [(0, [(.iload_n 1, 0, 0, 0), (.iconst 1, 0, 0, 0), (.bipush 8, 0, 0, 0), (.invokestatic 82, 0, 140, 3), (.ifCond .ne 6, 0, 0, 0), (.ldc 86, -100002, 0, 0), (.ireturn, 0, 0, 0)]),
  (13, [(.aload_n 0, 0, 0, 0), (.getfield 35, 0, 11, 3), (.getfield 213, 0, 4, 2), (.iload_n 1, 0, 0, 0), (.iadd, 0, 0, 0), (.sipush 200, 0, 0, 0), (.if_icmp .le 6, 0, 0, 0), (.ldc 137, -100004, 0, 0), (.ireturn, 0, 0, 0)]),
  (31, [(.iload_n 1, 0, 0, 0), (.iconst 1, 0, 0, 0), (.isub, 0, 0, 0), (.istore 4, 0, 0, 0)]),
  (36, [(.iload 4, 0, 0, 0), (.ifCond .lt 28, 0, 0, 0), (.aload_n 0, 0, 0, 0), (.getfield 35, 0, 11, 3), (.lload_n 2, 0, 0, 0), (.bipush 8, 0, 0, 0), (.iload 4, 0, 0, 0), (.imul, 0, 0, 0), (.lushr, 0, 0, 0), (.l2i, 0, 0, 0), (.sipush 255, 0, 0, 0), (.iand, 0, 0, 0), (.invokevirtual 216, 0, 37, 1), (.iinc 4 (-1), 0, 0, 0), (.goto (-27), 0, 0, 0)]),
  (66, [(.aload_n 0, 0, 0, 0), (.getfield 35, 0, 11, 3), (.getfield 213, 0, 4, 2), (.ireturn, 0, 0, 0)])]
def s1_i116 : List (List Nat) := [[0, 0, 0, 631, 0, 634, 0], [0, 596, 319, 0, 0, 0, 0, 691, 0], [0, 0, 0, 0], [0, 0, 0, 596, 0, 0, 0, 0, 0, 0, 0, 0, 907, 0, 0], [0, 596, 319, 0]]
/-- DioceseBook.canon(I)I -/
def s1_b117 : List (Nat × AB) := [(0, [(.iload_n 1, 0, 0, 0), (.invokestatic 219, 0, 142, 1), (.ifCond .ne 6, 0, 0, 0), (.ldc 86, -100002, 0, 0), (.ireturn, 0, 0, 0)]),
  (10, [(.aload_n 0, 0, 0, 0), (.getfield 26, 0, 11, 2), (.getfield 201, 0, 0, 0), (.bipush 10, 0, 0, 0), (.if_icmp .lt 6, 0, 0, 0), (.ldc 137, -100004, 0, 0), (.ireturn, 0, 0, 0)]),
  (25, [(.aload_n 0, 0, 0, 0), (.getfield 35, 0, 11, 3), (.invokevirtual 222, 0, 38, 0), (.istore_n 2, 0, 0, 0), (.iload_n 2, 0, 0, 0), (.ifCond .eq 8, 0, 0, 0), (.bipush (-10), 0, 0, 0), (.iload_n 2, 0, 0, 0), (.isub, 0, 0, 0), (.ireturn, 0, 0, 0)]),
  (42, [(.aload_n 0, 0, 0, 0), (.getfield 44, 0, 11, 4), (.invokevirtual 116, 0, 68, 0), (.aload_n 0, 0, 0, 0), (.getfield 26, 0, 11, 2), (.iload_n 1, 0, 0, 0), (.invokevirtual 226, 0, 4, 1), (.ireturn, 0, 0, 0)])]
def s1_i117 : List (List Nat) := [[0, 915, 0, 634, 0], [0, 595, 264, 0, 0, 691, 0], [0, 596, 918, 0, 0, 0, 0, 0, 0, 0], [0, 597, 669, 0, 595, 0, 1073, 0]]
/-- DioceseBook.fault()I -/
def s1_b118 : List (Nat × AB) := [(0, [(.aload_n 0, 0, 0, 0), (.getfield 35, 0, 11, 3), (.getfield 229, 0, 4, 3), (.ireturn, 0, 0, 0)])]
def s1_i118 : List (List Nat) := [[0, 596, 321, 0]]
/-- DioceseBook.force(III)I -/
def s1_b119 : List (Nat × AB) := [(0, [(.iload_n 1, 0, 0, 0), (.iconst 0, 0, 0, 0), (.bipush 7, 0, 0, 0), (.invokestatic 82, 0, 140, 3), (.ifCond .eq 19, 0, 0, 0), (.iload_n 2, 0, 0, 0), (.invokestatic 219, 0, 142, 1), (.ifCond .eq 12, 0, 0, 0), (.iload_n 3, 0, 0, 0), (.iconst 0, 0, 0, 0), (.iconst 1, 0, 0, 0), (.invokestatic 82, 0, 140, 3), (.ifCond .ne 6, 0, 0, 0)]),
  (26, [(.ldc 86, -100002, 0, 0), (.ireturn, 0, 0, 0)]),
  (29, [(.aload_n 0, 0, 0, 0), (.getfield 26, 0, 11, 2), (.iload_n 2, 0, 0, 0), (.invokevirtual 232, 0, 7, 1), (.iload_n 3, 0, 0, 0), (.ifCond .ne 15, 0, 0, 0), (.aload_n 0, 0, 0, 0), (.getfield 26, 0, 11, 2), (.getfield 235, 0, 0, 12), (.iload_n 1, 0, 0, 0), (.iaload, 0, 0, 0), (.goto 12, 0, 0, 0)]),
  (53, [(.aload_n 0, 0, 0, 0), (.getfield 26, 0, 11, 2), (.getfield 238, 0, 0, 13), (.iload_n 1, 0, 0, 0), (.iaload, 0, 0, 0)]),
  (62, [(.ireturn, 0, 0, 0)])]
def s1_i119 : List (List Nat) := [[0, 0, 0, 631, 0, 0, 915, 0, 0, 0, 0, 631, 0], [634, 0], [0, 595, 0, 1086, 0, 0, 0, 595, 278, 0, 0, 0], [0, 595, 280, 0, 0], [0]]
/-- DioceseBook.counts(II)I -/
def s1_b120 : List (Nat × AB) := [(0, [(.iload_n 1, 0, 0, 0), (.iconst 0, 0, 0, 0), (.aload_n 0, 0, 0, 0), (.getfield 26, 0, 11, 2), (.getfield 201, 0, 0, 0), (.iconst 1, 0, 0, 0), (.isub, 0, 0, 0), (.invokestatic 82, 0, 140, 3), (.ifCond .ne 6, 0, 0, 0), (.ldc 111, -100001, 0, 0), (.ireturn, 0, 0, 0)]),
  (20, [(.iload_n 2, 0, 0, 0), (.invokestatic 219, 0, 142, 1), (.ifCond .ne 6, 0, 0, 0), (.ldc 86, -100002, 0, 0), (.ireturn, 0, 0, 0)]),
  (30, [(.aload_n 0, 0, 0, 0), (.getfield 26, 0, 11, 2), (.iload_n 2, 0, 0, 0), (.invokevirtual 232, 0, 7, 1), (.aload_n 0, 0, 0, 0), (.getfield 26, 0, 11, 2), (.iload_n 1, 0, 0, 0), (.invokevirtual 241, 0, 5, 1), (.ifCond .eq 15, 0, 0, 0), (.aload_n 0, 0, 0, 0), (.getfield 26, 0, 11, 2), (.getfield 244, 0, 0, 1), (.iload_n 1, 0, 0, 0), (.iaload, 0, 0, 0), (.goto 4, 0, 0, 0)]),
  (61, [(.iconst 0, 0, 0, 0)]),
  (62, [(.ireturn, 0, 0, 0)])]
def s1_i120 : List (List Nat) := [[0, 0, 0, 595, 264, 0, 0, 631, 0, 668, 0], [0, 915, 0, 634, 0], [0, 595, 0, 1086, 0, 595, 0, 1091, 0, 0, 595, 266, 0, 0, 0], [0], [0]]
/-- DioceseBook.barred(IIII)I -/
def s1_b121 : List (Nat × AB) := [(0, [(.aload_n 0, 0, 0, 0), (.iload_n 1, 0, 0, 0), (.invokevirtual 108, 0, 146, 1), (.ifCond .eq 11, 0, 0, 0), (.aload_n 0, 0, 0, 0), (.iload_n 2, 0, 0, 0), (.invokevirtual 104, 0, 147, 1), (.ifCond .ne 6, 0, 0, 0)]),
  (16, [(.ldc 111, -100001, 0, 0), (.ireturn, 0, 0, 0)]),
  (19, [(.iload_n 3, 0, 0, 0), (.invokestatic 219, 0, 142, 1), (.ifCond .eq 12, 0, 0, 0), (.aload_n 0, 0, 0, 0), (.iload 4, 0, 0, 0), (.invokevirtual 175, 0, 145, 1), (.ifCond .ne 6, 0, 0, 0)]),
  (35, [(.ldc 86, -100002, 0, 0), (.ireturn, 0, 0, 0)]),
  (38, [(.aload_n 0, 0, 0, 0), (.getfield 44, 0, 11, 4), (.iload 4, 0, 0, 0), (.iload_n 3, 0, 0, 0), (.invokevirtual 204, 0, 69, 2), (.aload_n 0, 0, 0, 0), (.getfield 44, 0, 11, 4), (.iload_n 1, 0, 0, 0), (.iload_n 2, 0, 0, 0), (.iload_n 3, 0, 0, 0), (.invokevirtual 247, 0, 82, 3), (.ireturn, 0, 0, 0)])]
def s1_i121 : List (List Nat) := [[0, 0, 664, 0, 0, 0, 660, 0], [668, 0], [0, 915, 0, 0, 0, 722, 0], [634, 0], [0, 597, 0, 0, 742, 0, 597, 0, 0, 0, 1096, 0]]
/-- DioceseBook.seat(IIII)I -/
def s1_b122 : List (Nat × AB) := [(0, [(.aload_n 0, 0, 0, 0), (.iload_n 1, 0, 0, 0), (.invokevirtual 104, 0, 147, 1), (.ifCond .ne 6, 0, 0, 0), (.ldc 111, -100001, 0, 0), (.ireturn, 0, 0, 0)]),
  (11, [(.iload_n 2, 0, 0, 0), (.invokestatic 219, 0, 142, 1), (.ifCond .eq 22, 0, 0, 0), (.aload_n 0, 0, 0, 0), (.iload_n 3, 0, 0, 0), (.invokevirtual 175, 0, 145, 1), (.ifCond .eq 14, 0, 0, 0), (.iload 4, 0, 0, 0), (.iconst 0, 0, 0, 0), (.bipush 7, 0, 0, 0), (.invokestatic 82, 0, 140, 3), (.ifCond .ne 6, 0, 0, 0)]),
  (37, [(.ldc 86, -100002, 0, 0), (.ireturn, 0, 0, 0)]),
  (40, [(.aload_n 0, 0, 0, 0), (.getfield 44, 0, 11, 4), (.iload_n 3, 0, 0, 0), (.iload_n 2, 0, 0, 0), (.invokevirtual 204, 0, 69, 2), (.iload 4, 0, 0, 0), (.tableswitch 116 0 6 #[41, 50, 59, 74, 84, 94, 104], 0, 0, 0)]),
  (92, [(.aload_n 0, 0, 0, 0), (.getfield 44, 0, 11, 4), (.iload_n 1, 0, 0, 0), (.invokevirtual 250, 0, 77, 1), (.ireturn, 0, 0, 0)]),
  (101, [(.aload_n 0, 0, 0, 0), (.getfield 44, 0, 11, 4), (.iload_n 1, 0, 0, 0), (.invokevirtual 253, 0, 79, 1), (.ireturn, 0, 0, 0)]),
  (110, [(.aload_n 0, 0, 0, 0), (.getfield 44, 0, 11, 4), (.getfield 256, 0, 7, 5), (.iload_n 1, 0, 0, 0), (.laload, 0, 0, 0), (.ldc2_w 259, 2147483647, 0, 0), (.land, 0, 0, 0), (.l2i, 0, 0, 0), (.ireturn, 0, 0, 0)]),
  (125, [(.aload_n 0, 0, 0, 0), (.getfield 44, 0, 11, 4), (.getfield 261, 0, 7, 7), (.iload_n 1, 0, 0, 0), (.iaload, 0, 0, 0), (.ireturn, 0, 0, 0)]),
  (135, [(.aload_n 0, 0, 0, 0), (.getfield 44, 0, 11, 4), (.getfield 264, 0, 7, 8), (.iload_n 1, 0, 0, 0), (.iaload, 0, 0, 0), (.ireturn, 0, 0, 0)]),
  (145, [(.aload_n 0, 0, 0, 0), (.getfield 44, 0, 11, 4), (.iload_n 1, 0, 0, 0), (.iload_n 2, 0, 0, 0), (.invokevirtual 267, 0, 80, 2), (.ireturn, 0, 0, 0)]),
  (155, [(.aload_n 0, 0, 0, 0), (.getfield 44, 0, 11, 4), (.getfield 270, 0, 7, 3), (.iload_n 1, 0, 0, 0), (.invokevirtual 274, 0, 62, 1), (.ireturn, 0, 0, 0)]),
  (167, [(.aload_n 0, 0, 0, 0), (.getfield 44, 0, 11, 4), (.getfield 270, 0, 7, 3), (.iload_n 1, 0, 0, 0), (.invokevirtual 279, 0, 63, 1), (.ireturn, 0, 0, 0)])]
def s1_i122 : List (List Nat) := [[0, 0, 660, 0, 668, 0], [0, 915, 0, 0, 0, 722, 0, 0, 0, 0, 631, 0], [634, 0], [0, 597, 0, 0, 742, 0, 0], [0, 597, 0, 1101, 0], [0, 597, 0, 1102, 0], [0, 597, 413, 0, 0, 1106, 0, 0, 0], [0, 597, 416, 0, 0, 0], [0, 597, 418, 0, 0, 0], [0, 597, 0, 0, 1107, 0], [0, 597, 409, 0, 1108, 0], [0, 597, 409, 0, 1109, 0]]
/-- DioceseBook.good(II)I -/
def s1_b123 : List (Nat × AB) := [(0, [(.aload_n 0, 0, 0, 0), (.iload_n 1, 0, 0, 0), (.iload_n 2, 0, 0, 0), (.invokevirtual 282, 0, 125, 2), (.istore_n 3, 0, 0, 0), (.iload_n 3, 0, 0, 0), (.ifCond .eq 5, 0, 0, 0), (.iload_n 3, 0, 0, 0), (.ireturn, 0, 0, 0)]),
  (13, [(.aload_n 0, 0, 0, 0), (.getfield 44, 0, 11, 4), (.iload_n 2, 0, 0, 0), (.sipush 30000, 0, 0, 0), (.invokevirtual 204, 0, 69, 2), (.aload_n 0, 0, 0, 0), (.getfield 44, 0, 11, 4), (.getfield 285, 0, 7, 9), (.iload_n 1, 0, 0, 0), (.iaload, 0, 0, 0), (.ifCond .ne 7, 0, 0, 0), (.iconst 1, 0, 0, 0), (.goto 4, 0, 0, 0)]),
  (40, [(.iconst 0, 0, 0, 0)]),
  (41, [(.invokestatic 171, 0, 141, 1), (.ireturn, 0, 0, 0)])]
def s1_i123 : List (List Nat) := [[0, 0, 0, 1117, 0, 0, 0, 0, 0], [0, 597, 0, 0, 742, 0, 597, 420, 0, 0, 0, 0, 0], [0], [715, 0]]
/-- DioceseBook.why(II)I -/
def s1_b124 : List (Nat × AB) := [(0, [(.aload_n 0, 0, 0, 0), (.iload_n 1, 0, 0, 0), (.iload_n 2, 0, 0, 0), (.invokevirtual 282, 0, 125, 2), (.istore_n 3, 0, 0, 0), (.iload_n 3, 0, 0, 0), (.ifCond .eq 5, 0, 0, 0), (.iload_n 3, 0, 0, 0), (.ireturn, 0, 0, 0)]),
  (13, [(.aload_n 0, 0, 0, 0), (.getfield 44, 0, 11, 4), (.iload_n 2, 0, 0, 0), (.sipush 30000, 0, 0, 0), (.invokevirtual 204, 0, 69, 2), (.aload_n 0, 0, 0, 0), (.getfield 44, 0, 11, 4), (.getfield 285, 0, 7, 9), (.iload_n 1, 0, 0, 0), (.iaload, 0, 0, 0), (.ireturn, 0, 0, 0)])]
def s1_i124 : List (List Nat) := [[0, 0, 0, 1117, 0, 0, 0, 0, 0], [0, 597, 0, 0, 742, 0, 597, 420, 0, 0, 0]]
/-- DioceseBook.refusalOfIn(II)I -/
def s1_b125 : List (Nat × AB) := [(0, [(.aload_n 0, 0, 0, 0), (.iload_n 1, 0, 0, 0), (.invokevirtual 131, 0, 148, 1), (.ifCond .ne 6, 0, 0, 0), (.ldc 111, -100001, 0, 0), (.ireturn, 0, 0, 0)]),
  (11, [(.aload_n 0, 0, 0, 0), (.iload_n 2, 0, 0, 0), (.invokevirtual 175, 0, 145, 1), (.ifCond .ne 6, 0, 0, 0), (.ldc 86, -100002, 0, 0), (.ireturn, 0, 0, 0)]),
  (22, [(.aload_n 0, 0, 0, 0), (.getfield 19, 0, 11, 1), (.iload_n 2, 0, 0, 0), (.invokevirtual 163, 0, 31, 1), (.aload_n 0, 0, 0, 0), (.getfield 19, 0, 11, 1), (.getfield 142, 0, 3, 0), (.iload_n 1, 0, 0, 0), (.iaload, 0, 0, 0), (.iconst 3, 0, 0, 0), (.if_icmp .ne 18, 0, 0, 0), (.aload_n 0, 0, 0, 0), (.getfield 19, 0, 11, 1), (.iload_n 1, 0, 0, 0), (.invokevirtual 288, 0, 34, 1), (.ifCond .eq 7, 0, 0, 0), (.iconst 0, 0, 0, 0), (.goto 5, 0, 0, 0)]),
  (58, [(.ldc 91, -100003, 0, 0)]),
  (60, [(.ireturn, 0, 0, 0)])]
def s1_i125 : List (List Nat) := [[0, 0, 687, 0, 668, 0], [0, 0, 722, 0, 634, 0], [0, 594, 0, 703, 0, 594, 190, 0, 0, 0, 0, 0, 594, 0, 1121, 0, 0, 0], [635], [0]]
/-- DioceseBook.change(IIII)I -/
def s1_b126 : List (Nat × AB) := [(0, [(.aload_n 0, 0, 0, 0), (.iload_n 1, 0, 0, 0), (.invokevirtual 104, 0, 147, 1), (.ifCond .ne 6, 0, 0, 0), (.ldc 111, -100001, 0, 0), (.ireturn, 0, 0, 0)]),
  (11, [(.aload_n 0, 0, 0, 0), (.iload_n 2, 0, 0, 0), (.invokevirtual 175, 0, 145, 1), (.ifCond .eq 13, 0, 0, 0), (.iload 4, 0, 0, 0), (.iconst 0, 0, 0, 0), (.iconst 2, 0, 0, 0), (.invokestatic 82, 0, 140, 3), (.ifCond .ne 6, 0, 0, 0)]),
  (29, [(.ldc 86, -100002, 0, 0), (.ireturn, 0, 0, 0)]),
  (32, [(.aload_n 0, 0, 0, 0), (.getfield 44, 0, 11, 4), (.iload_n 2, 0, 0, 0), (.sipush 30000, 0, 0, 0), (.invokevirtual 204, 0, 69, 2), (.aload_n 0, 0, 0, 0), (.getfield 44, 0, 11, 4), (.getfield 291, 0, 7, 4), (.iload_n 1, 0, 0, 0), (.iload_n 3, 0, 0, 0), (.invokevirtual 295, 0, 16, 2), (.istore 5, 0, 0, 0), (.iload 5, 0, 0, 0), (.iconst (-1), 0, 0, 0), (.if_icmp .ne 5, 0, 0, 0), (.iconst (-1), 0, 0, 0), (.ireturn, 0, 0, 0)]),
  (65, [(.iload 4, 0, 0, 0), (.lookupswitch 53 #[(0, 25), (1, 39)], 0, 0, 0)]),
  (92, [(.aload_n 0, 0, 0, 0), (.getfield 44, 0, 11, 4), (.getfield 291, 0, 7, 4), (.getfield 298, 0, 1, 0), (.iload 5, 0, 0, 0), (.iaload, 0, 0, 0), (.ireturn, 0, 0, 0)]),
  (106, [(.aload_n 0, 0, 0, 0), (.getfield 44, 0, 11, 4), (.getfield 291, 0, 7, 4), (.getfield 299, 0, 1, 2), (.iload 5, 0, 0, 0), (.iaload, 0, 0, 0), (.ireturn, 0, 0, 0)]),
  (120, [(.aload_n 0, 0, 0, 0), (.getfield 44, 0, 11, 4), (.getfield 291, 0, 7, 4), (.getfield 302, 0, 1, 1), (.iload 5, 0, 0, 0), (.iaload, 0, 0, 0), (.ireturn, 0, 0, 0)])]
def s1_i126 : List (List Nat) := [[0, 0, 660, 0, 668, 0], [0, 0, 722, 0, 0, 0, 0, 631, 0], [634, 0], [0, 597, 0, 0, 742, 0, 597, 411, 0, 0, 1130, 0, 0, 0, 0, 0, 0], [0, 0], [0, 597, 411, 381, 0, 0, 0], [0, 597, 411, 385, 0, 0, 0], [0, 597, 411, 383, 0, 0, 0]]
/-- DioceseBook.days(IIIII)I -/
def s1_b127 : List (Nat × AB) := [(0, [(.aload_n 0, 0, 0, 0), (.iload_n 1, 0, 0, 0), (.invokevirtual 104, 0, 147, 1), (.ifCond .ne 6, 0, 0, 0), (.ldc 111, -100001, 0, 0), (.ireturn, 0, 0, 0)]),
  (11, [(.iload_n 2, 0, 0, 0), (.invokestatic 219, 0, 142, 1), (.ifCond .eq 42, 0, 0, 0), (.iload_n 3, 0, 0, 0), (.invokestatic 219, 0, 142, 1), (.ifCond .eq 35, 0, 0, 0), (.iload_n 3, 0, 0, 0), (.iload_n 2, 0, 0, 0), (.isub, 0, 0, 0), (.iconst 0, 0, 0, 0), (.sipush 5000, 0, 0, 0), (.invokestatic 82, 0, 140, 3), (.ifCond .eq 22, 0, 0, 0), (.aload_n 0, 0, 0, 0), (.iload 4, 0, 0, 0), (.invokevirtual 175, 0, 145, 1), (.ifCond .eq 13, 0, 0, 0), (.iload 5, 0, 0, 0), (.iconst 0, 0, 0, 0), (.iconst 2, 0, 0, 0), (.invokestatic 82, 0, 140, 3), (.ifCond .ne 6, 0, 0, 0)]),
  (57, [(.ldc 86, -100002, 0, 0), (.ireturn, 0, 0, 0)]),
  (60, [(.aload_n 0, 0, 0, 0), (.getfield 44, 0, 11, 4), (.iload 4, 0, 0, 0), (.sipush 30000, 0, 0, 0), (.invokevirtual 204, 0, 69, 2), (.aload_n 0, 0, 0, 0), (.getfield 44, 0, 11, 4), (.getfield 291, 0, 7, 4), (.iload_n 1, 0, 0, 0), (.iload_n 2, 0, 0, 0), (.iload_n 3, 0, 0, 0), (.iload 5, 0, 0, 0), (.invokevirtual 305, 0, 18, 4), (.ireturn, 0, 0, 0)])]
def s1_i127 : List (List Nat) := [[0, 0, 660, 0, 668, 0], [0, 915, 0, 0, 915, 0, 0, 0, 0, 0, 0, 631, 0, 0, 0, 722, 0, 0, 0, 0, 631, 0], [634, 0], [0, 597, 0, 0, 742, 0, 597, 411, 0, 0, 0, 0, 1138, 0]]
/-- DioceseBook.news(III)I -/
def s1_b128 : List (Nat × AB) := [(0, [(.iload_n 1, 0, 0, 0), (.invokestatic 219, 0, 142, 1), (.ifCond .eq 19, 0, 0, 0), (.aload_n 0, 0, 0, 0), (.iload_n 2, 0, 0, 0), (.invokevirtual 175, 0, 145, 1), (.ifCond .eq 11, 0, 0, 0), (.aload_n 0, 0, 0, 0), (.iload_n 3, 0, 0, 0), (.invokevirtual 175, 0, 145, 1), (.ifCond .ne 6, 0, 0, 0)]),
  (23, [(.ldc 86, -100002, 0, 0), (.ireturn, 0, 0, 0)]),
  (26, [(.aload_n 0, 0, 0, 0), (.getfield 44, 0, 11, 4), (.iload_n 2, 0, 0, 0), (.iload_n 1, 0, 0, 0), (.invokevirtual 204, 0, 69, 2), (.iconst 0, 0, 0, 0), (.istore 4, 0, 0, 0)]),
  (38, [(.iload 4, 0, 0, 0), (.aload_n 0, 0, 0, 0), (.getfield 10, 0, 11, 0), (.getfield 198, 0, 5, 5), (.if_icmp .ge 26, 0, 0, 0), (.aload_n 0, 0, 0, 0), (.getfield 78, 0, 11, 9), (.iload 4, 0, 0, 0), (.aload_n 0, 0, 0, 0), (.getfield 44, 0, 11, 4), (.getfield 256, 0, 7, 5), (.iload 4, 0, 0, 0), (.laload, 0, 0, 0), (.lastore, 0, 0, 0), (.iinc 4 1, 0, 0, 0), (.goto (-32), 0, 0, 0)]),
  (73, [(.aload_n 0, 0, 0, 0), (.getfield 44, 0, 11, 4), (.iload_n 3, 0, 0, 0), (.iload_n 1, 0, 0, 0), (.invokevirtual 204, 0, 69, 2), (.iconst 0, 0, 0, 0), (.istore 4, 0, 0, 0), (.iconst 0, 0, 0, 0), (.istore 5, 0, 0, 0)]),
  (88, [(.iload 5, 0, 0, 0), (.aload_n 0, 0, 0, 0), (.getfield 10, 0, 11, 0), (.getfield 198, 0, 5, 5), (.if_icmp .ge 33, 0, 0, 0), (.aload_n 0, 0, 0, 0), (.getfield 78, 0, 11, 9), (.iload 5, 0, 0, 0), (.laload, 0, 0, 0), (.aload_n 0, 0, 0, 0), (.getfield 44, 0, 11, 4), (.getfield 256, 0, 7, 5), (.iload 5, 0, 0, 0), (.laload, 0, 0, 0), (.lcmp, 0, 0, 0), (.ifCond .eq 6, 0, 0, 0), (.iinc 4 1, 0, 0, 0)]),
  (124, [(.iinc 5 1, 0, 0, 0), (.goto (-39), 0, 0, 0)]),
  (130, [(.iload 4, 0, 0, 0), (.ireturn, 0, 0, 0)])]
def s1_i128 : List (List Nat) := [[0, 915, 0, 0, 0, 722, 0, 0, 0, 722, 0], [634, 0], [0, 597, 0, 0, 742, 0, 0], [0, 0, 593, 165, 0, 0, 602, 0, 0, 597, 413, 0, 0, 0, 0, 0], [0, 597, 0, 0, 742, 0, 0, 0, 0], [0, 0, 593, 165, 0, 0, 602, 0, 0, 0, 597, 413, 0, 0, 0, 0, 0], [0, 0], [0, 0]]
/-- DioceseBook.present(III)I -/
def s1_b129 : List (Nat × AB) := [(0, [(.aload_n 0, 0, 0, 0), (.iload_n 1, 0, 0, 0), (.invokevirtual 108, 0, 146, 1), (.ifCond .eq 11, 0, 0, 0), (.aload_n 0, 0, 0, 0), (.iload_n 2, 0, 0, 0), (.invokevirtual 104, 0, 147, 1), (.ifCond .ne 6, 0, 0, 0)]),
  (16, [(.ldc 111, -100001, 0, 0), (.ireturn, 0, 0, 0)]),
  (19, [(.iload_n 3, 0, 0, 0), (.iconst 0, 0, 0, 0), (.aload_n 0, 0, 0, 0), (.getfield 87, 0, 11, 10), (.invokestatic 82, 0, 140, 3), (.ifCond .ne 6, 0, 0, 0), (.ldc 86, -100002, 0, 0), (.ireturn, 0, 0, 0)]),
  (34, [(.aload_n 0, 0, 0, 0), (.getfield 51, 0, 11, 5), (.iload_n 3, 0, 0, 0), (.invokevirtual 309, 0, 85, 1), (.ireturn, 0, 0, 0)])]
def s1_i129 : List (List Nat) := [[0, 0, 664, 0, 0, 0, 660, 0], [668, 0], [0, 0, 0, 603, 631, 0, 634, 0], [0, 598, 0, 1155, 0]]
/-- DioceseBook.step(II)I -/
def s1_b130 : List (Nat × AB) := [(0, [(.aload_n 0, 0, 0, 0), (.iload_n 1, 0, 0, 0), (.invokevirtual 311, 0, 149, 1), (.ifCond .ne 6, 0, 0, 0), (.ldc 111, -100001, 0, 0), (.ireturn, 0, 0, 0)]),
  (11, [(.iload_n 2, 0, 0, 0), (.aload_n 0, 0, 0, 0), (.getfield 51, 0, 11, 5), (.iload_n 1, 0, 0, 0), (.sipush 30000, 0, 0, 0), (.invokevirtual 314, 0, 89, 2), (.aload_n 0, 0, 0, 0), (.getfield 87, 0, 11, 10), (.invokestatic 82, 0, 140, 3), (.ifCond .ne 6, 0, 0, 0), (.ldc 86, -100002, 0, 0), (.ireturn, 0, 0, 0)]),
  (36, [(.aload_n 0, 0, 0, 0), (.getfield 51, 0, 11, 5), (.iload_n 1, 0, 0, 0), (.iload_n 2, 0, 0, 0), (.invokevirtual 317, 0, 86, 2), (.ireturn, 0, 0, 0)])]
def s1_i130 : List (List Nat) := [[0, 0, 1164, 0, 668, 0], [0, 0, 598, 0, 0, 1168, 0, 603, 631, 0, 634, 0], [0, 598, 0, 0, 1176, 0]]
/-- DioceseBook.appeal(II)I -/
def s1_b131 : List (Nat × AB) := [(0, [(.aload_n 0, 0, 0, 0), (.iload_n 1, 0, 0, 0), (.invokevirtual 311, 0, 149, 1), (.ifCond .ne 6, 0, 0, 0), (.ldc 111, -100001, 0, 0), (.ireturn, 0, 0, 0)]),
  (11, [(.iload_n 2, 0, 0, 0), (.iconst 1, 0, 0, 0), (.iconst 5, 0, 0, 0), (.invokestatic 82, 0, 140, 3), (.ifCond .ne 6, 0, 0, 0), (.ldc 86, -100002, 0, 0), (.ireturn, 0, 0, 0)]),
  (23, [(.aload_n 0, 0, 0, 0), (.getfield 51, 0, 11, 5), (.iload_n 1, 0, 0, 0), (.iload_n 2, 0, 0, 0), (.invokevirtual 320, 0, 87, 2), (.ireturn, 0, 0, 0)])]
def s1_i131 : List (List Nat) := [[0, 0, 1164, 0, 668, 0], [0, 0, 0, 631, 0, 634, 0], [0, 598, 0, 0, 1185, 0]]
/-- DioceseBook.suit(III)I -/
def s1_b132 : List (Nat × AB) := [(0, [(.aload_n 0, 0, 0, 0), (.iload_n 1, 0, 0, 0), (.invokevirtual 311, 0, 149, 1), (.ifCond .ne 6, 0, 0, 0), (.ldc 111, -100001, 0, 0), (.ireturn, 0, 0, 0)]),
  (11, [(.iload_n 2, 0, 0, 0), (.invokestatic 219, 0, 142, 1), (.ifCond .ne 6, 0, 0, 0), (.ldc 86, -100002, 0, 0), (.ireturn, 0, 0, 0)]),
  (21, [(.iload_n 3, 0, 0, 0), (.tableswitch 72 0 3 #[30, 40, 50, 63], 0, 0, 0)]),
  (52, [(.aload_n 0, 0, 0, 0), (.getfield 51, 0, 11, 5), (.iload_n 1, 0, 0, 0), (.iload_n 2, 0, 0, 0), (.invokevirtual 323, 0, 88, 2), (.ireturn, 0, 0, 0)]),
  (62, [(.aload_n 0, 0, 0, 0), (.getfield 51, 0, 11, 5), (.iload_n 1, 0, 0, 0), (.iload_n 2, 0, 0, 0), (.invokevirtual 314, 0, 89, 2), (.ireturn, 0, 0, 0)]),
  (72, [(.aload_n 0, 0, 0, 0), (.getfield 51, 0, 11, 5), (.iload_n 1, 0, 0, 0), (.iload_n 2, 0, 0, 0), (.invokevirtual 326, 0, 90, 2), (.invokestatic 171, 0, 141, 1), (.ireturn, 0, 0, 0)]),
  (85, [(.aload_n 0, 0, 0, 0), (.getfield 51, 0, 11, 5), (.iload_n 1, 0, 0, 0), (.invokevirtual 329, 0, 91, 1), (.ireturn, 0, 0, 0)]),
  (94, [(.ldc 86, -100002, 0, 0), (.ireturn, 0, 0, 0)])]
def s1_i132 : List (List Nat) := [[0, 0, 1164, 0, 668, 0], [0, 915, 0, 634, 0], [0, 0], [0, 598, 0, 0, 1193, 0], [0, 598, 0, 0, 1168, 0], [0, 598, 0, 0, 1194, 715, 0], [0, 598, 0, 1200, 0], [634, 0]]
/-- DioceseBook.decay(IIII)I -/
def s1_b133 : List (Nat × AB) := [(0, [(.aload_n 0, 0, 0, 0), (.iload_n 1, 0, 0, 0), (.invokevirtual 108, 0, 146, 1), (.ifCond .eq 11, 0, 0, 0), (.aload_n 0, 0, 0, 0), (.iload_n 2, 0, 0, 0), (.invokevirtual 104, 0, 147, 1), (.ifCond .ne 6, 0, 0, 0)]),
  (16, [(.ldc 111, -100001, 0, 0), (.ireturn, 0, 0, 0)]),
  (19, [(.aload_n 0, 0, 0, 0), (.iload_n 3, 0, 0, 0), (.invokevirtual 175, 0, 145, 1), (.ifCond .eq 13, 0, 0, 0), (.iload 4, 0, 0, 0), (.iconst 0, 0, 0, 0), (.iconst 3, 0, 0, 0), (.invokestatic 82, 0, 140, 3), (.ifCond .ne 6, 0, 0, 0)]),
  (37, [(.ldc 86, -100002, 0, 0), (.ireturn, 0, 0, 0)]),
  (40, [(.aload_n 0, 0, 0, 0), (.getfield 44, 0, 11, 4), (.iload_n 3, 0, 0, 0), (.sipush 30000, 0, 0, 0), (.invokevirtual 204, 0, 69, 2), (.iload 4, 0, 0, 0), (.ifCond .ne 16, 0, 0, 0), (.aload_n 0, 0, 0, 0), (.getfield 44, 0, 11, 4), (.getfield 291, 0, 7, 4), (.iload_n 1, 0, 0, 0), (.iload_n 2, 0, 0, 0), (.invokevirtual 332, 0, 17, 2), (.ireturn, 0, 0, 0)]),
  (69, [(.aload_n 0, 0, 0, 0), (.getfield 10, 0, 11, 0), (.getfield 119, 0, 5, 0), (.iload_n 1, 0, 0, 0), (.iaload, 0, 0, 0), (.istore 5, 0, 0, 0), (.iconst 0, 0, 0, 0), (.istore 6, 0, 0, 0)]),
  (83, [(.iload 6, 0, 0, 0), (.iload_n 2, 0, 0, 0), (.if_icmp .ge 29, 0, 0, 0), (.iload 5, 0, 0, 0), (.iload 5, 0, 0, 0), (.aload_n 0, 0, 0, 0), (.getfield 44, 0, 11, 4), (.iload_n 1, 0, 0, 0), (.iload 6, 0, 0, 0), (.invokevirtual 335, 0, 83, 2), (.invokestatic 338, 0, 155, 2), (.isub, 0, 0, 0), (.istore 5, 0, 0, 0), (.iinc 6 1, 0, 0, 0), (.goto (-29), 0, 0, 0)]),
  (115, [(.aload_n 0, 0, 0, 0), (.getfield 44, 0, 11, 4), (.iload_n 1, 0, 0, 0), (.iload_n 2, 0, 0, 0), (.invokevirtual 335, 0, 83, 2), (.istore 6, 0, 0, 0), (.iload 5, 0, 0, 0), (.iload 6, 0, 0, 0), (.invokestatic 338, 0, 155, 2), (.istore 7, 0, 0, 0), (.iload 4, 0, 0, 0), (.lookupswitch 33 #[(1, 27), (2, 30)], 0, 0, 0)]),
  (164, [(.iload 6, 0, 0, 0), (.ireturn, 0, 0, 0)]),
  (167, [(.iload 7, 0, 0, 0), (.ireturn, 0, 0, 0)]),
  (170, [(.iload 6, 0, 0, 0), (.iload 7, 0, 0, 0), (.isub, 0, 0, 0), (.ireturn, 0, 0, 0)])]
def s1_i133 : List (List Nat) := [[0, 0, 664, 0, 0, 0, 660, 0], [668, 0], [0, 0, 722, 0, 0, 0, 0, 631, 0], [634, 0], [0, 597, 0, 0, 742, 0, 0, 0, 597, 411, 0, 0, 1208, 0], [0, 593, 153, 0, 0, 0, 0, 0], [0, 0, 0, 0, 0, 0, 597, 0, 0, 1212, 1221, 0, 0, 0, 0], [0, 597, 0, 0, 1212, 0, 0, 0, 1221, 0, 0, 0], [0, 0], [0, 0], [0, 0, 0, 0]]
/-- DioceseBook.field(IIIII)I -/
def s1_b134 : List (Nat × AB) := [(0, [(.aload_n 0, 0, 0, 0), (.iload_n 1, 0, 0, 0), (.invokevirtual 104, 0, 147, 1), (.ifCond .ne 6, 0, 0, 0), (.ldc 111, -100001, 0, 0), (.ireturn, 0, 0, 0)]),
  (11, [(.iload_n 2, 0, 0, 0), (.iconst 0, 0, 0, 0), (.iconst 1, 0, 0, 0), (.invokestatic 82, 0, 140, 3), (.ifCond .eq 30, 0, 0, 0), (.iload_n 3, 0, 0, 0), (.invokestatic 343, 0, 143, 1), (.ifCond .eq 23, 0, 0, 0), (.iload 4, 0, 0, 0), (.iconst 1, 0, 0, 0), (.sipush 999, 0, 0, 0), (.invokestatic 82, 0, 140, 3), (.ifCond .eq 11, 0, 0, 0), (.iload 5, 0, 0, 0), (.invokestatic 343, 0, 143, 1), (.ifCond .ne 6, 0, 0, 0)]),
  (47, [(.ldc 86, -100002, 0, 0), (.ireturn, 0, 0, 0)]),
  (50, [(.aload_n 0, 0, 0, 0), (.getfield 58, 0, 11, 6), (.iconst 2, 0, 0, 0), (.iload_n 1, 0, 0, 0), (.imul, 0, 0, 0), (.iload_n 2, 0, 0, 0), (.iadd, 0, 0, 0), (.iload_n 3, 0, 0, 0), (.iload 4, 0, 0, 0), (.iload 5, 0, 0, 0), (.invokevirtual 346, 0, 92, 4), (.ireturn, 0, 0, 0)])]
def s1_i134 : List (List Nat) := [[0, 0, 660, 0, 668, 0], [0, 0, 0, 631, 0, 0, 1226, 0, 0, 0, 0, 631, 0, 0, 1226, 0], [634, 0], [0, 599, 0, 0, 0, 0, 0, 0, 0, 0, 1229, 0]]
/-- DioceseBook.match(II)I -/
def s1_b135 : List (Nat × AB) := [(0, [(.aload_n 0, 0, 0, 0), (.iload_n 1, 0, 0, 0), (.invokevirtual 104, 0, 147, 1), (.ifCond .ne 6, 0, 0, 0), (.ldc 111, -100001, 0, 0), (.ireturn, 0, 0, 0)]),
  (11, [(.aload_n 0, 0, 0, 0), (.getfield 58, 0, 11, 6), (.iload_n 1, 0, 0, 0), (.invokevirtual 348, 0, 95, 1), (.iload_n 2, 0, 0, 0), (.iconst (-1), 0, 0, 0), (.if_icmp .ne 13, 0, 0, 0), (.aload_n 0, 0, 0, 0), (.getfield 58, 0, 11, 6), (.invokevirtual 351, 0, 93, 0), (.goto 12, 0, 0, 0)]),
  (34, [(.aload_n 0, 0, 0, 0), (.getfield 58, 0, 11, 6), (.iload_n 1, 0, 0, 0), (.iload_n 2, 0, 0, 0), (.invokevirtual 354, 0, 94, 2)]),
  (43, [(.ireturn, 0, 0, 0)])]
def s1_i135 : List (List Nat) := [[0, 0, 660, 0, 668, 0], [0, 599, 0, 1238, 0, 0, 0, 0, 599, 1270, 0], [0, 599, 0, 0, 1274], [0]]
/-- DioceseBook.piece(IIIII)I -/
def s1_b136 : List (Nat × AB) := [(0, [(.iload_n 1, 0, 0, 0), (.invokestatic 343, 0, 143, 1), (.ifCond .eq 34, 0, 0, 0), (.iload_n 2, 0, 0, 0), (.iload_n 3, 0, 0, 0), (.invokestatic 96, 0, 144, 2), (.ifCond .eq 26, 0, 0, 0), (.iload 4, 0, 0, 0), (.invokestatic 219, 0, 142, 1), (.ifCond .eq 18, 0, 0, 0), (.iload 5, 0, 0, 0), (.invokestatic 219, 0, 142, 1), (.ifCond .eq 10, 0, 0, 0), (.iload 5, 0, 0, 0), (.iload 4, 0, 0, 0), (.if_icmp .ge 6, 0, 0, 0)]),
  (38, [(.ldc 86, -100002, 0, 0), (.ireturn, 0, 0, 0)]),
  (41, [(.aload_n 0, 0, 0, 0), (.getfield 65, 0, 11, 7), (.iload_n 1, 0, 0, 0), (.iload_n 2, 0, 0, 0), (.iload_n 3, 0, 0, 0), (.iload 4, 0, 0, 0), (.iload 5, 0, 0, 0), (.invokevirtual 357, 0, 20, 5), (.ireturn, 0, 0, 0)])]
def s1_i136 : List (List Nat) := [[0, 1226, 0, 0, 0, 649, 0, 0, 915, 0, 0, 915, 0, 0, 0, 0], [634, 0], [0, 600, 0, 0, 0, 0, 0, 1283, 0]]
/-- DioceseBook.one(II)I -/
def s1_b137 : List (Nat × AB) := [(0, [(.aload_n 0, 0, 0, 0), (.iload_n 1, 0, 0, 0), (.invokevirtual 360, 0, 150, 1), (.ifCond .eq 11, 0, 0, 0), (.aload_n 0, 0, 0, 0), (.iload_n 2, 0, 0, 0), (.invokevirtual 360, 0, 150, 1), (.ifCond .ne 6, 0, 0, 0)]),
  (16, [(.ldc 111, -100001, 0, 0), (.ireturn, 0, 0, 0)]),
  (19, [(.aload_n 0, 0, 0, 0), (.getfield 65, 0, 11, 7), (.iload_n 1, 0, 0, 0), (.iload_n 2, 0, 0, 0), (.invokevirtual 363, 0, 22, 2), (.ifCond .ne 15, 0, 0, 0), (.aload_n 0, 0, 0, 0), (.getfield 65, 0, 11, 7), (.iload_n 2, 0, 0, 0), (.iload_n 1, 0, 0, 0), (.invokevirtual 363, 0, 22, 2), (.ifCond .eq 7, 0, 0, 0)]),
  (43, [(.iconst 1, 0, 0, 0), (.goto 4, 0, 0, 0)]),
  (47, [(.iconst 0, 0, 0, 0)]),
  (48, [(.invokestatic 171, 0, 141, 1), (.ireturn, 0, 0, 0)])]
def s1_i137 : List (List Nat) := [[0, 0, 1292, 0, 0, 0, 1292, 0], [668, 0], [0, 600, 0, 0, 1296, 0, 0, 600, 0, 0, 1296, 0], [0, 0], [0], [715, 0]]
/-- DioceseBook.lives(I)I -/
def s1_b138 : List (Nat × AB) := [(0, [(.iload_n 1, 0, 0, 0), (.iconst (-1), 0, 0, 0), (.if_icmp .eq 14, 0, 0, 0), (.aload_n 0, 0, 0, 0), (.iload_n 1, 0, 0, 0), (.invokevirtual 360, 0, 150, 1), (.ifCond .ne 6, 0, 0, 0), (.ldc 111, -100001, 0, 0), (.ireturn, 0, 0, 0)]),
  (16, [(.aload_n 0, 0, 0, 0), (.getfield 65, 0, 11, 7), (.invokevirtual 366, 0, 23, 0), (.iload_n 1, 0, 0, 0), (.iconst (-1), 0, 0, 0), (.if_icmp .ne 13, 0, 0, 0), (.aload_n 0, 0, 0, 0), (.getfield 65, 0, 11, 7), (.getfield 369, 0, 2, 6), (.goto 12, 0, 0, 0)]),
  (38, [(.aload_n 0, 0, 0, 0), (.getfield 65, 0, 11, 7), (.getfield 372, 0, 2, 7), (.iload_n 1, 0, 0, 0), (.iaload, 0, 0, 0)]),
  (47, [(.ireturn, 0, 0, 0)])]
def s1_i138 : List (List Nat) := [[0, 0, 0, 0, 0, 1292, 0, 668, 0], [0, 600, 1309, 0, 0, 0, 0, 600, 518, 0], [0, 600, 520, 0, 0], [0]]
/-- DioceseBook.plan(III)I -/
def s1_b139 : List (Nat × AB) := [(0, [(.iload_n 1, 0, 0, 0), (.aload_n 0, 0, 0, 0), (.getfield 10, 0, 11, 0), (.getfield 198, 0, 5, 5), (.iushr, 0, 0, 0), (.ifCond .eq 6, 0, 0, 0), (.ldc 111, -100001, 0, 0), (.ireturn, 0, 0, 0)]),
  (15, [(.iload_n 1, 0, 0, 0), (.invokestatic 375, 0, 151, 1), (.iconst 1, 0, 0, 0), (.bipush 8, 0, 0, 0), (.invokestatic 82, 0, 140, 3), (.ifCond .eq 20, 0, 0, 0), (.iload_n 2, 0, 0, 0), (.iconst 1, 0, 0, 0), (.sipush 999, 0, 0, 0), (.invokestatic 82, 0, 140, 3), (.ifCond .eq 9, 0, 0, 0), (.iload_n 3, 0, 0, 0), (.bipush (-2), 0, 0, 0), (.if_icmp .ge 6, 0, 0, 0)]),
  (45, [(.ldc 86, -100002, 0, 0), (.ireturn, 0, 0, 0)]),
  (48, [(.aload_n 0, 0, 0, 0), (.getfield 74, 0, 11, 8), (.iload_n 1, 0, 0, 0), (.iload_n 2, 0, 0, 0), (.invokevirtual 380, 0, 101, 2), (.ifCond .ne 6, 0, 0, 0), (.ldc 91, -100003, 0, 0), (.ireturn, 0, 0, 0)]),
  (63, [(.iload_n 3, 0, 0, 0), (.iconst (-1), 0, 0, 0), (.if_icmp .ne 11, 0, 0, 0), (.aload_n 0, 0, 0, 0), (.getfield 74, 0, 11, 8), (.getfield 383, 0, 10, 9), (.ireturn, 0, 0, 0)]),
  (76, [(.iload_n 3, 0, 0, 0), (.bipush (-2), 0, 0, 0), (.if_icmp .ne 13, 0, 0, 0), (.aload_n 0, 0, 0, 0), (.getfield 74, 0, 11, 8), (.getfield 386, 0, 10, 10), (.goto 11, 0, 0, 0)]),
  (92, [(.aload_n 0, 0, 0, 0), (.getfield 74, 0, 11, 8), (.iload_n 3, 0, 0, 0), (.invokevirtual 389, 0, 106, 1)]),
  (100, [(.ireturn, 0, 0, 0)])]
def s1_i139 : List (List Nat) := [[0, 0, 593, 165, 0, 0, 668, 0], [0, 1330, 0, 0, 631, 0, 0, 0, 0, 631, 0, 0, 0, 0], [634, 0], [0, 601, 0, 0, 1331, 0, 635, 0], [0, 0, 0, 0, 601, 567, 0], [0, 0, 0, 0, 601, 569, 0], [0, 601, 0, 1358], [0]]
/-- DioceseBook.within(III)Z -/
def s1_b140 : List (Nat × AB) := [(0, [(.iload_n 0, 0, 0, 0), (.iload_n 1, 0, 0, 0), (.if_icmp .lt 12, 0, 0, 0), (.iload_n 0, 0, 0, 0), (.iload_n 2, 0, 0, 0), (.if_icmp .gt 7, 0, 0, 0), (.iconst 1, 0, 0, 0), (.goto 4, 0, 0, 0)]),
  (14, [(.iconst 0, 0, 0, 0)]),
  (15, [(.ireturn, 0, 0, 0)])]
def s1_i140 : List (List Nat) := [[0, 0, 0, 0, 0, 0, 0, 0], [0], [0]]
/-- DioceseBook.oneIf(Z)I -/
def s1_b141 : List (Nat × AB) := [(0, [(.iload_n 0, 0, 0, 0), (.ifCond .eq 7, 0, 0, 0), (.iconst 1, 0, 0, 0), (.goto 4, 0, 0, 0)]),
  (8, [(.iconst 0, 0, 0, 0)]),
  (9, [(.ireturn, 0, 0, 0)])]
def s1_i141 : List (List Nat) := [[0, 0, 0, 0], [0], [0]]
/-- DioceseBook.isDay(I)Z -/
def s1_b142 : List (Nat × AB) := [(0, [(.iload_n 0, 0, 0, 0), (.iconst 0, 0, 0, 0), (.sipush 30000, 0, 0, 0), (.invokestatic 82, 0, 140, 3), (.ireturn, 0, 0, 0)])]
def s1_i142 : List (List Nat) := [[0, 0, 0, 631, 0]]
/-- DioceseBook.isName(I)Z -/
def s1_b143 : List (Nat × AB) := [(0, [(.iload_n 0, 0, 0, 0), (.iconst 0, 0, 0, 0), (.bipush 99, 0, 0, 0), (.invokestatic 82, 0, 140, 3), (.ireturn, 0, 0, 0)])]
def s1_i143 : List (List Nat) := [[0, 0, 0, 631, 0]]
/-- DioceseBook.isPlace(II)Z -/
def s1_b144 : List (Nat × AB) := [(0, [(.iload_n 0, 0, 0, 0), (.bipush (-50), 0, 0, 0), (.bipush 50, 0, 0, 0), (.invokestatic 82, 0, 140, 3), (.ifCond .eq 18, 0, 0, 0), (.iload_n 1, 0, 0, 0), (.bipush (-50), 0, 0, 0), (.bipush 50, 0, 0, 0), (.invokestatic 82, 0, 140, 3), (.ifCond .eq 7, 0, 0, 0), (.iconst 1, 0, 0, 0), (.goto 4, 0, 0, 0)]),
  (26, [(.iconst 0, 0, 0, 0)]),
  (27, [(.ireturn, 0, 0, 0)])]
def s1_i144 : List (List Nat) := [[0, 0, 0, 631, 0, 0, 0, 0, 631, 0, 0, 0], [0], [0]]
/-- DioceseBook.isKnowable(I)Z -/
def s1_b145 : List (Nat × AB) := [(0, [(.iload_n 1, 0, 0, 0), (.iconst 0, 0, 0, 0), (.aload_n 0, 0, 0, 0), (.getfield 87, 0, 11, 10), (.invokestatic 82, 0, 140, 3), (.ireturn, 0, 0, 0)])]
def s1_i145 : List (List Nat) := [[0, 0, 0, 603, 631, 0]]
/-- DioceseBook.isPerson(I)Z -/
def s1_b146 : List (Nat × AB) := [(0, [(.iload_n 1, 0, 0, 0), (.iconst 0, 0, 0, 0), (.aload_n 0, 0, 0, 0), (.getfield 10, 0, 11, 0), (.getfield 195, 0, 5, 4), (.iconst 1, 0, 0, 0), (.isub, 0, 0, 0), (.invokestatic 82, 0, 140, 3), (.ireturn, 0, 0, 0)])]
def s1_i146 : List (List Nat) := [[0, 0, 0, 593, 160, 0, 0, 631, 0]]
/-- DioceseBook.isLiving(I)Z -/
def s1_b147 : List (Nat × AB) := [(0, [(.iload_n 1, 0, 0, 0), (.iconst 0, 0, 0, 0), (.aload_n 0, 0, 0, 0), (.getfield 10, 0, 11, 0), (.getfield 198, 0, 5, 5), (.iconst 1, 0, 0, 0), (.isub, 0, 0, 0), (.invokestatic 82, 0, 140, 3), (.ireturn, 0, 0, 0)])]
def s1_i147 : List (List Nat) := [[0, 0, 0, 593, 165, 0, 0, 631, 0]]
/-- DioceseBook.isPaper(I)Z -/
def s1_b148 : List (Nat × AB) := [(0, [(.iload_n 1, 0, 0, 0), (.iconst 0, 0, 0, 0), (.aload_n 0, 0, 0, 0), (.getfield 19, 0, 11, 1), (.getfield 134, 0, 3, 7), (.iconst 1, 0, 0, 0), (.isub, 0, 0, 0), (.invokestatic 82, 0, 140, 3), (.ireturn, 0, 0, 0)])]
def s1_i148 : List (List Nat) := [[0, 0, 0, 594, 212, 0, 0, 631, 0]]
/-- DioceseBook.isSuit(I)Z -/
def s1_b149 : List (Nat × AB) := [(0, [(.iload_n 1, 0, 0, 0), (.iconst 0, 0, 0, 0), (.aload_n 0, 0, 0, 0), (.getfield 51, 0, 11, 5), (.getfield 202, 0, 8, 4), (.iconst 1, 0, 0, 0), (.isub, 0, 0, 0), (.invokestatic 82, 0, 140, 3), (.ireturn, 0, 0, 0)])]
def s1_i149 : List (List Nat) := [[0, 0, 0, 598, 463, 0, 0, 631, 0]]
/-- DioceseBook.isPiece(I)Z -/
def s1_b150 : List (Nat × AB) := [(0, [(.iload_n 1, 0, 0, 0), (.iconst 0, 0, 0, 0), (.aload_n 0, 0, 0, 0), (.getfield 65, 0, 11, 7), (.getfield 203, 0, 2, 5), (.iconst 1, 0, 0, 0), (.isub, 0, 0, 0), (.invokestatic 82, 0, 140, 3), (.ireturn, 0, 0, 0)])]
def s1_i150 : List (List Nat) := [[0, 0, 0, 600, 516, 0, 0, 631, 0]]
/-- java/lang/Integer.bitCount(I)I -/
def s1_b151 : List (Nat × AB) := [(0, [(.iload_n 0, 0, 0, 0), (.iload_n 0, 0, 0, 0), (.iconst 1, 0, 0, 0), (.iushr, 0, 0, 0), (.ldc_w 265, 1431655765, 0, 0), (.iand, 0, 0, 0), (.isub, 0, 0, 0), (.istore_n 0, 0, 0, 0), (.iload_n 0, 0, 0, 0), (.ldc_w 266, 858993459, 0, 0), (.iand, 0, 0, 0), (.iload_n 0, 0, 0, 0), (.iconst 2, 0, 0, 0), (.iushr, 0, 0, 0), (.ldc_w 266, 858993459, 0, 0), (.iand, 0, 0, 0), (.iadd, 0, 0, 0), (.istore_n 0, 0, 0, 0), (.iload_n 0, 0, 0, 0), (.iload_n 0, 0, 0, 0), (.iconst 4, 0, 0, 0), (.iushr, 0, 0, 0), (.iadd, 0, 0, 0), (.ldc_w 267, 252645135, 0, 0), (.iand, 0, 0, 0), (.istore_n 0, 0, 0, 0), (.iload_n 0, 0, 0, 0), (.iload_n 0, 0, 0, 0), (.bipush 8, 0, 0, 0), (.iushr, 0, 0, 0), (.iadd, 0, 0, 0), (.istore_n 0, 0, 0, 0), (.iload_n 0, 0, 0, 0), (.iload_n 0, 0, 0, 0), (.bipush 16, 0, 0, 0), (.iushr, 0, 0, 0), (.iadd, 0, 0, 0), (.istore_n 0, 0, 0, 0), (.iload_n 0, 0, 0, 0), (.bipush 63, 0, 0, 0), (.iand, 0, 0, 0), (.ireturn, 0, 0, 0)])]
def s1_i151 : List (List Nat) := [[0, 0, 0, 0, 1253, 0, 0, 0, 0, 1254, 0, 0, 0, 0, 1254, 0, 0, 0, 0, 0, 0, 0, 0, 1255, 0, 0, 0, 0, 0, 0, 0, 0, 0, 0, 0, 0, 0, 0, 0, 0, 0, 0]]
/-- java/lang/Long.bitCount(J)I -/
def s1_b152 : List (Nat × AB) := [(0, [(.lload_n 0, 0, 0, 0), (.lload_n 0, 0, 0, 0), (.iconst 1, 0, 0, 0), (.lushr, 0, 0, 0), (.ldc2_w 314, 6148914691236517205, 0, 0), (.land, 0, 0, 0), (.lsub, 0, 0, 0), (.lstore_n 0, 0, 0, 0), (.lload_n 0, 0, 0, 0), (.ldc2_w 316, 3689348814741910323, 0, 0), (.land, 0, 0, 0), (.lload_n 0, 0, 0, 0), (.iconst 2, 0, 0, 0), (.lushr, 0, 0, 0), (.ldc2_w 316, 3689348814741910323, 0, 0), (.land, 0, 0, 0), (.ladd, 0, 0, 0), (.lstore_n 0, 0, 0, 0), (.lload_n 0, 0, 0, 0), (.lload_n 0, 0, 0, 0), (.iconst 4, 0, 0, 0), (.lushr, 0, 0, 0), (.ladd, 0, 0, 0), (.ldc2_w 318, 1085102592571150095, 0, 0), (.land, 0, 0, 0), (.lstore_n 0, 0, 0, 0), (.lload_n 0, 0, 0, 0), (.lload_n 0, 0, 0, 0), (.bipush 8, 0, 0, 0), (.lushr, 0, 0, 0), (.ladd, 0, 0, 0), (.lstore_n 0, 0, 0, 0), (.lload_n 0, 0, 0, 0), (.lload_n 0, 0, 0, 0), (.bipush 16, 0, 0, 0), (.lushr, 0, 0, 0), (.ladd, 0, 0, 0), (.lstore_n 0, 0, 0, 0), (.lload_n 0, 0, 0, 0), (.lload_n 0, 0, 0, 0), (.bipush 32, 0, 0, 0), (.lushr, 0, 0, 0), (.ladd, 0, 0, 0), (.lstore_n 0, 0, 0, 0), (.lload_n 0, 0, 0, 0), (.l2i, 0, 0, 0), (.bipush 127, 0, 0, 0), (.iand, 0, 0, 0), (.ireturn, 0, 0, 0)])]
def s1_i152 : List (List Nat) := [[0, 0, 0, 0, 783, 0, 0, 0, 0, 784, 0, 0, 0, 0, 784, 0, 0, 0, 0, 0, 0, 0, 0, 785, 0, 0, 0, 0, 0, 0, 0, 0, 0, 0, 0, 0, 0, 0, 0, 0, 0, 0, 0, 0, 0, 0, 0, 0, 0]]
/-- java/lang/Math.abs(I)I -/
def s1_b153 : List (Nat × AB) := [(0, [(.iload_n 0, 0, 0, 0), (.ifCond .ge 8, 0, 0, 0), (.iload_n 0, 0, 0, 0), (.ineg, 0, 0, 0), (.goto 4, 0, 0, 0)]),
  (9, [(.iload_n 0, 0, 0, 0)]),
  (10, [(.ireturn, 0, 0, 0)])]
def s1_i153 : List (List Nat) := [[0, 0, 0, 0, 0], [0], [0]]
/-- java/lang/Math.max(II)I -/
def s1_b154 : List (Nat × AB) := [(0, [(.iload_n 0, 0, 0, 0), (.iload_n 1, 0, 0, 0), (.if_icmp .lt 7, 0, 0, 0), (.iload_n 0, 0, 0, 0), (.goto 4, 0, 0, 0)]),
  (9, [(.iload_n 1, 0, 0, 0)]),
  (10, [(.ireturn, 0, 0, 0)])]
def s1_i154 : List (List Nat) := [[0, 0, 0, 0, 0], [0], [0]]
/-- java/lang/Math.min(II)I -/
def s1_b155 : List (Nat × AB) := [(0, [(.iload_n 0, 0, 0, 0), (.iload_n 1, 0, 0, 0), (.if_icmp .gt 7, 0, 0, 0), (.iload_n 0, 0, 0, 0), (.goto 4, 0, 0, 0)]),
  (9, [(.iload_n 1, 0, 0, 0)]),
  (10, [(.ireturn, 0, 0, 0)])]
def s1_i155 : List (List Nat) := [[0, 0, 0, 0, 0], [0], [0]]
def s1_bl : Nat → List (Nat × AB) := fun y => (cond (Nat.blt y 78) (cond (Nat.blt y 39) (cond (Nat.blt y 19) (cond (Nat.blt y 9) (cond (Nat.blt y 4) (cond (Nat.blt y 2) (cond (Nat.blt y 1) s1_b0 s1_b1) (cond (Nat.blt y 3) s1_b2 s1_b3)) (cond (Nat.blt y 6) (cond (Nat.blt y 5) s1_b4 s1_b5) (cond (Nat.blt y 7) s1_b6 (cond (Nat.blt y 8) s1_b7 s1_b8)))) (cond (Nat.blt y 14) (cond (Nat.blt y 11) (cond (Nat.blt y 10) s1_b9 s1_b10) (cond (Nat.blt y 12) s1_b11 (cond (Nat.blt y 13) s1_b12 s1_b13))) (cond (Nat.blt y 16) (cond (Nat.blt y 15) s1_b14 s1_b15) (cond (Nat.blt y 17) s1_b16 (cond (Nat.blt y 18) s1_b17 s1_b18))))) (cond (Nat.blt y 29) (cond (Nat.blt y 24) (cond (Nat.blt y 21) (cond (Nat.blt y 20) s1_b19 s1_b20) (cond (Nat.blt y 22) s1_b21 (cond (Nat.blt y 23) s1_b22 s1_b23))) (cond (Nat.blt y 26) (cond (Nat.blt y 25) s1_b24 s1_b25) (cond (Nat.blt y 27) s1_b26 (cond (Nat.blt y 28) s1_b27 s1_b28)))) (cond (Nat.blt y 34) (cond (Nat.blt y 31) (cond (Nat.blt y 30) s1_b29 s1_b30) (cond (Nat.blt y 32) s1_b31 (cond (Nat.blt y 33) s1_b32 s1_b33))) (cond (Nat.blt y 36) (cond (Nat.blt y 35) s1_b34 s1_b35) (cond (Nat.blt y 37) s1_b36 (cond (Nat.blt y 38) s1_b37 s1_b38)))))) (cond (Nat.blt y 58) (cond (Nat.blt y 48) (cond (Nat.blt y 43) (cond (Nat.blt y 41) (cond (Nat.blt y 40) s1_b39 s1_b40) (cond (Nat.blt y 42) s1_b41 s1_b42)) (cond (Nat.blt y 45) (cond (Nat.blt y 44) s1_b43 s1_b44) (cond (Nat.blt y 46) s1_b45 (cond (Nat.blt y 47) s1_b46 s1_b47)))) (cond (Nat.blt y 53) (cond (Nat.blt y 50) (cond (Nat.blt y 49) s1_b48 s1_b49) (cond (Nat.blt y 51) s1_b50 (cond (Nat.blt y 52) s1_b51 s1_b52))) (cond (Nat.blt y 55) (cond (Nat.blt y 54) s1_b53 s1_b54) (cond (Nat.blt y 56) s1_b55 (cond (Nat.blt y 57) s1_b56 s1_b57))))) (cond (Nat.blt y 68) (cond (Nat.blt y 63) (cond (Nat.blt y 60) (cond (Nat.blt y 59) s1_b58 s1_b59) (cond (Nat.blt y 61) s1_b60 (cond (Nat.blt y 62) s1_b61 s1_b62))) (cond (Nat.blt y 65) (cond (Nat.blt y 64) s1_b63 s1_b64) (cond (Nat.blt y 66) s1_b65 (cond (Nat.blt y 67) s1_b66 s1_b67)))) (cond (Nat.blt y 73) (cond (Nat.blt y 70) (cond (Nat.blt y 69) s1_b68 s1_b69) (cond (Nat.blt y 71) s1_b70 (cond (Nat.blt y 72) s1_b71 s1_b72))) (cond (Nat.blt y 75) (cond (Nat.blt y 74) s1_b73 s1_b74) (cond (Nat.blt y 76) s1_b75 (cond (Nat.blt y 77) s1_b76 s1_b77))))))) (cond (Nat.blt y 117) (cond (Nat.blt y 97) (cond (Nat.blt y 87) (cond (Nat.blt y 82) (cond (Nat.blt y 80) (cond (Nat.blt y 79) s1_b78 s1_b79) (cond (Nat.blt y 81) s1_b80 s1_b81)) (cond (Nat.blt y 84) (cond (Nat.blt y 83) s1_b82 s1_b83) (cond (Nat.blt y 85) s1_b84 (cond (Nat.blt y 86) s1_b85 s1_b86)))) (cond (Nat.blt y 92) (cond (Nat.blt y 89) (cond (Nat.blt y 88) s1_b87 s1_b88) (cond (Nat.blt y 90) s1_b89 (cond (Nat.blt y 91) s1_b90 s1_b91))) (cond (Nat.blt y 94) (cond (Nat.blt y 93) s1_b92 s1_b93) (cond (Nat.blt y 95) s1_b94 (cond (Nat.blt y 96) s1_b95 s1_b96))))) (cond (Nat.blt y 107) (cond (Nat.blt y 102) (cond (Nat.blt y 99) (cond (Nat.blt y 98) s1_b97 s1_b98) (cond (Nat.blt y 100) s1_b99 (cond (Nat.blt y 101) s1_b100 s1_b101))) (cond (Nat.blt y 104) (cond (Nat.blt y 103) s1_b102 s1_b103) (cond (Nat.blt y 105) s1_b104 (cond (Nat.blt y 106) s1_b105 s1_b106)))) (cond (Nat.blt y 112) (cond (Nat.blt y 109) (cond (Nat.blt y 108) s1_b107 s1_b108) (cond (Nat.blt y 110) s1_b109 (cond (Nat.blt y 111) s1_b110 s1_b111))) (cond (Nat.blt y 114) (cond (Nat.blt y 113) s1_b112 s1_b113) (cond (Nat.blt y 115) s1_b114 (cond (Nat.blt y 116) s1_b115 s1_b116)))))) (cond (Nat.blt y 137) (cond (Nat.blt y 127) (cond (Nat.blt y 122) (cond (Nat.blt y 119) (cond (Nat.blt y 118) s1_b117 s1_b118) (cond (Nat.blt y 120) s1_b119 (cond (Nat.blt y 121) s1_b120 s1_b121))) (cond (Nat.blt y 124) (cond (Nat.blt y 123) s1_b122 s1_b123) (cond (Nat.blt y 125) s1_b124 (cond (Nat.blt y 126) s1_b125 s1_b126)))) (cond (Nat.blt y 132) (cond (Nat.blt y 129) (cond (Nat.blt y 128) s1_b127 s1_b128) (cond (Nat.blt y 130) s1_b129 (cond (Nat.blt y 131) s1_b130 s1_b131))) (cond (Nat.blt y 134) (cond (Nat.blt y 133) s1_b132 s1_b133) (cond (Nat.blt y 135) s1_b134 (cond (Nat.blt y 136) s1_b135 s1_b136))))) (cond (Nat.blt y 147) (cond (Nat.blt y 142) (cond (Nat.blt y 139) (cond (Nat.blt y 138) s1_b137 s1_b138) (cond (Nat.blt y 140) s1_b139 (cond (Nat.blt y 141) s1_b140 s1_b141))) (cond (Nat.blt y 144) (cond (Nat.blt y 143) s1_b142 s1_b143) (cond (Nat.blt y 145) s1_b144 (cond (Nat.blt y 146) s1_b145 s1_b146)))) (cond (Nat.blt y 152) (cond (Nat.blt y 149) (cond (Nat.blt y 148) s1_b147 s1_b148) (cond (Nat.blt y 150) s1_b149 (cond (Nat.blt y 151) s1_b150 s1_b151))) (cond (Nat.blt y 154) (cond (Nat.blt y 153) s1_b152 s1_b153) (cond (Nat.blt y 155) s1_b154 (cond (Nat.blt y 156) s1_b155 []))))))))
def s1_ix : Nat → List (List Nat) := fun y => (cond (Nat.blt y 78) (cond (Nat.blt y 39) (cond (Nat.blt y 19) (cond (Nat.blt y 9) (cond (Nat.blt y 4) (cond (Nat.blt y 2) (cond (Nat.blt y 1) s1_i0 s1_i1) (cond (Nat.blt y 3) s1_i2 s1_i3)) (cond (Nat.blt y 6) (cond (Nat.blt y 5) s1_i4 s1_i5) (cond (Nat.blt y 7) s1_i6 (cond (Nat.blt y 8) s1_i7 s1_i8)))) (cond (Nat.blt y 14) (cond (Nat.blt y 11) (cond (Nat.blt y 10) s1_i9 s1_i10) (cond (Nat.blt y 12) s1_i11 (cond (Nat.blt y 13) s1_i12 s1_i13))) (cond (Nat.blt y 16) (cond (Nat.blt y 15) s1_i14 s1_i15) (cond (Nat.blt y 17) s1_i16 (cond (Nat.blt y 18) s1_i17 s1_i18))))) (cond (Nat.blt y 29) (cond (Nat.blt y 24) (cond (Nat.blt y 21) (cond (Nat.blt y 20) s1_i19 s1_i20) (cond (Nat.blt y 22) s1_i21 (cond (Nat.blt y 23) s1_i22 s1_i23))) (cond (Nat.blt y 26) (cond (Nat.blt y 25) s1_i24 s1_i25) (cond (Nat.blt y 27) s1_i26 (cond (Nat.blt y 28) s1_i27 s1_i28)))) (cond (Nat.blt y 34) (cond (Nat.blt y 31) (cond (Nat.blt y 30) s1_i29 s1_i30) (cond (Nat.blt y 32) s1_i31 (cond (Nat.blt y 33) s1_i32 s1_i33))) (cond (Nat.blt y 36) (cond (Nat.blt y 35) s1_i34 s1_i35) (cond (Nat.blt y 37) s1_i36 (cond (Nat.blt y 38) s1_i37 s1_i38)))))) (cond (Nat.blt y 58) (cond (Nat.blt y 48) (cond (Nat.blt y 43) (cond (Nat.blt y 41) (cond (Nat.blt y 40) s1_i39 s1_i40) (cond (Nat.blt y 42) s1_i41 s1_i42)) (cond (Nat.blt y 45) (cond (Nat.blt y 44) s1_i43 s1_i44) (cond (Nat.blt y 46) s1_i45 (cond (Nat.blt y 47) s1_i46 s1_i47)))) (cond (Nat.blt y 53) (cond (Nat.blt y 50) (cond (Nat.blt y 49) s1_i48 s1_i49) (cond (Nat.blt y 51) s1_i50 (cond (Nat.blt y 52) s1_i51 s1_i52))) (cond (Nat.blt y 55) (cond (Nat.blt y 54) s1_i53 s1_i54) (cond (Nat.blt y 56) s1_i55 (cond (Nat.blt y 57) s1_i56 s1_i57))))) (cond (Nat.blt y 68) (cond (Nat.blt y 63) (cond (Nat.blt y 60) (cond (Nat.blt y 59) s1_i58 s1_i59) (cond (Nat.blt y 61) s1_i60 (cond (Nat.blt y 62) s1_i61 s1_i62))) (cond (Nat.blt y 65) (cond (Nat.blt y 64) s1_i63 s1_i64) (cond (Nat.blt y 66) s1_i65 (cond (Nat.blt y 67) s1_i66 s1_i67)))) (cond (Nat.blt y 73) (cond (Nat.blt y 70) (cond (Nat.blt y 69) s1_i68 s1_i69) (cond (Nat.blt y 71) s1_i70 (cond (Nat.blt y 72) s1_i71 s1_i72))) (cond (Nat.blt y 75) (cond (Nat.blt y 74) s1_i73 s1_i74) (cond (Nat.blt y 76) s1_i75 (cond (Nat.blt y 77) s1_i76 s1_i77))))))) (cond (Nat.blt y 117) (cond (Nat.blt y 97) (cond (Nat.blt y 87) (cond (Nat.blt y 82) (cond (Nat.blt y 80) (cond (Nat.blt y 79) s1_i78 s1_i79) (cond (Nat.blt y 81) s1_i80 s1_i81)) (cond (Nat.blt y 84) (cond (Nat.blt y 83) s1_i82 s1_i83) (cond (Nat.blt y 85) s1_i84 (cond (Nat.blt y 86) s1_i85 s1_i86)))) (cond (Nat.blt y 92) (cond (Nat.blt y 89) (cond (Nat.blt y 88) s1_i87 s1_i88) (cond (Nat.blt y 90) s1_i89 (cond (Nat.blt y 91) s1_i90 s1_i91))) (cond (Nat.blt y 94) (cond (Nat.blt y 93) s1_i92 s1_i93) (cond (Nat.blt y 95) s1_i94 (cond (Nat.blt y 96) s1_i95 s1_i96))))) (cond (Nat.blt y 107) (cond (Nat.blt y 102) (cond (Nat.blt y 99) (cond (Nat.blt y 98) s1_i97 s1_i98) (cond (Nat.blt y 100) s1_i99 (cond (Nat.blt y 101) s1_i100 s1_i101))) (cond (Nat.blt y 104) (cond (Nat.blt y 103) s1_i102 s1_i103) (cond (Nat.blt y 105) s1_i104 (cond (Nat.blt y 106) s1_i105 s1_i106)))) (cond (Nat.blt y 112) (cond (Nat.blt y 109) (cond (Nat.blt y 108) s1_i107 s1_i108) (cond (Nat.blt y 110) s1_i109 (cond (Nat.blt y 111) s1_i110 s1_i111))) (cond (Nat.blt y 114) (cond (Nat.blt y 113) s1_i112 s1_i113) (cond (Nat.blt y 115) s1_i114 (cond (Nat.blt y 116) s1_i115 s1_i116)))))) (cond (Nat.blt y 137) (cond (Nat.blt y 127) (cond (Nat.blt y 122) (cond (Nat.blt y 119) (cond (Nat.blt y 118) s1_i117 s1_i118) (cond (Nat.blt y 120) s1_i119 (cond (Nat.blt y 121) s1_i120 s1_i121))) (cond (Nat.blt y 124) (cond (Nat.blt y 123) s1_i122 s1_i123) (cond (Nat.blt y 125) s1_i124 (cond (Nat.blt y 126) s1_i125 s1_i126)))) (cond (Nat.blt y 132) (cond (Nat.blt y 129) (cond (Nat.blt y 128) s1_i127 s1_i128) (cond (Nat.blt y 130) s1_i129 (cond (Nat.blt y 131) s1_i130 s1_i131))) (cond (Nat.blt y 134) (cond (Nat.blt y 133) s1_i132 s1_i133) (cond (Nat.blt y 135) s1_i134 (cond (Nat.blt y 136) s1_i135 s1_i136))))) (cond (Nat.blt y 147) (cond (Nat.blt y 142) (cond (Nat.blt y 139) (cond (Nat.blt y 138) s1_i137 s1_i138) (cond (Nat.blt y 140) s1_i139 (cond (Nat.blt y 141) s1_i140 s1_i141))) (cond (Nat.blt y 144) (cond (Nat.blt y 143) s1_i142 s1_i143) (cond (Nat.blt y 145) s1_i144 (cond (Nat.blt y 146) s1_i145 s1_i146)))) (cond (Nat.blt y 152) (cond (Nat.blt y 149) (cond (Nat.blt y 148) s1_i147 s1_i148) (cond (Nat.blt y 150) s1_i149 (cond (Nat.blt y 151) s1_i150 s1_i151))) (cond (Nat.blt y 154) (cond (Nat.blt y 153) s1_i152 s1_i153) (cond (Nat.blt y 155) s1_i154 (cond (Nat.blt y 156) s1_i155 []))))))))
def s1_sl : List (List Int) := [[117, 110, 108, 101, 115, 115], [110, 111, 116], [97, 110, 100], [111, 114], [108, 101, 116], [98, 97, 114], [115, 116, 114, 105, 107, 101], [108, 97, 112, 115, 101], [109, 105, 108, 101, 115], [119, 111, 114, 116, 104], [118, 111, 105, 100], [108, 97, 112, 115, 101, 100], [100, 101, 99, 97, 121], [115, 116, 101, 112, 115], [102, 101, 101], [97, 103, 101], [111, 114, 100, 101, 114, 115], [104, 111, 108, 100, 115], [102, 97, 114], [114, 105, 99, 104], [108, 101, 97, 118, 101]]
def s1_st : Nat → List Int := fun k => s1_sl.getD k []
def s1_skl : List (String × Nat × String) := [("DioceseBook$Reader", 90, "unless"), ("DioceseBook$Reader", 96, "not"), ("DioceseBook$Reader", 108, "and"), ("DioceseBook$Reader", 110, "or"), ("DioceseBook$Reader", 126, "let"), ("DioceseBook$Reader", 128, "bar"), ("DioceseBook$Reader", 130, "strike"), ("DioceseBook$Reader", 132, "lapse"), ("DioceseBook$Reader", 134, "miles"), ("DioceseBook$Reader", 136, "worth"), ("DioceseBook$Reader", 138, "void"), ("DioceseBook$Reader", 140, "lapsed"), ("DioceseBook$Reader", 142, "decay"), ("DioceseBook$Reader", 144, "steps"), ("DioceseBook$Reader", 146, "fee"), ("DioceseBook$Reader", 148, "age"), ("DioceseBook$Reader", 150, "orders"), ("DioceseBook$Reader", 152, "holds"), ("DioceseBook$Reader", 154, "far"), ("DioceseBook$Reader", 156, "rich"), ("DioceseBook$Reader", 158, "leave")]
def s1_sk : Nat → String × Nat × String := fun k => s1_skl.getD k ("", 0, "")
def s1_zs : List ((String × String × String) × Nat) := [(("DioceseBook$Canons", "AT_FIRST", "[I"), 205), (("DioceseBook$Reader", "BOUNDS", "[I"), 206)]
def s1_AN : List Cond := [.methodLinkNest "DioceseBook$Papers" 54 ⟨"DioceseBook", "within", "(III)Z"⟩ "DioceseBook", .methodLinkNest "DioceseBook$Story" 185 ⟨"DioceseBook", "oneIf", "(Z)I"⟩ "DioceseBook", .methodLinkNest "DioceseBook$Canons" 83 ⟨"DioceseBook", "oneIf", "(Z)I"⟩ "DioceseBook", .methodLinkNest "DioceseBook$Story" 213 ⟨"DioceseBook", "within", "(III)Z"⟩ "DioceseBook", .methodLinkNest "DioceseBook$Terriers" 39 ⟨"DioceseBook", "within", "(III)Z"⟩ "DioceseBook"]
def s1_mi : Nat → Nat × Nat × Nat × Nat := fun y => (cond (Nat.blt y 78) (cond (Nat.blt y 39) (cond (Nat.blt y 19) (cond (Nat.blt y 9) (cond (Nat.blt y 4) (cond (Nat.blt y 2) (cond (Nat.blt y 1) (925, 121, 923, 924) (1030, 121, 1028, 1029)) (cond (Nat.blt y 3) (1065, 121, 1063, 1064) (1038, 121, 1036, 1037))) (cond (Nat.blt y 6) (cond (Nat.blt y 5) (1076, 121, 1074, 1075) (827, 121, 825, 826)) (cond (Nat.blt y 7) (852, 121, 850, 851) (cond (Nat.blt y 8) (817, 121, 815, 816) (821, 121, 820, 9))))) (cond (Nat.blt y 14) (cond (Nat.blt y 11) (cond (Nat.blt y 10) (831, 121, 830, 10) (813, 121, 811, 812)) (cond (Nat.blt y 12) (835, 121, 834, 11) (cond (Nat.blt y 13) (839, 121, 838, 0) (901, 125, 900, 0)))) (cond (Nat.blt y 16) (cond (Nat.blt y 15) (762, 125, 760, 761) (789, 125, 787, 788)) (cond (Nat.blt y 17) (1133, 125, 1131, 1132) (cond (Nat.blt y 18) (1211, 125, 1209, 1210) (1141, 125, 1139, 1140)))))) (cond (Nat.blt y 29) (cond (Nat.blt y 24) (cond (Nat.blt y 21) (cond (Nat.blt y 20) (1144, 125, 1143, 0) (1286, 128, 1284, 1285)) (cond (Nat.blt y 22) (1304, 128, 1303, 41) (cond (Nat.blt y 23) (1299, 128, 1297, 1298) (1312, 128, 1310, 1311)))) (cond (Nat.blt y 26) (cond (Nat.blt y 25) (1325, 128, 1324, 44) (1317, 128, 1316, 42)) (cond (Nat.blt y 27) (1321, 128, 1320, 43) (cond (Nat.blt y 28) (679, 120, 678, 0) (683, 120, 682, 0))))) (cond (Nat.blt y 34) (cond (Nat.blt y 31) (cond (Nat.blt y 30) (686, 120, 685, 0) (695, 120, 693, 694)) (cond (Nat.blt y 32) (706, 120, 704, 705) (cond (Nat.blt y 33) (710, 120, 709, 3) (737, 120, 735, 736)))) (cond (Nat.blt y 36) (cond (Nat.blt y 35) (714, 120, 712, 713) (733, 120, 731, 732)) (cond (Nat.blt y 37) (856, 120, 854, 855) (cond (Nat.blt y 38) (910, 122, 908, 909) (921, 122, 919, 920))))))) (cond (Nat.blt y 58) (cond (Nat.blt y 48) (cond (Nat.blt y 43) (cond (Nat.blt y 41) (cond (Nat.blt y 40) (929, 122, 928, 17) (996, 122, 995, 21)) (cond (Nat.blt y 42) (1000, 122, 999, 22) (1072, 122, 1071, 32))) (cond (Nat.blt y 45) (cond (Nat.blt y 44) (1034, 122, 1033, 27) (1042, 122, 1041, 28)) (cond (Nat.blt y 46) (1047, 122, 1046, 29) (cond (Nat.blt y 47) (1018, 122, 1017, 24) (1022, 122, 1021, 25))))) (cond (Nat.blt y 53) (cond (Nat.blt y 50) (cond (Nat.blt y 49) (1026, 122, 1025, 26) (942, 122, 941, 20)) (cond (Nat.blt y 51) (933, 122, 932, 18) (cond (Nat.blt y 52) (937, 122, 936, 19) (1004, 122, 1003, 23)))) (cond (Nat.blt y 55) (cond (Nat.blt y 54) (1051, 122, 1050, 30) (1061, 122, 1060, 31)) (cond (Nat.blt y 56) (643, 119, 641, 642) (cond (Nat.blt y 57) (655, 119, 653, 654) (802, 119, 800, 801)))))) (cond (Nat.blt y 68) (cond (Nat.blt y 63) (cond (Nat.blt y 60) (cond (Nat.blt y 59) (1347, 119, 1345, 1346) (754, 124, 752, 753)) (cond (Nat.blt y 61) (758, 124, 756, 757) (cond (Nat.blt y 62) (894, 124, 892, 893) (867, 124, 865, 866)))) (cond (Nat.blt y 65) (cond (Nat.blt y 64) (1112, 124, 1110, 1111) (871, 124, 870, 13)) (cond (Nat.blt y 66) (863, 124, 861, 862) (cond (Nat.blt y 67) (875, 124, 874, 14) (881, 124, 879, 880))))) (cond (Nat.blt y 73) (cond (Nat.blt y 70) (cond (Nat.blt y 69) (672, 123, 670, 671) (745, 123, 743, 744)) (cond (Nat.blt y 71) (750, 123, 749, 5) (cond (Nat.blt y 72) (793, 123, 792, 8) (885, 123, 884, 15)))) (cond (Nat.blt y 75) (cond (Nat.blt y 74) (889, 123, 888, 16) (766, 123, 765, 6)) (cond (Nat.blt y 76) (770, 123, 769, 7) (cond (Nat.blt y 77) (774, 123, 772, 773) (779, 123, 777, 778)))))))) (cond (Nat.blt y 117) (cond (Nat.blt y 97) (cond (Nat.blt y 87) (cond (Nat.blt y 82) (cond (Nat.blt y 80) (cond (Nat.blt y 79) (898, 123, 896, 897) (1105, 123, 1103, 1104)) (cond (Nat.blt y 81) (844, 123, 842, 843) (848, 123, 847, 12))) (cond (Nat.blt y 84) (cond (Nat.blt y 83) (798, 123, 796, 797) (1215, 123, 1213, 1214)) (cond (Nat.blt y 85) (1220, 123, 1219, 0) (cond (Nat.blt y 86) (1158, 126, 1156, 1157) (1179, 126, 1177, 1178))))) (cond (Nat.blt y 92) (cond (Nat.blt y 89) (cond (Nat.blt y 88) (1188, 126, 1186, 1187) (1175, 126, 1173, 1174)) (cond (Nat.blt y 90) (1171, 126, 1169, 1170) (cond (Nat.blt y 91) (1197, 126, 1195, 1196) (1203, 126, 1201, 1202)))) (cond (Nat.blt y 94) (cond (Nat.blt y 93) (1232, 127, 1230, 1231) (1273, 127, 1271, 1272)) (cond (Nat.blt y 95) (1277, 127, 1275, 1276) (cond (Nat.blt y 96) (1241, 127, 1239, 1240) (1259, 127, 1258, 37)))))) (cond (Nat.blt y 107) (cond (Nat.blt y 102) (cond (Nat.blt y 99) (cond (Nat.blt y 98) (1269, 127, 1268, 39) (1263, 127, 1262, 38)) (cond (Nat.blt y 100) (1249, 127, 1248, 36) (cond (Nat.blt y 101) (1245, 127, 1244, 35) (1334, 129, 1332, 1333)))) (cond (Nat.blt y 104) (cond (Nat.blt y 103) (1338, 129, 1337, 45) (1343, 129, 1342, 46)) (cond (Nat.blt y 105) (1353, 129, 1352, 47) (cond (Nat.blt y 106) (1357, 129, 1356, 48) (1361, 129, 1359, 1360))))) (cond (Nat.blt y 112) (cond (Nat.blt y 109) (cond (Nat.blt y 108) (630, 118, 628, 629) (639, 118, 637, 638)) (cond (Nat.blt y 110) (648, 118, 646, 647) (cond (Nat.blt y 111) (659, 118, 657, 658) (676, 118, 674, 675)))) (cond (Nat.blt y 114) (cond (Nat.blt y 113) (702, 118, 700, 701) (721, 118, 719, 720)) (cond (Nat.blt y 115) (729, 118, 727, 728) (cond (Nat.blt y 116) (741, 118, 739, 740) (906, 118, 904, 905))))))) (cond (Nat.blt y 136) (cond (Nat.blt y 126) (cond (Nat.blt y 121) (cond (Nat.blt y 119) (cond (Nat.blt y 118) (914, 118, 912, 913) (1081, 118, 1079, 1080)) (cond (Nat.blt y 120) (1085, 118, 1083, 1084) (1090, 118, 1088, 1089))) (cond (Nat.blt y 123) (cond (Nat.blt y 122) (1095, 118, 1093, 1094) (1100, 118, 1098, 1099)) (cond (Nat.blt y 124) (1116, 118, 1114, 1115) (cond (Nat.blt y 125) (1125, 118, 1123, 1124) (1120, 118, 1119, 33))))) (cond (Nat.blt y 131) (cond (Nat.blt y 128) (cond (Nat.blt y 127) (1129, 118, 1127, 1128) (1137, 118, 1135, 1136)) (cond (Nat.blt y 129) (1150, 118, 1148, 1149) (cond (Nat.blt y 130) (1154, 118, 1152, 1153) (1163, 118, 1161, 1162)))) (cond (Nat.blt y 133) (cond (Nat.blt y 132) (1184, 118, 1182, 1183) (1192, 118, 1190, 1191)) (cond (Nat.blt y 134) (1207, 118, 1205, 1206) (cond (Nat.blt y 135) (1225, 118, 1223, 1224) (1237, 118, 1235, 1236)))))) (cond (Nat.blt y 146) (cond (Nat.blt y 141) (cond (Nat.blt y 138) (cond (Nat.blt y 137) (1282, 118, 1280, 1281) (1291, 118, 1289, 1290)) (cond (Nat.blt y 139) (1308, 118, 1306, 1307) (cond (Nat.blt y 140) (1329, 118, 1327, 1328) (633, 118, 632, 0)))) (cond (Nat.blt y 143) (cond (Nat.blt y 142) (717, 118, 716, 0) (917, 118, 916, 0)) (cond (Nat.blt y 144) (1228, 118, 1227, 0) (cond (Nat.blt y 145) (651, 118, 650, 0) (725, 118, 724, 4))))) (cond (Nat.blt y 151) (cond (Nat.blt y 148) (cond (Nat.blt y 147) (667, 118, 666, 1) (663, 118, 662, 0)) (cond (Nat.blt y 149) (690, 118, 689, 2) (cond (Nat.blt y 150) (1167, 118, 1166, 34) (1295, 118, 1294, 40)))) (cond (Nat.blt y 153) (cond (Nat.blt y 152) (1252, 137, 1251, 0) (782, 131, 781, 0)) (cond (Nat.blt y 154) (805, 132, 804, 0) (cond (Nat.blt y 155) (808, 132, 807, 0) (859, 132, 858, 0)))))))))
abbrev s1_G : AG := (s1_kd, s1_mt, fun y pc => a_find pc (s1_bl y), s1_st)
end
section
/-! SYSTEM 1: calls of which the answer is known (by program) -/
def s1_pu0 : AP := fun _ _ _ => none
theorem s1_pu0_ok : aPu s1_G s1_pu0 0 := fun _ _ _ _ h => (by cases h)
theorem s1_q140_0 {d : Nat} (hd : 0 < d) {M : AM} {Q : Option AV → AM → Prop} {x0 x1 x2 : Int}
    (h : (x0 < x1 → ((0 : Int) = 0 ∨ (0 : Int) = 1) ∧ Q (some (aI 0)) M) ∧ (x1 ≤ x0 → (x2 < x0 → ((0 : Int) = 0 ∨ (0 : Int) = 1) ∧ Q (some (aI 0)) M) ∧ (x0 ≤ x2 → ((1 : Int) = 0 ∨ (1 : Int) = 1) ∧ Q (some (aI 1)) M))) :
    aE s1_G d 140 0 [] [some (aI x0), some (aI x1), some (aI x2)] [] M Q := aE_go s1_pu0_ok [] 86 hd h

theorem s1_q140 : ∀ (v a b : Int) (M : AM), aC s1_G 1 140 [aI v, aI a, aI b] M (fun r' M' => r' = some (aI (a_bl (a ≤ v ∧ v ≤ b))) ∧ M' = M) := by
  intro v a b M
  refine ⟨Nat.le_of_ble_eq_true rfl, fun d hd => ?_⟩
  refine s1_q140_0 (by omega) ?_
  try unfold a_bl
  repeat' (first | (refine And.intro ?_ ?_) | (intro _))
  all_goals (first | rfl | (split <;> first | rfl | omega | (exfalso; omega) | simp_all) | omega | (exfalso; omega) | simp_all | skip)

theorem s1_q141_0 {d : Nat} (hd : 0 < d) {M : AM} {Q : Option AV → AM → Prop} {x0 : Int}
    (h : (x0 = (0 : Int) → Q (some (aI 0)) M) ∧ (x0 ≠ (0 : Int) → Q (some (aI 1)) M)) :
    aE s1_G d 141 0 [] [some (aI x0)] [] M Q := aE_go s1_pu0_ok [] 74 hd h

theorem s1_q141 : ∀ (v : Int) (M : AM), aC s1_G 1 141 [aI v] M (fun r' M' => r' = some (aI (a_bl (v ≠ 0))) ∧ M' = M) := by
  intro v M
  refine ⟨Nat.le_of_ble_eq_true rfl, fun d hd => ?_⟩
  refine s1_q141_0 (by omega) ?_
  try unfold a_bl
  repeat' (first | (refine And.intro ?_ ?_) | (intro _))
  all_goals (first | rfl | (split <;> first | rfl | omega | (exfalso; omega) | simp_all) | omega | (exfalso; omega) | simp_all | skip)

theorem s1_q153_0 {d : Nat} (hd : 0 < d) {M : AM} {Q : Option AV → AM → Prop} {x0 : Int}
    (h : ((0 : Int) ≤ x0 → Q (some (aI x0)) M) ∧ (x0 < (0 : Int) → Q (some (aI (a_neg x0))) M)) :
    aE s1_G d 153 0 [] [some (aI x0)] [] M Q := aE_go s1_pu0_ok [] 76 hd h

theorem s1_q153 : ∀ (v : Int) (M : AM), aC s1_G 1 153 [aI v] M (fun r' M' => r' = some (aI (if v < 0 then a_neg v else v)) ∧ M' = M) := by
  intro v M
  refine ⟨Nat.le_of_ble_eq_true rfl, fun d hd => ?_⟩
  refine s1_q153_0 (by omega) ?_
  try unfold a_bl
  repeat' (first | (refine And.intro ?_ ?_) | (intro _))
  all_goals (first | rfl | (split <;> first | rfl | omega | (exfalso; omega) | simp_all) | omega | (exfalso; omega) | simp_all | skip)

theorem s1_q154_0 {d : Nat} (hd : 0 < d) {M : AM} {Q : Option AV → AM → Prop} {x0 x1 : Int}
    (h : (x0 < x1 → Q (some (aI x1)) M) ∧ (x1 ≤ x0 → Q (some (aI x0)) M)) :
    aE s1_G d 154 0 [] [some (aI x0), some (aI x1)] [] M Q := aE_go s1_pu0_ok [] 76 hd h

theorem s1_q154 : ∀ (v a : Int) (M : AM), aC s1_G 1 154 [aI v, aI a] M (fun r' M' => r' = some (aI (if a ≤ v then v else a)) ∧ M' = M) := by
  intro v a M
  refine ⟨Nat.le_of_ble_eq_true rfl, fun d hd => ?_⟩
  refine s1_q154_0 (by omega) ?_
  try unfold a_bl
  repeat' (first | (refine And.intro ?_ ?_) | (intro _))
  all_goals (first | rfl | (split <;> first | rfl | omega | (exfalso; omega) | simp_all) | omega | (exfalso; omega) | simp_all | skip)

theorem s1_q155_0 {d : Nat} (hd : 0 < d) {M : AM} {Q : Option AV → AM → Prop} {x0 x1 : Int}
    (h : (x1 < x0 → Q (some (aI x1)) M) ∧ (x0 ≤ x1 → Q (some (aI x0)) M)) :
    aE s1_G d 155 0 [] [some (aI x0), some (aI x1)] [] M Q := aE_go s1_pu0_ok [] 76 hd h

theorem s1_q155 : ∀ (v a : Int) (M : AM), aC s1_G 1 155 [aI v, aI a] M (fun r' M' => r' = some (aI (if v ≤ a then v else a)) ∧ M' = M) := by
  intro v a M
  refine ⟨Nat.le_of_ble_eq_true rfl, fun d hd => ?_⟩
  refine s1_q155_0 (by omega) ?_
  try unfold a_bl
  repeat' (first | (refine And.intro ?_ ?_) | (intro _))
  all_goals (first | rfl | (split <;> first | rfl | omega | (exfalso; omega) | simp_all) | omega | (exfalso; omega) | simp_all | skip)

def s1_pu1 : AP := fun y as M => cond (Nat.beq y 140) (match as with
    | [.inl v, .inl a, .inl b] => some (some (aI (a_bl (a ≤ v ∧ v ≤ b))))
    | _ => none) (cond (Nat.beq y 141) (match as with
    | [.inl v] => some (some (aI (a_bl (v ≠ 0))))
    | _ => none) (cond (Nat.beq y 153) (match as with
    | [.inl v] => some (some (aI (if v < 0 then a_neg v else v)))
    | _ => none) (cond (Nat.beq y 154) (match as with
    | [.inl v, .inl a] => some (some (aI (if a ≤ v then v else a)))
    | _ => none) (cond (Nat.beq y 155) (match as with
    | [.inl v, .inl a] => some (some (aI (if v ≤ a then v else a)))
    | _ => none) (none)))))

theorem s1_pu1_ok : aPu s1_G s1_pu1 1 := by
  intro y as M r h
  unfold s1_pu1 at h
  cases e140 : Nat.beq y 140
  rotate_left
  · rw [e140] at h
    have e := Nat.eq_of_beq_eq_true e140
    subst e
    dsimp only [cond] at h
    split at h
    · cases h; exact aC_mono (s1_q140 _ _ _ M) (by omega) (fun _ _ q => q)
    · cases h
  rw [e140] at h
  dsimp only [cond] at h
  cases e141 : Nat.beq y 141
  rotate_left
  · rw [e141] at h
    have e := Nat.eq_of_beq_eq_true e141
    subst e
    dsimp only [cond] at h
    split at h
    · cases h; exact aC_mono (s1_q141 _ M) (by omega) (fun _ _ q => q)
    · cases h
  rw [e141] at h
  dsimp only [cond] at h
  cases e153 : Nat.beq y 153
  rotate_left
  · rw [e153] at h
    have e := Nat.eq_of_beq_eq_true e153
    subst e
    dsimp only [cond] at h
    split at h
    · cases h; exact aC_mono (s1_q153 _ M) (by omega) (fun _ _ q => q)
    · cases h
  rw [e153] at h
  dsimp only [cond] at h
  cases e154 : Nat.beq y 154
  rotate_left
  · rw [e154] at h
    have e := Nat.eq_of_beq_eq_true e154
    subst e
    dsimp only [cond] at h
    split at h
    · cases h; exact aC_mono (s1_q154 _ _ M) (by omega) (fun _ _ q => q)
    · cases h
  rw [e154] at h
  dsimp only [cond] at h
  cases e155 : Nat.beq y 155
  rotate_left
  · rw [e155] at h
    have e := Nat.eq_of_beq_eq_true e155
    subst e
    dsimp only [cond] at h
    split at h
    · cases h; exact aC_mono (s1_q155 _ _ M) (by omega) (fun _ _ q => q)
    · cases h
  rw [e155] at h
  dsimp only [cond] at h
  cases h

theorem s1_q142_0 {d : Nat} (hd : 1 < d) {M : AM} {Q : Option AV → AM → Prop} {x0 : Int}
    (h : ((a_bl (0 ≤ x0 ∧ x0 ≤ 30000)) = 0 ∨ (a_bl (0 ≤ x0 ∧ x0 ≤ 30000)) = 1) ∧ Q (some (aI (a_bl (0 ≤ x0 ∧ x0 ≤ 30000)))) M) :
    aE s1_G d 142 0 [] [some (aI x0)] [] M Q := aE_go s1_pu1_ok [] 70 hd h

theorem s1_q142 : ∀ (v : Int) (M : AM), aC s1_G 2 142 [aI v] M (fun r' M' => r' = some (aI (a_bl (0 ≤ v ∧ v ≤ 30000))) ∧ M' = M) := by
  intro v M
  refine ⟨Nat.le_of_ble_eq_true rfl, fun d hd => ?_⟩
  refine s1_q142_0 (by omega) ?_
  try unfold a_bl
  repeat' (first | (refine And.intro ?_ ?_) | (intro _))
  all_goals (first | rfl | (split <;> first | rfl | omega | (exfalso; omega) | simp_all) | omega | (exfalso; omega) | simp_all | skip)

theorem s1_q143_0 {d : Nat} (hd : 1 < d) {M : AM} {Q : Option AV → AM → Prop} {x0 : Int}
    (h : ((a_bl (0 ≤ x0 ∧ x0 ≤ 99)) = 0 ∨ (a_bl (0 ≤ x0 ∧ x0 ≤ 99)) = 1) ∧ Q (some (aI (a_bl (0 ≤ x0 ∧ x0 ≤ 99)))) M) :
    aE s1_G d 143 0 [] [some (aI x0)] [] M Q := aE_go s1_pu1_ok [] 70 hd h

theorem s1_q143 : ∀ (v : Int) (M : AM), aC s1_G 2 143 [aI v] M (fun r' M' => r' = some (aI (a_bl (0 ≤ v ∧ v ≤ 99))) ∧ M' = M) := by
  intro v M
  refine ⟨Nat.le_of_ble_eq_true rfl, fun d hd => ?_⟩
  refine s1_q143_0 (by omega) ?_
  try unfold a_bl
  repeat' (first | (refine And.intro ?_ ?_) | (intro _))
  all_goals (first | rfl | (split <;> first | rfl | omega | (exfalso; omega) | simp_all) | omega | (exfalso; omega) | simp_all | skip)

theorem s1_q144_0 {d : Nat} (hd : 1 < d) {M : AM} {Q : Option AV → AM → Prop} {x0 x1 : Int}
    (h : ((a_bl ((-50) ≤ x0 ∧ x0 ≤ 50)) = (0 : Int) → ((0 : Int) = 0 ∨ (0 : Int) = 1) ∧ Q (some (aI 0)) M) ∧ ((a_bl ((-50) ≤ x0 ∧ x0 ≤ 50)) ≠ (0 : Int) → ((a_bl ((-50) ≤ x1 ∧ x1 ≤ 50)) = (0 : Int) → ((0 : Int) = 0 ∨ (0 : Int) = 1) ∧ Q (some (aI 0)) M) ∧ ((a_bl ((-50) ≤ x1 ∧ x1 ≤ 50)) ≠ (0 : Int) → ((1 : Int) = 0 ∨ (1 : Int) = 1) ∧ Q (some (aI 1)) M))) :
    aE s1_G d 144 0 [] [some (aI x0), some (aI x1)] [] M Q := aE_go s1_pu1_ok [] 94 hd h

theorem s1_q144 : ∀ (v a : Int) (M : AM), aC s1_G 2 144 [aI v, aI a] M (fun r' M' => r' = some (aI (a_bl ((-50 ≤ v ∧ v ≤ 50) ∧ (-50 ≤ a ∧ a ≤ 50)))) ∧ M' = M) := by
  intro v a M
  refine ⟨Nat.le_of_ble_eq_true rfl, fun d hd => ?_⟩
  refine s1_q144_0 (by omega) ?_
  try unfold a_bl
  repeat' (first | (refine And.intro ?_ ?_) | (intro _))
  all_goals (first | rfl | (split <;> first | rfl | omega | (exfalso; omega) | simp_all) | omega | (exfalso; omega) | simp_all | skip)

theorem s1_q145_0 {d : Nat} (hd : 1 < d) {M : AM} {Q : Option AV → AM → Prop} {x1 : Int}
    (h : ((a_bl (0 ≤ x1 ∧ x1 ≤ (M 0 10))) = 0 ∨ (a_bl (0 ≤ x1 ∧ x1 ≤ (M 0 10))) = 1) ∧ Q (some (aI (a_bl (0 ≤ x1 ∧ x1 ≤ (M 0 10))))) M) :
    aE s1_G d 145 0 [] [some (aP 0), some (aI x1)] [] M Q := aE_go s1_pu1_ok [] 72 hd h

theorem s1_q145 : ∀ (v : Int) (M : AM), aC s1_G 2 145 [aP 0, aI v] M (fun r' M' => r' = some (aI (a_bl (0 ≤ v ∧ v ≤ M 0 10))) ∧ M' = M) := by
  intro v M
  refine ⟨Nat.le_of_ble_eq_true rfl, fun d hd => ?_⟩
  refine s1_q145_0 (by omega) ?_
  try unfold a_bl
  repeat' (first | (refine And.intro ?_ ?_) | (intro _))
  all_goals (first | rfl | (split <;> first | rfl | omega | (exfalso; omega) | simp_all) | omega | (exfalso; omega) | simp_all | skip)

theorem s1_q146_0 {d : Nat} (hd : 1 < d) {M : AM} {Q : Option AV → AM → Prop} {x1 : Int}
    (h : ((a_bl (0 ≤ x1 ∧ x1 ≤ (a_sub (M 1 4) 1))) = 0 ∨ (a_bl (0 ≤ x1 ∧ x1 ≤ (a_sub (M 1 4) 1))) = 1) ∧ Q (some (aI (a_bl (0 ≤ x1 ∧ x1 ≤ (a_sub (M 1 4) 1))))) M) :
    aE s1_G d 146 0 [] [some (aP 0), some (aI x1)] [] M Q := aE_go s1_pu1_ok [] 78 hd h

theorem s1_q146 : ∀ (v : Int) (M : AM), aC s1_G 2 146 [aP 0, aI v] M (fun r' M' => r' = some (aI (a_bl (0 ≤ v ∧ v ≤ a_sub (M 1 4) 1))) ∧ M' = M) := by
  intro v M
  refine ⟨Nat.le_of_ble_eq_true rfl, fun d hd => ?_⟩
  refine s1_q146_0 (by omega) ?_
  try unfold a_bl
  repeat' (first | (refine And.intro ?_ ?_) | (intro _))
  all_goals (first | rfl | (split <;> first | rfl | omega | (exfalso; omega) | simp_all) | omega | (exfalso; omega) | simp_all | skip)

theorem s1_q147_0 {d : Nat} (hd : 1 < d) {M : AM} {Q : Option AV → AM → Prop} {x1 : Int}
    (h : ((a_bl (0 ≤ x1 ∧ x1 ≤ (a_sub (M 1 5) 1))) = 0 ∨ (a_bl (0 ≤ x1 ∧ x1 ≤ (a_sub (M 1 5) 1))) = 1) ∧ Q (some (aI (a_bl (0 ≤ x1 ∧ x1 ≤ (a_sub (M 1 5) 1))))) M) :
    aE s1_G d 147 0 [] [some (aP 0), some (aI x1)] [] M Q := aE_go s1_pu1_ok [] 78 hd h

theorem s1_q147 : ∀ (v : Int) (M : AM), aC s1_G 2 147 [aP 0, aI v] M (fun r' M' => r' = some (aI (a_bl (0 ≤ v ∧ v ≤ a_sub (M 1 5) 1))) ∧ M' = M) := by
  intro v M
  refine ⟨Nat.le_of_ble_eq_true rfl, fun d hd => ?_⟩
  refine s1_q147_0 (by omega) ?_
  try unfold a_bl
  repeat' (first | (refine And.intro ?_ ?_) | (intro _))
  all_goals (first | rfl | (split <;> first | rfl | omega | (exfalso; omega) | simp_all) | omega | (exfalso; omega) | simp_all | skip)

theorem s1_q148_0 {d : Nat} (hd : 1 < d) {M : AM} {Q : Option AV → AM → Prop} {x1 : Int}
    (h : ((a_bl (0 ≤ x1 ∧ x1 ≤ (a_sub (M 2 7) 1))) = 0 ∨ (a_bl (0 ≤ x1 ∧ x1 ≤ (a_sub (M 2 7) 1))) = 1) ∧ Q (some (aI (a_bl (0 ≤ x1 ∧ x1 ≤ (a_sub (M 2 7) 1))))) M) :
    aE s1_G d 148 0 [] [some (aP 0), some (aI x1)] [] M Q := aE_go s1_pu1_ok [] 78 hd h

theorem s1_q148 : ∀ (v : Int) (M : AM), aC s1_G 2 148 [aP 0, aI v] M (fun r' M' => r' = some (aI (a_bl (0 ≤ v ∧ v ≤ a_sub (M 2 7) 1))) ∧ M' = M) := by
  intro v M
  refine ⟨Nat.le_of_ble_eq_true rfl, fun d hd => ?_⟩
  refine s1_q148_0 (by omega) ?_
  try unfold a_bl
  repeat' (first | (refine And.intro ?_ ?_) | (intro _))
  all_goals (first | rfl | (split <;> first | rfl | omega | (exfalso; omega) | simp_all) | omega | (exfalso; omega) | simp_all | skip)

theorem s1_q149_0 {d : Nat} (hd : 1 < d) {M : AM} {Q : Option AV → AM → Prop} {x1 : Int}
    (h : ((a_bl (0 ≤ x1 ∧ x1 ≤ (a_sub (M 8 4) 1))) = 0 ∨ (a_bl (0 ≤ x1 ∧ x1 ≤ (a_sub (M 8 4) 1))) = 1) ∧ Q (some (aI (a_bl (0 ≤ x1 ∧ x1 ≤ (a_sub (M 8 4) 1))))) M) :
    aE s1_G d 149 0 [] [some (aP 0), some (aI x1)] [] M Q := aE_go s1_pu1_ok [] 78 hd h

theorem s1_q149 : ∀ (v : Int) (M : AM), aC s1_G 2 149 [aP 0, aI v] M (fun r' M' => r' = some (aI (a_bl (0 ≤ v ∧ v ≤ a_sub (M 8 4) 1))) ∧ M' = M) := by
  intro v M
  refine ⟨Nat.le_of_ble_eq_true rfl, fun d hd => ?_⟩
  refine s1_q149_0 (by omega) ?_
  try unfold a_bl
  repeat' (first | (refine And.intro ?_ ?_) | (intro _))
  all_goals (first | rfl | (split <;> first | rfl | omega | (exfalso; omega) | simp_all) | omega | (exfalso; omega) | simp_all | skip)

theorem s1_q150_0 {d : Nat} (hd : 1 < d) {M : AM} {Q : Option AV → AM → Prop} {x1 : Int}
    (h : ((a_bl (0 ≤ x1 ∧ x1 ≤ (a_sub (M 10 5) 1))) = 0 ∨ (a_bl (0 ≤ x1 ∧ x1 ≤ (a_sub (M 10 5) 1))) = 1) ∧ Q (some (aI (a_bl (0 ≤ x1 ∧ x1 ≤ (a_sub (M 10 5) 1))))) M) :
    aE s1_G d 150 0 [] [some (aP 0), some (aI x1)] [] M Q := aE_go s1_pu1_ok [] 78 hd h

theorem s1_q150 : ∀ (v : Int) (M : AM), aC s1_G 2 150 [aP 0, aI v] M (fun r' M' => r' = some (aI (a_bl (0 ≤ v ∧ v ≤ a_sub (M 10 5) 1))) ∧ M' = M) := by
  intro v M
  refine ⟨Nat.le_of_ble_eq_true rfl, fun d hd => ?_⟩
  refine s1_q150_0 (by omega) ?_
  try unfold a_bl
  repeat' (first | (refine And.intro ?_ ?_) | (intro _))
  all_goals (first | rfl | (split <;> first | rfl | omega | (exfalso; omega) | simp_all) | omega | (exfalso; omega) | simp_all | skip)

def s1_pu : AP := fun y as M => cond (Nat.beq y 140) (match as with
    | [.inl v, .inl a, .inl b] => some (some (aI (a_bl (a ≤ v ∧ v ≤ b))))
    | _ => none) (cond (Nat.beq y 141) (match as with
    | [.inl v] => some (some (aI (a_bl (v ≠ 0))))
    | _ => none) (cond (Nat.beq y 142) (match as with
    | [.inl v] => some (some (aI (a_bl (0 ≤ v ∧ v ≤ 30000))))
    | _ => none) (cond (Nat.beq y 143) (match as with
    | [.inl v] => some (some (aI (a_bl (0 ≤ v ∧ v ≤ 99))))
    | _ => none) (cond (Nat.beq y 144) (match as with
    | [.inl v, .inl a] => some (some (aI (a_bl ((-50 ≤ v ∧ v ≤ 50) ∧ (-50 ≤ a ∧ a ≤ 50)))))
    | _ => none) (cond (Nat.beq y 145) (match as with
    | [.inr (.inr (.inl 0)), .inl v] => some (some (aI (a_bl (0 ≤ v ∧ v ≤ M 0 10))))
    | _ => none) (cond (Nat.beq y 146) (match as with
    | [.inr (.inr (.inl 0)), .inl v] => some (some (aI (a_bl (0 ≤ v ∧ v ≤ a_sub (M 1 4) 1))))
    | _ => none) (cond (Nat.beq y 147) (match as with
    | [.inr (.inr (.inl 0)), .inl v] => some (some (aI (a_bl (0 ≤ v ∧ v ≤ a_sub (M 1 5) 1))))
    | _ => none) (cond (Nat.beq y 148) (match as with
    | [.inr (.inr (.inl 0)), .inl v] => some (some (aI (a_bl (0 ≤ v ∧ v ≤ a_sub (M 2 7) 1))))
    | _ => none) (cond (Nat.beq y 149) (match as with
    | [.inr (.inr (.inl 0)), .inl v] => some (some (aI (a_bl (0 ≤ v ∧ v ≤ a_sub (M 8 4) 1))))
    | _ => none) (cond (Nat.beq y 150) (match as with
    | [.inr (.inr (.inl 0)), .inl v] => some (some (aI (a_bl (0 ≤ v ∧ v ≤ a_sub (M 10 5) 1))))
    | _ => none) (cond (Nat.beq y 153) (match as with
    | [.inl v] => some (some (aI (if v < 0 then a_neg v else v)))
    | _ => none) (cond (Nat.beq y 154) (match as with
    | [.inl v, .inl a] => some (some (aI (if a ≤ v then v else a)))
    | _ => none) (cond (Nat.beq y 155) (match as with
    | [.inl v, .inl a] => some (some (aI (if v ≤ a then v else a)))
    | _ => none) (none))))))))))))))

theorem s1_pu_ok : aPu s1_G s1_pu 3 := by
  intro y as M r h
  unfold s1_pu at h
  cases e140 : Nat.beq y 140
  rotate_left
  · rw [e140] at h
    have e := Nat.eq_of_beq_eq_true e140
    subst e
    dsimp only [cond] at h
    split at h
    · cases h; exact aC_mono (s1_q140 _ _ _ M) (by omega) (fun _ _ q => q)
    · cases h
  rw [e140] at h
  dsimp only [cond] at h
  cases e141 : Nat.beq y 141
  rotate_left
  · rw [e141] at h
    have e := Nat.eq_of_beq_eq_true e141
    subst e
    dsimp only [cond] at h
    split at h
    · cases h; exact aC_mono (s1_q141 _ M) (by omega) (fun _ _ q => q)
    · cases h
  rw [e141] at h
  dsimp only [cond] at h
  cases e142 : Nat.beq y 142
  rotate_left
  · rw [e142] at h
    have e := Nat.eq_of_beq_eq_true e142
    subst e
    dsimp only [cond] at h
    split at h
    · cases h; exact aC_mono (s1_q142 _ M) (by omega) (fun _ _ q => q)
    · cases h
  rw [e142] at h
  dsimp only [cond] at h
  cases e143 : Nat.beq y 143
  rotate_left
  · rw [e143] at h
    have e := Nat.eq_of_beq_eq_true e143
    subst e
    dsimp only [cond] at h
    split at h
    · cases h; exact aC_mono (s1_q143 _ M) (by omega) (fun _ _ q => q)
    · cases h
  rw [e143] at h
  dsimp only [cond] at h
  cases e144 : Nat.beq y 144
  rotate_left
  · rw [e144] at h
    have e := Nat.eq_of_beq_eq_true e144
    subst e
    dsimp only [cond] at h
    split at h
    · cases h; exact aC_mono (s1_q144 _ _ M) (by omega) (fun _ _ q => q)
    · cases h
  rw [e144] at h
  dsimp only [cond] at h
  cases e145 : Nat.beq y 145
  rotate_left
  · rw [e145] at h
    have e := Nat.eq_of_beq_eq_true e145
    subst e
    dsimp only [cond] at h
    split at h
    · cases h; exact aC_mono (s1_q145 _ M) (by omega) (fun _ _ q => q)
    · cases h
  rw [e145] at h
  dsimp only [cond] at h
  cases e146 : Nat.beq y 146
  rotate_left
  · rw [e146] at h
    have e := Nat.eq_of_beq_eq_true e146
    subst e
    dsimp only [cond] at h
    split at h
    · cases h; exact aC_mono (s1_q146 _ M) (by omega) (fun _ _ q => q)
    · cases h
  rw [e146] at h
  dsimp only [cond] at h
  cases e147 : Nat.beq y 147
  rotate_left
  · rw [e147] at h
    have e := Nat.eq_of_beq_eq_true e147
    subst e
    dsimp only [cond] at h
    split at h
    · cases h; exact aC_mono (s1_q147 _ M) (by omega) (fun _ _ q => q)
    · cases h
  rw [e147] at h
  dsimp only [cond] at h
  cases e148 : Nat.beq y 148
  rotate_left
  · rw [e148] at h
    have e := Nat.eq_of_beq_eq_true e148
    subst e
    dsimp only [cond] at h
    split at h
    · cases h; exact aC_mono (s1_q148 _ M) (by omega) (fun _ _ q => q)
    · cases h
  rw [e148] at h
  dsimp only [cond] at h
  cases e149 : Nat.beq y 149
  rotate_left
  · rw [e149] at h
    have e := Nat.eq_of_beq_eq_true e149
    subst e
    dsimp only [cond] at h
    split at h
    · cases h; exact aC_mono (s1_q149 _ M) (by omega) (fun _ _ q => q)
    · cases h
  rw [e149] at h
  dsimp only [cond] at h
  cases e150 : Nat.beq y 150
  rotate_left
  · rw [e150] at h
    have e := Nat.eq_of_beq_eq_true e150
    subst e
    dsimp only [cond] at h
    split at h
    · cases h; exact aC_mono (s1_q150 _ M) (by omega) (fun _ _ q => q)
    · cases h
  rw [e150] at h
  dsimp only [cond] at h
  cases e153 : Nat.beq y 153
  rotate_left
  · rw [e153] at h
    have e := Nat.eq_of_beq_eq_true e153
    subst e
    dsimp only [cond] at h
    split at h
    · cases h; exact aC_mono (s1_q153 _ M) (by omega) (fun _ _ q => q)
    · cases h
  rw [e153] at h
  dsimp only [cond] at h
  cases e154 : Nat.beq y 154
  rotate_left
  · rw [e154] at h
    have e := Nat.eq_of_beq_eq_true e154
    subst e
    dsimp only [cond] at h
    split at h
    · cases h; exact aC_mono (s1_q154 _ _ M) (by omega) (fun _ _ q => q)
    · cases h
  rw [e154] at h
  dsimp only [cond] at h
  cases e155 : Nat.beq y 155
  rotate_left
  · rw [e155] at h
    have e := Nat.eq_of_beq_eq_true e155
    subst e
    dsimp only [cond] at h
    split at h
    · cases h; exact aC_mono (s1_q155 _ _ M) (by omega) (fun _ _ q => q)
    · cases h
  rw [e155] at h
  dsimp only [cond] at h
  cases h
end
section
/-! SYSTEM 1: its blocks, read off: what is asked of a state for a block to run on (by program) -/
-- 0: DioceseBook$Canons.draft()V
set_option maxRecDepth 100000 in
set_option maxHeartbeats 4000000 in
theorem s1_Canons_draft_0 {d : Nat} (hd : 3 < d) {M : AM} {Q : Option AV → AM → Prop}
    (h : ((10 : Int) ≤ (M 3 0) → Q none M) ∧ ((M 3 0) < (10 : Int) → (0 ≤ (M 3 0) ∧ (M 3 0) < 10) ∧ (Q none (am_up (am_up M 28 (M 3 0) 0) 3 9 (a_mul ((am_up M 28 (M 3 0) 0) 3 0) 200))))) :
    aE s1_G d 0 0 [] [some (aP 3)] [] M Q := aE_go s1_pu_ok [] 96 hd h

-- 1: DioceseBook$Canons.addClause(IIII)V
set_option maxRecDepth 100000 in
set_option maxHeartbeats 4000000 in
theorem s1_Canons_addClause_0 {d : Nat} (hd : 3 < d) {M : AM} {Q : Option AV → AM → Prop} {x1 x2 x3 x4 : Int}
    (h : ((10 : Int) ≤ (M 3 0) → Q none M) ∧ ((M 3 0) < (10 : Int) → (0 ≤ (M 3 0) ∧ (M 3 0) < 10) ∧ (((12 : Int) ≤ (M 28 (M 3 0)) → Q none M) ∧ ((M 28 (M 3 0)) < (12 : Int) → (0 ≤ (M 3 0) ∧ (M 3 0) < 10) ∧ ((0 ≤ (a_add (a_mul (M 3 0) 12) (M 28 (M 3 0))) ∧ (a_add (a_mul (M 3 0) 12) (M 28 (M 3 0))) < 120) ∧ ((0 ≤ (a_add (a_mul (M 3 0) 12) (M 28 (M 3 0))) ∧ (a_add (a_mul (M 3 0) 12) (M 28 (M 3 0))) < 120) ∧ ((0 ≤ (a_add (a_mul (M 3 0) 12) (M 28 (M 3 0))) ∧ (a_add (a_mul (M 3 0) 12) (M 28 (M 3 0))) < 120) ∧ ((0 ≤ (a_add (a_mul (M 3 0) 12) (M 28 (M 3 0))) ∧ (a_add (a_mul (M 3 0) 12) (M 28 (M 3 0))) < 120) ∧ ((0 ≤ ((am_up (am_up (am_up (am_up M 31 (a_add (a_mul (M 3 0) 12) (M 28 (M 3 0))) x1) 32 (a_add (a_mul (M 3 0) 12) (M 28 (M 3 0))) x2) 33 (a_add (a_mul (M 3 0) 12) (M 28 (M 3 0))) x3) 34 (a_add (a_mul (M 3 0) 12) (M 28 (M 3 0))) x4) 3 0) ∧ ((am_up (am_up (am_up (am_up M 31 (a_add (a_mul (M 3 0) 12) (M 28 (M 3 0))) x1) 32 (a_add (a_mul (M 3 0) 12) (M 28 (M 3 0))) x2) 33 (a_add (a_mul (M 3 0) 12) (M 28 (M 3 0))) x3) 34 (a_add (a_mul (M 3 0) 12) (M 28 (M 3 0))) x4) 3 0) < 10) ∧ ((0 ≤ ((am_up (am_up (am_up (am_up M 31 (a_add (a_mul (M 3 0) 12) (M 28 (M 3 0))) x1) 32 (a_add (a_mul (M 3 0) 12) (M 28 (M 3 0))) x2) 33 (a_add (a_mul (M 3 0) 12) (M 28 (M 3 0))) x3) 34 (a_add (a_mul (M 3 0) 12) (M 28 (M 3 0))) x4) 3 0) ∧ ((am_up (am_up (am_up (am_up M 31 (a_add (a_mul (M 3 0) 12) (M 28 (M 3 0))) x1) 32 (a_add (a_mul (M 3 0) 12) (M 28 (M 3 0))) x2) 33 (a_add (a_mul (M 3 0) 12) (M 28 (M 3 0))) x3) 34 (a_add (a_mul (M 3 0) 12) (M 28 (M 3 0))) x4) 3 0) < 10) ∧ (Q none (am_up (am_up (am_up (am_up (am_up M 31 (a_add (a_mul (M 3 0) 12) (M 28 (M 3 0))) x1) 32 (a_add (a_mul (M 3 0) 12) (M 28 (M 3 0))) x2) 33 (a_add (a_mul (M 3 0) 12) (M 28 (M 3 0))) x3) 34 (a_add (a_mul (M 3 0) 12) (M 28 (M 3 0))) x4) 28 ((am_up (am_up (am_up (am_up M 31 (a_add (a_mul (M 3 0) 12) (M 28 (M 3 0))) x1) 32 (a_add (a_mul (M 3 0) 12) (M 28 (M 3 0))) x2) 33 (a_add (a_mul (M 3 0) 12) (M 28 (M 3 0))) x3) 34 (a_add (a_mul (M 3 0) 12) (M 28 (M 3 0))) x4) 3 0) (a_add ((am_up (am_up (am_up (am_up M 31 (a_add (a_mul (M 3 0) 12) (M 28 (M 3 0))) x1) 32 (a_add (a_mul (M 3 0) 12) (M 28 (M 3 0))) x2) 33 (a_add (a_mul (M 3 0) 12) (M 28 (M 3 0))) x3) 34 (a_add (a_mul (M 3 0) 12) (M 28 (M 3 0))) x4) 28 ((am_up (am_up (am_up (am_up M 31 (a_add (a_mul (M 3 0) 12) (M 28 (M 3 0))) x1) 32 (a_add (a_mul (M 3 0) 12) (M 28 (M 3 0))) x2) 33 (a_add (a_mul (M 3 0) 12) (M 28 (M 3 0))) x3) 34 (a_add (a_mul (M 3 0) 12) (M 28 (M 3 0))) x4) 3 0)) 1))))))))))))) :
    aE s1_G d 1 0 [] [some (aP 3), some (aI x1), some (aI x2), some (aI x3), some (aI x4), none] [] M Q := aE_go s1_pu_ok [] 168 hd h

-- 2: DioceseBook$Canons.addCode(I)V
set_option maxRecDepth 100000 in
set_option maxHeartbeats 4000000 in
theorem s1_Canons_addCode_0 {d : Nat} (hd : 3 < d) {M : AM} {Q : Option AV → AM → Prop} {x1 : Int}
    (h : ((a_mul (a_add (M 3 0) 1) 200) ≤ (M 3 9) → Q none M) ∧ ((M 3 9) < (a_mul (a_add (M 3 0) 1) 200) → ((2000 : Int) ≤ (M 3 9) → Q none M) ∧ ((M 3 9) < (2000 : Int) → (0 ≤ (M 3 9) ∧ (M 3 9) < 2000) ∧ (Q none (am_up (am_up M 35 (M 3 9) x1) 3 9 (a_add ((am_up M 35 (M 3 9) x1) 3 9) 1)))))) :
    aE s1_G d 2 0 [] [some (aP 3), some (aI x1)] [] M Q := aE_go s1_pu_ok [] 120 hd h

-- 3: DioceseBook$Canons.codePlace()I
set_option maxRecDepth 100000 in
set_option maxHeartbeats 4000000 in
theorem s1_Canons_codePlace_0 {d : Nat} (hd : 3 < d) {M : AM} {Q : Option AV → AM → Prop}
    (h : Q (some (aI (M 3 9))) M) :
    aE s1_G d 3 0 [] [some (aP 3)] [] M Q := aE_go s1_pu_ok [] 66 hd h

-- 4: DioceseBook$Canons.enact(I)I
set_option maxRecDepth 100000 in
set_option maxHeartbeats 4000000 in
theorem s1_Canons_enact_0 {d : Nat} (hd : 3 < d) {M : AM} {Q : Option AV → AM → Prop} {x1 : Int}
    (h : (0 ≤ (M 3 0) ∧ (M 3 0) < 10) ∧ (aE s1_G d 4 14 [] [some (aP 3), some (aI x1), some (aI (M 3 0)), some (aI (M 3 0))] [] (am_up M 29 (M 3 0) x1) Q)) :
    aE s1_G d 4 0 [] [some (aP 3), some (aI x1), none, none] [] M Q := aE_go s1_pu_ok [(14, [true, true, true, true])] 80 hd h

set_option maxRecDepth 100000 in
set_option maxHeartbeats 4000000 in
theorem s1_Canons_enact_14 {d : Nat} (hd : 3 < d) {M : AM} {Q : Option AV → AM → Prop} {x1 x2 x3 : Int}
    (h : (x3 ≤ (0 : Int) → (0 ≤ x3 ∧ x3 < 10) ∧ (Q (some (aI x2)) (am_up (am_up (am_up M 30 x3 x2) 3 0 (a_add ((am_up M 30 x3 x2) 3 0) 1)) 3 10 (-1)))) ∧ ((0 : Int) < x3 → (0 ≤ (a_sub x3 1) ∧ (a_sub x3 1) < 10) ∧ ((0 ≤ (M 30 (a_sub x3 1)) ∧ (M 30 (a_sub x3 1)) < 10) ∧ (((M 29 (M 30 (a_sub x3 1))) ≤ x1 → (0 ≤ x3 ∧ x3 < 10) ∧ (Q (some (aI x2)) (am_up (am_up (am_up M 30 x3 x2) 3 0 (a_add ((am_up M 30 x3 x2) 3 0) 1)) 3 10 (-1)))) ∧ (x1 < (M 29 (M 30 (a_sub x3 1))) → (0 ≤ (a_sub x3 1) ∧ (a_sub x3 1) < 10) ∧ ((0 ≤ x3 ∧ x3 < 10) ∧ (aE s1_G d 4 14 [] [some (aP 3), some (aI x1), some (aI x2), some (aI (a_add x3 (-1)))] [] (am_up M 30 x3 (M 30 (a_sub x3 1))) Q))))))) :
    aE s1_G d 4 14 [] [some (aP 3), some (aI x1), some (aI x2), some (aI x3)] [] M Q := aE_go s1_pu_ok [(14, [true, true, true, true])] 174 hd h

-- 5: DioceseBook$Canons.isCounting(I)Z
set_option maxRecDepth 100000 in
set_option maxHeartbeats 4000000 in
theorem s1_Canons_isCounting_0 {d : Nat} (hd : 3 < d) {M : AM} {Q : Option AV → AM → Prop} {x1 : Int}
    (h : ((a_and (a_shr (M 3 11) x1) 1) ≠ (1 : Int) → ((0 : Int) = 0 ∨ (0 : Int) = 1) ∧ Q (some (aI 0)) M) ∧ ((a_and (a_shr (M 3 11) x1) 1) = (1 : Int) → ((1 : Int) = 0 ∨ (1 : Int) = 1) ∧ Q (some (aI 1)) M)) :
    aE s1_G d 5 0 [] [some (aP 3), some (aI x1)] [] M Q := aE_go s1_pu_ok [] 86 hd h

-- 6: DioceseBook$Canons.numberOn(II)I
set_option maxRecDepth 100000 in
set_option maxHeartbeats 4000000 in
theorem s1_Canons_numberOn_0 {d : Nat} (hd : 3 < d) {M : AM} {Q : Option AV → AM → Prop} {x1 x2 : Int}
    (h : aKv s1_G d 7 [aP 3, aI x2] M (fun M1 => (0 ≤ x1 ∧ x1 < 8) ∧ (Q (some (aI (M1 36 x1))) M1))) :
    aE s1_G d 6 0 [] [some (aP 3), some (aI x1), some (aI x2)] [] M Q := aE_go s1_pu_ok [] 76 hd h

-- 7: DioceseBook$Canons.settle(I)V
set_option maxRecDepth 100000 in
set_option maxHeartbeats 4000000 in
theorem s1_Canons_settle_0 {d : Nat} (hd : 3 < d) {M : AM} {Q : Option AV → AM → Prop} {x1 : Int}
    (h : ((M 3 10) ≠ x1 → aE s1_G d 7 28 [] [some (aP 3), some (aI x1), some (aI 0), some (aI (a_sub ((am_up (am_up M 3 10 x1) 3 11 0) 3 0) 1))] [] (am_up (am_up M 3 10 x1) 3 11 0) Q) ∧ ((M 3 10) = x1 → Q none M)) :
    aE s1_G d 7 0 [] [some (aP 3), some (aI x1), none, none] [] M Q := aE_go s1_pu_ok [(28, [true, true, true, true]), (78, [true, false, false, true]), (110, [true, false, false, true])] 96 hd h

set_option maxRecDepth 100000 in
set_option maxHeartbeats 4000000 in
theorem s1_Canons_settle_28 {d : Nat} (hd : 3 < d) {M : AM} {Q : Option AV → AM → Prop} {x1 x2 x3 : Int}
    (h : (x3 < (0 : Int) → aE s1_G d 7 78 [] [some (aP 3), none, none, some (aI 0)] [] M Q) ∧ ((0 : Int) ≤ x3 → (0 ≤ x3 ∧ x3 < 10) ∧ ((x1 < (M 29 x3) → aE s1_G d 7 28 [] [some (aP 3), some (aI x1), some (aI x2), some (aI (a_add x3 (-1)))] [] M Q) ∧ ((M 29 x3) ≤ x1 → ((a_and (a_shr x2 x3) 1) ≠ (0 : Int) → aE s1_G d 7 28 [] [some (aP 3), some (aI x1), some (aI x2), some (aI (a_add x3 (-1)))] [] M Q) ∧ ((a_and (a_shr x2 x3) 1) = (0 : Int) → aKi s1_G d 8 [aP 3, aI x3] (am_up M 3 11 (a_or (M 3 11) (a_shl 1 x3))) (fun z2 M1 => aE s1_G d 7 28 [] [some (aP 3), some (aI x1), some (aI (a_or x2 z2)), some (aI (a_add x3 (-1)))] [] M1 Q)))))) :
    aE s1_G d 7 28 [] [some (aP 3), some (aI x1), some (aI x2), some (aI x3)] [] M Q := aE_go s1_pu_ok [(28, [true, true, true, true]), (78, [true, false, false, true]), (110, [true, false, false, true])] 132 hd h

set_option maxRecDepth 100000 in
set_option maxHeartbeats 4000000 in
theorem s1_Canons_settle_78 {d : Nat} (hd : 3 < d) {M : AM} {Q : Option AV → AM → Prop} {x3 : Int}
    (h : ((8 : Int) ≤ x3 → aE s1_G d 7 110 [] [some (aP 3), none, none, some (aI 0)] [] M Q) ∧ (x3 < (8 : Int) → (0 ≤ x3 ∧ x3 < 8) ∧ ((0 ≤ x3 ∧ x3 < 8) ∧ ((0 ≤ x3 ∧ x3 < 8) ∧ (aE s1_G d 7 78 [] [some (aP 3), none, none, some (aI (a_add x3 1))] [] (am_up (am_up M 36 x3 (List.getD [6, 30, 100, 0, 0, 0, 0, 0] (Int.toNat x3) 0)) 37 x3 (-1)) Q))))) :
    aE s1_G d 7 78 [] [some (aP 3), none, none, some (aI x3)] [] M Q := aE_go s1_pu_ok [(28, [true, true, true, true]), (78, [true, false, false, true]), (110, [true, false, false, true])] 98 hd h

set_option maxRecDepth 100000 in
set_option maxHeartbeats 4000000 in
theorem s1_Canons_settle_110 {d : Nat} (hd : 3 < d) {M : AM} {Q : Option AV → AM → Prop} {x3 : Int}
    (h : ((M 3 0) ≤ x3 → Q none M) ∧ (x3 < (M 3 0) → (0 ≤ x3 ∧ x3 < 10) ∧ (aKi s1_G d 5 [aP 3, aI (M 30 x3)] M (fun z2 M1 => (z2 = (0 : Int) → aE s1_G d 7 110 [] [some (aP 3), none, none, some (aI (a_add x3 1))] [] M1 Q) ∧ (z2 ≠ (0 : Int) → (0 ≤ x3 ∧ x3 < 10) ∧ (aKv s1_G d 9 [aP 3, aI (M1 30 x3)] M1 (fun M3 => aE s1_G d 7 110 [] [some (aP 3), none, none, some (aI (a_add x3 1))] [] M3 Q))))))) :
    aE s1_G d 7 110 [] [some (aP 3), none, none, some (aI x3)] [] M Q := aE_go s1_pu_ok [(28, [true, true, true, true]), (78, [true, false, false, true]), (110, [true, false, false, true])] 104 hd h

-- 8: DioceseBook$Canons.struckBy(I)I
set_option maxRecDepth 100000 in
set_option maxHeartbeats 4000000 in
theorem s1_Canons_struckBy_0 {d : Nat} (hd : 3 < d) {M : AM} {Q : Option AV → AM → Prop} {x1 : Int}
    (h : aE s1_G d 8 7 [] [some (aP 3), some (aI x1), some (aI 0), some (aI (a_mul x1 12))] [] M Q) :
    aE s1_G d 8 0 [] [some (aP 3), some (aI x1), none, none] [] M Q := aE_go s1_pu_ok [(7, [true, true, true, true])] 72 hd h

set_option maxRecDepth 100000 in
set_option maxHeartbeats 4000000 in
theorem s1_Canons_struckBy_7 {d : Nat} (hd : 3 < d) {M : AM} {Q : Option AV → AM → Prop} {x1 x2 x3 : Int}
    (h : (0 ≤ x1 ∧ x1 < 10) ∧ (((a_add (a_mul x1 12) (M 28 x1)) ≤ x3 → Q (some (aI x2)) M) ∧ (x3 < (a_add (a_mul x1 12) (M 28 x1)) → (0 ≤ x3 ∧ x3 < 120) ∧ (((M 31 x3) ≠ (2 : Int) → aE s1_G d 8 7 [] [some (aP 3), some (aI x1), some (aI x2), some (aI (a_add x3 1))] [] M Q) ∧ ((M 31 x3) = (2 : Int) → (0 ≤ x3 ∧ x3 < 120) ∧ (aE s1_G d 8 7 [] [some (aP 3), some (aI x1), some (aI (a_or x2 (a_shl 1 (M 32 x3)))), some (aI (a_add x3 1))] [] M Q)))))) :
    aE s1_G d 8 7 [] [some (aP 3), some (aI x1), some (aI x2), some (aI x3)] [] M Q := aE_go s1_pu_ok [(7, [true, true, true, true])] 122 hd h

-- 9: DioceseBook$Canons.letAll(I)V
set_option maxRecDepth 100000 in
set_option maxHeartbeats 4000000 in
theorem s1_Canons_letAll_0 {d : Nat} (hd : 3 < d) {M : AM} {Q : Option AV → AM → Prop} {x1 : Int}
    (h : aE s1_G d 9 5 [] [some (aP 3), some (aI x1), some (aI (a_mul x1 12))] [] M Q) :
    aE s1_G d 9 0 [] [some (aP 3), some (aI x1), none] [] M Q := aE_go s1_pu_ok [(5, [true, true, true])] 68 hd h

set_option maxRecDepth 100000 in
set_option maxHeartbeats 4000000 in
theorem s1_Canons_letAll_5 {d : Nat} (hd : 3 < d) {M : AM} {Q : Option AV → AM → Prop} {x1 x2 : Int}
    (h : (0 ≤ x1 ∧ x1 < 10) ∧ (((a_add (a_mul x1 12) (M 28 x1)) ≤ x2 → Q none M) ∧ (x2 < (a_add (a_mul x1 12) (M 28 x1)) → (0 ≤ x2 ∧ x2 < 120) ∧ (((M 31 x2) ≠ (0 : Int) → aE s1_G d 9 5 [] [some (aP 3), some (aI x1), some (aI (a_add x2 1))] [] M Q) ∧ ((M 31 x2) = (0 : Int) → (0 ≤ x2 ∧ x2 < 120) ∧ ((0 ≤ x2 ∧ x2 < 120) ∧ ((0 ≤ (M 32 x2) ∧ (M 32 x2) < 8) ∧ ((0 ≤ x2 ∧ x2 < 120) ∧ ((0 ≤ ((am_up M 36 (M 32 x2) (M 33 x2)) 32 x2) ∧ ((am_up M 36 (M 32 x2) (M 33 x2)) 32 x2) < 8) ∧ (aE s1_G d 9 5 [] [some (aP 3), some (aI x1), some (aI (a_add x2 1))] [] (am_up (am_up M 36 (M 32 x2) (M 33 x2)) 37 ((am_up M 36 (M 32 x2) (M 33 x2)) 32 x2) x1) Q)))))))))) :
    aE s1_G d 9 5 [] [some (aP 3), some (aI x1), some (aI x2)] [] M Q := aE_go s1_pu_ok [(5, [true, true, true])] 138 hd h

-- 10: DioceseBook$Canons.firstBar(I[I)I
set_option maxRecDepth 100000 in
set_option maxHeartbeats 4000000 in
theorem s1_Canons_firstBar_0 {d : Nat} (hd : 3 < d) {M : AM} {Q : Option AV → AM → Prop} {x1 : Int}
    (h : aKv s1_G d 7 [aP 3, aI x1] M (fun M1 => aE s1_G d 10 7 [] [some (aP 3), none, some (aP 55), some (aI 0), none, none, none] [] M1 Q)) :
    aE s1_G d 10 0 [] [some (aP 3), some (aI x1), some (aP 55), none, none, none, none] [] M Q := aE_go s1_pu_ok [(7, [true, false, true, true, false, false, false]), (26, [true, false, true, true, true, true, false])] 70 hd h

set_option maxRecDepth 100000 in
set_option maxHeartbeats 4000000 in
theorem s1_Canons_firstBar_7 {d : Nat} (hd : 3 < d) {M : AM} {Q : Option AV → AM → Prop} {x3 : Int}
    (h : ((M 3 0) ≤ x3 → Q (some (aI (-1))) M) ∧ (x3 < (M 3 0) → (0 ≤ x3 ∧ x3 < 10) ∧ (aE s1_G d 10 26 [] [some (aP 3), none, some (aP 55), some (aI x3), some (aI (M 30 x3)), some (aI 0), none] [] M Q))) :
    aE s1_G d 10 7 [] [some (aP 3), none, some (aP 55), some (aI x3), none, none, none] [] M Q := aE_go s1_pu_ok [(7, [true, false, true, true, false, false, false]), (26, [true, false, true, true, true, true, false])] 86 hd h

set_option maxRecDepth 100000 in
set_option maxHeartbeats 4000000 in
theorem s1_Canons_firstBar_26 {d : Nat} (hd : 3 < d) {M : AM} {Q : Option AV → AM → Prop} {x3 x4 x5 : Int}
    (h : (0 ≤ x4 ∧ x4 < 10) ∧ (((M 28 x4) ≤ x5 → aE s1_G d 10 7 [] [some (aP 3), none, some (aP 55), some (aI (a_add x3 1)), none, none, none] [] M Q) ∧ (x5 < (M 28 x4) → aKi s1_G d 5 [aP 3, aI x4] M (fun z2 M1 => (z2 = (0 : Int) → aE s1_G d 10 7 [] [some (aP 3), none, some (aP 55), some (aI (a_add x3 1)), none, none, none] [] M1 Q) ∧ (z2 ≠ (0 : Int) → (0 ≤ (a_add (a_mul x4 12) x5) ∧ (a_add (a_mul x4 12) x5) < 120) ∧ (((M1 31 (a_add (a_mul x4 12) x5)) ≠ (1 : Int) → aE s1_G d 10 26 [] [some (aP 3), none, some (aP 55), some (aI x3), some (aI x4), some (aI (a_add x5 1)), none] [] M1 Q) ∧ ((M1 31 (a_add (a_mul x4 12) x5)) = (1 : Int) → (0 ≤ (a_add (a_mul x4 12) x5) ∧ (a_add (a_mul x4 12) x5) < 120) ∧ ((0 ≤ (a_add (a_mul x4 12) x5) ∧ (a_add (a_mul x4 12) x5) < 120) ∧ (aKi s1_G d 11 [aP 3, aI (M1 32 (a_add (a_mul x4 12) x5)), aI (M1 33 (a_add (a_mul x4 12) x5)), aP 55] M1 (fun z4 M3 => (z4 = (0 : Int) → aE s1_G d 10 26 [] [some (aP 3), none, some (aP 55), some (aI x3), some (aI x4), some (aI (a_add x5 1)), none] [] M3 Q) ∧ (z4 ≠ (0 : Int) → (0 ≤ (a_add (a_mul x4 12) x5) ∧ (a_add (a_mul x4 12) x5) < 120) ∧ ((0 ≤ (a_add (a_mul x4 12) x5) ∧ (a_add (a_mul x4 12) x5) < 120) ∧ (((M3 34 (a_add (a_mul x4 12) x5)) ≤ (M3 33 (a_add (a_mul x4 12) x5)) → Q (some (aI (a_add (a_mul 100 x4) x5))) M3) ∧ ((M3 33 (a_add (a_mul x4 12) x5)) < (M3 34 (a_add (a_mul x4 12) x5)) → (0 ≤ (a_add (a_mul x4 12) x5) ∧ (a_add (a_mul x4 12) x5) < 120) ∧ ((0 ≤ (a_add (a_mul x4 12) x5) ∧ (a_add (a_mul x4 12) x5) < 120) ∧ (aKi s1_G d 11 [aP 3, aI (M3 33 (a_add (a_mul x4 12) x5)), aI (M3 34 (a_add (a_mul x4 12) x5)), aP 55] M3 (fun z6 M5 => (z6 ≠ (0 : Int) → aE s1_G d 10 26 [] [some (aP 3), none, some (aP 55), some (aI x3), some (aI x4), some (aI (a_add x5 1)), none] [] M5 Q) ∧ (z6 = (0 : Int) → Q (some (aI (a_add (a_mul 100 x4) x5))) M5)))))))))))))))))) :
    aE s1_G d 10 26 [] [some (aP 3), none, some (aP 55), some (aI x3), some (aI x4), some (aI x5), none] [] M Q := aE_go s1_pu_ok [(7, [true, false, true, true, false, false, false]), (26, [true, false, true, true, true, true, false])] 214 hd h

-- 11: DioceseBook$Canons.isMet(II[I)Z
set_option maxRecDepth 100000 in
set_option maxHeartbeats 4000000 in
theorem s1_Canons_isMet_0 {d : Nat} (hd : 3 < d) {M : AM} {Q : Option AV → AM → Prop} {x1 x2 : Int}
    (h : aE s1_G d 11 6 [] [some (aP 3), none, some (aI x2), some (aP 55), some (aL 0), none, some (aI x1), none, none] [] M Q) :
    aE s1_G d 11 0 [] [some (aP 3), some (aI x1), some (aI x2), some (aP 55), none, none, none, none, none] [] M Q := aE_go s1_pu_ok [(6, [true, false, true, true, true, false, true, false, false])] 68 hd h

set_option maxRecDepth 100000 in
set_option maxHeartbeats 4000000 in
theorem s1_Canons_isMet_6 {d : Nat} (hd : 3 < d) {M : AM} {Q : Option AV → AM → Prop} {x2 x4 x6 : Int}
    (h : (x2 ≤ x6 → ((a_cmp (a_land x4 1) 1) ≠ (0 : Int) → ((0 : Int) = 0 ∨ (0 : Int) = 1) ∧ Q (some (aI 0)) M) ∧ ((a_cmp (a_land x4 1) 1) = (0 : Int) → ((1 : Int) = 0 ∨ (1 : Int) = 1) ∧ Q (some (aI 1)) M)) ∧ (x6 < x2 → (0 ≤ x6 ∧ x6 < 2000) ∧ ((((M 35 x6) = (-3) → aE s1_G d 11 6 [] [some (aP 3), none, some (aI x2), some (aP 55), some (aL (a_lxor x4 1)), none, some (aI (a_add x6 1)), none, none] [] M Q) ∧ ((M 35 x6) = (-2) → aE s1_G d 11 6 [] [some (aP 3), none, some (aI x2), some (aP 55), some (aL (a_lor (a_lushr x4 1) (a_land x4 1))), none, some (aI (a_add x6 1)), none, none] [] M Q) ∧ ((M 35 x6) = (-1) → aE s1_G d 11 6 [] [some (aP 3), none, some (aI x2), some (aP 55), some (aL (a_land (a_lushr x4 1) (a_lor (-2) (a_land x4 1)))), none, some (aI (a_add x6 1)), none, none] [] M Q) ∧ True) ∧ ((M 35 x6) < (-3) ∨ (-1) < (M 35 x6) → (0 ≤ x6 ∧ x6 < 2000) ∧ (aKi s1_G d 12 [aI (M 35 x6), aP 55] M (fun z2 M1 => aE s1_G d 11 6 [] [some (aP 3), none, some (aI x2), some (aP 55), some (aL (a_lor (a_lshl x4 1) (a_bl (z2 ≠ 0)))), none, some (aI (a_add x6 1)), none, none] [] M1 Q)))))) :
    aE s1_G d 11 6 [] [some (aP 3), none, some (aI x2), some (aP 55), some (aL x4), none, some (aI x6), none, none] [] M Q := aE_go s1_pu_ok [(6, [true, false, true, true, true, false, true, false, false])] 198 hd h

-- 12: DioceseBook$Canons.compares(I[I)Z
set_option maxRecDepth 100000 in
set_option maxHeartbeats 4000000 in
theorem s1_Canons_compares_0 {d : Nat} (hd : 3 < d) {M : AM} {Q : Option AV → AM → Prop} {x0 : Int}
    (h : (30000 : Int) ≠ 0 ∧ ((0 ≤ (a_div x0 30000) ∧ (a_div x0 30000) < 6) ∧ ((10000 : Int) ≠ 0 ∧ ((3 : Int) ≠ 0 ∧ ((10000 : Int) ≠ 0 ∧ (((M 55 (a_div x0 30000)) ≠ ((-1) : Int) → ((a_rem (a_div x0 10000) 3) ≠ (0 : Int) → ((a_rem (a_div x0 10000) 3) ≠ (1 : Int) → ((M 55 (a_div x0 30000)) ≠ (a_rem x0 10000) → ((0 : Int) = 0 ∨ (0 : Int) = 1) ∧ Q (some (aI 0)) M) ∧ ((M 55 (a_div x0 30000)) = (a_rem x0 10000) → ((1 : Int) = 0 ∨ (1 : Int) = 1) ∧ Q (some (aI 1)) M)) ∧ ((a_rem (a_div x0 10000) 3) = (1 : Int) → ((M 55 (a_div x0 30000)) ≤ (a_rem x0 10000) → ((0 : Int) = 0 ∨ (0 : Int) = 1) ∧ Q (some (aI 0)) M) ∧ ((a_rem x0 10000) < (M 55 (a_div x0 30000)) → ((1 : Int) = 0 ∨ (1 : Int) = 1) ∧ Q (some (aI 1)) M))) ∧ ((a_rem (a_div x0 10000) 3) = (0 : Int) → ((a_rem x0 10000) ≤ (M 55 (a_div x0 30000)) → ((0 : Int) = 0 ∨ (0 : Int) = 1) ∧ Q (some (aI 0)) M) ∧ ((M 55 (a_div x0 30000)) < (a_rem x0 10000) → ((1 : Int) = 0 ∨ (1 : Int) = 1) ∧ Q (some (aI 1)) M))) ∧ ((M 55 (a_div x0 30000)) = ((-1) : Int) → ((0 : Int) = 0 ∨ (0 : Int) = 1) ∧ Q (some (aI 0)) M))))))) :
    aE s1_G d 12 0 [] [some (aI x0), some (aP 55), none, none, none] [] M Q := aE_go s1_pu_ok [] 162 hd h

-- 13: DioceseBook$Changes.stateOf(I)I
set_option maxRecDepth 100000 in
set_option maxHeartbeats 4000000 in
theorem s1_Changes_stateOf_0 {d : Nat} (hd : 3 < d) {M : AM} {Q : Option AV → AM → Prop} {x0 : Int}
    (h : Q (some (aI (if x0 ≤ 2 then x0 else 2))) M) :
    aE s1_G d 13 0 [] [some (aI x0)] [] M Q := aE_go s1_pu_ok [] 68 hd h

-- 14: DioceseBook$Changes.clearAll()V
set_option maxRecDepth 100000 in
set_option maxHeartbeats 4000000 in
theorem s1_Changes_clearAll_0 {d : Nat} (hd : 3 < d) {M : AM} {Q : Option AV → AM → Prop}
    (h : Q none (am_up M 6 6 0)) :
    aE s1_G d 14 0 [] [some (aP 6)] [] M Q := aE_go s1_pu_ok [] 68 hd h

-- 15: DioceseBook$Changes.note(IIZIII)V
set_option maxRecDepth 100000 in
set_option maxHeartbeats 4000000 in
theorem s1_Changes_note_0 {d : Nat} (hd : 3 < d) {M : AM} {Q : Option AV → AM → Prop} {x1 x2 x3 x4 x5 x6 : Int}
    (h : ((300 : Int) ≤ (M 6 6) → Q none M) ∧ ((M 6 6) < (300 : Int) → (0 ≤ (M 6 6) ∧ (M 6 6) < 300) ∧ ((0 ≤ ((am_up M 47 (M 6 6) x1) 6 6) ∧ ((am_up M 47 (M 6 6) x1) 6 6) < 300) ∧ ((0 ≤ ((am_up (am_up M 47 (M 6 6) x1) 48 ((am_up M 47 (M 6 6) x1) 6 6) x2) 6 6) ∧ ((am_up (am_up M 47 (M 6 6) x1) 48 ((am_up M 47 (M 6 6) x1) 6 6) x2) 6 6) < 300) ∧ ((x3 = 0 ∨ x3 = 1) ∧ ((0 ≤ ((am_up (am_up (am_up M 47 (M 6 6) x1) 48 ((am_up M 47 (M 6 6) x1) 6 6) x2) 49 ((am_up (am_up M 47 (M 6 6) x1) 48 ((am_up M 47 (M 6 6) x1) 6 6) x2) 6 6) x3) 6 6) ∧ ((am_up (am_up (am_up M 47 (M 6 6) x1) 48 ((am_up M 47 (M 6 6) x1) 6 6) x2) 49 ((am_up (am_up M 47 (M 6 6) x1) 48 ((am_up M 47 (M 6 6) x1) 6 6) x2) 6 6) x3) 6 6) < 300) ∧ ((0 ≤ ((am_up (am_up (am_up (am_up M 47 (M 6 6) x1) 48 ((am_up M 47 (M 6 6) x1) 6 6) x2) 49 ((am_up (am_up M 47 (M 6 6) x1) 48 ((am_up M 47 (M 6 6) x1) 6 6) x2) 6 6) x3) 44 ((am_up (am_up (am_up M 47 (M 6 6) x1) 48 ((am_up M 47 (M 6 6) x1) 6 6) x2) 49 ((am_up (am_up M 47 (M 6 6) x1) 48 ((am_up M 47 (M 6 6) x1) 6 6) x2) 6 6) x3) 6 6) x4) 6 6) ∧ ((am_up (am_up (am_up (am_up M 47 (M 6 6) x1) 48 ((am_up M 47 (M 6 6) x1) 6 6) x2) 49 ((am_up (am_up M 47 (M 6 6) x1) 48 ((am_up M 47 (M 6 6) x1) 6 6) x2) 6 6) x3) 44 ((am_up (am_up (am_up M 47 (M 6 6) x1) 48 ((am_up M 47 (M 6 6) x1) 6 6) x2) 49 ((am_up (am_up M 47 (M 6 6) x1) 48 ((am_up M 47 (M 6 6) x1) 6 6) x2) 6 6) x3) 6 6) x4) 6 6) < 300) ∧ ((0 ≤ ((am_up (am_up (am_up (am_up (am_up M 47 (M 6 6) x1) 48 ((am_up M 47 (M 6 6) x1) 6 6) x2) 49 ((am_up (am_up M 47 (M 6 6) x1) 48 ((am_up M 47 (M 6 6) x1) 6 6) x2) 6 6) x3) 44 ((am_up (am_up (am_up M 47 (M 6 6) x1) 48 ((am_up M 47 (M 6 6) x1) 6 6) x2) 49 ((am_up (am_up M 47 (M 6 6) x1) 48 ((am_up M 47 (M 6 6) x1) 6 6) x2) 6 6) x3) 6 6) x4) 45 ((am_up (am_up (am_up (am_up M 47 (M 6 6) x1) 48 ((am_up M 47 (M 6 6) x1) 6 6) x2) 49 ((am_up (am_up M 47 (M 6 6) x1) 48 ((am_up M 47 (M 6 6) x1) 6 6) x2) 6 6) x3) 44 ((am_up (am_up (am_up M 47 (M 6 6) x1) 48 ((am_up M 47 (M 6 6) x1) 6 6) x2) 49 ((am_up (am_up M 47 (M 6 6) x1) 48 ((am_up M 47 (M 6 6) x1) 6 6) x2) 6 6) x3) 6 6) x4) 6 6) x5) 6 6) ∧ ((am_up (am_up (am_up (am_up (am_up M 47 (M 6 6) x1) 48 ((am_up M 47 (M 6 6) x1) 6 6) x2) 49 ((am_up (am_up M 47 (M 6 6) x1) 48 ((am_up M 47 (M 6 6) x1) 6 6) x2) 6 6) x3) 44 ((am_up (am_up (am_up M 47 (M 6 6) x1) 48 ((am_up M 47 (M 6 6) x1) 6 6) x2) 49 ((am_up (am_up M 47 (M 6 6) x1) 48 ((am_up M 47 (M 6 6) x1) 6 6) x2) 6 6) x3) 6 6) x4) 45 ((am_up (am_up (am_up (am_up M 47 (M 6 6) x1) 48 ((am_up M 47 (M 6 6) x1) 6 6) x2) 49 ((am_up (am_up M 47 (M 6 6) x1) 48 ((am_up M 47 (M 6 6) x1) 6 6) x2) 6 6) x3) 44 ((am_up (am_up (am_up M 47 (M 6 6) x1) 48 ((am_up M 47 (M 6 6) x1) 6 6) x2) 49 ((am_up (am_up M 47 (M 6 6) x1) 48 ((am_up M 47 (M 6 6) x1) 6 6) x2) 6 6) x3) 6 6) x4) 6 6) x5) 6 6) < 300) ∧ (Q none (am_up (am_up (am_up (am_up (am_up (am_up (am_up M 47 (M 6 6) x1) 48 ((am_up M 47 (M 6 6) x1) 6 6) x2) 49 ((am_up (am_up M 47 (M 6 6) x1) 48 ((am_up M 47 (M 6 6) x1) 6 6) x2) 6 6) x3) 44 ((am_up (am_up (am_up M 47 (M 6 6) x1) 48 ((am_up M 47 (M 6 6) x1) 6 6) x2) 49 ((am_up (am_up M 47 (M 6 6) x1) 48 ((am_up M 47 (M 6 6) x1) 6 6) x2) 6 6) x3) 6 6) x4) 45 ((am_up (am_up (am_up (am_up M 47 (M 6 6) x1) 48 ((am_up M 47 (M 6 6) x1) 6 6) x2) 49 ((am_up (am_up M 47 (M 6 6) x1) 48 ((am_up M 47 (M 6 6) x1) 6 6) x2) 6 6) x3) 44 ((am_up (am_up (am_up M 47 (M 6 6) x1) 48 ((am_up M 47 (M 6 6) x1) 6 6) x2) 49 ((am_up (am_up M 47 (M 6 6) x1) 48 ((am_up M 47 (M 6 6) x1) 6 6) x2) 6 6) x3) 6 6) x4) 6 6) x5) 46 ((am_up (am_up (am_up (am_up (am_up M 47 (M 6 6) x1) 48 ((am_up M 47 (M 6 6) x1) 6 6) x2) 49 ((am_up (am_up M 47 (M 6 6) x1) 48 ((am_up M 47 (M 6 6) x1) 6 6) x2) 6 6) x3) 44 ((am_up (am_up (am_up M 47 (M 6 6) x1) 48 ((am_up M 47 (M 6 6) x1) 6 6) x2) 49 ((am_up (am_up M 47 (M 6 6) x1) 48 ((am_up M 47 (M 6 6) x1) 6 6) x2) 6 6) x3) 6 6) x4) 45 ((am_up (am_up (am_up (am_up M 47 (M 6 6) x1) 48 ((am_up M 47 (M 6 6) x1) 6 6) x2) 49 ((am_up (am_up M 47 (M 6 6) x1) 48 ((am_up M 47 (M 6 6) x1) 6 6) x2) 6 6) x3) 44 ((am_up (am_up (am_up M 47 (M 6 6) x1) 48 ((am_up M 47 (M 6 6) x1) 6 6) x2) 49 ((am_up (am_up M 47 (M 6 6) x1) 48 ((am_up M 47 (M 6 6) x1) 6 6) x2) 6 6) x3) 6 6) x4) 6 6) x5) 6 6) x6) 6 6 (a_add ((am_up (am_up (am_up (am_up (am_up (am_up M 47 (M 6 6) x1) 48 ((am_up M 47 (M 6 6) x1) 6 6) x2) 49 ((am_up (am_up M 47 (M 6 6) x1) 48 ((am_up M 47 (M 6 6) x1) 6 6) x2) 6 6) x3) 44 ((am_up (am_up (am_up M 47 (M 6 6) x1) 48 ((am_up M 47 (M 6 6) x1) 6 6) x2) 49 ((am_up (am_up M 47 (M 6 6) x1) 48 ((am_up M 47 (M 6 6) x1) 6 6) x2) 6 6) x3) 6 6) x4) 45 ((am_up (am_up (am_up (am_up M 47 (M 6 6) x1) 48 ((am_up M 47 (M 6 6) x1) 6 6) x2) 49 ((am_up (am_up M 47 (M 6 6) x1) 48 ((am_up M 47 (M 6 6) x1) 6 6) x2) 6 6) x3) 44 ((am_up (am_up (am_up M 47 (M 6 6) x1) 48 ((am_up M 47 (M 6 6) x1) 6 6) x2) 49 ((am_up (am_up M 47 (M 6 6) x1) 48 ((am_up M 47 (M 6 6) x1) 6 6) x2) 6 6) x3) 6 6) x4) 6 6) x5) 46 ((am_up (am_up (am_up (am_up (am_up M 47 (M 6 6) x1) 48 ((am_up M 47 (M 6 6) x1) 6 6) x2) 49 ((am_up (am_up M 47 (M 6 6) x1) 48 ((am_up M 47 (M 6 6) x1) 6 6) x2) 6 6) x3) 44 ((am_up (am_up (am_up M 47 (M 6 6) x1) 48 ((am_up M 47 (M 6 6) x1) 6 6) x2) 49 ((am_up (am_up M 47 (M 6 6) x1) 48 ((am_up M 47 (M 6 6) x1) 6 6) x2) 6 6) x3) 6 6) x4) 45 ((am_up (am_up (am_up (am_up M 47 (M 6 6) x1) 48 ((am_up M 47 (M 6 6) x1) 6 6) x2) 49 ((am_up (am_up M 47 (M 6 6) x1) 48 ((am_up M 47 (M 6 6) x1) 6 6) x2) 6 6) x3) 44 ((am_up (am_up (am_up M 47 (M 6 6) x1) 48 ((am_up M 47 (M 6 6) x1) 6 6) x2) 49 ((am_up (am_up M 47 (M 6 6) x1) 48 ((am_up M 47 (M 6 6) x1) 6 6) x2) 6 6) x3) 6 6) x4) 6 6) x5) 6 6) x6) 6 6) 1))))))))))) :
    aE s1_G d 15 0 [] [some (aP 6), some (aI x1), some (aI x2), some (aI x3), some (aI x4), some (aI x5), some (aI x6)] [] M Q := aE_go s1_pu_ok [] 156 hd h

-- 16: DioceseBook$Changes.rowOf(II)I
set_option maxRecDepth 100000 in
set_option maxHeartbeats 4000000 in
theorem s1_Changes_rowOf_0 {d : Nat} (hd : 3 < d) {M : AM} {Q : Option AV → AM → Prop} {x1 x2 : Int}
    (h : aE s1_G d 16 5 [] [some (aP 6), some (aI x1), some (aI x2), some (aI 0), some (aI 0)] [] M Q) :
    aE s1_G d 16 0 [] [some (aP 6), some (aI x1), some (aI x2), none, none] [] M Q := aE_go s1_pu_ok [(5, [true, true, true, true, true])] 68 hd h

set_option maxRecDepth 100000 in
set_option maxHeartbeats 4000000 in
theorem s1_Changes_rowOf_5 {d : Nat} (hd : 3 < d) {M : AM} {Q : Option AV → AM → Prop} {x1 x2 x3 x4 : Int}
    (h : ((M 6 6) ≤ x4 → Q (some (aI (-1))) M) ∧ (x4 < (M 6 6) → (0 ≤ x4 ∧ x4 < 300) ∧ (((M 47 x4) ≠ x1 → aE s1_G d 16 5 [] [some (aP 6), some (aI x1), some (aI x2), some (aI x3), some (aI (a_add x4 1))] [] M Q) ∧ ((M 47 x4) = x1 → (x3 ≠ x2 → aE s1_G d 16 5 [] [some (aP 6), some (aI x1), some (aI x2), some (aI (a_add x3 1)), some (aI (a_add x4 1))] [] M Q) ∧ (x3 = x2 → Q (some (aI x4)) M))))) :
    aE s1_G d 16 5 [] [some (aP 6), some (aI x1), some (aI x2), some (aI x3), some (aI x4)] [] M Q := aE_go s1_pu_ok [(5, [true, true, true, true, true])] 104 hd h

-- 17: DioceseBook$Changes.lastFall(II)I
set_option maxRecDepth 100000 in
set_option maxHeartbeats 4000000 in
theorem s1_Changes_lastFall_0 {d : Nat} (hd : 3 < d) {M : AM} {Q : Option AV → AM → Prop} {x1 x2 : Int}
    (h : aE s1_G d 17 7 [] [some (aP 6), some (aI x1), some (aI x2), some (aI (a_sub (M 6 6) 1))] [] M Q) :
    aE s1_G d 17 0 [] [some (aP 6), some (aI x1), some (aI x2), none] [] M Q := aE_go s1_pu_ok [(7, [true, true, true, true])] 70 hd h

set_option maxRecDepth 100000 in
set_option maxHeartbeats 4000000 in
theorem s1_Changes_lastFall_7 {d : Nat} (hd : 3 < d) {M : AM} {Q : Option AV → AM → Prop} {x1 x2 x3 : Int}
    (h : (x3 < (0 : Int) → Q (some (aI (-1))) M) ∧ ((0 : Int) ≤ x3 → (0 ≤ x3 ∧ x3 < 300) ∧ (((M 47 x3) ≠ x2 → aE s1_G d 17 7 [] [some (aP 6), some (aI x1), some (aI x2), some (aI (a_add x3 (-1)))] [] M Q) ∧ ((M 47 x3) = x2 → (0 ≤ x3 ∧ x3 < 300) ∧ (((M 48 x3) ≠ x1 → aE s1_G d 17 7 [] [some (aP 6), some (aI x1), some (aI x2), some (aI (a_add x3 (-1)))] [] M Q) ∧ ((M 48 x3) = x1 → (0 ≤ x3 ∧ x3 < 300) ∧ (((M 49 x3) = (0 : Int) → aE s1_G d 17 7 [] [some (aP 6), some (aI x1), some (aI x2), some (aI (a_add x3 (-1)))] [] M Q) ∧ ((M 49 x3) ≠ (0 : Int) → (0 ≤ x3 ∧ x3 < 300) ∧ (Q (some (aI (M 44 x3))) M))))))))) :
    aE s1_G d 17 7 [] [some (aP 6), some (aI x1), some (aI x2), some (aI x3)] [] M Q := aE_go s1_pu_ok [(7, [true, true, true, true])] 124 hd h

-- 18: DioceseBook$Changes.daysOf(IIII)I
set_option maxRecDepth 100000 in
set_option maxHeartbeats 4000000 in
theorem s1_Changes_daysOf_0 {d : Nat} (hd : 3 < d) {M : AM} {Q : Option AV → AM → Prop} {x1 x2 x3 x4 : Int}
    (h : aE s1_G d 18 12 [] [some (aP 6), some (aI x1), some (aI x2), some (aI x3), some (aI x4), some (aI 0), some (aI 0), some (aI 0), some (aI 0)] [] M Q) :
    aE s1_G d 18 0 [] [some (aP 6), some (aI x1), some (aI x2), some (aI x3), some (aI x4), none, none, none, none] [] M Q := aE_go s1_pu_ok [(12, [true, true, true, true, true, true, true, true, true])] 76 hd h

set_option maxRecDepth 100000 in
set_option maxHeartbeats 4000000 in
theorem s1_Changes_daysOf_12 {d : Nat} (hd : 3 < d) {M : AM} {Q : Option AV → AM → Prop} {x1 x2 x3 x4 x5 x6 x7 x8 : Int}
    (h : ((M 6 6) ≤ x8 → (x7 ≠ x4 → Q (some (aI (a_add x5 0))) M) ∧ (x7 = x4 → aKi s1_G d 19 [aI x6, aI 30000, aI x2, aI x3] M (fun z2 M1 => Q (some (aI (a_add x5 z2))) M1))) ∧ (x8 < (M 6 6) → (0 ≤ x8 ∧ x8 < 300) ∧ (((M 47 x8) ≠ x1 → aE s1_G d 18 12 [] [some (aP 6), some (aI x1), some (aI x2), some (aI x3), some (aI x4), some (aI x5), some (aI x6), some (aI x7), some (aI (a_add x8 1))] [] M Q) ∧ ((M 47 x8) = x1 → (x7 ≠ x4 → (0 ≤ x8 ∧ x8 < 300) ∧ ((0 ≤ x8 ∧ x8 < 300) ∧ (aKi s1_G d 13 [aI (M 46 x8)] M (fun z4 M3 => aE s1_G d 18 12 [] [some (aP 6), some (aI x1), some (aI x2), some (aI x3), some (aI x4), some (aI (a_add x5 0)), some (aI (M 44 x8)), some (aI z4), some (aI (a_add x8 1))] [] M3 Q)))) ∧ (x7 = x4 → (0 ≤ x8 ∧ x8 < 300) ∧ (aKi s1_G d 19 [aI x6, aI (a_sub (M 44 x8) 1), aI x2, aI x3] M (fun z6 M5 => (0 ≤ x8 ∧ x8 < 300) ∧ ((0 ≤ x8 ∧ x8 < 300) ∧ (aKi s1_G d 13 [aI (M5 46 x8)] M5 (fun z8 M7 => aE s1_G d 18 12 [] [some (aP 6), some (aI x1), some (aI x2), some (aI x3), some (aI x4), some (aI (a_add x5 z6)), some (aI (M5 44 x8)), some (aI z8), some (aI (a_add x8 1))] [] M7 Q)))))))))) :
    aE s1_G d 18 12 [] [some (aP 6), some (aI x1), some (aI x2), some (aI x3), some (aI x4), some (aI x5), some (aI x6), some (aI x7), some (aI x8)] [] M Q := aE_go s1_pu_ok [(12, [true, true, true, true, true, true, true, true, true])] 206 hd h

-- 19: DioceseBook$Changes.common(IIII)I
set_option maxRecDepth 100000 in
set_option maxHeartbeats 4000000 in
theorem s1_Changes_common_0 {d : Nat} (hd : 3 < d) {M : AM} {Q : Option AV → AM → Prop} {x0 x1 x2 x3 : Int}
    (h : Q (some (aI (if (a_add (a_sub (if x1 ≤ x3 then x1 else x3) (if x2 ≤ x0 then x0 else x2)) 1) ≤ 0 then 0 else a_add (a_sub (if x1 ≤ x3 then x1 else x3) (if x2 ≤ x0 then x0 else x2)) 1))) M) :
    aE s1_G d 19 0 [] [some (aI x0), some (aI x1), some (aI x2), some (aI x3)] [] M Q := aE_go s1_pu_ok [] 84 hd h

-- 20: DioceseBook$Lives.add(IIIII)I
set_option maxRecDepth 100000 in
set_option maxHeartbeats 4000000 in
theorem s1_Lives_add_0 {d : Nat} (hd : 3 < d) {M : AM} {Q : Option AV → AM → Prop} {x1 x2 x3 x4 x5 : Int}
    (h : ((M 10 5) < (16 : Int) → (0 ≤ (M 10 5) ∧ (M 10 5) < 16) ∧ ((0 ≤ ((am_up M 65 (M 10 5) x1) 10 5) ∧ ((am_up M 65 (M 10 5) x1) 10 5) < 16) ∧ ((0 ≤ ((am_up (am_up M 65 (M 10 5) x1) 66 ((am_up M 65 (M 10 5) x1) 10 5) x2) 10 5) ∧ ((am_up (am_up M 65 (M 10 5) x1) 66 ((am_up M 65 (M 10 5) x1) 10 5) x2) 10 5) < 16) ∧ ((0 ≤ ((am_up (am_up (am_up M 65 (M 10 5) x1) 66 ((am_up M 65 (M 10 5) x1) 10 5) x2) 67 ((am_up (am_up M 65 (M 10 5) x1) 66 ((am_up M 65 (M 10 5) x1) 10 5) x2) 10 5) x3) 10 5) ∧ ((am_up (am_up (am_up M 65 (M 10 5) x1) 66 ((am_up M 65 (M 10 5) x1) 10 5) x2) 67 ((am_up (am_up M 65 (M 10 5) x1) 66 ((am_up M 65 (M 10 5) x1) 10 5) x2) 10 5) x3) 10 5) < 16) ∧ ((0 ≤ ((am_up (am_up (am_up (am_up M 65 (M 10 5) x1) 66 ((am_up M 65 (M 10 5) x1) 10 5) x2) 67 ((am_up (am_up M 65 (M 10 5) x1) 66 ((am_up M 65 (M 10 5) x1) 10 5) x2) 10 5) x3) 68 ((am_up (am_up (am_up M 65 (M 10 5) x1) 66 ((am_up M 65 (M 10 5) x1) 10 5) x2) 67 ((am_up (am_up M 65 (M 10 5) x1) 66 ((am_up M 65 (M 10 5) x1) 10 5) x2) 10 5) x3) 10 5) x4) 10 5) ∧ ((am_up (am_up (am_up (am_up M 65 (M 10 5) x1) 66 ((am_up M 65 (M 10 5) x1) 10 5) x2) 67 ((am_up (am_up M 65 (M 10 5) x1) 66 ((am_up M 65 (M 10 5) x1) 10 5) x2) 10 5) x3) 68 ((am_up (am_up (am_up M 65 (M 10 5) x1) 66 ((am_up M 65 (M 10 5) x1) 10 5) x2) 67 ((am_up (am_up M 65 (M 10 5) x1) 66 ((am_up M 65 (M 10 5) x1) 10 5) x2) 10 5) x3) 10 5) x4) 10 5) < 16) ∧ (((0 : Int) = 0 ∨ (0 : Int) = 1) ∧ (Q (some (aI ((am_up (am_up (am_up (am_up (am_up (am_up M 65 (M 10 5) x1) 66 ((am_up M 65 (M 10 5) x1) 10 5) x2) 67 ((am_up (am_up M 65 (M 10 5) x1) 66 ((am_up M 65 (M 10 5) x1) 10 5) x2) 10 5) x3) 68 ((am_up (am_up (am_up M 65 (M 10 5) x1) 66 ((am_up M 65 (M 10 5) x1) 10 5) x2) 67 ((am_up (am_up M 65 (M 10 5) x1) 66 ((am_up M 65 (M 10 5) x1) 10 5) x2) 10 5) x3) 10 5) x4) 69 ((am_up (am_up (am_up (am_up M 65 (M 10 5) x1) 66 ((am_up M 65 (M 10 5) x1) 10 5) x2) 67 ((am_up (am_up M 65 (M 10 5) x1) 66 ((am_up M 65 (M 10 5) x1) 10 5) x2) 10 5) x3) 68 ((am_up (am_up (am_up M 65 (M 10 5) x1) 66 ((am_up M 65 (M 10 5) x1) 10 5) x2) 67 ((am_up (am_up M 65 (M 10 5) x1) 66 ((am_up M 65 (M 10 5) x1) 10 5) x2) 10 5) x3) 10 5) x4) 10 5) x5) 10 8 0) 10 5))) (am_up (am_up (am_up (am_up (am_up (am_up (am_up M 65 (M 10 5) x1) 66 ((am_up M 65 (M 10 5) x1) 10 5) x2) 67 ((am_up (am_up M 65 (M 10 5) x1) 66 ((am_up M 65 (M 10 5) x1) 10 5) x2) 10 5) x3) 68 ((am_up (am_up (am_up M 65 (M 10 5) x1) 66 ((am_up M 65 (M 10 5) x1) 10 5) x2) 67 ((am_up (am_up M 65 (M 10 5) x1) 66 ((am_up M 65 (M 10 5) x1) 10 5) x2) 10 5) x3) 10 5) x4) 69 ((am_up (am_up (am_up (am_up M 65 (M 10 5) x1) 66 ((am_up M 65 (M 10 5) x1) 10 5) x2) 67 ((am_up (am_up M 65 (M 10 5) x1) 66 ((am_up M 65 (M 10 5) x1) 10 5) x2) 10 5) x3) 68 ((am_up (am_up (am_up M 65 (M 10 5) x1) 66 ((am_up M 65 (M 10 5) x1) 10 5) x2) 67 ((am_up (am_up M 65 (M 10 5) x1) 66 ((am_up M 65 (M 10 5) x1) 10 5) x2) 10 5) x3) 10 5) x4) 10 5) x5) 10 8 0) 10 5 (a_add ((am_up (am_up (am_up (am_up (am_up (am_up M 65 (M 10 5) x1) 66 ((am_up M 65 (M 10 5) x1) 10 5) x2) 67 ((am_up (am_up M 65 (M 10 5) x1) 66 ((am_up M 65 (M 10 5) x1) 10 5) x2) 10 5) x3) 68 ((am_up (am_up (am_up M 65 (M 10 5) x1) 66 ((am_up M 65 (M 10 5) x1) 10 5) x2) 67 ((am_up (am_up M 65 (M 10 5) x1) 66 ((am_up M 65 (M 10 5) x1) 10 5) x2) 10 5) x3) 10 5) x4) 69 ((am_up (am_up (am_up (am_up M 65 (M 10 5) x1) 66 ((am_up M 65 (M 10 5) x1) 10 5) x2) 67 ((am_up (am_up M 65 (M 10 5) x1) 66 ((am_up M 65 (M 10 5) x1) 10 5) x2) 10 5) x3) 68 ((am_up (am_up (am_up M 65 (M 10 5) x1) 66 ((am_up M 65 (M 10 5) x1) 10 5) x2) 67 ((am_up (am_up M 65 (M 10 5) x1) 66 ((am_up M 65 (M 10 5) x1) 10 5) x2) 10 5) x3) 10 5) x4) 10 5) x5) 10 8 0) 10 5) 1))))))))) ∧ ((16 : Int) ≤ (M 10 5) → Q (some (aI (-100004))) M)) :
    aE s1_G d 20 0 [] [some (aP 10), some (aI x1), some (aI x2), some (aI x3), some (aI x4), some (aI x5)] [] M Q := aE_go s1_pu_ok [] 154 hd h

-- 21: DioceseBook$Lives.isAhead(II)Z
set_option maxRecDepth 100000 in
set_option maxHeartbeats 4000000 in
theorem s1_Lives_isAhead_0 {d : Nat} (hd : 3 < d) {M : AM} {Q : Option AV → AM → Prop} {x1 x2 : Int}
    (h : (0 ≤ x1 ∧ x1 < 16) ∧ ((0 ≤ x2 ∧ x2 < 16) ∧ (((M 68 x1) ≠ (M 69 x2) → (0 ≤ x1 ∧ x1 < 16) ∧ ((0 ≤ x2 ∧ x2 < 16) ∧ (((M 68 x2) < (M 69 x1) → ((0 : Int) = 0 ∨ (0 : Int) = 1) ∧ Q (some (aI 0)) M) ∧ ((M 69 x1) ≤ (M 68 x2) → ((1 : Int) = 0 ∨ (1 : Int) = 1) ∧ Q (some (aI 1)) M)))) ∧ ((M 68 x1) = (M 69 x2) → (0 ≤ x1 ∧ x1 < 16) ∧ ((0 ≤ x2 ∧ x2 < 16) ∧ (((M 69 x1) ≠ (M 68 x2) → (0 ≤ x1 ∧ x1 < 16) ∧ ((0 ≤ x2 ∧ x2 < 16) ∧ (((M 68 x2) < (M 69 x1) → ((0 : Int) = 0 ∨ (0 : Int) = 1) ∧ Q (some (aI 0)) M) ∧ ((M 69 x1) ≤ (M 68 x2) → ((1 : Int) = 0 ∨ (1 : Int) = 1) ∧ Q (some (aI 1)) M)))) ∧ ((M 69 x1) = (M 68 x2) → (x2 ≤ x1 → ((0 : Int) = 0 ∨ (0 : Int) = 1) ∧ Q (some (aI 0)) M) ∧ (x1 < x2 → ((1 : Int) = 0 ∨ (1 : Int) = 1) ∧ Q (some (aI 1)) M)))))))) :
    aE s1_G d 21 0 [] [some (aP 10), some (aI x1), some (aI x2)] [] M Q := aE_go s1_pu_ok [] 168 hd h

-- 22: DioceseBook$Lives.joins(II)Z
set_option maxRecDepth 100000 in
set_option maxHeartbeats 4000000 in
theorem s1_Lives_joins_0 {d : Nat} (hd : 3 < d) {M : AM} {Q : Option AV → AM → Prop} {x1 x2 : Int}
    (h : (0 ≤ x1 ∧ x1 < 16) ∧ ((0 ≤ x2 ∧ x2 < 16) ∧ ((0 ≤ x1 ∧ x1 < 16) ∧ ((0 ≤ x2 ∧ x2 < 16) ∧ ((0 ≤ x1 ∧ x1 < 16) ∧ ((0 ≤ x2 ∧ x2 < 16) ∧ (((M 65 x1) ≠ (M 65 x2) → ((0 : Int) = 0 ∨ (0 : Int) = 1) ∧ Q (some (aI 0)) M) ∧ ((M 65 x1) = (M 65 x2) → aKi s1_G d 21 [aP 10, aI x1, aI x2] M (fun z2 M1 => (z2 = (0 : Int) → ((0 : Int) = 0 ∨ (0 : Int) = 1) ∧ Q (some (aI 0)) M1) ∧ (z2 ≠ (0 : Int) → (0 ≤ x2 ∧ x2 < 16) ∧ ((0 ≤ x1 ∧ x1 < 16) ∧ ((20 : Int) ≠ 0 ∧ (((a_sub (M1 68 x2) (M1 69 x1)) < (a_div (a_sub (a_add (a_add (if (a_sub (M 66 x1) (M 66 x2)) < 0 then a_neg (a_sub (M 66 x1) (M 66 x2)) else a_sub (M 66 x1) (M 66 x2)) (if (a_sub (M 67 x1) (M 67 x2)) < 0 then a_neg (a_sub (M 67 x1) (M 67 x2)) else a_sub (M 67 x1) (M 67 x2))) 20) 1) 20) → ((0 : Int) = 0 ∨ (0 : Int) = 1) ∧ Q (some (aI 0)) M1) ∧ ((a_div (a_sub (a_add (a_add (if (a_sub (M 66 x1) (M 66 x2)) < 0 then a_neg (a_sub (M 66 x1) (M 66 x2)) else a_sub (M 66 x1) (M 66 x2)) (if (a_sub (M 67 x1) (M 67 x2)) < 0 then a_neg (a_sub (M 67 x1) (M 67 x2)) else a_sub (M 67 x1) (M 67 x2))) 20) 1) 20) ≤ (a_sub (M1 68 x2) (M1 69 x1)) → ((1 : Int) = 0 ∨ (1 : Int) = 1) ∧ Q (some (aI 1)) M1)))))))))))))) :
    aE s1_G d 22 0 [] [some (aP 10), some (aI x1), some (aI x2), none] [] M Q := aE_go s1_pu_ok [] 184 hd h

-- 23: DioceseBook$Lives.join()V
set_option maxRecDepth 100000 in
set_option maxHeartbeats 4000000 in
theorem s1_Lives_join_0 {d : Nat} (hd : 3 < d) {M : AM} {Q : Option AV → AM → Prop}
    (h : ((M 10 8) = (0 : Int) → ((1 : Int) = 0 ∨ (1 : Int) = 1) ∧ (aE s1_G d 23 15 [] [some (aP 10), some (aI 0), none, none] [] (am_up M 10 8 1) Q)) ∧ ((M 10 8) ≠ (0 : Int) → Q none M)) :
    aE s1_G d 23 0 [] [some (aP 10), none, none, none] [] M Q := aE_go s1_pu_ok [(15, [true, true, false, false]), (32, [true, true, true, false]), (98, [true, true, true, true])] 78 hd h

set_option maxRecDepth 100000 in
set_option maxHeartbeats 4000000 in
theorem s1_Lives_join_15 {d : Nat} (hd : 3 < d) {M : AM} {Q : Option AV → AM → Prop} {x1 : Int}
    (h : ((M 10 5) ≤ x1 → aKi s1_G d 25 [aP 10, aI 0, aI 0] M (fun z2 M1 => aE s1_G d 23 98 [] [some (aP 10), some (aI z2), some (aI 0), some (aI 0)] [] (am_up M1 10 6 (a_sub (M1 10 5) z2)) Q)) ∧ (x1 < (M 10 5) → (0 ≤ x1 ∧ x1 < 16) ∧ (aE s1_G d 23 32 [] [some (aP 10), some (aI x1), some (aI 0), none] [] (am_up M 71 x1 0) Q))) :
    aE s1_G d 23 15 [] [some (aP 10), some (aI x1), none, none] [] M Q := aE_go s1_pu_ok [(15, [true, true, false, false]), (32, [true, true, true, false]), (98, [true, true, true, true])] 112 hd h

set_option maxRecDepth 100000 in
set_option maxHeartbeats 4000000 in
theorem s1_Lives_join_32 {d : Nat} (hd : 3 < d) {M : AM} {Q : Option AV → AM → Prop} {x1 x2 : Int}
    (h : ((M 10 5) ≤ x2 → aE s1_G d 23 15 [] [some (aP 10), some (aI (a_add x1 1)), none, none] [] M Q) ∧ (x2 < (M 10 5) → (0 ≤ x1 ∧ x1 < 16) ∧ (aKi s1_G d 22 [aP 10, aI x1, aI x2] M (fun z2 M1 => (z2 = (0 : Int) → (0 ≤ x1 ∧ x1 < 16) ∧ (aE s1_G d 23 32 [] [some (aP 10), some (aI x1), some (aI (a_add x2 1)), none] [] (am_up M1 71 x1 (a_or (M 71 x1) 0)) Q)) ∧ (z2 ≠ (0 : Int) → (0 ≤ x1 ∧ x1 < 16) ∧ (aE s1_G d 23 32 [] [some (aP 10), some (aI x1), some (aI (a_add x2 1)), none] [] (am_up M1 71 x1 (a_or (M 71 x1) (a_shl 1 x2))) Q)))))) :
    aE s1_G d 23 32 [] [some (aP 10), some (aI x1), some (aI x2), none] [] M Q := aE_go s1_pu_ok [(15, [true, true, false, false]), (32, [true, true, true, false]), (98, [true, true, true, true])] 118 hd h

set_option maxRecDepth 100000 in
set_option maxHeartbeats 4000000 in
theorem s1_Lives_join_98 {d : Nat} (hd : 3 < d) {M : AM} {Q : Option AV → AM → Prop} {x1 x2 x3 : Int}
    (h : ((M 10 5) ≤ x3 → Q none M) ∧ (x3 < (M 10 5) → aKi s1_G d 24 [aP 10, aI x3, aI x2, aI x1] M (fun z2 M1 => (0 ≤ x3 ∧ x3 < 16) ∧ ((0 ≤ x3 ∧ x3 < 16) ∧ ((((am_up M1 70 x3 z2) 70 x3) = ((-1) : Int) → aE s1_G d 23 98 [] [some (aP 10), some (aI x1), some (aI x2), some (aI (a_add x3 1))] [] (am_up M1 70 x3 z2) Q) ∧ (((am_up M1 70 x3 z2) 70 x3) ≠ ((-1) : Int) → (0 ≤ x3 ∧ x3 < 16) ∧ (aE s1_G d 23 98 [] [some (aP 10), some (aI (a_add x1 (-1))), some (aI (a_or x2 (a_shl 1 ((am_up M1 70 x3 z2) 70 x3)))), some (aI (a_add x3 1))] [] (am_up M1 70 x3 z2) Q))))))) :
    aE s1_G d 23 98 [] [some (aP 10), some (aI x1), some (aI x2), some (aI x3)] [] M Q := aE_go s1_pu_ok [(15, [true, true, false, false]), (32, [true, true, true, false]), (98, [true, true, true, true])] 128 hd h

-- 24: DioceseBook$Lives.leastBehind(III)I
set_option maxRecDepth 100000 in
set_option maxHeartbeats 4000000 in
theorem s1_Lives_leastBehind_0 {d : Nat} (hd : 3 < d) {M : AM} {Q : Option AV → AM → Prop} {x1 x2 x3 : Int}
    (h : aE s1_G d 24 3 [] [some (aP 10), some (aI x1), some (aI x2), some (aI x3), some (aI 0)] [] M Q) :
    aE s1_G d 24 0 [] [some (aP 10), some (aI x1), some (aI x2), some (aI x3), none] [] M Q := aE_go s1_pu_ok [(3, [true, true, true, true, true])] 64 hd h

set_option maxRecDepth 100000 in
set_option maxHeartbeats 4000000 in
theorem s1_Lives_leastBehind_3 {d : Nat} (hd : 3 < d) {M : AM} {Q : Option AV → AM → Prop} {x1 x2 x3 x4 : Int}
    (h : ((M 10 5) ≤ x4 → Q (some (aI (-1))) M) ∧ (x4 < (M 10 5) → (0 ≤ x1 ∧ x1 < 16) ∧ (((a_and (a_and (M 71 x1) (a_xor x2 (-1))) (a_shl 1 x4)) = (0 : Int) → aE s1_G d 24 3 [] [some (aP 10), some (aI x1), some (aI x2), some (aI x3), some (aI (a_add x4 1))] [] M Q) ∧ ((a_and (a_and (M 71 x1) (a_xor x2 (-1))) (a_shl 1 x4)) ≠ (0 : Int) → aKi s1_G d 25 [aP 10, aI (a_add x1 1), aI (a_or x2 (a_shl 1 x4))] M (fun z2 M1 => (z2 ≠ (a_sub x3 1) → aE s1_G d 24 3 [] [some (aP 10), some (aI x1), some (aI x2), some (aI x3), some (aI (a_add x4 1))] [] M1 Q) ∧ (z2 = (a_sub x3 1) → Q (some (aI x4)) M1)))))) :
    aE s1_G d 24 3 [] [some (aP 10), some (aI x1), some (aI x2), some (aI x3), some (aI x4)] [] M Q := aE_go s1_pu_ok [(3, [true, true, true, true, true])] 138 hd h

-- 25: DioceseBook$Lives.mostLinks(II)I
set_option maxRecDepth 100000 in
set_option maxHeartbeats 4000000 in
theorem s1_Lives_mostLinks_0 {d : Nat} (hd : 3 < d) {M : AM} {Q : Option AV → AM → Prop} {x1 x2 : Int}
    (h : aE s1_G d 25 2 [] [some (aP 10), some (aI x1), some (aI x2), some (aI 0), none] [] M Q) :
    aE s1_G d 25 0 [] [some (aP 10), some (aI x1), some (aI x2), none, none] [] M Q := aE_go s1_pu_ok [(2, [true, true, true, true, false]), (28, [true, false, true, true, true])] 64 hd h

set_option maxRecDepth 100000 in
set_option maxHeartbeats 4000000 in
theorem s1_Lives_mostLinks_2 {d : Nat} (hd : 3 < d) {M : AM} {Q : Option AV → AM → Prop} {x1 x2 x3 : Int}
    (h : ((M 10 5) ≤ x3 → aE s1_G d 25 28 [] [some (aP 10), none, some (aI x2), some (aI 0), some (aI x1)] [] M Q) ∧ (x3 < (M 10 5) → (0 ≤ x3 ∧ x3 < 16) ∧ (aE s1_G d 25 2 [] [some (aP 10), some (aI x1), some (aI x2), some (aI (a_add x3 1)), none] [] (am_up M 72 x3 (-1)) Q))) :
    aE s1_G d 25 2 [] [some (aP 10), some (aI x1), some (aI x2), some (aI x3), none] [] M Q := aE_go s1_pu_ok [(2, [true, true, true, true, false]), (28, [true, false, true, true, true])] 90 hd h

set_option maxRecDepth 100000 in
set_option maxHeartbeats 4000000 in
theorem s1_Lives_mostLinks_28 {d : Nat} (hd : 3 < d) {M : AM} {Q : Option AV → AM → Prop} {x2 x3 x4 : Int}
    (h : ((M 10 5) ≤ x4 → Q (some (aI x3)) M) ∧ (x4 < (M 10 5) → aKi s1_G d 26 [aP 10, aI x4, aI 0] (am_up M 10 11 x2) (fun z2 M1 => (z2 = (0 : Int) → aE s1_G d 25 28 [] [some (aP 10), none, some (aI x2), some (aI x3), some (aI (a_add x4 1))] [] M1 Q) ∧ (z2 ≠ (0 : Int) → aE s1_G d 25 28 [] [some (aP 10), none, some (aI x2), some (aI (a_add x3 1)), some (aI (a_add x4 1))] [] M1 Q)))) :
    aE s1_G d 25 28 [] [some (aP 10), none, some (aI x2), some (aI x3), some (aI x4)] [] M Q := aE_go s1_pu_ok [(2, [true, true, true, true, false]), (28, [true, false, true, true, true])] 98 hd h

-- 26: DioceseBook$Lives.link(II)Z
set_option maxRecDepth 100000 in
set_option maxHeartbeats 4000000 in
theorem s1_Lives_link_0 {d : Nat} (hd : 3 < d) {M : AM} {Q : Option AV → AM → Prop} {x1 x2 : Int}
    (h : aE s1_G d 26 2 [] [some (aP 10), some (aI x1), some (aI x2), some (aI 0)] [] M Q) :
    aE s1_G d 26 0 [] [some (aP 10), some (aI x1), some (aI x2), none] [] M Q := aE_go s1_pu_ok [(2, [true, true, true, true])] 64 hd h

set_option maxRecDepth 100000 in
set_option maxHeartbeats 4000000 in
theorem s1_Lives_link_2 {d : Nat} (hd : 3 < d) {M : AM} {Q : Option AV → AM → Prop} {x1 x2 x3 : Int}
    (h : ((M 10 5) ≤ x3 → ((0 : Int) = 0 ∨ (0 : Int) = 1) ∧ Q (some (aI 0)) M) ∧ (x3 < (M 10 5) → ((16 : Int) < x2 → ((0 : Int) = 0 ∨ (0 : Int) = 1) ∧ Q (some (aI 0)) M) ∧ (x2 ≤ (16 : Int) → (0 ≤ x1 ∧ x1 < 16) ∧ (((a_and (a_and (M 71 x1) (a_xor (M 10 11) (-1))) (a_shl 1 x3)) = (0 : Int) → aE s1_G d 26 2 [] [some (aP 10), some (aI x1), some (aI x2), some (aI (a_add x3 1))] [] M Q) ∧ ((a_and (a_and (M 71 x1) (a_xor (M 10 11) (-1))) (a_shl 1 x3)) ≠ (0 : Int) → (0 ≤ x3 ∧ x3 < 16) ∧ ((((am_up M 10 11 (a_or (M 10 11) (a_shl 1 x3))) 72 x3) = ((-1) : Int) → (0 ≤ x3 ∧ x3 < 16) ∧ (((1 : Int) = 0 ∨ (1 : Int) = 1) ∧ Q (some (aI 1)) (am_up (am_up M 10 11 (a_or (M 10 11) (a_shl 1 x3))) 72 x3 x1))) ∧ (((am_up M 10 11 (a_or (M 10 11) (a_shl 1 x3))) 72 x3) ≠ ((-1) : Int) → (0 ≤ x3 ∧ x3 < 16) ∧ (aKi s1_G d 26 [aP 10, aI ((am_up M 10 11 (a_or (M 10 11) (a_shl 1 x3))) 72 x3), aI (a_add x2 1)] (am_up M 10 11 (a_or (M 10 11) (a_shl 1 x3))) (fun z2 M1 => (z2 = (0 : Int) → aE s1_G d 26 2 [] [some (aP 10), some (aI x1), some (aI x2), some (aI (a_add x3 1))] [] M1 Q) ∧ (z2 ≠ (0 : Int) → (0 ≤ x3 ∧ x3 < 16) ∧ (((1 : Int) = 0 ∨ (1 : Int) = 1) ∧ Q (some (aI 1)) (am_up M1 72 x3 x1)))))))))))) :
    aE s1_G d 26 2 [] [some (aP 10), some (aI x1), some (aI x2), some (aI x3)] [] M Q := aE_go s1_pu_ok [(2, [true, true, true, true])] 194 hd h

-- 27: DioceseBook$Papers.hasLiving(I)Z
set_option maxRecDepth 100000 in
set_option maxHeartbeats 4000000 in
theorem s1_Papers_hasLiving_0 {d : Nat} (hd : 3 < d) {M : AM} {Q : Option AV → AM → Prop} {x0 : Int}
    (h : ((a_bl (0 ≤ x0 ∧ x0 ≤ 12)) = (0 : Int) → ((0 : Int) = 0 ∨ (0 : Int) = 1) ∧ Q (some (aI 0)) M) ∧ ((a_bl (0 ≤ x0 ∧ x0 ≤ 12)) ≠ (0 : Int) → ((a_and (a_shr 3992 x0) 1) ≠ (1 : Int) → ((0 : Int) = 0 ∨ (0 : Int) = 1) ∧ Q (some (aI 0)) M) ∧ ((a_and (a_shr 3992 x0) 1) = (1 : Int) → ((1 : Int) = 0 ∨ (1 : Int) = 1) ∧ Q (some (aI 1)) M))) :
    aE s1_G d 27 0 [] [some (aI x0)] [] M Q := aE_go s1_pu_ok [] 98 hd h

-- 28: DioceseBook$Papers.hasPerson(I)Z
set_option maxRecDepth 100000 in
set_option maxHeartbeats 4000000 in
theorem s1_Papers_hasPerson_0 {d : Nat} (hd : 3 < d) {M : AM} {Q : Option AV → AM → Prop} {x0 : Int}
    (h : ((a_bl (0 ≤ x0 ∧ x0 ≤ 9)) = 0 ∨ (a_bl (0 ≤ x0 ∧ x0 ≤ 9)) = 1) ∧ Q (some (aI (a_bl (0 ≤ x0 ∧ x0 ≤ 9)))) M) :
    aE s1_G d 28 0 [] [some (aI x0)] [] M Q := aE_go s1_pu_ok [] 70 hd h

-- 29: DioceseBook$Papers.hasOther(I)Z
set_option maxRecDepth 100000 in
set_option maxHeartbeats 4000000 in
theorem s1_Papers_hasOther_0 {d : Nat} (hd : 3 < d) {M : AM} {Q : Option AV → AM → Prop} {x0 : Int}
    (h : ((a_bl (0 ≤ x0 ∧ x0 ≤ 12)) = (0 : Int) → ((0 : Int) = 0 ∨ (0 : Int) = 1) ∧ Q (some (aI 0)) M) ∧ ((a_bl (0 ≤ x0 ∧ x0 ≤ 12)) ≠ (0 : Int) → ((a_and (a_shr 712 x0) 1) ≠ (1 : Int) → ((0 : Int) = 0 ∨ (0 : Int) = 1) ∧ Q (some (aI 0)) M) ∧ ((a_and (a_shr 712 x0) 1) = (1 : Int) → ((1 : Int) = 0 ∨ (1 : Int) = 1) ∧ Q (some (aI 1)) M))) :
    aE s1_G d 29 0 [] [some (aI x0)] [] M Q := aE_go s1_pu_ok [] 98 hd h

-- 30: DioceseBook$Papers.add(IIIIIII)I
set_option maxRecDepth 100000 in
set_option maxHeartbeats 4000000 in
theorem s1_Papers_add_0 {d : Nat} (hd : 3 < d) {M : AM} {Q : Option AV → AM → Prop} {x1 x2 x3 x4 x5 x6 x7 : Int}
    (h : (0 ≤ (M 2 7) ∧ (M 2 7) < 150) ∧ ((0 ≤ (M 2 7) ∧ (M 2 7) < 150) ∧ ((0 ≤ (M 2 7) ∧ (M 2 7) < 150) ∧ (aKi s1_G d 27 [aI x1] (am_up (am_up (am_up M 17 (M 2 7) x1) 18 (M 2 7) x2) 19 (M 2 7) x3) (fun z2 M1 => (z2 = (0 : Int) → (0 ≤ (M 2 7) ∧ (M 2 7) < 150) ∧ (aKi s1_G d 28 [aI x1] (am_up M1 20 (M 2 7) (-1)) (fun z4 M3 => (z4 = (0 : Int) → (0 ≤ (M 2 7) ∧ (M 2 7) < 150) ∧ (aKi s1_G d 29 [aI x1] (am_up M3 21 (M 2 7) (-1)) (fun z6 M5 => (z6 = (0 : Int) → (0 ≤ (M 2 7) ∧ (M 2 7) < 150) ∧ ((x1 = (11 : Int) → (0 ≤ (M 2 7) ∧ (M 2 7) < 150) ∧ (aE s1_G d 30 119 [] [some (aP 2), none, some (aI x2), none, none, none, none, none, some (aI (M 2 7)), some (aI (M 2 7))] [] (am_up (am_up M5 22 (M 2 7) (-1)) 23 (M 2 7) x7) Q)) ∧ (x1 ≠ (11 : Int) → (x1 ≠ (12 : Int) → (0 ≤ (M 2 7) ∧ (M 2 7) < 150) ∧ (aE s1_G d 30 119 [] [some (aP 2), none, some (aI x2), none, none, none, none, none, some (aI (M 2 7)), some (aI (M 2 7))] [] (am_up (am_up M5 22 (M 2 7) (-1)) 23 (M 2 7) (-1)) Q)) ∧ (x1 = (12 : Int) → (0 ≤ (M 2 7) ∧ (M 2 7) < 150) ∧ (aE s1_G d 30 119 [] [some (aP 2), none, some (aI x2), none, none, none, none, none, some (aI (M 2 7)), some (aI (M 2 7))] [] (am_up (am_up M5 22 (M 2 7) (-1)) 23 (M 2 7) x7) Q))))) ∧ (z6 ≠ (0 : Int) → (0 ≤ (M 2 7) ∧ (M 2 7) < 150) ∧ ((x1 = (11 : Int) → (0 ≤ (M 2 7) ∧ (M 2 7) < 150) ∧ (aE s1_G d 30 119 [] [some (aP 2), none, some (aI x2), none, none, none, none, none, some (aI (M 2 7)), some (aI (M 2 7))] [] (am_up (am_up M5 22 (M 2 7) x6) 23 (M 2 7) x7) Q)) ∧ (x1 ≠ (11 : Int) → (x1 ≠ (12 : Int) → (0 ≤ (M 2 7) ∧ (M 2 7) < 150) ∧ (aE s1_G d 30 119 [] [some (aP 2), none, some (aI x2), none, none, none, none, none, some (aI (M 2 7)), some (aI (M 2 7))] [] (am_up (am_up M5 22 (M 2 7) x6) 23 (M 2 7) (-1)) Q)) ∧ (x1 = (12 : Int) → (0 ≤ (M 2 7) ∧ (M 2 7) < 150) ∧ (aE s1_G d 30 119 [] [some (aP 2), none, some (aI x2), none, none, none, none, none, some (aI (M 2 7)), some (aI (M 2 7))] [] (am_up (am_up M5 22 (M 2 7) x6) 23 (M 2 7) x7) Q)))))))) ∧ (z4 ≠ (0 : Int) → (0 ≤ (M 2 7) ∧ (M 2 7) < 150) ∧ (aKi s1_G d 29 [aI x1] (am_up M3 21 (M 2 7) x5) (fun z8 M7 => (z8 = (0 : Int) → (0 ≤ (M 2 7) ∧ (M 2 7) < 150) ∧ ((x1 = (11 : Int) → (0 ≤ (M 2 7) ∧ (M 2 7) < 150) ∧ (aE s1_G d 30 119 [] [some (aP 2), none, some (aI x2), none, none, none, none, none, some (aI (M 2 7)), some (aI (M 2 7))] [] (am_up (am_up M7 22 (M 2 7) (-1)) 23 (M 2 7) x7) Q)) ∧ (x1 ≠ (11 : Int) → (x1 ≠ (12 : Int) → (0 ≤ (M 2 7) ∧ (M 2 7) < 150) ∧ (aE s1_G d 30 119 [] [some (aP 2), none, some (aI x2), none, none, none, none, none, some (aI (M 2 7)), some (aI (M 2 7))] [] (am_up (am_up M7 22 (M 2 7) (-1)) 23 (M 2 7) (-1)) Q)) ∧ (x1 = (12 : Int) → (0 ≤ (M 2 7) ∧ (M 2 7) < 150) ∧ (aE s1_G d 30 119 [] [some (aP 2), none, some (aI x2), none, none, none, none, none, some (aI (M 2 7)), some (aI (M 2 7))] [] (am_up (am_up M7 22 (M 2 7) (-1)) 23 (M 2 7) x7) Q))))) ∧ (z8 ≠ (0 : Int) → (0 ≤ (M 2 7) ∧ (M 2 7) < 150) ∧ ((x1 = (11 : Int) → (0 ≤ (M 2 7) ∧ (M 2 7) < 150) ∧ (aE s1_G d 30 119 [] [some (aP 2), none, some (aI x2), none, none, none, none, none, some (aI (M 2 7)), some (aI (M 2 7))] [] (am_up (am_up M7 22 (M 2 7) x6) 23 (M 2 7) x7) Q)) ∧ (x1 ≠ (11 : Int) → (x1 ≠ (12 : Int) → (0 ≤ (M 2 7) ∧ (M 2 7) < 150) ∧ (aE s1_G d 30 119 [] [some (aP 2), none, some (aI x2), none, none, none, none, none, some (aI (M 2 7)), some (aI (M 2 7))] [] (am_up (am_up M7 22 (M 2 7) x6) 23 (M 2 7) (-1)) Q)) ∧ (x1 = (12 : Int) → (0 ≤ (M 2 7) ∧ (M 2 7) < 150) ∧ (aE s1_G d 30 119 [] [some (aP 2), none, some (aI x2), none, none, none, none, none, some (aI (M 2 7)), some (aI (M 2 7))] [] (am_up (am_up M7 22 (M 2 7) x6) 23 (M 2 7) x7) Q))))))))))) ∧ (z2 ≠ (0 : Int) → (0 ≤ (M 2 7) ∧ (M 2 7) < 150) ∧ (aKi s1_G d 28 [aI x1] (am_up M1 20 (M 2 7) x4) (fun z10 M9 => (z10 = (0 : Int) → (0 ≤ (M 2 7) ∧ (M 2 7) < 150) ∧ (aKi s1_G d 29 [aI x1] (am_up M9 21 (M 2 7) (-1)) (fun z12 M11 => (z12 = (0 : Int) → (0 ≤ (M 2 7) ∧ (M 2 7) < 150) ∧ ((x1 = (11 : Int) → (0 ≤ (M 2 7) ∧ (M 2 7) < 150) ∧ (aE s1_G d 30 119 [] [some (aP 2), none, some (aI x2), none, none, none, none, none, some (aI (M 2 7)), some (aI (M 2 7))] [] (am_up (am_up M11 22 (M 2 7) (-1)) 23 (M 2 7) x7) Q)) ∧ (x1 ≠ (11 : Int) → (x1 ≠ (12 : Int) → (0 ≤ (M 2 7) ∧ (M 2 7) < 150) ∧ (aE s1_G d 30 119 [] [some (aP 2), none, some (aI x2), none, none, none, none, none, some (aI (M 2 7)), some (aI (M 2 7))] [] (am_up (am_up M11 22 (M 2 7) (-1)) 23 (M 2 7) (-1)) Q)) ∧ (x1 = (12 : Int) → (0 ≤ (M 2 7) ∧ (M 2 7) < 150) ∧ (aE s1_G d 30 119 [] [some (aP 2), none, some (aI x2), none, none, none, none, none, some (aI (M 2 7)), some (aI (M 2 7))] [] (am_up (am_up M11 22 (M 2 7) (-1)) 23 (M 2 7) x7) Q))))) ∧ (z12 ≠ (0 : Int) → (0 ≤ (M 2 7) ∧ (M 2 7) < 150) ∧ ((x1 = (11 : Int) → (0 ≤ (M 2 7) ∧ (M 2 7) < 150) ∧ (aE s1_G d 30 119 [] [some (aP 2), none, some (aI x2), none, none, none, none, none, some (aI (M 2 7)), some (aI (M 2 7))] [] (am_up (am_up M11 22 (M 2 7) x6) 23 (M 2 7) x7) Q)) ∧ (x1 ≠ (11 : Int) → (x1 ≠ (12 : Int) → (0 ≤ (M 2 7) ∧ (M 2 7) < 150) ∧ (aE s1_G d 30 119 [] [some (aP 2), none, some (aI x2), none, none, none, none, none, some (aI (M 2 7)), some (aI (M 2 7))] [] (am_up (am_up M11 22 (M 2 7) x6) 23 (M 2 7) (-1)) Q)) ∧ (x1 = (12 : Int) → (0 ≤ (M 2 7) ∧ (M 2 7) < 150) ∧ (aE s1_G d 30 119 [] [some (aP 2), none, some (aI x2), none, none, none, none, none, some (aI (M 2 7)), some (aI (M 2 7))] [] (am_up (am_up M11 22 (M 2 7) x6) 23 (M 2 7) x7) Q)))))))) ∧ (z10 ≠ (0 : Int) → (0 ≤ (M 2 7) ∧ (M 2 7) < 150) ∧ (aKi s1_G d 29 [aI x1] (am_up M9 21 (M 2 7) x5) (fun z14 M13 => (z14 = (0 : Int) → (0 ≤ (M 2 7) ∧ (M 2 7) < 150) ∧ ((x1 = (11 : Int) → (0 ≤ (M 2 7) ∧ (M 2 7) < 150) ∧ (aE s1_G d 30 119 [] [some (aP 2), none, some (aI x2), none, none, none, none, none, some (aI (M 2 7)), some (aI (M 2 7))] [] (am_up (am_up M13 22 (M 2 7) (-1)) 23 (M 2 7) x7) Q)) ∧ (x1 ≠ (11 : Int) → (x1 ≠ (12 : Int) → (0 ≤ (M 2 7) ∧ (M 2 7) < 150) ∧ (aE s1_G d 30 119 [] [some (aP 2), none, some (aI x2), none, none, none, none, none, some (aI (M 2 7)), some (aI (M 2 7))] [] (am_up (am_up M13 22 (M 2 7) (-1)) 23 (M 2 7) (-1)) Q)) ∧ (x1 = (12 : Int) → (0 ≤ (M 2 7) ∧ (M 2 7) < 150) ∧ (aE s1_G d 30 119 [] [some (aP 2), none, some (aI x2), none, none, none, none, none, some (aI (M 2 7)), some (aI (M 2 7))] [] (am_up (am_up M13 22 (M 2 7) (-1)) 23 (M 2 7) x7) Q))))) ∧ (z14 ≠ (0 : Int) → (0 ≤ (M 2 7) ∧ (M 2 7) < 150) ∧ ((x1 = (11 : Int) → (0 ≤ (M 2 7) ∧ (M 2 7) < 150) ∧ (aE s1_G d 30 119 [] [some (aP 2), none, some (aI x2), none, none, none, none, none, some (aI (M 2 7)), some (aI (M 2 7))] [] (am_up (am_up M13 22 (M 2 7) x6) 23 (M 2 7) x7) Q)) ∧ (x1 ≠ (11 : Int) → (x1 ≠ (12 : Int) → (0 ≤ (M 2 7) ∧ (M 2 7) < 150) ∧ (aE s1_G d 30 119 [] [some (aP 2), none, some (aI x2), none, none, none, none, none, some (aI (M 2 7)), some (aI (M 2 7))] [] (am_up (am_up M13 22 (M 2 7) x6) 23 (M 2 7) (-1)) Q)) ∧ (x1 = (12 : Int) → (0 ≤ (M 2 7) ∧ (M 2 7) < 150) ∧ (aE s1_G d 30 119 [] [some (aP 2), none, some (aI x2), none, none, none, none, none, some (aI (M 2 7)), some (aI (M 2 7))] [] (am_up (am_up M13 22 (M 2 7) x6) 23 (M 2 7) x7) Q)))))))))))))))) :
    aE s1_G d 30 0 [] [some (aP 2), some (aI x1), some (aI x2), some (aI x3), some (aI x4), some (aI x5), some (aI x6), some (aI x7), none, none] [] M Q := aE_go s1_pu_ok [(119, [true, false, true, false, false, false, false, false, true, true])] 618 hd h

set_option maxRecDepth 100000 in
set_option maxHeartbeats 4000000 in
theorem s1_Papers_add_119 {d : Nat} (hd : 3 < d) {M : AM} {Q : Option AV → AM → Prop} {x2 x8 x9 : Int}
    (h : (x9 ≤ (0 : Int) → (0 ≤ x9 ∧ x9 < 150) ∧ (Q (some (aI x8)) (am_up (am_up (am_up M 24 x9 x8) 2 7 (a_add ((am_up M 24 x9 x8) 2 7) 1)) 2 9 (-1)))) ∧ ((0 : Int) < x9 → (0 ≤ (a_sub x9 1) ∧ (a_sub x9 1) < 150) ∧ ((0 ≤ (M 24 (a_sub x9 1)) ∧ (M 24 (a_sub x9 1)) < 150) ∧ (((M 18 (M 24 (a_sub x9 1))) ≤ x2 → (0 ≤ x9 ∧ x9 < 150) ∧ (Q (some (aI x8)) (am_up (am_up (am_up M 24 x9 x8) 2 7 (a_add ((am_up M 24 x9 x8) 2 7) 1)) 2 9 (-1)))) ∧ (x2 < (M 18 (M 24 (a_sub x9 1))) → (0 ≤ (a_sub x9 1) ∧ (a_sub x9 1) < 150) ∧ ((0 ≤ x9 ∧ x9 < 150) ∧ (aE s1_G d 30 119 [] [some (aP 2), none, some (aI x2), none, none, none, none, none, some (aI x8), some (aI (a_add x9 (-1)))] [] (am_up M 24 x9 (M 24 (a_sub x9 1))) Q))))))) :
    aE s1_G d 30 119 [] [some (aP 2), none, some (aI x2), none, none, none, none, none, some (aI x8), some (aI x9)] [] M Q := aE_go s1_pu_ok [(119, [true, false, true, false, false, false, false, false, true, true])] 174 hd h

-- 31: DioceseBook$Papers.open(I)V
set_option maxRecDepth 100000 in
set_option maxHeartbeats 4000000 in
theorem s1_Papers_open_0 {d : Nat} (hd : 3 < d) {M : AM} {Q : Option AV → AM → Prop} {x1 : Int}
    (h : ((M 2 9) ≠ x1 → aKv s1_G d 32 [aP 2, aI x1] (am_up M 2 9 x1) (fun M1 => aE s1_G d 31 21 [] [some (aP 2), none, some (aI 0), none] [] M1 Q)) ∧ ((M 2 9) = x1 → Q none M)) :
    aE s1_G d 31 0 [] [some (aP 2), some (aI x1), none, none] [] M Q := aE_go s1_pu_ok [(21, [true, false, true, false]), (28, [true, false, true, true]), (62, [true, false, true, false])] 86 hd h

set_option maxRecDepth 100000 in
set_option maxHeartbeats 4000000 in
theorem s1_Papers_open_21 {d : Nat} (hd : 3 < d) {M : AM} {Q : Option AV → AM → Prop} {x2 : Int}
    (h : ((5 : Int) < x2 → aE s1_G d 31 62 [] [some (aP 2), none, some (aI 0), none] [] (am_up M 2 12 0) Q) ∧ (x2 ≤ (5 : Int) → aE s1_G d 31 28 [] [some (aP 2), none, some (aI x2), some (aI 0)] [] M Q)) :
    aE s1_G d 31 21 [] [some (aP 2), none, some (aI x2), none] [] M Q := aE_go s1_pu_ok [(21, [true, false, true, false]), (28, [true, false, true, true]), (62, [true, false, true, false])] 80 hd h

set_option maxRecDepth 100000 in
set_option maxHeartbeats 4000000 in
theorem s1_Papers_open_28 {d : Nat} (hd : 3 < d) {M : AM} {Q : Option AV → AM → Prop} {x2 x3 : Int}
    (h : ((40 : Int) ≤ x3 → aE s1_G d 31 21 [] [some (aP 2), none, some (aI (a_add x2 1)), none] [] M Q) ∧ (x3 < (40 : Int) → (0 ≤ x2 ∧ x2 < 6) ∧ ((0 ≤ x3 ∧ x3 < 40) ∧ (aE s1_G d 31 28 [] [some (aP 2), none, some (aI x2), some (aI (a_add x3 1))] [] (am_up M 27 (x2 * 40 + x3) (-1)) Q)))) :
    aE s1_G d 31 28 [] [some (aP 2), none, some (aI x2), some (aI x3)] [] M Q := aE_go s1_pu_ok [(21, [true, false, true, false]), (28, [true, false, true, true]), (62, [true, false, true, false])] 88 hd h

set_option maxRecDepth 100000 in
set_option maxHeartbeats 4000000 in
theorem s1_Papers_open_62 {d : Nat} (hd : 3 < d) {M : AM} {Q : Option AV → AM → Prop} {x2 : Int}
    (h : ((M 2 7) ≤ x2 → Q none M) ∧ (x2 < (M 2 7) → (0 ≤ x2 ∧ x2 < 150) ∧ (aKi s1_G d 34 [aP 2, aI (M 24 x2)] M (fun z2 M1 => (z2 = (0 : Int) → aE s1_G d 31 62 [] [some (aP 2), none, some (aI (a_add x2 1)), none] [] M1 Q) ∧ (z2 ≠ (0 : Int) → (0 ≤ (M1 2 12) ∧ (M1 2 12) < 150) ∧ ((0 ≤ (M 24 x2) ∧ (M 24 x2) < 150) ∧ (((5 : Int) < ((am_up (am_up M1 26 (M1 2 12) (M 24 x2)) 2 12 (a_add ((am_up M1 26 (M1 2 12) (M 24 x2)) 2 12) 1)) 17 (M 24 x2)) → aE s1_G d 31 62 [] [some (aP 2), none, some (aI (a_add x2 1)), none] [] (am_up (am_up M1 26 (M1 2 12) (M 24 x2)) 2 12 (a_add ((am_up M1 26 (M1 2 12) (M 24 x2)) 2 12) 1)) Q) ∧ (((am_up (am_up M1 26 (M1 2 12) (M 24 x2)) 2 12 (a_add ((am_up M1 26 (M1 2 12) (M 24 x2)) 2 12) 1)) 17 (M 24 x2)) ≤ (5 : Int) → (0 ≤ (M 24 x2) ∧ (M 24 x2) < 150) ∧ ((0 ≤ ((am_up (am_up M1 26 (M1 2 12) (M 24 x2)) 2 12 (a_add ((am_up M1 26 (M1 2 12) (M 24 x2)) 2 12) 1)) 17 (M 24 x2)) ∧ ((am_up (am_up M1 26 (M1 2 12) (M 24 x2)) 2 12 (a_add ((am_up M1 26 (M1 2 12) (M 24 x2)) 2 12) 1)) 17 (M 24 x2)) < 6) ∧ ((0 ≤ (M 24 x2) ∧ (M 24 x2) < 150) ∧ ((0 ≤ ((am_up (am_up M1 26 (M1 2 12) (M 24 x2)) 2 12 (a_add ((am_up M1 26 (M1 2 12) (M 24 x2)) 2 12) 1)) 21 (M 24 x2)) ∧ ((am_up (am_up M1 26 (M1 2 12) (M 24 x2)) 2 12 (a_add ((am_up M1 26 (M1 2 12) (M 24 x2)) 2 12) 1)) 21 (M 24 x2)) < 40) ∧ ((((am_up (am_up M1 26 (M1 2 12) (M 24 x2)) 2 12 (a_add ((am_up M1 26 (M1 2 12) (M 24 x2)) 2 12) 1)) 27 (((am_up (am_up M1 26 (M1 2 12) (M 24 x2)) 2 12 (a_add ((am_up M1 26 (M1 2 12) (M 24 x2)) 2 12) 1)) 17 (M 24 x2)) * 40 + ((am_up (am_up M1 26 (M1 2 12) (M 24 x2)) 2 12 (a_add ((am_up M1 26 (M1 2 12) (M 24 x2)) 2 12) 1)) 21 (M 24 x2)))) ≠ ((-1) : Int) → aE s1_G d 31 62 [] [some (aP 2), none, some (aI (a_add x2 1)), none] [] (am_up (am_up M1 26 (M1 2 12) (M 24 x2)) 2 12 (a_add ((am_up M1 26 (M1 2 12) (M 24 x2)) 2 12) 1)) Q) ∧ (((am_up (am_up M1 26 (M1 2 12) (M 24 x2)) 2 12 (a_add ((am_up M1 26 (M1 2 12) (M 24 x2)) 2 12) 1)) 27 (((am_up (am_up M1 26 (M1 2 12) (M 24 x2)) 2 12 (a_add ((am_up M1 26 (M1 2 12) (M 24 x2)) 2 12) 1)) 17 (M 24 x2)) * 40 + ((am_up (am_up M1 26 (M1 2 12) (M 24 x2)) 2 12 (a_add ((am_up M1 26 (M1 2 12) (M 24 x2)) 2 12) 1)) 21 (M 24 x2)))) = ((-1) : Int) → (0 ≤ (M 24 x2) ∧ (M 24 x2) < 150) ∧ ((0 ≤ ((am_up (am_up M1 26 (M1 2 12) (M 24 x2)) 2 12 (a_add ((am_up M1 26 (M1 2 12) (M 24 x2)) 2 12) 1)) 17 (M 24 x2)) ∧ ((am_up (am_up M1 26 (M1 2 12) (M 24 x2)) 2 12 (a_add ((am_up M1 26 (M1 2 12) (M 24 x2)) 2 12) 1)) 17 (M 24 x2)) < 6) ∧ ((0 ≤ (M 24 x2) ∧ (M 24 x2) < 150) ∧ ((0 ≤ (M 24 x2) ∧ (M 24 x2) < 150) ∧ ((0 ≤ ((am_up (am_up M1 26 (M1 2 12) (M 24 x2)) 2 12 (a_add ((am_up M1 26 (M1 2 12) (M 24 x2)) 2 12) 1)) 21 (M 24 x2)) ∧ ((am_up (am_up M1 26 (M1 2 12) (M 24 x2)) 2 12 (a_add ((am_up M1 26 (M1 2 12) (M 24 x2)) 2 12) 1)) 21 (M 24 x2)) < 40) ∧ (aE s1_G d 31 62 [] [some (aP 2), none, some (aI (a_add x2 1)), none] [] (am_up (am_up (am_up M1 26 (M1 2 12) (M 24 x2)) 2 12 (a_add ((am_up M1 26 (M1 2 12) (M 24 x2)) 2 12) 1)) 27 (((am_up (am_up M1 26 (M1 2 12) (M 24 x2)) 2 12 (a_add ((am_up M1 26 (M1 2 12) (M 24 x2)) 2 12) 1)) 17 (M 24 x2)) * 40 + ((am_up (am_up M1 26 (M1 2 12) (M 24 x2)) 2 12 (a_add ((am_up M1 26 (M1 2 12) (M 24 x2)) 2 12) 1)) 21 (M 24 x2))) ((am_up (am_up M1 26 (M1 2 12) (M 24 x2)) 2 12 (a_add ((am_up M1 26 (M1 2 12) (M 24 x2)) 2 12) 1)) 18 (M 24 x2))) Q)))))))))))))))))) :
    aE s1_G d 31 62 [] [some (aP 2), none, some (aI x2), none] [] M Q := aE_go s1_pu_ok [(21, [true, false, true, false]), (28, [true, false, true, true]), (62, [true, false, true, false])] 200 hd h

-- 32: DioceseBook$Papers.markVoid(I)V
set_option maxRecDepth 100000 in
set_option maxHeartbeats 4000000 in
theorem s1_Papers_markVoid_0 {d : Nat} (hd : 3 < d) {M : AM} {Q : Option AV → AM → Prop} {x1 : Int}
    (h : aE s1_G d 32 2 [] [some (aP 2), some (aI x1), some (aI 0)] [] M Q) :
    aE s1_G d 32 0 [] [some (aP 2), some (aI x1), none] [] M Q := aE_go s1_pu_ok [(2, [true, true, true]), (30, [true, true, true])] 64 hd h

set_option maxRecDepth 100000 in
set_option maxHeartbeats 4000000 in
theorem s1_Papers_markVoid_2 {d : Nat} (hd : 3 < d) {M : AM} {Q : Option AV → AM → Prop} {x1 x2 : Int}
    (h : ((M 2 7) ≤ x2 → aE s1_G d 32 30 [] [some (aP 2), some (aI x1), some (aI (a_sub (M 2 7) 1))] [] M Q) ∧ (x2 < (M 2 7) → (0 ≤ x2 ∧ x2 < 150) ∧ (((0 : Int) = 0 ∨ (0 : Int) = 1) ∧ (aE s1_G d 32 2 [] [some (aP 2), some (aI x1), some (aI (a_add x2 1))] [] (am_up M 25 x2 0) Q)))) :
    aE s1_G d 32 2 [] [some (aP 2), some (aI x1), some (aI x2)] [] M Q := aE_go s1_pu_ok [(2, [true, true, true]), (30, [true, true, true])] 92 hd h

set_option maxRecDepth 100000 in
set_option maxHeartbeats 4000000 in
theorem s1_Papers_markVoid_30 {d : Nat} (hd : 3 < d) {M : AM} {Q : Option AV → AM → Prop} {x1 x2 : Int}
    (h : (x2 < (0 : Int) → Q none M) ∧ ((0 : Int) ≤ x2 → (0 ≤ x2 ∧ x2 < 150) ∧ (((M 17 x2) ≠ (12 : Int) → aE s1_G d 32 30 [] [some (aP 2), some (aI x1), some (aI (a_add x2 (-1)))] [] M Q) ∧ ((M 17 x2) = (12 : Int) → (0 ≤ x2 ∧ x2 < 150) ∧ ((x1 < (M 19 x2) → aE s1_G d 32 30 [] [some (aP 2), some (aI x1), some (aI (a_add x2 (-1)))] [] M Q) ∧ ((M 19 x2) ≤ x1 → (0 ≤ x2 ∧ x2 < 150) ∧ (((M 25 x2) ≠ (0 : Int) → aE s1_G d 32 30 [] [some (aP 2), some (aI x1), some (aI (a_add x2 (-1)))] [] M Q) ∧ ((M 25 x2) = (0 : Int) → (0 ≤ x2 ∧ x2 < 150) ∧ ((0 ≤ (M 23 x2) ∧ (M 23 x2) < 150) ∧ (((1 : Int) = 0 ∨ (1 : Int) = 1) ∧ (aE s1_G d 32 30 [] [some (aP 2), some (aI x1), some (aI (a_add x2 (-1)))] [] (am_up M 25 (M 23 x2) 1) Q))))))))))) :
    aE s1_G d 32 30 [] [some (aP 2), some (aI x1), some (aI x2)] [] M Q := aE_go s1_pu_ok [(2, [true, true, true]), (30, [true, true, true])] 132 hd h

-- 33: DioceseBook$Papers.hadBy(III)Z
set_option maxRecDepth 100000 in
set_option maxHeartbeats 4000000 in
theorem s1_Papers_hadBy_0 {d : Nat} (hd : 3 < d) {M : AM} {Q : Option AV → AM → Prop} {x1 x2 x3 : Int}
    (h : (0 ≤ x1 ∧ x1 < 6) ∧ ((0 ≤ x2 ∧ x2 < 40) ∧ (((M 27 (x1 * 40 + x2)) = ((-1) : Int) → ((0 : Int) = 0 ∨ (0 : Int) = 1) ∧ Q (some (aI 0)) M) ∧ ((M 27 (x1 * 40 + x2)) ≠ ((-1) : Int) → (x3 < (M 27 (x1 * 40 + x2)) → ((0 : Int) = 0 ∨ (0 : Int) = 1) ∧ Q (some (aI 0)) M) ∧ ((M 27 (x1 * 40 + x2)) ≤ x3 → ((1 : Int) = 0 ∨ (1 : Int) = 1) ∧ Q (some (aI 1)) M))))) :
    aE s1_G d 33 0 [] [some (aP 2), some (aI x1), some (aI x2), some (aI x3), none] [] M Q := aE_go s1_pu_ok [] 100 hd h

-- 34: DioceseBook$Papers.isInBook(I)Z
set_option maxRecDepth 100000 in
set_option maxHeartbeats 4000000 in
theorem s1_Papers_isInBook_0 {d : Nat} (hd : 3 < d) {M : AM} {Q : Option AV → AM → Prop} {x1 : Int}
    (h : (0 ≤ x1 ∧ x1 < 150) ∧ (((M 2 9) < (M 19 x1) → ((0 : Int) = 0 ∨ (0 : Int) = 1) ∧ Q (some (aI 0)) M) ∧ ((M 19 x1) ≤ (M 2 9) → (0 ≤ x1 ∧ x1 < 150) ∧ (((M 25 x1) ≠ (0 : Int) → ((0 : Int) = 0 ∨ (0 : Int) = 1) ∧ Q (some (aI 0)) M) ∧ ((M 25 x1) = (0 : Int) → ((1 : Int) = 0 ∨ (1 : Int) = 1) ∧ Q (some (aI 1)) M))))) :
    aE s1_G d 34 0 [] [some (aP 2), some (aI x1)] [] M Q := aE_go s1_pu_ok [] 98 hd h

-- 35: DioceseBook$Papers.heirBy(II)I
set_option maxRecDepth 100000 in
set_option maxHeartbeats 4000000 in
theorem s1_Papers_heirBy_0 {d : Nat} (hd : 3 < d) {M : AM} {Q : Option AV → AM → Prop} {x1 x2 : Int}
    (h : aE s1_G d 35 7 [] [some (aP 2), some (aI x1), some (aI x2), some (aI (a_sub (M 2 12) 1)), none] [] M Q) :
    aE s1_G d 35 0 [] [some (aP 2), some (aI x1), some (aI x2), none, none] [] M Q := aE_go s1_pu_ok [(7, [true, true, true, true, false])] 70 hd h

set_option maxRecDepth 100000 in
set_option maxHeartbeats 4000000 in
theorem s1_Papers_heirBy_7 {d : Nat} (hd : 3 < d) {M : AM} {Q : Option AV → AM → Prop} {x1 x2 x3 : Int}
    (h : (x3 < (0 : Int) → Q (some (aI (-1))) M) ∧ ((0 : Int) ≤ x3 → (0 ≤ x3 ∧ x3 < 150) ∧ ((0 ≤ (M 26 x3) ∧ (M 26 x3) < 150) ∧ (((M 17 (M 26 x3)) ≠ (6 : Int) → aE s1_G d 35 7 [] [some (aP 2), some (aI x1), some (aI x2), some (aI (a_add x3 (-1))), none] [] M Q) ∧ ((M 17 (M 26 x3)) = (6 : Int) → (0 ≤ (M 26 x3) ∧ (M 26 x3) < 150) ∧ (((M 21 (M 26 x3)) ≠ x1 → aE s1_G d 35 7 [] [some (aP 2), some (aI x1), some (aI x2), some (aI (a_add x3 (-1))), none] [] M Q) ∧ ((M 21 (M 26 x3)) = x1 → (0 ≤ (M 26 x3) ∧ (M 26 x3) < 150) ∧ ((x2 < (M 18 (M 26 x3)) → aE s1_G d 35 7 [] [some (aP 2), some (aI x1), some (aI x2), some (aI (a_add x3 (-1))), none] [] M Q) ∧ ((M 18 (M 26 x3)) ≤ x2 → (0 ≤ (M 26 x3) ∧ (M 26 x3) < 150) ∧ (Q (some (aI (M 22 (M 26 x3)))) M)))))))))) :
    aE s1_G d 35 7 [] [some (aP 2), some (aI x1), some (aI x2), some (aI x3), none] [] M Q := aE_go s1_pu_ok [(7, [true, true, true, true, false])] 136 hd h

-- 36: DioceseBook$Papers.firstNotice(II)I
set_option maxRecDepth 100000 in
set_option maxHeartbeats 4000000 in
theorem s1_Papers_firstNotice_0 {d : Nat} (hd : 3 < d) {M : AM} {Q : Option AV → AM → Prop} {x1 x2 : Int}
    (h : aE s1_G d 36 2 [] [some (aP 2), some (aI x1), some (aI x2), some (aI 0), none] [] M Q) :
    aE s1_G d 36 0 [] [some (aP 2), some (aI x1), some (aI x2), none, none] [] M Q := aE_go s1_pu_ok [(2, [true, true, true, true, false])] 64 hd h

set_option maxRecDepth 100000 in
set_option maxHeartbeats 4000000 in
theorem s1_Papers_firstNotice_2 {d : Nat} (hd : 3 < d) {M : AM} {Q : Option AV → AM → Prop} {x1 x2 x3 : Int}
    (h : ((M 2 12) ≤ x3 → Q (some (aI (-1))) M) ∧ (x3 < (M 2 12) → (0 ≤ x3 ∧ x3 < 150) ∧ ((0 ≤ (M 26 x3) ∧ (M 26 x3) < 150) ∧ (((M 17 (M 26 x3)) ≠ (10 : Int) → aE s1_G d 36 2 [] [some (aP 2), some (aI x1), some (aI x2), some (aI (a_add x3 1)), none] [] M Q) ∧ ((M 17 (M 26 x3)) = (10 : Int) → (0 ≤ (M 26 x3) ∧ (M 26 x3) < 150) ∧ (((M 20 (M 26 x3)) ≠ x1 → aE s1_G d 36 2 [] [some (aP 2), some (aI x1), some (aI x2), some (aI (a_add x3 1)), none] [] M Q) ∧ ((M 20 (M 26 x3)) = x1 → (0 ≤ (M 26 x3) ∧ (M 26 x3) < 150) ∧ (((M 18 (M 26 x3)) < x2 → aE s1_G d 36 2 [] [some (aP 2), some (aI x1), some (aI x2), some (aI (a_add x3 1)), none] [] M Q) ∧ (x2 ≤ (M 18 (M 26 x3)) → (0 ≤ (M 26 x3) ∧ (M 26 x3) < 150) ∧ (Q (some (aI (M 18 (M 26 x3)))) M)))))))))) :
    aE s1_G d 36 2 [] [some (aP 2), some (aI x1), some (aI x2), some (aI x3), none] [] M Q := aE_go s1_pu_ok [(2, [true, true, true, true, false])] 140 hd h

-- 37: DioceseBook$Reader.append(I)V
set_option maxRecDepth 100000 in
set_option maxHeartbeats 4000000 in
theorem s1_Reader_append_0 {d : Nat} (hd : 3 < d) {M : AM} {Q : Option AV → AM → Prop} {x1 : Int}
    (h : ((200 : Int) ≤ (M 4 2) → Q none M) ∧ ((M 4 2) < (200 : Int) → (0 ≤ (M 4 2) ∧ (M 4 2) < 200) ∧ ((0 ≤ (a_i2c x1) ∧ (a_i2c x1) < 65536) ∧ (Q none (am_up (am_up M 38 (M 4 2) (a_i2c x1)) 4 2 (a_add ((am_up M 38 (M 4 2) (a_i2c x1)) 4 2) 1)))))) :
    aE s1_G d 37 0 [] [some (aP 4), some (aI x1)] [] M Q := aE_go s1_pu_ok [] 98 hd h

-- 38: DioceseBook$Reader.readText()I
set_option maxRecDepth 100000 in
set_option maxHeartbeats 4000000 in
theorem s1_Reader_readText_0 {d : Nat} (hd : 3 < d) {M : AM} {Q : Option AV → AM → Prop}
    (h : aKv s1_G d 0 [aP 3] (am_up (am_up (am_up M 4 5 0) 4 4 0) 4 3 (-1)) (fun M1 => aE s1_G d 38 24 [] [some (aP 4), some (aI 0), none, none] [] M1 Q)) :
    aE s1_G d 38 0 [] [some (aP 4), none, none, none] [] M Q := aE_go s1_pu_ok [(24, [true, true, false, false])] 88 hd h

set_option maxRecDepth 100000 in
set_option maxHeartbeats 4000000 in
theorem s1_Reader_readText_24 {d : Nat} (hd : 3 < d) {M : AM} {Q : Option AV → AM → Prop} {x1 : Int}
    (h : ((12 : Int) < x1 → Q (some (aI ((am_up M 4 2 0) 4 4))) (am_up M 4 2 0)) ∧ (x1 ≤ (12 : Int) → ((M 4 4) ≠ (0 : Int) → Q (some (aI ((am_up M 4 2 0) 4 4))) (am_up M 4 2 0)) ∧ ((M 4 4) = (0 : Int) → aKi s1_G d 39 [aP 4] M (fun z2 M1 => (z2 ≠ (0 : Int) → Q (some (aI ((am_up M1 4 2 0) 4 4))) (am_up M1 4 2 0)) ∧ (z2 = (0 : Int) → aKi s1_G d 51 [aP 4] M1 (fun z4 M3 => (z4 ≠ ((-1) : Int) → (x1 < (12 : Int) → (z4 ≠ (0 : Int) → (z4 ≠ (1 : Int) → aKv s1_G d 42 [aP 4] M3 (fun M5 => aE s1_G d 38 24 [] [some (aP 4), some (aI (a_add x1 1)), none, none] [] M5 Q)) ∧ (z4 = (1 : Int) → aKv s1_G d 43 [aP 4] M3 (fun M6 => aE s1_G d 38 24 [] [some (aP 4), some (aI (a_add x1 1)), none, none] [] M6 Q))) ∧ (z4 = (0 : Int) → aKv s1_G d 41 [aP 4] M3 (fun M7 => aE s1_G d 38 24 [] [some (aP 4), some (aI (a_add x1 1)), none, none] [] M7 Q))) ∧ ((12 : Int) ≤ x1 → aKv s1_G d 40 [aP 4, aI 4, aI (M1 4 5)] M3 (fun M8 => aE s1_G d 38 24 [] [some (aP 4), some (aI (a_add x1 1)), none, none] [] M8 Q))) ∧ (z4 = ((-1) : Int) → aKv s1_G d 40 [aP 4, aI 1, aI (M1 4 5)] M3 (fun M9 => aE s1_G d 38 24 [] [some (aP 4), some (aI (a_add x1 1)), none, none] [] M9 Q)))))))) :
    aE s1_G d 38 24 [] [some (aP 4), some (aI x1), none, none] [] M Q := aE_go s1_pu_ok [(24, [true, true, false, false])] 204 hd h

-- 39: DioceseBook$Reader.isAtEnd()Z
set_option maxRecDepth 100000 in
set_option maxHeartbeats 4000000 in
theorem s1_Reader_isAtEnd_0 {d : Nat} (hd : 3 < d) {M : AM} {Q : Option AV → AM → Prop}
    (h : aKv s1_G d 50 [aP 4] M (fun M1 => ((M1 4 5) < (M1 4 2) → ((0 : Int) = 0 ∨ (0 : Int) = 1) ∧ Q (some (aI 0)) M1) ∧ ((M1 4 2) ≤ (M1 4 5) → ((1 : Int) = 0 ∨ (1 : Int) = 1) ∧ Q (some (aI 1)) M1))) :
    aE s1_G d 39 0 [] [some (aP 4)] [] M Q := aE_go s1_pu_ok [] 84 hd h

-- 40: DioceseBook$Reader.fail(II)V
set_option maxRecDepth 100000 in
set_option maxHeartbeats 4000000 in
theorem s1_Reader_fail_0 {d : Nat} (hd : 3 < d) {M : AM} {Q : Option AV → AM → Prop} {x1 x2 : Int}
    (h : ((M 4 4) ≠ (0 : Int) → Q none M) ∧ ((M 4 4) = (0 : Int) → Q none (am_up (am_up M 4 4 x1) 4 3 x2))) :
    aE s1_G d 40 0 [] [some (aP 4), some (aI x1), some (aI x2)] [] M Q := aE_go s1_pu_ok [] 82 hd h

-- 41: DioceseBook$Reader.readLet()V
set_option maxRecDepth 100000 in
set_option maxHeartbeats 4000000 in
theorem s1_Reader_readLet_0 {d : Nat} (hd : 3 < d) {M : AM} {Q : Option AV → AM → Prop}
    (h : aKi s1_G d 52 [aP 4] M (fun z2 M1 => (z2 ≠ ((-1) : Int) → (0 ≤ z2 ∧ z2 < 8) ∧ (aKi s1_G d 46 [aP 4, aI (List.getD [24, 99, 999, 1, 1, 2, 999, 999] (Int.toNat z2) 0)] M1 (fun z4 M3 => aKv s1_G d 47 [aP 4, aI 59] M3 (fun M5 => aKv s1_G d 1 [aP 3, aI 0, aI z2, aI z4, aI 0] M5 (fun M6 => Q none M6))))) ∧ (z2 = ((-1) : Int) → aKv s1_G d 40 [aP 4, aI 1, aI (M1 4 5)] M1 (fun M7 => Q none M7)))) :
    aE s1_G d 41 0 [] [some (aP 4), none, none] [] M Q := aE_go s1_pu_ok [] 118 hd h

-- 42: DioceseBook$Reader.readStrike()V
set_option maxRecDepth 100000 in
set_option maxHeartbeats 4000000 in
theorem s1_Reader_readStrike_0 {d : Nat} (hd : 3 < d) {M : AM} {Q : Option AV → AM → Prop}
    (h : aKv s1_G d 50 [aP 4] M (fun M1 => aKi s1_G d 46 [aP 4, aI 9999] M1 (fun z3 M2 => (z3 < (M2 3 0) → aKv s1_G d 47 [aP 4, aI 59] M2 (fun M4 => aKv s1_G d 1 [aP 3, aI 2, aI z3, aI 0, aI 0] M4 (fun M5 => Q none M5))) ∧ ((M2 3 0) ≤ z3 → aKv s1_G d 40 [aP 4, aI 3, aI (M1 4 5)] M2 (fun M6 => aKv s1_G d 47 [aP 4, aI 59] M6 (fun M7 => aKv s1_G d 1 [aP 3, aI 2, aI z3, aI 0, aI 0] M7 (fun M8 => Q none M8))))))) :
    aE s1_G d 42 0 [] [some (aP 4), none, none] [] M Q := aE_go s1_pu_ok [] 140 hd h

-- 43: DioceseBook$Reader.readBar()V
set_option maxRecDepth 100000 in
set_option maxHeartbeats 4000000 in
theorem s1_Reader_readBar_0 {d : Nat} (hd : 3 < d) {M : AM} {Q : Option AV → AM → Prop}
    (h : aKi s1_G d 3 [aP 3] M (fun z2 M1 => aKv s1_G d 44 [aP 4, aI 0] M1 (fun M3 => aKi s1_G d 3 [aP 3] M3 (fun z5 M4 => aKi s1_G d 49 [aP 4, aS 0] M4 (fun z7 M6 => (z7 = (0 : Int) → aKv s1_G d 47 [aP 4, aI 59] M6 (fun M8 => aKi s1_G d 3 [aP 3] M8 (fun z10 M9 => aKv s1_G d 1 [aP 3, aI 1, aI z2, aI z5, aI z10] M9 (fun M11 => Q none M11)))) ∧ (z7 ≠ (0 : Int) → aKv s1_G d 44 [aP 4, aI 0] M6 (fun M12 => aKv s1_G d 47 [aP 4, aI 59] M12 (fun M13 => aKi s1_G d 3 [aP 3] M13 (fun z15 M14 => aKv s1_G d 1 [aP 3, aI 1, aI z2, aI z5, aI z15] M14 (fun M16 => Q none M16)))))))))) :
    aE s1_G d 43 0 [] [some (aP 4), none, none] [] M Q := aE_go s1_pu_ok [] 148 hd h

-- 44: DioceseBook$Reader.readTest(I)V
set_option maxRecDepth 100000 in
set_option maxHeartbeats 4000000 in
theorem s1_Reader_readTest_0 {d : Nat} (hd : 3 < d) {M : AM} {Q : Option AV → AM → Prop} {x1 : Int}
    (h : aE s1_G d 44 10 [] [some (aP 4), some (aI x1), some (aI 0), some (aI 0), some (aI 1), some (aI 0), none] [] M Q) :
    aE s1_G d 44 0 [] [some (aP 4), some (aI x1), none, none, none, none, none] [] M Q := aE_go s1_pu_ok [(10, [true, true, true, true, true, true, false]), (33, [true, true, true, true, true, true, true])] 76 hd h

set_option maxRecDepth 100000 in
set_option maxHeartbeats 4000000 in
theorem s1_Reader_readTest_10 {d : Nat} (hd : 3 < d) {M : AM} {Q : Option AV → AM → Prop} {x1 x2 x3 x4 x5 : Int}
    (h : ((200 : Int) ≤ x5 → Q none M) ∧ (x5 < (200 : Int) → ((M 4 4) ≠ (0 : Int) → Q none M) ∧ ((M 4 4) = (0 : Int) → (x4 = (0 : Int) → Q none M) ∧ (x4 ≠ (0 : Int) → aE s1_G d 44 33 [] [some (aP 4), some (aI x1), some (aI x2), some (aI x3), some (aI x4), some (aI x5), some (aI 0)] [] M Q)))) :
    aE s1_G d 44 10 [] [some (aP 4), some (aI x1), some (aI x2), some (aI x3), some (aI x4), some (aI x5), none] [] M Q := aE_go s1_pu_ok [(10, [true, true, true, true, true, true, false]), (33, [true, true, true, true, true, true, true])] 86 hd h

set_option maxRecDepth 100000 in
set_option maxHeartbeats 4000000 in
theorem s1_Reader_readTest_33 {d : Nat} (hd : 3 < d) {M : AM} {Q : Option AV → AM → Prop} {x1 x2 x3 x4 x5 x6 : Int}
    (h : ((200 : Int) ≤ x6 → aKi s1_G d 48 [aP 4, aI 40] M (fun z2 M1 => (z2 ≠ (0 : Int) → (x1 < (8 : Int) → aKv s1_G d 44 [aP 4, aI (a_add x1 1)] M1 (fun M3 => aKv s1_G d 47 [aP 4, aI 41] M3 (fun M4 => (2 : Int) ≠ 0 ∧ (((a_rem x6 2) ≠ (1 : Int) → (x2 = (0 : Int) → aKi s1_G d 49 [aP 4, aS 2] M4 (fun z6 M5 => (z6 ≠ (0 : Int) → aE s1_G d 44 10 [] [some (aP 4), some (aI x1), some (aI z6), some (aI x3), some (aI x4), some (aI (a_add x5 1)), none] [] M5 Q) ∧ (z6 = (0 : Int) → (x3 = (0 : Int) → aKi s1_G d 49 [aP 4, aS 3] M5 (fun z8 M7 => aE s1_G d 44 10 [] [some (aP 4), some (aI x1), some (aI z6), some (aI z8), some (aI z8), some (aI (a_add x5 1)), none] [] M7 Q)) ∧ (x3 ≠ (0 : Int) → aKv s1_G d 2 [aP 3, aI (-2)] M5 (fun M9 => aKi s1_G d 49 [aP 4, aS 3] M9 (fun z11 M10 => aE s1_G d 44 10 [] [some (aP 4), some (aI x1), some (aI z6), some (aI z11), some (aI z11), some (aI (a_add x5 1)), none] [] M10 Q)))))) ∧ (x2 ≠ (0 : Int) → aKv s1_G d 2 [aP 3, aI (-1)] M4 (fun M12 => aKi s1_G d 49 [aP 4, aS 2] M12 (fun z14 M13 => (z14 ≠ (0 : Int) → aE s1_G d 44 10 [] [some (aP 4), some (aI x1), some (aI z14), some (aI x3), some (aI x4), some (aI (a_add x5 1)), none] [] M13 Q) ∧ (z14 = (0 : Int) → (x3 = (0 : Int) → aKi s1_G d 49 [aP 4, aS 3] M13 (fun z16 M15 => aE s1_G d 44 10 [] [some (aP 4), some (aI x1), some (aI z14), some (aI z16), some (aI z16), some (aI (a_add x5 1)), none] [] M15 Q)) ∧ (x3 ≠ (0 : Int) → aKv s1_G d 2 [aP 3, aI (-2)] M13 (fun M17 => aKi s1_G d 49 [aP 4, aS 3] M17 (fun z19 M18 => aE s1_G d 44 10 [] [some (aP 4), some (aI x1), some (aI z14), some (aI z19), some (aI z19), some (aI (a_add x5 1)), none] [] M18 Q)))))))) ∧ ((a_rem x6 2) = (1 : Int) → aKv s1_G d 2 [aP 3, aI (-3)] M4 (fun M20 => (x2 = (0 : Int) → aKi s1_G d 49 [aP 4, aS 2] M20 (fun z22 M21 => (z22 ≠ (0 : Int) → aE s1_G d 44 10 [] [some (aP 4), some (aI x1), some (aI z22), some (aI x3), some (aI x4), some (aI (a_add x5 1)), none] [] M21 Q) ∧ (z22 = (0 : Int) → (x3 = (0 : Int) → aKi s1_G d 49 [aP 4, aS 3] M21 (fun z24 M23 => aE s1_G d 44 10 [] [some (aP 4), some (aI x1), some (aI z22), some (aI z24), some (aI z24), some (aI (a_add x5 1)), none] [] M23 Q)) ∧ (x3 ≠ (0 : Int) → aKv s1_G d 2 [aP 3, aI (-2)] M21 (fun M25 => aKi s1_G d 49 [aP 4, aS 3] M25 (fun z27 M26 => aE s1_G d 44 10 [] [some (aP 4), some (aI x1), some (aI z22), some (aI z27), some (aI z27), some (aI (a_add x5 1)), none] [] M26 Q)))))) ∧ (x2 ≠ (0 : Int) → aKv s1_G d 2 [aP 3, aI (-1)] M20 (fun M28 => aKi s1_G d 49 [aP 4, aS 2] M28 (fun z30 M29 => (z30 ≠ (0 : Int) → aE s1_G d 44 10 [] [some (aP 4), some (aI x1), some (aI z30), some (aI x3), some (aI x4), some (aI (a_add x5 1)), none] [] M29 Q) ∧ (z30 = (0 : Int) → (x3 = (0 : Int) → aKi s1_G d 49 [aP 4, aS 3] M29 (fun z32 M31 => aE s1_G d 44 10 [] [some (aP 4), some (aI x1), some (aI z30), some (aI z32), some (aI z32), some (aI (a_add x5 1)), none] [] M31 Q)) ∧ (x3 ≠ (0 : Int) → aKv s1_G d 2 [aP 3, aI (-2)] M29 (fun M33 => aKi s1_G d 49 [aP 4, aS 3] M33 (fun z35 M34 => aE s1_G d 44 10 [] [some (aP 4), some (aI x1), some (aI z30), some (aI z35), some (aI z35), some (aI (a_add x5 1)), none] [] M34 Q))))))))))))) ∧ ((8 : Int) ≤ x1 → aKv s1_G d 40 [aP 4, aI 5, aI (a_sub (M1 4 5) 1)] M1 (fun M36 => (2 : Int) ≠ 0 ∧ (((a_rem x6 2) ≠ (1 : Int) → (x2 = (0 : Int) → aKi s1_G d 49 [aP 4, aS 2] M36 (fun z38 M37 => (z38 ≠ (0 : Int) → aE s1_G d 44 10 [] [some (aP 4), some (aI x1), some (aI z38), some (aI x3), some (aI x4), some (aI (a_add x5 1)), none] [] M37 Q) ∧ (z38 = (0 : Int) → (x3 = (0 : Int) → aKi s1_G d 49 [aP 4, aS 3] M37 (fun z40 M39 => aE s1_G d 44 10 [] [some (aP 4), some (aI x1), some (aI z38), some (aI z40), some (aI z40), some (aI (a_add x5 1)), none] [] M39 Q)) ∧ (x3 ≠ (0 : Int) → aKv s1_G d 2 [aP 3, aI (-2)] M37 (fun M41 => aKi s1_G d 49 [aP 4, aS 3] M41 (fun z43 M42 => aE s1_G d 44 10 [] [some (aP 4), some (aI x1), some (aI z38), some (aI z43), some (aI z43), some (aI (a_add x5 1)), none] [] M42 Q)))))) ∧ (x2 ≠ (0 : Int) → aKv s1_G d 2 [aP 3, aI (-1)] M36 (fun M44 => aKi s1_G d 49 [aP 4, aS 2] M44 (fun z46 M45 => (z46 ≠ (0 : Int) → aE s1_G d 44 10 [] [some (aP 4), some (aI x1), some (aI z46), some (aI x3), some (aI x4), some (aI (a_add x5 1)), none] [] M45 Q) ∧ (z46 = (0 : Int) → (x3 = (0 : Int) → aKi s1_G d 49 [aP 4, aS 3] M45 (fun z48 M47 => aE s1_G d 44 10 [] [some (aP 4), some (aI x1), some (aI z46), some (aI z48), some (aI z48), some (aI (a_add x5 1)), none] [] M47 Q)) ∧ (x3 ≠ (0 : Int) → aKv s1_G d 2 [aP 3, aI (-2)] M45 (fun M49 => aKi s1_G d 49 [aP 4, aS 3] M49 (fun z51 M50 => aE s1_G d 44 10 [] [some (aP 4), some (aI x1), some (aI z46), some (aI z51), some (aI z51), some (aI (a_add x5 1)), none] [] M50 Q)))))))) ∧ ((a_rem x6 2) = (1 : Int) → aKv s1_G d 2 [aP 3, aI (-3)] M36 (fun M52 => (x2 = (0 : Int) → aKi s1_G d 49 [aP 4, aS 2] M52 (fun z54 M53 => (z54 ≠ (0 : Int) → aE s1_G d 44 10 [] [some (aP 4), some (aI x1), some (aI z54), some (aI x3), some (aI x4), some (aI (a_add x5 1)), none] [] M53 Q) ∧ (z54 = (0 : Int) → (x3 = (0 : Int) → aKi s1_G d 49 [aP 4, aS 3] M53 (fun z56 M55 => aE s1_G d 44 10 [] [some (aP 4), some (aI x1), some (aI z54), some (aI z56), some (aI z56), some (aI (a_add x5 1)), none] [] M55 Q)) ∧ (x3 ≠ (0 : Int) → aKv s1_G d 2 [aP 3, aI (-2)] M53 (fun M57 => aKi s1_G d 49 [aP 4, aS 3] M57 (fun z59 M58 => aE s1_G d 44 10 [] [some (aP 4), some (aI x1), some (aI z54), some (aI z59), some (aI z59), some (aI (a_add x5 1)), none] [] M58 Q)))))) ∧ (x2 ≠ (0 : Int) → aKv s1_G d 2 [aP 3, aI (-1)] M52 (fun M60 => aKi s1_G d 49 [aP 4, aS 2] M60 (fun z62 M61 => (z62 ≠ (0 : Int) → aE s1_G d 44 10 [] [some (aP 4), some (aI x1), some (aI z62), some (aI x3), some (aI x4), some (aI (a_add x5 1)), none] [] M61 Q) ∧ (z62 = (0 : Int) → (x3 = (0 : Int) → aKi s1_G d 49 [aP 4, aS 3] M61 (fun z64 M63 => aE s1_G d 44 10 [] [some (aP 4), some (aI x1), some (aI z62), some (aI z64), some (aI z64), some (aI (a_add x5 1)), none] [] M63 Q)) ∧ (x3 ≠ (0 : Int) → aKv s1_G d 2 [aP 3, aI (-2)] M61 (fun M65 => aKi s1_G d 49 [aP 4, aS 3] M65 (fun z67 M66 => aE s1_G d 44 10 [] [some (aP 4), some (aI x1), some (aI z62), some (aI z67), some (aI z67), some (aI (a_add x5 1)), none] [] M66 Q))))))))))))) ∧ (z2 = (0 : Int) → aKv s1_G d 45 [aP 4] M1 (fun M68 => (2 : Int) ≠ 0 ∧ (((a_rem x6 2) ≠ (1 : Int) → (x2 = (0 : Int) → aKi s1_G d 49 [aP 4, aS 2] M68 (fun z70 M69 => (z70 ≠ (0 : Int) → aE s1_G d 44 10 [] [some (aP 4), some (aI x1), some (aI z70), some (aI x3), some (aI x4), some (aI (a_add x5 1)), none] [] M69 Q) ∧ (z70 = (0 : Int) → (x3 = (0 : Int) → aKi s1_G d 49 [aP 4, aS 3] M69 (fun z72 M71 => aE s1_G d 44 10 [] [some (aP 4), some (aI x1), some (aI z70), some (aI z72), some (aI z72), some (aI (a_add x5 1)), none] [] M71 Q)) ∧ (x3 ≠ (0 : Int) → aKv s1_G d 2 [aP 3, aI (-2)] M69 (fun M73 => aKi s1_G d 49 [aP 4, aS 3] M73 (fun z75 M74 => aE s1_G d 44 10 [] [some (aP 4), some (aI x1), some (aI z70), some (aI z75), some (aI z75), some (aI (a_add x5 1)), none] [] M74 Q)))))) ∧ (x2 ≠ (0 : Int) → aKv s1_G d 2 [aP 3, aI (-1)] M68 (fun M76 => aKi s1_G d 49 [aP 4, aS 2] M76 (fun z78 M77 => (z78 ≠ (0 : Int) → aE s1_G d 44 10 [] [some (aP 4), some (aI x1), some (aI z78), some (aI x3), some (aI x4), some (aI (a_add x5 1)), none] [] M77 Q) ∧ (z78 = (0 : Int) → (x3 = (0 : Int) → aKi s1_G d 49 [aP 4, aS 3] M77 (fun z80 M79 => aE s1_G d 44 10 [] [some (aP 4), some (aI x1), some (aI z78), some (aI z80), some (aI z80), some (aI (a_add x5 1)), none] [] M79 Q)) ∧ (x3 ≠ (0 : Int) → aKv s1_G d 2 [aP 3, aI (-2)] M77 (fun M81 => aKi s1_G d 49 [aP 4, aS 3] M81 (fun z83 M82 => aE s1_G d 44 10 [] [some (aP 4), some (aI x1), some (aI z78), some (aI z83), some (aI z83), some (aI (a_add x5 1)), none] [] M82 Q)))))))) ∧ ((a_rem x6 2) = (1 : Int) → aKv s1_G d 2 [aP 3, aI (-3)] M68 (fun M84 => (x2 = (0 : Int) → aKi s1_G d 49 [aP 4, aS 2] M84 (fun z86 M85 => (z86 ≠ (0 : Int) → aE s1_G d 44 10 [] [some (aP 4), some (aI x1), some (aI z86), some (aI x3), some (aI x4), some (aI (a_add x5 1)), none] [] M85 Q) ∧ (z86 = (0 : Int) → (x3 = (0 : Int) → aKi s1_G d 49 [aP 4, aS 3] M85 (fun z88 M87 => aE s1_G d 44 10 [] [some (aP 4), some (aI x1), some (aI z86), some (aI z88), some (aI z88), some (aI (a_add x5 1)), none] [] M87 Q)) ∧ (x3 ≠ (0 : Int) → aKv s1_G d 2 [aP 3, aI (-2)] M85 (fun M89 => aKi s1_G d 49 [aP 4, aS 3] M89 (fun z91 M90 => aE s1_G d 44 10 [] [some (aP 4), some (aI x1), some (aI z86), some (aI z91), some (aI z91), some (aI (a_add x5 1)), none] [] M90 Q)))))) ∧ (x2 ≠ (0 : Int) → aKv s1_G d 2 [aP 3, aI (-1)] M84 (fun M92 => aKi s1_G d 49 [aP 4, aS 2] M92 (fun z94 M93 => (z94 ≠ (0 : Int) → aE s1_G d 44 10 [] [some (aP 4), some (aI x1), some (aI z94), some (aI x3), some (aI x4), some (aI (a_add x5 1)), none] [] M93 Q) ∧ (z94 = (0 : Int) → (x3 = (0 : Int) → aKi s1_G d 49 [aP 4, aS 3] M93 (fun z96 M95 => aE s1_G d 44 10 [] [some (aP 4), some (aI x1), some (aI z94), some (aI z96), some (aI z96), some (aI (a_add x5 1)), none] [] M95 Q)) ∧ (x3 ≠ (0 : Int) → aKv s1_G d 2 [aP 3, aI (-2)] M93 (fun M97 => aKi s1_G d 49 [aP 4, aS 3] M97 (fun z99 M98 => aE s1_G d 44 10 [] [some (aP 4), some (aI x1), some (aI z94), some (aI z99), some (aI z99), some (aI (a_add x5 1)), none] [] M98 Q)))))))))))))) ∧ (x6 < (200 : Int) → aKi s1_G d 49 [aP 4, aS 1] M (fun z101 M100 => (z101 = (0 : Int) → aKi s1_G d 48 [aP 4, aI 40] M100 (fun z103 M102 => (z103 ≠ (0 : Int) → (x1 < (8 : Int) → aKv s1_G d 44 [aP 4, aI (a_add x1 1)] M102 (fun M104 => aKv s1_G d 47 [aP 4, aI 41] M104 (fun M105 => (2 : Int) ≠ 0 ∧ (((a_rem x6 2) ≠ (1 : Int) → (x2 = (0 : Int) → aKi s1_G d 49 [aP 4, aS 2] M105 (fun z107 M106 => (z107 ≠ (0 : Int) → aE s1_G d 44 10 [] [some (aP 4), some (aI x1), some (aI z107), some (aI x3), some (aI x4), some (aI (a_add x5 1)), none] [] M106 Q) ∧ (z107 = (0 : Int) → (x3 = (0 : Int) → aKi s1_G d 49 [aP 4, aS 3] M106 (fun z109 M108 => aE s1_G d 44 10 [] [some (aP 4), some (aI x1), some (aI z107), some (aI z109), some (aI z109), some (aI (a_add x5 1)), none] [] M108 Q)) ∧ (x3 ≠ (0 : Int) → aKv s1_G d 2 [aP 3, aI (-2)] M106 (fun M110 => aKi s1_G d 49 [aP 4, aS 3] M110 (fun z112 M111 => aE s1_G d 44 10 [] [some (aP 4), some (aI x1), some (aI z107), some (aI z112), some (aI z112), some (aI (a_add x5 1)), none] [] M111 Q)))))) ∧ (x2 ≠ (0 : Int) → aKv s1_G d 2 [aP 3, aI (-1)] M105 (fun M113 => aKi s1_G d 49 [aP 4, aS 2] M113 (fun z115 M114 => (z115 ≠ (0 : Int) → aE s1_G d 44 10 [] [some (aP 4), some (aI x1), some (aI z115), some (aI x3), some (aI x4), some (aI (a_add x5 1)), none] [] M114 Q) ∧ (z115 = (0 : Int) → (x3 = (0 : Int) → aKi s1_G d 49 [aP 4, aS 3] M114 (fun z117 M116 => aE s1_G d 44 10 [] [some (aP 4), some (aI x1), some (aI z115), some (aI z117), some (aI z117), some (aI (a_add x5 1)), none] [] M116 Q)) ∧ (x3 ≠ (0 : Int) → aKv s1_G d 2 [aP 3, aI (-2)] M114 (fun M118 => aKi s1_G d 49 [aP 4, aS 3] M118 (fun z120 M119 => aE s1_G d 44 10 [] [some (aP 4), some (aI x1), some (aI z115), some (aI z120), some (aI z120), some (aI (a_add x5 1)), none] [] M119 Q)))))))) ∧ ((a_rem x6 2) = (1 : Int) → aKv s1_G d 2 [aP 3, aI (-3)] M105 (fun M121 => (x2 = (0 : Int) → aKi s1_G d 49 [aP 4, aS 2] M121 (fun z123 M122 => (z123 ≠ (0 : Int) → aE s1_G d 44 10 [] [some (aP 4), some (aI x1), some (aI z123), some (aI x3), some (aI x4), some (aI (a_add x5 1)), none] [] M122 Q) ∧ (z123 = (0 : Int) → (x3 = (0 : Int) → aKi s1_G d 49 [aP 4, aS 3] M122 (fun z125 M124 => aE s1_G d 44 10 [] [some (aP 4), some (aI x1), some (aI z123), some (aI z125), some (aI z125), some (aI (a_add x5 1)), none] [] M124 Q)) ∧ (x3 ≠ (0 : Int) → aKv s1_G d 2 [aP 3, aI (-2)] M122 (fun M126 => aKi s1_G d 49 [aP 4, aS 3] M126 (fun z128 M127 => aE s1_G d 44 10 [] [some (aP 4), some (aI x1), some (aI z123), some (aI z128), some (aI z128), some (aI (a_add x5 1)), none] [] M127 Q)))))) ∧ (x2 ≠ (0 : Int) → aKv s1_G d 2 [aP 3, aI (-1)] M121 (fun M129 => aKi s1_G d 49 [aP 4, aS 2] M129 (fun z131 M130 => (z131 ≠ (0 : Int) → aE s1_G d 44 10 [] [some (aP 4), some (aI x1), some (aI z131), some (aI x3), some (aI x4), some (aI (a_add x5 1)), none] [] M130 Q) ∧ (z131 = (0 : Int) → (x3 = (0 : Int) → aKi s1_G d 49 [aP 4, aS 3] M130 (fun z133 M132 => aE s1_G d 44 10 [] [some (aP 4), some (aI x1), some (aI z131), some (aI z133), some (aI z133), some (aI (a_add x5 1)), none] [] M132 Q)) ∧ (x3 ≠ (0 : Int) → aKv s1_G d 2 [aP 3, aI (-2)] M130 (fun M134 => aKi s1_G d 49 [aP 4, aS 3] M134 (fun z136 M135 => aE s1_G d 44 10 [] [some (aP 4), some (aI x1), some (aI z131), some (aI z136), some (aI z136), some (aI (a_add x5 1)), none] [] M135 Q))))))))))))) ∧ ((8 : Int) ≤ x1 → aKv s1_G d 40 [aP 4, aI 5, aI (a_sub (M102 4 5) 1)] M102 (fun M137 => (2 : Int) ≠ 0 ∧ (((a_rem x6 2) ≠ (1 : Int) → (x2 = (0 : Int) → aKi s1_G d 49 [aP 4, aS 2] M137 (fun z139 M138 => (z139 ≠ (0 : Int) → aE s1_G d 44 10 [] [some (aP 4), some (aI x1), some (aI z139), some (aI x3), some (aI x4), some (aI (a_add x5 1)), none] [] M138 Q) ∧ (z139 = (0 : Int) → (x3 = (0 : Int) → aKi s1_G d 49 [aP 4, aS 3] M138 (fun z141 M140 => aE s1_G d 44 10 [] [some (aP 4), some (aI x1), some (aI z139), some (aI z141), some (aI z141), some (aI (a_add x5 1)), none] [] M140 Q)) ∧ (x3 ≠ (0 : Int) → aKv s1_G d 2 [aP 3, aI (-2)] M138 (fun M142 => aKi s1_G d 49 [aP 4, aS 3] M142 (fun z144 M143 => aE s1_G d 44 10 [] [some (aP 4), some (aI x1), some (aI z139), some (aI z144), some (aI z144), some (aI (a_add x5 1)), none] [] M143 Q)))))) ∧ (x2 ≠ (0 : Int) → aKv s1_G d 2 [aP 3, aI (-1)] M137 (fun M145 => aKi s1_G d 49 [aP 4, aS 2] M145 (fun z147 M146 => (z147 ≠ (0 : Int) → aE s1_G d 44 10 [] [some (aP 4), some (aI x1), some (aI z147), some (aI x3), some (aI x4), some (aI (a_add x5 1)), none] [] M146 Q) ∧ (z147 = (0 : Int) → (x3 = (0 : Int) → aKi s1_G d 49 [aP 4, aS 3] M146 (fun z149 M148 => aE s1_G d 44 10 [] [some (aP 4), some (aI x1), some (aI z147), some (aI z149), some (aI z149), some (aI (a_add x5 1)), none] [] M148 Q)) ∧ (x3 ≠ (0 : Int) → aKv s1_G d 2 [aP 3, aI (-2)] M146 (fun M150 => aKi s1_G d 49 [aP 4, aS 3] M150 (fun z152 M151 => aE s1_G d 44 10 [] [some (aP 4), some (aI x1), some (aI z147), some (aI z152), some (aI z152), some (aI (a_add x5 1)), none] [] M151 Q)))))))) ∧ ((a_rem x6 2) = (1 : Int) → aKv s1_G d 2 [aP 3, aI (-3)] M137 (fun M153 => (x2 = (0 : Int) → aKi s1_G d 49 [aP 4, aS 2] M153 (fun z155 M154 => (z155 ≠ (0 : Int) → aE s1_G d 44 10 [] [some (aP 4), some (aI x1), some (aI z155), some (aI x3), some (aI x4), some (aI (a_add x5 1)), none] [] M154 Q) ∧ (z155 = (0 : Int) → (x3 = (0 : Int) → aKi s1_G d 49 [aP 4, aS 3] M154 (fun z157 M156 => aE s1_G d 44 10 [] [some (aP 4), some (aI x1), some (aI z155), some (aI z157), some (aI z157), some (aI (a_add x5 1)), none] [] M156 Q)) ∧ (x3 ≠ (0 : Int) → aKv s1_G d 2 [aP 3, aI (-2)] M154 (fun M158 => aKi s1_G d 49 [aP 4, aS 3] M158 (fun z160 M159 => aE s1_G d 44 10 [] [some (aP 4), some (aI x1), some (aI z155), some (aI z160), some (aI z160), some (aI (a_add x5 1)), none] [] M159 Q)))))) ∧ (x2 ≠ (0 : Int) → aKv s1_G d 2 [aP 3, aI (-1)] M153 (fun M161 => aKi s1_G d 49 [aP 4, aS 2] M161 (fun z163 M162 => (z163 ≠ (0 : Int) → aE s1_G d 44 10 [] [some (aP 4), some (aI x1), some (aI z163), some (aI x3), some (aI x4), some (aI (a_add x5 1)), none] [] M162 Q) ∧ (z163 = (0 : Int) → (x3 = (0 : Int) → aKi s1_G d 49 [aP 4, aS 3] M162 (fun z165 M164 => aE s1_G d 44 10 [] [some (aP 4), some (aI x1), some (aI z163), some (aI z165), some (aI z165), some (aI (a_add x5 1)), none] [] M164 Q)) ∧ (x3 ≠ (0 : Int) → aKv s1_G d 2 [aP 3, aI (-2)] M162 (fun M166 => aKi s1_G d 49 [aP 4, aS 3] M166 (fun z168 M167 => aE s1_G d 44 10 [] [some (aP 4), some (aI x1), some (aI z163), some (aI z168), some (aI z168), some (aI (a_add x5 1)), none] [] M167 Q))))))))))))) ∧ (z103 = (0 : Int) → aKv s1_G d 45 [aP 4] M102 (fun M169 => (2 : Int) ≠ 0 ∧ (((a_rem x6 2) ≠ (1 : Int) → (x2 = (0 : Int) → aKi s1_G d 49 [aP 4, aS 2] M169 (fun z171 M170 => (z171 ≠ (0 : Int) → aE s1_G d 44 10 [] [some (aP 4), some (aI x1), some (aI z171), some (aI x3), some (aI x4), some (aI (a_add x5 1)), none] [] M170 Q) ∧ (z171 = (0 : Int) → (x3 = (0 : Int) → aKi s1_G d 49 [aP 4, aS 3] M170 (fun z173 M172 => aE s1_G d 44 10 [] [some (aP 4), some (aI x1), some (aI z171), some (aI z173), some (aI z173), some (aI (a_add x5 1)), none] [] M172 Q)) ∧ (x3 ≠ (0 : Int) → aKv s1_G d 2 [aP 3, aI (-2)] M170 (fun M174 => aKi s1_G d 49 [aP 4, aS 3] M174 (fun z176 M175 => aE s1_G d 44 10 [] [some (aP 4), some (aI x1), some (aI z171), some (aI z176), some (aI z176), some (aI (a_add x5 1)), none] [] M175 Q)))))) ∧ (x2 ≠ (0 : Int) → aKv s1_G d 2 [aP 3, aI (-1)] M169 (fun M177 => aKi s1_G d 49 [aP 4, aS 2] M177 (fun z179 M178 => (z179 ≠ (0 : Int) → aE s1_G d 44 10 [] [some (aP 4), some (aI x1), some (aI z179), some (aI x3), some (aI x4), some (aI (a_add x5 1)), none] [] M178 Q) ∧ (z179 = (0 : Int) → (x3 = (0 : Int) → aKi s1_G d 49 [aP 4, aS 3] M178 (fun z181 M180 => aE s1_G d 44 10 [] [some (aP 4), some (aI x1), some (aI z179), some (aI z181), some (aI z181), some (aI (a_add x5 1)), none] [] M180 Q)) ∧ (x3 ≠ (0 : Int) → aKv s1_G d 2 [aP 3, aI (-2)] M178 (fun M182 => aKi s1_G d 49 [aP 4, aS 3] M182 (fun z184 M183 => aE s1_G d 44 10 [] [some (aP 4), some (aI x1), some (aI z179), some (aI z184), some (aI z184), some (aI (a_add x5 1)), none] [] M183 Q)))))))) ∧ ((a_rem x6 2) = (1 : Int) → aKv s1_G d 2 [aP 3, aI (-3)] M169 (fun M185 => (x2 = (0 : Int) → aKi s1_G d 49 [aP 4, aS 2] M185 (fun z187 M186 => (z187 ≠ (0 : Int) → aE s1_G d 44 10 [] [some (aP 4), some (aI x1), some (aI z187), some (aI x3), some (aI x4), some (aI (a_add x5 1)), none] [] M186 Q) ∧ (z187 = (0 : Int) → (x3 = (0 : Int) → aKi s1_G d 49 [aP 4, aS 3] M186 (fun z189 M188 => aE s1_G d 44 10 [] [some (aP 4), some (aI x1), some (aI z187), some (aI z189), some (aI z189), some (aI (a_add x5 1)), none] [] M188 Q)) ∧ (x3 ≠ (0 : Int) → aKv s1_G d 2 [aP 3, aI (-2)] M186 (fun M190 => aKi s1_G d 49 [aP 4, aS 3] M190 (fun z192 M191 => aE s1_G d 44 10 [] [some (aP 4), some (aI x1), some (aI z187), some (aI z192), some (aI z192), some (aI (a_add x5 1)), none] [] M191 Q)))))) ∧ (x2 ≠ (0 : Int) → aKv s1_G d 2 [aP 3, aI (-1)] M185 (fun M193 => aKi s1_G d 49 [aP 4, aS 2] M193 (fun z195 M194 => (z195 ≠ (0 : Int) → aE s1_G d 44 10 [] [some (aP 4), some (aI x1), some (aI z195), some (aI x3), some (aI x4), some (aI (a_add x5 1)), none] [] M194 Q) ∧ (z195 = (0 : Int) → (x3 = (0 : Int) → aKi s1_G d 49 [aP 4, aS 3] M194 (fun z197 M196 => aE s1_G d 44 10 [] [some (aP 4), some (aI x1), some (aI z195), some (aI z197), some (aI z197), some (aI (a_add x5 1)), none] [] M196 Q)) ∧ (x3 ≠ (0 : Int) → aKv s1_G d 2 [aP 3, aI (-2)] M194 (fun M198 => aKi s1_G d 49 [aP 4, aS 3] M198 (fun z200 M199 => aE s1_G d 44 10 [] [some (aP 4), some (aI x1), some (aI z195), some (aI z200), some (aI z200), some (aI (a_add x5 1)), none] [] M199 Q)))))))))))))) ∧ (z101 ≠ (0 : Int) → aE s1_G d 44 33 [] [some (aP 4), some (aI x1), some (aI x2), some (aI x3), some (aI x4), some (aI x5), some (aI (a_add x6 1))] [] M100 Q)))) :
    aE s1_G d 44 33 [] [some (aP 4), some (aI x1), some (aI x2), some (aI x3), some (aI x4), some (aI x5), some (aI x6)] [] M Q := aE_go s1_pu_ok [(10, [true, true, true, true, true, true, false]), (33, [true, true, true, true, true, true, true])] 1874 hd h

-- 45: DioceseBook$Reader.readComparison()V
set_option maxRecDepth 100000 in
set_option maxHeartbeats 4000000 in
theorem s1_Reader_readComparison_0 {d : Nat} (hd : 3 < d) {M : AM} {Q : Option AV → AM → Prop}
    (h : aKi s1_G d 53 [aP 4] M (fun z2 M1 => (z2 ≠ ((-1) : Int) → aKi s1_G d 54 [aP 4] M1 (fun z4 M3 => (z4 ≠ ((-1) : Int) → aKi s1_G d 46 [aP 4, aI 9999] M3 (fun z6 M5 => aKv s1_G d 2 [aP 3, aI (a_add (a_mul (a_add (a_mul z2 3) z4) 10000) z6)] M5 (fun M7 => Q none M7))) ∧ (z4 = ((-1) : Int) → aKv s1_G d 40 [aP 4, aI 1, aI (M3 4 5)] M3 (fun M8 => Q none M8)))) ∧ (z2 = ((-1) : Int) → aKv s1_G d 40 [aP 4, aI 1, aI (M1 4 5)] M1 (fun M9 => Q none M9)))) :
    aE s1_G d 45 0 [] [some (aP 4), none, none, none] [] M Q := aE_go s1_pu_ok [] 142 hd h

-- 46: DioceseBook$Reader.readNumber(I)I
set_option maxRecDepth 100000 in
set_option maxHeartbeats 4000000 in
theorem s1_Reader_readNumber_0 {d : Nat} (hd : 3 < d) {M : AM} {Q : Option AV → AM → Prop} {x1 : Int}
    (h : aKv s1_G d 50 [aP 4] M (fun M1 => aE s1_G d 46 11 [] [some (aP 4), some (aI x1), some (aI (M1 4 5)), some (aI 0)] [] M1 Q)) :
    aE s1_G d 46 0 [] [some (aP 4), some (aI x1), none, none] [] M Q := aE_go s1_pu_ok [(11, [true, true, true, true])] 74 hd h

set_option maxRecDepth 100000 in
set_option maxHeartbeats 4000000 in
theorem s1_Reader_readNumber_11 {d : Nat} (hd : 3 < d) {M : AM} {Q : Option AV → AM → Prop} {x1 x2 x3 : Int}
    (h : ((M 4 2) ≤ (M 4 5) → ((M 4 5) ≠ x2 → ((4 : Int) < (a_sub (M 4 5) x2) → aKv s1_G d 40 [aP 4, aI 2, aI x2] M (fun M1 => Q (some (aI x3)) M1)) ∧ ((a_sub (M 4 5) x2) ≤ (4 : Int) → (x3 ≤ x1 → Q (some (aI x3)) M) ∧ (x1 < x3 → aKv s1_G d 40 [aP 4, aI 2, aI x2] M (fun M2 => Q (some (aI x3)) M2)))) ∧ ((M 4 5) = x2 → aKv s1_G d 40 [aP 4, aI 1, aI x2] M (fun M3 => Q (some (aI x3)) M3))) ∧ ((M 4 5) < (M 4 2) → (0 ≤ (M 4 5) ∧ (M 4 5) < 200) ∧ (((M 38 (M 4 5)) < (48 : Int) → ((M 4 5) ≠ x2 → ((4 : Int) < (a_sub (M 4 5) x2) → aKv s1_G d 40 [aP 4, aI 2, aI x2] M (fun M4 => Q (some (aI x3)) M4)) ∧ ((a_sub (M 4 5) x2) ≤ (4 : Int) → (x3 ≤ x1 → Q (some (aI x3)) M) ∧ (x1 < x3 → aKv s1_G d 40 [aP 4, aI 2, aI x2] M (fun M5 => Q (some (aI x3)) M5)))) ∧ ((M 4 5) = x2 → aKv s1_G d 40 [aP 4, aI 1, aI x2] M (fun M6 => Q (some (aI x3)) M6))) ∧ ((48 : Int) ≤ (M 38 (M 4 5)) → (0 ≤ (M 4 5) ∧ (M 4 5) < 200) ∧ (((57 : Int) < (M 38 (M 4 5)) → ((M 4 5) ≠ x2 → ((4 : Int) < (a_sub (M 4 5) x2) → aKv s1_G d 40 [aP 4, aI 2, aI x2] M (fun M7 => Q (some (aI x3)) M7)) ∧ ((a_sub (M 4 5) x2) ≤ (4 : Int) → (x3 ≤ x1 → Q (some (aI x3)) M) ∧ (x1 < x3 → aKv s1_G d 40 [aP 4, aI 2, aI x2] M (fun M8 => Q (some (aI x3)) M8)))) ∧ ((M 4 5) = x2 → aKv s1_G d 40 [aP 4, aI 1, aI x2] M (fun M9 => Q (some (aI x3)) M9))) ∧ ((M 38 (M 4 5)) ≤ (57 : Int) → ((4 : Int) ≤ (a_sub (M 4 5) x2) → aE s1_G d 46 11 [] [some (aP 4), some (aI x1), some (aI x2), some (aI x3)] [] (am_up M 4 5 (a_add (M 4 5) 1)) Q) ∧ ((a_sub (M 4 5) x2) < (4 : Int) → (0 ≤ (M 4 5) ∧ (M 4 5) < 200) ∧ (aE s1_G d 46 11 [] [some (aP 4), some (aI x1), some (aI x2), some (aI (a_sub (a_add (a_mul 10 x3) (M 38 (M 4 5))) 48))] [] (am_up M 4 5 (a_add (M 4 5) 1)) Q)))))))) :
    aE s1_G d 46 11 [] [some (aP 4), some (aI x1), some (aI x2), some (aI x3)] [] M Q := aE_go s1_pu_ok [(11, [true, true, true, true])] 366 hd h

-- 47: DioceseBook$Reader.expect(C)V
set_option maxRecDepth 100000 in
set_option maxHeartbeats 4000000 in
theorem s1_Reader_expect_0 {d : Nat} (hd : 3 < d) {M : AM} {Q : Option AV → AM → Prop} {x1 : Int}
    (h : aKi s1_G d 48 [aP 4, aI x1] M (fun z2 M1 => (z2 ≠ (0 : Int) → Q none M1) ∧ (z2 = (0 : Int) → aKv s1_G d 40 [aP 4, aI 1, aI (M1 4 5)] M1 (fun M3 => Q none M3)))) :
    aE s1_G d 47 0 [] [some (aP 4), some (aI x1)] [] M Q := aE_go s1_pu_ok [] 82 hd h

-- 48: DioceseBook$Reader.takeSign(C)Z
set_option maxRecDepth 100000 in
set_option maxHeartbeats 4000000 in
theorem s1_Reader_takeSign_0 {d : Nat} (hd : 3 < d) {M : AM} {Q : Option AV → AM → Prop} {x1 : Int}
    (h : aKv s1_G d 50 [aP 4] M (fun M1 => ((M1 4 2) ≤ (M1 4 5) → ((0 : Int) = 0 ∨ (0 : Int) = 1) ∧ Q (some (aI 0)) M1) ∧ ((M1 4 5) < (M1 4 2) → (0 ≤ (M1 4 5) ∧ (M1 4 5) < 200) ∧ (((M1 38 (M1 4 5)) ≠ x1 → ((0 : Int) = 0 ∨ (0 : Int) = 1) ∧ Q (some (aI 0)) M1) ∧ ((M1 38 (M1 4 5)) = x1 → ((1 : Int) = 0 ∨ (1 : Int) = 1) ∧ Q (some (aI 1)) (am_up M1 4 5 (a_add (M1 4 5) 1))))))) :
    aE s1_G d 48 0 [] [some (aP 4), some (aI x1)] [] M Q := aE_go s1_pu_ok [] 112 hd h

-- 49: DioceseBook$Reader.takeWord(Ljava/lang/String;)Z
set_option maxRecDepth 100000 in
set_option maxHeartbeats 4000000 in
theorem s1_Reader_takeWord_0 {d : Nat} (hd : 3 < d) {M : AM} {Q : Option AV → AM → Prop} {x1 : Nat}
    (h : aKv s1_G d 50 [aP 4] M (fun M1 => aE s1_G d 49 9 [] [some (aP 4), some (aS x1), some (aI (M1 4 5)), none] [] M1 Q)) :
    aE s1_G d 49 0 [] [some (aP 4), some (aS x1), none, none] [] M Q := aE_go s1_pu_ok [(9, [true, true, true, false]), (62, [true, true, true, true])] 70 hd h

set_option maxRecDepth 100000 in
set_option maxHeartbeats 4000000 in
theorem s1_Reader_takeWord_9 {d : Nat} (hd : 3 < d) {M : AM} {Q : Option AV → AM → Prop} {x2 : Int} {x1 : Nat}
    (h : ((M 4 2) ≤ x2 → ((a_sub x2 (M 4 5)) = ((List.length (s1_st x1) : Nat) : Int) → aE s1_G d 49 62 [] [some (aP 4), some (aS x1), some (aI x2), some (aI 0)] [] M Q) ∧ ((a_sub x2 (M 4 5)) ≠ ((List.length (s1_st x1) : Nat) : Int) → ((0 : Int) = 0 ∨ (0 : Int) = 1) ∧ Q (some (aI 0)) M)) ∧ (x2 < (M 4 2) → (0 ≤ x2 ∧ x2 < 200) ∧ (((M 38 x2) < (97 : Int) → ((a_sub x2 (M 4 5)) = ((List.length (s1_st x1) : Nat) : Int) → aE s1_G d 49 62 [] [some (aP 4), some (aS x1), some (aI x2), some (aI 0)] [] M Q) ∧ ((a_sub x2 (M 4 5)) ≠ ((List.length (s1_st x1) : Nat) : Int) → ((0 : Int) = 0 ∨ (0 : Int) = 1) ∧ Q (some (aI 0)) M)) ∧ ((97 : Int) ≤ (M 38 x2) → (0 ≤ x2 ∧ x2 < 200) ∧ (((122 : Int) < (M 38 x2) → ((a_sub x2 (M 4 5)) = ((List.length (s1_st x1) : Nat) : Int) → aE s1_G d 49 62 [] [some (aP 4), some (aS x1), some (aI x2), some (aI 0)] [] M Q) ∧ ((a_sub x2 (M 4 5)) ≠ ((List.length (s1_st x1) : Nat) : Int) → ((0 : Int) = 0 ∨ (0 : Int) = 1) ∧ Q (some (aI 0)) M)) ∧ ((M 38 x2) ≤ (122 : Int) → aE s1_G d 49 9 [] [some (aP 4), some (aS x1), some (aI (a_add x2 1)), none] [] M Q)))))) :
    aE s1_G d 49 9 [] [some (aP 4), some (aS x1), some (aI x2), none] [] M Q := aE_go s1_pu_ok [(9, [true, true, true, false]), (62, [true, true, true, true])] 162 hd h

set_option maxRecDepth 100000 in
set_option maxHeartbeats 4000000 in
theorem s1_Reader_takeWord_62 {d : Nat} (hd : 3 < d) {M : AM} {Q : Option AV → AM → Prop} {x2 x3 : Int} {x1 : Nat}
    (h : (((List.length (s1_st x1) : Nat) : Int) ≤ x3 → ((1 : Int) = 0 ∨ (1 : Int) = 1) ∧ Q (some (aI 1)) (am_up M 4 5 x2)) ∧ (x3 < ((List.length (s1_st x1) : Nat) : Int) → (0 ≤ (a_add (M 4 5) x3) ∧ (a_add (M 4 5) x3) < 200) ∧ ((0 ≤ x3 ∧ x3 < ((List.length (s1_st x1) : Nat) : Int)) ∧ (((M 38 (a_add (M 4 5) x3)) = (List.getD (s1_st x1) (Int.toNat x3) 0) → aE s1_G d 49 62 [] [some (aP 4), some (aS x1), some (aI x2), some (aI (a_add x3 1))] [] M Q) ∧ ((M 38 (a_add (M 4 5) x3)) ≠ (List.getD (s1_st x1) (Int.toNat x3) 0) → ((0 : Int) = 0 ∨ (0 : Int) = 1) ∧ Q (some (aI 0)) M))))) :
    aE s1_G d 49 62 [] [some (aP 4), some (aS x1), some (aI x2), some (aI x3)] [] M Q := aE_go s1_pu_ok [(9, [true, true, true, false]), (62, [true, true, true, true])] 108 hd h

-- 50: DioceseBook$Reader.skipBlanks()V
set_option maxRecDepth 100000 in
set_option maxHeartbeats 4000000 in
theorem s1_Reader_skipBlanks_0 {d : Nat} (hd : 3 < d) {M : AM} {Q : Option AV → AM → Prop}
    (h : ((M 4 2) ≤ (M 4 5) → Q none M) ∧ ((M 4 5) < (M 4 2) → (0 ≤ (M 4 5) ∧ (M 4 5) < 200) ∧ (((M 38 (M 4 5)) ≠ (32 : Int) → Q none M) ∧ ((M 38 (M 4 5)) = (32 : Int) → aE s1_G d 50 0 [] [some (aP 4)] [] (am_up M 4 5 (a_add (M 4 5) 1)) Q)))) :
    aE s1_G d 50 0 [] [some (aP 4)] [] M Q := aE_go s1_pu_ok [(0, [true])] 102 hd h

-- 51: DioceseBook$Reader.clauseWord()I
set_option maxRecDepth 100000 in
set_option maxHeartbeats 4000000 in
theorem s1_Reader_clauseWord_0 {d : Nat} (hd : 3 < d) {M : AM} {Q : Option AV → AM → Prop}
    (h : aKi s1_G d 49 [aP 4, aS 4] M (fun z2 M1 => (z2 = (0 : Int) → aKi s1_G d 49 [aP 4, aS 5] M1 (fun z4 M3 => (z4 = (0 : Int) → aKi s1_G d 49 [aP 4, aS 6] M3 (fun z6 M5 => (z6 = (0 : Int) → Q (some (aI (-1))) M5) ∧ (z6 ≠ (0 : Int) → Q (some (aI 2)) M5))) ∧ (z4 ≠ (0 : Int) → Q (some (aI 1)) M3))) ∧ (z2 ≠ (0 : Int) → Q (some (aI 0)) M1))) :
    aE s1_G d 51 0 [] [some (aP 4)] [] M Q := aE_go s1_pu_ok [] 102 hd h

-- 52: DioceseBook$Reader.nameWord()I
set_option maxRecDepth 100000 in
set_option maxHeartbeats 4000000 in
theorem s1_Reader_nameWord_0 {d : Nat} (hd : 3 < d) {M : AM} {Q : Option AV → AM → Prop}
    (h : aKi s1_G d 49 [aP 4, aS 7] M (fun z2 M1 => (z2 = (0 : Int) → aKi s1_G d 49 [aP 4, aS 8] M1 (fun z4 M3 => (z4 = (0 : Int) → aKi s1_G d 49 [aP 4, aS 9] M3 (fun z6 M5 => (z6 = (0 : Int) → aKi s1_G d 49 [aP 4, aS 10] M5 (fun z8 M7 => (z8 = (0 : Int) → aKi s1_G d 49 [aP 4, aS 11] M7 (fun z10 M9 => (z10 = (0 : Int) → aKi s1_G d 49 [aP 4, aS 12] M9 (fun z12 M11 => (z12 = (0 : Int) → aKi s1_G d 49 [aP 4, aS 13] M11 (fun z14 M13 => (z14 = (0 : Int) → aKi s1_G d 49 [aP 4, aS 14] M13 (fun z16 M15 => (z16 = (0 : Int) → Q (some (aI (-1))) M15) ∧ (z16 ≠ (0 : Int) → Q (some (aI 7)) M15))) ∧ (z14 ≠ (0 : Int) → Q (some (aI 6)) M13))) ∧ (z12 ≠ (0 : Int) → Q (some (aI 5)) M11))) ∧ (z10 ≠ (0 : Int) → Q (some (aI 4)) M9))) ∧ (z8 ≠ (0 : Int) → Q (some (aI 3)) M7))) ∧ (z6 ≠ (0 : Int) → Q (some (aI 2)) M5))) ∧ (z4 ≠ (0 : Int) → Q (some (aI 1)) M3))) ∧ (z2 ≠ (0 : Int) → Q (some (aI 0)) M1))) :
    aE s1_G d 52 0 [] [some (aP 4)] [] M Q := aE_go s1_pu_ok [] 162 hd h

-- 53: DioceseBook$Reader.factWord()I
set_option maxRecDepth 100000 in
set_option maxHeartbeats 4000000 in
theorem s1_Reader_factWord_0 {d : Nat} (hd : 3 < d) {M : AM} {Q : Option AV → AM → Prop}
    (h : aKi s1_G d 49 [aP 4, aS 15] M (fun z2 M1 => (z2 = (0 : Int) → aKi s1_G d 49 [aP 4, aS 16] M1 (fun z4 M3 => (z4 = (0 : Int) → aKi s1_G d 49 [aP 4, aS 17] M3 (fun z6 M5 => (z6 = (0 : Int) → aKi s1_G d 49 [aP 4, aS 18] M5 (fun z8 M7 => (z8 = (0 : Int) → aKi s1_G d 49 [aP 4, aS 19] M7 (fun z10 M9 => (z10 = (0 : Int) → aKi s1_G d 49 [aP 4, aS 20] M9 (fun z12 M11 => (z12 = (0 : Int) → Q (some (aI (-1))) M11) ∧ (z12 ≠ (0 : Int) → Q (some (aI 5)) M11))) ∧ (z10 ≠ (0 : Int) → Q (some (aI 4)) M9))) ∧ (z8 ≠ (0 : Int) → Q (some (aI 3)) M7))) ∧ (z6 ≠ (0 : Int) → Q (some (aI 2)) M5))) ∧ (z4 ≠ (0 : Int) → Q (some (aI 1)) M3))) ∧ (z2 ≠ (0 : Int) → Q (some (aI 0)) M1))) :
    aE s1_G d 53 0 [] [some (aP 4)] [] M Q := aE_go s1_pu_ok [] 138 hd h

-- 54: DioceseBook$Reader.compareSign()I
set_option maxRecDepth 100000 in
set_option maxHeartbeats 4000000 in
theorem s1_Reader_compareSign_0 {d : Nat} (hd : 3 < d) {M : AM} {Q : Option AV → AM → Prop}
    (h : aKi s1_G d 48 [aP 4, aI 60] M (fun z2 M1 => (z2 = (0 : Int) → aKi s1_G d 48 [aP 4, aI 62] M1 (fun z4 M3 => (z4 = (0 : Int) → aKi s1_G d 48 [aP 4, aI 61] M3 (fun z6 M5 => (z6 = (0 : Int) → Q (some (aI (-1))) M5) ∧ (z6 ≠ (0 : Int) → Q (some (aI 2)) M5))) ∧ (z4 ≠ (0 : Int) → Q (some (aI 1)) M3))) ∧ (z2 ≠ (0 : Int) → Q (some (aI 0)) M1))) :
    aE s1_G d 54 0 [] [some (aP 4)] [] M Q := aE_go s1_pu_ok [] 102 hd h

-- 55: DioceseBook$Register.addPerson(I)I
set_option maxRecDepth 100000 in
set_option maxHeartbeats 4000000 in
theorem s1_Register_addPerson_0 {d : Nat} (hd : 3 < d) {M : AM} {Q : Option AV → AM → Prop} {x1 : Int}
    (h : ((M 1 4) < (40 : Int) → (0 ≤ (M 1 4) ∧ (M 1 4) < 40) ∧ (Q (some (aI ((am_up M 13 (M 1 4) x1) 1 4))) (am_up (am_up M 13 (M 1 4) x1) 1 4 (a_add ((am_up M 13 (M 1 4) x1) 1 4) 1)))) ∧ ((40 : Int) ≤ (M 1 4) → Q (some (aI (-100004))) M)) :
    aE s1_G d 55 0 [] [some (aP 1), some (aI x1)] [] M Q := aE_go s1_pu_ok [] 100 hd h

-- 56: DioceseBook$Register.addLiving(III)I
set_option maxRecDepth 100000 in
set_option maxHeartbeats 4000000 in
theorem s1_Register_addLiving_0 {d : Nat} (hd : 3 < d) {M : AM} {Q : Option AV → AM → Prop} {x1 x2 x3 : Int}
    (h : ((M 1 5) < (12 : Int) → (0 ≤ (M 1 5) ∧ (M 1 5) < 12) ∧ ((0 ≤ ((am_up M 14 (M 1 5) x1) 1 5) ∧ ((am_up M 14 (M 1 5) x1) 1 5) < 12) ∧ ((0 ≤ ((am_up (am_up M 14 (M 1 5) x1) 15 ((am_up M 14 (M 1 5) x1) 1 5) x2) 1 5) ∧ ((am_up (am_up M 14 (M 1 5) x1) 15 ((am_up M 14 (M 1 5) x1) 1 5) x2) 1 5) < 12) ∧ (Q (some (aI ((am_up (am_up (am_up M 14 (M 1 5) x1) 15 ((am_up M 14 (M 1 5) x1) 1 5) x2) 16 ((am_up (am_up M 14 (M 1 5) x1) 15 ((am_up M 14 (M 1 5) x1) 1 5) x2) 1 5) x3) 1 5))) (am_up (am_up (am_up (am_up M 14 (M 1 5) x1) 15 ((am_up M 14 (M 1 5) x1) 1 5) x2) 16 ((am_up (am_up M 14 (M 1 5) x1) 15 ((am_up M 14 (M 1 5) x1) 1 5) x2) 1 5) x3) 1 5 (a_add ((am_up (am_up (am_up M 14 (M 1 5) x1) 15 ((am_up M 14 (M 1 5) x1) 1 5) x2) 16 ((am_up (am_up M 14 (M 1 5) x1) 15 ((am_up M 14 (M 1 5) x1) 1 5) x2) 1 5) x3) 1 5) 1)))))) ∧ ((12 : Int) ≤ (M 1 5) → Q (some (aI (-100004))) M)) :
    aE s1_G d 56 0 [] [some (aP 1), some (aI x1), some (aI x2), some (aI x3)] [] M Q := aE_go s1_pu_ok [] 124 hd h

-- 57: DioceseBook$Register.milesBetween(II)I
set_option maxRecDepth 100000 in
set_option maxHeartbeats 4000000 in
theorem s1_Register_milesBetween_0 {d : Nat} (hd : 3 < d) {M : AM} {Q : Option AV → AM → Prop} {x1 x2 : Int}
    (h : (0 ≤ x1 ∧ x1 < 12) ∧ ((0 ≤ x2 ∧ x2 < 12) ∧ ((0 ≤ x1 ∧ x1 < 12) ∧ ((0 ≤ x2 ∧ x2 < 12) ∧ (Q (some (aI (a_add (if (a_sub (M 14 x1) (M 14 x2)) < 0 then a_neg (a_sub (M 14 x1) (M 14 x2)) else a_sub (M 14 x1) (M 14 x2)) (if (a_sub (M 15 x1) (M 15 x2)) < 0 then a_neg (a_sub (M 15 x1) (M 15 x2)) else a_sub (M 15 x1) (M 15 x2))))) M))))) :
    aE s1_G d 57 0 [] [some (aP 1), some (aI x1), some (aI x2)] [] M Q := aE_go s1_pu_ok [] 104 hd h

-- 58: DioceseBook$Register.milesFromSee(I)I
set_option maxRecDepth 100000 in
set_option maxHeartbeats 4000000 in
theorem s1_Register_milesFromSee_0 {d : Nat} (hd : 3 < d) {M : AM} {Q : Option AV → AM → Prop} {x1 : Int}
    (h : (0 ≤ x1 ∧ x1 < 12) ∧ ((0 ≤ x1 ∧ x1 < 12) ∧ (Q (some (aI (a_add (if (M 14 x1) < 0 then a_neg (M 14 x1) else M 14 x1) (if (M 15 x1) < 0 then a_neg (M 15 x1) else M 15 x1)))) M))) :
    aE s1_G d 58 0 [] [some (aP 1), some (aI x1)] [] M Q := aE_go s1_pu_ok [] 84 hd h

-- 59: DioceseBook$Rights.clearAll()V
set_option maxRecDepth 100000 in
set_option maxHeartbeats 4000000 in
theorem s1_Rights_clearAll_0 {d : Nat} (hd : 3 < d) {M : AM} {Q : Option AV → AM → Prop}
    (h : aE s1_G d 59 2 [] [some (aP 5), some (aI 0)] [] M Q) :
    aE s1_G d 59 0 [] [some (aP 5), none] [] M Q := aE_go s1_pu_ok [(2, [true, true])] 64 hd h

set_option maxRecDepth 100000 in
set_option maxHeartbeats 4000000 in
theorem s1_Rights_clearAll_2 {d : Nat} (hd : 3 < d) {M : AM} {Q : Option AV → AM → Prop} {x1 : Int}
    (h : ((12 : Int) ≤ x1 → Q none (am_up M 5 5 0)) ∧ (x1 < (12 : Int) → aKv s1_G d 60 [aP 5, aI x1, aI (-1), aI (-1)] M (fun M1 => aE s1_G d 59 2 [] [some (aP 5), some (aI (a_add x1 1))] [] M1 Q))) :
    aE s1_G d 59 2 [] [some (aP 5), some (aI x1)] [] M Q := aE_go s1_pu_ok [(2, [true, true])] 88 hd h

-- 60: DioceseBook$Rights.grant(III)V
set_option maxRecDepth 100000 in
set_option maxHeartbeats 4000000 in
theorem s1_Rights_grant_0 {d : Nat} (hd : 3 < d) {M : AM} {Q : Option AV → AM → Prop} {x1 x2 x3 : Int}
    (h : (0 ≤ x1 ∧ x1 < 12) ∧ ((0 ≤ x1 ∧ x1 < 12) ∧ ((0 ≤ x1 ∧ x1 < 12) ∧ (((0 : Int) = 0 ∨ (0 : Int) = 1) ∧ (Q none (am_up (am_up (am_up M 39 x1 x2) 40 x1 x3) 41 x1 0)))))) :
    aE s1_G d 60 0 [] [some (aP 5), some (aI x1), some (aI x2), some (aI x3)] [] M Q := aE_go s1_pu_ok [] 92 hd h

-- 61: DioceseBook$Rights.sell(I)V
set_option maxRecDepth 100000 in
set_option maxHeartbeats 4000000 in
theorem s1_Rights_sell_0 {d : Nat} (hd : 3 < d) {M : AM} {Q : Option AV → AM → Prop} {x1 : Int}
    (h : ((150 : Int) ≤ (M 5 5) → Q none M) ∧ ((M 5 5) < (150 : Int) → (0 ≤ (M 5 5) ∧ (M 5 5) < 150) ∧ ((0 ≤ ((am_up M 42 (M 5 5) x1) 5 5) ∧ ((am_up M 42 (M 5 5) x1) 5 5) < 150) ∧ (((0 : Int) = 0 ∨ (0 : Int) = 1) ∧ (Q none (am_up (am_up (am_up M 42 (M 5 5) x1) 43 ((am_up M 42 (M 5 5) x1) 5 5) 0) 5 5 (a_add ((am_up (am_up M 42 (M 5 5) x1) 43 ((am_up M 42 (M 5 5) x1) 5 5) 0) 5 5) 1))))))) :
    aE s1_G d 61 0 [] [some (aP 5), some (aI x1)] [] M Q := aE_go s1_pu_ok [] 108 hd h

-- 62: DioceseBook$Rights.turnOf(I)I
set_option maxRecDepth 100000 in
set_option maxHeartbeats 4000000 in
theorem s1_Rights_turnOf_0 {d : Nat} (hd : 3 < d) {M : AM} {Q : Option AV → AM → Prop} {x1 : Int}
    (h : (0 ≤ x1 ∧ x1 < 12) ∧ (((M 41 x1) = (0 : Int) → (0 ≤ x1 ∧ x1 < 12) ∧ (Q (some (aI (M 39 x1))) M)) ∧ ((M 41 x1) ≠ (0 : Int) → (0 ≤ x1 ∧ x1 < 12) ∧ (Q (some (aI (M 40 x1))) M)))) :
    aE s1_G d 62 0 [] [some (aP 5), some (aI x1)] [] M Q := aE_go s1_pu_ok [] 92 hd h

-- 63: DioceseBook$Rights.soldLeft(I)I
set_option maxRecDepth 100000 in
set_option maxHeartbeats 4000000 in
theorem s1_Rights_soldLeft_0 {d : Nat} (hd : 3 < d) {M : AM} {Q : Option AV → AM → Prop} {x1 : Int}
    (h : aE s1_G d 63 4 [] [some (aP 5), some (aI x1), some (aI 0), some (aI 0)] [] M Q) :
    aE s1_G d 63 0 [] [some (aP 5), some (aI x1), none, none] [] M Q := aE_go s1_pu_ok [(4, [true, true, true, true])] 68 hd h

set_option maxRecDepth 100000 in
set_option maxHeartbeats 4000000 in
theorem s1_Rights_soldLeft_4 {d : Nat} (hd : 3 < d) {M : AM} {Q : Option AV → AM → Prop} {x1 x2 x3 : Int}
    (h : ((M 5 5) ≤ x3 → Q (some (aI x2)) M) ∧ (x3 < (M 5 5) → (0 ≤ x3 ∧ x3 < 150) ∧ ((0 ≤ (M 42 x3) ∧ (M 42 x3) < 150) ∧ (((M 20 (M 42 x3)) ≠ x1 → aE s1_G d 63 4 [] [some (aP 5), some (aI x1), some (aI x2), some (aI (a_add x3 1))] [] M Q) ∧ ((M 20 (M 42 x3)) = x1 → (0 ≤ x3 ∧ x3 < 150) ∧ (((M 43 x3) ≠ (0 : Int) → aE s1_G d 63 4 [] [some (aP 5), some (aI x1), some (aI x2), some (aI (a_add x3 1))] [] M Q) ∧ ((M 43 x3) = (0 : Int) → aE s1_G d 63 4 [] [some (aP 5), some (aI x1), some (aI (a_add x2 1)), some (aI (a_add x3 1))] [] M Q))))))) :
    aE s1_G d 63 4 [] [some (aP 5), some (aI x1), some (aI x2), some (aI x3)] [] M Q := aE_go s1_pu_ok [(4, [true, true, true, true])] 116 hd h

-- 64: DioceseBook$Rights.firstSold(II)I
set_option maxRecDepth 100000 in
set_option maxHeartbeats 4000000 in
theorem s1_Rights_firstSold_0 {d : Nat} (hd : 3 < d) {M : AM} {Q : Option AV → AM → Prop} {x1 x2 : Int}
    (h : aE s1_G d 64 2 [] [some (aP 5), some (aI x1), some (aI x2), some (aI 0)] [] M Q) :
    aE s1_G d 64 0 [] [some (aP 5), some (aI x1), some (aI x2), none] [] M Q := aE_go s1_pu_ok [(2, [true, true, true, true])] 64 hd h

set_option maxRecDepth 100000 in
set_option maxHeartbeats 4000000 in
theorem s1_Rights_firstSold_2 {d : Nat} (hd : 3 < d) {M : AM} {Q : Option AV → AM → Prop} {x1 x2 x3 : Int}
    (h : ((M 5 5) ≤ x3 → Q (some (aI (-1))) M) ∧ (x3 < (M 5 5) → (0 ≤ x3 ∧ x3 < 150) ∧ ((0 ≤ (M 42 x3) ∧ (M 42 x3) < 150) ∧ (((M 20 (M 42 x3)) ≠ x1 → aE s1_G d 64 2 [] [some (aP 5), some (aI x1), some (aI x2), some (aI (a_add x3 1))] [] M Q) ∧ ((M 20 (M 42 x3)) = x1 → (0 ≤ x3 ∧ x3 < 150) ∧ ((0 ≤ (M 42 x3) ∧ (M 42 x3) < 150) ∧ (((M 21 (M 42 x3)) ≠ x2 → aE s1_G d 64 2 [] [some (aP 5), some (aI x1), some (aI x2), some (aI (a_add x3 1))] [] M Q) ∧ ((M 21 (M 42 x3)) = x2 → (0 ≤ x3 ∧ x3 < 150) ∧ (((M 43 x3) ≠ (0 : Int) → aE s1_G d 64 2 [] [some (aP 5), some (aI x1), some (aI x2), some (aI (a_add x3 1))] [] M Q) ∧ ((M 43 x3) = (0 : Int) → Q (some (aI x3)) M)))))))))) :
    aE s1_G d 64 2 [] [some (aP 5), some (aI x1), some (aI x2), some (aI x3)] [] M Q := aE_go s1_pu_ok [(2, [true, true, true, true])] 138 hd h

-- 65: DioceseBook$Rights.patronOn(II)I
set_option maxRecDepth 100000 in
set_option maxHeartbeats 4000000 in
theorem s1_Rights_patronOn_0 {d : Nat} (hd : 3 < d) {M : AM} {Q : Option AV → AM → Prop} {x1 x2 : Int}
    (h : aKi s1_G d 62 [aP 5, aI x1] M (fun z2 M1 => (z2 ≠ ((-1) : Int) → aKi s1_G d 64 [aP 5, aI x1, aI z2] M1 (fun z4 M3 => (z4 ≠ ((-1) : Int) → (0 ≤ z4 ∧ z4 < 150) ∧ ((0 ≤ (M3 42 z4) ∧ (M3 42 z4) < 150) ∧ (aKi s1_G d 66 [aP 5, aI (M3 22 (M3 42 z4)), aI x2] M3 (fun z6 M5 => Q (some (aI z6)) M5)))) ∧ (z4 = ((-1) : Int) → aKi s1_G d 66 [aP 5, aI z2, aI x2] M3 (fun z8 M7 => Q (some (aI z8)) M7)))) ∧ (z2 = ((-1) : Int) → Q (some (aI (-4))) M1))) :
    aE s1_G d 65 0 [] [some (aP 5), some (aI x1), some (aI x2), none, none] [] M Q := aE_go s1_pu_ok [] 128 hd h

-- 66: DioceseBook$Rights.livingHeir(II)I
set_option maxRecDepth 100000 in
set_option maxHeartbeats 4000000 in
theorem s1_Rights_livingHeir_0 {d : Nat} (hd : 3 < d) {M : AM} {Q : Option AV → AM → Prop} {x1 x2 : Int}
    (h : aE s1_G d 66 5 [] [some (aP 5), none, some (aI x2), some (aI x1), some (aI 0)] [] M Q) :
    aE s1_G d 66 0 [] [some (aP 5), some (aI x1), some (aI x2), none, none] [] M Q := aE_go s1_pu_ok [(5, [true, false, true, true, true])] 68 hd h

set_option maxRecDepth 100000 in
set_option maxHeartbeats 4000000 in
theorem s1_Rights_livingHeir_5 {d : Nat} (hd : 3 < d) {M : AM} {Q : Option AV → AM → Prop} {x2 x3 x4 : Int}
    (h : ((12 : Int) ≤ x4 → aKi s1_G d 33 [aP 2, aI 1, aI x3, aI x2] M (fun z2 M1 => (z2 = (0 : Int) → Q (some (aI x3)) M1) ∧ (z2 ≠ (0 : Int) → Q (some (aI (-4))) M1))) ∧ (x4 < (12 : Int) → aKi s1_G d 33 [aP 2, aI 1, aI x3, aI x2] M (fun z4 M3 => (z4 = (0 : Int) → aKi s1_G d 33 [aP 2, aI 1, aI x3, aI x2] M3 (fun z6 M5 => (z6 = (0 : Int) → Q (some (aI x3)) M5) ∧ (z6 ≠ (0 : Int) → Q (some (aI (-4))) M5))) ∧ (z4 ≠ (0 : Int) → aKi s1_G d 35 [aP 2, aI x3, aI x2] M3 (fun z8 M7 => (z8 ≠ ((-1) : Int) → aE s1_G d 66 5 [] [some (aP 5), none, some (aI x2), some (aI z8), some (aI (a_add x4 1))] [] M7 Q) ∧ (z8 = ((-1) : Int) → Q (some (aI (-4))) M7)))))) :
    aE s1_G d 66 5 [] [some (aP 5), none, some (aI x2), some (aI x3), some (aI x4)] [] M Q := aE_go s1_pu_ok [(5, [true, false, true, true, true])] 154 hd h

-- 67: DioceseBook$Rights.useTurn(I)V
set_option maxRecDepth 100000 in
set_option maxHeartbeats 4000000 in
theorem s1_Rights_useTurn_0 {d : Nat} (hd : 3 < d) {M : AM} {Q : Option AV → AM → Prop} {x1 : Int}
    (h : aKi s1_G d 62 [aP 5, aI x1] M (fun z2 M1 => (z2 ≠ ((-1) : Int) → aKi s1_G d 64 [aP 5, aI x1, aI z2] M1 (fun z4 M3 => (z4 = ((-1) : Int) → (0 ≤ x1 ∧ x1 < 12) ∧ (((M3 40 x1) = ((-1) : Int) → Q none M3) ∧ ((M3 40 x1) ≠ ((-1) : Int) → (0 ≤ x1 ∧ x1 < 12) ∧ (((M3 41 x1) ≠ (0 : Int) → (0 ≤ x1 ∧ x1 < 12) ∧ (((0 : Int) = 0 ∨ (0 : Int) = 1) ∧ (Q none (am_up M3 41 x1 0)))) ∧ ((M3 41 x1) = (0 : Int) → (0 ≤ x1 ∧ x1 < 12) ∧ (((1 : Int) = 0 ∨ (1 : Int) = 1) ∧ (Q none (am_up M3 41 x1 1)))))))) ∧ (z4 ≠ ((-1) : Int) → (0 ≤ z4 ∧ z4 < 150) ∧ (((1 : Int) = 0 ∨ (1 : Int) = 1) ∧ ((0 ≤ x1 ∧ x1 < 12) ∧ ((((am_up M3 43 z4 1) 40 x1) = ((-1) : Int) → Q none (am_up M3 43 z4 1)) ∧ (((am_up M3 43 z4 1) 40 x1) ≠ ((-1) : Int) → (0 ≤ x1 ∧ x1 < 12) ∧ ((((am_up M3 43 z4 1) 41 x1) ≠ (0 : Int) → (0 ≤ x1 ∧ x1 < 12) ∧ (((0 : Int) = 0 ∨ (0 : Int) = 1) ∧ (Q none (am_up (am_up M3 43 z4 1) 41 x1 0)))) ∧ (((am_up M3 43 z4 1) 41 x1) = (0 : Int) → (0 ≤ x1 ∧ x1 < 12) ∧ (((1 : Int) = 0 ∨ (1 : Int) = 1) ∧ (Q none (am_up (am_up M3 43 z4 1) 41 x1 1)))))))))))) ∧ (z2 = ((-1) : Int) → Q none M1))) :
    aE s1_G d 67 0 [] [some (aP 5), some (aI x1), none, none] [] M Q := aE_go s1_pu_ok [] 190 hd h

-- 68: DioceseBook$Story.forget()V
set_option maxRecDepth 100000 in
set_option maxHeartbeats 4000000 in
theorem s1_Story_forget_0 {d : Nat} (hd : 3 < d) {M : AM} {Q : Option AV → AM → Prop}
    (h : Q none (am_up M 7 11 (-1))) :
    aE s1_G d 68 0 [] [some (aP 7)] [] M Q := aE_go s1_pu_ok [] 68 hd h

-- 69: DioceseBook$Story.tell(II)V
set_option maxRecDepth 100000 in
set_option maxHeartbeats 4000000 in
theorem s1_Story_tell_0 {d : Nat} (hd : 3 < d) {M : AM} {Q : Option AV → AM → Prop} {x1 x2 : Int}
    (h : aKv s1_G d 31 [aP 2, aI x1] M (fun M1 => ((M1 7 11) ≠ x1 → aKv s1_G d 70 [aP 7] (am_up (am_up M1 7 11 x1) 7 12 x2) (fun M2 => aE s1_G d 69 41 [] [some (aP 7), none, some (aI x2), some (aI 0), none, none, none] [] M2 Q)) ∧ ((M1 7 11) = x1 → ((M1 7 12) ≠ x2 → aKv s1_G d 70 [aP 7] (am_up (am_up M1 7 11 x1) 7 12 x2) (fun M3 => aE s1_G d 69 41 [] [some (aP 7), none, some (aI x2), some (aI 0), none, none, none] [] M3 Q)) ∧ ((M1 7 12) = x2 → Q none M1)))) :
    aE s1_G d 69 0 [] [some (aP 7), some (aI x1), some (aI x2), none, none, none, none] [] M Q := aE_go s1_pu_ok [(41, [true, false, true, true, false, false, false])] 126 hd h

set_option maxRecDepth 100000 in
set_option maxHeartbeats 4000000 in
theorem s1_Story_tell_41 {d : Nat} (hd : 3 < d) {M : AM} {Q : Option AV → AM → Prop} {x2 x3 : Int}
    (h : ((M 2 12) ≤ x3 → Q none M) ∧ (x3 < (M 2 12) → (0 ≤ x3 ∧ x3 < 150) ∧ ((0 ≤ (M 26 x3) ∧ (M 26 x3) < 150) ∧ ((x2 < (M 18 (M 26 x3)) → Q none M) ∧ ((M 18 (M 26 x3)) ≤ x2 → (0 ≤ x3 ∧ x3 < 150) ∧ ((0 ≤ (M 26 x3) ∧ (M 26 x3) < 150) ∧ ((0 ≤ (M 26 x3) ∧ (M 26 x3) < 150) ∧ ((0 ≤ (M 26 x3) ∧ (M 26 x3) < 150) ∧ ((((M 17 (M 26 x3)) = 1 → aKv s1_G d 74 [aP 7, aI (-1), aI (-1), aI (M 26 x3), aI 1] M (fun M1 => aE s1_G d 69 41 [] [some (aP 7), none, some (aI x2), some (aI (a_add x3 1)), none, none, none] [] M1 Q)) ∧ ((M 17 (M 26 x3)) = 2 → aE s1_G d 69 41 [] [some (aP 7), none, some (aI x2), some (aI (a_add x3 1)), none, none, none] [] M Q) ∧ ((M 17 (M 26 x3)) = 3 → aKv s1_G d 71 [aP 7, aI (M 26 x3), aI x3] M (fun M2 => aE s1_G d 69 41 [] [some (aP 7), none, some (aI x2), some (aI (a_add x3 1)), none, none, none] [] M2 Q)) ∧ ((M 17 (M 26 x3)) = 4 → aKv s1_G d 75 [aP 7, aI (M 20 (M 26 x3)), aI (M 26 x3), aI 2] M (fun M3 => aE s1_G d 69 41 [] [some (aP 7), none, some (aI x2), some (aI (a_add x3 1)), none, none, none] [] M3 Q)) ∧ ((M 17 (M 26 x3)) = 5 → aE s1_G d 69 41 [] [some (aP 7), none, some (aI x2), some (aI (a_add x3 1)), none, none, none] [] M Q) ∧ ((M 17 (M 26 x3)) = 6 → aE s1_G d 69 41 [] [some (aP 7), none, some (aI x2), some (aI (a_add x3 1)), none, none, none] [] M Q) ∧ ((M 17 (M 26 x3)) = 7 → (0 ≤ (M 26 x3) ∧ (M 26 x3) < 150) ∧ (aKv s1_G d 60 [aP 5, aI (M 20 (M 26 x3)), aI (M 21 (M 26 x3)), aI (M 22 (M 26 x3))] M (fun M4 => aE s1_G d 69 41 [] [some (aP 7), none, some (aI x2), some (aI (a_add x3 1)), none, none, none] [] M4 Q))) ∧ ((M 17 (M 26 x3)) = 8 → aKv s1_G d 60 [aP 5, aI (M 20 (M 26 x3)), aI (M 21 (M 26 x3)), aI (-1)] M (fun M5 => aE s1_G d 69 41 [] [some (aP 7), none, some (aI x2), some (aI (a_add x3 1)), none, none, none] [] M5 Q)) ∧ ((M 17 (M 26 x3)) = 9 → aKv s1_G d 61 [aP 5, aI (M 26 x3)] M (fun M6 => aE s1_G d 69 41 [] [some (aP 7), none, some (aI x2), some (aI (a_add x3 1)), none, none, none] [] M6 Q)) ∧ True) ∧ ((M 17 (M 26 x3)) < 1 ∨ 9 < (M 17 (M 26 x3)) → aE s1_G d 69 41 [] [some (aP 7), none, some (aI x2), some (aI (a_add x3 1)), none, none, none] [] M Q)))))))))) :
    aE s1_G d 69 41 [] [some (aP 7), none, some (aI x2), some (aI x3), none, none, none] [] M Q := aE_go s1_pu_ok [(41, [true, false, true, true, false, false, false])] 266 hd h

-- 70: DioceseBook$Story.clearAll()V
set_option maxRecDepth 100000 in
set_option maxHeartbeats 4000000 in
theorem s1_Story_clearAll_0 {d : Nat} (hd : 3 < d) {M : AM} {Q : Option AV → AM → Prop}
    (h : aE s1_G d 70 2 [] [some (aP 7), some (aI 0)] [] M Q) :
    aE s1_G d 70 0 [] [some (aP 7), none] [] M Q := aE_go s1_pu_ok [(2, [true, true])] 64 hd h

set_option maxRecDepth 100000 in
set_option maxHeartbeats 4000000 in
theorem s1_Story_clearAll_2 {d : Nat} (hd : 3 < d) {M : AM} {Q : Option AV → AM → Prop} {x1 : Int}
    (h : ((12 : Int) ≤ x1 → aKv s1_G d 59 [aP 5] M (fun M1 => aKv s1_G d 14 [aP 6] M1 (fun M2 => Q none M2))) ∧ (x1 < (12 : Int) → (0 ≤ x1 ∧ x1 < 12) ∧ ((0 ≤ x1 ∧ x1 < 12) ∧ ((0 ≤ x1 ∧ x1 < 12) ∧ (aE s1_G d 70 2 [] [some (aP 7), some (aI (a_add x1 1))] [] (am_up (am_up (am_up M 50 x1 0) 52 x1 0) 53 x1 0) Q))))) :
    aE s1_G d 70 2 [] [some (aP 7), some (aI x1)] [] M Q := aE_go s1_pu_ok [(2, [true, true])] 114 hd h

-- 71: DioceseBook$Story.takeIn(II)V
set_option maxRecDepth 100000 in
set_option maxHeartbeats 4000000 in
theorem s1_Story_takeIn_0 {d : Nat} (hd : 3 < d) {M : AM} {Q : Option AV → AM → Prop} {x1 x2 : Int}
    (h : (0 ≤ x1 ∧ x1 < 150) ∧ ((0 ≤ x1 ∧ x1 < 150) ∧ ((0 ≤ x1 ∧ x1 < 150) ∧ ((0 ≤ x1 ∧ x1 < 150) ∧ ((0 ≤ (M 20 x1) ∧ (M 20 x1) < 12) ∧ (((a_cmp (M 50 (M 20 x1)) 0) = (0 : Int) → aE s1_G d 71 59 [] [some (aP 7), some (aI x1), some (aI x2), some (aI (M 20 x1)), some (aI (M 21 x1)), some (aI (M 22 x1)), some (aI (M 18 x1)), none, none, none] [aI 0] M Q) ∧ ((a_cmp (M 50 (M 20 x1)) 0) ≠ (0 : Int) → aE s1_G d 71 59 [] [some (aP 7), some (aI x1), some (aI x2), some (aI (M 20 x1)), some (aI (M 21 x1)), some (aI (M 22 x1)), some (aI (M 18 x1)), none, none, none] [aI 1] M Q))))))) :
    aE s1_G d 71 0 [] [some (aP 7), some (aI x1), some (aI x2), none, none, none, none, none, none, none] [] M Q := aE_go s1_pu_ok [(59, [true, true, true, true, true, true, true, false, false, false]), (79, [true, true, true, true, true, true, true, false, false, false]), (98, [true, true, true, true, true, true, true, false, false, false]), (117, [true, true, true, true, true, true, true, false, false, false]), (147, [true, true, true, true, true, true, true, true, false, false]), (152, [true, true, true, true, true, true, true, true, false, false]), (187, [true, true, true, true, true, true, true, false, true, false]), (188, [true, true, true, true, true, true, true, false, true, false]), (210, [true, true, true, true, true, false, true, false, false, true]), (215, [true, true, true, true, true, false, true, false, false, false]), (223, [true, true, true, true, true, false, true, false, false, false]), (289, [true, true, false, true, true, false, true, false, false, false])] 128 hd h

set_option maxRecDepth 100000 in
set_option maxHeartbeats 4000000 in
theorem s1_Story_takeIn_59 {d : Nat} (hd : 3 < d) {M : AM} {Q : Option AV → AM → Prop} {x1 x2 x3 x4 x5 x6 t0 : Int}
    (h : aKi s1_G d 33 [aP 2, aI 1, aI x4, aI x6] M (fun z2 M1 => (z2 = (0 : Int) → aE s1_G d 71 79 [] [some (aP 7), some (aI x1), some (aI x2), some (aI x3), some (aI x4), some (aI x5), some (aI x6), none, none, none] [aI 0, aI t0] M1 Q) ∧ (z2 ≠ (0 : Int) → aE s1_G d 71 79 [] [some (aP 7), some (aI x1), some (aI x2), some (aI x3), some (aI x4), some (aI x5), some (aI x6), none, none, none] [aI 2, aI t0] M1 Q))) :
    aE s1_G d 71 59 [] [some (aP 7), some (aI x1), some (aI x2), some (aI x3), some (aI x4), some (aI x5), some (aI x6), none, none, none] [aI t0] M Q := aE_go s1_pu_ok [(59, [true, true, true, true, true, true, true, false, false, false]), (79, [true, true, true, true, true, true, true, false, false, false]), (98, [true, true, true, true, true, true, true, false, false, false]), (117, [true, true, true, true, true, true, true, false, false, false]), (147, [true, true, true, true, true, true, true, true, false, false]), (152, [true, true, true, true, true, true, true, true, false, false]), (187, [true, true, true, true, true, true, true, false, true, false]), (188, [true, true, true, true, true, true, true, false, true, false]), (210, [true, true, true, true, true, false, true, false, false, true]), (215, [true, true, true, true, true, false, true, false, false, false]), (223, [true, true, true, true, true, false, true, false, false, false]), (289, [true, true, false, true, true, false, true, false, false, false])] 80 hd h

set_option maxRecDepth 100000 in
set_option maxHeartbeats 4000000 in
theorem s1_Story_takeIn_79 {d : Nat} (hd : 3 < d) {M : AM} {Q : Option AV → AM → Prop} {x1 x2 x3 x4 x5 x6 t0 t1 : Int}
    (h : aKi s1_G d 82 [aP 7, aI x4, aI x3, aI x6] M (fun z2 M1 => (z2 = ((-1) : Int) → aE s1_G d 71 98 [] [some (aP 7), some (aI x1), some (aI x2), some (aI x3), some (aI x4), some (aI x5), some (aI x6), none, none, none] [aI 0, aI (a_or t1 t0)] M1 Q) ∧ (z2 ≠ ((-1) : Int) → aE s1_G d 71 98 [] [some (aP 7), some (aI x1), some (aI x2), some (aI x3), some (aI x4), some (aI x5), some (aI x6), none, none, none] [aI 4, aI (a_or t1 t0)] M1 Q))) :
    aE s1_G d 71 79 [] [some (aP 7), some (aI x1), some (aI x2), some (aI x3), some (aI x4), some (aI x5), some (aI x6), none, none, none] [aI t0, aI t1] M Q := aE_go s1_pu_ok [(59, [true, true, true, true, true, true, true, false, false, false]), (79, [true, true, true, true, true, true, true, false, false, false]), (98, [true, true, true, true, true, true, true, false, false, false]), (117, [true, true, true, true, true, true, true, false, false, false]), (147, [true, true, true, true, true, true, true, true, false, false]), (152, [true, true, true, true, true, true, true, true, false, false]), (187, [true, true, true, true, true, true, true, false, true, false]), (188, [true, true, true, true, true, true, true, false, true, false]), (210, [true, true, true, true, true, false, true, false, false, true]), (215, [true, true, true, true, true, false, true, false, false, false]), (223, [true, true, true, true, true, false, true, false, false, false]), (289, [true, true, false, true, true, false, true, false, false, false])] 82 hd h

set_option maxRecDepth 100000 in
set_option maxHeartbeats 4000000 in
theorem s1_Story_takeIn_98 {d : Nat} (hd : 3 < d) {M : AM} {Q : Option AV → AM → Prop} {x1 x2 x3 x4 x5 x6 t0 t1 : Int}
    (h : aKi s1_G d 80 [aP 7, aI x3, aI x6] M (fun z2 M1 => (z2 = x5 → aE s1_G d 71 117 [] [some (aP 7), some (aI x1), some (aI x2), some (aI x3), some (aI x4), some (aI x5), some (aI x6), none, none, none] [aI 0, aI (a_or t1 t0)] M1 Q) ∧ (z2 ≠ x5 → aE s1_G d 71 117 [] [some (aP 7), some (aI x1), some (aI x2), some (aI x3), some (aI x4), some (aI x5), some (aI x6), none, none, none] [aI 8, aI (a_or t1 t0)] M1 Q))) :
    aE s1_G d 71 98 [] [some (aP 7), some (aI x1), some (aI x2), some (aI x3), some (aI x4), some (aI x5), some (aI x6), none, none, none] [aI t0, aI t1] M Q := aE_go s1_pu_ok [(59, [true, true, true, true, true, true, true, false, false, false]), (79, [true, true, true, true, true, true, true, false, false, false]), (98, [true, true, true, true, true, true, true, false, false, false]), (117, [true, true, true, true, true, true, true, false, false, false]), (147, [true, true, true, true, true, true, true, true, false, false]), (152, [true, true, true, true, true, true, true, true, false, false]), (187, [true, true, true, true, true, true, true, false, true, false]), (188, [true, true, true, true, true, true, true, false, true, false]), (210, [true, true, true, true, true, false, true, false, false, true]), (215, [true, true, true, true, true, false, true, false, false, false]), (223, [true, true, true, true, true, false, true, false, false, false]), (289, [true, true, false, true, true, false, true, false, false, false])] 80 hd h

set_option maxRecDepth 100000 in
set_option maxHeartbeats 4000000 in
theorem s1_Story_takeIn_117 {d : Nat} (hd : 3 < d) {M : AM} {Q : Option AV → AM → Prop} {x1 x2 x3 x4 x5 x6 t0 t1 : Int}
    (h : (0 ≤ x1 ∧ x1 < 150) ∧ (((a_or t1 t0) = (0 : Int) → aE s1_G d 71 147 [] [some (aP 7), some (aI x1), some (aI x2), some (aI x3), some (aI x4), some (aI x5), some (aI x6), some (aI (a_or t1 t0)), none, none] [] (am_up M 54 x1 (a_or t1 t0)) Q) ∧ ((a_or t1 t0) ≠ (0 : Int) → aKi s1_G d 6 [aP 3, aI 3, aI x6] (am_up M 54 x1 (a_or t1 t0)) (fun z2 M1 => (z2 ≠ (1 : Int) → aE s1_G d 71 152 [] [some (aP 7), some (aI x1), some (aI x2), some (aI x3), some (aI x4), some (aI x5), some (aI x6), some (aI (a_or t1 t0)), none, none] [aI 0] M1 Q) ∧ (z2 = (1 : Int) → aE s1_G d 71 147 [] [some (aP 7), some (aI x1), some (aI x2), some (aI x3), some (aI x4), some (aI x5), some (aI x6), some (aI (a_or t1 t0)), none, none] [] M1 Q))))) :
    aE s1_G d 71 117 [] [some (aP 7), some (aI x1), some (aI x2), some (aI x3), some (aI x4), some (aI x5), some (aI x6), none, none, none] [aI t0, aI t1] M Q := aE_go s1_pu_ok [(59, [true, true, true, true, true, true, true, false, false, false]), (79, [true, true, true, true, true, true, true, false, false, false]), (98, [true, true, true, true, true, true, true, false, false, false]), (117, [true, true, true, true, true, true, true, false, false, false]), (147, [true, true, true, true, true, true, true, true, false, false]), (152, [true, true, true, true, true, true, true, true, false, false]), (187, [true, true, true, true, true, true, true, false, true, false]), (188, [true, true, true, true, true, true, true, false, true, false]), (210, [true, true, true, true, true, false, true, false, false, true]), (215, [true, true, true, true, true, false, true, false, false, false]), (223, [true, true, true, true, true, false, true, false, false, false]), (289, [true, true, false, true, true, false, true, false, false, false])] 94 hd h

set_option maxRecDepth 100000 in
set_option maxHeartbeats 4000000 in
theorem s1_Story_takeIn_147 {d : Nat} (hd : 3 < d) {M : AM} {Q : Option AV → AM → Prop} {x1 x2 x3 x4 x5 x6 x7 : Int}
    (h : aE s1_G d 71 152 [] [some (aP 7), some (aI x1), some (aI x2), some (aI x3), some (aI x4), some (aI x5), some (aI x6), some (aI x7), none, none] [aI 1] M Q) :
    aE s1_G d 71 147 [] [some (aP 7), some (aI x1), some (aI x2), some (aI x3), some (aI x4), some (aI x5), some (aI x6), some (aI x7), none, none] [] M Q := aE_go s1_pu_ok [(59, [true, true, true, true, true, true, true, false, false, false]), (79, [true, true, true, true, true, true, true, false, false, false]), (98, [true, true, true, true, true, true, true, false, false, false]), (117, [true, true, true, true, true, true, true, false, false, false]), (147, [true, true, true, true, true, true, true, true, false, false]), (152, [true, true, true, true, true, true, true, true, false, false]), (187, [true, true, true, true, true, true, true, false, true, false]), (188, [true, true, true, true, true, true, true, false, true, false]), (210, [true, true, true, true, true, false, true, false, false, true]), (215, [true, true, true, true, true, false, true, false, false, false]), (223, [true, true, true, true, true, false, true, false, false, false]), (289, [true, true, false, true, true, false, true, false, false, false])] 64 hd h

set_option maxRecDepth 100000 in
set_option maxHeartbeats 4000000 in
theorem s1_Story_takeIn_152 {d : Nat} (hd : 3 < d) {M : AM} {Q : Option AV → AM → Prop} {x1 x2 x3 x4 x5 x6 x7 t0 : Int}
    (h : (x7 ≠ (0 : Int) → aE s1_G d 71 187 [] [some (aP 7), some (aI x1), some (aI x2), some (aI x3), some (aI x4), some (aI x5), some (aI x6), none, some (aI t0), none] [] M Q) ∧ (x7 = (0 : Int) → aKi s1_G d 81 [aP 7, aI x3, aI x6] M (fun z2 M1 => (z2 = (0 : Int) → aE s1_G d 71 187 [] [some (aP 7), some (aI x1), some (aI x2), some (aI x3), some (aI x4), some (aI x5), some (aI x6), none, some (aI t0), none] [] M1 Q) ∧ (z2 ≠ (0 : Int) → aKi s1_G d 6 [aP 3, aI 4, aI x6] M1 (fun z4 M3 => (z4 ≠ (1 : Int) → aE s1_G d 71 187 [] [some (aP 7), some (aI x1), some (aI x2), some (aI x3), some (aI x4), some (aI x5), some (aI x6), none, some (aI t0), none] [] M3 Q) ∧ (z4 = (1 : Int) → aE s1_G d 71 188 [] [some (aP 7), some (aI x1), some (aI x2), some (aI x3), some (aI x4), some (aI x5), some (aI x6), none, some (aI t0), none] [aI 1] M3 Q)))))) :
    aE s1_G d 71 152 [] [some (aP 7), some (aI x1), some (aI x2), some (aI x3), some (aI x4), some (aI x5), some (aI x6), some (aI x7), none, none] [aI t0] M Q := aE_go s1_pu_ok [(59, [true, true, true, true, true, true, true, false, false, false]), (79, [true, true, true, true, true, true, true, false, false, false]), (98, [true, true, true, true, true, true, true, false, false, false]), (117, [true, true, true, true, true, true, true, false, false, false]), (147, [true, true, true, true, true, true, true, true, false, false]), (152, [true, true, true, true, true, true, true, true, false, false]), (187, [true, true, true, true, true, true, true, false, true, false]), (188, [true, true, true, true, true, true, true, false, true, false]), (210, [true, true, true, true, true, false, true, false, false, true]), (215, [true, true, true, true, true, false, true, false, false, false]), (223, [true, true, true, true, true, false, true, false, false, false]), (289, [true, true, false, true, true, false, true, false, false, false])] 94 hd h

set_option maxRecDepth 100000 in
set_option maxHeartbeats 4000000 in
theorem s1_Story_takeIn_187 {d : Nat} (hd : 3 < d) {M : AM} {Q : Option AV → AM → Prop} {x1 x2 x3 x4 x5 x6 x8 : Int}
    (h : aE s1_G d 71 188 [] [some (aP 7), some (aI x1), some (aI x2), some (aI x3), some (aI x4), some (aI x5), some (aI x6), none, some (aI x8), none] [aI 0] M Q) :
    aE s1_G d 71 187 [] [some (aP 7), some (aI x1), some (aI x2), some (aI x3), some (aI x4), some (aI x5), some (aI x6), none, some (aI x8), none] [] M Q := aE_go s1_pu_ok [(59, [true, true, true, true, true, true, true, false, false, false]), (79, [true, true, true, true, true, true, true, false, false, false]), (98, [true, true, true, true, true, true, true, false, false, false]), (117, [true, true, true, true, true, true, true, false, false, false]), (147, [true, true, true, true, true, true, true, true, false, false]), (152, [true, true, true, true, true, true, true, true, false, false]), (187, [true, true, true, true, true, true, true, false, true, false]), (188, [true, true, true, true, true, true, true, false, true, false]), (210, [true, true, true, true, true, false, true, false, false, true]), (215, [true, true, true, true, true, false, true, false, false, false]), (223, [true, true, true, true, true, false, true, false, false, false]), (289, [true, true, false, true, true, false, true, false, false, false])] 62 hd h

set_option maxRecDepth 100000 in
set_option maxHeartbeats 4000000 in
theorem s1_Story_takeIn_188 {d : Nat} (hd : 3 < d) {M : AM} {Q : Option AV → AM → Prop} {x1 x2 x3 x4 x5 x6 x8 t0 : Int}
    (h : (x8 = (0 : Int) → aE s1_G d 71 210 [] [some (aP 7), some (aI x1), some (aI x2), some (aI x3), some (aI x4), none, some (aI x6), none, none, some (aI t0)] [] M Q) ∧ (x8 ≠ (0 : Int) → aKi s1_G d 65 [aP 5, aI x3, aI x6] M (fun z2 M1 => (z2 = x5 → aE s1_G d 71 215 [] [some (aP 7), some (aI x1), some (aI x2), some (aI x3), some (aI x4), none, some (aI x6), none, none, none] [] M1 Q) ∧ (z2 ≠ x5 → aE s1_G d 71 210 [] [some (aP 7), some (aI x1), some (aI x2), some (aI x3), some (aI x4), none, some (aI x6), none, none, some (aI t0)] [] M1 Q)))) :
    aE s1_G d 71 188 [] [some (aP 7), some (aI x1), some (aI x2), some (aI x3), some (aI x4), some (aI x5), some (aI x6), none, some (aI x8), none] [aI t0] M Q := aE_go s1_pu_ok [(59, [true, true, true, true, true, true, true, false, false, false]), (79, [true, true, true, true, true, true, true, false, false, false]), (98, [true, true, true, true, true, true, true, false, false, false]), (117, [true, true, true, true, true, true, true, false, false, false]), (147, [true, true, true, true, true, true, true, true, false, false]), (152, [true, true, true, true, true, true, true, true, false, false]), (187, [true, true, true, true, true, true, true, false, true, false]), (188, [true, true, true, true, true, true, true, false, true, false]), (210, [true, true, true, true, true, false, true, false, false, true]), (215, [true, true, true, true, true, false, true, false, false, false]), (223, [true, true, true, true, true, false, true, false, false, false]), (289, [true, true, false, true, true, false, true, false, false, false])] 80 hd h

set_option maxRecDepth 100000 in
set_option maxHeartbeats 4000000 in
theorem s1_Story_takeIn_210 {d : Nat} (hd : 3 < d) {M : AM} {Q : Option AV → AM → Prop} {x1 x2 x3 x4 x6 x9 : Int}
    (h : (x9 = (0 : Int) → aE s1_G d 71 223 [] [some (aP 7), some (aI x1), some (aI x2), some (aI x3), some (aI x4), none, some (aI x6), none, none, none] [] M Q) ∧ (x9 ≠ (0 : Int) → aE s1_G d 71 215 [] [some (aP 7), some (aI x1), some (aI x2), some (aI x3), some (aI x4), none, some (aI x6), none, none, none] [] M Q)) :
    aE s1_G d 71 210 [] [some (aP 7), some (aI x1), some (aI x2), some (aI x3), some (aI x4), none, some (aI x6), none, none, some (aI x9)] [] M Q := aE_go s1_pu_ok [(59, [true, true, true, true, true, true, true, false, false, false]), (79, [true, true, true, true, true, true, true, false, false, false]), (98, [true, true, true, true, true, true, true, false, false, false]), (117, [true, true, true, true, true, true, true, false, false, false]), (147, [true, true, true, true, true, true, true, true, false, false]), (152, [true, true, true, true, true, true, true, true, false, false]), (187, [true, true, true, true, true, true, true, false, true, false]), (188, [true, true, true, true, true, true, true, false, true, false]), (210, [true, true, true, true, true, false, true, false, false, true]), (215, [true, true, true, true, true, false, true, false, false, false]), (223, [true, true, true, true, true, false, true, false, false, false]), (289, [true, true, false, true, true, false, true, false, false, false])] 64 hd h

set_option maxRecDepth 100000 in
set_option maxHeartbeats 4000000 in
theorem s1_Story_takeIn_215 {d : Nat} (hd : 3 < d) {M : AM} {Q : Option AV → AM → Prop} {x1 x2 x3 x4 x6 : Int}
    (h : aKv s1_G d 67 [aP 5, aI x3] M (fun M1 => aE s1_G d 71 223 [] [some (aP 7), some (aI x1), some (aI x2), some (aI x3), some (aI x4), none, some (aI x6), none, none, none] [] M1 Q)) :
    aE s1_G d 71 215 [] [some (aP 7), some (aI x1), some (aI x2), some (aI x3), some (aI x4), none, some (aI x6), none, none, none] [] M Q := aE_go s1_pu_ok [(59, [true, true, true, true, true, true, true, false, false, false]), (79, [true, true, true, true, true, true, true, false, false, false]), (98, [true, true, true, true, true, true, true, false, false, false]), (117, [true, true, true, true, true, true, true, false, false, false]), (147, [true, true, true, true, true, true, true, true, false, false]), (152, [true, true, true, true, true, true, true, true, false, false]), (187, [true, true, true, true, true, true, true, false, true, false]), (188, [true, true, true, true, true, true, true, false, true, false]), (210, [true, true, true, true, true, false, true, false, false, true]), (215, [true, true, true, true, true, false, true, false, false, false]), (223, [true, true, true, true, true, false, true, false, false, false]), (289, [true, true, false, true, true, false, true, false, false, false])] 68 hd h

set_option maxRecDepth 100000 in
set_option maxHeartbeats 4000000 in
theorem s1_Story_takeIn_223 {d : Nat} (hd : 3 < d) {M : AM} {Q : Option AV → AM → Prop} {x1 x2 x3 x4 x6 : Int}
    (h : aKi s1_G d 76 [aP 7, aI x3, aI x4] M (fun z2 M1 => (z2 ≠ (0 : Int) → aE s1_G d 71 289 [] [some (aP 7), some (aI x1), none, some (aI x3), some (aI x4), none, some (aI x6), none, none, none] [] M1 Q) ∧ (z2 = (0 : Int) → (0 ≤ x3 ∧ x3 < 12) ∧ ((0 ≤ x3 ∧ x3 < 12) ∧ ((0 ≤ x3 ∧ x3 < 12) ∧ ((0 ≤ x4 ∧ x4 < 40) ∧ ((0 ≤ x3 ∧ x3 < 12) ∧ ((0 ≤ x3 ∧ x3 < 12) ∧ (aKi s1_G d 77 [aP 7, aI x3] (am_up (am_up (am_up (am_up M1 50 x3 (a_lor (M1 50 x3) (a_lshl 1 x4))) 51 (x3 * 40 + x4) x2) 52 x3 (-1)) 53 x3 (-1)) (fun z4 M3 => aKv s1_G d 15 [aP 6, aI x3, aI x4, aI 0, aI x6, aI x1, aI z4] M3 (fun M5 => aE s1_G d 71 289 [] [some (aP 7), some (aI x1), none, some (aI x3), some (aI x4), none, some (aI x6), none, none, none] [] M5 Q))))))))))) :
    aE s1_G d 71 223 [] [some (aP 7), some (aI x1), some (aI x2), some (aI x3), some (aI x4), none, some (aI x6), none, none, none] [] M Q := aE_go s1_pu_ok [(59, [true, true, true, true, true, true, true, false, false, false]), (79, [true, true, true, true, true, true, true, false, false, false]), (98, [true, true, true, true, true, true, true, false, false, false]), (117, [true, true, true, true, true, true, true, false, false, false]), (147, [true, true, true, true, true, true, true, true, false, false]), (152, [true, true, true, true, true, true, true, true, false, false]), (187, [true, true, true, true, true, true, true, false, true, false]), (188, [true, true, true, true, true, true, true, false, true, false]), (210, [true, true, true, true, true, false, true, false, false, true]), (215, [true, true, true, true, true, false, true, false, false, false]), (223, [true, true, true, true, true, false, true, false, false, false]), (289, [true, true, false, true, true, false, true, false, false, false])] 146 hd h

set_option maxRecDepth 100000 in
set_option maxHeartbeats 4000000 in
theorem s1_Story_takeIn_289 {d : Nat} (hd : 3 < d) {M : AM} {Q : Option AV → AM → Prop} {x1 x3 x4 x6 : Int}
    (h : aKi s1_G d 72 [aP 7, aI x3, aI x4, aI x6] M (fun z2 M1 => aKv s1_G d 74 [aP 7, aI x3, aI z2, aI x1, aI 3] M1 (fun M3 => Q none M3))) :
    aE s1_G d 71 289 [] [some (aP 7), some (aI x1), none, some (aI x3), some (aI x4), none, some (aI x6), none, none, none] [] M Q := aE_go s1_pu_ok [(59, [true, true, true, true, true, true, true, false, false, false]), (79, [true, true, true, true, true, true, true, false, false, false]), (98, [true, true, true, true, true, true, true, false, false, false]), (117, [true, true, true, true, true, true, true, false, false, false]), (147, [true, true, true, true, true, true, true, true, false, false]), (152, [true, true, true, true, true, true, true, true, false, false]), (187, [true, true, true, true, true, true, true, false, true, false]), (188, [true, true, true, true, true, true, true, false, true, false]), (210, [true, true, true, true, true, false, true, false, false, true]), (215, [true, true, true, true, true, false, true, false, false, false]), (223, [true, true, true, true, true, false, true, false, false, false]), (289, [true, true, false, true, true, false, true, false, false, false])] 82 hd h

-- 72: DioceseBook$Story.otherToKeep(III)I
set_option maxRecDepth 100000 in
set_option maxHeartbeats 4000000 in
theorem s1_Story_otherToKeep_0 {d : Nat} (hd : 3 < d) {M : AM} {Q : Option AV → AM → Prop} {x1 x2 x3 : Int}
    (h : aE s1_G d 72 6 [] [some (aP 7), some (aI x1), some (aI x2), some (aI x3), some (aI (-1)), some (aI 0)] [] M Q) :
    aE s1_G d 72 0 [] [some (aP 7), some (aI x1), some (aI x2), some (aI x3), none, none] [] M Q := aE_go s1_pu_ok [(6, [true, true, true, true, true, true])] 68 hd h

set_option maxRecDepth 100000 in
set_option maxHeartbeats 4000000 in
theorem s1_Story_otherToKeep_6 {d : Nat} (hd : 3 < d) {M : AM} {Q : Option AV → AM → Prop} {x1 x2 x3 x4 x5 : Int}
    (h : ((M 1 5) ≤ x5 → (x4 = ((-1) : Int) → Q (some (aI (-1))) M) ∧ (x4 ≠ ((-1) : Int) → aKi s1_G d 73 [aP 7, aI x1, aI x4, aI x2, aI x3] M (fun z2 M1 => (z2 = (0 : Int) → Q (some (aI (-1))) M1) ∧ (z2 ≠ (0 : Int) → Q (some (aI x4)) M1)))) ∧ (x5 < (M 1 5) → (x5 = x1 → aE s1_G d 72 6 [] [some (aP 7), some (aI x1), some (aI x2), some (aI x3), some (aI x4), some (aI (a_add x5 1))] [] M Q) ∧ (x5 ≠ x1 → aKi s1_G d 76 [aP 7, aI x5, aI x2] M (fun z4 M3 => (z4 = (0 : Int) → aE s1_G d 72 6 [] [some (aP 7), some (aI x1), some (aI x2), some (aI x3), some (aI x4), some (aI (a_add x5 1))] [] M3 Q) ∧ (z4 ≠ (0 : Int) → (x4 = ((-1) : Int) → aE s1_G d 72 6 [] [some (aP 7), some (aI x1), some (aI x2), some (aI x3), some (aI x5), some (aI (a_add x5 1))] [] M3 Q) ∧ (x4 ≠ ((-1) : Int) → (0 ≤ x5 ∧ x5 < 12) ∧ ((0 ≤ x2 ∧ x2 < 40) ∧ ((0 ≤ x4 ∧ x4 < 12) ∧ ((0 ≤ x2 ∧ x2 < 40) ∧ (((M3 51 (x5 * 40 + x2)) ≤ (M3 51 (x4 * 40 + x2)) → aE s1_G d 72 6 [] [some (aP 7), some (aI x1), some (aI x2), some (aI x3), some (aI x4), some (aI (a_add x5 1))] [] M3 Q) ∧ ((M3 51 (x4 * 40 + x2)) < (M3 51 (x5 * 40 + x2)) → aE s1_G d 72 6 [] [some (aP 7), some (aI x1), some (aI x2), some (aI x3), some (aI x5), some (aI (a_add x5 1))] [] M3 Q))))))))))) :
    aE s1_G d 72 6 [] [some (aP 7), some (aI x1), some (aI x2), some (aI x3), some (aI x4), some (aI x5)] [] M Q := aE_go s1_pu_ok [(6, [true, true, true, true, true, true])] 180 hd h

-- 73: DioceseBook$Story.mayHoldBoth(IIII)Z
set_option maxRecDepth 100000 in
set_option maxHeartbeats 4000000 in
theorem s1_Story_mayHoldBoth_0 {d : Nat} (hd : 3 < d) {M : AM} {Q : Option AV → AM → Prop} {x1 x2 x3 x4 : Int}
    (h : aKi s1_G d 6 [aP 3, aI 2, aI x4] M (fun z2 M1 => aKi s1_G d 33 [aP 2, aI 5, aI x3, aI x4] M1 (fun z4 M3 => (z4 = (0 : Int) → ((0 : Int) = 0 ∨ (0 : Int) = 1) ∧ Q (some (aI 0)) M3) ∧ (z4 ≠ (0 : Int) → aKi s1_G d 57 [aP 1, aI x1, aI x2] M3 (fun z6 M5 => aKi s1_G d 6 [aP 3, aI 1, aI x4] M5 (fun z8 M7 => (z8 < z6 → ((0 : Int) = 0 ∨ (0 : Int) = 1) ∧ Q (some (aI 0)) M7) ∧ (z6 ≤ z8 → (0 ≤ x1 ∧ x1 < 12) ∧ ((z2 < (M7 16 x1) → ((0 : Int) = 0 ∨ (0 : Int) = 1) ∧ Q (some (aI 0)) M7) ∧ ((M7 16 x1) ≤ z2 → (0 ≤ x2 ∧ x2 < 12) ∧ ((z2 < (M7 16 x2) → ((0 : Int) = 0 ∨ (0 : Int) = 1) ∧ Q (some (aI 0)) M7) ∧ ((M7 16 x2) ≤ z2 → ((1 : Int) = 0 ∨ (1 : Int) = 1) ∧ Q (some (aI 1)) M7))))))))))) :
    aE s1_G d 73 0 [] [some (aP 7), some (aI x1), some (aI x2), some (aI x3), some (aI x4), none] [] M Q := aE_go s1_pu_ok [] 158 hd h

-- 74: DioceseBook$Story.fallFromAllBut(IIII)V
set_option maxRecDepth 100000 in
set_option maxHeartbeats 4000000 in
theorem s1_Story_fallFromAllBut_0 {d : Nat} (hd : 3 < d) {M : AM} {Q : Option AV → AM → Prop} {x1 x2 x3 x4 : Int}
    (h : aE s1_G d 74 3 [] [some (aP 7), some (aI x1), some (aI x2), some (aI x3), some (aI x4), some (aI 0)] [] M Q) :
    aE s1_G d 74 0 [] [some (aP 7), some (aI x1), some (aI x2), some (aI x3), some (aI x4), none] [] M Q := aE_go s1_pu_ok [(3, [true, true, true, true, true, true])] 64 hd h

set_option maxRecDepth 100000 in
set_option maxHeartbeats 4000000 in
theorem s1_Story_fallFromAllBut_3 {d : Nat} (hd : 3 < d) {M : AM} {Q : Option AV → AM → Prop} {x1 x2 x3 x4 x5 : Int}
    (h : ((M 1 5) ≤ x5 → Q none M) ∧ (x5 < (M 1 5) → (x5 = x1 → aE s1_G d 74 3 [] [some (aP 7), some (aI x1), some (aI x2), some (aI x3), some (aI x4), some (aI (a_add x5 1))] [] M Q) ∧ (x5 ≠ x1 → (x5 = x2 → aE s1_G d 74 3 [] [some (aP 7), some (aI x1), some (aI x2), some (aI x3), some (aI x4), some (aI (a_add x5 1))] [] M Q) ∧ (x5 ≠ x2 → aKv s1_G d 75 [aP 7, aI x5, aI x3, aI x4] M (fun M1 => aE s1_G d 74 3 [] [some (aP 7), some (aI x1), some (aI x2), some (aI x3), some (aI x4), some (aI (a_add x5 1))] [] M1 Q))))) :
    aE s1_G d 74 3 [] [some (aP 7), some (aI x1), some (aI x2), some (aI x3), some (aI x4), some (aI x5)] [] M Q := aE_go s1_pu_ok [(3, [true, true, true, true, true, true])] 106 hd h

-- 75: DioceseBook$Story.fall(III)V
set_option maxRecDepth 100000 in
set_option maxHeartbeats 4000000 in
theorem s1_Story_fall_0 {d : Nat} (hd : 3 < d) {M : AM} {Q : Option AV → AM → Prop} {x1 x2 x3 : Int}
    (h : (0 ≤ x2 ∧ x2 < 150) ∧ (aKi s1_G d 76 [aP 7, aI x1, aI (M 21 x2)] M (fun z2 M1 => (z2 ≠ (0 : Int) → (0 ≤ x1 ∧ x1 < 12) ∧ ((0 ≤ x1 ∧ x1 < 12) ∧ ((0 ≤ x1 ∧ x1 < 12) ∧ (((a_cmp ((am_up M1 50 x1 (a_land (M1 50 x1) (a_lxor (a_lshl 1 (M 21 x2)) (-1)))) 50 x1) 0) ≠ (0 : Int) → (0 ≤ x2 ∧ x2 < 150) ∧ (aKi s1_G d 77 [aP 7, aI x1] (am_up M1 50 x1 (a_land (M1 50 x1) (a_lxor (a_lshl 1 (M 21 x2)) (-1)))) (fun z4 M3 => aKv s1_G d 15 [aP 6, aI x1, aI (M 21 x2), aI 1, aI ((am_up M1 50 x1 (a_land (M1 50 x1) (a_lxor (a_lshl 1 (M 21 x2)) (-1)))) 18 x2), aI x2, aI z4] M3 (fun M5 => Q none M5)))) ∧ ((a_cmp ((am_up M1 50 x1 (a_land (M1 50 x1) (a_lxor (a_lshl 1 (M 21 x2)) (-1)))) 50 x1) 0) = (0 : Int) → (0 ≤ x2 ∧ x2 < 150) ∧ ((0 ≤ x1 ∧ x1 < 12) ∧ ((0 ≤ x1 ∧ x1 < 12) ∧ ((0 ≤ x2 ∧ x2 < 150) ∧ (aKi s1_G d 77 [aP 7, aI x1] (am_up (am_up (am_up M1 50 x1 (a_land (M1 50 x1) (a_lxor (a_lshl 1 (M 21 x2)) (-1)))) 52 x1 ((am_up M1 50 x1 (a_land (M1 50 x1) (a_lxor (a_lshl 1 (M 21 x2)) (-1)))) 18 x2)) 53 x1 x3) (fun z7 M6 => aKv s1_G d 15 [aP 6, aI x1, aI (M 21 x2), aI 1, aI ((am_up (am_up (am_up M1 50 x1 (a_land (M1 50 x1) (a_lxor (a_lshl 1 (M 21 x2)) (-1)))) 52 x1 ((am_up M1 50 x1 (a_land (M1 50 x1) (a_lxor (a_lshl 1 (M 21 x2)) (-1)))) 18 x2)) 53 x1 x3) 18 x2), aI x2, aI z7] M6 (fun M8 => Q none M8))))))))))) ∧ (z2 = (0 : Int) → Q none M1)))) :
    aE s1_G d 75 0 [] [some (aP 7), some (aI x1), some (aI x2), some (aI x3), none] [] M Q := aE_go s1_pu_ok [] 214 hd h

-- 76: DioceseBook$Story.isHolder(II)Z
set_option maxRecDepth 100000 in
set_option maxHeartbeats 4000000 in
theorem s1_Story_isHolder_0 {d : Nat} (hd : 3 < d) {M : AM} {Q : Option AV → AM → Prop} {x1 x2 : Int}
    (h : (0 ≤ x1 ∧ x1 < 12) ∧ (((a_cmp (a_land (a_lshr (M 50 x1) x2) 1) 1) ≠ (0 : Int) → ((0 : Int) = 0 ∨ (0 : Int) = 1) ∧ Q (some (aI 0)) M) ∧ ((a_cmp (a_land (a_lshr (M 50 x1) x2) 1) 1) = (0 : Int) → ((1 : Int) = 0 ∨ (1 : Int) = 1) ∧ Q (some (aI 1)) M))) :
    aE s1_G d 76 0 [] [some (aP 7), some (aI x1), some (aI x2)] [] M Q := aE_go s1_pu_ok [] 92 hd h

-- 77: DioceseBook$Story.holderCount(I)I
set_option maxRecDepth 100000 in
set_option maxHeartbeats 4000000 in
theorem s1_Story_holderCount_0 {d : Nat} (hd : 3 < d) {M : AM} {Q : Option AV → AM → Prop} {x1 : Int}
    (h : (0 ≤ x1 ∧ x1 < 12) ∧ (aKi s1_G d 152 [aL (M 50 x1)] M (fun z2 M1 => Q (some (aI z2)) M1))) :
    aE s1_G d 77 0 [] [some (aP 7), some (aI x1)] [] M Q := aE_go s1_pu_ok [] 72 hd h

-- 78: DioceseBook$Story.livingsThatAre(I)I
set_option maxRecDepth 100000 in
set_option maxHeartbeats 4000000 in
theorem s1_Story_livingsThatAre_0 {d : Nat} (hd : 3 < d) {M : AM} {Q : Option AV → AM → Prop} {x1 : Int}
    (h : aE s1_G d 78 4 [] [some (aP 7), some (aI x1), some (aI 0), some (aI 0)] [] M Q) :
    aE s1_G d 78 0 [] [some (aP 7), some (aI x1), none, none] [] M Q := aE_go s1_pu_ok [(4, [true, true, true, true])] 68 hd h

set_option maxRecDepth 100000 in
set_option maxHeartbeats 4000000 in
theorem s1_Story_livingsThatAre_4 {d : Nat} (hd : 3 < d) {M : AM} {Q : Option AV → AM → Prop} {x1 x2 x3 : Int}
    (h : ((M 1 5) ≤ x3 → Q (some (aI x2)) M) ∧ (x3 < (M 1 5) → aKi s1_G d 77 [aP 7, aI x3] M (fun z2 M1 => aKi s1_G d 13 [aI z2] M1 (fun z4 M3 => (z4 ≠ x1 → aE s1_G d 78 4 [] [some (aP 7), some (aI x1), some (aI (a_add x2 (a_bl ((0 : Int) ≠ 0)))), some (aI (a_add x3 1))] [] M3 Q) ∧ (z4 = x1 → aE s1_G d 78 4 [] [some (aP 7), some (aI x1), some (aI (a_add x2 (a_bl ((1 : Int) ≠ 0)))), some (aI (a_add x3 1))] [] M3 Q))))) :
    aE s1_G d 78 4 [] [some (aP 7), some (aI x1), some (aI x2), some (aI x3)] [] M Q := aE_go s1_pu_ok [(4, [true, true, true, true])] 114 hd h

-- 79: DioceseBook$Story.firstHolder(I)I
set_option maxRecDepth 100000 in
set_option maxHeartbeats 4000000 in
theorem s1_Story_firstHolder_0 {d : Nat} (hd : 3 < d) {M : AM} {Q : Option AV → AM → Prop} {x1 : Int}
    (h : aE s1_G d 79 4 [] [some (aP 7), some (aI x1), some (aI (-1)), some (aI 0)] [] M Q) :
    aE s1_G d 79 0 [] [some (aP 7), some (aI x1), none, none] [] M Q := aE_go s1_pu_ok [(4, [true, true, true, true])] 68 hd h

set_option maxRecDepth 100000 in
set_option maxHeartbeats 4000000 in
theorem s1_Story_firstHolder_4 {d : Nat} (hd : 3 < d) {M : AM} {Q : Option AV → AM → Prop} {x1 x2 x3 : Int}
    (h : ((M 1 4) ≤ x3 → Q (some (aI x2)) M) ∧ (x3 < (M 1 4) → aKi s1_G d 76 [aP 7, aI x1, aI x3] M (fun z2 M1 => (z2 = (0 : Int) → aE s1_G d 79 4 [] [some (aP 7), some (aI x1), some (aI x2), some (aI (a_add x3 1))] [] M1 Q) ∧ (z2 ≠ (0 : Int) → (x2 = ((-1) : Int) → aE s1_G d 79 4 [] [some (aP 7), some (aI x1), some (aI x3), some (aI (a_add x3 1))] [] M1 Q) ∧ (x2 ≠ ((-1) : Int) → (0 ≤ x1 ∧ x1 < 12) ∧ ((0 ≤ x3 ∧ x3 < 40) ∧ ((0 ≤ x1 ∧ x1 < 12) ∧ ((0 ≤ x2 ∧ x2 < 40) ∧ (((M1 51 (x1 * 40 + x2)) ≤ (M1 51 (x1 * 40 + x3)) → aE s1_G d 79 4 [] [some (aP 7), some (aI x1), some (aI x2), some (aI (a_add x3 1))] [] M1 Q) ∧ ((M1 51 (x1 * 40 + x3)) < (M1 51 (x1 * 40 + x2)) → aE s1_G d 79 4 [] [some (aP 7), some (aI x1), some (aI x3), some (aI (a_add x3 1))] [] M1 Q)))))))))) :
    aE s1_G d 79 4 [] [some (aP 7), some (aI x1), some (aI x2), some (aI x3)] [] M Q := aE_go s1_pu_ok [(4, [true, true, true, true])] 140 hd h

-- 80: DioceseBook$Story.presenter(II)I
set_option maxRecDepth 100000 in
set_option maxHeartbeats 4000000 in
theorem s1_Story_presenter_0 {d : Nat} (hd : 3 < d) {M : AM} {Q : Option AV → AM → Prop} {x1 x2 : Int}
    (h : (0 ≤ x1 ∧ x1 < 12) ∧ (((a_cmp (M 50 x1) 0) = (0 : Int) → aKi s1_G d 81 [aP 7, aI x1, aI x2] M (fun z2 M1 => ((z2 = 0 → aKi s1_G d 65 [aP 5, aI x1, aI x2] M1 (fun z4 M3 => Q (some (aI z4)) M3)) ∧ (z2 = 1 → Q (some (aI (-2))) M1) ∧ (z2 = 2 → Q (some (aI (-3))) M1) ∧ True) ∧ (z2 < 0 ∨ 2 < z2 → Q (some (aI (-4))) M1))) ∧ ((a_cmp (M 50 x1) 0) ≠ (0 : Int) → Q (some (aI (-1))) M))) :
    aE s1_G d 80 0 [] [some (aP 7), some (aI x1), some (aI x2)] [] M Q := aE_go s1_pu_ok [] 112 hd h

-- 81: DioceseBook$Story.lapsedTo(II)I
set_option maxRecDepth 100000 in
set_option maxHeartbeats 4000000 in
theorem s1_Story_lapsedTo_0 {d : Nat} (hd : 3 < d) {M : AM} {Q : Option AV → AM → Prop} {x1 x2 : Int}
    (h : (0 ≤ x1 ∧ x1 < 12) ∧ (aKi s1_G d 6 [aP 3, aI 0, aI (M 52 x1)] M (fun z2 M1 => (0 ≤ x1 ∧ x1 < 12) ∧ (((M1 53 x1) ≠ (2 : Int) → (0 ≤ x1 ∧ x1 < 12) ∧ (((a_mul 30 z2) ≤ (0 : Int) → Q (some (aI 0)) M1) ∧ ((0 : Int) < (a_mul 30 z2) → ((M1 52 x1) = ((-1) : Int) → Q (some (aI 0)) M1) ∧ ((M1 52 x1) ≠ ((-1) : Int) → ((M1 52 x1) ≤ x2 → (a_mul 30 z2) ≠ 0 ∧ (Q (some (aI (if (a_div (a_sub x2 (M1 52 x1)) (a_mul 30 z2)) ≤ 3 then a_div (a_sub x2 (M1 52 x1)) (a_mul 30 z2) else 3))) M1)) ∧ (x2 < (M1 52 x1) → Q (some (aI 0)) M1))))) ∧ ((M1 53 x1) = (2 : Int) → (0 ≤ x1 ∧ x1 < 12) ∧ (aKi s1_G d 36 [aP 2, aI x1, aI (M1 52 x1)] M1 (fun z4 M3 => ((a_mul 30 z2) ≤ (0 : Int) → Q (some (aI 0)) M3) ∧ ((0 : Int) < (a_mul 30 z2) → (z4 = ((-1) : Int) → Q (some (aI 0)) M3) ∧ (z4 ≠ ((-1) : Int) → (z4 ≤ x2 → (a_mul 30 z2) ≠ 0 ∧ (Q (some (aI (if (a_div (a_sub x2 z4) (a_mul 30 z2)) ≤ 3 then a_div (a_sub x2 z4) (a_mul 30 z2) else 3))) M3)) ∧ (x2 < z4 → Q (some (aI 0)) M3)))))))))) :
    aE s1_G d 81 0 [] [some (aP 7), some (aI x1), some (aI x2), none, none] [] M Q := aE_go s1_pu_ok [] 212 hd h

-- 82: DioceseBook$Story.barOf(III)I
set_option maxRecDepth 100000 in
set_option maxHeartbeats 4000000 in
theorem s1_Story_barOf_0 {d : Nat} (hd : 3 < d) {M : AM} {Q : Option AV → AM → Prop} {x1 x2 x3 : Int}
    (h : (0 ≤ (0 : Int) ∧ (0 : Int) < 6) ∧ ((0 ≤ x1 ∧ x1 < 40) ∧ ((0 ≤ (2 : Int) ∧ (2 : Int) < 6) ∧ ((0 ≤ x1 ∧ x1 < 40) ∧ (aKi s1_G d 33 [aP 2, aI 0, aI x1, aI x3] M (fun z2 M1 => (z2 = (0 : Int) → (0 ≤ (0 : Int) ∧ (0 : Int) < 6) ∧ (aKi s1_G d 33 [aP 2, aI 2, aI x1, aI x3] (am_up M1 55 (0 : Int) (-1)) (fun z4 M3 => (z4 = (0 : Int) → (0 ≤ (1 : Int) ∧ (1 : Int) < 6) ∧ ((0 ≤ (2 : Int) ∧ (2 : Int) < 6) ∧ ((0 ≤ (3 : Int) ∧ (3 : Int) < 6) ∧ (aE s1_G d 82 101 [] [some (aP 7), some (aI x1), some (aI x2), some (aI x3), none, none, some (aI 0)] [] (am_up (am_up (am_up M3 55 (1 : Int) (-1)) 55 (2 : Int) 0) 55 (3 : Int) 0) Q)))) ∧ (z4 ≠ (0 : Int) → (0 ≤ (1 : Int) ∧ (1 : Int) < 6) ∧ ((0 ≤ (2 : Int) ∧ (2 : Int) < 6) ∧ ((0 ≤ (3 : Int) ∧ (3 : Int) < 6) ∧ (aE s1_G d 82 101 [] [some (aP 7), some (aI x1), some (aI x2), some (aI x3), none, none, some (aI 0)] [] (am_up (am_up (am_up M3 55 (1 : Int) (a_sub x3 (M 27 ((2 : Int) * 40 + x1)))) 55 (2 : Int) 0) 55 (3 : Int) 0) Q))))))) ∧ (z2 ≠ (0 : Int) → (360 : Int) ≠ 0 ∧ ((0 ≤ (0 : Int) ∧ (0 : Int) < 6) ∧ (aKi s1_G d 33 [aP 2, aI 2, aI x1, aI x3] (am_up M1 55 (0 : Int) (a_div (a_sub x3 (M 27 ((0 : Int) * 40 + x1))) 360)) (fun z6 M5 => (z6 = (0 : Int) → (0 ≤ (1 : Int) ∧ (1 : Int) < 6) ∧ ((0 ≤ (2 : Int) ∧ (2 : Int) < 6) ∧ ((0 ≤ (3 : Int) ∧ (3 : Int) < 6) ∧ (aE s1_G d 82 101 [] [some (aP 7), some (aI x1), some (aI x2), some (aI x3), none, none, some (aI 0)] [] (am_up (am_up (am_up M5 55 (1 : Int) (-1)) 55 (2 : Int) 0) 55 (3 : Int) 0) Q)))) ∧ (z6 ≠ (0 : Int) → (0 ≤ (1 : Int) ∧ (1 : Int) < 6) ∧ ((0 ≤ (2 : Int) ∧ (2 : Int) < 6) ∧ ((0 ≤ (3 : Int) ∧ (3 : Int) < 6) ∧ (aE s1_G d 82 101 [] [some (aP 7), some (aI x1), some (aI x2), some (aI x3), none, none, some (aI 0)] [] (am_up (am_up (am_up M5 55 (1 : Int) (a_sub x3 (M 27 ((2 : Int) * 40 + x1)))) 55 (2 : Int) 0) 55 (3 : Int) 0) Q)))))))))))))) :
    aE s1_G d 82 0 [] [some (aP 7), some (aI x1), some (aI x2), some (aI x3), none, none, none] [] M Q := aE_go s1_pu_ok [(101, [true, true, true, true, false, false, true])] 294 hd h

set_option maxRecDepth 100000 in
set_option maxHeartbeats 4000000 in
theorem s1_Story_barOf_101 {d : Nat} (hd : 3 < d) {M : AM} {Q : Option AV → AM → Prop} {x1 x2 x3 x6 : Int}
    (h : ((M 1 5) ≤ x6 → (0 ≤ x2 ∧ x2 < 12) ∧ ((0 ≤ (4 : Int) ∧ (4 : Int) < 6) ∧ (aKi s1_G d 33 [aP 2, aI 5, aI x1, aI x3] (am_up M 55 (4 : Int) (M 16 x2)) (fun z2 M1 => (0 ≤ (5 : Int) ∧ (5 : Int) < 6) ∧ (aKi s1_G d 10 [aP 3, aI x3, aP 55] (am_up M1 55 (5 : Int) (a_bl (z2 ≠ 0))) (fun z4 M3 => Q (some (aI z4)) M3)))))) ∧ (x6 < (M 1 5) → (x6 = x2 → aE s1_G d 82 101 [] [some (aP 7), some (aI x1), some (aI x2), some (aI x3), none, none, some (aI (a_add x6 1))] [] M Q) ∧ (x6 ≠ x2 → aKi s1_G d 76 [aP 7, aI x6, aI x1] M (fun z6 M5 => (z6 = (0 : Int) → aE s1_G d 82 101 [] [some (aP 7), some (aI x1), some (aI x2), some (aI x3), none, none, some (aI (a_add x6 1))] [] M5 Q) ∧ (z6 ≠ (0 : Int) → (0 ≤ (2 : Int) ∧ (2 : Int) < 6) ∧ ((0 ≤ (2 : Int) ∧ (2 : Int) < 6) ∧ ((0 ≤ (3 : Int) ∧ (3 : Int) < 6) ∧ (aKi s1_G d 57 [aP 1, aI x6, aI x2] (am_up M5 55 (2 : Int) (a_add (M5 55 (2 : Int)) 1)) (fun z8 M7 => (0 ≤ (3 : Int) ∧ (3 : Int) < 6) ∧ (aE s1_G d 82 101 [] [some (aP 7), some (aI x1), some (aI x2), some (aI x3), none, none, some (aI (a_add x6 1))] [] (am_up M7 55 (3 : Int) (if z8 ≤ ((am_up M5 55 (2 : Int) (a_add (M5 55 (2 : Int)) 1)) 55 (3 : Int)) then (am_up M5 55 (2 : Int) (a_add (M5 55 (2 : Int)) 1)) 55 (3 : Int) else z8)) Q)))))))))) :
    aE s1_G d 82 101 [] [some (aP 7), some (aI x1), some (aI x2), some (aI x3), none, none, some (aI x6)] [] M Q := aE_go s1_pu_ok [(101, [true, true, true, true, false, false, true])] 196 hd h

-- 83: DioceseBook$Story.decayOf(II)I
set_option maxRecDepth 100000 in
set_option maxHeartbeats 4000000 in
theorem s1_Story_decayOf_0 {d : Nat} (hd : 3 < d) {M : AM} {Q : Option AV → AM → Prop} {x1 x2 : Int}
    (h : aKi s1_G d 17 [aP 6, aI x1, aI x2] M (fun z2 M1 => (z2 ≠ ((-1) : Int) → aE s1_G d 83 23 [] [some (aP 7), none, some (aI x2), some (aI z2), some (aI (-1)), some (aI 0), none] [] M1 Q) ∧ (z2 = ((-1) : Int) → Q (some (aI 0)) M1))) :
    aE s1_G d 83 0 [] [some (aP 7), some (aI x1), some (aI x2), none, none, none, none] [] M Q := aE_go s1_pu_ok [(23, [true, false, true, true, true, true, false])] 90 hd h

set_option maxRecDepth 100000 in
set_option maxHeartbeats 4000000 in
theorem s1_Story_decayOf_23 {d : Nat} (hd : 3 < d) {M : AM} {Q : Option AV → AM → Prop} {x2 x3 x4 x5 : Int}
    (h : ((M 2 12) ≤ x5 → Q (some (aI (if (0 : Int) ≤ x4 then x4 else 0))) M) ∧ (x5 < (M 2 12) → (0 ≤ x5 ∧ x5 < 150) ∧ ((0 ≤ (M 26 x5) ∧ (M 26 x5) < 150) ∧ (((M 17 (M 26 x5)) ≠ (11 : Int) → aE s1_G d 83 23 [] [some (aP 7), none, some (aI x2), some (aI x3), some (aI x4), some (aI (a_add x5 1)), none] [] M Q) ∧ ((M 17 (M 26 x5)) = (11 : Int) → (0 ≤ (M 26 x5) ∧ (M 26 x5) < 150) ∧ (((M 20 (M 26 x5)) ≠ x2 → aE s1_G d 83 23 [] [some (aP 7), none, some (aI x2), some (aI x3), some (aI x4), some (aI (a_add x5 1)), none] [] M Q) ∧ ((M 20 (M 26 x5)) = x2 → (0 ≤ (M 26 x5) ∧ (M 26 x5) < 150) ∧ (((a_bl (x3 ≤ (M 18 (M 26 x5)) ∧ (M 18 (M 26 x5)) ≤ (a_add x3 90))) = (0 : Int) → aE s1_G d 83 23 [] [some (aP 7), none, some (aI x2), some (aI x3), some (aI x4), some (aI (a_add x5 1)), none] [] M Q) ∧ ((a_bl (x3 ≤ (M 18 (M 26 x5)) ∧ (M 18 (M 26 x5)) ≤ (a_add x3 90))) ≠ (0 : Int) → (x4 = ((-1) : Int) → (0 ≤ (M 26 x5) ∧ (M 26 x5) < 150) ∧ (aE s1_G d 83 23 [] [some (aP 7), none, some (aI x2), some (aI x3), some (aI (M 23 (M 26 x5))), some (aI (a_add x5 1)), none] [] M Q)) ∧ (x4 ≠ ((-1) : Int) → (0 ≤ (M 26 x5) ∧ (M 26 x5) < 150) ∧ (aKi s1_G d 6 [aP 3, aI 5, aI x3] M (fun z2 M1 => aKi s1_G d 84 [aI x4, aI (M 23 (M 26 x5)), aI z2] M1 (fun z4 M3 => Q (some (aI z4)) M3))))))))))))) :
    aE s1_G d 83 23 [] [some (aP 7), none, some (aI x2), some (aI x3), some (aI x4), some (aI x5), none] [] M Q := aE_go s1_pu_ok [(23, [true, false, true, true, true, true, false])] 200 hd h

-- 84: DioceseBook$Story.ofBoth(III)I
set_option maxRecDepth 100000 in
set_option maxHeartbeats 4000000 in
theorem s1_Story_ofBoth_0 {d : Nat} (hd : 3 < d) {M : AM} {Q : Option AV → AM → Prop} {x0 x1 x2 : Int}
    (h : (x2 = 0 → Q (some (aI (if x0 ≤ x1 then x0 else x1))) M) ∧ (x2 ≠ 0 → (x2 = 1 → Q (some (aI (if x1 ≤ x0 then x0 else x1))) M) ∧ (x2 ≠ 1 → (2 : Int) ≠ 0 ∧ (Q (some (aI (a_div (a_add x0 x1) 2))) M)))) :
    aE s1_G d 84 0 [] [some (aI x0), some (aI x1), some (aI x2)] [] M Q := aE_go s1_pu_ok [] 92 hd h

-- 85: DioceseBook$Suits.add(I)I
set_option maxRecDepth 100000 in
set_option maxHeartbeats 4000000 in
theorem s1_Suits_add_0 {d : Nat} (hd : 3 < d) {M : AM} {Q : Option AV → AM → Prop} {x1 : Int}
    (h : ((M 8 4) < (20 : Int) → (0 ≤ (M 8 4) ∧ (M 8 4) < 20) ∧ ((0 ≤ ((am_up M 56 (M 8 4) x1) 8 4) ∧ ((am_up M 56 (M 8 4) x1) 8 4) < 20) ∧ (Q (some (aI ((am_up (am_up M 56 (M 8 4) x1) 57 ((am_up M 56 (M 8 4) x1) 8 4) 0) 8 4))) (am_up (am_up (am_up M 56 (M 8 4) x1) 57 ((am_up M 56 (M 8 4) x1) 8 4) 0) 8 4 (a_add ((am_up (am_up M 56 (M 8 4) x1) 57 ((am_up M 56 (M 8 4) x1) 8 4) 0) 8 4) 1))))) ∧ ((20 : Int) ≤ (M 8 4) → Q (some (aI (-100004))) M)) :
    aE s1_G d 85 0 [] [some (aP 8), some (aI x1)] [] M Q := aE_go s1_pu_ok [] 112 hd h

-- 86: DioceseBook$Suits.addStep(II)I
set_option maxRecDepth 100000 in
set_option maxHeartbeats 4000000 in
theorem s1_Suits_addStep_0 {d : Nat} (hd : 3 < d) {M : AM} {Q : Option AV → AM → Prop} {x1 x2 : Int}
    (h : (0 ≤ x1 ∧ x1 < 20) ∧ (((M 57 x1) < (5 : Int) → (0 ≤ x1 ∧ x1 < 20) ∧ ((0 ≤ x1 ∧ x1 < 20) ∧ ((0 ≤ (M 57 x1) ∧ (M 57 x1) < 5) ∧ ((0 ≤ x1 ∧ x1 < 20) ∧ ((0 ≤ x1 ∧ x1 < 20) ∧ ((0 ≤ x1 ∧ x1 < 20) ∧ (Q (some (aI ((am_up (am_up M 58 (x1 * 5 + (M 57 x1)) x2) 57 x1 (a_add ((am_up M 58 (x1 * 5 + (M 57 x1)) x2) 57 x1) 1)) 57 x1))) (am_up (am_up M 58 (x1 * 5 + (M 57 x1)) x2) 57 x1 (a_add ((am_up M 58 (x1 * 5 + (M 57 x1)) x2) 57 x1) 1))))))))) ∧ ((5 : Int) ≤ (M 57 x1) → Q (some (aI (-100003))) M))) :
    aE s1_G d 86 0 [] [some (aP 8), some (aI x1), some (aI x2)] [] M Q := aE_go s1_pu_ok [] 122 hd h

-- 87: DioceseBook$Suits.undoFrom(II)I
set_option maxRecDepth 100000 in
set_option maxHeartbeats 4000000 in
theorem s1_Suits_undoFrom_0 {d : Nat} (hd : 3 < d) {M : AM} {Q : Option AV → AM → Prop} {x1 x2 : Int}
    (h : (0 ≤ x1 ∧ x1 < 20) ∧ ((x2 ≤ (M 57 x1) → (0 ≤ x1 ∧ x1 < 20) ∧ ((0 ≤ x1 ∧ x1 < 20) ∧ (Q (some (aI ((am_up M 57 x1 (a_sub x2 1)) 57 x1))) (am_up M 57 x1 (a_sub x2 1))))) ∧ ((M 57 x1) < x2 → Q (some (aI (-100003))) M))) :
    aE s1_G d 87 0 [] [some (aP 8), some (aI x1), some (aI x2)] [] M Q := aE_go s1_pu_ok [] 100 hd h

-- 88: DioceseBook$Suits.stepsBy(II)I
set_option maxRecDepth 100000 in
set_option maxHeartbeats 4000000 in
theorem s1_Suits_stepsBy_0 {d : Nat} (hd : 3 < d) {M : AM} {Q : Option AV → AM → Prop} {x1 x2 : Int}
    (h : aE s1_G d 88 2 [] [some (aP 8), some (aI x1), some (aI x2), some (aI 0)] [] M Q) :
    aE s1_G d 88 0 [] [some (aP 8), some (aI x1), some (aI x2), none] [] M Q := aE_go s1_pu_ok [(2, [true, true, true, true])] 64 hd h

set_option maxRecDepth 100000 in
set_option maxHeartbeats 4000000 in
theorem s1_Suits_stepsBy_2 {d : Nat} (hd : 3 < d) {M : AM} {Q : Option AV → AM → Prop} {x1 x2 x3 : Int}
    (h : (0 ≤ x1 ∧ x1 < 20) ∧ (((M 57 x1) ≤ x3 → Q (some (aI x3)) M) ∧ (x3 < (M 57 x1) → (0 ≤ x1 ∧ x1 < 20) ∧ ((0 ≤ x3 ∧ x3 < 5) ∧ ((x2 < (M 58 (x1 * 5 + x3)) → Q (some (aI x3)) M) ∧ ((M 58 (x1 * 5 + x3)) ≤ x2 → aE s1_G d 88 2 [] [some (aP 8), some (aI x1), some (aI x2), some (aI (a_add x3 1))] [] M Q)))))) :
    aE s1_G d 88 2 [] [some (aP 8), some (aI x1), some (aI x2), some (aI x3)] [] M Q := aE_go s1_pu_ok [(2, [true, true, true, true])] 100 hd h

-- 89: DioceseBook$Suits.lastDay(II)I
set_option maxRecDepth 100000 in
set_option maxHeartbeats 4000000 in
theorem s1_Suits_lastDay_0 {d : Nat} (hd : 3 < d) {M : AM} {Q : Option AV → AM → Prop} {x1 x2 : Int}
    (h : aKi s1_G d 88 [aP 8, aI x1, aI x2] M (fun z2 M1 => (z2 ≤ (0 : Int) → (0 ≤ x1 ∧ x1 < 20) ∧ ((x2 < (M1 56 x1) → Q (some (aI (-1))) M1) ∧ ((M1 56 x1) ≤ x2 → (0 ≤ x1 ∧ x1 < 20) ∧ (Q (some (aI (M1 56 x1))) M1)))) ∧ ((0 : Int) < z2 → (0 ≤ x1 ∧ x1 < 20) ∧ ((0 ≤ (a_sub z2 1) ∧ (a_sub z2 1) < 5) ∧ (Q (some (aI (M1 58 (x1 * 5 + (a_sub z2 1))))) M1))))) :
    aE s1_G d 89 0 [] [some (aP 8), some (aI x1), some (aI x2), none] [] M Q := aE_go s1_pu_ok [] 120 hd h

-- 90: DioceseBook$Suits.sleeps(II)Z
set_option maxRecDepth 100000 in
set_option maxHeartbeats 4000000 in
theorem s1_Suits_sleeps_0 {d : Nat} (hd : 3 < d) {M : AM} {Q : Option AV → AM → Prop} {x1 x2 : Int}
    (h : aKi s1_G d 89 [aP 8, aI x1, aI x2] M (fun z2 M1 => aKi s1_G d 6 [aP 3, aI 6, aI x2] M1 (fun z4 M3 => (z2 = ((-1) : Int) → ((0 : Int) = 0 ∨ (0 : Int) = 1) ∧ Q (some (aI 0)) M3) ∧ (z2 ≠ ((-1) : Int) → (z4 ≤ (0 : Int) → ((0 : Int) = 0 ∨ (0 : Int) = 1) ∧ Q (some (aI 0)) M3) ∧ ((0 : Int) < z4 → aKi s1_G d 88 [aP 8, aI x1, aI x2] M3 (fun z6 M5 => ((5 : Int) ≤ z6 → ((0 : Int) = 0 ∨ (0 : Int) = 1) ∧ Q (some (aI 0)) M5) ∧ (z6 < (5 : Int) → ((a_sub x2 z2) ≤ z4 → ((0 : Int) = 0 ∨ (0 : Int) = 1) ∧ Q (some (aI 0)) M5) ∧ (z4 < (a_sub x2 z2) → ((1 : Int) = 0 ∨ (1 : Int) = 1) ∧ Q (some (aI 1)) M5)))))))) :
    aE s1_G d 90 0 [] [some (aP 8), some (aI x1), some (aI x2), none, none] [] M Q := aE_go s1_pu_ok [] 136 hd h

-- 91: DioceseBook$Suits.fees(I)I
set_option maxRecDepth 100000 in
set_option maxHeartbeats 4000000 in
theorem s1_Suits_fees_0 {d : Nat} (hd : 3 < d) {M : AM} {Q : Option AV → AM → Prop} {x1 : Int}
    (h : aE s1_G d 91 4 [] [some (aP 8), some (aI x1), some (aI 0), some (aI 0)] [] M Q) :
    aE s1_G d 91 0 [] [some (aP 8), some (aI x1), none, none] [] M Q := aE_go s1_pu_ok [(4, [true, true, true, true])] 68 hd h

set_option maxRecDepth 100000 in
set_option maxHeartbeats 4000000 in
theorem s1_Suits_fees_4 {d : Nat} (hd : 3 < d) {M : AM} {Q : Option AV → AM → Prop} {x1 x2 x3 : Int}
    (h : (0 ≤ x1 ∧ x1 < 20) ∧ (((M 57 x1) ≤ x3 → Q (some (aI x2)) M) ∧ (x3 < (M 57 x1) → (0 ≤ x1 ∧ x1 < 20) ∧ ((0 ≤ x3 ∧ x3 < 5) ∧ (aKi s1_G d 6 [aP 3, aI 7, aI (M 58 (x1 * 5 + x3))] M (fun z2 M1 => aE s1_G d 91 4 [] [some (aP 8), some (aI x1), some (aI (a_add x2 z2)), some (aI (a_add x3 1))] [] M1 Q)))))) :
    aE s1_G d 91 4 [] [some (aP 8), some (aI x1), some (aI x2), some (aI x3)] [] M Q := aE_go s1_pu_ok [(4, [true, true, true, true])] 106 hd h

-- 92: DioceseBook$Terriers.add(IIII)I
set_option maxRecDepth 100000 in
set_option maxHeartbeats 4000000 in
theorem s1_Terriers_add_0 {d : Nat} (hd : 3 < d) {M : AM} {Q : Option AV → AM → Prop} {x1 x2 x3 x4 : Int}
    (h : (0 ≤ x1 ∧ x1 < 24) ∧ (((M 59 x1) < (8 : Int) → (0 ≤ x1 ∧ x1 < 24) ∧ ((0 ≤ (M 59 x1) ∧ (M 59 x1) < 8) ∧ ((0 ≤ x1 ∧ x1 < 24) ∧ ((0 ≤ (M 59 x1) ∧ (M 59 x1) < 8) ∧ ((0 ≤ x1 ∧ x1 < 24) ∧ ((0 ≤ (M 59 x1) ∧ (M 59 x1) < 8) ∧ ((0 ≤ x1 ∧ x1 < 24) ∧ ((0 ≤ x1 ∧ x1 < 24) ∧ (Q (some (aI (M 59 x1))) (am_up (am_up (am_up (am_up (am_up M 60 (x1 * 8 + (M 59 x1)) x2) 61 (x1 * 8 + (M 59 x1)) x3) 62 (x1 * 8 + (M 59 x1)) x4) 59 x1 (a_add ((am_up (am_up (am_up M 60 (x1 * 8 + (M 59 x1)) x2) 61 (x1 * 8 + (M 59 x1)) x3) 62 (x1 * 8 + (M 59 x1)) x4) 59 x1) 1)) 9 6 (-1))))))))))) ∧ ((8 : Int) ≤ (M 59 x1) → Q (some (aI (-100004))) M))) :
    aE s1_G d 92 0 [] [some (aP 9), some (aI x1), some (aI x2), some (aI x3), some (aI x4), none] [] M Q := aE_go s1_pu_ok [] 148 hd h

-- 93: DioceseBook$Terriers.leastCost()I
set_option maxRecDepth 100000 in
set_option maxHeartbeats 4000000 in
theorem s1_Terriers_leastCost_0 {d : Nat} (hd : 3 < d) {M : AM} {Q : Option AV → AM → Prop}
    (h : (0 ≤ (0 : Int) ∧ (0 : Int) < 9) ∧ ((0 ≤ (0 : Int) ∧ (0 : Int) < 256) ∧ (Q (some (aI (M 63 ((0 : Int) * 256 + (0 : Int))))) M))) :
    aE s1_G d 93 0 [] [some (aP 9)] [] M Q := aE_go s1_pu_ok [] 74 hd h

-- 94: DioceseBook$Terriers.partner(II)I
set_option maxRecDepth 100000 in
set_option maxHeartbeats 4000000 in
theorem s1_Terriers_partner_0 {d : Nat} (hd : 3 < d) {M : AM} {Q : Option AV → AM → Prop} {x1 x2 : Int}
    (h : (0 ≤ (a_mul 2 x1) ∧ (a_mul 2 x1) < 24) ∧ (((a_bl (0 ≤ x2 ∧ x2 ≤ (a_sub (M 59 (a_mul 2 x1)) 1))) = (0 : Int) → Q (some (aI (-1))) M) ∧ ((a_bl (0 ≤ x2 ∧ x2 ≤ (a_sub (M 59 (a_mul 2 x1)) 1))) ≠ (0 : Int) → (0 ≤ x2 ∧ x2 < 8) ∧ (Q (some (aI (M 64 x2))) M)))) :
    aE s1_G d 94 0 [] [some (aP 9), some (aI x1), some (aI x2)] [] M Q := aE_go s1_pu_ok [] 100 hd h

-- 95: DioceseBook$Terriers.pair(I)V
set_option maxRecDepth 100000 in
set_option maxHeartbeats 4000000 in
theorem s1_Terriers_pair_0 {d : Nat} (hd : 3 < d) {M : AM} {Q : Option AV → AM → Prop} {x1 : Int}
    (h : ((M 9 6) ≠ x1 → (0 ≤ (a_mul 2 x1) ∧ (a_mul 2 x1) < 24) ∧ ((0 ≤ (a_add (a_mul 2 x1) 1) ∧ (a_add (a_mul 2 x1) 1) < 24) ∧ (aE s1_G d 95 39 [] [some (aP 9), some (aI x1), some (aI ((am_up M 9 6 x1) 59 (a_mul 2 x1))), some (aI (a_shl 1 ((am_up M 9 6 x1) 59 (a_add (a_mul 2 x1) 1)))), some (aI 0), none] [] (am_up M 9 6 x1) Q))) ∧ ((M 9 6) = x1 → Q none M)) :
    aE s1_G d 95 0 [] [some (aP 9), some (aI x1), none, none, none, none] [] M Q := aE_go s1_pu_ok [(39, [true, true, true, true, true, false]), (76, [true, true, true, true, true, false]), (84, [true, true, true, true, true, true]), (137, [true, true, true, false, true, true])] 116 hd h

set_option maxRecDepth 100000 in
set_option maxHeartbeats 4000000 in
theorem s1_Terriers_pair_39 {d : Nat} (hd : 3 < d) {M : AM} {Q : Option AV → AM → Prop} {x1 x2 x3 x4 : Int}
    (h : (x3 ≤ x4 → aE s1_G d 95 76 [] [some (aP 9), some (aI x1), some (aI x2), some (aI x3), some (aI (a_sub x2 1)), none] [] M Q) ∧ (x4 < x3 → (0 ≤ x2 ∧ x2 < 9) ∧ (aKi s1_G d 100 [aP 9, aI (a_add (a_mul 2 x1) 1), aI x4] M (fun z2 M1 => (0 ≤ x4 ∧ x4 < 256) ∧ (aE s1_G d 95 39 [] [some (aP 9), some (aI x1), some (aI x2), some (aI x3), some (aI (a_add x4 1)), none] [] (am_up M1 63 (x2 * 256 + x4) z2) Q))))) :
    aE s1_G d 95 39 [] [some (aP 9), some (aI x1), some (aI x2), some (aI x3), some (aI x4), none] [] M Q := aE_go s1_pu_ok [(39, [true, true, true, true, true, false]), (76, [true, true, true, true, true, false]), (84, [true, true, true, true, true, true]), (137, [true, true, true, false, true, true])] 106 hd h

set_option maxRecDepth 100000 in
set_option maxHeartbeats 4000000 in
theorem s1_Terriers_pair_76 {d : Nat} (hd : 3 < d) {M : AM} {Q : Option AV → AM → Prop} {x1 x2 x3 x4 : Int}
    (h : (x4 < (0 : Int) → aE s1_G d 95 137 [] [some (aP 9), some (aI x1), some (aI x2), none, some (aI 0), some (aI 0)] [] M Q) ∧ ((0 : Int) ≤ x4 → aE s1_G d 95 84 [] [some (aP 9), some (aI x1), some (aI x2), some (aI x3), some (aI x4), some (aI 0)] [] M Q)) :
    aE s1_G d 95 76 [] [some (aP 9), some (aI x1), some (aI x2), some (aI x3), some (aI x4), none] [] M Q := aE_go s1_pu_ok [(39, [true, true, true, true, true, false]), (76, [true, true, true, true, true, false]), (84, [true, true, true, true, true, true]), (137, [true, true, true, false, true, true])] 76 hd h

set_option maxRecDepth 100000 in
set_option maxHeartbeats 4000000 in
theorem s1_Terriers_pair_84 {d : Nat} (hd : 3 < d) {M : AM} {Q : Option AV → AM → Prop} {x1 x2 x3 x4 x5 : Int}
    (h : (x3 ≤ x5 → aE s1_G d 95 76 [] [some (aP 9), some (aI x1), some (aI x2), some (aI x3), some (aI (a_add x4 (-1))), none] [] M Q) ∧ (x5 < x3 → aKi s1_G d 151 [aI x5] M (fun z2 M1 => (x4 < z2 → aE s1_G d 95 84 [] [some (aP 9), some (aI x1), some (aI x2), some (aI x3), some (aI x4), some (aI (a_add x5 1))] [] M1 Q) ∧ (z2 ≤ x4 → (0 ≤ x4 ∧ x4 < 9) ∧ (aKi s1_G d 96 [aP 9, aI x1, aI x4, aI x5] M1 (fun z4 M3 => (0 ≤ x5 ∧ x5 < 256) ∧ (aE s1_G d 95 84 [] [some (aP 9), some (aI x1), some (aI x2), some (aI x3), some (aI x4), some (aI (a_add x5 1))] [] (am_up M3 63 (x4 * 256 + x5) z4) Q))))))) :
    aE s1_G d 95 84 [] [some (aP 9), some (aI x1), some (aI x2), some (aI x3), some (aI x4), some (aI x5)] [] M Q := aE_go s1_pu_ok [(39, [true, true, true, true, true, false]), (76, [true, true, true, true, true, false]), (84, [true, true, true, true, true, true]), (137, [true, true, true, false, true, true])] 108 hd h

set_option maxRecDepth 100000 in
set_option maxHeartbeats 4000000 in
theorem s1_Terriers_pair_137 {d : Nat} (hd : 3 < d) {M : AM} {Q : Option AV → AM → Prop} {x1 x2 x4 x5 : Int}
    (h : (x2 ≤ x5 → Q none M) ∧ (x5 < x2 → aKi s1_G d 97 [aP 9, aI x1, aI x5, aI x4] M (fun z2 M1 => (0 ≤ x5 ∧ x5 < 8) ∧ ((0 ≤ x5 ∧ x5 < 8) ∧ ((((am_up M1 64 x5 z2) 64 x5) ≠ ((-1) : Int) → (0 ≤ x5 ∧ x5 < 8) ∧ (aE s1_G d 95 137 [] [some (aP 9), some (aI x1), some (aI x2), none, some (aI (a_or x4 (a_shl 1 ((am_up M1 64 x5 z2) 64 x5)))), some (aI (a_add x5 1))] [] (am_up M1 64 x5 z2) Q)) ∧ (((am_up M1 64 x5 z2) 64 x5) = ((-1) : Int) → aE s1_G d 95 137 [] [some (aP 9), some (aI x1), some (aI x2), none, some (aI (a_or x4 0)), some (aI (a_add x5 1))] [] (am_up M1 64 x5 z2) Q)))))) :
    aE s1_G d 95 137 [] [some (aP 9), some (aI x1), some (aI x2), none, some (aI x4), some (aI x5)] [] M Q := aE_go s1_pu_ok [(39, [true, true, true, true, true, false]), (76, [true, true, true, true, true, false]), (84, [true, true, true, true, true, true]), (137, [true, true, true, false, true, true])] 132 hd h

-- 96: DioceseBook$Terriers.leastFrom(III)I
set_option maxRecDepth 100000 in
set_option maxHeartbeats 4000000 in
theorem s1_Terriers_leastFrom_0 {d : Nat} (hd : 3 < d) {M : AM} {Q : Option AV → AM → Prop} {x1 x2 x3 : Int}
    (h : aKi s1_G d 99 [aP 9, aI (a_mul 2 x1), aI x2] M (fun z2 M1 => (0 ≤ (a_add x2 1) ∧ (a_add x2 1) < 9) ∧ ((0 ≤ x3 ∧ x3 < 256) ∧ (aE s1_G d 96 24 [] [some (aP 9), some (aI x1), some (aI x2), some (aI x3), some (aI (a_add z2 (M1 63 ((a_add x2 1) * 256 + x3)))), some (aI 0)] [] M1 Q)))) :
    aE s1_G d 96 0 [] [some (aP 9), some (aI x1), some (aI x2), some (aI x3), none, none] [] M Q := aE_go s1_pu_ok [(24, [true, true, true, true, true, true])] 96 hd h

set_option maxRecDepth 100000 in
set_option maxHeartbeats 4000000 in
theorem s1_Terriers_leastFrom_24 {d : Nat} (hd : 3 < d) {M : AM} {Q : Option AV → AM → Prop} {x1 x2 x3 x4 x5 : Int}
    (h : (0 ≤ (a_add (a_mul 2 x1) 1) ∧ (a_add (a_mul 2 x1) 1) < 24) ∧ (((M 59 (a_add (a_mul 2 x1) 1)) ≤ x5 → Q (some (aI x4)) M) ∧ (x5 < (M 59 (a_add (a_mul 2 x1) 1)) → ((a_and (a_shr x3 x5) 1) ≠ (0 : Int) → aE s1_G d 96 24 [] [some (aP 9), some (aI x1), some (aI x2), some (aI x3), some (aI x4), some (aI (a_add x5 1))] [] M Q) ∧ ((a_and (a_shr x3 x5) 1) = (0 : Int) → aKi s1_G d 98 [aP 9, aI x1, aI x2, aI x5] M (fun z2 M1 => (0 ≤ (a_add x2 1) ∧ (a_add x2 1) < 9) ∧ ((0 ≤ (a_or x3 (a_shl 1 x5)) ∧ (a_or x3 (a_shl 1 x5)) < 256) ∧ (aE s1_G d 96 24 [] [some (aP 9), some (aI x1), some (aI x2), some (aI x3), some (aI (if x4 ≤ (a_add z2 (M1 63 ((a_add x2 1) * 256 + (a_or x3 (a_shl 1 x5))))) then x4 else a_add z2 (M1 63 ((a_add x2 1) * 256 + (a_or x3 (a_shl 1 x5)))))), some (aI (a_add x5 1))] [] M1 Q))))))) :
    aE s1_G d 96 24 [] [some (aP 9), some (aI x1), some (aI x2), some (aI x3), some (aI x4), some (aI x5)] [] M Q := aE_go s1_pu_ok [(24, [true, true, true, true, true, true])] 146 hd h

-- 97: DioceseBook$Terriers.firstPartner(III)I
set_option maxRecDepth 100000 in
set_option maxHeartbeats 4000000 in
theorem s1_Terriers_firstPartner_0 {d : Nat} (hd : 3 < d) {M : AM} {Q : Option AV → AM → Prop} {x1 x2 x3 : Int}
    (h : aE s1_G d 97 3 [] [some (aP 9), some (aI x1), some (aI x2), some (aI x3), some (aI 0)] [] M Q) :
    aE s1_G d 97 0 [] [some (aP 9), some (aI x1), some (aI x2), some (aI x3), none] [] M Q := aE_go s1_pu_ok [(3, [true, true, true, true, true])] 64 hd h

set_option maxRecDepth 100000 in
set_option maxHeartbeats 4000000 in
theorem s1_Terriers_firstPartner_3 {d : Nat} (hd : 3 < d) {M : AM} {Q : Option AV → AM → Prop} {x1 x2 x3 x4 : Int}
    (h : (0 ≤ (a_add (a_mul 2 x1) 1) ∧ (a_add (a_mul 2 x1) 1) < 24) ∧ (((M 59 (a_add (a_mul 2 x1) 1)) ≤ x4 → Q (some (aI (-1))) M) ∧ (x4 < (M 59 (a_add (a_mul 2 x1) 1)) → ((a_and (a_shr x3 x4) 1) ≠ (0 : Int) → aE s1_G d 97 3 [] [some (aP 9), some (aI x1), some (aI x2), some (aI x3), some (aI (a_add x4 1))] [] M Q) ∧ ((a_and (a_shr x3 x4) 1) = (0 : Int) → aKi s1_G d 98 [aP 9, aI x1, aI x2, aI x4] M (fun z2 M1 => (0 ≤ (a_add x2 1) ∧ (a_add x2 1) < 9) ∧ ((0 ≤ (a_or x3 (a_shl 1 x4)) ∧ (a_or x3 (a_shl 1 x4)) < 256) ∧ ((0 ≤ x2 ∧ x2 < 9) ∧ ((0 ≤ x3 ∧ x3 < 256) ∧ (((a_add z2 (M1 63 ((a_add x2 1) * 256 + (a_or x3 (a_shl 1 x4))))) ≠ (M1 63 (x2 * 256 + x3)) → aE s1_G d 97 3 [] [some (aP 9), some (aI x1), some (aI x2), some (aI x3), some (aI (a_add x4 1))] [] M1 Q) ∧ ((a_add z2 (M1 63 ((a_add x2 1) * 256 + (a_or x3 (a_shl 1 x4))))) = (M1 63 (x2 * 256 + x3)) → Q (some (aI x4)) M1)))))))))) :
    aE s1_G d 97 3 [] [some (aP 9), some (aI x1), some (aI x2), some (aI x3), some (aI x4)] [] M Q := aE_go s1_pu_ok [(3, [true, true, true, true, true])] 158 hd h

-- 98: DioceseBook$Terriers.pairCost(III)I
set_option maxRecDepth 100000 in
set_option maxHeartbeats 4000000 in
theorem s1_Terriers_pairCost_0 {d : Nat} (hd : 3 < d) {M : AM} {Q : Option AV → AM → Prop} {x1 x2 x3 : Int}
    (h : (0 ≤ (a_mul 2 x1) ∧ (a_mul 2 x1) < 24) ∧ ((0 ≤ x2 ∧ x2 < 8) ∧ ((0 ≤ (a_add (a_mul 2 x1) 1) ∧ (a_add (a_mul 2 x1) 1) < 24) ∧ ((0 ≤ x3 ∧ x3 < 8) ∧ ((0 ≤ (a_mul 2 x1) ∧ (a_mul 2 x1) < 24) ∧ ((0 ≤ x2 ∧ x2 < 8) ∧ ((0 ≤ (a_add (a_mul 2 x1) 1) ∧ (a_add (a_mul 2 x1) 1) < 24) ∧ ((0 ≤ x3 ∧ x3 < 8) ∧ (((M 60 ((a_mul 2 x1) * 8 + x2)) ≠ (M 60 ((a_add (a_mul 2 x1) 1) * 8 + x3)) → (0 ≤ (a_mul 2 x1) ∧ (a_mul 2 x1) < 24) ∧ ((0 ≤ x2 ∧ x2 < 8) ∧ ((0 ≤ (a_add (a_mul 2 x1) 1) ∧ (a_add (a_mul 2 x1) 1) < 24) ∧ ((0 ≤ x3 ∧ x3 < 8) ∧ (((M 62 ((a_mul 2 x1) * 8 + x2)) ≠ (M 62 ((a_add (a_mul 2 x1) 1) * 8 + x3)) → Q (some (aI (a_add (a_add (if (a_sub (M 61 ((a_mul 2 x1) * 8 + x2)) (M 61 ((a_add (a_mul 2 x1) 1) * 8 + x3))) < 0 then a_neg (a_sub (M 61 ((a_mul 2 x1) * 8 + x2)) (M 61 ((a_add (a_mul 2 x1) 1) * 8 + x3))) else a_sub (M 61 ((a_mul 2 x1) * 8 + x2)) (M 61 ((a_add (a_mul 2 x1) 1) * 8 + x3))) 7) 3))) M) ∧ ((M 62 ((a_mul 2 x1) * 8 + x2)) = (M 62 ((a_add (a_mul 2 x1) 1) * 8 + x3)) → Q (some (aI (a_add (a_add (if (a_sub (M 61 ((a_mul 2 x1) * 8 + x2)) (M 61 ((a_add (a_mul 2 x1) 1) * 8 + x3))) < 0 then a_neg (a_sub (M 61 ((a_mul 2 x1) * 8 + x2)) (M 61 ((a_add (a_mul 2 x1) 1) * 8 + x3))) else a_sub (M 61 ((a_mul 2 x1) * 8 + x2)) (M 61 ((a_add (a_mul 2 x1) 1) * 8 + x3))) 7) 0))) M)))))) ∧ ((M 60 ((a_mul 2 x1) * 8 + x2)) = (M 60 ((a_add (a_mul 2 x1) 1) * 8 + x3)) → (0 ≤ (a_mul 2 x1) ∧ (a_mul 2 x1) < 24) ∧ ((0 ≤ x2 ∧ x2 < 8) ∧ ((0 ≤ (a_add (a_mul 2 x1) 1) ∧ (a_add (a_mul 2 x1) 1) < 24) ∧ ((0 ≤ x3 ∧ x3 < 8) ∧ (((M 62 ((a_mul 2 x1) * 8 + x2)) ≠ (M 62 ((a_add (a_mul 2 x1) 1) * 8 + x3)) → Q (some (aI (a_add (a_add (if (a_sub (M 61 ((a_mul 2 x1) * 8 + x2)) (M 61 ((a_add (a_mul 2 x1) 1) * 8 + x3))) < 0 then a_neg (a_sub (M 61 ((a_mul 2 x1) * 8 + x2)) (M 61 ((a_add (a_mul 2 x1) 1) * 8 + x3))) else a_sub (M 61 ((a_mul 2 x1) * 8 + x2)) (M 61 ((a_add (a_mul 2 x1) 1) * 8 + x3))) 0) 3))) M) ∧ ((M 62 ((a_mul 2 x1) * 8 + x2)) = (M 62 ((a_add (a_mul 2 x1) 1) * 8 + x3)) → Q (some (aI (a_add (a_add (if (a_sub (M 61 ((a_mul 2 x1) * 8 + x2)) (M 61 ((a_add (a_mul 2 x1) 1) * 8 + x3))) < 0 then a_neg (a_sub (M 61 ((a_mul 2 x1) * 8 + x2)) (M 61 ((a_add (a_mul 2 x1) 1) * 8 + x3))) else a_sub (M 61 ((a_mul 2 x1) * 8 + x2)) (M 61 ((a_add (a_mul 2 x1) 1) * 8 + x3))) 0) 0))) M))))))))))))))) :
    aE s1_G d 98 0 [] [some (aP 9), some (aI x1), some (aI x2), some (aI x3), none, none] [] M Q := aE_go s1_pu_ok [] 220 hd h

-- 99: DioceseBook$Terriers.aloneCost(II)I
set_option maxRecDepth 100000 in
set_option maxHeartbeats 4000000 in
theorem s1_Terriers_aloneCost_0 {d : Nat} (hd : 3 < d) {M : AM} {Q : Option AV → AM → Prop} {x1 x2 : Int}
    (h : (0 ≤ x1 ∧ x1 < 24) ∧ ((0 ≤ x2 ∧ x2 < 8) ∧ ((10 : Int) ≠ 0 ∧ (Q (some (aI (a_add 10 (a_div (M 61 (x1 * 8 + x2)) 10)))) M)))) :
    aE s1_G d 99 0 [] [some (aP 9), some (aI x1), some (aI x2)] [] M Q := aE_go s1_pu_ok [] 82 hd h

-- 100: DioceseBook$Terriers.aloneBehind(II)I
set_option maxRecDepth 100000 in
set_option maxHeartbeats 4000000 in
theorem s1_Terriers_aloneBehind_0 {d : Nat} (hd : 3 < d) {M : AM} {Q : Option AV → AM → Prop} {x1 x2 : Int}
    (h : aE s1_G d 100 5 [] [some (aP 9), some (aI x1), some (aI x2), some (aI 0), some (aI 0)] [] M Q) :
    aE s1_G d 100 0 [] [some (aP 9), some (aI x1), some (aI x2), none, none] [] M Q := aE_go s1_pu_ok [(5, [true, true, true, true, true])] 68 hd h

set_option maxRecDepth 100000 in
set_option maxHeartbeats 4000000 in
theorem s1_Terriers_aloneBehind_5 {d : Nat} (hd : 3 < d) {M : AM} {Q : Option AV → AM → Prop} {x1 x2 x3 x4 : Int}
    (h : (0 ≤ x1 ∧ x1 < 24) ∧ (((M 59 x1) ≤ x4 → Q (some (aI x3)) M) ∧ (x4 < (M 59 x1) → ((a_and (a_shr x2 x4) 1) ≠ (0 : Int) → aE s1_G d 100 5 [] [some (aP 9), some (aI x1), some (aI x2), some (aI (a_add x3 0)), some (aI (a_add x4 1))] [] M Q) ∧ ((a_and (a_shr x2 x4) 1) = (0 : Int) → aKi s1_G d 99 [aP 9, aI x1, aI x4] M (fun z2 M1 => aE s1_G d 100 5 [] [some (aP 9), some (aI x1), some (aI x2), some (aI (a_add x3 z2)), some (aI (a_add x4 1))] [] M1 Q))))) :
    aE s1_G d 100 5 [] [some (aP 9), some (aI x1), some (aI x2), some (aI x3), some (aI x4)] [] M Q := aE_go s1_pu_ok [(5, [true, true, true, true, true])] 118 hd h

-- 101: DioceseBook$Visitation.prepare(II)Z
set_option maxRecDepth 100000 in
set_option maxHeartbeats 4000000 in
theorem s1_Visitation_prepare_0 {d : Nat} (hd : 3 < d) {M : AM} {Q : Option AV → AM → Prop} {x1 x2 : Int}
    (h : ((M 11 7) = x1 → aE s1_G d 101 86 [] [some (aP 11), none, some (aI x2), some (aI 0)] [] M Q) ∧ ((M 11 7) ≠ x1 → aE s1_G d 101 25 [] [some (aP 11), some (aI x1), some (aI x2), some (aI 0)] [] (am_up (am_up (am_up M 11 7 x1) 11 8 0) 11 2 0) Q)) :
    aE s1_G d 101 0 [] [some (aP 11), some (aI x1), some (aI x2), none] [] M Q := aE_go s1_pu_ok [(25, [true, true, true, true]), (86, [true, false, true, true])] 94 hd h

set_option maxRecDepth 100000 in
set_option maxHeartbeats 4000000 in
theorem s1_Visitation_prepare_25 {d : Nat} (hd : 3 < d) {M : AM} {Q : Option AV → AM → Prop} {x1 x2 x3 : Int}
    (h : ((M 1 5) ≤ x3 → aKv s1_G d 102 [aP 11] M (fun M1 => aE s1_G d 101 86 [] [some (aP 11), none, some (aI x2), some (aI 0)] [] M1 Q)) ∧ (x3 < (M 1 5) → ((8 : Int) ≤ (M 11 2) → aKv s1_G d 102 [aP 11] M (fun M2 => aE s1_G d 101 86 [] [some (aP 11), none, some (aI x2), some (aI 0)] [] M2 Q)) ∧ ((M 11 2) < (8 : Int) → ((a_and (a_shr x1 x3) 1) ≠ (1 : Int) → aE s1_G d 101 25 [] [some (aP 11), some (aI x1), some (aI x2), some (aI (a_add x3 1))] [] M Q) ∧ ((a_and (a_shr x1 x3) 1) = (1 : Int) → (0 ≤ (M 11 2) ∧ (M 11 2) < 8) ∧ (aE s1_G d 101 25 [] [some (aP 11), some (aI x1), some (aI x2), some (aI (a_add x3 1))] [] (am_up (am_up M 73 (M 11 2) x3) 11 2 (a_add ((am_up M 73 (M 11 2) x3) 11 2) 1)) Q))))) :
    aE s1_G d 101 25 [] [some (aP 11), some (aI x1), some (aI x2), some (aI x3)] [] M Q := aE_go s1_pu_ok [(25, [true, true, true, true]), (86, [true, false, true, true])] 140 hd h

set_option maxRecDepth 100000 in
set_option maxHeartbeats 4000000 in
theorem s1_Visitation_prepare_86 {d : Nat} (hd : 3 < d) {M : AM} {Q : Option AV → AM → Prop} {x2 x3 : Int}
    (h : ((M 11 2) ≤ x3 → ((M 11 8) = x2 → ((1 : Int) = 0 ∨ (1 : Int) = 1) ∧ Q (some (aI 1)) M) ∧ ((M 11 8) ≠ x2 → aKv s1_G d 104 [aP 11, aI x2] (am_up M 11 8 x2) (fun M1 => ((1 : Int) = 0 ∨ (1 : Int) = 1) ∧ Q (some (aI 1)) M1))) ∧ (x3 < (M 11 2) → (0 ≤ (a_shl 1 x3) ∧ (a_shl 1 x3) < 256) ∧ (((M 75 (a_shl 1 x3)) ≤ x2 → aE s1_G d 101 86 [] [some (aP 11), none, some (aI x2), some (aI (a_add x3 1))] [] M Q) ∧ (x2 < (M 75 (a_shl 1 x3)) → ((0 : Int) = 0 ∨ (0 : Int) = 1) ∧ Q (some (aI 0)) M)))) :
    aE s1_G d 101 86 [] [some (aP 11), none, some (aI x2), some (aI x3)] [] M Q := aE_go s1_pu_ok [(25, [true, true, true, true]), (86, [true, false, true, true])] 120 hd h

-- 102: DioceseBook$Visitation.measure()V
set_option maxRecDepth 100000 in
set_option maxHeartbeats 4000000 in
theorem s1_Visitation_measure_0 {d : Nat} (hd : 3 < d) {M : AM} {Q : Option AV → AM → Prop}
    (h : aE s1_G d 102 2 [] [some (aP 11), some (aI 1), none] [] M Q) :
    aE s1_G d 102 0 [] [some (aP 11), none, none] [] M Q := aE_go s1_pu_ok [(2, [true, true, false]), (22, [true, true, true])] 64 hd h

set_option maxRecDepth 100000 in
set_option maxHeartbeats 4000000 in
theorem s1_Visitation_measure_2 {d : Nat} (hd : 3 < d) {M : AM} {Q : Option AV → AM → Prop} {x1 : Int}
    (h : ((a_shl 1 (M 11 2)) ≤ x1 → Q none M) ∧ (x1 < (a_shl 1 (M 11 2)) → (0 ≤ x1 ∧ x1 < 256) ∧ (aE s1_G d 102 22 [] [some (aP 11), some (aI x1), some (aI 0)] [] (am_up M 75 x1 1000000) Q))) :
    aE s1_G d 102 2 [] [some (aP 11), some (aI x1), none] [] M Q := aE_go s1_pu_ok [(2, [true, true, false]), (22, [true, true, true])] 88 hd h

set_option maxRecDepth 100000 in
set_option maxHeartbeats 4000000 in
theorem s1_Visitation_measure_22 {d : Nat} (hd : 3 < d) {M : AM} {Q : Option AV → AM → Prop} {x1 x2 : Int}
    (h : ((M 11 2) ≤ x2 → aE s1_G d 102 2 [] [some (aP 11), some (aI (a_add x1 1)), none] [] M Q) ∧ (x2 < (M 11 2) → ((a_and (a_shr x1 x2) 1) ≠ (1 : Int) → aE s1_G d 102 22 [] [some (aP 11), some (aI x1), some (aI (a_add x2 1))] [] M Q) ∧ ((a_and (a_shr x1 x2) 1) = (1 : Int) → (0 ≤ x2 ∧ x2 < 8) ∧ (aKi s1_G d 103 [aP 11, aI (a_xor x1 (a_shl 1 x2)), aI x2] M (fun z2 M1 => (0 ≤ x1 ∧ x1 < 256) ∧ ((0 ≤ x1 ∧ x1 < 256) ∧ ((0 ≤ x2 ∧ x2 < 8) ∧ ((0 ≤ x1 ∧ x1 < 256) ∧ ((0 ≤ x2 ∧ x2 < 8) ∧ (aKi s1_G d 58 [aP 1, aI ((am_up M1 74 (x2 * 256 + x1) z2) 73 x2)] (am_up M1 74 (x2 * 256 + x1) z2) (fun z4 M3 => (0 ≤ x1 ∧ x1 < 256) ∧ (aE s1_G d 102 22 [] [some (aP 11), some (aI x1), some (aI (a_add x2 1))] [] (am_up M3 75 x1 (if ((am_up M1 74 (x2 * 256 + x1) z2) 75 x1) ≤ (a_add ((am_up M1 74 (x2 * 256 + x1) z2) 74 (x2 * 256 + x1)) z4) then (am_up M1 74 (x2 * 256 + x1) z2) 75 x1 else a_add ((am_up M1 74 (x2 * 256 + x1) z2) 74 (x2 * 256 + x1)) z4)) Q)))))))))))) :
    aE s1_G d 102 22 [] [some (aP 11), some (aI x1), some (aI x2)] [] M Q := aE_go s1_pu_ok [(2, [true, true, false]), (22, [true, true, true])] 168 hd h

-- 103: DioceseBook$Visitation.wayTo(II)I
set_option maxRecDepth 100000 in
set_option maxHeartbeats 4000000 in
theorem s1_Visitation_wayTo_0 {d : Nat} (hd : 3 < d) {M : AM} {Q : Option AV → AM → Prop} {x1 x2 : Int}
    (h : (x1 ≠ (0 : Int) → aE s1_G d 103 24 [] [some (aP 11), some (aI x1), some (aI x2), some (aI 1000000), some (aI 0)] [] M Q) ∧ (x1 = (0 : Int) → (0 ≤ x2 ∧ x2 < 8) ∧ (aKi s1_G d 58 [aP 1, aI (M 73 x2)] M (fun z2 M1 => Q (some (aI z2)) M1)))) :
    aE s1_G d 103 0 [] [some (aP 11), some (aI x1), some (aI x2), none, none] [] M Q := aE_go s1_pu_ok [(24, [true, true, true, true, true])] 88 hd h

set_option maxRecDepth 100000 in
set_option maxHeartbeats 4000000 in
theorem s1_Visitation_wayTo_24 {d : Nat} (hd : 3 < d) {M : AM} {Q : Option AV → AM → Prop} {x1 x2 x3 x4 : Int}
    (h : ((M 11 2) ≤ x4 → Q (some (aI x3)) M) ∧ (x4 < (M 11 2) → ((a_and (a_shr x1 x4) 1) ≠ (1 : Int) → aE s1_G d 103 24 [] [some (aP 11), some (aI x1), some (aI x2), some (aI x3), some (aI (a_add x4 1))] [] M Q) ∧ ((a_and (a_shr x1 x4) 1) = (1 : Int) → (0 ≤ x4 ∧ x4 < 8) ∧ ((0 ≤ x1 ∧ x1 < 256) ∧ ((0 ≤ x4 ∧ x4 < 8) ∧ ((0 ≤ x2 ∧ x2 < 8) ∧ (aKi s1_G d 57 [aP 1, aI (M 73 x4), aI (M 73 x2)] M (fun z2 M1 => aE s1_G d 103 24 [] [some (aP 11), some (aI x1), some (aI x2), some (aI (if x3 ≤ (a_add (M 74 (x4 * 256 + x1)) z2) then x3 else a_add (M 74 (x4 * 256 + x1)) z2)), some (aI (a_add x4 1))] [] M1 Q)))))))) :
    aE s1_G d 103 24 [] [some (aP 11), some (aI x1), some (aI x2), some (aI x3), some (aI x4)] [] M Q := aE_go s1_pu_ok [(24, [true, true, true, true, true])] 136 hd h

-- 104: DioceseBook$Visitation.choose(I)V
set_option maxRecDepth 100000 in
set_option maxHeartbeats 4000000 in
theorem s1_Visitation_choose_0 {d : Nat} (hd : 3 < d) {M : AM} {Q : Option AV → AM → Prop} {x1 : Int}
    (h : (0 ≤ (0 : Int) ∧ (0 : Int) < 256) ∧ (aE s1_G d 104 18 [] [some (aP 11), some (aI x1), some (aI (a_sub (a_shl 1 (M 11 2)) 1)), some (aI 1), none] [] (am_up M 76 (0 : Int) 0) Q)) :
    aE s1_G d 104 0 [] [some (aP 11), some (aI x1), none, none, none] [] M Q := aE_go s1_pu_ok [(18, [true, true, true, true, false]), (34, [true, true, true, true, true]), (136, [true, true, false, true, true])] 88 hd h

set_option maxRecDepth 100000 in
set_option maxHeartbeats 4000000 in
theorem s1_Visitation_choose_18 {d : Nat} (hd : 3 < d) {M : AM} {Q : Option AV → AM → Prop} {x1 x2 x3 : Int}
    (h : (x2 < x3 → (0 ≤ x2 ∧ x2 < 256) ∧ ((10000 : Int) ≠ 0 ∧ ((0 ≤ x2 ∧ x2 < 256) ∧ ((10000 : Int) ≠ 0 ∧ (aE s1_G d 104 136 [] [some (aP 11), some (aI x1), none, some (aI x2), some (aI 0)] [] (am_up (am_up M 11 9 (a_div (M 76 x2) 10000)) 11 10 (a_rem ((am_up M 11 9 (a_div (M 76 x2) 10000)) 76 x2) 10000)) Q))))) ∧ (x3 ≤ x2 → (0 ≤ x3 ∧ x3 < 256) ∧ (aE s1_G d 104 34 [] [some (aP 11), some (aI x1), some (aI x2), some (aI x3), some (aI x3)] [] (am_up M 76 x3 1000000) Q))) :
    aE s1_G d 104 18 [] [some (aP 11), some (aI x1), some (aI x2), some (aI x3), none] [] M Q := aE_go s1_pu_ok [(18, [true, true, true, true, false]), (34, [true, true, true, true, true]), (136, [true, true, false, true, true])] 120 hd h

set_option maxRecDepth 100000 in
set_option maxHeartbeats 4000000 in
theorem s1_Visitation_choose_34 {d : Nat} (hd : 3 < d) {M : AM} {Q : Option AV → AM → Prop} {x1 x2 x3 x4 : Int}
    (h : (x4 ≤ (0 : Int) → aE s1_G d 104 18 [] [some (aP 11), some (aI x1), some (aI x2), some (aI (a_add x3 1)), none] [] M Q) ∧ ((0 : Int) < x4 → (0 ≤ x4 ∧ x4 < 256) ∧ ((x1 < (M 75 x4) → aE s1_G d 104 34 [] [some (aP 11), some (aI x1), some (aI x2), some (aI x3), some (aI (a_and (a_sub x4 1) x3))] [] M Q) ∧ ((M 75 x4) ≤ x1 → (0 ≤ x3 ∧ x3 < 256) ∧ ((0 ≤ x4 ∧ x4 < 256) ∧ ((0 ≤ (a_xor x3 x4) ∧ (a_xor x3 x4) < 256) ∧ ((0 ≤ x3 ∧ x3 < 256) ∧ (aE s1_G d 104 34 [] [some (aP 11), some (aI x1), some (aI x2), some (aI x3), some (aI (a_and (a_sub x4 1) x3))] [] (am_up M 76 x3 (if (M 76 x3) ≤ (a_add (a_add 10000 (M 75 x4)) (M 76 (a_xor x3 x4))) then M 76 x3 else a_add (a_add 10000 (M 75 x4)) (M 76 (a_xor x3 x4)))) Q)))))))) :
    aE s1_G d 104 34 [] [some (aP 11), some (aI x1), some (aI x2), some (aI x3), some (aI x4)] [] M Q := aE_go s1_pu_ok [(18, [true, true, true, true, false]), (34, [true, true, true, true, true]), (136, [true, true, false, true, true])] 152 hd h

set_option maxRecDepth 100000 in
set_option maxHeartbeats 4000000 in
theorem s1_Visitation_choose_136 {d : Nat} (hd : 3 < d) {M : AM} {Q : Option AV → AM → Prop} {x1 x3 x4 : Int}
    (h : ((8 : Int) ≤ x4 → Q none M) ∧ (x4 < (8 : Int) → aKi s1_G d 105 [aP 11, aI x3, aI x1] M (fun z2 M1 => (0 ≤ x4 ∧ x4 < 8) ∧ ((0 ≤ x4 ∧ x4 < 8) ∧ (aE s1_G d 104 136 [] [some (aP 11), some (aI x1), none, some (aI (a_xor x3 ((am_up M1 77 x4 z2) 77 x4))), some (aI (a_add x4 1))] [] (am_up M1 77 x4 z2) Q))))) :
    aE s1_G d 104 136 [] [some (aP 11), some (aI x1), none, some (aI x3), some (aI x4)] [] M Q := aE_go s1_pu_ok [(18, [true, true, true, true, false]), (34, [true, true, true, true, true]), (136, [true, true, false, true, true])] 102 hd h

-- 105: DioceseBook$Visitation.leastFirst(II)I
set_option maxRecDepth 100000 in
set_option maxHeartbeats 4000000 in
theorem s1_Visitation_leastFirst_0 {d : Nat} (hd : 3 < d) {M : AM} {Q : Option AV → AM → Prop} {x1 x2 : Int}
    (h : aE s1_G d 105 2 [] [some (aP 11), some (aI x1), some (aI x2), some (aI 1)] [] M Q) :
    aE s1_G d 105 0 [] [some (aP 11), some (aI x1), some (aI x2), none] [] M Q := aE_go s1_pu_ok [(2, [true, true, true, true])] 64 hd h

set_option maxRecDepth 100000 in
set_option maxHeartbeats 4000000 in
theorem s1_Visitation_leastFirst_2 {d : Nat} (hd : 3 < d) {M : AM} {Q : Option AV → AM → Prop} {x1 x2 x3 : Int}
    (h : (x1 < x3 → Q (some (aI 0)) M) ∧ (x3 ≤ x1 → ((a_and x3 x1) ≠ x3 → aE s1_G d 105 2 [] [some (aP 11), some (aI x1), some (aI x2), some (aI (a_add x3 1))] [] M Q) ∧ ((a_and x3 x1) = x3 → (0 ≤ x3 ∧ x3 < 256) ∧ ((x2 < (M 75 x3) → aE s1_G d 105 2 [] [some (aP 11), some (aI x1), some (aI x2), some (aI (a_add x3 1))] [] M Q) ∧ ((M 75 x3) ≤ x2 → (0 ≤ x3 ∧ x3 < 256) ∧ ((0 ≤ (a_xor x1 x3) ∧ (a_xor x1 x3) < 256) ∧ ((0 ≤ x1 ∧ x1 < 256) ∧ (((a_add (a_add 10000 (M 75 x3)) (M 76 (a_xor x1 x3))) ≠ (M 76 x1) → aE s1_G d 105 2 [] [some (aP 11), some (aI x1), some (aI x2), some (aI (a_add x3 1))] [] M Q) ∧ ((a_add (a_add 10000 (M 75 x3)) (M 76 (a_xor x1 x3))) = (M 76 x1) → Q (some (aI x3)) M))))))))) :
    aE s1_G d 105 2 [] [some (aP 11), some (aI x1), some (aI x2), some (aI x3)] [] M Q := aE_go s1_pu_ok [(2, [true, true, true, true])] 144 hd h

-- 106: DioceseBook$Visitation.setOf(I)I
set_option maxRecDepth 100000 in
set_option maxHeartbeats 4000000 in
theorem s1_Visitation_setOf_0 {d : Nat} (hd : 3 < d) {M : AM} {Q : Option AV → AM → Prop} {x1 : Int}
    (h : aE s1_G d 106 4 [] [some (aP 11), some (aI x1), some (aI 0), some (aI 0)] [] M Q) :
    aE s1_G d 106 0 [] [some (aP 11), some (aI x1), none, none] [] M Q := aE_go s1_pu_ok [(4, [true, true, true, true])] 68 hd h

set_option maxRecDepth 100000 in
set_option maxHeartbeats 4000000 in
theorem s1_Visitation_setOf_4 {d : Nat} (hd : 3 < d) {M : AM} {Q : Option AV → AM → Prop} {x1 x2 x3 : Int}
    (h : ((M 11 2) ≤ x3 → Q (some (aI x2)) M) ∧ (x3 < (M 11 2) → ((8 : Int) ≤ x1 → Q (some (aI x2)) M) ∧ (x1 < (8 : Int) → (0 ≤ x1 ∧ x1 < 8) ∧ ((0 ≤ x3 ∧ x3 < 8) ∧ (aE s1_G d 106 4 [] [some (aP 11), some (aI x1), some (aI (a_or x2 (a_shl (a_and (a_shr (M 77 x1) x3) 1) (M 73 x3)))), some (aI (a_add x3 1))] [] M Q))))) :
    aE s1_G d 106 4 [] [some (aP 11), some (aI x1), some (aI x2), some (aI x3)] [] M Q := aE_go s1_pu_ok [(4, [true, true, true, true])] 118 hd h

-- 107: DioceseBook.go(I)I
set_option maxRecDepth 100000 in
set_option maxHeartbeats 4000000 in
theorem s1_go_0 {d : Nat} (hd : 3 < d) {M : AM} {Q : Option AV → AM → Prop} {x1 : Int}
    (h : ((a_bl (0 ≤ x1 ∧ x1 ≤ 9999)) ≠ (0 : Int) → ((a_add (M 0 10) x1) ≤ (30000 : Int) → Q (some (aI ((am_up M 0 10 (a_add (M 0 10) x1)) 0 10))) (am_up M 0 10 (a_add (M 0 10) x1))) ∧ ((30000 : Int) < (a_add (M 0 10) x1) → Q (some (aI (-100003))) M)) ∧ ((a_bl (0 ≤ x1 ∧ x1 ≤ 9999)) = (0 : Int) → Q (some (aI (-100002))) M)) :
    aE s1_G d 107 0 [] [some (aP 0), some (aI x1)] [] M Q := aE_go s1_pu_ok [] 108 hd h

-- 108: DioceseBook.person(I)I
set_option maxRecDepth 100000 in
set_option maxHeartbeats 4000000 in
theorem s1_person_0 {d : Nat} (hd : 3 < d) {M : AM} {Q : Option AV → AM → Prop} {x1 : Int}
    (h : ((a_bl (0 ≤ x1 ∧ x1 ≤ 9999)) ≠ (0 : Int) → aKi s1_G d 55 [aP 1, aI x1] M (fun z2 M1 => Q (some (aI z2)) M1)) ∧ ((a_bl (0 ≤ x1 ∧ x1 ≤ 9999)) = (0 : Int) → Q (some (aI (-100002))) M)) :
    aE s1_G d 108 0 [] [some (aP 0), some (aI x1)] [] M Q := aE_go s1_pu_ok [] 84 hd h

-- 109: DioceseBook.living(III)I
set_option maxRecDepth 100000 in
set_option maxHeartbeats 4000000 in
theorem s1_living_0 {d : Nat} (hd : 3 < d) {M : AM} {Q : Option AV → AM → Prop} {x1 x2 x3 : Int}
    (h : ((a_bl ((-50 ≤ x1 ∧ x1 ≤ 50) ∧ (-50 ≤ x2 ∧ x2 ≤ 50))) = (0 : Int) → Q (some (aI (-100002))) M) ∧ ((a_bl ((-50 ≤ x1 ∧ x1 ≤ 50) ∧ (-50 ≤ x2 ∧ x2 ≤ 50))) ≠ (0 : Int) → ((a_bl (0 ≤ x3 ∧ x3 ≤ 999)) ≠ (0 : Int) → aKi s1_G d 56 [aP 1, aI x1, aI x2, aI x3] M (fun z2 M1 => Q (some (aI z2)) M1)) ∧ ((a_bl (0 ≤ x3 ∧ x3 ≤ 999)) = (0 : Int) → Q (some (aI (-100002))) M))) :
    aE s1_G d 109 0 [] [some (aP 0), some (aI x1), some (aI x2), some (aI x3)] [] M Q := aE_go s1_pu_ok [] 100 hd h

-- 110: DioceseBook.set(III)I
set_option maxRecDepth 100000 in
set_option maxHeartbeats 4000000 in
theorem s1_set_0 {d : Nat} (hd : 3 < d) {M : AM} {Q : Option AV → AM → Prop} {x1 x2 x3 : Int}
    (h : (x1 ≠ (0 : Int) → (x1 ≠ (1 : Int) → (x1 ≠ (0 : Int) → (x1 ≠ (1 : Int) → Q (some (aI (-100002))) M) ∧ (x1 = (1 : Int) → ((a_bl (0 ≤ x3 ∧ x3 ≤ 9999)) = (0 : Int) → Q (some (aI (-100002))) M) ∧ ((a_bl (0 ≤ x3 ∧ x3 ≤ 9999)) ≠ (0 : Int) → (0 ≤ x2 ∧ x2 < 40) ∧ ((0 ≤ x2 ∧ x2 < 40) ∧ (Q (some (aI (M 13 x2))) (am_up M 13 x2 x3)))))) ∧ (x1 = (0 : Int) → ((a_bl (0 ≤ x3 ∧ x3 ≤ 999)) = (0 : Int) → (x1 ≠ (1 : Int) → Q (some (aI (-100002))) M) ∧ (x1 = (1 : Int) → ((a_bl (0 ≤ x3 ∧ x3 ≤ 9999)) = (0 : Int) → Q (some (aI (-100002))) M) ∧ ((a_bl (0 ≤ x3 ∧ x3 ≤ 9999)) ≠ (0 : Int) → (0 ≤ x2 ∧ x2 < 40) ∧ ((0 ≤ x2 ∧ x2 < 40) ∧ (Q (some (aI (M 13 x2))) (am_up M 13 x2 x3)))))) ∧ ((a_bl (0 ≤ x3 ∧ x3 ≤ 999)) ≠ (0 : Int) → (0 ≤ x2 ∧ x2 < 12) ∧ ((0 ≤ x2 ∧ x2 < 12) ∧ (aKv s1_G d 68 [aP 7] (am_up M 16 x2 x3) (fun M1 => Q (some (aI (M 16 x2))) M1)))))) ∧ (x1 = (1 : Int) → ((a_bl (0 ≤ x2 ∧ x2 ≤ a_sub (M 1 4) 1)) ≠ (0 : Int) → (x1 ≠ (0 : Int) → (x1 ≠ (1 : Int) → Q (some (aI (-100002))) M) ∧ (x1 = (1 : Int) → ((a_bl (0 ≤ x3 ∧ x3 ≤ 9999)) = (0 : Int) → Q (some (aI (-100002))) M) ∧ ((a_bl (0 ≤ x3 ∧ x3 ≤ 9999)) ≠ (0 : Int) → (0 ≤ x2 ∧ x2 < 40) ∧ ((0 ≤ x2 ∧ x2 < 40) ∧ (Q (some (aI (M 13 x2))) (am_up M 13 x2 x3)))))) ∧ (x1 = (0 : Int) → ((a_bl (0 ≤ x3 ∧ x3 ≤ 999)) = (0 : Int) → (x1 ≠ (1 : Int) → Q (some (aI (-100002))) M) ∧ (x1 = (1 : Int) → ((a_bl (0 ≤ x3 ∧ x3 ≤ 9999)) = (0 : Int) → Q (some (aI (-100002))) M) ∧ ((a_bl (0 ≤ x3 ∧ x3 ≤ 9999)) ≠ (0 : Int) → (0 ≤ x2 ∧ x2 < 40) ∧ ((0 ≤ x2 ∧ x2 < 40) ∧ (Q (some (aI (M 13 x2))) (am_up M 13 x2 x3)))))) ∧ ((a_bl (0 ≤ x3 ∧ x3 ≤ 999)) ≠ (0 : Int) → (0 ≤ x2 ∧ x2 < 12) ∧ ((0 ≤ x2 ∧ x2 < 12) ∧ (aKv s1_G d 68 [aP 7] (am_up M 16 x2 x3) (fun M2 => Q (some (aI (M 16 x2))) M2)))))) ∧ ((a_bl (0 ≤ x2 ∧ x2 ≤ a_sub (M 1 4) 1)) = (0 : Int) → Q (some (aI (-100001))) M))) ∧ (x1 = (0 : Int) → ((a_bl (0 ≤ x2 ∧ x2 ≤ a_sub (M 1 5) 1)) = (0 : Int) → Q (some (aI (-100001))) M) ∧ ((a_bl (0 ≤ x2 ∧ x2 ≤ a_sub (M 1 5) 1)) ≠ (0 : Int) → (x1 ≠ (1 : Int) → (x1 ≠ (0 : Int) → (x1 ≠ (1 : Int) → Q (some (aI (-100002))) M) ∧ (x1 = (1 : Int) → ((a_bl (0 ≤ x3 ∧ x3 ≤ 9999)) = (0 : Int) → Q (some (aI (-100002))) M) ∧ ((a_bl (0 ≤ x3 ∧ x3 ≤ 9999)) ≠ (0 : Int) → (0 ≤ x2 ∧ x2 < 40) ∧ ((0 ≤ x2 ∧ x2 < 40) ∧ (Q (some (aI (M 13 x2))) (am_up M 13 x2 x3)))))) ∧ (x1 = (0 : Int) → ((a_bl (0 ≤ x3 ∧ x3 ≤ 999)) = (0 : Int) → (x1 ≠ (1 : Int) → Q (some (aI (-100002))) M) ∧ (x1 = (1 : Int) → ((a_bl (0 ≤ x3 ∧ x3 ≤ 9999)) = (0 : Int) → Q (some (aI (-100002))) M) ∧ ((a_bl (0 ≤ x3 ∧ x3 ≤ 9999)) ≠ (0 : Int) → (0 ≤ x2 ∧ x2 < 40) ∧ ((0 ≤ x2 ∧ x2 < 40) ∧ (Q (some (aI (M 13 x2))) (am_up M 13 x2 x3)))))) ∧ ((a_bl (0 ≤ x3 ∧ x3 ≤ 999)) ≠ (0 : Int) → (0 ≤ x2 ∧ x2 < 12) ∧ ((0 ≤ x2 ∧ x2 < 12) ∧ (aKv s1_G d 68 [aP 7] (am_up M 16 x2 x3) (fun M3 => Q (some (aI (M 16 x2))) M3)))))) ∧ (x1 = (1 : Int) → ((a_bl (0 ≤ x2 ∧ x2 ≤ a_sub (M 1 4) 1)) ≠ (0 : Int) → (x1 ≠ (0 : Int) → (x1 ≠ (1 : Int) → Q (some (aI (-100002))) M) ∧ (x1 = (1 : Int) → ((a_bl (0 ≤ x3 ∧ x3 ≤ 9999)) = (0 : Int) → Q (some (aI (-100002))) M) ∧ ((a_bl (0 ≤ x3 ∧ x3 ≤ 9999)) ≠ (0 : Int) → (0 ≤ x2 ∧ x2 < 40) ∧ ((0 ≤ x2 ∧ x2 < 40) ∧ (Q (some (aI (M 13 x2))) (am_up M 13 x2 x3)))))) ∧ (x1 = (0 : Int) → ((a_bl (0 ≤ x3 ∧ x3 ≤ 999)) = (0 : Int) → (x1 ≠ (1 : Int) → Q (some (aI (-100002))) M) ∧ (x1 = (1 : Int) → ((a_bl (0 ≤ x3 ∧ x3 ≤ 9999)) = (0 : Int) → Q (some (aI (-100002))) M) ∧ ((a_bl (0 ≤ x3 ∧ x3 ≤ 9999)) ≠ (0 : Int) → (0 ≤ x2 ∧ x2 < 40) ∧ ((0 ≤ x2 ∧ x2 < 40) ∧ (Q (some (aI (M 13 x2))) (am_up M 13 x2 x3)))))) ∧ ((a_bl (0 ≤ x3 ∧ x3 ≤ 999)) ≠ (0 : Int) → (0 ≤ x2 ∧ x2 < 12) ∧ ((0 ≤ x2 ∧ x2 < 12) ∧ (aKv s1_G d 68 [aP 7] (am_up M 16 x2 x3) (fun M4 => Q (some (aI (M 16 x2))) M4)))))) ∧ ((a_bl (0 ≤ x2 ∧ x2 ≤ a_sub (M 1 4) 1)) = (0 : Int) → Q (some (aI (-100001))) M))))) :
    aE s1_G d 110 0 [] [some (aP 0), some (aI x1), some (aI x2), some (aI x3), none] [] M Q := aE_go s1_pu_ok [] 720 hd h

-- 111: DioceseBook.paper(IIIIII)I
set_option maxRecDepth 100000 in
set_option maxHeartbeats 4000000 in
theorem s1_paper_0 {d : Nat} (hd : 3 < d) {M : AM} {Q : Option AV → AM → Prop} {x1 x2 x3 x4 x5 x6 : Int}
    (h : ((a_bl (0 ≤ x5 ∧ x5 ≤ a_sub (M 1 4) 1)) ≠ (0 : Int) → aE s1_G d 111 26 [] [some (aP 0), some (aI x1), some (aI x2), some (aI x3), some (aI x4), some (aI x5), some (aI x6), none] [] M Q) ∧ ((a_bl (0 ≤ x5 ∧ x5 ≤ a_sub (M 1 4) 1)) = (0 : Int) → (x1 ≠ (3 : Int) → aE s1_G d 111 30 [] [some (aP 0), some (aI x1), some (aI x2), some (aI x3), some (aI x4), some (aI x5), some (aI x6), none] [] M Q) ∧ (x1 = (3 : Int) → ((a_bl ((-4) ≤ x5 ∧ x5 ≤ (-2))) = (0 : Int) → aE s1_G d 111 30 [] [some (aP 0), some (aI x1), some (aI x2), some (aI x3), some (aI x4), some (aI x5), some (aI x6), none] [] M Q) ∧ ((a_bl ((-4) ≤ x5 ∧ x5 ≤ (-2))) ≠ (0 : Int) → aE s1_G d 111 26 [] [some (aP 0), some (aI x1), some (aI x2), some (aI x3), some (aI x4), some (aI x5), some (aI x6), none] [] M Q)))) :
    aE s1_G d 111 0 [] [some (aP 0), some (aI x1), some (aI x2), some (aI x3), some (aI x4), some (aI x5), some (aI x6), none] [] M Q := aE_go s1_pu_ok [(26, [true, true, true, true, true, true, true, false]), (30, [true, true, true, true, true, true, true, false]), (31, [true, true, true, true, true, true, true, false]), (48, [true, true, true, true, true, true, true, true]), (64, [true, true, true, true, true, true, true, true]), (76, [true, true, true, true, true, true, true, false]), (91, [false, false, false, false, false, false, false, false]), (94, [true, true, true, true, true, true, true, false]), (134, [true, true, true, true, true, true, true, false]), (146, [true, true, true, true, true, true, true, false]), (153, [false, false, false, false, false, false, false, false]), (156, [true, true, true, true, true, true, true, false])] 84 hd h

set_option maxRecDepth 100000 in
set_option maxHeartbeats 4000000 in
theorem s1_paper_26 {d : Nat} (hd : 3 < d) {M : AM} {Q : Option AV → AM → Prop} {x1 x2 x3 x4 x5 x6 : Int}
    (h : aE s1_G d 111 31 [] [some (aP 0), some (aI x1), some (aI x2), some (aI x3), some (aI x4), some (aI x5), some (aI x6), none] [aI 1] M Q) :
    aE s1_G d 111 26 [] [some (aP 0), some (aI x1), some (aI x2), some (aI x3), some (aI x4), some (aI x5), some (aI x6), none] [] M Q := aE_go s1_pu_ok [(26, [true, true, true, true, true, true, true, false]), (30, [true, true, true, true, true, true, true, false]), (31, [true, true, true, true, true, true, true, false]), (48, [true, true, true, true, true, true, true, true]), (64, [true, true, true, true, true, true, true, true]), (76, [true, true, true, true, true, true, true, false]), (91, [false, false, false, false, false, false, false, false]), (94, [true, true, true, true, true, true, true, false]), (134, [true, true, true, true, true, true, true, false]), (146, [true, true, true, true, true, true, true, false]), (153, [false, false, false, false, false, false, false, false]), (156, [true, true, true, true, true, true, true, false])] 64 hd h

set_option maxRecDepth 100000 in
set_option maxHeartbeats 4000000 in
theorem s1_paper_30 {d : Nat} (hd : 3 < d) {M : AM} {Q : Option AV → AM → Prop} {x1 x2 x3 x4 x5 x6 : Int}
    (h : aE s1_G d 111 31 [] [some (aP 0), some (aI x1), some (aI x2), some (aI x3), some (aI x4), some (aI x5), some (aI x6), none] [aI 0] M Q) :
    aE s1_G d 111 30 [] [some (aP 0), some (aI x1), some (aI x2), some (aI x3), some (aI x4), some (aI x5), some (aI x6), none] [] M Q := aE_go s1_pu_ok [(26, [true, true, true, true, true, true, true, false]), (30, [true, true, true, true, true, true, true, false]), (31, [true, true, true, true, true, true, true, false]), (48, [true, true, true, true, true, true, true, true]), (64, [true, true, true, true, true, true, true, true]), (76, [true, true, true, true, true, true, true, false]), (91, [false, false, false, false, false, false, false, false]), (94, [true, true, true, true, true, true, true, false]), (134, [true, true, true, true, true, true, true, false]), (146, [true, true, true, true, true, true, true, false]), (153, [false, false, false, false, false, false, false, false]), (156, [true, true, true, true, true, true, true, false])] 62 hd h

set_option maxRecDepth 100000 in
set_option maxHeartbeats 4000000 in
theorem s1_paper_31 {d : Nat} (hd : 3 < d) {M : AM} {Q : Option AV → AM → Prop} {x1 x2 x3 x4 x5 x6 t0 : Int}
    (h : aKi s1_G d 27 [aI x1] M (fun z2 M1 => (z2 = (0 : Int) → aE s1_G d 111 48 [] [some (aP 0), some (aI x1), some (aI x2), some (aI x3), some (aI x4), some (aI x5), some (aI x6), some (aI t0)] [] M1 Q) ∧ (z2 ≠ (0 : Int) → ((a_bl (0 ≤ x3 ∧ x3 ≤ a_sub (M1 1 5) 1)) = (0 : Int) → aE s1_G d 111 91 [] [none, none, none, none, none, none, none, none] [] M1 Q) ∧ ((a_bl (0 ≤ x3 ∧ x3 ≤ a_sub (M1 1 5) 1)) ≠ (0 : Int) → aE s1_G d 111 48 [] [some (aP 0), some (aI x1), some (aI x2), some (aI x3), some (aI x4), some (aI x5), some (aI x6), some (aI t0)] [] M1 Q)))) :
    aE s1_G d 111 31 [] [some (aP 0), some (aI x1), some (aI x2), some (aI x3), some (aI x4), some (aI x5), some (aI x6), none] [aI t0] M Q := aE_go s1_pu_ok [(26, [true, true, true, true, true, true, true, false]), (30, [true, true, true, true, true, true, true, false]), (31, [true, true, true, true, true, true, true, false]), (48, [true, true, true, true, true, true, true, true]), (64, [true, true, true, true, true, true, true, true]), (76, [true, true, true, true, true, true, true, false]), (91, [false, false, false, false, false, false, false, false]), (94, [true, true, true, true, true, true, true, false]), (134, [true, true, true, true, true, true, true, false]), (146, [true, true, true, true, true, true, true, false]), (153, [false, false, false, false, false, false, false, false]), (156, [true, true, true, true, true, true, true, false])] 76 hd h

set_option maxRecDepth 100000 in
set_option maxHeartbeats 4000000 in
theorem s1_paper_48 {d : Nat} (hd : 3 < d) {M : AM} {Q : Option AV → AM → Prop} {x1 x2 x3 x4 x5 x6 x7 : Int}
    (h : aKi s1_G d 28 [aI x1] M (fun z2 M1 => (z2 = (0 : Int) → aE s1_G d 111 64 [] [some (aP 0), some (aI x1), some (aI x2), some (aI x3), some (aI x4), some (aI x5), some (aI x6), some (aI x7)] [] M1 Q) ∧ (z2 ≠ (0 : Int) → ((a_bl (0 ≤ x4 ∧ x4 ≤ a_sub (M1 1 4) 1)) = (0 : Int) → aE s1_G d 111 91 [] [none, none, none, none, none, none, none, none] [] M1 Q) ∧ ((a_bl (0 ≤ x4 ∧ x4 ≤ a_sub (M1 1 4) 1)) ≠ (0 : Int) → aE s1_G d 111 64 [] [some (aP 0), some (aI x1), some (aI x2), some (aI x3), some (aI x4), some (aI x5), some (aI x6), some (aI x7)] [] M1 Q)))) :
    aE s1_G d 111 48 [] [some (aP 0), some (aI x1), some (aI x2), some (aI x3), some (aI x4), some (aI x5), some (aI x6), some (aI x7)] [] M Q := aE_go s1_pu_ok [(26, [true, true, true, true, true, true, true, false]), (30, [true, true, true, true, true, true, true, false]), (31, [true, true, true, true, true, true, true, false]), (48, [true, true, true, true, true, true, true, true]), (64, [true, true, true, true, true, true, true, true]), (76, [true, true, true, true, true, true, true, false]), (91, [false, false, false, false, false, false, false, false]), (94, [true, true, true, true, true, true, true, false]), (134, [true, true, true, true, true, true, true, false]), (146, [true, true, true, true, true, true, true, false]), (153, [false, false, false, false, false, false, false, false]), (156, [true, true, true, true, true, true, true, false])] 74 hd h

set_option maxRecDepth 100000 in
set_option maxHeartbeats 4000000 in
theorem s1_paper_64 {d : Nat} (hd : 3 < d) {M : AM} {Q : Option AV → AM → Prop} {x1 x2 x3 x4 x5 x6 x7 : Int}
    (h : aKi s1_G d 29 [aI x1] M (fun z2 M1 => (z2 = (0 : Int) → aE s1_G d 111 76 [] [some (aP 0), some (aI x1), some (aI x2), some (aI x3), some (aI x4), some (aI x5), some (aI x6), none] [] M1 Q) ∧ (z2 ≠ (0 : Int) → (x7 = (0 : Int) → aE s1_G d 111 91 [] [none, none, none, none, none, none, none, none] [] M1 Q) ∧ (x7 ≠ (0 : Int) → aE s1_G d 111 76 [] [some (aP 0), some (aI x1), some (aI x2), some (aI x3), some (aI x4), some (aI x5), some (aI x6), none] [] M1 Q)))) :
    aE s1_G d 111 64 [] [some (aP 0), some (aI x1), some (aI x2), some (aI x3), some (aI x4), some (aI x5), some (aI x6), some (aI x7)] [] M Q := aE_go s1_pu_ok [(26, [true, true, true, true, true, true, true, false]), (30, [true, true, true, true, true, true, true, false]), (31, [true, true, true, true, true, true, true, false]), (48, [true, true, true, true, true, true, true, true]), (64, [true, true, true, true, true, true, true, true]), (76, [true, true, true, true, true, true, true, false]), (91, [false, false, false, false, false, false, false, false]), (94, [true, true, true, true, true, true, true, false]), (134, [true, true, true, true, true, true, true, false]), (146, [true, true, true, true, true, true, true, false]), (153, [false, false, false, false, false, false, false, false]), (156, [true, true, true, true, true, true, true, false])] 70 hd h

set_option maxRecDepth 100000 in
set_option maxHeartbeats 4000000 in
theorem s1_paper_76 {d : Nat} (hd : 3 < d) {M : AM} {Q : Option AV → AM → Prop} {x1 x2 x3 x4 x5 x6 : Int}
    (h : (x1 ≠ (12 : Int) → aE s1_G d 111 94 [] [some (aP 0), some (aI x1), some (aI x2), some (aI x3), some (aI x4), some (aI x5), some (aI x6), none] [] M Q) ∧ (x1 = (12 : Int) → ((a_bl (0 ≤ x6 ∧ x6 ≤ a_sub (M 2 7) 1)) ≠ (0 : Int) → aE s1_G d 111 94 [] [some (aP 0), some (aI x1), some (aI x2), some (aI x3), some (aI x4), some (aI x5), some (aI x6), none] [] M Q) ∧ ((a_bl (0 ≤ x6 ∧ x6 ≤ a_sub (M 2 7) 1)) = (0 : Int) → aE s1_G d 111 91 [] [none, none, none, none, none, none, none, none] [] M Q))) :
    aE s1_G d 111 76 [] [some (aP 0), some (aI x1), some (aI x2), some (aI x3), some (aI x4), some (aI x5), some (aI x6), none] [] M Q := aE_go s1_pu_ok [(26, [true, true, true, true, true, true, true, false]), (30, [true, true, true, true, true, true, true, false]), (31, [true, true, true, true, true, true, true, false]), (48, [true, true, true, true, true, true, true, true]), (64, [true, true, true, true, true, true, true, true]), (76, [true, true, true, true, true, true, true, false]), (91, [false, false, false, false, false, false, false, false]), (94, [true, true, true, true, true, true, true, false]), (134, [true, true, true, true, true, true, true, false]), (146, [true, true, true, true, true, true, true, false]), (153, [false, false, false, false, false, false, false, false]), (156, [true, true, true, true, true, true, true, false])] 74 hd h

set_option maxRecDepth 100000 in
set_option maxHeartbeats 4000000 in
theorem s1_paper_91 {d : Nat} (hd : 3 < d) {M : AM} {Q : Option AV → AM → Prop}
    (h : Q (some (aI (-100001))) M) :
    aE s1_G d 111 91 [] [none, none, none, none, none, none, none, none] [] M Q := aE_go s1_pu_ok [(26, [true, true, true, true, true, true, true, false]), (30, [true, true, true, true, true, true, true, false]), (31, [true, true, true, true, true, true, true, false]), (48, [true, true, true, true, true, true, true, true]), (64, [true, true, true, true, true, true, true, true]), (76, [true, true, true, true, true, true, true, false]), (91, [false, false, false, false, false, false, false, false]), (94, [true, true, true, true, true, true, true, false]), (134, [true, true, true, true, true, true, true, false]), (146, [true, true, true, true, true, true, true, false]), (153, [false, false, false, false, false, false, false, false]), (156, [true, true, true, true, true, true, true, false])] 64 hd h

set_option maxRecDepth 100000 in
set_option maxHeartbeats 4000000 in
theorem s1_paper_94 {d : Nat} (hd : 3 < d) {M : AM} {Q : Option AV → AM → Prop} {x1 x2 x3 x4 x5 x6 : Int}
    (h : ((a_bl (0 ≤ x1 ∧ x1 ≤ 12)) = (0 : Int) → aE s1_G d 111 153 [] [none, none, none, none, none, none, none, none] [] M Q) ∧ ((a_bl (0 ≤ x1 ∧ x1 ≤ 12)) ≠ (0 : Int) → ((a_bl (0 ≤ x2 ∧ x2 ≤ (M 0 10))) = (0 : Int) → aE s1_G d 111 153 [] [none, none, none, none, none, none, none, none] [] M Q) ∧ ((a_bl (0 ≤ x2 ∧ x2 ≤ (M 0 10))) ≠ (0 : Int) → (x1 ≠ (11 : Int) → aE s1_G d 111 134 [] [some (aP 0), some (aI x1), some (aI x2), some (aI x3), some (aI x4), some (aI x5), some (aI x6), none] [] M Q) ∧ (x1 = (11 : Int) → ((a_bl (0 ≤ x6 ∧ x6 ≤ 9999)) = (0 : Int) → aE s1_G d 111 153 [] [none, none, none, none, none, none, none, none] [] M Q) ∧ ((a_bl (0 ≤ x6 ∧ x6 ≤ 9999)) ≠ (0 : Int) → aE s1_G d 111 134 [] [some (aP 0), some (aI x1), some (aI x2), some (aI x3), some (aI x4), some (aI x5), some (aI x6), none] [] M Q))))) :
    aE s1_G d 111 94 [] [some (aP 0), some (aI x1), some (aI x2), some (aI x3), some (aI x4), some (aI x5), some (aI x6), none] [] M Q := aE_go s1_pu_ok [(26, [true, true, true, true, true, true, true, false]), (30, [true, true, true, true, true, true, true, false]), (31, [true, true, true, true, true, true, true, false]), (48, [true, true, true, true, true, true, true, true]), (64, [true, true, true, true, true, true, true, true]), (76, [true, true, true, true, true, true, true, false]), (91, [false, false, false, false, false, false, false, false]), (94, [true, true, true, true, true, true, true, false]), (134, [true, true, true, true, true, true, true, false]), (146, [true, true, true, true, true, true, true, false]), (153, [false, false, false, false, false, false, false, false]), (156, [true, true, true, true, true, true, true, false])] 98 hd h

set_option maxRecDepth 100000 in
set_option maxHeartbeats 4000000 in
theorem s1_paper_134 {d : Nat} (hd : 3 < d) {M : AM} {Q : Option AV → AM → Prop} {x1 x2 x3 x4 x5 x6 : Int}
    (h : (x1 = (6 : Int) → aE s1_G d 111 146 [] [some (aP 0), some (aI x1), some (aI x2), some (aI x3), some (aI x4), some (aI x5), some (aI x6), none] [] M Q) ∧ (x1 ≠ (6 : Int) → (x1 ≠ (7 : Int) → aE s1_G d 111 156 [] [some (aP 0), some (aI x1), some (aI x2), some (aI x3), some (aI x4), some (aI x5), some (aI x6), none] [] M Q) ∧ (x1 = (7 : Int) → aE s1_G d 111 146 [] [some (aP 0), some (aI x1), some (aI x2), some (aI x3), some (aI x4), some (aI x5), some (aI x6), none] [] M Q))) :
    aE s1_G d 111 134 [] [some (aP 0), some (aI x1), some (aI x2), some (aI x3), some (aI x4), some (aI x5), some (aI x6), none] [] M Q := aE_go s1_pu_ok [(26, [true, true, true, true, true, true, true, false]), (30, [true, true, true, true, true, true, true, false]), (31, [true, true, true, true, true, true, true, false]), (48, [true, true, true, true, true, true, true, true]), (64, [true, true, true, true, true, true, true, true]), (76, [true, true, true, true, true, true, true, false]), (91, [false, false, false, false, false, false, false, false]), (94, [true, true, true, true, true, true, true, false]), (134, [true, true, true, true, true, true, true, false]), (146, [true, true, true, true, true, true, true, false]), (153, [false, false, false, false, false, false, false, false]), (156, [true, true, true, true, true, true, true, false])] 72 hd h

set_option maxRecDepth 100000 in
set_option maxHeartbeats 4000000 in
theorem s1_paper_146 {d : Nat} (hd : 3 < d) {M : AM} {Q : Option AV → AM → Prop} {x1 x2 x3 x4 x5 x6 : Int}
    (h : (x4 ≠ x5 → aE s1_G d 111 156 [] [some (aP 0), some (aI x1), some (aI x2), some (aI x3), some (aI x4), some (aI x5), some (aI x6), none] [] M Q) ∧ (x4 = x5 → aE s1_G d 111 153 [] [none, none, none, none, none, none, none, none] [] M Q)) :
    aE s1_G d 111 146 [] [some (aP 0), some (aI x1), some (aI x2), some (aI x3), some (aI x4), some (aI x5), some (aI x6), none] [] M Q := aE_go s1_pu_ok [(26, [true, true, true, true, true, true, true, false]), (30, [true, true, true, true, true, true, true, false]), (31, [true, true, true, true, true, true, true, false]), (48, [true, true, true, true, true, true, true, true]), (64, [true, true, true, true, true, true, true, true]), (76, [true, true, true, true, true, true, true, false]), (91, [false, false, false, false, false, false, false, false]), (94, [true, true, true, true, true, true, true, false]), (134, [true, true, true, true, true, true, true, false]), (146, [true, true, true, true, true, true, true, false]), (153, [false, false, false, false, false, false, false, false]), (156, [true, true, true, true, true, true, true, false])] 66 hd h

set_option maxRecDepth 100000 in
set_option maxHeartbeats 4000000 in
theorem s1_paper_153 {d : Nat} (hd : 3 < d) {M : AM} {Q : Option AV → AM → Prop}
    (h : Q (some (aI (-100002))) M) :
    aE s1_G d 111 153 [] [none, none, none, none, none, none, none, none] [] M Q := aE_go s1_pu_ok [(26, [true, true, true, true, true, true, true, false]), (30, [true, true, true, true, true, true, true, false]), (31, [true, true, true, true, true, true, true, false]), (48, [true, true, true, true, true, true, true, true]), (64, [true, true, true, true, true, true, true, true]), (76, [true, true, true, true, true, true, true, false]), (91, [false, false, false, false, false, false, false, false]), (94, [true, true, true, true, true, true, true, false]), (134, [true, true, true, true, true, true, true, false]), (146, [true, true, true, true, true, true, true, false]), (153, [false, false, false, false, false, false, false, false]), (156, [true, true, true, true, true, true, true, false])] 64 hd h

set_option maxRecDepth 100000 in
set_option maxHeartbeats 4000000 in
theorem s1_paper_156 {d : Nat} (hd : 3 < d) {M : AM} {Q : Option AV → AM → Prop} {x1 x2 x3 x4 x5 x6 : Int}
    (h : ((M 2 7) < (150 : Int) → aKv s1_G d 68 [aP 7] M (fun M1 => aKi s1_G d 30 [aP 2, aI x1, aI x2, aI (M1 0 10), aI x3, aI x4, aI x5, aI x6] M1 (fun z3 M2 => Q (some (aI z3)) M2))) ∧ ((150 : Int) ≤ (M 2 7) → Q (some (aI (-100004))) M)) :
    aE s1_G d 111 156 [] [some (aP 0), some (aI x1), some (aI x2), some (aI x3), some (aI x4), some (aI x5), some (aI x6), none] [] M Q := aE_go s1_pu_ok [(26, [true, true, true, true, true, true, true, false]), (30, [true, true, true, true, true, true, true, false]), (31, [true, true, true, true, true, true, true, false]), (48, [true, true, true, true, true, true, true, true]), (64, [true, true, true, true, true, true, true, true]), (76, [true, true, true, true, true, true, true, false]), (91, [false, false, false, false, false, false, false, false]), (94, [true, true, true, true, true, true, true, false]), (134, [true, true, true, true, true, true, true, false]), (146, [true, true, true, true, true, true, true, false]), (153, [false, false, false, false, false, false, false, false]), (156, [true, true, true, true, true, true, true, false])] 104 hd h

-- 112: DioceseBook.told(II)I
set_option maxRecDepth 100000 in
set_option maxHeartbeats 4000000 in
theorem s1_told_0 {d : Nat} (hd : 3 < d) {M : AM} {Q : Option AV → AM → Prop} {x1 x2 : Int}
    (h : ((a_bl (0 ≤ x1 ∧ x1 ≤ a_sub (M 2 7) 1)) ≠ (0 : Int) → ((x2 = 0 → (0 ≤ x1 ∧ x1 < 150) ∧ (Q (some (aI (M 17 x1))) M)) ∧ (x2 = 1 → (0 ≤ x1 ∧ x1 < 150) ∧ (Q (some (aI (M 18 x1))) M)) ∧ (x2 = 2 → (0 ≤ x1 ∧ x1 < 150) ∧ (Q (some (aI (M 19 x1))) M)) ∧ (x2 = 3 → (0 ≤ x1 ∧ x1 < 150) ∧ (Q (some (aI (M 20 x1))) M)) ∧ (x2 = 4 → (0 ≤ x1 ∧ x1 < 150) ∧ (Q (some (aI (M 21 x1))) M)) ∧ (x2 = 5 → (0 ≤ x1 ∧ x1 < 150) ∧ (Q (some (aI (M 22 x1))) M)) ∧ (x2 = 6 → (0 ≤ x1 ∧ x1 < 150) ∧ (Q (some (aI (M 23 x1))) M)) ∧ (x2 = 7 → aKv s1_G d 31 [aP 2, aI (M 0 10)] M (fun M1 => (0 ≤ x1 ∧ x1 < 150) ∧ (Q (some (aI (a_bl ((M1 25 x1) ≠ 0)))) M1))) ∧ True) ∧ (x2 < 0 ∨ 7 < x2 → Q (some (aI (-100002))) M)) ∧ ((a_bl (0 ≤ x1 ∧ x1 ≤ a_sub (M 2 7) 1)) = (0 : Int) → Q (some (aI (-100001))) M)) :
    aE s1_G d 112 0 [] [some (aP 0), some (aI x1), some (aI x2)] [] M Q := aE_go s1_pu_ok [] 188 hd h

-- 113: DioceseBook.book(II)I
set_option maxRecDepth 100000 in
set_option maxHeartbeats 4000000 in
theorem s1_book_0 {d : Nat} (hd : 3 < d) {M : AM} {Q : Option AV → AM → Prop} {x1 x2 : Int}
    (h : ((a_bl (0 ≤ x1 ∧ x1 ≤ M 0 10)) ≠ (0 : Int) → aKv s1_G d 31 [aP 2, aI x1] M (fun M1 => ((a_bl (0 ≤ x2 ∧ x2 ≤ (a_sub (M1 2 12) 1))) = (0 : Int) → Q (some (aI (-1))) M1) ∧ ((a_bl (0 ≤ x2 ∧ x2 ≤ (a_sub (M1 2 12) 1))) ≠ (0 : Int) → (0 ≤ x2 ∧ x2 < 150) ∧ (Q (some (aI (M1 26 x2))) M1)))) ∧ ((a_bl (0 ≤ x1 ∧ x1 ≤ M 0 10)) = (0 : Int) → Q (some (aI (-100002))) M)) :
    aE s1_G d 113 0 [] [some (aP 0), some (aI x1), some (aI x2)] [] M Q := aE_go s1_pu_ok [] 116 hd h

-- 114: DioceseBook.about(III)I
set_option maxRecDepth 100000 in
set_option maxHeartbeats 4000000 in
theorem s1_about_0 {d : Nat} (hd : 3 < d) {M : AM} {Q : Option AV → AM → Prop} {x1 x2 x3 : Int}
    (h : ((a_bl (0 ≤ x1 ∧ x1 ≤ a_sub (M 1 4) 1)) ≠ (0 : Int) → ((a_bl (0 ≤ x2 ∧ x2 ≤ M 0 10)) = (0 : Int) → Q (some (aI (-100002))) M) ∧ ((a_bl (0 ≤ x2 ∧ x2 ≤ M 0 10)) ≠ (0 : Int) → ((a_bl (0 ≤ x3 ∧ x3 ≤ 4)) ≠ (0 : Int) → aKv s1_G d 31 [aP 2, aI x2] M (fun M1 => ((x3 = 0 → (0 ≤ (0 : Int) ∧ (0 : Int) < 6) ∧ ((0 ≤ x1 ∧ x1 < 40) ∧ (Q (some (aI (M1 27 ((0 : Int) * 40 + x1)))) M1))) ∧ (x3 = 1 → (0 ≤ (1 : Int) ∧ (1 : Int) < 6) ∧ ((0 ≤ x1 ∧ x1 < 40) ∧ (Q (some (aI (M1 27 ((1 : Int) * 40 + x1)))) M1))) ∧ (x3 = 2 → (0 ≤ (2 : Int) ∧ (2 : Int) < 6) ∧ ((0 ≤ x1 ∧ x1 < 40) ∧ (Q (some (aI (M1 27 ((2 : Int) * 40 + x1)))) M1))) ∧ (x3 = 3 → aKi s1_G d 35 [aP 2, aI x1, aI 30000] M1 (fun z3 M2 => Q (some (aI z3)) M2)) ∧ True) ∧ (x3 < 0 ∨ 3 < x3 → aKi s1_G d 33 [aP 2, aI 5, aI x1, aI 30000] M1 (fun z5 M4 => Q (some (aI (a_bl (z5 ≠ 0)))) M4)))) ∧ ((a_bl (0 ≤ x3 ∧ x3 ≤ 4)) = (0 : Int) → Q (some (aI (-100002))) M))) ∧ ((a_bl (0 ≤ x1 ∧ x1 ≤ a_sub (M 1 4) 1)) = (0 : Int) → Q (some (aI (-100001))) M)) :
    aE s1_G d 114 0 [] [some (aP 0), some (aI x1), some (aI x2), some (aI x3)] [] M Q := aE_go s1_pu_ok [] 186 hd h

-- 115: DioceseBook.count(I)I
set_option maxRecDepth 100000 in
set_option maxHeartbeats 4000000 in
theorem s1_count_0 {d : Nat} (hd : 3 < d) {M : AM} {Q : Option AV → AM → Prop} {x1 : Int}
    (h : ((x1 = 0 → Q (some (aI (M 0 10))) M) ∧ (x1 = 1 → Q (some (aI (M 1 4))) M) ∧ (x1 = 2 → Q (some (aI (M 1 5))) M) ∧ (x1 = 3 → Q (some (aI (M 2 7))) M) ∧ (x1 = 4 → aKv s1_G d 31 [aP 2, aI (M 0 10)] M (fun M1 => Q (some (aI (a_sub (M1 2 7) (M1 2 12)))) M1)) ∧ (x1 = 5 → Q (some (aI (M 3 0))) M) ∧ (x1 = 6 → Q (some (aI (M 8 4))) M) ∧ (x1 = 7 → Q (some (aI (M 10 5))) M) ∧ (x1 = 8 → aKv s1_G d 69 [aP 7, aI (M 0 10), aI (M 0 10)] M (fun M2 => aKi s1_G d 78 [aP 7, aI 0] M2 (fun z4 M3 => Q (some (aI z4)) M3))) ∧ (x1 = 9 → aKv s1_G d 69 [aP 7, aI (M 0 10), aI (M 0 10)] M (fun M5 => aKi s1_G d 78 [aP 7, aI 2] M5 (fun z7 M6 => Q (some (aI z7)) M6))) ∧ (x1 = 10 → Q (some (aI (M 4 2))) M) ∧ True) ∧ (x1 < 0 ∨ 10 < x1 → Q (some (aI (-100002))) M)) :
    aE s1_G d 115 0 [] [some (aP 0), some (aI x1)] [] M Q := aE_go s1_pu_ok [] 204 hd h

-- 116: DioceseBook.feed(IJ)I
set_option maxRecDepth 100000 in
set_option maxHeartbeats 4000000 in
theorem s1_feed_0 {d : Nat} (hd : 3 < d) {M : AM} {Q : Option AV → AM → Prop} {x1 x2 : Int}
    (h : ((a_bl (1 ≤ x1 ∧ x1 ≤ 8)) ≠ (0 : Int) → ((a_add (M 4 2) x1) ≤ (200 : Int) → aE s1_G d 116 36 [] [some (aP 0), none, some (aL x2), none, some (aI (a_sub x1 1))] [] M Q) ∧ ((200 : Int) < (a_add (M 4 2) x1) → Q (some (aI (-100004))) M)) ∧ ((a_bl (1 ≤ x1 ∧ x1 ≤ 8)) = (0 : Int) → Q (some (aI (-100002))) M)) :
    aE s1_G d 116 0 [] [some (aP 0), some (aI x1), some (aL x2), none, none] [] M Q := aE_go s1_pu_ok [(36, [true, false, true, false, true])] 100 hd h

set_option maxRecDepth 100000 in
set_option maxHeartbeats 4000000 in
theorem s1_feed_36 {d : Nat} (hd : 3 < d) {M : AM} {Q : Option AV → AM → Prop} {x2 x4 : Int}
    (h : (x4 < (0 : Int) → Q (some (aI (M 4 2))) M) ∧ ((0 : Int) ≤ x4 → aKv s1_G d 37 [aP 4, aI (a_and (a_l2i (a_lushr x2 (a_mul 8 x4))) 255)] M (fun M1 => aE s1_G d 116 36 [] [some (aP 0), none, some (aL x2), none, some (aI (a_add x4 (-1)))] [] M1 Q))) :
    aE s1_G d 116 36 [] [some (aP 0), none, some (aL x2), none, some (aI x4)] [] M Q := aE_go s1_pu_ok [(36, [true, false, true, false, true])] 98 hd h

-- 117: DioceseBook.canon(I)I
set_option maxRecDepth 100000 in
set_option maxHeartbeats 4000000 in
theorem s1_canon_0 {d : Nat} (hd : 3 < d) {M : AM} {Q : Option AV → AM → Prop} {x1 : Int}
    (h : ((a_bl (0 ≤ x1 ∧ x1 ≤ 30000)) ≠ (0 : Int) → ((M 3 0) < (10 : Int) → aKi s1_G d 38 [aP 4] M (fun z2 M1 => (z2 = (0 : Int) → aKv s1_G d 68 [aP 7] M1 (fun M3 => aKi s1_G d 4 [aP 3, aI x1] M3 (fun z5 M4 => Q (some (aI z5)) M4))) ∧ (z2 ≠ (0 : Int) → Q (some (aI (a_sub (-10) z2))) M1))) ∧ ((10 : Int) ≤ (M 3 0) → Q (some (aI (-100004))) M)) ∧ ((a_bl (0 ≤ x1 ∧ x1 ≤ 30000)) = (0 : Int) → Q (some (aI (-100002))) M)) :
    aE s1_G d 117 0 [] [some (aP 0), some (aI x1), none] [] M Q := aE_go s1_pu_ok [] 120 hd h

-- 118: DioceseBook.fault()I
set_option maxRecDepth 100000 in
set_option maxHeartbeats 4000000 in
theorem s1_fault_0 {d : Nat} (hd : 3 < d) {M : AM} {Q : Option AV → AM → Prop}
    (h : Q (some (aI (M 4 3))) M) :
    aE s1_G d 118 0 [] [some (aP 0)] [] M Q := aE_go s1_pu_ok [] 68 hd h

-- 119: DioceseBook.force(III)I
set_option maxRecDepth 100000 in
set_option maxHeartbeats 4000000 in
theorem s1_force_0 {d : Nat} (hd : 3 < d) {M : AM} {Q : Option AV → AM → Prop} {x1 x2 x3 : Int}
    (h : ((a_bl (0 ≤ x1 ∧ x1 ≤ 7)) = (0 : Int) → Q (some (aI (-100002))) M) ∧ ((a_bl (0 ≤ x1 ∧ x1 ≤ 7)) ≠ (0 : Int) → ((a_bl (0 ≤ x2 ∧ x2 ≤ 30000)) = (0 : Int) → Q (some (aI (-100002))) M) ∧ ((a_bl (0 ≤ x2 ∧ x2 ≤ 30000)) ≠ (0 : Int) → ((a_bl (0 ≤ x3 ∧ x3 ≤ 1)) ≠ (0 : Int) → aKv s1_G d 7 [aP 3, aI x2] M (fun M1 => (x3 ≠ (0 : Int) → (0 ≤ x1 ∧ x1 < 8) ∧ (Q (some (aI (M1 37 x1))) M1)) ∧ (x3 = (0 : Int) → (0 ≤ x1 ∧ x1 < 8) ∧ (Q (some (aI (M1 36 x1))) M1)))) ∧ ((a_bl (0 ≤ x3 ∧ x3 ≤ 1)) = (0 : Int) → Q (some (aI (-100002))) M)))) :
    aE s1_G d 119 0 [] [some (aP 0), some (aI x1), some (aI x2), some (aI x3)] [] M Q := aE_go s1_pu_ok [] 136 hd h

-- 120: DioceseBook.counts(II)I
set_option maxRecDepth 100000 in
set_option maxHeartbeats 4000000 in
theorem s1_counts_0 {d : Nat} (hd : 3 < d) {M : AM} {Q : Option AV → AM → Prop} {x1 x2 : Int}
    (h : ((a_bl (0 ≤ x1 ∧ x1 ≤ (a_sub (M 3 0) 1))) ≠ (0 : Int) → ((a_bl (0 ≤ x2 ∧ x2 ≤ 30000)) ≠ (0 : Int) → aKv s1_G d 7 [aP 3, aI x2] M (fun M1 => aKi s1_G d 5 [aP 3, aI x1] M1 (fun z3 M2 => (z3 = (0 : Int) → Q (some (aI 0)) M2) ∧ (z3 ≠ (0 : Int) → (0 ≤ x1 ∧ x1 < 10) ∧ (Q (some (aI (M2 28 x1))) M2))))) ∧ ((a_bl (0 ≤ x2 ∧ x2 ≤ 30000)) = (0 : Int) → Q (some (aI (-100002))) M)) ∧ ((a_bl (0 ≤ x1 ∧ x1 ≤ (a_sub (M 3 0) 1))) = (0 : Int) → Q (some (aI (-100001))) M)) :
    aE s1_G d 120 0 [] [some (aP 0), some (aI x1), some (aI x2)] [] M Q := aE_go s1_pu_ok [] 128 hd h

-- 121: DioceseBook.barred(IIII)I
set_option maxRecDepth 100000 in
set_option maxHeartbeats 4000000 in
theorem s1_barred_0 {d : Nat} (hd : 3 < d) {M : AM} {Q : Option AV → AM → Prop} {x1 x2 x3 x4 : Int}
    (h : ((a_bl (0 ≤ x1 ∧ x1 ≤ a_sub (M 1 4) 1)) = (0 : Int) → Q (some (aI (-100001))) M) ∧ ((a_bl (0 ≤ x1 ∧ x1 ≤ a_sub (M 1 4) 1)) ≠ (0 : Int) → ((a_bl (0 ≤ x2 ∧ x2 ≤ a_sub (M 1 5) 1)) ≠ (0 : Int) → ((a_bl (0 ≤ x3 ∧ x3 ≤ 30000)) = (0 : Int) → Q (some (aI (-100002))) M) ∧ ((a_bl (0 ≤ x3 ∧ x3 ≤ 30000)) ≠ (0 : Int) → ((a_bl (0 ≤ x4 ∧ x4 ≤ M 0 10)) ≠ (0 : Int) → aKv s1_G d 69 [aP 7, aI x4, aI x3] M (fun M1 => aKi s1_G d 82 [aP 7, aI x1, aI x2, aI x3] M1 (fun z3 M2 => Q (some (aI z3)) M2))) ∧ ((a_bl (0 ≤ x4 ∧ x4 ≤ M 0 10)) = (0 : Int) → Q (some (aI (-100002))) M))) ∧ ((a_bl (0 ≤ x2 ∧ x2 ≤ a_sub (M 1 5) 1)) = (0 : Int) → Q (some (aI (-100001))) M))) :
    aE s1_G d 121 0 [] [some (aP 0), some (aI x1), some (aI x2), some (aI x3), some (aI x4)] [] M Q := aE_go s1_pu_ok [] 130 hd h

-- 122: DioceseBook.seat(IIII)I
set_option maxRecDepth 100000 in
set_option maxHeartbeats 4000000 in
theorem s1_seat_0 {d : Nat} (hd : 3 < d) {M : AM} {Q : Option AV → AM → Prop} {x1 x2 x3 x4 : Int}
    (h : ((a_bl (0 ≤ x1 ∧ x1 ≤ a_sub (M 1 5) 1)) ≠ (0 : Int) → ((a_bl (0 ≤ x2 ∧ x2 ≤ 30000)) = (0 : Int) → Q (some (aI (-100002))) M) ∧ ((a_bl (0 ≤ x2 ∧ x2 ≤ 30000)) ≠ (0 : Int) → ((a_bl (0 ≤ x3 ∧ x3 ≤ M 0 10)) = (0 : Int) → Q (some (aI (-100002))) M) ∧ ((a_bl (0 ≤ x3 ∧ x3 ≤ M 0 10)) ≠ (0 : Int) → ((a_bl (0 ≤ x4 ∧ x4 ≤ 7)) ≠ (0 : Int) → aKv s1_G d 69 [aP 7, aI x3, aI x2] M (fun M1 => ((x4 = 0 → aKi s1_G d 77 [aP 7, aI x1] M1 (fun z3 M2 => Q (some (aI z3)) M2)) ∧ (x4 = 1 → aKi s1_G d 79 [aP 7, aI x1] M1 (fun z5 M4 => Q (some (aI z5)) M4)) ∧ (x4 = 2 → (0 ≤ x1 ∧ x1 < 12) ∧ (Q (some (aI (a_l2i (a_land (M1 50 x1) 2147483647)))) M1)) ∧ (x4 = 3 → (0 ≤ x1 ∧ x1 < 12) ∧ (Q (some (aI (M1 52 x1))) M1)) ∧ (x4 = 4 → (0 ≤ x1 ∧ x1 < 12) ∧ (Q (some (aI (M1 53 x1))) M1)) ∧ (x4 = 5 → aKi s1_G d 80 [aP 7, aI x1, aI x2] M1 (fun z7 M6 => Q (some (aI z7)) M6)) ∧ (x4 = 6 → aKi s1_G d 62 [aP 5, aI x1] M1 (fun z9 M8 => Q (some (aI z9)) M8)) ∧ True) ∧ (x4 < 0 ∨ 6 < x4 → aKi s1_G d 63 [aP 5, aI x1] M1 (fun z11 M10 => Q (some (aI z11)) M10)))) ∧ ((a_bl (0 ≤ x4 ∧ x4 ≤ 7)) = (0 : Int) → Q (some (aI (-100002))) M)))) ∧ ((a_bl (0 ≤ x1 ∧ x1 ≤ a_sub (M 1 5) 1)) = (0 : Int) → Q (some (aI (-100001))) M)) :
    aE s1_G d 122 0 [] [some (aP 0), some (aI x1), some (aI x2), some (aI x3), some (aI x4)] [] M Q := aE_go s1_pu_ok [] 220 hd h

-- 123: DioceseBook.good(II)I
set_option maxRecDepth 100000 in
set_option maxHeartbeats 4000000 in
theorem s1_good_0 {d : Nat} (hd : 3 < d) {M : AM} {Q : Option AV → AM → Prop} {x1 x2 : Int}
    (h : aKi s1_G d 125 [aP 0, aI x1, aI x2] M (fun z2 M1 => (z2 = (0 : Int) → aKv s1_G d 69 [aP 7, aI x2, aI 30000] M1 (fun M3 => (0 ≤ x1 ∧ x1 < 150) ∧ (((M3 54 x1) ≠ (0 : Int) → Q (some (aI (a_bl ((0 : Int) ≠ 0)))) M3) ∧ ((M3 54 x1) = (0 : Int) → Q (some (aI (a_bl ((1 : Int) ≠ 0)))) M3)))) ∧ (z2 ≠ (0 : Int) → Q (some (aI z2)) M1))) :
    aE s1_G d 123 0 [] [some (aP 0), some (aI x1), some (aI x2), none] [] M Q := aE_go s1_pu_ok [] 114 hd h

-- 124: DioceseBook.why(II)I
set_option maxRecDepth 100000 in
set_option maxHeartbeats 4000000 in
theorem s1_why_0 {d : Nat} (hd : 3 < d) {M : AM} {Q : Option AV → AM → Prop} {x1 x2 : Int}
    (h : aKi s1_G d 125 [aP 0, aI x1, aI x2] M (fun z2 M1 => (z2 = (0 : Int) → aKv s1_G d 69 [aP 7, aI x2, aI 30000] M1 (fun M3 => (0 ≤ x1 ∧ x1 < 150) ∧ (Q (some (aI (M3 54 x1))) M3))) ∧ (z2 ≠ (0 : Int) → Q (some (aI z2)) M1))) :
    aE s1_G d 124 0 [] [some (aP 0), some (aI x1), some (aI x2), none] [] M Q := aE_go s1_pu_ok [] 100 hd h

-- 125: DioceseBook.refusalOfIn(II)I
set_option maxRecDepth 100000 in
set_option maxHeartbeats 4000000 in
theorem s1_refusalOfIn_0 {d : Nat} (hd : 3 < d) {M : AM} {Q : Option AV → AM → Prop} {x1 x2 : Int}
    (h : ((a_bl (0 ≤ x1 ∧ x1 ≤ a_sub (M 2 7) 1)) ≠ (0 : Int) → ((a_bl (0 ≤ x2 ∧ x2 ≤ M 0 10)) ≠ (0 : Int) → aKv s1_G d 31 [aP 2, aI x2] M (fun M1 => (0 ≤ x1 ∧ x1 < 150) ∧ (((M1 17 x1) ≠ (3 : Int) → Q (some (aI (-100003))) M1) ∧ ((M1 17 x1) = (3 : Int) → aKi s1_G d 34 [aP 2, aI x1] M1 (fun z3 M2 => (z3 = (0 : Int) → Q (some (aI (-100003))) M2) ∧ (z3 ≠ (0 : Int) → Q (some (aI 0)) M2)))))) ∧ ((a_bl (0 ≤ x2 ∧ x2 ≤ M 0 10)) = (0 : Int) → Q (some (aI (-100002))) M)) ∧ ((a_bl (0 ≤ x1 ∧ x1 ≤ a_sub (M 2 7) 1)) = (0 : Int) → Q (some (aI (-100001))) M)) :
    aE s1_G d 125 0 [] [some (aP 0), some (aI x1), some (aI x2)] [] M Q := aE_go s1_pu_ok [] 130 hd h

-- 126: DioceseBook.change(IIII)I
set_option maxRecDepth 100000 in
set_option maxHeartbeats 4000000 in
theorem s1_change_0 {d : Nat} (hd : 3 < d) {M : AM} {Q : Option AV → AM → Prop} {x1 x2 x3 x4 : Int}
    (h : ((a_bl (0 ≤ x1 ∧ x1 ≤ a_sub (M 1 5) 1)) ≠ (0 : Int) → ((a_bl (0 ≤ x2 ∧ x2 ≤ M 0 10)) = (0 : Int) → Q (some (aI (-100002))) M) ∧ ((a_bl (0 ≤ x2 ∧ x2 ≤ M 0 10)) ≠ (0 : Int) → ((a_bl (0 ≤ x4 ∧ x4 ≤ 2)) ≠ (0 : Int) → aKv s1_G d 69 [aP 7, aI x2, aI 30000] M (fun M1 => aKi s1_G d 16 [aP 6, aI x1, aI x3] M1 (fun z3 M2 => (z3 ≠ ((-1) : Int) → (x4 = 0 → (0 ≤ z3 ∧ z3 < 300) ∧ (Q (some (aI (M2 44 z3))) M2)) ∧ (x4 ≠ 0 → (x4 = 1 → (0 ≤ z3 ∧ z3 < 300) ∧ (Q (some (aI (M2 46 z3))) M2)) ∧ (x4 ≠ 1 → (0 ≤ z3 ∧ z3 < 300) ∧ (Q (some (aI (M2 45 z3))) M2)))) ∧ (z3 = ((-1) : Int) → Q (some (aI (-1))) M2)))) ∧ ((a_bl (0 ≤ x4 ∧ x4 ≤ 2)) = (0 : Int) → Q (some (aI (-100002))) M))) ∧ ((a_bl (0 ≤ x1 ∧ x1 ≤ a_sub (M 1 5) 1)) = (0 : Int) → Q (some (aI (-100001))) M)) :
    aE s1_G d 126 0 [] [some (aP 0), some (aI x1), some (aI x2), some (aI x3), some (aI x4), none] [] M Q := aE_go s1_pu_ok [] 178 hd h

-- 127: DioceseBook.days(IIIII)I
set_option maxRecDepth 100000 in
set_option maxHeartbeats 4000000 in
theorem s1_days_0 {d : Nat} (hd : 3 < d) {M : AM} {Q : Option AV → AM → Prop} {x1 x2 x3 x4 x5 : Int}
    (h : ((a_bl (0 ≤ x1 ∧ x1 ≤ a_sub (M 1 5) 1)) ≠ (0 : Int) → ((a_bl (0 ≤ x2 ∧ x2 ≤ 30000)) = (0 : Int) → Q (some (aI (-100002))) M) ∧ ((a_bl (0 ≤ x2 ∧ x2 ≤ 30000)) ≠ (0 : Int) → ((a_bl (0 ≤ x3 ∧ x3 ≤ 30000)) = (0 : Int) → Q (some (aI (-100002))) M) ∧ ((a_bl (0 ≤ x3 ∧ x3 ≤ 30000)) ≠ (0 : Int) → ((a_bl (0 ≤ (a_sub x3 x2) ∧ (a_sub x3 x2) ≤ 5000)) = (0 : Int) → Q (some (aI (-100002))) M) ∧ ((a_bl (0 ≤ (a_sub x3 x2) ∧ (a_sub x3 x2) ≤ 5000)) ≠ (0 : Int) → ((a_bl (0 ≤ x4 ∧ x4 ≤ M 0 10)) = (0 : Int) → Q (some (aI (-100002))) M) ∧ ((a_bl (0 ≤ x4 ∧ x4 ≤ M 0 10)) ≠ (0 : Int) → ((a_bl (0 ≤ x5 ∧ x5 ≤ 2)) ≠ (0 : Int) → aKv s1_G d 69 [aP 7, aI x4, aI 30000] M (fun M1 => aKi s1_G d 18 [aP 6, aI x1, aI x2, aI x3, aI x5] M1 (fun z3 M2 => Q (some (aI z3)) M2))) ∧ ((a_bl (0 ≤ x5 ∧ x5 ≤ 2)) = (0 : Int) → Q (some (aI (-100002))) M)))))) ∧ ((a_bl (0 ≤ x1 ∧ x1 ≤ a_sub (M 1 5) 1)) = (0 : Int) → Q (some (aI (-100001))) M)) :
    aE s1_G d 127 0 [] [some (aP 0), some (aI x1), some (aI x2), some (aI x3), some (aI x4), some (aI x5)] [] M Q := aE_go s1_pu_ok [] 164 hd h

-- 128: DioceseBook.news(III)I
set_option maxRecDepth 100000 in
set_option maxHeartbeats 4000000 in
theorem s1_news_0 {d : Nat} (hd : 3 < d) {M : AM} {Q : Option AV → AM → Prop} {x1 x2 x3 : Int}
    (h : ((a_bl (0 ≤ x1 ∧ x1 ≤ 30000)) = (0 : Int) → Q (some (aI (-100002))) M) ∧ ((a_bl (0 ≤ x1 ∧ x1 ≤ 30000)) ≠ (0 : Int) → ((a_bl (0 ≤ x2 ∧ x2 ≤ M 0 10)) = (0 : Int) → Q (some (aI (-100002))) M) ∧ ((a_bl (0 ≤ x2 ∧ x2 ≤ M 0 10)) ≠ (0 : Int) → ((a_bl (0 ≤ x3 ∧ x3 ≤ M 0 10)) ≠ (0 : Int) → aKv s1_G d 69 [aP 7, aI x2, aI x1] M (fun M1 => aE s1_G d 128 38 [] [some (aP 0), some (aI x1), none, some (aI x3), some (aI 0), none] [] M1 Q)) ∧ ((a_bl (0 ≤ x3 ∧ x3 ≤ M 0 10)) = (0 : Int) → Q (some (aI (-100002))) M)))) :
    aE s1_G d 128 0 [] [some (aP 0), some (aI x1), some (aI x2), some (aI x3), none, none] [] M Q := aE_go s1_pu_ok [(38, [true, true, false, true, true, false]), (88, [true, false, false, false, true, true])] 108 hd h

set_option maxRecDepth 100000 in
set_option maxHeartbeats 4000000 in
theorem s1_news_38 {d : Nat} (hd : 3 < d) {M : AM} {Q : Option AV → AM → Prop} {x1 x3 x4 : Int}
    (h : ((M 1 5) ≤ x4 → aKv s1_G d 69 [aP 7, aI x3, aI x1] M (fun M1 => aE s1_G d 128 88 [] [some (aP 0), none, none, none, some (aI 0), some (aI 0)] [] M1 Q)) ∧ (x4 < (M 1 5) → (0 ≤ x4 ∧ x4 < 12) ∧ ((0 ≤ x4 ∧ x4 < 12) ∧ (aE s1_G d 128 38 [] [some (aP 0), some (aI x1), none, some (aI x3), some (aI (a_add x4 1)), none] [] (am_up M 12 x4 (M 50 x4)) Q)))) :
    aE s1_G d 128 38 [] [some (aP 0), some (aI x1), none, some (aI x3), some (aI x4), none] [] M Q := aE_go s1_pu_ok [(38, [true, true, false, true, true, false]), (88, [true, false, false, false, true, true])] 110 hd h

set_option maxRecDepth 100000 in
set_option maxHeartbeats 4000000 in
theorem s1_news_88 {d : Nat} (hd : 3 < d) {M : AM} {Q : Option AV → AM → Prop} {x4 x5 : Int}
    (h : ((M 1 5) ≤ x5 → Q (some (aI x4)) M) ∧ (x5 < (M 1 5) → (0 ≤ x5 ∧ x5 < 12) ∧ ((0 ≤ x5 ∧ x5 < 12) ∧ (((a_cmp (M 12 x5) (M 50 x5)) = (0 : Int) → aE s1_G d 128 88 [] [some (aP 0), none, none, none, some (aI x4), some (aI (a_add x5 1))] [] M Q) ∧ ((a_cmp (M 12 x5) (M 50 x5)) ≠ (0 : Int) → aE s1_G d 128 88 [] [some (aP 0), none, none, none, some (aI (a_add x4 1)), some (aI (a_add x5 1))] [] M Q))))) :
    aE s1_G d 128 88 [] [some (aP 0), none, none, none, some (aI x4), some (aI x5)] [] M Q := aE_go s1_pu_ok [(38, [true, true, false, true, true, false]), (88, [true, false, false, false, true, true])] 106 hd h

-- 129: DioceseBook.present(III)I
set_option maxRecDepth 100000 in
set_option maxHeartbeats 4000000 in
theorem s1_present_0 {d : Nat} (hd : 3 < d) {M : AM} {Q : Option AV → AM → Prop} {x1 x2 x3 : Int}
    (h : ((a_bl (0 ≤ x1 ∧ x1 ≤ a_sub (M 1 4) 1)) = (0 : Int) → Q (some (aI (-100001))) M) ∧ ((a_bl (0 ≤ x1 ∧ x1 ≤ a_sub (M 1 4) 1)) ≠ (0 : Int) → ((a_bl (0 ≤ x2 ∧ x2 ≤ a_sub (M 1 5) 1)) ≠ (0 : Int) → ((a_bl (0 ≤ x3 ∧ x3 ≤ (M 0 10))) ≠ (0 : Int) → aKi s1_G d 85 [aP 8, aI x3] M (fun z2 M1 => Q (some (aI z2)) M1)) ∧ ((a_bl (0 ≤ x3 ∧ x3 ≤ (M 0 10))) = (0 : Int) → Q (some (aI (-100002))) M)) ∧ ((a_bl (0 ≤ x2 ∧ x2 ≤ a_sub (M 1 5) 1)) = (0 : Int) → Q (some (aI (-100001))) M))) :
    aE s1_G d 129 0 [] [some (aP 0), some (aI x1), some (aI x2), some (aI x3)] [] M Q := aE_go s1_pu_ok [] 110 hd h

-- 130: DioceseBook.step(II)I
set_option maxRecDepth 100000 in
set_option maxHeartbeats 4000000 in
theorem s1_step_0 {d : Nat} (hd : 3 < d) {M : AM} {Q : Option AV → AM → Prop} {x1 x2 : Int}
    (h : ((a_bl (0 ≤ x1 ∧ x1 ≤ a_sub (M 8 4) 1)) ≠ (0 : Int) → aKi s1_G d 89 [aP 8, aI x1, aI 30000] M (fun z2 M1 => ((a_bl (z2 ≤ x2 ∧ x2 ≤ (M1 0 10))) ≠ (0 : Int) → aKi s1_G d 86 [aP 8, aI x1, aI x2] M1 (fun z4 M3 => Q (some (aI z4)) M3)) ∧ ((a_bl (z2 ≤ x2 ∧ x2 ≤ (M1 0 10))) = (0 : Int) → Q (some (aI (-100002))) M1))) ∧ ((a_bl (0 ≤ x1 ∧ x1 ≤ a_sub (M 8 4) 1)) = (0 : Int) → Q (some (aI (-100001))) M)) :
    aE s1_G d 130 0 [] [some (aP 0), some (aI x1), some (aI x2)] [] M Q := aE_go s1_pu_ok [] 108 hd h

-- 131: DioceseBook.appeal(II)I
set_option maxRecDepth 100000 in
set_option maxHeartbeats 4000000 in
theorem s1_appeal_0 {d : Nat} (hd : 3 < d) {M : AM} {Q : Option AV → AM → Prop} {x1 x2 : Int}
    (h : ((a_bl (0 ≤ x1 ∧ x1 ≤ a_sub (M 8 4) 1)) ≠ (0 : Int) → ((a_bl (1 ≤ x2 ∧ x2 ≤ 5)) ≠ (0 : Int) → aKi s1_G d 87 [aP 8, aI x1, aI x2] M (fun z2 M1 => Q (some (aI z2)) M1)) ∧ ((a_bl (1 ≤ x2 ∧ x2 ≤ 5)) = (0 : Int) → Q (some (aI (-100002))) M)) ∧ ((a_bl (0 ≤ x1 ∧ x1 ≤ a_sub (M 8 4) 1)) = (0 : Int) → Q (some (aI (-100001))) M)) :
    aE s1_G d 131 0 [] [some (aP 0), some (aI x1), some (aI x2)] [] M Q := aE_go s1_pu_ok [] 98 hd h

-- 132: DioceseBook.suit(III)I
set_option maxRecDepth 100000 in
set_option maxHeartbeats 4000000 in
theorem s1_suit_0 {d : Nat} (hd : 3 < d) {M : AM} {Q : Option AV → AM → Prop} {x1 x2 x3 : Int}
    (h : ((a_bl (0 ≤ x1 ∧ x1 ≤ a_sub (M 8 4) 1)) ≠ (0 : Int) → ((a_bl (0 ≤ x2 ∧ x2 ≤ 30000)) ≠ (0 : Int) → ((x3 = 0 → aKi s1_G d 88 [aP 8, aI x1, aI x2] M (fun z2 M1 => Q (some (aI z2)) M1)) ∧ (x3 = 1 → aKi s1_G d 89 [aP 8, aI x1, aI x2] M (fun z4 M3 => Q (some (aI z4)) M3)) ∧ (x3 = 2 → aKi s1_G d 90 [aP 8, aI x1, aI x2] M (fun z6 M5 => Q (some (aI (a_bl (z6 ≠ 0)))) M5)) ∧ (x3 = 3 → aKi s1_G d 91 [aP 8, aI x1] M (fun z8 M7 => Q (some (aI z8)) M7)) ∧ True) ∧ (x3 < 0 ∨ 3 < x3 → Q (some (aI (-100002))) M)) ∧ ((a_bl (0 ≤ x2 ∧ x2 ≤ 30000)) = (0 : Int) → Q (some (aI (-100002))) M)) ∧ ((a_bl (0 ≤ x1 ∧ x1 ≤ a_sub (M 8 4) 1)) = (0 : Int) → Q (some (aI (-100001))) M)) :
    aE s1_G d 132 0 [] [some (aP 0), some (aI x1), some (aI x2), some (aI x3)] [] M Q := aE_go s1_pu_ok [] 138 hd h

-- 133: DioceseBook.decay(IIII)I
set_option maxRecDepth 100000 in
set_option maxHeartbeats 4000000 in
theorem s1_decay_0 {d : Nat} (hd : 3 < d) {M : AM} {Q : Option AV → AM → Prop} {x1 x2 x3 x4 : Int}
    (h : ((a_bl (0 ≤ x1 ∧ x1 ≤ a_sub (M 1 4) 1)) = (0 : Int) → Q (some (aI (-100001))) M) ∧ ((a_bl (0 ≤ x1 ∧ x1 ≤ a_sub (M 1 4) 1)) ≠ (0 : Int) → ((a_bl (0 ≤ x2 ∧ x2 ≤ a_sub (M 1 5) 1)) ≠ (0 : Int) → ((a_bl (0 ≤ x3 ∧ x3 ≤ M 0 10)) = (0 : Int) → Q (some (aI (-100002))) M) ∧ ((a_bl (0 ≤ x3 ∧ x3 ≤ M 0 10)) ≠ (0 : Int) → ((a_bl (0 ≤ x4 ∧ x4 ≤ 3)) ≠ (0 : Int) → aKv s1_G d 69 [aP 7, aI x3, aI 30000] M (fun M1 => (x4 ≠ (0 : Int) → (0 ≤ x1 ∧ x1 < 40) ∧ (aE s1_G d 133 83 [] [some (aP 0), some (aI x1), some (aI x2), none, some (aI x4), some (aI (M1 13 x1)), some (aI 0), none] [] M1 Q)) ∧ (x4 = (0 : Int) → aKi s1_G d 17 [aP 6, aI x1, aI x2] M1 (fun z3 M2 => Q (some (aI z3)) M2)))) ∧ ((a_bl (0 ≤ x4 ∧ x4 ≤ 3)) = (0 : Int) → Q (some (aI (-100002))) M))) ∧ ((a_bl (0 ≤ x2 ∧ x2 ≤ a_sub (M 1 5) 1)) = (0 : Int) → Q (some (aI (-100001))) M))) :
    aE s1_G d 133 0 [] [some (aP 0), some (aI x1), some (aI x2), some (aI x3), some (aI x4), none, none, none] [] M Q := aE_go s1_pu_ok [(83, [true, true, true, false, true, true, true, false])] 154 hd h

set_option maxRecDepth 100000 in
set_option maxHeartbeats 4000000 in
theorem s1_decay_83 {d : Nat} (hd : 3 < d) {M : AM} {Q : Option AV → AM → Prop} {x1 x2 x4 x5 x6 : Int}
    (h : (x2 ≤ x6 → aKi s1_G d 83 [aP 7, aI x1, aI x2] M (fun z2 M1 => (x4 = 1 → Q (some (aI z2)) M1) ∧ (x4 ≠ 1 → (x4 = 2 → Q (some (aI (if x5 ≤ z2 then x5 else z2))) M1) ∧ (x4 ≠ 2 → Q (some (aI (a_sub z2 (if x5 ≤ z2 then x5 else z2)))) M1)))) ∧ (x6 < x2 → aKi s1_G d 83 [aP 7, aI x1, aI x6] M (fun z4 M3 => aE s1_G d 133 83 [] [some (aP 0), some (aI x1), some (aI x2), none, some (aI x4), some (aI (a_sub x5 (if x5 ≤ z4 then x5 else z4))), some (aI (a_add x6 1)), none] [] M3 Q))) :
    aE s1_G d 133 83 [] [some (aP 0), some (aI x1), some (aI x2), none, some (aI x4), some (aI x5), some (aI x6), none] [] M Q := aE_go s1_pu_ok [(83, [true, true, true, false, true, true, true, false])] 130 hd h

-- 134: DioceseBook.field(IIIII)I
set_option maxRecDepth 100000 in
set_option maxHeartbeats 4000000 in
theorem s1_field_0 {d : Nat} (hd : 3 < d) {M : AM} {Q : Option AV → AM → Prop} {x1 x2 x3 x4 x5 : Int}
    (h : ((a_bl (0 ≤ x1 ∧ x1 ≤ a_sub (M 1 5) 1)) ≠ (0 : Int) → ((a_bl (0 ≤ x2 ∧ x2 ≤ 1)) = (0 : Int) → Q (some (aI (-100002))) M) ∧ ((a_bl (0 ≤ x2 ∧ x2 ≤ 1)) ≠ (0 : Int) → ((a_bl (0 ≤ x3 ∧ x3 ≤ 99)) = (0 : Int) → Q (some (aI (-100002))) M) ∧ ((a_bl (0 ≤ x3 ∧ x3 ≤ 99)) ≠ (0 : Int) → ((a_bl (1 ≤ x4 ∧ x4 ≤ 999)) = (0 : Int) → Q (some (aI (-100002))) M) ∧ ((a_bl (1 ≤ x4 ∧ x4 ≤ 999)) ≠ (0 : Int) → ((a_bl (0 ≤ x5 ∧ x5 ≤ 99)) ≠ (0 : Int) → aKi s1_G d 92 [aP 9, aI (a_add (a_mul 2 x1) x2), aI x3, aI x4, aI x5] M (fun z2 M1 => Q (some (aI z2)) M1)) ∧ ((a_bl (0 ≤ x5 ∧ x5 ≤ 99)) = (0 : Int) → Q (some (aI (-100002))) M))))) ∧ ((a_bl (0 ≤ x1 ∧ x1 ≤ a_sub (M 1 5) 1)) = (0 : Int) → Q (some (aI (-100001))) M)) :
    aE s1_G d 134 0 [] [some (aP 0), some (aI x1), some (aI x2), some (aI x3), some (aI x4), some (aI x5)] [] M Q := aE_go s1_pu_ok [] 144 hd h

-- 135: DioceseBook.match(II)I
set_option maxRecDepth 100000 in
set_option maxHeartbeats 4000000 in
theorem s1_match_0 {d : Nat} (hd : 3 < d) {M : AM} {Q : Option AV → AM → Prop} {x1 x2 : Int}
    (h : ((a_bl (0 ≤ x1 ∧ x1 ≤ a_sub (M 1 5) 1)) ≠ (0 : Int) → aKv s1_G d 95 [aP 9, aI x1] M (fun M1 => (x2 ≠ ((-1) : Int) → aKi s1_G d 94 [aP 9, aI x1, aI x2] M1 (fun z3 M2 => Q (some (aI z3)) M2)) ∧ (x2 = ((-1) : Int) → aKi s1_G d 93 [aP 9] M1 (fun z5 M4 => Q (some (aI z5)) M4)))) ∧ ((a_bl (0 ≤ x1 ∧ x1 ≤ a_sub (M 1 5) 1)) = (0 : Int) → Q (some (aI (-100001))) M)) :
    aE s1_G d 135 0 [] [some (aP 0), some (aI x1), some (aI x2)] [] M Q := aE_go s1_pu_ok [] 108 hd h

-- 136: DioceseBook.piece(IIIII)I
set_option maxRecDepth 100000 in
set_option maxHeartbeats 4000000 in
theorem s1_piece_0 {d : Nat} (hd : 3 < d) {M : AM} {Q : Option AV → AM → Prop} {x1 x2 x3 x4 x5 : Int}
    (h : ((a_bl (0 ≤ x1 ∧ x1 ≤ 99)) = (0 : Int) → Q (some (aI (-100002))) M) ∧ ((a_bl (0 ≤ x1 ∧ x1 ≤ 99)) ≠ (0 : Int) → ((a_bl ((-50 ≤ x2 ∧ x2 ≤ 50) ∧ (-50 ≤ x3 ∧ x3 ≤ 50))) = (0 : Int) → Q (some (aI (-100002))) M) ∧ ((a_bl ((-50 ≤ x2 ∧ x2 ≤ 50) ∧ (-50 ≤ x3 ∧ x3 ≤ 50))) ≠ (0 : Int) → ((a_bl (0 ≤ x4 ∧ x4 ≤ 30000)) = (0 : Int) → Q (some (aI (-100002))) M) ∧ ((a_bl (0 ≤ x4 ∧ x4 ≤ 30000)) ≠ (0 : Int) → ((a_bl (0 ≤ x5 ∧ x5 ≤ 30000)) = (0 : Int) → Q (some (aI (-100002))) M) ∧ ((a_bl (0 ≤ x5 ∧ x5 ≤ 30000)) ≠ (0 : Int) → (x4 ≤ x5 → aKi s1_G d 20 [aP 10, aI x1, aI x2, aI x3, aI x4, aI x5] M (fun z2 M1 => Q (some (aI z2)) M1)) ∧ (x5 < x4 → Q (some (aI (-100002))) M)))))) :
    aE s1_G d 136 0 [] [some (aP 0), some (aI x1), some (aI x2), some (aI x3), some (aI x4), some (aI x5)] [] M Q := aE_go s1_pu_ok [] 130 hd h

-- 137: DioceseBook.one(II)I
set_option maxRecDepth 100000 in
set_option maxHeartbeats 4000000 in
theorem s1_one_0 {d : Nat} (hd : 3 < d) {M : AM} {Q : Option AV → AM → Prop} {x1 x2 : Int}
    (h : ((a_bl (0 ≤ x1 ∧ x1 ≤ a_sub (M 10 5) 1)) = (0 : Int) → Q (some (aI (-100001))) M) ∧ ((a_bl (0 ≤ x1 ∧ x1 ≤ a_sub (M 10 5) 1)) ≠ (0 : Int) → ((a_bl (0 ≤ x2 ∧ x2 ≤ a_sub (M 10 5) 1)) ≠ (0 : Int) → aKi s1_G d 22 [aP 10, aI x1, aI x2] M (fun z2 M1 => (z2 ≠ (0 : Int) → Q (some (aI (a_bl ((1 : Int) ≠ 0)))) M1) ∧ (z2 = (0 : Int) → aKi s1_G d 22 [aP 10, aI x2, aI x1] M1 (fun z4 M3 => (z4 = (0 : Int) → Q (some (aI (a_bl ((0 : Int) ≠ 0)))) M3) ∧ (z4 ≠ (0 : Int) → Q (some (aI (a_bl ((1 : Int) ≠ 0)))) M3))))) ∧ ((a_bl (0 ≤ x2 ∧ x2 ≤ a_sub (M 10 5) 1)) = (0 : Int) → Q (some (aI (-100001))) M))) :
    aE s1_G d 137 0 [] [some (aP 0), some (aI x1), some (aI x2)] [] M Q := aE_go s1_pu_ok [] 130 hd h

-- 138: DioceseBook.lives(I)I
set_option maxRecDepth 100000 in
set_option maxHeartbeats 4000000 in
theorem s1_lives_0 {d : Nat} (hd : 3 < d) {M : AM} {Q : Option AV → AM → Prop} {x1 : Int}
    (h : (x1 = ((-1) : Int) → aKv s1_G d 23 [aP 10] M (fun M1 => (x1 ≠ ((-1) : Int) → (0 ≤ x1 ∧ x1 < 16) ∧ (Q (some (aI (M1 70 x1))) M1)) ∧ (x1 = ((-1) : Int) → Q (some (aI (M1 10 6))) M1))) ∧ (x1 ≠ ((-1) : Int) → ((a_bl (0 ≤ x1 ∧ x1 ≤ a_sub (M 10 5) 1)) ≠ (0 : Int) → aKv s1_G d 23 [aP 10] M (fun M2 => (x1 ≠ ((-1) : Int) → (0 ≤ x1 ∧ x1 < 16) ∧ (Q (some (aI (M2 70 x1))) M2)) ∧ (x1 = ((-1) : Int) → Q (some (aI (M2 10 6))) M2))) ∧ ((a_bl (0 ≤ x1 ∧ x1 ≤ a_sub (M 10 5) 1)) = (0 : Int) → Q (some (aI (-100001))) M))) :
    aE s1_G d 138 0 [] [some (aP 0), some (aI x1)] [] M Q := aE_go s1_pu_ok [] 146 hd h

-- 139: DioceseBook.plan(III)I
set_option maxRecDepth 100000 in
set_option maxHeartbeats 4000000 in
theorem s1_plan_0 {d : Nat} (hd : 3 < d) {M : AM} {Q : Option AV → AM → Prop} {x1 x2 x3 : Int}
    (h : ((a_ushr x1 (M 1 5)) = (0 : Int) → aKi s1_G d 151 [aI x1] M (fun z2 M1 => ((a_bl (1 ≤ z2 ∧ z2 ≤ 8)) = (0 : Int) → Q (some (aI (-100002))) M1) ∧ ((a_bl (1 ≤ z2 ∧ z2 ≤ 8)) ≠ (0 : Int) → ((a_bl (1 ≤ x2 ∧ x2 ≤ 999)) = (0 : Int) → Q (some (aI (-100002))) M1) ∧ ((a_bl (1 ≤ x2 ∧ x2 ≤ 999)) ≠ (0 : Int) → (((-2) : Int) ≤ x3 → aKi s1_G d 101 [aP 11, aI x1, aI x2] M1 (fun z4 M3 => (z4 ≠ (0 : Int) → (x3 ≠ ((-1) : Int) → (x3 ≠ ((-2) : Int) → aKi s1_G d 106 [aP 11, aI x3] M3 (fun z6 M5 => Q (some (aI z6)) M5)) ∧ (x3 = ((-2) : Int) → Q (some (aI (M3 11 10))) M3)) ∧ (x3 = ((-1) : Int) → Q (some (aI (M3 11 9))) M3)) ∧ (z4 = (0 : Int) → Q (some (aI (-100003))) M3))) ∧ (x3 < ((-2) : Int) → Q (some (aI (-100002))) M1))))) ∧ ((a_ushr x1 (M 1 5)) ≠ (0 : Int) → Q (some (aI (-100001))) M)) :
    aE s1_G d 139 0 [] [some (aP 0), some (aI x1), some (aI x2), some (aI x3)] [] M Q := aE_go s1_pu_ok [] 172 hd h

-- 140: DioceseBook.within(III)Z
set_option maxRecDepth 100000 in
set_option maxHeartbeats 4000000 in
theorem s1_within_0 {d : Nat} (hd : 3 < d) {M : AM} {Q : Option AV → AM → Prop} {x0 x1 x2 : Int}
    (h : (x0 < x1 → ((0 : Int) = 0 ∨ (0 : Int) = 1) ∧ Q (some (aI 0)) M) ∧ (x1 ≤ x0 → (x2 < x0 → ((0 : Int) = 0 ∨ (0 : Int) = 1) ∧ Q (some (aI 0)) M) ∧ (x0 ≤ x2 → ((1 : Int) = 0 ∨ (1 : Int) = 1) ∧ Q (some (aI 1)) M))) :
    aE s1_G d 140 0 [] [some (aI x0), some (aI x1), some (aI x2)] [] M Q := aE_go s1_pu_ok [] 86 hd h

-- 141: DioceseBook.oneIf(Z)I
set_option maxRecDepth 100000 in
set_option maxHeartbeats 4000000 in
theorem s1_oneIf_0 {d : Nat} (hd : 3 < d) {M : AM} {Q : Option AV → AM → Prop} {x0 : Int}
    (h : (x0 = (0 : Int) → Q (some (aI 0)) M) ∧ (x0 ≠ (0 : Int) → Q (some (aI 1)) M)) :
    aE s1_G d 141 0 [] [some (aI x0)] [] M Q := aE_go s1_pu_ok [] 74 hd h

-- 142: DioceseBook.isDay(I)Z
set_option maxRecDepth 100000 in
set_option maxHeartbeats 4000000 in
theorem s1_isDay_0 {d : Nat} (hd : 3 < d) {M : AM} {Q : Option AV → AM → Prop} {x0 : Int}
    (h : ((a_bl (0 ≤ x0 ∧ x0 ≤ 30000)) = 0 ∨ (a_bl (0 ≤ x0 ∧ x0 ≤ 30000)) = 1) ∧ Q (some (aI (a_bl (0 ≤ x0 ∧ x0 ≤ 30000)))) M) :
    aE s1_G d 142 0 [] [some (aI x0)] [] M Q := aE_go s1_pu_ok [] 70 hd h

-- 143: DioceseBook.isName(I)Z
set_option maxRecDepth 100000 in
set_option maxHeartbeats 4000000 in
theorem s1_isName_0 {d : Nat} (hd : 3 < d) {M : AM} {Q : Option AV → AM → Prop} {x0 : Int}
    (h : ((a_bl (0 ≤ x0 ∧ x0 ≤ 99)) = 0 ∨ (a_bl (0 ≤ x0 ∧ x0 ≤ 99)) = 1) ∧ Q (some (aI (a_bl (0 ≤ x0 ∧ x0 ≤ 99)))) M) :
    aE s1_G d 143 0 [] [some (aI x0)] [] M Q := aE_go s1_pu_ok [] 70 hd h

-- 144: DioceseBook.isPlace(II)Z
set_option maxRecDepth 100000 in
set_option maxHeartbeats 4000000 in
theorem s1_isPlace_0 {d : Nat} (hd : 3 < d) {M : AM} {Q : Option AV → AM → Prop} {x0 x1 : Int}
    (h : ((a_bl ((-50) ≤ x0 ∧ x0 ≤ 50)) = (0 : Int) → ((0 : Int) = 0 ∨ (0 : Int) = 1) ∧ Q (some (aI 0)) M) ∧ ((a_bl ((-50) ≤ x0 ∧ x0 ≤ 50)) ≠ (0 : Int) → ((a_bl ((-50) ≤ x1 ∧ x1 ≤ 50)) = (0 : Int) → ((0 : Int) = 0 ∨ (0 : Int) = 1) ∧ Q (some (aI 0)) M) ∧ ((a_bl ((-50) ≤ x1 ∧ x1 ≤ 50)) ≠ (0 : Int) → ((1 : Int) = 0 ∨ (1 : Int) = 1) ∧ Q (some (aI 1)) M))) :
    aE s1_G d 144 0 [] [some (aI x0), some (aI x1)] [] M Q := aE_go s1_pu_ok [] 94 hd h

-- 145: DioceseBook.isKnowable(I)Z
set_option maxRecDepth 100000 in
set_option maxHeartbeats 4000000 in
theorem s1_isKnowable_0 {d : Nat} (hd : 3 < d) {M : AM} {Q : Option AV → AM → Prop} {x1 : Int}
    (h : ((a_bl (0 ≤ x1 ∧ x1 ≤ (M 0 10))) = 0 ∨ (a_bl (0 ≤ x1 ∧ x1 ≤ (M 0 10))) = 1) ∧ Q (some (aI (a_bl (0 ≤ x1 ∧ x1 ≤ (M 0 10))))) M) :
    aE s1_G d 145 0 [] [some (aP 0), some (aI x1)] [] M Q := aE_go s1_pu_ok [] 72 hd h

-- 146: DioceseBook.isPerson(I)Z
set_option maxRecDepth 100000 in
set_option maxHeartbeats 4000000 in
theorem s1_isPerson_0 {d : Nat} (hd : 3 < d) {M : AM} {Q : Option AV → AM → Prop} {x1 : Int}
    (h : ((a_bl (0 ≤ x1 ∧ x1 ≤ (a_sub (M 1 4) 1))) = 0 ∨ (a_bl (0 ≤ x1 ∧ x1 ≤ (a_sub (M 1 4) 1))) = 1) ∧ Q (some (aI (a_bl (0 ≤ x1 ∧ x1 ≤ (a_sub (M 1 4) 1))))) M) :
    aE s1_G d 146 0 [] [some (aP 0), some (aI x1)] [] M Q := aE_go s1_pu_ok [] 78 hd h

-- 147: DioceseBook.isLiving(I)Z
set_option maxRecDepth 100000 in
set_option maxHeartbeats 4000000 in
theorem s1_isLiving_0 {d : Nat} (hd : 3 < d) {M : AM} {Q : Option AV → AM → Prop} {x1 : Int}
    (h : ((a_bl (0 ≤ x1 ∧ x1 ≤ (a_sub (M 1 5) 1))) = 0 ∨ (a_bl (0 ≤ x1 ∧ x1 ≤ (a_sub (M 1 5) 1))) = 1) ∧ Q (some (aI (a_bl (0 ≤ x1 ∧ x1 ≤ (a_sub (M 1 5) 1))))) M) :
    aE s1_G d 147 0 [] [some (aP 0), some (aI x1)] [] M Q := aE_go s1_pu_ok [] 78 hd h

-- 148: DioceseBook.isPaper(I)Z
set_option maxRecDepth 100000 in
set_option maxHeartbeats 4000000 in
theorem s1_isPaper_0 {d : Nat} (hd : 3 < d) {M : AM} {Q : Option AV → AM → Prop} {x1 : Int}
    (h : ((a_bl (0 ≤ x1 ∧ x1 ≤ (a_sub (M 2 7) 1))) = 0 ∨ (a_bl (0 ≤ x1 ∧ x1 ≤ (a_sub (M 2 7) 1))) = 1) ∧ Q (some (aI (a_bl (0 ≤ x1 ∧ x1 ≤ (a_sub (M 2 7) 1))))) M) :
    aE s1_G d 148 0 [] [some (aP 0), some (aI x1)] [] M Q := aE_go s1_pu_ok [] 78 hd h

-- 149: DioceseBook.isSuit(I)Z
set_option maxRecDepth 100000 in
set_option maxHeartbeats 4000000 in
theorem s1_isSuit_0 {d : Nat} (hd : 3 < d) {M : AM} {Q : Option AV → AM → Prop} {x1 : Int}
    (h : ((a_bl (0 ≤ x1 ∧ x1 ≤ (a_sub (M 8 4) 1))) = 0 ∨ (a_bl (0 ≤ x1 ∧ x1 ≤ (a_sub (M 8 4) 1))) = 1) ∧ Q (some (aI (a_bl (0 ≤ x1 ∧ x1 ≤ (a_sub (M 8 4) 1))))) M) :
    aE s1_G d 149 0 [] [some (aP 0), some (aI x1)] [] M Q := aE_go s1_pu_ok [] 78 hd h

-- 150: DioceseBook.isPiece(I)Z
set_option maxRecDepth 100000 in
set_option maxHeartbeats 4000000 in
theorem s1_isPiece_0 {d : Nat} (hd : 3 < d) {M : AM} {Q : Option AV → AM → Prop} {x1 : Int}
    (h : ((a_bl (0 ≤ x1 ∧ x1 ≤ (a_sub (M 10 5) 1))) = 0 ∨ (a_bl (0 ≤ x1 ∧ x1 ≤ (a_sub (M 10 5) 1))) = 1) ∧ Q (some (aI (a_bl (0 ≤ x1 ∧ x1 ≤ (a_sub (M 10 5) 1))))) M) :
    aE s1_G d 150 0 [] [some (aP 0), some (aI x1)] [] M Q := aE_go s1_pu_ok [] 78 hd h

-- 151: java/lang/Integer.bitCount(I)I
set_option maxRecDepth 100000 in
set_option maxHeartbeats 4000000 in
theorem s1_Integer_bitCount_0 {d : Nat} (hd : 3 < d) {M : AM} {Q : Option AV → AM → Prop} {x0 : Int}
    (h : Q (some (aI (a_and (a_add (a_add (a_and (a_add (a_add (a_and (a_sub x0 (a_and (a_ushr x0 1) 1431655765)) 858993459) (a_and (a_ushr (a_sub x0 (a_and (a_ushr x0 1) 1431655765)) 2) 858993459)) (a_ushr (a_add (a_and (a_sub x0 (a_and (a_ushr x0 1) 1431655765)) 858993459) (a_and (a_ushr (a_sub x0 (a_and (a_ushr x0 1) 1431655765)) 2) 858993459)) 4)) 252645135) (a_ushr (a_and (a_add (a_add (a_and (a_sub x0 (a_and (a_ushr x0 1) 1431655765)) 858993459) (a_and (a_ushr (a_sub x0 (a_and (a_ushr x0 1) 1431655765)) 2) 858993459)) (a_ushr (a_add (a_and (a_sub x0 (a_and (a_ushr x0 1) 1431655765)) 858993459) (a_and (a_ushr (a_sub x0 (a_and (a_ushr x0 1) 1431655765)) 2) 858993459)) 4)) 252645135) 8)) (a_ushr (a_add (a_and (a_add (a_add (a_and (a_sub x0 (a_and (a_ushr x0 1) 1431655765)) 858993459) (a_and (a_ushr (a_sub x0 (a_and (a_ushr x0 1) 1431655765)) 2) 858993459)) (a_ushr (a_add (a_and (a_sub x0 (a_and (a_ushr x0 1) 1431655765)) 858993459) (a_and (a_ushr (a_sub x0 (a_and (a_ushr x0 1) 1431655765)) 2) 858993459)) 4)) 252645135) (a_ushr (a_and (a_add (a_add (a_and (a_sub x0 (a_and (a_ushr x0 1) 1431655765)) 858993459) (a_and (a_ushr (a_sub x0 (a_and (a_ushr x0 1) 1431655765)) 2) 858993459)) (a_ushr (a_add (a_and (a_sub x0 (a_and (a_ushr x0 1) 1431655765)) 858993459) (a_and (a_ushr (a_sub x0 (a_and (a_ushr x0 1) 1431655765)) 2) 858993459)) 4)) 252645135) 8)) 16)) 63))) M) :
    aE s1_G d 151 0 [] [some (aI x0)] [] M Q := aE_go s1_pu_ok [] 144 hd h

-- 152: java/lang/Long.bitCount(J)I
set_option maxRecDepth 100000 in
set_option maxHeartbeats 4000000 in
theorem s1_Long_bitCount_0 {d : Nat} (hd : 3 < d) {M : AM} {Q : Option AV → AM → Prop} {x0 : Int}
    (h : Q (some (aI (a_and (a_l2i (a_ladd (a_ladd (a_ladd (a_land (a_ladd (a_ladd (a_land (a_lsub x0 (a_land (a_lushr x0 1) 6148914691236517205)) 3689348814741910323) (a_land (a_lushr (a_lsub x0 (a_land (a_lushr x0 1) 6148914691236517205)) 2) 3689348814741910323)) (a_lushr (a_ladd (a_land (a_lsub x0 (a_land (a_lushr x0 1) 6148914691236517205)) 3689348814741910323) (a_land (a_lushr (a_lsub x0 (a_land (a_lushr x0 1) 6148914691236517205)) 2) 3689348814741910323)) 4)) 1085102592571150095) (a_lushr (a_land (a_ladd (a_ladd (a_land (a_lsub x0 (a_land (a_lushr x0 1) 6148914691236517205)) 3689348814741910323) (a_land (a_lushr (a_lsub x0 (a_land (a_lushr x0 1) 6148914691236517205)) 2) 3689348814741910323)) (a_lushr (a_ladd (a_land (a_lsub x0 (a_land (a_lushr x0 1) 6148914691236517205)) 3689348814741910323) (a_land (a_lushr (a_lsub x0 (a_land (a_lushr x0 1) 6148914691236517205)) 2) 3689348814741910323)) 4)) 1085102592571150095) 8)) (a_lushr (a_ladd (a_land (a_ladd (a_ladd (a_land (a_lsub x0 (a_land (a_lushr x0 1) 6148914691236517205)) 3689348814741910323) (a_land (a_lushr (a_lsub x0 (a_land (a_lushr x0 1) 6148914691236517205)) 2) 3689348814741910323)) (a_lushr (a_ladd (a_land (a_lsub x0 (a_land (a_lushr x0 1) 6148914691236517205)) 3689348814741910323) (a_land (a_lushr (a_lsub x0 (a_land (a_lushr x0 1) 6148914691236517205)) 2) 3689348814741910323)) 4)) 1085102592571150095) (a_lushr (a_land (a_ladd (a_ladd (a_land (a_lsub x0 (a_land (a_lushr x0 1) 6148914691236517205)) 3689348814741910323) (a_land (a_lushr (a_lsub x0 (a_land (a_lushr x0 1) 6148914691236517205)) 2) 3689348814741910323)) (a_lushr (a_ladd (a_land (a_lsub x0 (a_land (a_lushr x0 1) 6148914691236517205)) 3689348814741910323) (a_land (a_lushr (a_lsub x0 (a_land (a_lushr x0 1) 6148914691236517205)) 2) 3689348814741910323)) 4)) 1085102592571150095) 8)) 16)) (a_lushr (a_ladd (a_ladd (a_land (a_ladd (a_ladd (a_land (a_lsub x0 (a_land (a_lushr x0 1) 6148914691236517205)) 3689348814741910323) (a_land (a_lushr (a_lsub x0 (a_land (a_lushr x0 1) 6148914691236517205)) 2) 3689348814741910323)) (a_lushr (a_ladd (a_land (a_lsub x0 (a_land (a_lushr x0 1) 6148914691236517205)) 3689348814741910323) (a_land (a_lushr (a_lsub x0 (a_land (a_lushr x0 1) 6148914691236517205)) 2) 3689348814741910323)) 4)) 1085102592571150095) (a_lushr (a_land (a_ladd (a_ladd (a_land (a_lsub x0 (a_land (a_lushr x0 1) 6148914691236517205)) 3689348814741910323) (a_land (a_lushr (a_lsub x0 (a_land (a_lushr x0 1) 6148914691236517205)) 2) 3689348814741910323)) (a_lushr (a_ladd (a_land (a_lsub x0 (a_land (a_lushr x0 1) 6148914691236517205)) 3689348814741910323) (a_land (a_lushr (a_lsub x0 (a_land (a_lushr x0 1) 6148914691236517205)) 2) 3689348814741910323)) 4)) 1085102592571150095) 8)) (a_lushr (a_ladd (a_land (a_ladd (a_ladd (a_land (a_lsub x0 (a_land (a_lushr x0 1) 6148914691236517205)) 3689348814741910323) (a_land (a_lushr (a_lsub x0 (a_land (a_lushr x0 1) 6148914691236517205)) 2) 3689348814741910323)) (a_lushr (a_ladd (a_land (a_lsub x0 (a_land (a_lushr x0 1) 6148914691236517205)) 3689348814741910323) (a_land (a_lushr (a_lsub x0 (a_land (a_lushr x0 1) 6148914691236517205)) 2) 3689348814741910323)) 4)) 1085102592571150095) (a_lushr (a_land (a_ladd (a_ladd (a_land (a_lsub x0 (a_land (a_lushr x0 1) 6148914691236517205)) 3689348814741910323) (a_land (a_lushr (a_lsub x0 (a_land (a_lushr x0 1) 6148914691236517205)) 2) 3689348814741910323)) (a_lushr (a_ladd (a_land (a_lsub x0 (a_land (a_lushr x0 1) 6148914691236517205)) 3689348814741910323) (a_land (a_lushr (a_lsub x0 (a_land (a_lushr x0 1) 6148914691236517205)) 2) 3689348814741910323)) 4)) 1085102592571150095) 8)) 16)) 32))) 127))) M) :
    aE s1_G d 152 0 [] [some (aL x0), none] [] M Q := aE_go s1_pu_ok [] 158 hd h

-- 153: java/lang/Math.abs(I)I
set_option maxRecDepth 100000 in
set_option maxHeartbeats 4000000 in
theorem s1_Math_abs_0 {d : Nat} (hd : 3 < d) {M : AM} {Q : Option AV → AM → Prop} {x0 : Int}
    (h : ((0 : Int) ≤ x0 → Q (some (aI x0)) M) ∧ (x0 < (0 : Int) → Q (some (aI (a_neg x0))) M)) :
    aE s1_G d 153 0 [] [some (aI x0)] [] M Q := aE_go s1_pu_ok [] 76 hd h

-- 154: java/lang/Math.max(II)I
set_option maxRecDepth 100000 in
set_option maxHeartbeats 4000000 in
theorem s1_Math_max_0 {d : Nat} (hd : 3 < d) {M : AM} {Q : Option AV → AM → Prop} {x0 x1 : Int}
    (h : (x0 < x1 → Q (some (aI x1)) M) ∧ (x1 ≤ x0 → Q (some (aI x0)) M)) :
    aE s1_G d 154 0 [] [some (aI x0), some (aI x1)] [] M Q := aE_go s1_pu_ok [] 76 hd h

-- 155: java/lang/Math.min(II)I
set_option maxRecDepth 100000 in
set_option maxHeartbeats 4000000 in
theorem s1_Math_min_0 {d : Nat} (hd : 3 < d) {M : AM} {Q : Option AV → AM → Prop} {x0 x1 : Int}
    (h : (x1 < x0 → Q (some (aI x1)) M) ∧ (x0 ≤ x1 → Q (some (aI x0)) M)) :
    aE s1_G d 155 0 [] [some (aI x0), some (aI x1)] [] M Q := aE_go s1_pu_ok [] 76 hd h
end
