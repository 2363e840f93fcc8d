section
-- ===== PART A: goes FIRST, ahead of the names: the tables' words, and 'selects' of the private methods out of them =====
/-- a private method of a class that the tables say can be made, by its rows of tables_1 -/
def lw_okq (q : MethodName × Nat) : Prop := (q.1.cls ≠ "java/lang/invoke/MethodHandle" ∧ q.1.cls ≠ "java/lang/invoke/VarHandle") ∧ Cond.instantiable q.1.cls q.2 ∈ tables_1 ∧ Cond.privateMethod q.1 ∈ tables_1 ∧ Cond.instanceMethod q.1 ∈ tables_1
theorem lw_p0 : lw_okq (⟨"DioceseBook", "isLiving", "(I)Z"⟩, 11) := ⟨⟨by decide +kernel, by decide +kernel⟩, List.mem_of_getElem? (i := 22) (by decide +kernel), List.mem_of_getElem? (i := 544) (by decide +kernel), List.mem_of_getElem? (i := 545) (by decide +kernel)⟩
theorem lw_p1 : lw_okq (⟨"DioceseBook", "isPerson", "(I)Z"⟩, 11) := ⟨⟨by decide +kernel, by decide +kernel⟩, List.mem_of_getElem? (i := 22) (by decide +kernel), List.mem_of_getElem? (i := 548) (by decide +kernel), List.mem_of_getElem? (i := 549) (by decide +kernel)⟩
theorem lw_p2 : lw_okq (⟨"DioceseBook", "isPaper", "(I)Z"⟩, 11) := ⟨⟨by decide +kernel, by decide +kernel⟩, List.mem_of_getElem? (i := 22) (by decide +kernel), List.mem_of_getElem? (i := 571) (by decide +kernel), List.mem_of_getElem? (i := 572) (by decide +kernel)⟩
theorem lw_p3 : lw_okq (⟨"DioceseBook$Papers", "markVoid", "(I)V"⟩, 14) := ⟨⟨by decide +kernel, by decide +kernel⟩, List.mem_of_getElem? (i := 64) (by decide +kernel), List.mem_of_getElem? (i := 591) (by decide +kernel), List.mem_of_getElem? (i := 592) (by decide +kernel)⟩
theorem lw_p4 : lw_okq (⟨"DioceseBook", "isKnowable", "(I)Z"⟩, 11) := ⟨⟨by decide +kernel, by decide +kernel⟩, List.mem_of_getElem? (i := 22) (by decide +kernel), List.mem_of_getElem? (i := 606) (by decide +kernel), List.mem_of_getElem? (i := 607) (by decide +kernel)⟩
theorem lw_p5 : lw_okq (⟨"DioceseBook$Story", "clearAll", "()V"⟩, 13) := ⟨⟨by decide +kernel, by decide +kernel⟩, List.mem_of_getElem? (i := 222) (by decide +kernel), List.mem_of_getElem? (i := 631) (by decide +kernel), List.mem_of_getElem? (i := 632) (by decide +kernel)⟩
theorem lw_p6 : lw_okq (⟨"DioceseBook$Story", "fallFromAllBut", "(IIII)V"⟩, 13) := ⟨⟨by decide +kernel, by decide +kernel⟩, List.mem_of_getElem? (i := 222) (by decide +kernel), List.mem_of_getElem? (i := 647) (by decide +kernel), List.mem_of_getElem? (i := 648) (by decide +kernel)⟩
theorem lw_p7 : lw_okq (⟨"DioceseBook$Story", "fall", "(III)V"⟩, 13) := ⟨⟨by decide +kernel, by decide +kernel⟩, List.mem_of_getElem? (i := 222) (by decide +kernel), List.mem_of_getElem? (i := 651) (by decide +kernel), List.mem_of_getElem? (i := 652) (by decide +kernel)⟩
theorem lw_p8 : lw_okq (⟨"DioceseBook$Story", "takeIn", "(II)V"⟩, 13) := ⟨⟨by decide +kernel, by decide +kernel⟩, List.mem_of_getElem? (i := 222) (by decide +kernel), List.mem_of_getElem? (i := 674) (by decide +kernel), List.mem_of_getElem? (i := 675) (by decide +kernel)⟩
theorem lw_p9 : lw_okq (⟨"DioceseBook$Canons", "struckBy", "(I)I"⟩, 14) := ⟨⟨by decide +kernel, by decide +kernel⟩, List.mem_of_getElem? (i := 140) (by decide +kernel), List.mem_of_getElem? (i := 702) (by decide +kernel), List.mem_of_getElem? (i := 703) (by decide +kernel)⟩
theorem lw_p10 : lw_okq (⟨"DioceseBook$Canons", "letAll", "(I)V"⟩, 14) := ⟨⟨by decide +kernel, by decide +kernel⟩, List.mem_of_getElem? (i := 140) (by decide +kernel), List.mem_of_getElem? (i := 712) (by decide +kernel), List.mem_of_getElem? (i := 713) (by decide +kernel)⟩
theorem lw_p11 : lw_okq (⟨"DioceseBook$Canons", "isMet", "(II[I)Z"⟩, 14) := ⟨⟨by decide +kernel, by decide +kernel⟩, List.mem_of_getElem? (i := 140) (by decide +kernel), List.mem_of_getElem? (i := 716) (by decide +kernel), List.mem_of_getElem? (i := 717) (by decide +kernel)⟩
theorem lw_p12 : lw_okq (⟨"DioceseBook$Story", "lapsedTo", "(II)I"⟩, 13) := ⟨⟨by decide +kernel, by decide +kernel⟩, List.mem_of_getElem? (i := 222) (by decide +kernel), List.mem_of_getElem? (i := 729) (by decide +kernel), List.mem_of_getElem? (i := 730) (by decide +kernel)⟩
theorem lw_p13 : lw_okq (⟨"DioceseBook$Rights", "firstSold", "(II)I"⟩, 7) := ⟨⟨by decide +kernel, by decide +kernel⟩, List.mem_of_getElem? (i := 229) (by decide +kernel), List.mem_of_getElem? (i := 752) (by decide +kernel), List.mem_of_getElem? (i := 753) (by decide +kernel)⟩
theorem lw_p14 : lw_okq (⟨"DioceseBook$Rights", "livingHeir", "(II)I"⟩, 7) := ⟨⟨by decide +kernel, by decide +kernel⟩, List.mem_of_getElem? (i := 229) (by decide +kernel), List.mem_of_getElem? (i := 756) (by decide +kernel), List.mem_of_getElem? (i := 757) (by decide +kernel)⟩
theorem lw_p15 : lw_okq (⟨"DioceseBook$Story", "otherToKeep", "(III)I"⟩, 13) := ⟨⟨by decide +kernel, by decide +kernel⟩, List.mem_of_getElem? (i := 222) (by decide +kernel), List.mem_of_getElem? (i := 766) (by decide +kernel), List.mem_of_getElem? (i := 767) (by decide +kernel)⟩
def lw_privs_1 : List (MethodName × Nat) := [(⟨"DioceseBook", "isLiving", "(I)Z"⟩, 11), (⟨"DioceseBook", "isPerson", "(I)Z"⟩, 11), (⟨"DioceseBook", "isPaper", "(I)Z"⟩, 11), (⟨"DioceseBook$Papers", "markVoid", "(I)V"⟩, 14), (⟨"DioceseBook", "isKnowable", "(I)Z"⟩, 11), (⟨"DioceseBook$Story", "clearAll", "()V"⟩, 13), (⟨"DioceseBook$Story", "fallFromAllBut", "(IIII)V"⟩, 13), (⟨"DioceseBook$Story", "fall", "(III)V"⟩, 13), (⟨"DioceseBook$Story", "takeIn", "(II)V"⟩, 13), (⟨"DioceseBook$Canons", "struckBy", "(I)I"⟩, 14), (⟨"DioceseBook$Canons", "letAll", "(I)V"⟩, 14), (⟨"DioceseBook$Canons", "isMet", "(II[I)Z"⟩, 14), (⟨"DioceseBook$Story", "lapsedTo", "(II)I"⟩, 13), (⟨"DioceseBook$Rights", "firstSold", "(II)I"⟩, 7), (⟨"DioceseBook$Rights", "livingHeir", "(II)I"⟩, 7), (⟨"DioceseBook$Story", "otherToKeep", "(III)I"⟩, 13)]
theorem lw_r1 : ∀ q ∈ lw_privs_1, lw_okq q := List.forall_mem_cons.mpr ⟨lw_p0, List.forall_mem_cons.mpr ⟨lw_p1, List.forall_mem_cons.mpr ⟨lw_p2, List.forall_mem_cons.mpr ⟨lw_p3, List.forall_mem_cons.mpr ⟨lw_p4, List.forall_mem_cons.mpr ⟨lw_p5, List.forall_mem_cons.mpr ⟨lw_p6, List.forall_mem_cons.mpr ⟨lw_p7, List.forall_mem_cons.mpr ⟨lw_p8, List.forall_mem_cons.mpr ⟨lw_p9, List.forall_mem_cons.mpr ⟨lw_p10, List.forall_mem_cons.mpr ⟨lw_p11, List.forall_mem_cons.mpr ⟨lw_p12, List.forall_mem_cons.mpr ⟨lw_p13, List.forall_mem_cons.mpr ⟨lw_p14, List.forall_mem_cons.mpr ⟨lw_p15, fun _ h => absurd h List.not_mem_nil⟩⟩⟩⟩⟩⟩⟩⟩⟩⟩⟩⟩⟩⟩⟩⟩
theorem lw_p16 : lw_okq (⟨"DioceseBook$Story", "mayHoldBoth", "(IIII)Z"⟩, 13) := ⟨⟨by decide +kernel, by decide +kernel⟩, List.mem_of_getElem? (i := 222) (by decide +kernel), List.mem_of_getElem? (i := 770) (by decide +kernel), List.mem_of_getElem? (i := 771) (by decide +kernel)⟩
theorem lw_p17 : lw_okq (⟨"DioceseBook$Reader", "isAtEnd", "()Z"⟩, 6) := ⟨⟨by decide +kernel, by decide +kernel⟩, List.mem_of_getElem? (i := 194) (by decide +kernel), List.mem_of_getElem? (i := 810) (by decide +kernel), List.mem_of_getElem? (i := 811) (by decide +kernel)⟩
theorem lw_p18 : lw_okq (⟨"DioceseBook$Reader", "skipBlanks", "()V"⟩, 6) := ⟨⟨by decide +kernel, by decide +kernel⟩, List.mem_of_getElem? (i := 194) (by decide +kernel), List.mem_of_getElem? (i := 814) (by decide +kernel), List.mem_of_getElem? (i := 815) (by decide +kernel)⟩
theorem lw_p19 : lw_okq (⟨"DioceseBook$Reader", "clauseWord", "()I"⟩, 6) := ⟨⟨by decide +kernel, by decide +kernel⟩, List.mem_of_getElem? (i := 194) (by decide +kernel), List.mem_of_getElem? (i := 818) (by decide +kernel), List.mem_of_getElem? (i := 819) (by decide +kernel)⟩
theorem lw_p20 : lw_okq (⟨"DioceseBook$Reader", "takeWord", "(Ljava/lang/String;)Z"⟩, 6) := ⟨⟨by decide +kernel, by decide +kernel⟩, List.mem_of_getElem? (i := 194) (by decide +kernel), List.mem_of_getElem? (i := 823) (by decide +kernel), List.mem_of_getElem? (i := 824) (by decide +kernel)⟩
theorem lw_p21 : lw_okq (⟨"DioceseBook$Reader", "fail", "(II)V"⟩, 6) := ⟨⟨by decide +kernel, by decide +kernel⟩, List.mem_of_getElem? (i := 194) (by decide +kernel), List.mem_of_getElem? (i := 877) (by decide +kernel), List.mem_of_getElem? (i := 878) (by decide +kernel)⟩
theorem lw_p22 : lw_okq (⟨"DioceseBook$Reader", "readLet", "()V"⟩, 6) := ⟨⟨by decide +kernel, by decide +kernel⟩, List.mem_of_getElem? (i := 194) (by decide +kernel), List.mem_of_getElem? (i := 881) (by decide +kernel), List.mem_of_getElem? (i := 882) (by decide +kernel)⟩
theorem lw_p23 : lw_okq (⟨"DioceseBook$Reader", "nameWord", "()I"⟩, 6) := ⟨⟨by decide +kernel, by decide +kernel⟩, List.mem_of_getElem? (i := 194) (by decide +kernel), List.mem_of_getElem? (i := 885) (by decide +kernel), List.mem_of_getElem? (i := 886) (by decide +kernel)⟩
theorem lw_p24 : lw_okq (⟨"DioceseBook$Reader", "readNumber", "(I)I"⟩, 6) := ⟨⟨by decide +kernel, by decide +kernel⟩, List.mem_of_getElem? (i := 194) (by decide +kernel), List.mem_of_getElem? (i := 899) (by decide +kernel), List.mem_of_getElem? (i := 900) (by decide +kernel)⟩
theorem lw_p25 : lw_okq (⟨"DioceseBook$Reader", "expect", "(C)V"⟩, 6) := ⟨⟨by decide +kernel, by decide +kernel⟩, List.mem_of_getElem? (i := 194) (by decide +kernel), List.mem_of_getElem? (i := 903) (by decide +kernel), List.mem_of_getElem? (i := 904) (by decide +kernel)⟩
theorem lw_p26 : lw_okq (⟨"DioceseBook$Reader", "takeSign", "(C)Z"⟩, 6) := ⟨⟨by decide +kernel, by decide +kernel⟩, List.mem_of_getElem? (i := 194) (by decide +kernel), List.mem_of_getElem? (i := 907) (by decide +kernel), List.mem_of_getElem? (i := 908) (by decide +kernel)⟩
theorem lw_p27 : lw_okq (⟨"DioceseBook$Reader", "readBar", "()V"⟩, 6) := ⟨⟨by decide +kernel, by decide +kernel⟩, List.mem_of_getElem? (i := 194) (by decide +kernel), List.mem_of_getElem? (i := 915) (by decide +kernel), List.mem_of_getElem? (i := 916) (by decide +kernel)⟩
theorem lw_p28 : lw_okq (⟨"DioceseBook$Reader", "readTest", "(I)V"⟩, 6) := ⟨⟨by decide +kernel, by decide +kernel⟩, List.mem_of_getElem? (i := 194) (by decide +kernel), List.mem_of_getElem? (i := 923) (by decide +kernel), List.mem_of_getElem? (i := 924) (by decide +kernel)⟩
theorem lw_p29 : lw_okq (⟨"DioceseBook$Reader", "readComparison", "()V"⟩, 6) := ⟨⟨by decide +kernel, by decide +kernel⟩, List.mem_of_getElem? (i := 194) (by decide +kernel), List.mem_of_getElem? (i := 928) (by decide +kernel), List.mem_of_getElem? (i := 929) (by decide +kernel)⟩
theorem lw_p30 : lw_okq (⟨"DioceseBook$Reader", "factWord", "()I"⟩, 6) := ⟨⟨by decide +kernel, by decide +kernel⟩, List.mem_of_getElem? (i := 194) (by decide +kernel), List.mem_of_getElem? (i := 932) (by decide +kernel), List.mem_of_getElem? (i := 933) (by decide +kernel)⟩
theorem lw_p31 : lw_okq (⟨"DioceseBook$Reader", "compareSign", "()I"⟩, 6) := ⟨⟨by decide +kernel, by decide +kernel⟩, List.mem_of_getElem? (i := 194) (by decide +kernel), List.mem_of_getElem? (i := 942) (by decide +kernel), List.mem_of_getElem? (i := 943) (by decide +kernel)⟩
def lw_privs_2 : List (MethodName × Nat) := [(⟨"DioceseBook$Story", "mayHoldBoth", "(IIII)Z"⟩, 13), (⟨"DioceseBook$Reader", "isAtEnd", "()Z"⟩, 6), (⟨"DioceseBook$Reader", "skipBlanks", "()V"⟩, 6), (⟨"DioceseBook$Reader", "clauseWord", "()I"⟩, 6), (⟨"DioceseBook$Reader", "takeWord", "(Ljava/lang/String;)Z"⟩, 6), (⟨"DioceseBook$Reader", "fail", "(II)V"⟩, 6), (⟨"DioceseBook$Reader", "readLet", "()V"⟩, 6), (⟨"DioceseBook$Reader", "nameWord", "()I"⟩, 6), (⟨"DioceseBook$Reader", "readNumber", "(I)I"⟩, 6), (⟨"DioceseBook$Reader", "expect", "(C)V"⟩, 6), (⟨"DioceseBook$Reader", "takeSign", "(C)Z"⟩, 6), (⟨"DioceseBook$Reader", "readBar", "()V"⟩, 6), (⟨"DioceseBook$Reader", "readTest", "(I)V"⟩, 6), (⟨"DioceseBook$Reader", "readComparison", "()V"⟩, 6), (⟨"DioceseBook$Reader", "factWord", "()I"⟩, 6), (⟨"DioceseBook$Reader", "compareSign", "()I"⟩, 6)]
theorem lw_r2 : ∀ q ∈ lw_privs_2, lw_okq q := List.forall_mem_cons.mpr ⟨lw_p16, List.forall_mem_cons.mpr ⟨lw_p17, List.forall_mem_cons.mpr ⟨lw_p18, List.forall_mem_cons.mpr ⟨lw_p19, List.forall_mem_cons.mpr ⟨lw_p20, List.forall_mem_cons.mpr ⟨lw_p21, List.forall_mem_cons.mpr ⟨lw_p22, List.forall_mem_cons.mpr ⟨lw_p23, List.forall_mem_cons.mpr ⟨lw_p24, List.forall_mem_cons.mpr ⟨lw_p25, List.forall_mem_cons.mpr ⟨lw_p26, List.forall_mem_cons.mpr ⟨lw_p27, List.forall_mem_cons.mpr ⟨lw_p28, List.forall_mem_cons.mpr ⟨lw_p29, List.forall_mem_cons.mpr ⟨lw_p30, List.forall_mem_cons.mpr ⟨lw_p31, fun _ h => absurd h List.not_mem_nil⟩⟩⟩⟩⟩⟩⟩⟩⟩⟩⟩⟩⟩⟩⟩⟩
theorem lw_p32 : lw_okq (⟨"DioceseBook$Reader", "readStrike", "()V"⟩, 6) := ⟨⟨by decide +kernel, by decide +kernel⟩, List.mem_of_getElem? (i := 194) (by decide +kernel), List.mem_of_getElem? (i := 953) (by decide +kernel), List.mem_of_getElem? (i := 954) (by decide +kernel)⟩
theorem lw_p33 : lw_okq (⟨"DioceseBook", "refusalOfIn", "(II)I"⟩, 11) := ⟨⟨by decide +kernel, by decide +kernel⟩, List.mem_of_getElem? (i := 22) (by decide +kernel), List.mem_of_getElem? (i := 1001) (by decide +kernel), List.mem_of_getElem? (i := 1002) (by decide +kernel)⟩
theorem lw_p34 : lw_okq (⟨"DioceseBook", "isSuit", "(I)Z"⟩, 11) := ⟨⟨by decide +kernel, by decide +kernel⟩, List.mem_of_getElem? (i := 22) (by decide +kernel), List.mem_of_getElem? (i := 1048) (by decide +kernel), List.mem_of_getElem? (i := 1049) (by decide +kernel)⟩
theorem lw_p35 : lw_okq (⟨"DioceseBook$Terriers", "aloneBehind", "(II)I"⟩, 7) := ⟨⟨by decide +kernel, by decide +kernel⟩, List.mem_of_getElem? (i := 359) (by decide +kernel), List.mem_of_getElem? (i := 1126) (by decide +kernel), List.mem_of_getElem? (i := 1127) (by decide +kernel)⟩
theorem lw_p36 : lw_okq (⟨"DioceseBook$Terriers", "aloneCost", "(II)I"⟩, 7) := ⟨⟨by decide +kernel, by decide +kernel⟩, List.mem_of_getElem? (i := 359) (by decide +kernel), List.mem_of_getElem? (i := 1130) (by decide +kernel), List.mem_of_getElem? (i := 1131) (by decide +kernel)⟩
theorem lw_p37 : lw_okq (⟨"DioceseBook$Terriers", "leastFrom", "(III)I"⟩, 7) := ⟨⟨by decide +kernel, by decide +kernel⟩, List.mem_of_getElem? (i := 359) (by decide +kernel), List.mem_of_getElem? (i := 1140) (by decide +kernel), List.mem_of_getElem? (i := 1141) (by decide +kernel)⟩
theorem lw_p38 : lw_okq (⟨"DioceseBook$Terriers", "pairCost", "(III)I"⟩, 7) := ⟨⟨by decide +kernel, by decide +kernel⟩, List.mem_of_getElem? (i := 359) (by decide +kernel), List.mem_of_getElem? (i := 1144) (by decide +kernel), List.mem_of_getElem? (i := 1145) (by decide +kernel)⟩
theorem lw_p39 : lw_okq (⟨"DioceseBook$Terriers", "firstPartner", "(III)I"⟩, 7) := ⟨⟨by decide +kernel, by decide +kernel⟩, List.mem_of_getElem? (i := 359) (by decide +kernel), List.mem_of_getElem? (i := 1150) (by decide +kernel), List.mem_of_getElem? (i := 1151) (by decide +kernel)⟩
theorem lw_p40 : lw_okq (⟨"DioceseBook", "isPiece", "(I)Z"⟩, 11) := ⟨⟨by decide +kernel, by decide +kernel⟩, List.mem_of_getElem? (i := 22) (by decide +kernel), List.mem_of_getElem? (i := 1176) (by decide +kernel), List.mem_of_getElem? (i := 1177) (by decide +kernel)⟩
theorem lw_p41 : lw_okq (⟨"DioceseBook$Lives", "isAhead", "(II)Z"⟩, 12) := ⟨⟨by decide +kernel, by decide +kernel⟩, List.mem_of_getElem? (i := 388) (by decide +kernel), List.mem_of_getElem? (i := 1185) (by decide +kernel), List.mem_of_getElem? (i := 1186) (by decide +kernel)⟩
theorem lw_p42 : lw_okq (⟨"DioceseBook$Lives", "mostLinks", "(II)I"⟩, 12) := ⟨⟨by decide +kernel, by decide +kernel⟩, List.mem_of_getElem? (i := 388) (by decide +kernel), List.mem_of_getElem? (i := 1198) (by decide +kernel), List.mem_of_getElem? (i := 1199) (by decide +kernel)⟩
theorem lw_p43 : lw_okq (⟨"DioceseBook$Lives", "link", "(II)Z"⟩, 12) := ⟨⟨by decide +kernel, by decide +kernel⟩, List.mem_of_getElem? (i := 388) (by decide +kernel), List.mem_of_getElem? (i := 1202) (by decide +kernel), List.mem_of_getElem? (i := 1203) (by decide +kernel)⟩
theorem lw_p44 : lw_okq (⟨"DioceseBook$Lives", "leastBehind", "(III)I"⟩, 12) := ⟨⟨by decide +kernel, by decide +kernel⟩, List.mem_of_getElem? (i := 388) (by decide +kernel), List.mem_of_getElem? (i := 1206) (by decide +kernel), List.mem_of_getElem? (i := 1207) (by decide +kernel)⟩
theorem lw_p45 : lw_okq (⟨"DioceseBook$Visitation", "measure", "()V"⟩, 11) := ⟨⟨by decide +kernel, by decide +kernel⟩, List.mem_of_getElem? (i := 434) (by decide +kernel), List.mem_of_getElem? (i := 1219) (by decide +kernel), List.mem_of_getElem? (i := 1220) (by decide +kernel)⟩
theorem lw_p46 : lw_okq (⟨"DioceseBook$Visitation", "wayTo", "(II)I"⟩, 11) := ⟨⟨by decide +kernel, by decide +kernel⟩, List.mem_of_getElem? (i := 434) (by decide +kernel), List.mem_of_getElem? (i := 1224) (by decide +kernel), List.mem_of_getElem? (i := 1225) (by decide +kernel)⟩
theorem lw_p47 : lw_okq (⟨"DioceseBook$Visitation", "choose", "(I)V"⟩, 11) := ⟨⟨by decide +kernel, by decide +kernel⟩, List.mem_of_getElem? (i := 434) (by decide +kernel), List.mem_of_getElem? (i := 1234) (by decide +kernel), List.mem_of_getElem? (i := 1235) (by decide +kernel)⟩
def lw_privs_3 : List (MethodName × Nat) := [(⟨"DioceseBook$Reader", "readStrike", "()V"⟩, 6), (⟨"DioceseBook", "refusalOfIn", "(II)I"⟩, 11), (⟨"DioceseBook", "isSuit", "(I)Z"⟩, 11), (⟨"DioceseBook$Terriers", "aloneBehind", "(II)I"⟩, 7), (⟨"DioceseBook$Terriers", "aloneCost", "(II)I"⟩, 7), (⟨"DioceseBook$Terriers", "leastFrom", "(III)I"⟩, 7), (⟨"DioceseBook$Terriers", "pairCost", "(III)I"⟩, 7), (⟨"DioceseBook$Terriers", "firstPartner", "(III)I"⟩, 7), (⟨"DioceseBook", "isPiece", "(I)Z"⟩, 11), (⟨"DioceseBook$Lives", "isAhead", "(II)Z"⟩, 12), (⟨"DioceseBook$Lives", "mostLinks", "(II)I"⟩, 12), (⟨"DioceseBook$Lives", "link", "(II)Z"⟩, 12), (⟨"DioceseBook$Lives", "leastBehind", "(III)I"⟩, 12), (⟨"DioceseBook$Visitation", "measure", "()V"⟩, 11), (⟨"DioceseBook$Visitation", "wayTo", "(II)I"⟩, 11), (⟨"DioceseBook$Visitation", "choose", "(I)V"⟩, 11)]
theorem lw_r3 : ∀ q ∈ lw_privs_3, lw_okq q := List.forall_mem_cons.mpr ⟨lw_p32, List.forall_mem_cons.mpr ⟨lw_p33, List.forall_mem_cons.mpr ⟨lw_p34, List.forall_mem_cons.mpr ⟨lw_p35, List.forall_mem_cons.mpr ⟨lw_p36, List.forall_mem_cons.mpr ⟨lw_p37, List.forall_mem_cons.mpr ⟨lw_p38, List.forall_mem_cons.mpr ⟨lw_p39, List.forall_mem_cons.mpr ⟨lw_p40, List.forall_mem_cons.mpr ⟨lw_p41, List.forall_mem_cons.mpr ⟨lw_p42, List.forall_mem_cons.mpr ⟨lw_p43, List.forall_mem_cons.mpr ⟨lw_p44, List.forall_mem_cons.mpr ⟨lw_p45, List.forall_mem_cons.mpr ⟨lw_p46, List.forall_mem_cons.mpr ⟨lw_p47, fun _ h => absurd h List.not_mem_nil⟩⟩⟩⟩⟩⟩⟩⟩⟩⟩⟩⟩⟩⟩⟩⟩
theorem lw_p48 : lw_okq (⟨"DioceseBook$Visitation", "leastFirst", "(II)I"⟩, 11) := ⟨⟨by decide +kernel, by decide +kernel⟩, List.mem_of_getElem? (i := 434) (by decide +kernel), List.mem_of_getElem? (i := 1238) (by decide +kernel), List.mem_of_getElem? (i := 1239) (by decide +kernel)⟩
theorem lw_p49 : lw_okq (⟨"DioceseBookModel", "noLiving", "(I)Z"⟩, 97) := ⟨⟨by decide +kernel, by decide +kernel⟩, List.mem_of_getElem? (i := 1246) (by decide +kernel), List.mem_of_getElem? (i := 1570) (by decide +kernel), List.mem_of_getElem? (i := 1571) (by decide +kernel)⟩
theorem lw_p50 : lw_okq (⟨"DioceseBookModel", "noPerson", "(I)Z"⟩, 97) := ⟨⟨by decide +kernel, by decide +kernel⟩, List.mem_of_getElem? (i := 1246) (by decide +kernel), List.mem_of_getElem? (i := 1574) (by decide +kernel), List.mem_of_getElem? (i := 1575) (by decide +kernel)⟩
theorem lw_p51 : lw_okq (⟨"DioceseBookModel", "isKnown", "(I)Z"⟩, 97) := ⟨⟨by decide +kernel, by decide +kernel⟩, List.mem_of_getElem? (i := 1246) (by decide +kernel), List.mem_of_getElem? (i := 1595) (by decide +kernel), List.mem_of_getElem? (i := 1596) (by decide +kernel)⟩
theorem lw_p52 : lw_okq (⟨"DioceseBookModel", "findVoid", "(I)I"⟩, 97) := ⟨⟨by decide +kernel, by decide +kernel⟩, List.mem_of_getElem? (i := 1246) (by decide +kernel), List.mem_of_getElem? (i := 1606) (by decide +kernel), List.mem_of_getElem? (i := 1607) (by decide +kernel)⟩
theorem lw_p53 : lw_okq (⟨"DioceseBookModel", "findBook", "(I)V"⟩, 97) := ⟨⟨by decide +kernel, by decide +kernel⟩, List.mem_of_getElem? (i := 1246) (by decide +kernel), List.mem_of_getElem? (i := 1617) (by decide +kernel), List.mem_of_getElem? (i := 1618) (by decide +kernel)⟩
theorem lw_p54 : lw_okq (⟨"DioceseBookModel", "dayOn", "(II)I"⟩, 97) := ⟨⟨by decide +kernel, by decide +kernel⟩, List.mem_of_getElem? (i := 1246) (by decide +kernel), List.mem_of_getElem? (i := 1626) (by decide +kernel), List.mem_of_getElem? (i := 1627) (by decide +kernel)⟩
theorem lw_p55 : lw_okq (⟨"DioceseBookModel", "firstOf", "(II)I"⟩, 97) := ⟨⟨by decide +kernel, by decide +kernel⟩, List.mem_of_getElem? (i := 1246) (by decide +kernel), List.mem_of_getElem? (i := 1630) (by decide +kernel), List.mem_of_getElem? (i := 1631) (by decide +kernel)⟩
theorem lw_p56 : lw_okq (⟨"DioceseBookModel", "heirOf", "(II)I"⟩, 97) := ⟨⟨by decide +kernel, by decide +kernel⟩, List.mem_of_getElem? (i := 1246) (by decide +kernel), List.mem_of_getElem? (i := 1634) (by decide +kernel), List.mem_of_getElem? (i := 1635) (by decide +kernel)⟩
theorem lw_p57 : lw_okq (⟨"DioceseBookModel", "hasLeave", "(II)Z"⟩, 97) := ⟨⟨by decide +kernel, by decide +kernel⟩, List.mem_of_getElem? (i := 1246) (by decide +kernel), List.mem_of_getElem? (i := 1638) (by decide +kernel), List.mem_of_getElem? (i := 1639) (by decide +kernel)⟩
theorem lw_p58 : lw_okq (⟨"DioceseBookModel", "readAll", "()I"⟩, 97) := ⟨⟨by decide +kernel, by decide +kernel⟩, List.mem_of_getElem? (i := 1246) (by decide +kernel), List.mem_of_getElem? (i := 1656) (by decide +kernel), List.mem_of_getElem? (i := 1657) (by decide +kernel)⟩
theorem lw_p59 : lw_okq (⟨"DioceseBookModel", "here", "()I"⟩, 97) := ⟨⟨by decide +kernel, by decide +kernel⟩, List.mem_of_getElem? (i := 1246) (by decide +kernel), List.mem_of_getElem? (i := 1660) (by decide +kernel), List.mem_of_getElem? (i := 1661) (by decide +kernel)⟩
theorem lw_p60 : lw_okq (⟨"DioceseBookModel", "takeWord", "()V"⟩, 97) := ⟨⟨by decide +kernel, by decide +kernel⟩, List.mem_of_getElem? (i := 1246) (by decide +kernel), List.mem_of_getElem? (i := 1664) (by decide +kernel), List.mem_of_getElem? (i := 1665) (by decide +kernel)⟩
theorem lw_p61 : lw_okq (⟨"DioceseBookModel", "isWord", "(IIIIIII)Z"⟩, 97) := ⟨⟨by decide +kernel, by decide +kernel⟩, List.mem_of_getElem? (i := 1246) (by decide +kernel), List.mem_of_getElem? (i := 1670) (by decide +kernel), List.mem_of_getElem? (i := 1671) (by decide +kernel)⟩
theorem lw_p62 : lw_okq (⟨"DioceseBookModel", "want", "(ZII)Z"⟩, 97) := ⟨⟨by decide +kernel, by decide +kernel⟩, List.mem_of_getElem? (i := 1246) (by decide +kernel), List.mem_of_getElem? (i := 1674) (by decide +kernel), List.mem_of_getElem? (i := 1675) (by decide +kernel)⟩
theorem lw_p63 : lw_okq (⟨"DioceseBookModel", "readClause", "(II)V"⟩, 97) := ⟨⟨by decide +kernel, by decide +kernel⟩, List.mem_of_getElem? (i := 1246) (by decide +kernel), List.mem_of_getElem? (i := 1678) (by decide +kernel), List.mem_of_getElem? (i := 1679) (by decide +kernel)⟩
def lw_privs_4 : List (MethodName × Nat) := [(⟨"DioceseBook$Visitation", "leastFirst", "(II)I"⟩, 11), (⟨"DioceseBookModel", "noLiving", "(I)Z"⟩, 97), (⟨"DioceseBookModel", "noPerson", "(I)Z"⟩, 97), (⟨"DioceseBookModel", "isKnown", "(I)Z"⟩, 97), (⟨"DioceseBookModel", "findVoid", "(I)I"⟩, 97), (⟨"DioceseBookModel", "findBook", "(I)V"⟩, 97), (⟨"DioceseBookModel", "dayOn", "(II)I"⟩, 97), (⟨"DioceseBookModel", "firstOf", "(II)I"⟩, 97), (⟨"DioceseBookModel", "heirOf", "(II)I"⟩, 97), (⟨"DioceseBookModel", "hasLeave", "(II)Z"⟩, 97), (⟨"DioceseBookModel", "readAll", "()I"⟩, 97), (⟨"DioceseBookModel", "here", "()I"⟩, 97), (⟨"DioceseBookModel", "takeWord", "()V"⟩, 97), (⟨"DioceseBookModel", "isWord", "(IIIIIII)Z"⟩, 97), (⟨"DioceseBookModel", "want", "(ZII)Z"⟩, 97), (⟨"DioceseBookModel", "readClause", "(II)V"⟩, 97)]
theorem lw_r4 : ∀ q ∈ lw_privs_4, lw_okq q := List.forall_mem_cons.mpr ⟨lw_p48, List.forall_mem_cons.mpr ⟨lw_p49, List.forall_mem_cons.mpr ⟨lw_p50, List.forall_mem_cons.mpr ⟨lw_p51, List.forall_mem_cons.mpr ⟨lw_p52, List.forall_mem_cons.mpr ⟨lw_p53, List.forall_mem_cons.mpr ⟨lw_p54, List.forall_mem_cons.mpr ⟨lw_p55, List.forall_mem_cons.mpr ⟨lw_p56, List.forall_mem_cons.mpr ⟨lw_p57, List.forall_mem_cons.mpr ⟨lw_p58, List.forall_mem_cons.mpr ⟨lw_p59, List.forall_mem_cons.mpr ⟨lw_p60, List.forall_mem_cons.mpr ⟨lw_p61, List.forall_mem_cons.mpr ⟨lw_p62, List.forall_mem_cons.mpr ⟨lw_p63, fun _ h => absurd h List.not_mem_nil⟩⟩⟩⟩⟩⟩⟩⟩⟩⟩⟩⟩⟩⟩⟩⟩
theorem lw_p64 : lw_okq (⟨"DioceseBookModel", "nameOf", "()I"⟩, 97) := ⟨⟨by decide +kernel, by decide +kernel⟩, List.mem_of_getElem? (i := 1246) (by decide +kernel), List.mem_of_getElem? (i := 1682) (by decide +kernel), List.mem_of_getElem? (i := 1683) (by decide +kernel)⟩
theorem lw_p65 : lw_okq (⟨"DioceseBookModel", "takeNumber", "(I)I"⟩, 97) := ⟨⟨by decide +kernel, by decide +kernel⟩, List.mem_of_getElem? (i := 1246) (by decide +kernel), List.mem_of_getElem? (i := 1689) (by decide +kernel), List.mem_of_getElem? (i := 1690) (by decide +kernel)⟩
theorem lw_p66 : lw_okq (⟨"DioceseBookModel", "readTest", "(Z)Z"⟩, 97) := ⟨⟨by decide +kernel, by decide +kernel⟩, List.mem_of_getElem? (i := 1246) (by decide +kernel), List.mem_of_getElem? (i := 1695) (by decide +kernel), List.mem_of_getElem? (i := 1696) (by decide +kernel)⟩
theorem lw_p67 : lw_okq (⟨"DioceseBookModel", "readOne", "()Z"⟩, 97) := ⟨⟨by decide +kernel, by decide +kernel⟩, List.mem_of_getElem? (i := 1246) (by decide +kernel), List.mem_of_getElem? (i := 1699) (by decide +kernel), List.mem_of_getElem? (i := 1700) (by decide +kernel)⟩
theorem lw_p68 : lw_okq (⟨"DioceseBookModel", "push", "(I)V"⟩, 97) := ⟨⟨by decide +kernel, by decide +kernel⟩, List.mem_of_getElem? (i := 1246) (by decide +kernel), List.mem_of_getElem? (i := 1703) (by decide +kernel), List.mem_of_getElem? (i := 1704) (by decide +kernel)⟩
theorem lw_p69 : lw_okq (⟨"DioceseBookModel", "factOf", "()I"⟩, 97) := ⟨⟨by decide +kernel, by decide +kernel⟩, List.mem_of_getElem? (i := 1246) (by decide +kernel), List.mem_of_getElem? (i := 1707) (by decide +kernel), List.mem_of_getElem? (i := 1708) (by decide +kernel)⟩
theorem lw_p70 : lw_okq (⟨"DioceseBookModel", "emit", "(I)V"⟩, 97) := ⟨⟨by decide +kernel, by decide +kernel⟩, List.mem_of_getElem? (i := 1246) (by decide +kernel), List.mem_of_getElem? (i := 1711) (by decide +kernel), List.mem_of_getElem? (i := 1712) (by decide +kernel)⟩
theorem lw_p71 : lw_okq (⟨"DioceseBookModel", "letOut", "(I)V"⟩, 97) := ⟨⟨by decide +kernel, by decide +kernel⟩, List.mem_of_getElem? (i := 1246) (by decide +kernel), List.mem_of_getElem? (i := 1715) (by decide +kernel), List.mem_of_getElem? (i := 1716) (by decide +kernel)⟩
theorem lw_p72 : lw_okq (⟨"DioceseBookModel", "forceOf", "(II)I"⟩, 97) := ⟨⟨by decide +kernel, by decide +kernel⟩, List.mem_of_getElem? (i := 1246) (by decide +kernel), List.mem_of_getElem? (i := 1728) (by decide +kernel), List.mem_of_getElem? (i := 1729) (by decide +kernel)⟩
theorem lw_p73 : lw_okq (⟨"DioceseBookModel", "findCanons", "(I)V"⟩, 97) := ⟨⟨by decide +kernel, by decide +kernel⟩, List.mem_of_getElem? (i := 1246) (by decide +kernel), List.mem_of_getElem? (i := 1732) (by decide +kernel), List.mem_of_getElem? (i := 1733) (by decide +kernel)⟩
theorem lw_p74 : lw_okq (⟨"DioceseBookModel", "watch", "(III)V"⟩, 97) := ⟨⟨by decide +kernel, by decide +kernel⟩, List.mem_of_getElem? (i := 1246) (by decide +kernel), List.mem_of_getElem? (i := 1747) (by decide +kernel), List.mem_of_getElem? (i := 1748) (by decide +kernel)⟩
theorem lw_p75 : lw_okq (⟨"DioceseBookModel", "tell", "(II)V"⟩, 97) := ⟨⟨by decide +kernel, by decide +kernel⟩, List.mem_of_getElem? (i := 1246) (by decide +kernel), List.mem_of_getElem? (i := 1751) (by decide +kernel), List.mem_of_getElem? (i := 1752) (by decide +kernel)⟩
theorem lw_p76 : lw_okq (⟨"DioceseBookModel", "lay", "(III)V"⟩, 97) := ⟨⟨by decide +kernel, by decide +kernel⟩, List.mem_of_getElem? (i := 1246) (by decide +kernel), List.mem_of_getElem? (i := 1755) (by decide +kernel), List.mem_of_getElem? (i := 1756) (by decide +kernel)⟩
theorem lw_p77 : lw_okq (⟨"DioceseBookModel", "befall", "(I)V"⟩, 97) := ⟨⟨by decide +kernel, by decide +kernel⟩, List.mem_of_getElem? (i := 1246) (by decide +kernel), List.mem_of_getElem? (i := 1759) (by decide +kernel), List.mem_of_getElem? (i := 1760) (by decide +kernel)⟩
theorem lw_p78 : lw_okq (⟨"DioceseBookModel", "goIn", "(I)V"⟩, 97) := ⟨⟨by decide +kernel, by decide +kernel⟩, List.mem_of_getElem? (i := 1246) (by decide +kernel), List.mem_of_getElem? (i := 1763) (by decide +kernel), List.mem_of_getElem? (i := 1764) (by decide +kernel)⟩
theorem lw_p79 : lw_okq (⟨"DioceseBookModel", "isDead", "(II)Z"⟩, 97) := ⟨⟨by decide +kernel, by decide +kernel⟩, List.mem_of_getElem? (i := 1246) (by decide +kernel), List.mem_of_getElem? (i := 1767) (by decide +kernel), List.mem_of_getElem? (i := 1768) (by decide +kernel)⟩
def lw_privs_5 : List (MethodName × Nat) := [(⟨"DioceseBookModel", "nameOf", "()I"⟩, 97), (⟨"DioceseBookModel", "takeNumber", "(I)I"⟩, 97), (⟨"DioceseBookModel", "readTest", "(Z)Z"⟩, 97), (⟨"DioceseBookModel", "readOne", "()Z"⟩, 97), (⟨"DioceseBookModel", "push", "(I)V"⟩, 97), (⟨"DioceseBookModel", "factOf", "()I"⟩, 97), (⟨"DioceseBookModel", "emit", "(I)V"⟩, 97), (⟨"DioceseBookModel", "letOut", "(I)V"⟩, 97), (⟨"DioceseBookModel", "forceOf", "(II)I"⟩, 97), (⟨"DioceseBookModel", "findCanons", "(I)V"⟩, 97), (⟨"DioceseBookModel", "watch", "(III)V"⟩, 97), (⟨"DioceseBookModel", "tell", "(II)V"⟩, 97), (⟨"DioceseBookModel", "lay", "(III)V"⟩, 97), (⟨"DioceseBookModel", "befall", "(I)V"⟩, 97), (⟨"DioceseBookModel", "goIn", "(I)V"⟩, 97), (⟨"DioceseBookModel", "isDead", "(II)Z"⟩, 97)]
theorem lw_r5 : ∀ q ∈ lw_privs_5, lw_okq q := List.forall_mem_cons.mpr ⟨lw_p64, List.forall_mem_cons.mpr ⟨lw_p65, List.forall_mem_cons.mpr ⟨lw_p66, List.forall_mem_cons.mpr ⟨lw_p67, List.forall_mem_cons.mpr ⟨lw_p68, List.forall_mem_cons.mpr ⟨lw_p69, List.forall_mem_cons.mpr ⟨lw_p70, List.forall_mem_cons.mpr ⟨lw_p71, List.forall_mem_cons.mpr ⟨lw_p72, List.forall_mem_cons.mpr ⟨lw_p73, List.forall_mem_cons.mpr ⟨lw_p74, List.forall_mem_cons.mpr ⟨lw_p75, List.forall_mem_cons.mpr ⟨lw_p76, List.forall_mem_cons.mpr ⟨lw_p77, List.forall_mem_cons.mpr ⟨lw_p78, List.forall_mem_cons.mpr ⟨lw_p79, fun _ h => absurd h List.not_mem_nil⟩⟩⟩⟩⟩⟩⟩⟩⟩⟩⟩⟩⟩⟩⟩⟩
theorem lw_p80 : lw_okq (⟨"DioceseBookModel", "barFor", "(III)I"⟩, 97) := ⟨⟨by decide +kernel, by decide +kernel⟩, List.mem_of_getElem? (i := 1246) (by decide +kernel), List.mem_of_getElem? (i := 1771) (by decide +kernel), List.mem_of_getElem? (i := 1772) (by decide +kernel)⟩
theorem lw_p81 : lw_okq (⟨"DioceseBookModel", "isMet", "(IIIIII)Z"⟩, 97) := ⟨⟨by decide +kernel, by decide +kernel⟩, List.mem_of_getElem? (i := 1246) (by decide +kernel), List.mem_of_getElem? (i := 1775) (by decide +kernel), List.mem_of_getElem? (i := 1776) (by decide +kernel)⟩
theorem lw_p82 : lw_okq (⟨"DioceseBookModel", "factFor", "(IIII)I"⟩, 97) := ⟨⟨by decide +kernel, by decide +kernel⟩, List.mem_of_getElem? (i := 1246) (by decide +kernel), List.mem_of_getElem? (i := 1779) (by decide +kernel), List.mem_of_getElem? (i := 1780) (by decide +kernel)⟩
theorem lw_p83 : lw_okq (⟨"DioceseBookModel", "placeOf", "(II)I"⟩, 97) := ⟨⟨by decide +kernel, by decide +kernel⟩, List.mem_of_getElem? (i := 1246) (by decide +kernel), List.mem_of_getElem? (i := 1783) (by decide +kernel), List.mem_of_getElem? (i := 1784) (by decide +kernel)⟩
theorem lw_p84 : lw_okq (⟨"DioceseBookModel", "miles", "(II)I"⟩, 97) := ⟨⟨by decide +kernel, by decide +kernel⟩, List.mem_of_getElem? (i := 1246) (by decide +kernel), List.mem_of_getElem? (i := 1787) (by decide +kernel), List.mem_of_getElem? (i := 1788) (by decide +kernel)⟩
theorem lw_p85 : lw_okq (⟨"DioceseBookModel", "whoMay", "(II)I"⟩, 97) := ⟨⟨by decide +kernel, by decide +kernel⟩, List.mem_of_getElem? (i := 1246) (by decide +kernel), List.mem_of_getElem? (i := 1794) (by decide +kernel), List.mem_of_getElem? (i := 1795) (by decide +kernel)⟩
theorem lw_p86 : lw_okq (⟨"DioceseBookModel", "lapses", "(II)I"⟩, 97) := ⟨⟨by decide +kernel, by decide +kernel⟩, List.mem_of_getElem? (i := 1246) (by decide +kernel), List.mem_of_getElem? (i := 1798) (by decide +kernel), List.mem_of_getElem? (i := 1799) (by decide +kernel)⟩
theorem lw_p87 : lw_okq (⟨"DioceseBookModel", "countFrom", "(I)I"⟩, 97) := ⟨⟨by decide +kernel, by decide +kernel⟩, List.mem_of_getElem? (i := 1246) (by decide +kernel), List.mem_of_getElem? (i := 1802) (by decide +kernel), List.mem_of_getElem? (i := 1803) (by decide +kernel)⟩
theorem lw_p88 : lw_okq (⟨"DioceseBookModel", "patronOf", "(II)I"⟩, 97) := ⟨⟨by decide +kernel, by decide +kernel⟩, List.mem_of_getElem? (i := 1246) (by decide +kernel), List.mem_of_getElem? (i := 1806) (by decide +kernel), List.mem_of_getElem? (i := 1807) (by decide +kernel)⟩
theorem lw_p89 : lw_okq (⟨"DioceseBookModel", "soldTurn", "(I)I"⟩, 97) := ⟨⟨by decide +kernel, by decide +kernel⟩, List.mem_of_getElem? (i := 1246) (by decide +kernel), List.mem_of_getElem? (i := 1810) (by decide +kernel), List.mem_of_getElem? (i := 1811) (by decide +kernel)⟩
theorem lw_p90 : lw_okq (⟨"DioceseBookModel", "turnOf", "(I)I"⟩, 97) := ⟨⟨by decide +kernel, by decide +kernel⟩, List.mem_of_getElem? (i := 1246) (by decide +kernel), List.mem_of_getElem? (i := 1814) (by decide +kernel), List.mem_of_getElem? (i := 1815) (by decide +kernel)⟩
theorem lw_p91 : lw_okq (⟨"DioceseBookModel", "useTurn", "(I)V"⟩, 97) := ⟨⟨by decide +kernel, by decide +kernel⟩, List.mem_of_getElem? (i := 1246) (by decide +kernel), List.mem_of_getElem? (i := 1818) (by decide +kernel), List.mem_of_getElem? (i := 1819) (by decide +kernel)⟩
theorem lw_p92 : lw_okq (⟨"DioceseBookModel", "enter", "(III)V"⟩, 97) := ⟨⟨by decide +kernel, by decide +kernel⟩, List.mem_of_getElem? (i := 1246) (by decide +kernel), List.mem_of_getElem? (i := 1822) (by decide +kernel), List.mem_of_getElem? (i := 1823) (by decide +kernel)⟩
theorem lw_p93 : lw_okq (⟨"DioceseBookModel", "note", "(II)V"⟩, 97) := ⟨⟨by decide +kernel, by decide +kernel⟩, List.mem_of_getElem? (i := 1246) (by decide +kernel), List.mem_of_getElem? (i := 1826) (by decide +kernel), List.mem_of_getElem? (i := 1827) (by decide +kernel)⟩
theorem lw_p94 : lw_okq (⟨"DioceseBookModel", "leaveOthers", "(III)V"⟩, 97) := ⟨⟨by decide +kernel, by decide +kernel⟩, List.mem_of_getElem? (i := 1246) (by decide +kernel), List.mem_of_getElem? (i := 1830) (by decide +kernel), List.mem_of_getElem? (i := 1831) (by decide +kernel)⟩
theorem lw_p95 : lw_okq (⟨"DioceseBookModel", "leave", "(IIII)V"⟩, 97) := ⟨⟨by decide +kernel, by decide +kernel⟩, List.mem_of_getElem? (i := 1246) (by decide +kernel), List.mem_of_getElem? (i := 1834) (by decide +kernel), List.mem_of_getElem? (i := 1835) (by decide +kernel)⟩
def lw_privs_6 : List (MethodName × Nat) := [(⟨"DioceseBookModel", "barFor", "(III)I"⟩, 97), (⟨"DioceseBookModel", "isMet", "(IIIIII)Z"⟩, 97), (⟨"DioceseBookModel", "factFor", "(IIII)I"⟩, 97), (⟨"DioceseBookModel", "placeOf", "(II)I"⟩, 97), (⟨"DioceseBookModel", "miles", "(II)I"⟩, 97), (⟨"DioceseBookModel", "whoMay", "(II)I"⟩, 97), (⟨"DioceseBookModel", "lapses", "(II)I"⟩, 97), (⟨"DioceseBookModel", "countFrom", "(I)I"⟩, 97), (⟨"DioceseBookModel", "patronOf", "(II)I"⟩, 97), (⟨"DioceseBookModel", "soldTurn", "(I)I"⟩, 97), (⟨"DioceseBookModel", "turnOf", "(I)I"⟩, 97), (⟨"DioceseBookModel", "useTurn", "(I)V"⟩, 97), (⟨"DioceseBookModel", "enter", "(III)V"⟩, 97), (⟨"DioceseBookModel", "note", "(II)V"⟩, 97), (⟨"DioceseBookModel", "leaveOthers", "(III)V"⟩, 97), (⟨"DioceseBookModel", "leave", "(IIII)V"⟩, 97)]
theorem lw_r6 : ∀ q ∈ lw_privs_6, lw_okq q := List.forall_mem_cons.mpr ⟨lw_p80, List.forall_mem_cons.mpr ⟨lw_p81, List.forall_mem_cons.mpr ⟨lw_p82, List.forall_mem_cons.mpr ⟨lw_p83, List.forall_mem_cons.mpr ⟨lw_p84, List.forall_mem_cons.mpr ⟨lw_p85, List.forall_mem_cons.mpr ⟨lw_p86, List.forall_mem_cons.mpr ⟨lw_p87, List.forall_mem_cons.mpr ⟨lw_p88, List.forall_mem_cons.mpr ⟨lw_p89, List.forall_mem_cons.mpr ⟨lw_p90, List.forall_mem_cons.mpr ⟨lw_p91, List.forall_mem_cons.mpr ⟨lw_p92, List.forall_mem_cons.mpr ⟨lw_p93, List.forall_mem_cons.mpr ⟨lw_p94, List.forall_mem_cons.mpr ⟨lw_p95, fun _ h => absurd h List.not_mem_nil⟩⟩⟩⟩⟩⟩⟩⟩⟩⟩⟩⟩⟩⟩⟩⟩
theorem lw_p96 : lw_okq (⟨"DioceseBookModel", "die", "(I)V"⟩, 97) := ⟨⟨by decide +kernel, by decide +kernel⟩, List.mem_of_getElem? (i := 1246) (by decide +kernel), List.mem_of_getElem? (i := 1838) (by decide +kernel), List.mem_of_getElem? (i := 1839) (by decide +kernel)⟩
theorem lw_p97 : lw_okq (⟨"DioceseBookModel", "setOf", "(I)I"⟩, 97) := ⟨⟨by decide +kernel, by decide +kernel⟩, List.mem_of_getElem? (i := 1246) (by decide +kernel), List.mem_of_getElem? (i := 1846) (by decide +kernel), List.mem_of_getElem? (i := 1847) (by decide +kernel)⟩
theorem lw_p98 : lw_okq (⟨"DioceseBookModel", "unused", "(I)I"⟩, 97) := ⟨⟨by decide +kernel, by decide +kernel⟩, List.mem_of_getElem? (i := 1246) (by decide +kernel), List.mem_of_getElem? (i := 1850) (by decide +kernel), List.mem_of_getElem? (i := 1851) (by decide +kernel)⟩
theorem lw_p99 : lw_okq (⟨"DioceseBookModel", "whyOf", "(II)I"⟩, 97) := ⟨⟨by decide +kernel, by decide +kernel⟩, List.mem_of_getElem? (i := 1246) (by decide +kernel), List.mem_of_getElem? (i := 1858) (by decide +kernel), List.mem_of_getElem? (i := 1859) (by decide +kernel)⟩
theorem lw_p100 : lw_okq (⟨"DioceseBookModel", "livingsToday", "(Z)I"⟩, 97) := ⟨⟨by decide +kernel, by decide +kernel⟩, List.mem_of_getElem? (i := 1246) (by decide +kernel), List.mem_of_getElem? (i := 1883) (by decide +kernel), List.mem_of_getElem? (i := 1884) (by decide +kernel)⟩
theorem lw_p101 : lw_okq (⟨"DioceseBookModel", "noSuit", "(I)Z"⟩, 97) := ⟨⟨by decide +kernel, by decide +kernel⟩, List.mem_of_getElem? (i := 1246) (by decide +kernel), List.mem_of_getElem? (i := 1895) (by decide +kernel), List.mem_of_getElem? (i := 1896) (by decide +kernel)⟩
theorem lw_p102 : lw_okq (⟨"DioceseBookModel", "decayOf", "(III)I"⟩, 97) := ⟨⟨by decide +kernel, by decide +kernel⟩, List.mem_of_getElem? (i := 1246) (by decide +kernel), List.mem_of_getElem? (i := 1913) (by decide +kernel), List.mem_of_getElem? (i := 1914) (by decide +kernel)⟩
theorem lw_p103 : lw_okq (⟨"DioceseBookModel", "findMatch", "(I)V"⟩, 97) := ⟨⟨by decide +kernel, by decide +kernel⟩, List.mem_of_getElem? (i := 1246) (by decide +kernel), List.mem_of_getElem? (i := 1926) (by decide +kernel), List.mem_of_getElem? (i := 1927) (by decide +kernel)⟩
theorem lw_p104 : lw_okq (⟨"DioceseBookModel", "alone", "(I)I"⟩, 97) := ⟨⟨by decide +kernel, by decide +kernel⟩, List.mem_of_getElem? (i := 1246) (by decide +kernel), List.mem_of_getElem? (i := 1930) (by decide +kernel), List.mem_of_getElem? (i := 1931) (by decide +kernel)⟩
theorem lw_p105 : lw_okq (⟨"DioceseBookModel", "pairCost", "(II)I"⟩, 97) := ⟨⟨by decide +kernel, by decide +kernel⟩, List.mem_of_getElem? (i := 1246) (by decide +kernel), List.mem_of_getElem? (i := 1935) (by decide +kernel), List.mem_of_getElem? (i := 1936) (by decide +kernel)⟩
theorem lw_p106 : lw_okq (⟨"DioceseBookModel", "noPiece", "(I)Z"⟩, 97) := ⟨⟨by decide +kernel, by decide +kernel⟩, List.mem_of_getElem? (i := 1246) (by decide +kernel), List.mem_of_getElem? (i := 1947) (by decide +kernel), List.mem_of_getElem? (i := 1948) (by decide +kernel)⟩
theorem lw_p107 : lw_okq (⟨"DioceseBookModel", "mayFollow", "(II)Z"⟩, 97) := ⟨⟨by decide +kernel, by decide +kernel⟩, List.mem_of_getElem? (i := 1246) (by decide +kernel), List.mem_of_getElem? (i := 1951) (by decide +kernel), List.mem_of_getElem? (i := 1952) (by decide +kernel)⟩
theorem lw_p108 : lw_okq (⟨"DioceseBookModel", "isAhead", "(II)Z"⟩, 97) := ⟨⟨by decide +kernel, by decide +kernel⟩, List.mem_of_getElem? (i := 1246) (by decide +kernel), List.mem_of_getElem? (i := 1955) (by decide +kernel), List.mem_of_getElem? (i := 1956) (by decide +kernel)⟩
theorem lw_p109 : lw_okq (⟨"DioceseBookModel", "findLives", "()V"⟩, 97) := ⟨⟨by decide +kernel, by decide +kernel⟩, List.mem_of_getElem? (i := 1246) (by decide +kernel), List.mem_of_getElem? (i := 1963) (by decide +kernel), List.mem_of_getElem? (i := 1964) (by decide +kernel)⟩
theorem lw_p110 : lw_okq (⟨"DioceseBookModel", "mostPairs", "(I)I"⟩, 97) := ⟨⟨by decide +kernel, by decide +kernel⟩, List.mem_of_getElem? (i := 1246) (by decide +kernel), List.mem_of_getElem? (i := 1967) (by decide +kernel), List.mem_of_getElem? (i := 1968) (by decide +kernel)⟩
theorem lw_p111 : lw_okq (⟨"DioceseBookModel", "oneMore", "(II)Z"⟩, 97) := ⟨⟨by decide +kernel, by decide +kernel⟩, List.mem_of_getElem? (i := 1246) (by decide +kernel), List.mem_of_getElem? (i := 1971) (by decide +kernel), List.mem_of_getElem? (i := 1972) (by decide +kernel)⟩
def lw_privs_7 : List (MethodName × Nat) := [(⟨"DioceseBookModel", "die", "(I)V"⟩, 97), (⟨"DioceseBookModel", "setOf", "(I)I"⟩, 97), (⟨"DioceseBookModel", "unused", "(I)I"⟩, 97), (⟨"DioceseBookModel", "whyOf", "(II)I"⟩, 97), (⟨"DioceseBookModel", "livingsToday", "(Z)I"⟩, 97), (⟨"DioceseBookModel", "noSuit", "(I)Z"⟩, 97), (⟨"DioceseBookModel", "decayOf", "(III)I"⟩, 97), (⟨"DioceseBookModel", "findMatch", "(I)V"⟩, 97), (⟨"DioceseBookModel", "alone", "(I)I"⟩, 97), (⟨"DioceseBookModel", "pairCost", "(II)I"⟩, 97), (⟨"DioceseBookModel", "noPiece", "(I)Z"⟩, 97), (⟨"DioceseBookModel", "mayFollow", "(II)Z"⟩, 97), (⟨"DioceseBookModel", "isAhead", "(II)Z"⟩, 97), (⟨"DioceseBookModel", "findLives", "()V"⟩, 97), (⟨"DioceseBookModel", "mostPairs", "(I)I"⟩, 97), (⟨"DioceseBookModel", "oneMore", "(II)Z"⟩, 97)]
theorem lw_r7 : ∀ q ∈ lw_privs_7, lw_okq q := List.forall_mem_cons.mpr ⟨lw_p96, List.forall_mem_cons.mpr ⟨lw_p97, List.forall_mem_cons.mpr ⟨lw_p98, List.forall_mem_cons.mpr ⟨lw_p99, List.forall_mem_cons.mpr ⟨lw_p100, List.forall_mem_cons.mpr ⟨lw_p101, List.forall_mem_cons.mpr ⟨lw_p102, List.forall_mem_cons.mpr ⟨lw_p103, List.forall_mem_cons.mpr ⟨lw_p104, List.forall_mem_cons.mpr ⟨lw_p105, List.forall_mem_cons.mpr ⟨lw_p106, List.forall_mem_cons.mpr ⟨lw_p107, List.forall_mem_cons.mpr ⟨lw_p108, List.forall_mem_cons.mpr ⟨lw_p109, List.forall_mem_cons.mpr ⟨lw_p110, List.forall_mem_cons.mpr ⟨lw_p111, fun _ h => absurd h List.not_mem_nil⟩⟩⟩⟩⟩⟩⟩⟩⟩⟩⟩⟩⟩⟩⟩⟩
theorem lw_p112 : lw_okq (⟨"DioceseBookModel", "findRounds", "()V"⟩, 97) := ⟨⟨by decide +kernel, by decide +kernel⟩, List.mem_of_getElem? (i := 1246) (by decide +kernel), List.mem_of_getElem? (i := 1982) (by decide +kernel), List.mem_of_getElem? (i := 1983) (by decide +kernel)⟩
theorem lw_p113 : lw_okq (⟨"DioceseBookModel", "fromSee", "(I)I"⟩, 97) := ⟨⟨by decide +kernel, by decide +kernel⟩, List.mem_of_getElem? (i := 1246) (by decide +kernel), List.mem_of_getElem? (i := 1986) (by decide +kernel), List.mem_of_getElem? (i := 1987) (by decide +kernel)⟩
theorem lw_p114 : lw_okq (⟨"DioceseBookModel", "findDays", "(I)V"⟩, 97) := ⟨⟨by decide +kernel, by decide +kernel⟩, List.mem_of_getElem? (i := 1246) (by decide +kernel), List.mem_of_getElem? (i := 1990) (by decide +kernel), List.mem_of_getElem? (i := 1991) (by decide +kernel)⟩
theorem lw_p115 : lw_okq (⟨"DioceseBookModel", "firstDay", "(II)I"⟩, 97) := ⟨⟨by decide +kernel, by decide +kernel⟩, List.mem_of_getElem? (i := 1246) (by decide +kernel), List.mem_of_getElem? (i := 1994) (by decide +kernel), List.mem_of_getElem? (i := 1995) (by decide +kernel)⟩
theorem lw_p116 : lw_okq (⟨"DioceseBookModel", "spread", "(I)I"⟩, 97) := ⟨⟨by decide +kernel, by decide +kernel⟩, List.mem_of_getElem? (i := 1246) (by decide +kernel), List.mem_of_getElem? (i := 1998) (by decide +kernel), List.mem_of_getElem? (i := 1999) (by decide +kernel)⟩
def lw_privs_8 : List (MethodName × Nat) := [(⟨"DioceseBookModel", "findRounds", "()V"⟩, 97), (⟨"DioceseBookModel", "fromSee", "(I)I"⟩, 97), (⟨"DioceseBookModel", "findDays", "(I)V"⟩, 97), (⟨"DioceseBookModel", "firstDay", "(II)I"⟩, 97), (⟨"DioceseBookModel", "spread", "(I)I"⟩, 97)]
theorem lw_r8 : ∀ q ∈ lw_privs_8, lw_okq q := List.forall_mem_cons.mpr ⟨lw_p112, List.forall_mem_cons.mpr ⟨lw_p113, List.forall_mem_cons.mpr ⟨lw_p114, List.forall_mem_cons.mpr ⟨lw_p115, List.forall_mem_cons.mpr ⟨lw_p116, fun _ h => absurd h List.not_mem_nil⟩⟩⟩⟩⟩
def lw_privs : List (MethodName × Nat) := lw_privs_1 ++ (lw_privs_2 ++ (lw_privs_3 ++ (lw_privs_4 ++ (lw_privs_5 ++ (lw_privs_6 ++ (lw_privs_7 ++ (lw_privs_8)))))))
def lw_tbl : List Cond := k2_sels lw_privs ++ tables_1
theorem lw_privs_ok : ∀ q ∈ lw_privs, lw_okq q := by
  show ∀ q ∈ lw_privs_1 ++ (lw_privs_2 ++ (lw_privs_3 ++ (lw_privs_4 ++ (lw_privs_5 ++ (lw_privs_6 ++ (lw_privs_7 ++ (lw_privs_8))))))), lw_okq q
  exact List.forall_mem_append.mpr ⟨lw_r1, List.forall_mem_append.mpr ⟨lw_r2, List.forall_mem_append.mpr ⟨lw_r3, List.forall_mem_append.mpr ⟨lw_r4, List.forall_mem_append.mpr ⟨lw_r5, List.forall_mem_append.mpr ⟨lw_r6, List.forall_mem_append.mpr ⟨lw_r7, lw_r8⟩⟩⟩⟩⟩⟩⟩
-- ===== end of PART A; then your names; then what follows =====
def RX0 : String := "DioceseBook$Canons"
def TX0 : u_T := fun k => match k with
  | 0 => ("DioceseBook$Canons", "count", "I", false)
  | 1 => ("DioceseBook$Canons", "clauses", "[I", true)
  | 2 => ("DioceseBook$Canons", "from", "[I", true)
  | 3 => ("DioceseBook$Canons", "byDay", "[I", true)
  | 4 => ("DioceseBook$Canons", "kind", "[I", true)
  | 5 => ("DioceseBook$Canons", "subject", "[I", true)
  | 6 => ("DioceseBook$Canons", "middle", "[I", true)
  | 7 => ("DioceseBook$Canons", "end", "[I", true)
  | 8 => ("DioceseBook$Canons", "code", "[I", true)
  | 9 => ("DioceseBook$Canons", "codes", "I", false)
  | 10 => ("DioceseBook$Canons", "settledFor", "I", false)
  | 11 => ("DioceseBook$Canons", "counting", "I", false)
  | 12 => ("DioceseBook$Canons", "number", "[I", true)
  | _ => ("DioceseBook$Canons", "ruler", "[I", true)
def tyX0 : Nat → FieldType := fun k => match k with
  | 0 => .int
  | 1 => .array .int
  | 2 => .array .int
  | 3 => .array .int
  | 4 => .array .int
  | 5 => .array .int
  | 6 => .array .int
  | 7 => .array .int
  | 8 => .array .int
  | 9 => .int
  | 10 => .int
  | 11 => .int
  | 12 => .array .int
  | _ => .array .int
abbrev wsX00 : List Cond := u_ws RX0 TX0 14
theorem nmX0 : ∀ a, a < 14 → ∀ b, b < 14 → a ≠ b → (TX0 a).2.1 ≠ (TX0 b).2.1 := by decide +kernel
theorem tyX0_ok : ∀ k, k < 14 → parseFieldDescriptor (TX0 k).2.2.1 = some (tyX0 k) := by decide +kernel
def RX1 : String := "DioceseBook$Changes"
def TX1 : u_T := fun k => match k with
  | 0 => ("DioceseBook$Changes", "day", "[I", true)
  | 1 => ("DioceseBook$Changes", "paper", "[I", true)
  | 2 => ("DioceseBook$Changes", "left", "[I", true)
  | 3 => ("DioceseBook$Changes", "living", "[I", true)
  | 4 => ("DioceseBook$Changes", "person", "[I", true)
  | 5 => ("DioceseBook$Changes", "isFall", "[Z", true)
  | _ => ("DioceseBook$Changes", "size", "I", false)
def tyX1 : Nat → FieldType := fun k => match k with
  | 0 => .array .int
  | 1 => .array .int
  | 2 => .array .int
  | 3 => .array .int
  | 4 => .array .int
  | 5 => .array .boolean
  | _ => .int
abbrev wsX10 : List Cond := u_ws RX1 TX1 7
theorem nmX1 : ∀ a, a < 7 → ∀ b, b < 7 → a ≠ b → (TX1 a).2.1 ≠ (TX1 b).2.1 := by decide +kernel
theorem tyX1_ok : ∀ k, k < 7 → parseFieldDescriptor (TX1 k).2.2.1 = some (tyX1 k) := by decide +kernel
def RX2 : String := "DioceseBook$Lives"
def TX2 : u_T := fun k => match k with
  | 0 => ("DioceseBook$Lives", "name", "[I", true)
  | 1 => ("DioceseBook$Lives", "x", "[I", true)
  | 2 => ("DioceseBook$Lives", "y", "[I", true)
  | 3 => ("DioceseBook$Lives", "from", "[I", true)
  | 4 => ("DioceseBook$Lives", "to", "[I", true)
  | 5 => ("DioceseBook$Lives", "count", "I", false)
  | 6 => ("DioceseBook$Lives", "rows", "I", false)
  | 7 => ("DioceseBook$Lives", "behind", "[I", true)
  | 8 => ("DioceseBook$Lives", "isJoined", "Z", false)
  | 9 => ("DioceseBook$Lives", "choice", "[I", true)
  | 10 => ("DioceseBook$Lives", "ahead", "[I", true)
  | _ => ("DioceseBook$Lives", "tried", "I", false)
def tyX2 : Nat → FieldType := fun k => match k with
  | 0 => .array .int
  | 1 => .array .int
  | 2 => .array .int
  | 3 => .array .int
  | 4 => .array .int
  | 5 => .int
  | 6 => .int
  | 7 => .array .int
  | 8 => .boolean
  | 9 => .array .int
  | 10 => .array .int
  | _ => .int
abbrev wsX20 : List Cond := u_ws RX2 TX2 12
theorem nmX2 : ∀ a, a < 12 → ∀ b, b < 12 → a ≠ b → (TX2 a).2.1 ≠ (TX2 b).2.1 := by decide +kernel
theorem tyX2_ok : ∀ k, k < 12 → parseFieldDescriptor (TX2 k).2.2.1 = some (tyX2 k) := by decide +kernel
def RX3 : String := "DioceseBook$Papers"
def TX3 : u_T := fun k => match k with
  | 0 => ("DioceseBook$Papers", "kind", "[I", true)
  | 1 => ("DioceseBook$Papers", "day", "[I", true)
  | 2 => ("DioceseBook$Papers", "toldOn", "[I", true)
  | 3 => ("DioceseBook$Papers", "living", "[I", true)
  | 4 => ("DioceseBook$Papers", "person", "[I", true)
  | 5 => ("DioceseBook$Papers", "other", "[I", true)
  | 6 => ("DioceseBook$Papers", "value", "[I", true)
  | 7 => ("DioceseBook$Papers", "count", "I", false)
  | 8 => ("DioceseBook$Papers", "byDay", "[I", true)
  | 9 => ("DioceseBook$Papers", "openFor", "I", false)
  | 10 => ("DioceseBook$Papers", "isVoid", "[Z", true)
  | 11 => ("DioceseBook$Papers", "leaf", "[I", true)
  | 12 => ("DioceseBook$Papers", "size", "I", false)
  | _ => ("DioceseBook$Papers", "first", "[[I", true)
def tyX3 : Nat → FieldType := fun k => match k with
  | 0 => .array .int
  | 1 => .array .int
  | 2 => .array .int
  | 3 => .array .int
  | 4 => .array .int
  | 5 => .array .int
  | 6 => .array .int
  | 7 => .int
  | 8 => .array .int
  | 9 => .int
  | 10 => .array .boolean
  | 11 => .array .int
  | 12 => .int
  | _ => .array (.array .int)
abbrev wsX30 : List Cond := u_ws RX3 TX3 14
theorem nmX3 : ∀ a, a < 14 → ∀ b, b < 14 → a ≠ b → (TX3 a).2.1 ≠ (TX3 b).2.1 := by decide +kernel
theorem tyX3_ok : ∀ k, k < 14 → parseFieldDescriptor (TX3 k).2.2.1 = some (tyX3 k) := by decide +kernel
def RX4 : String := "DioceseBook$Reader"
def TX4 : u_T := fun k => match k with
  | 0 => ("DioceseBook$Reader", "canons", "LDioceseBook$Canons;", true)
  | 1 => ("DioceseBook$Reader", "text", "[C", true)
  | 2 => ("DioceseBook$Reader", "length", "I", false)
  | 3 => ("DioceseBook$Reader", "faultAt", "I", false)
  | 4 => ("DioceseBook$Reader", "wrong", "I", false)
  | _ => ("DioceseBook$Reader", "at", "I", false)
def tyX4 : Nat → FieldType := fun k => match k with
  | 0 => .object "DioceseBook$Canons"
  | 1 => .array .char
  | 2 => .int
  | 3 => .int
  | 4 => .int
  | _ => .int
abbrev wsX40 : List Cond := u_ws RX4 TX4 6
theorem nmX4 : ∀ a, a < 6 → ∀ b, b < 6 → a ≠ b → (TX4 a).2.1 ≠ (TX4 b).2.1 := by decide +kernel
theorem tyX4_ok : ∀ k, k < 6 → parseFieldDescriptor (TX4 k).2.2.1 = some (tyX4 k) := by decide +kernel
def RX5 : String := "DioceseBook$Register"
def TX5 : u_T := fun k => match k with
  | 0 => ("DioceseBook$Register", "estate", "[I", true)
  | 1 => ("DioceseBook$Register", "x", "[I", true)
  | 2 => ("DioceseBook$Register", "y", "[I", true)
  | 3 => ("DioceseBook$Register", "worth", "[I", true)
  | 4 => ("DioceseBook$Register", "persons", "I", false)
  | _ => ("DioceseBook$Register", "livings", "I", false)
def tyX5 : Nat → FieldType := fun k => match k with
  | 0 => .array .int
  | 1 => .array .int
  | 2 => .array .int
  | 3 => .array .int
  | 4 => .int
  | _ => .int
abbrev wsX50 : List Cond := u_ws RX5 TX5 6
theorem nmX5 : ∀ a, a < 6 → ∀ b, b < 6 → a ≠ b → (TX5 a).2.1 ≠ (TX5 b).2.1 := by decide +kernel
theorem tyX5_ok : ∀ k, k < 6 → parseFieldDescriptor (TX5 k).2.2.1 = some (tyX5 k) := by decide +kernel
def RX6 : String := "DioceseBook$Rights"
def TX6 : u_T := fun k => match k with
  | 0 => ("DioceseBook$Rights", "papers", "LDioceseBook$Papers;", true)
  | 1 => ("DioceseBook$Rights", "patron", "[I", true)
  | 2 => ("DioceseBook$Rights", "partner", "[I", true)
  | 3 => ("DioceseBook$Rights", "partnerNext", "[Z", true)
  | 4 => ("DioceseBook$Rights", "sold", "[I", true)
  | 5 => ("DioceseBook$Rights", "soldCount", "I", false)
  | _ => ("DioceseBook$Rights", "isUsed", "[Z", true)
def tyX6 : Nat → FieldType := fun k => match k with
  | 0 => .object "DioceseBook$Papers"
  | 1 => .array .int
  | 2 => .array .int
  | 3 => .array .boolean
  | 4 => .array .int
  | 5 => .int
  | _ => .array .boolean
abbrev wsX60 : List Cond := u_ws RX6 TX6 7
theorem nmX6 : ∀ a, a < 7 → ∀ b, b < 7 → a ≠ b → (TX6 a).2.1 ≠ (TX6 b).2.1 := by decide +kernel
theorem tyX6_ok : ∀ k, k < 7 → parseFieldDescriptor (TX6 k).2.2.1 = some (tyX6 k) := by decide +kernel
def RX7 : String := "DioceseBook$Story"
def TX7 : u_T := fun k => match k with
  | 0 => ("DioceseBook$Story", "register", "LDioceseBook$Register;", true)
  | 1 => ("DioceseBook$Story", "papers", "LDioceseBook$Papers;", true)
  | 2 => ("DioceseBook$Story", "canons", "LDioceseBook$Canons;", true)
  | 3 => ("DioceseBook$Story", "rights", "LDioceseBook$Rights;", true)
  | 4 => ("DioceseBook$Story", "changes", "LDioceseBook$Changes;", true)
  | 5 => ("DioceseBook$Story", "holders", "[J", true)
  | 6 => ("DioceseBook$Story", "since", "[[I", true)
  | 7 => ("DioceseBook$Story", "emptyFrom", "[I", true)
  | 8 => ("DioceseBook$Story", "emptyBy", "[I", true)
  | 9 => ("DioceseBook$Story", "reasons", "[I", true)
  | 10 => ("DioceseBook$Story", "facts", "[I", true)
  | 11 => ("DioceseBook$Story", "toldFor", "I", false)
  | _ => ("DioceseBook$Story", "toldUntil", "I", false)
def tyX7 : Nat → FieldType := fun k => match k with
  | 0 => .object "DioceseBook$Register"
  | 1 => .object "DioceseBook$Papers"
  | 2 => .object "DioceseBook$Canons"
  | 3 => .object "DioceseBook$Rights"
  | 4 => .object "DioceseBook$Changes"
  | 5 => .array .long
  | 6 => .array (.array .int)
  | 7 => .array .int
  | 8 => .array .int
  | 9 => .array .int
  | 10 => .array .int
  | 11 => .int
  | _ => .int
abbrev wsX70 : List Cond := u_ws RX7 TX7 13
theorem nmX7 : ∀ a, a < 13 → ∀ b, b < 13 → a ≠ b → (TX7 a).2.1 ≠ (TX7 b).2.1 := by decide +kernel
theorem tyX7_ok : ∀ k, k < 13 → parseFieldDescriptor (TX7 k).2.2.1 = some (tyX7 k) := by decide +kernel
def RX8 : String := "DioceseBook$Suits"
def TX8 : u_T := fun k => match k with
  | 0 => ("DioceseBook$Suits", "canons", "LDioceseBook$Canons;", true)
  | 1 => ("DioceseBook$Suits", "presentedOn", "[I", true)
  | 2 => ("DioceseBook$Suits", "steps", "[I", true)
  | 3 => ("DioceseBook$Suits", "stepDay", "[[I", true)
  | _ => ("DioceseBook$Suits", "count", "I", false)
def tyX8 : Nat → FieldType := fun k => match k with
  | 0 => .object "DioceseBook$Canons"
  | 1 => .array .int
  | 2 => .array .int
  | 3 => .array (.array .int)
  | _ => .int
abbrev wsX80 : List Cond := u_ws RX8 TX8 5
theorem nmX8 : ∀ a, a < 5 → ∀ b, b < 5 → a ≠ b → (TX8 a).2.1 ≠ (TX8 b).2.1 := by decide +kernel
theorem tyX8_ok : ∀ k, k < 5 → parseFieldDescriptor (TX8 k).2.2.1 = some (tyX8 k) := by decide +kernel
def RX9 : String := "DioceseBook$Terriers"
def TX9 : u_T := fun k => match k with
  | 0 => ("DioceseBook$Terriers", "size", "[I", true)
  | 1 => ("DioceseBook$Terriers", "name", "[[I", true)
  | 2 => ("DioceseBook$Terriers", "acres", "[[I", true)
  | 3 => ("DioceseBook$Terriers", "neighbour", "[[I", true)
  | 4 => ("DioceseBook$Terriers", "cost", "[[I", true)
  | 5 => ("DioceseBook$Terriers", "partners", "[I", true)
  | _ => ("DioceseBook$Terriers", "pairedFor", "I", false)
def tyX9 : Nat → FieldType := fun k => match k with
  | 0 => .array .int
  | 1 => .array (.array .int)
  | 2 => .array (.array .int)
  | 3 => .array (.array .int)
  | 4 => .array (.array .int)
  | 5 => .array .int
  | _ => .int
abbrev wsX90 : List Cond := u_ws RX9 TX9 7
theorem nmX9 : ∀ a, a < 7 → ∀ b, b < 7 → a ≠ b → (TX9 a).2.1 ≠ (TX9 b).2.1 := by decide +kernel
theorem tyX9_ok : ∀ k, k < 7 → parseFieldDescriptor (TX9 k).2.2.1 = some (tyX9 k) := by decide +kernel
def RX10 : String := "DioceseBook$Visitation"
def TX10 : u_T := fun k => match k with
  | 0 => ("DioceseBook$Visitation", "register", "LDioceseBook$Register;", true)
  | 1 => ("DioceseBook$Visitation", "living", "[I", true)
  | 2 => ("DioceseBook$Visitation", "size", "I", false)
  | 3 => ("DioceseBook$Visitation", "way", "[[I", true)
  | 4 => ("DioceseBook$Visitation", "ride", "[I", true)
  | 5 => ("DioceseBook$Visitation", "weight", "[I", true)
  | 6 => ("DioceseBook$Visitation", "dayPart", "[I", true)
  | 7 => ("DioceseBook$Visitation", "plannedSet", "I", false)
  | 8 => ("DioceseBook$Visitation", "plannedMiles", "I", false)
  | 9 => ("DioceseBook$Visitation", "days", "I", false)
  | _ => ("DioceseBook$Visitation", "miles", "I", false)
def tyX10 : Nat → FieldType := fun k => match k with
  | 0 => .object "DioceseBook$Register"
  | 1 => .array .int
  | 2 => .int
  | 3 => .array (.array .int)
  | 4 => .array .int
  | 5 => .array .int
  | 6 => .array .int
  | 7 => .int
  | 8 => .int
  | 9 => .int
  | _ => .int
abbrev wsX100 : List Cond := u_ws RX10 TX10 11
theorem nmX10 : ∀ a, a < 11 → ∀ b, b < 11 → a ≠ b → (TX10 a).2.1 ≠ (TX10 b).2.1 := by decide +kernel
theorem tyX10_ok : ∀ k, k < 11 → parseFieldDescriptor (TX10 k).2.2.1 = some (tyX10 k) := by decide +kernel
def RX11 : String := "DioceseBook"
def TX11 : u_T := fun k => match k with
  | 0 => ("DioceseBook", "register", "LDioceseBook$Register;", true)
  | 1 => ("DioceseBook", "papers", "LDioceseBook$Papers;", true)
  | 2 => ("DioceseBook", "canons", "LDioceseBook$Canons;", true)
  | 3 => ("DioceseBook", "reader", "LDioceseBook$Reader;", true)
  | 4 => ("DioceseBook", "story", "LDioceseBook$Story;", true)
  | 5 => ("DioceseBook", "suits", "LDioceseBook$Suits;", true)
  | 6 => ("DioceseBook", "terriers", "LDioceseBook$Terriers;", true)
  | 7 => ("DioceseBook", "pieces", "LDioceseBook$Lives;", true)
  | 8 => ("DioceseBook", "visitation", "LDioceseBook$Visitation;", true)
  | 9 => ("DioceseBook", "holdersBefore", "[J", true)
  | _ => ("DioceseBook", "now", "I", false)
def tyX11 : Nat → FieldType := fun k => match k with
  | 0 => .object "DioceseBook$Register"
  | 1 => .object "DioceseBook$Papers"
  | 2 => .object "DioceseBook$Canons"
  | 3 => .object "DioceseBook$Reader"
  | 4 => .object "DioceseBook$Story"
  | 5 => .object "DioceseBook$Suits"
  | 6 => .object "DioceseBook$Terriers"
  | 7 => .object "DioceseBook$Lives"
  | 8 => .object "DioceseBook$Visitation"
  | 9 => .array .long
  | _ => .int
abbrev wsX110 : List Cond := u_ws RX11 TX11 11
theorem nmX11 : ∀ a, a < 11 → ∀ b, b < 11 → a ≠ b → (TX11 a).2.1 ≠ (TX11 b).2.1 := by decide +kernel
theorem tyX11_ok : ∀ k, k < 11 → parseFieldDescriptor (TX11 k).2.2.1 = some (tyX11 k) := by decide +kernel
def RX12 : String := "DioceseBookModel"
def TX12 : u_T := fun k => match k with
  | 0 => ("DioceseBookModel", "now", "I", false)
  | 1 => ("DioceseBookModel", "persons", "I", false)
  | 2 => ("DioceseBookModel", "estate", "[I", true)
  | 3 => ("DioceseBookModel", "livings", "I", false)
  | 4 => ("DioceseBookModel", "atX", "[I", true)
  | 5 => ("DioceseBookModel", "atY", "[I", true)
  | 6 => ("DioceseBookModel", "worth", "[I", true)
  | 7 => ("DioceseBookModel", "papers", "I", false)
  | 8 => ("DioceseBookModel", "kindOf", "[I", true)
  | 9 => ("DioceseBookModel", "dayOf", "[I", true)
  | 10 => ("DioceseBookModel", "toldOn", "[I", true)
  | 11 => ("DioceseBookModel", "ofL", "[I", true)
  | 12 => ("DioceseBookModel", "ofP", "[I", true)
  | 13 => ("DioceseBookModel", "ofQ", "[I", true)
  | 14 => ("DioceseBookModel", "ofV", "[I", true)
  | 15 => ("DioceseBookModel", "isVoid", "[Z", true)
  | 16 => ("DioceseBookModel", "book", "[I", true)
  | 17 => ("DioceseBookModel", "bookSize", "I", false)
  | 18 => ("DioceseBookModel", "canons", "I", false)
  | 19 => ("DioceseBookModel", "inForce", "[I", true)
  | 20 => ("DioceseBookModel", "clauses", "[I", true)
  | 21 => ("DioceseBookModel", "clauseKind", "[I", true)
  | 22 => ("DioceseBookModel", "clauseName", "[I", true)
  | 23 => ("DioceseBookModel", "clauseNumber", "[I", true)
  | 24 => ("DioceseBookModel", "testFrom", "[I", true)
  | 25 => ("DioceseBookModel", "testTo", "[I", true)
  | 26 => ("DioceseBookModel", "unlessTo", "[I", true)
  | 27 => ("DioceseBookModel", "steps", "[I", true)
  | 28 => ("DioceseBookModel", "text", "[I", true)
  | 29 => ("DioceseBookModel", "textSize", "I", false)
  | 30 => ("DioceseBookModel", "at", "I", false)
  | 31 => ("DioceseBookModel", "faultOf", "I", false)
  | 32 => ("DioceseBookModel", "place", "I", false)
  | 33 => ("DioceseBookModel", "from", "I", false)
  | 34 => ("DioceseBookModel", "letters", "I", false)
  | 35 => ("DioceseBookModel", "made", "I", false)
  | 36 => ("DioceseBookModel", "open", "[I", true)
  | 37 => ("DioceseBookModel", "openSize", "I", false)
  | 38 => ("DioceseBookModel", "deep", "I", false)
  | 39 => ("DioceseBookModel", "isOn", "[Z", true)
  | 40 => ("DioceseBookModel", "order", "[I", true)
  | 41 => ("DioceseBookModel", "ons", "I", false)
  | 42 => ("DioceseBookModel", "ruler", "I", false)
  | 43 => ("DioceseBookModel", "holders", "[I", true)
  | 44 => ("DioceseBookModel", "holder", "[I", true)
  | 45 => ("DioceseBookModel", "since", "[I", true)
  | 46 => ("DioceseBookModel", "cause", "[I", true)
  | 47 => ("DioceseBookModel", "rightA", "[I", true)
  | 48 => ("DioceseBookModel", "rightB", "[I", true)
  | 49 => ("DioceseBookModel", "turn", "[I", true)
  | 50 => ("DioceseBookModel", "came", "[I", true)
  | 51 => ("DioceseBookModel", "comings", "I", false)
  | 52 => ("DioceseBookModel", "soldMany", "I", false)
  | 53 => ("DioceseBookModel", "soldOf", "[I", true)
  | 54 => ("DioceseBookModel", "soldFrom", "[I", true)
  | 55 => ("DioceseBookModel", "soldTo", "[I", true)
  | 56 => ("DioceseBookModel", "isUsed", "[Z", true)
  | 57 => ("DioceseBookModel", "watched", "I", false)
  | 58 => ("DioceseBookModel", "changes", "I", false)
  | 59 => ("DioceseBookModel", "changeDay", "[I", true)
  | 60 => ("DioceseBookModel", "changeMany", "[I", true)
  | 61 => ("DioceseBookModel", "changePaper", "[I", true)
  | 62 => ("DioceseBookModel", "watchedPaper", "I", false)
  | 63 => ("DioceseBookModel", "whyNot", "I", false)
  | 64 => ("DioceseBookModel", "watchedPerson", "I", false)
  | 65 => ("DioceseBookModel", "fellOn", "I", false)
  | 66 => ("DioceseBookModel", "heap", "I", false)
  | 67 => ("DioceseBookModel", "bits", "[Z", true)
  | 68 => ("DioceseBookModel", "wasHolder", "[Z", true)
  | 69 => ("DioceseBookModel", "suits", "I", false)
  | 70 => ("DioceseBookModel", "suitDay", "[I", true)
  | 71 => ("DioceseBookModel", "suitSteps", "[I", true)
  | 72 => ("DioceseBookModel", "stepDay", "[I", true)
  | 73 => ("DioceseBookModel", "fields", "[I", true)
  | 74 => ("DioceseBookModel", "fieldName", "[I", true)
  | 75 => ("DioceseBookModel", "fieldAcres", "[I", true)
  | 76 => ("DioceseBookModel", "fieldNext", "[I", true)
  | 77 => ("DioceseBookModel", "matchCost", "[I", true)
  | 78 => ("DioceseBookModel", "pieces", "I", false)
  | 79 => ("DioceseBookModel", "pieceName", "[I", true)
  | 80 => ("DioceseBookModel", "pieceX", "[I", true)
  | 81 => ("DioceseBookModel", "pieceY", "[I", true)
  | 82 => ("DioceseBookModel", "pieceFrom", "[I", true)
  | 83 => ("DioceseBookModel", "pieceTo", "[I", true)
  | 84 => ("DioceseBookModel", "behind", "[I", true)
  | 85 => ("DioceseBookModel", "ahead", "[I", true)
  | 86 => ("DioceseBookModel", "isSeen", "[Z", true)
  | 87 => ("DioceseBookModel", "by", "[I", true)
  | 88 => ("DioceseBookModel", "row", "[I", true)
  | 89 => ("DioceseBookModel", "pairsAll", "I", false)
  | 90 => ("DioceseBookModel", "chosen", "[I", true)
  | 91 => ("DioceseBookModel", "seen", "[I", true)
  | 92 => ("DioceseBookModel", "seenMany", "I", false)
  | 93 => ("DioceseBookModel", "wayTo", "[I", true)
  | 94 => ("DioceseBookModel", "round", "[I", true)
  | 95 => ("DioceseBookModel", "daysFor", "[I", true)
  | _ => ("DioceseBookModel", "milesFor", "[I", true)
def tyX12 : Nat → FieldType := fun k => match k with
  | 0 => .int
  | 1 => .int
  | 2 => .array .int
  | 3 => .int
  | 4 => .array .int
  | 5 => .array .int
  | 6 => .array .int
  | 7 => .int
  | 8 => .array .int
  | 9 => .array .int
  | 10 => .array .int
  | 11 => .array .int
  | 12 => .array .int
  | 13 => .array .int
  | 14 => .array .int
  | 15 => .array .boolean
  | 16 => .array .int
  | 17 => .int
  | 18 => .int
  | 19 => .array .int
  | 20 => .array .int
  | 21 => .array .int
  | 22 => .array .int
  | 23 => .array .int
  | 24 => .array .int
  | 25 => .array .int
  | 26 => .array .int
  | 27 => .array .int
  | 28 => .array .int
  | 29 => .int
  | 30 => .int
  | 31 => .int
  | 32 => .int
  | 33 => .int
  | 34 => .int
  | 35 => .int
  | 36 => .array .int
  | 37 => .int
  | 38 => .int
  | 39 => .array .boolean
  | 40 => .array .int
  | 41 => .int
  | 42 => .int
  | 43 => .array .int
  | 44 => .array .int
  | 45 => .array .int
  | 46 => .array .int
  | 47 => .array .int
  | 48 => .array .int
  | 49 => .array .int
  | 50 => .array .int
  | 51 => .int
  | 52 => .int
  | 53 => .array .int
  | 54 => .array .int
  | 55 => .array .int
  | 56 => .array .boolean
  | 57 => .int
  | 58 => .int
  | 59 => .array .int
  | 60 => .array .int
  | 61 => .array .int
  | 62 => .int
  | 63 => .int
  | 64 => .int
  | 65 => .int
  | 66 => .int
  | 67 => .array .boolean
  | 68 => .array .boolean
  | 69 => .int
  | 70 => .array .int
  | 71 => .array .int
  | 72 => .array .int
  | 73 => .array .int
  | 74 => .array .int
  | 75 => .array .int
  | 76 => .array .int
  | 77 => .array .int
  | 78 => .int
  | 79 => .array .int
  | 80 => .array .int
  | 81 => .array .int
  | 82 => .array .int
  | 83 => .array .int
  | 84 => .array .int
  | 85 => .array .int
  | 86 => .array .boolean
  | 87 => .array .int
  | 88 => .array .int
  | 89 => .int
  | 90 => .array .int
  | 91 => .array .int
  | 92 => .int
  | 93 => .array .int
  | 94 => .array .int
  | 95 => .array .int
  | _ => .array .int
abbrev wsX120 : List Cond := u_ws RX12 TX12 97
theorem nmX12 : ∀ a, a < 97 → ∀ b, b < 97 → a ≠ b → (TX12 a).2.1 ≠ (TX12 b).2.1 := by decide +kernel
theorem tyX12_ok : ∀ k, k < 97 → parseFieldDescriptor (TX12 k).2.2.1 = some (tyX12 k) := by decide +kernel
end
section
/-! THE ABSTRACT MACHINE: the part of the JVM that the methods (constructors apart) use, over mathematical integers and a store of numbered cells. Sound over W by part 03. -/
/-- a value: int, long, a cell's number, a row (of a cell of rows), a string constant's number -/
abbrev AV : Type := Int ⊕ Int ⊕ Nat ⊕ (Nat × Int) ⊕ Nat
abbrev aI (z : Int) : AV := .inl z
abbrev aL (z : Int) : AV := .inr (.inl z)
abbrev aP (k : Nat) : AV := .inr (.inr (.inl k))
abbrev aR (k : Nat) (i : Int) : AV := .inr (.inr (.inr (.inl (k, i))))
abbrev aS (k : Nat) : AV := .inr (.inr (.inr (.inr k)))
/-- the store: cell, place -/
abbrev AM : Type := Nat → Int → Int
def am_up (M : AM) (k : Nat) (i z : Int) : AM := fun k' i' => if k' = k ∧ i' = i then z else M k' i'
/-- a cell's kind: object (class, fields: 0 int, 1 boolean, k + 2 the cell k); array (0 int, 1 boolean, 2 char, 3 long; length); rows (number, length, first row's cell); a row (of which, which, length); constants -/
abbrev AK : Type := (Nat × List Nat) ⊕ (Nat × Nat) ⊕ (Nat × Nat × Nat) ⊕ (Nat × Nat × Nat) ⊕ List Int
abbrev kO (ci : Nat) (fs : List Nat) : AK := .inl (ci, fs)
abbrev kA (ty n : Nat) : AK := .inr (.inl (ty, n))
abbrev kR (n len base : Nat) : AK := .inr (.inr (.inl (n, len, base)))
abbrev kW (k r len : Nat) : AK := .inr (.inr (.inr (.inl (k, r, len))))
abbrev kC (cs : List Int) : AK := .inr (.inr (.inr (.inr cs)))
-- int arithmetic
def a_add (a b : Int) : Int := (Int32.ofInt a + Int32.ofInt b).toInt
def a_sub (a b : Int) : Int := (Int32.ofInt a - Int32.ofInt b).toInt
def a_mul (a b : Int) : Int := (Int32.ofInt a * Int32.ofInt b).toInt
def a_div (a b : Int) : Int := (Int32.ofInt a / Int32.ofInt b).toInt
def a_rem (a b : Int) : Int := (Int32.ofInt a - Int32.ofInt a / Int32.ofInt b * Int32.ofInt b).toInt
def a_neg (a : Int) : Int := (-(Int32.ofInt a)).toInt
def a_and (a b : Int) : Int := (Int32.ofInt a &&& Int32.ofInt b).toInt
def a_or (a b : Int) : Int := (Int32.ofInt a ||| Int32.ofInt b).toInt
def a_xor (a b : Int) : Int := (Int32.ofInt a ^^^ Int32.ofInt b).toInt
def a_shl (a b : Int) : Int := (Int32.ofInt a <<< (Int32.ofInt b &&& 31)).toInt
def a_shr (a b : Int) : Int := (Int32.ofInt a >>> (Int32.ofInt b &&& 31)).toInt
def a_ushr (a b : Int) : Int := ((Int32.ofInt a).toUInt32 >>> ((Int32.ofInt b).toUInt32 &&& Int32.toUInt32 31)).toInt32.toInt
def a_i2c (a : Int) : Int := ((Int32.ofInt a).toUInt32 % 65536).toInt32.toInt
def a_i2l (a : Int) : Int := (Int32.ofInt a).toInt64.toInt
-- long arithmetic
def a_l2i (a : Int) : Int := (Int64.ofInt a).toInt32.toInt
def a_ladd (a b : Int) : Int := (Int64.ofInt a + Int64.ofInt b).toInt
def a_lsub (a b : Int) : Int := (Int64.ofInt a - Int64.ofInt b).toInt
def a_land (a b : Int) : Int := (Int64.ofInt a &&& Int64.ofInt b).toInt
def a_lor (a b : Int) : Int := (Int64.ofInt a ||| Int64.ofInt b).toInt
def a_lxor (a b : Int) : Int := (Int64.ofInt a ^^^ Int64.ofInt b).toInt
def a_lshl (a b : Int) : Int := (Int64.ofInt a <<< ((Int32.ofInt b).toInt64 &&& 63)).toInt
def a_lshr (a b : Int) : Int := (Int64.ofInt a >>> ((Int32.ofInt b).toInt64 &&& 63)).toInt
def a_lushr (a b : Int) : Int := ((Int64.ofInt a).toUInt64 >>> ((Int32.ofInt b).toInt64.toUInt64 &&& Int64.toUInt64 63)).toInt64.toInt
def a_cmp (a b : Int) : Int := if b < a then 1 else if a = b then 0 else -1
-- locals: none is what nobody may read
abbrev AL : Type := List (Option AV)
def al_kill (ls : AL) (i : Nat) : AL := match i with
  | 0 => ls
  | j + 1 => match ls[j]? with
    | some (some (.inr (.inl _))) => ls.set j none
    | _ => ls
def al_set1 (ls : AL) (i : Nat) (v : AV) : AL := (al_kill ls i).set i (some v)
def al_set2 (ls : AL) (i : Nat) (v : AV) : AL := ((al_kill ls i).set i (some v)).set (i + 1) none
def av_cat (v : AV) : Nat := match v with
  | .inr (.inl _) => 2
  | _ => 1
def av_cats (st : List AV) : Nat := match st with
  | [] => 0
  | v :: r => av_cat v + av_cats r
/-- the locals with which a method begins -/
def al_args : Nat → List AV → AL
  | n, [] => List.replicate n none
  | n, v :: vs => match v with
    | .inr (.inl _) => some v :: none :: al_args (n - 2) vs
    | _ => some v :: al_args (n - 1) vs
/-- what stands beside an instruction in the table: a number, two places -/
abbrev AX : Type := Int × Nat × Nat
abbrev AB : Type := List (Jvm.ClassFile.Instr × AX)
/-- a program: cells' kinds; of a method: class, size of the locals, kind of its answer (0 none, 1 int, 2 boolean, 3 char), 1 where it has a receiver; its blocks; string constants -/
abbrev AG : Type := (Nat → AK) × (Nat → Nat × Nat × Nat × Nat) × (Nat → Nat → AB) × (Nat → List Int)
section AMS
variable (G : AG)
def a_fld (M : AM) (c k : Nat) (fs : List Nat) : Option AV := match fs[k]? with
  | none => none
  | some 0 => some (aI (M c k))
  | some 1 => some (aI (M c k))
  | some (j + 2) => some (aP j)
def a_tsw (nx : Nat → Prop) (pc : Nat) (a : Int) : Int → List Int → Prop
  | _, [] => True
  | lo, o :: os => (a = lo → nx ((pc : Int) + o).toNat) ∧ a_tsw nx pc a (lo + 1) os
def a_lsw (nx : Nat → Prop) (pc : Nat) (a d : Int) : List (Int × Int) → Prop
  | [] => nx ((pc : Int) + d).toNat
  | q :: r => (a = q.1 → nx ((pc : Int) + q.2).toNat) ∧ (a ≠ q.1 → a_lsw nx pc a d r)
def a_cnd (c : Jvm.ClassFile.Cond) (a b : Int) (A B : Prop) : Prop := match c with
  | .eq => (a = b → A) ∧ (a ≠ b → B)
  | .ne => (a ≠ b → A) ∧ (a = b → B)
  | .lt => (a < b → A) ∧ (b ≤ a → B)
  | .ge => (b ≤ a → A) ∧ (a < b → B)
  | .gt => (b < a → A) ∧ (a ≤ b → B)
  | .le => (a ≤ b → A) ∧ (b < a → B)
def a_bin (i : Jvm.ClassFile.Instr) : Option (Int → Int → Int) := match i with
  | .iadd => some a_add
  | .isub => some a_sub
  | .imul => some a_mul
  | .iand => some a_and
  | .ior => some a_or
  | .ixor => some a_xor
  | .ishl => some a_shl
  | .ishr => some a_shr
  | .iushr => some a_ushr
  | _ => none
def a_binL (i : Jvm.ClassFile.Instr) : Option (Int → Int → Int) := match i with
  | .ladd => some a_ladd
  | .lsub => some a_lsub
  | .land => some a_land
  | .lor => some a_lor
  | .lxor => some a_lxor
  | _ => none
def a_shL (i : Jvm.ClassFile.Instr) : Option (Int → Int → Int) := match i with
  | .lshl => some a_lshl
  | .lshr => some a_lshr
  | .lushr => some a_lushr
  | _ => none
/-- one step: where 'run y as M K' says that the method y, begun so, ends with K; and 'nx pc rest ls st M' what is asked of the next state ([] for rest: at a block's begin) -/
def a_step (run : Nat → List AV → AM → (Option AV → AM → Prop) → Prop) (nx : Nat → AB → AL → List AV → AM → Prop) (rk : Nat) (Q : Option AV → AM → Prop) (pc : Nat) (ins : Jvm.ClassFile.Instr) (x : AX) (rs : AB) (ls : AL) (st : List AV) (M : AM) : Prop :=
  match ins with
  | .iconst n => nx (pc + 1) rs ls (aI n :: st) M
  | .bipush n => nx (pc + 2) rs ls (aI n :: st) M
  | .sipush n => nx (pc + 3) rs ls (aI n :: st) M
  | .lconst n => nx (pc + 1) rs ls (aL (n : Nat) :: st) M
  | .ldc _ => match x with
    | (z, 0, _) => nx (pc + 2) rs ls (aI z :: st) M
    | (_, 1, k) => nx (pc + 2) rs ls (aS k :: st) M
    | _ => False
  | .ldc_w _ => nx (pc + 3) rs ls (aI x.1 :: st) M
  | .ldc2_w _ => nx (pc + 3) rs ls (aL x.1 :: st) M
  | .iload_n k => match ls[(k : Nat)]? with
    | some (some (.inl z)) => nx (pc + 1) rs ls (aI z :: st) M
    | _ => False
  | .iload k => match ls[k]? with
    | some (some (.inl z)) => nx (pc + 2) rs ls (aI z :: st) M
    | _ => False
  | .lload_n k => match ls[(k : Nat)]? with
    | some (some (.inr (.inl z))) => nx (pc + 1) rs ls (aL z :: st) M
    | _ => False
  | .lload k => match ls[k]? with
    | some (some (.inr (.inl z))) => nx (pc + 2) rs ls (aL z :: st) M
    | _ => False
  | .aload_n k => match ls[(k : Nat)]? with
    | some (some (.inr (.inr v))) => nx (pc + 1) rs ls (.inr (.inr v) :: st) M
    | _ => False
  | .aload k => match ls[k]? with
    | some (some (.inr (.inr v))) => nx (pc + 2) rs ls (.inr (.inr v) :: st) M
    | _ => False
  | .istore_n k => match st with
    | .inl z :: st => nx (pc + 1) rs (al_set1 ls k (aI z)) st M
    | _ => False
  | .istore k => match st with
    | .inl z :: st => nx (pc + 2) rs (al_set1 ls k (aI z)) st M
    | _ => False
  | .lstore_n k => match st with
    | .inr (.inl z) :: st => nx (pc + 1) rs (al_set2 ls k (aL z)) st M
    | _ => False
  | .lstore k => match st with
    | .inr (.inl z) :: st => nx (pc + 2) rs (al_set2 ls k (aL z)) st M
    | _ => False
  | .astore_n k => match st with
    | .inr (.inr v) :: st => nx (pc + 1) rs (al_set1 ls k (.inr (.inr v))) st M
    | _ => False
  | .astore k => match st with
    | .inr (.inr v) :: st => nx (pc + 2) rs (al_set1 ls k (.inr (.inr v))) st M
    | _ => False
  | .iinc k n => match ls[k]? with
    | some (some (.inl z)) => nx (pc + 3) rs (al_set1 ls k (aI (a_add z n))) st M
    | _ => False
  | .dup => match st with
    | v :: st => cond (Nat.beq (av_cat v) 1) (nx (pc + 1) rs ls (v :: v :: st) M) False
    | _ => False
  | .dup_x1 => match st with
    | v :: w :: st => cond (Nat.beq (av_cat v) 1 && Nat.beq (av_cat w) 1) (nx (pc + 1) rs ls (v :: w :: v :: st) M) False
    | _ => False
  | .dup2 => match st with
    | v :: w :: st => cond (Nat.beq (av_cat v) 1 && Nat.beq (av_cat w) 1) (nx (pc + 1) rs ls (v :: w :: v :: w :: st) M) False
    | _ => False
  | .pop => match st with
    | v :: st => cond (Nat.beq (av_cat v) 1) (nx (pc + 1) rs ls st M) False
    | _ => False
  | .ineg => match st with
    | .inl a :: st => nx (pc + 1) rs ls (aI (a_neg a) :: st) M
    | _ => False
  | .idiv => match st with
    | .inl b :: .inl a :: st => b ≠ 0 ∧ nx (pc + 1) rs ls (aI (a_div a b) :: st) M
    | _ => False
  | .irem => match st with
    | .inl b :: .inl a :: st => b ≠ 0 ∧ nx (pc + 1) rs ls (aI (a_rem a b) :: st) M
    | _ => False
  | .i2l => match st with
    | .inl a :: st => nx (pc + 1) rs ls (aL a :: st) M
    | _ => False
  | .l2i => match st with
    | .inr (.inl a) :: st => nx (pc + 1) rs ls (aI (a_l2i a) :: st) M
    | _ => False
  | .i2c => match st with
    | .inl a :: st => nx (pc + 1) rs ls (aI (a_i2c a) :: st) M
    | _ => False
  | .lcmp => match st with
    | .inr (.inl b) :: .inr (.inl a) :: st => nx (pc + 1) rs ls (aI (a_cmp a b) :: st) M
    | _ => False
  | .goto o => nx ((pc : Int) + o).toNat [] ls st M
  | .if_icmp c o => match st with
    | .inl b :: .inl a :: st => a_cnd c a b (nx ((pc : Int) + o).toNat [] ls st M) (nx (pc + 3) rs ls st M)
    | _ => False
  | .ifCond c o => match st with
    | .inl a :: st => a_cnd c a 0 (nx ((pc : Int) + o).toNat [] ls st M) (nx (pc + 3) rs ls st M)
    | _ => False
  | .tableswitch d lo hi offs => match st with
    | .inl a :: st => a_tsw (fun t => nx t [] ls st M) pc a lo offs.toList ∧ (a < lo ∨ hi < a → nx ((pc : Int) + d).toNat [] ls st M)
    | _ => False
  | .lookupswitch d ps => match st with
    | .inl a :: st => a_lsw (fun t => nx t [] ls st M) pc a d ps.toList
    | _ => False
  | .getfield _ => match st with
    | .inr (.inr (.inl c)) :: st => match G.1 c with
      | .inl (ci, fs) => cond (Nat.beq ci x.2.1) (match a_fld M c x.2.2 fs with
        | some v => nx (pc + 3) rs ls (v :: st) M
        | none => False) False
      | _ => False
    | _ => False
  | .putfield _ => match st with
    | .inl z :: .inr (.inr (.inl c)) :: st => match G.1 c with
      | .inl (ci, fs) => cond (Nat.beq ci x.2.1) (match fs[x.2.2]? with
        | some 0 => nx (pc + 3) rs ls st (am_up M c x.2.2 z)
        | some 1 => (z = 0 ∨ z = 1) ∧ nx (pc + 3) rs ls st (am_up M c x.2.2 z)
        | _ => False) False
      | _ => False
    | _ => False
  | .getstatic _ => nx (pc + 3) rs ls (aP x.2.1 :: st) M
  | .arraylength => match st with
    | .inr (.inr (.inl c)) :: st => match G.1 c with
      | .inr (.inl (_, n)) => nx (pc + 1) rs ls (aI n :: st) M
      | _ => False
    | _ => False
  | .iaload => match st with
    | .inl i :: .inr (.inr (.inl c)) :: st => match G.1 c with
      | .inr (.inl (0, n)) => (0 ≤ i ∧ i < n) ∧ nx (pc + 1) rs ls (aI (M c i) :: st) M
      | .inr (.inr (.inr (.inr cs))) => (0 ≤ i ∧ i < cs.length) ∧ nx (pc + 1) rs ls (aI (cs.getD i.toNat 0) :: st) M
      | _ => False
    | .inl i :: .inr (.inr (.inr (.inl (c, r)))) :: st => match G.1 c with
      | .inr (.inr (.inl (_, len, _))) => (0 ≤ i ∧ i < len) ∧ nx (pc + 1) rs ls (aI (M c (r * len + i)) :: st) M
      | _ => False
    | _ => False
  | .aaload => match st with
    | .inl i :: .inr (.inr (.inl c)) :: st => match G.1 c with
      | .inr (.inr (.inl (n, _, _))) => (0 ≤ i ∧ i < n) ∧ nx (pc + 1) rs ls (aR c i :: st) M
      | _ => False
    | _ => False
  | .baload => match st with
    | .inl i :: .inr (.inr (.inl c)) :: st => match G.1 c with
      | .inr (.inl (1, n)) => (0 ≤ i ∧ i < n) ∧ nx (pc + 1) rs ls (aI (M c i) :: st) M
      | _ => False
    | _ => False
  | .caload => match st with
    | .inl i :: .inr (.inr (.inl c)) :: st => match G.1 c with
      | .inr (.inl (2, n)) => (0 ≤ i ∧ i < n) ∧ nx (pc + 1) rs ls (aI (M c i) :: st) M
      | _ => False
    | _ => False
  | .laload => match st with
    | .inl i :: .inr (.inr (.inl c)) :: st => match G.1 c with
      | .inr (.inl (3, n)) => (0 ≤ i ∧ i < n) ∧ nx (pc + 1) rs ls (aL (M c i) :: st) M
      | _ => False
    | _ => False
  | .iastore => match st with
    | .inl z :: .inl i :: .inr (.inr (.inl c)) :: st => match G.1 c with
      | .inr (.inl (0, n)) => (0 ≤ i ∧ i < n) ∧ nx (pc + 1) rs ls st (am_up M c i z)
      | _ => False
    | .inl z :: .inl i :: .inr (.inr (.inr (.inl (c, r)))) :: st => match G.1 c with
      | .inr (.inr (.inl (_, len, _))) => (0 ≤ i ∧ i < len) ∧ nx (pc + 1) rs ls st (am_up M c (r * len + i) z)
      | _ => False
    | _ => False
  | .bastore => match st with
    | .inl z :: .inl i :: .inr (.inr (.inl c)) :: st => match G.1 c with
      | .inr (.inl (1, n)) => (0 ≤ i ∧ i < n) ∧ (z = 0 ∨ z = 1) ∧ nx (pc + 1) rs ls st (am_up M c i z)
      | _ => False
    | _ => False
  | .castore => match st with
    | .inl z :: .inl i :: .inr (.inr (.inl c)) :: st => match G.1 c with
      | .inr (.inl (2, n)) => (0 ≤ i ∧ i < n) ∧ (0 ≤ z ∧ z < 65536) ∧ nx (pc + 1) rs ls st (am_up M c i z)
      | _ => False
    | _ => False
  | .lastore => match st with
    | .inr (.inl z) :: .inl i :: .inr (.inr (.inl c)) :: st => match G.1 c with
      | .inr (.inl (3, n)) => (0 ≤ i ∧ i < n) ∧ nx (pc + 1) rs ls st (am_up M c i z)
      | _ => False
    | _ => False
  | .invokestatic _ => match x.1 with
    | 0 => cond (Nat.ble x.2.2 st.length && Nat.ble (av_cats (st.drop x.2.2)) 8 && Nat.beq (G.2.1 x.2.1).2.2.2 0) (run x.2.1 (st.take x.2.2).reverse M (fun r M' => nx (pc + 3) rs ls (r.toList ++ st.drop x.2.2) M')) False
    | 1 => match st with
      | .inl a :: st => cond (Nat.ble (av_cats st) 8) (nx (pc + 3) rs ls (aI (if a < 0 then a_neg a else a) :: st) M) False
      | _ => False
    | 2 => match st with
      | .inl b :: .inl a :: st => cond (Nat.ble (av_cats st) 8) (nx (pc + 3) rs ls (aI (if b ≤ a then a else b) :: st) M) False
      | _ => False
    | 3 => match st with
      | .inl b :: .inl a :: st => cond (Nat.ble (av_cats st) 8) (nx (pc + 3) rs ls (aI (if a ≤ b then a else b) :: st) M) False
      | _ => False
    | _ => False
  | .invokevirtual _ => match x.1 with
    | 0 => match st[x.2.2]? with
      | some (.inr (.inr (.inl c))) => match G.1 c with
        | .inl (ci, _) => cond (Nat.beq ci (G.2.1 x.2.1).1 && Nat.ble (av_cats (st.drop (x.2.2 + 1))) 8 && Nat.beq (G.2.1 x.2.1).2.2.2 1) (run x.2.1 (aP c :: (st.take x.2.2).reverse) M (fun r M' => nx (pc + 3) rs ls (r.toList ++ st.drop (x.2.2 + 1)) M')) False
        | _ => False
      | _ => False
    | 1 => match st with
      | .inr (.inr (.inr (.inr k))) :: st => cond (Nat.ble (av_cats st) 8) (nx (pc + 3) rs ls (aI (G.2.2.2 k).length :: st) M) False
      | _ => False
    | 2 => match st with
      | .inl i :: .inr (.inr (.inr (.inr k))) :: st => cond (Nat.ble (av_cats st) 8) ((0 ≤ i ∧ i < (G.2.2.2 k).length) ∧ nx (pc + 3) rs ls (aI ((G.2.2.2 k).getD i.toNat 0) :: st) M) False
      | _ => False
    | _ => False
  | .ireturn => match st with
    | [.inl z] => match rk with
      | 1 => Q (some (aI z)) M
      | 2 => (z = 0 ∨ z = 1) ∧ Q (some (aI z)) M
      | 3 => (0 ≤ z ∧ z < 65536) ∧ Q (some (aI z)) M
      | _ => False
    | _ => False
  | .return_ => match st with
    | [] => match rk with
      | 0 => Q none M
      | _ => False
    | _ => False
  | ins => match a_bin ins with
    | some f => match st with
      | .inl b :: .inl a :: st => nx (pc + 1) rs ls (aI (f a b) :: st) M
      | _ => False
    | none => match a_binL ins with
      | some f => match st with
        | .inr (.inl b) :: .inr (.inl a) :: st => nx (pc + 1) rs ls (aL (f a b) :: st) M
        | _ => False
      | none => match a_shL ins with
        | some f => match st with
          | .inl b :: .inr (.inl a) :: st => nx (pc + 1) rs ls (aL (f a b) :: st) M
          | _ => False
        | none => False
end AMS
/-- a predicate that is kept by what the machine does: by a weaker end, at a block's begin, by a step (backwards) -/
def a_Mono (R : Nat → Nat → Nat → AB → AL → List AV → AM → (Option AV → AM → Prop) → Prop) : Prop := ∀ d y pc rs ls st M Q Q', (∀ r M', Q r M' → Q' r M') → R d y pc rs ls st M Q → R d y pc rs ls st M Q'
def a_Nil (G : AG) (R : Nat → Nat → Nat → AB → AL → List AV → AM → (Option AV → AM → Prop) → Prop) : Prop := ∀ d y pc ls st M Q, R d y pc (G.2.2.1 y pc) ls st M Q → R d y pc [] ls st M Q
/-- the method y' called d deep: by R, one less deep -/
def a_Kof (G : AG) (R : Nat → Nat → Nat → AB → AL → List AV → AM → (Option AV → AM → Prop) → Prop) (d y' : Nat) (as : List AV) (M : AM) (K : Option AV → AM → Prop) : Prop := ∃ d', d = d' + 1 ∧ av_cats as ≤ (G.2.1 y').2.1 ∧ R d' y' 0 [] (al_args (G.2.1 y').2.1 as) [] M K
def a_Stp (G : AG) (R : Nat → Nat → Nat → AB → AL → List AV → AM → (Option AV → AM → Prop) → Prop) : Prop := ∀ d y pc ins x rs ls st M Q, a_step G (a_Kof G R d) (fun pc' rs' ls' st' M' => R d y pc' rs' ls' st' M' Q) (G.2.1 y).2.2.1 Q pc ins x rs ls st M → R d y pc ((ins, x) :: rs) ls st M Q
/-- THE MACHINE: the method y, at pc with 'rs' of its block before it, ends with Q, not more than d calls deep -/
def aE (G : AG) (d y pc : Nat) (rs : AB) (ls : AL) (st : List AV) (M : AM) (Q : Option AV → AM → Prop) : Prop := ∀ R, a_Mono R → a_Nil G R → a_Stp G R → R d y pc rs ls st M Q
end
section
/-! THE ABSTRACT MACHINE IS SOUND: what it runs, the methods run. First the worlds. -/
def aR32 (z : Int) : Prop := -2147483648 ≤ z ∧ z < 2147483648
def aR64 (z : Int) : Prop := -9223372036854775808 ≤ z ∧ z < 9223372036854775808
theorem aR32_of (x : Int32) : aR32 x.toInt := by
  have h1 := Int32.minValue_le_toInt x
  have h2 := Int32.toInt_lt x
  simp [aR32, Int32.minValue] at *
  omega
theorem aR64_of (x : Int64) : aR64 x.toInt := by
  have h1 := Int64.minValue_le_toInt x
  have h2 := Int64.toInt_lt x
  simp [aR64, Int64.minValue] at *
  omega
theorem a32_t {z : Int} (h : aR32 z) : (Int32.ofInt z).toInt = z := Int32.toInt_ofInt_of_le h.1 h.2
theorem a64_t {z : Int} (h : aR64 z) : (Int64.ofInt z).toInt = z := Int64.toInt_ofInt_of_le h.1 h.2
theorem a32_o (x : Int32) : Int32.ofInt x.toInt = x := Int32.ofInt_toInt x
theorem a64_o (x : Int64) : Int64.ofInt x.toInt = x := Int64.ofInt_toInt x
theorem a32_lt {a b : Int} (ha : aR32 a) (hb : aR32 b) : Int32.ofInt a < Int32.ofInt b ↔ a < b := by rw [Int32.lt_iff_toInt_lt, a32_t ha, a32_t hb]
theorem a32_le {a b : Int} (ha : aR32 a) (hb : aR32 b) : Int32.ofInt a ≤ Int32.ofInt b ↔ a ≤ b := by rw [Int32.le_iff_toInt_le, a32_t ha, a32_t hb]
theorem a32_eq {a b : Int} (ha : aR32 a) (hb : aR32 b) : Int32.ofInt a = Int32.ofInt b ↔ a = b := by rw [← Int32.toInt_inj, a32_t ha, a32_t hb]
theorem a64_lt {a b : Int} (ha : aR64 a) (hb : aR64 b) : Int64.ofInt a < Int64.ofInt b ↔ a < b := by rw [Int64.lt_iff_toInt_lt, a64_t ha, a64_t hb]
theorem a64_eq {a b : Int} (ha : aR64 a) (hb : aR64 b) : Int64.ofInt a = Int64.ofInt b ↔ a = b := by rw [← Int64.toInt_inj, a64_t ha, a64_t hb]
/-- an index that is within -/
theorem a32_ix {i : Int} {n : Nat} (h0 : 0 ≤ i) (h1 : i < n) (hr : aR32 i) : vp_in (Int32.ofInt i) n ∧ (Int32.ofInt i).toNatClampNeg = i.toNat := by
  have e : (Int32.ofInt i).toInt = i := a32_t hr
  refine ⟨vp_in_iff.mpr (by rw [e]; exact ⟨h0, h1⟩), ?_⟩
  rw [← Int32.toNat_toInt, e]
section AW
variable (G : AG) (ad : Nat → Nat) (cA : Nat → ClassId) (nc : Nat)
def a_isL (q : Nat) : Bool := match G.1 q with
  | .inr (.inl (3, _)) => true
  | _ => false
/-- the values of an object's fields, from the place j on -/
def aw_fv (M : AM) (q : Nat) : Nat → List Nat → List Value
  | _, [] => []
  | j, f :: fs => (match f with
    | k + 2 => .ref (ad k)
    | _ => .int (Int32.ofInt (M q j))) :: aw_fv M q (j + 1) fs
def aw_e (M : AM) (q : Nat) : va_E := match G.1 q with
  | .inl (ci, fs) => .inr (ci, aw_fv ad M q 0 fs)
  | .inr (.inl (3, n)) => .inl (cA 3, n, .inr (.inl (fun j => Int64.ofInt (M q j))))
  | .inr (.inl (t, n)) => .inl (cA t, n, .inl (fun j => Int32.ofInt (M q j)))
  | .inr (.inr (.inl (n, _, base))) => .inl (cA 4, n, .inr (.inr (.inr (.inr (fun i => if i < n then some (ad (base + i)) else none)))))
  | .inr (.inr (.inr (.inl (k, r, len)))) => .inl (cA 0, len, .inl (fun j => if j < len then Int32.ofInt (M k (r * len + j)) else 0))
  | .inr (.inr (.inr (.inr _))) => .inr (0, [])
/-- the world that a store stands for -/
def aw (M : AM) : va_W := (List.range nc).map fun q => (ad q, aw_e G ad cA M q)
/-- the kinds fit each other -/
def aGW : Prop := (∀ q k r len, G.1 q = kW k r len → ∃ n base, G.1 k = kR n len base ∧ q = base + r ∧ r < n) ∧ (∀ k n len base, G.1 k = kR n len base → ∀ r, r < n → base + r < nc ∧ G.1 (base + r) = kW k r len) ∧ (∀ q, nc ≤ q → ∃ cs, G.1 q = kC cs) ∧ (∀ q cs, G.1 q = kC cs → ∀ z ∈ cs, aR32 z) ∧ (∀ q t n, G.1 q = kA t n → t ≤ 3 ∧ n < 2 ^ 31)
def a_rb (k : Nat) : Nat := match G.1 k with
  | .inr (.inr (.inl (_, _, b))) => b
  | _ => 0
/-- a value as the JVM has it -/
def acv (v : AV) : Value := match v with
  | .inl z => .int (Int32.ofInt z)
  | .inr (.inl z) => .long (Int64.ofInt z)
  | .inr (.inr (.inl k)) => .ref (ad k)
  | .inr (.inr (.inr (.inl (k, i)))) => .ref (ad (a_rb G k + i.toNat))
  | .inr (.inr (.inr (.inr k))) => .ref (ad (5000 + k))
def aOKV (ns : Nat) (v : AV) : Prop := match v with
  | .inl z => aR32 z
  | .inr (.inl z) => aR64 z
  | .inr (.inr (.inl _)) => True
  | .inr (.inr (.inr (.inl (k, i)))) => ∃ n len base, G.1 k = kR n len base ∧ 0 ≤ i ∧ i < n
  | .inr (.inr (.inr (.inr k))) => k < ns
def aOKM (M : AM) : Prop := ∀ q i, (a_isL G q = true → aR64 (M q i)) ∧ (a_isL G q = false → aR32 (M q i))
variable {G ad cA nc}
theorem aw_at {M : AM} {q : Nat} (h : q < nc) : (aw G ad cA nc M)[q]? = some (ad q, aw_e G ad cA M q) := by simp [aw, h]
theorem aw_in {q : Nat} (hG : aGW G nc) (h : ∀ cs, G.1 q ≠ kC cs) : q < nc := by
  rcases Nat.lt_or_ge q nc with h1 | h1
  · exact h1
  · obtain ⟨cs, h2⟩ := hG.2.2.1 q h1
    exact absurd h2 (h cs)
theorem aw_fv_get {M : AM} {q : Nat} : ∀ (fs : List Nat) (j k : Nat), (aw_fv ad M q j fs)[k]? = match fs[k]? with
    | none => none
    | some (c + 2) => some (.ref (ad c))
    | some _ => some (.int (Int32.ofInt (M q ((j + k : Nat) : Int)))) := by
  intro fs
  induction fs with
  | nil => intro j k; simp [aw_fv]
  | cons f fs ih =>
    intro j k
    cases k with
    | zero => cases f with
      | zero => simp [aw_fv]
      | succ f => cases f <;> simp [aw_fv]
    | succ k =>
      simp only [aw_fv, List.getElem?_cons_succ, ih]
      rw [show j + 1 + k = j + (k + 1) by omega]
theorem aw_fv_len {M : AM} {q : Nat} : ∀ (fs : List Nat) (j : Nat), (aw_fv ad M q j fs).length = fs.length := by
  intro fs
  induction fs with
  | nil => intro j; rfl
  | cons f fs ih => intro j; simp [aw_fv, ih]
/-- a store written in one place is a world written in one cell -/
theorem aw_set {M : AM} {k q : Nat} {i z : Int} (h : ∀ q', q' < nc → q' ≠ q → aw_e G ad cA (am_up M k i z) q' = aw_e G ad cA M q') : aw G ad cA nc (am_up M k i z) = (aw G ad cA nc M).set q (ad q, aw_e G ad cA (am_up M k i z) q) := by
  apply List.ext_getElem?
  intro j
  by_cases hj : j < nc
  · rw [aw_at hj, List.getElem?_set]
    by_cases e : q = j
    · subst e
      simp [aw, hj]
    · rw [if_neg e, aw_at hj, h j hj (fun x => e x.symm)]
  · rw [List.getElem?_eq_none (by simp [aw]; omega), List.getElem?_eq_none (by simp [aw]; omega)]
theorem aw_other {M : AM} {k : Nat} {i z : Int} {q : Nat} (hG : aGW G nc) (hk : ∀ n len base, G.1 k ≠ kR n len base) (hq : q ≠ k) : aw_e G ad cA (am_up M k i z) q = aw_e G ad cA M q := by
  unfold aw_e
  split
  next ci fs e =>
    congr 2
    apply List.ext_getElem?
    intro j
    rw [aw_fv_get, aw_fv_get]
    simp [am_up, hq]
  next n e => simp [am_up, hq]
  next t n _ e => simp [am_up, hq]
  next n _ base e => rfl
  next k' r len e =>
    obtain ⟨n, base, e2, -⟩ := hG.1 q k' r len e
    have hne : k' ≠ k := fun x => hk n len base (x ▸ e2)
    simp [am_up, hne]
  next => rfl
theorem aw_otherR {M : AM} {k n len base r : Nat} {j z : Int} {q : Nat} (hG : aGW G nc) (hk : G.1 k = kR n len base) (hr : r < n) (h0 : 0 ≤ j) (h1 : j < len) (hq : q ≠ base + r) : aw_e G ad cA (am_up M k (r * len + j) z) q = aw_e G ad cA M q := by
  unfold aw_e
  split
  next ci fs e =>
    have hne : q ≠ k := fun x => by rw [x, hk] at e; cases e
    congr 2
    apply List.ext_getElem?
    intro j
    rw [aw_fv_get, aw_fv_get]
    simp [am_up, hne]
  next m e =>
    have hne : q ≠ k := fun x => by rw [x, hk] at e; cases e
    simp [am_up, hne]
  next t m _ e =>
    have hne : q ≠ k := fun x => by rw [x, hk] at e; cases e
    simp [am_up, hne]
  next m _ b e => rfl
  next k' r' len' e =>
    obtain ⟨n', b', e2, e3, e4⟩ := hG.1 q k' r' len' e
    by_cases hkk : k' = k
    · subst hkk
      rw [hk] at e2
      cases e2
      have hrr : r' ≠ r := fun x => hq (by rw [e3, x])
      congr 4
      funext j'
      by_cases hj : j' < len
      · rw [if_pos hj, if_pos hj]
        have : ¬ ((r' : Int) * len + j' = r * len + j) := by
          intro x
          have h4 : ((r' : Int) - r) * len = j - j' := by rw [Int.sub_mul]; omega
          rcases Int.lt_or_gt_of_ne (show (r' : Int) ≠ r by omega) with g | g
          · have : ((r' : Int) - r) * len ≤ -1 * len := Int.mul_le_mul_of_nonneg_right (by omega) (by omega)
            omega
          · have : 1 * (len : Int) ≤ ((r' : Int) - r) * len := Int.mul_le_mul_of_nonneg_right (by omega) (by omega)
            omega
        simp [am_up, this]
      · rw [if_neg hj, if_neg hj]
    · simp [am_up, hkk]
  next => rfl
theorem aOKM_up {M : AM} {k : Nat} {i z : Int} (h : aOKM G M) (hz : (a_isL G k = true → aR64 z) ∧ (a_isL G k = false → aR32 z)) : aOKM G (am_up M k i z) := by
  intro q j
  unfold am_up
  by_cases hc : q = k ∧ j = i
  · rw [if_pos hc, hc.1]; exact hz
  · rw [if_neg hc]; exact h q j
end AW
end
section
/-! THE ABSTRACT MACHINE IS SOUND, second: locals, the words, one method's walk. -/
/-- the locals hold what the abstract ones say -/
def aLoc (cv : AV → Value) (lsC : Array Slot) (nL : Nat) (ls : AL) : Prop := lsC.size = nL ∧ lv_wf lsC ∧ ∀ (i : Nat) (v : AV), ls[i]? = some (some v) → lsC[i]? = some (.val (cv v))
/-- the same as the kit's rows ask for it -/
def al_prs (cv : AV → Value) (ls : AL) : List (Nat × Value) := (List.range ls.length).filterMap fun i => match ls[i]? with
  | some (some v) => some (i, cv v)
  | _ => none
theorem al_mem {cv : AV → Value} {ls : AL} {i : Nat} {w : Value} : (i, w) ∈ al_prs cv ls ↔ ∃ v, ls[i]? = some (some v) ∧ w = cv v := by
  unfold al_prs
  rw [List.mem_filterMap]
  constructor
  · rintro ⟨j, -, h⟩
    split at h
    next v e => cases h; exact ⟨v, e, rfl⟩
    next => cases h
  · rintro ⟨v, h, rfl⟩
    refine ⟨i, List.mem_range.mpr (List.getElem?_eq_some_iff.mp h).1, ?_⟩
    rw [h]
theorem al_has {cv : AV → Value} {lsC : Array Slot} {nL : Nat} {ls : AL} (h : aLoc cv lsC nL ls) : lv_has lsC nL (al_prs cv ls) := by
  refine ⟨h.1, h.2.1, fun q hq => ?_⟩
  obtain ⟨v, h1, h2⟩ := al_mem.mp (show (q.1, q.2) ∈ _ from hq)
  rw [h2]
  exact h.2.2 q.1 v h1
theorem al_kill_get {ls : AL} {i j : Nat} {w : AV} (h : (al_kill ls i)[j]? = some (some w)) : ls[j]? = some (some w) ∧ ¬ (j + 1 = i ∧ ∃ z, w = aL z) := by
  unfold al_kill at h
  split at h
  · exact ⟨h, fun x => by omega⟩
  next k =>
    split at h
    next z e =>
      rw [List.getElem?_set] at h
      split at h
      · split at h <;> cases h
      next hne => exact ⟨h, fun x => hne (by omega)⟩
    next hn =>
      refine ⟨h, fun x => ?_⟩
      obtain ⟨x1, z, x2⟩ := x
      have : j = k := by omega
      subst this
      subst x2
      exact hn z h
theorem acv_cat {G : AG} {ad : Nat → Nat} {v : AV} : (acv G ad v).category = 2 ↔ ∃ z, v = aL z := by
  rcases v with z | z | k | ⟨k, i⟩ | k <;> simp [acv, Value.category]
theorem acv_catN {G : AG} {ad : Nat → Nat} (v : AV) : (acv G ad v).category = av_cat v := by
  rcases v with z | z | k | ⟨k, i⟩ | k <;> rfl
theorem acv_cats {G : AG} {ad : Nat → Nat} (st : List AV) : ((st.map (acv G ad)).map fun v => v.category).sum = av_cats st := by
  induction st with
  | nil => rfl
  | cons v r ih => simp only [List.map_cons, List.sum_cons, av_cats]; rw [acv_catN, ← ih]
theorem al_store1 {G : AG} {ad : Nat → Nat} {lsC : Array Slot} {nL i : Nat} {ls : AL} {v : AV} (h : lv_has lsC nL ((i, acv G ad v) :: (al_prs (acv G ad) ls).filter (fun q => !(q.1 == i) && !(q.1 + 1 == i && q.2.category == 2)))) : aLoc (acv G ad) lsC nL (al_set1 ls i v) := by
  refine ⟨h.1, h.2.1, fun j w hj => ?_⟩
  unfold al_set1 at hj
  rw [List.getElem?_set] at hj
  split at hj
  next e =>
    subst e
    split at hj
    · cases hj
      exact h.2.2 (i, acv G ad v) List.mem_cons_self
    · cases hj
  next e =>
    obtain ⟨h1, h2⟩ := al_kill_get hj
    refine h.2.2 (j, acv G ad w) (List.mem_cons_of_mem _ (List.mem_filter.mpr ⟨al_mem.mpr ⟨w, h1, rfl⟩, ?_⟩))
    have e2 : (j == i) = false := by simp; omega
    by_cases hji : j + 1 = i
    · have : ¬ (acv G ad w).category = 2 := fun x => h2 ⟨hji, acv_cat.mp x⟩
      simp [e2, this]
    · simp [e2, hji]
theorem al_store2 {G : AG} {ad : Nat → Nat} {lsC : Array Slot} {nL i : Nat} {ls : AL} {v : AV} (h : lv_has lsC nL ((i, acv G ad v) :: (al_prs (acv G ad) ls).filter (fun q => !(q.1 == i) && (!(q.1 == i + 1) && !(q.1 + 1 == i && q.2.category == 2))))) : aLoc (acv G ad) lsC nL (al_set2 ls i v) := by
  refine ⟨h.1, h.2.1, fun j w hj => ?_⟩
  unfold al_set2 at hj
  rw [List.getElem?_set] at hj
  split at hj
  next e => split at hj <;> cases hj
  next e0 =>
  rw [List.getElem?_set] at hj
  split at hj
  next e =>
    subst e
    split at hj
    · cases hj
      exact h.2.2 (i, acv G ad v) List.mem_cons_self
    · cases hj
  next e =>
    obtain ⟨h1, h2⟩ := al_kill_get hj
    refine h.2.2 (j, acv G ad w) (List.mem_cons_of_mem _ (List.mem_filter.mpr ⟨al_mem.mpr ⟨w, h1, rfl⟩, ?_⟩))
    have e2 : (j == i) = false := by simp; omega
    have e3 : (j == i + 1) = false := by simp; omega
    by_cases hji : j + 1 = i
    · have : ¬ (acv G ad w).category = 2 := fun x => h2 ⟨hji, acv_cat.mp x⟩
      simp [e2, e3, this]
    · simp [e2, e3, hji]
/-- which values the locals have is kept by a store -/
theorem al_set1_ok {P : AV → Prop} {ls : AL} {i : Nat} {v : AV} (h : ∀ w, some w ∈ ls → P w) (hv : P v) : ∀ w, some w ∈ al_set1 ls i v → P w := by
  intro w hw
  obtain ⟨j, hj⟩ := List.getElem?_of_mem hw
  unfold al_set1 at hj
  rw [List.getElem?_set] at hj
  split at hj
  · split at hj
    · cases hj; exact hv
    · cases hj
  · exact h w (List.mem_of_getElem? (al_kill_get hj).1)
theorem al_set2_ok {P : AV → Prop} {ls : AL} {i : Nat} {v : AV} (h : ∀ w, some w ∈ ls → P w) (hv : P v) : ∀ w, some w ∈ al_set2 ls i v → P w := by
  intro w hw
  obtain ⟨j, hj⟩ := List.getElem?_of_mem hw
  unfold al_set2 at hj
  rw [List.getElem?_set] at hj
  split at hj
  · split at hj <;> cases hj
  · rw [List.getElem?_set] at hj
    split at hj
    · split at hj
      · cases hj; exact hv
      · cases hj
    · exact h w (List.mem_of_getElem? (al_kill_get hj).1)
/-- the locals at the begin -/
theorem al_args_ok {P : AV → Prop} : ∀ (vs : List AV) (n : Nat), (∀ v ∈ vs, P v) → ∀ w, some w ∈ al_args n vs → P w := by
  intro vs
  induction vs with
  | nil => intro n _ w hw; have := List.eq_of_mem_replicate hw; cases this
  | cons v vs ih =>
    intro n hv w hw
    unfold al_args at hw
    split at hw
    · rcases List.mem_cons.mp hw with h | h
      · cases h; exact hv _ List.mem_cons_self
      · rcases List.mem_cons.mp h with h | h
        · cases h
        · exact ih _ (fun u hu => hv u (List.mem_cons_of_mem _ hu)) w h
    · rcases List.mem_cons.mp hw with h | h
      · cases h; exact hv _ List.mem_cons_self
      · exact ih _ (fun u hu => hv u (List.mem_cons_of_mem _ hu)) w h
theorem al_args_get {G : AG} {ad : Nat → Nat} : ∀ (vs : List AV) (n k i : Nat) (w : AV), (al_args n vs)[i]? = some (some w) → (k + i, acv G ad w) ∈ lv_args k (vs.map (acv G ad)) := by
  intro vs
  induction vs with
  | nil => intro n k i w h; have := List.eq_of_mem_replicate (List.mem_of_getElem? (show (List.replicate n none)[i]? = some (some w) from h)); cases this
  | cons v vs ih =>
    intro n k i w h
    rw [List.map_cons]
    unfold lv_args
    unfold al_args at h
    split at h
    next z =>
      rw [if_pos (show (acv G ad (Sum.inr (Sum.inl z))).category = 2 from rfl)]
      match i, h with
      | 0, h => cases h; exact List.mem_cons_self
      | 1, h => cases h
      | i + 2, h => rw [show k + (i + 2) = k + 2 + i by omega]; exact List.mem_cons_of_mem _ (ih _ _ _ _ h)
    next hn =>
      rw [if_neg (fun x => by obtain ⟨z, hz⟩ := acv_cat.mp x; exact hn z hz)]
      match i, h with
      | 0, h => cases h; exact List.mem_cons_self
      | i + 1, h => rw [show k + (i + 1) = k + 1 + i by omega]; exact List.mem_cons_of_mem _ (ih _ _ _ _ h)
theorem al_sl {G : AG} {ad : Nat → Nat} (vs : List AV) : (lg_sl (vs.map (acv G ad))).length = av_cats vs := by
  induction vs with
  | nil => rfl
  | cons v vs ih =>
    have e : lg_sl ((v :: vs).map (acv G ad)) = (if (acv G ad v).category = 2 then [.val (acv G ad v), .second] else [.val (acv G ad v)]) ++ lg_sl (vs.map (acv G ad)) := by simp [lg_sl]
    rw [e, List.length_append, ih]
    rcases v with z | z | k | ⟨k, i⟩ | k <;> simp [acv, Value.category, av_cats, av_cat]
theorem al_entry {G : AG} {ad : Nat → Nat} {vs : List AV} {n : Nat} (h : av_cats vs ≤ n) : aLoc (acv G ad) ((lg_sl (vs.map (acv G ad)) ++ List.replicate (n - (lg_sl (vs.map (acv G ad))).length) Slot.unset).toArray) n (al_args n vs) := by
  have h1 := lv_entry (vs.map (acv G ad)) (n := n) (by rw [al_sl]; exact h)
  refine ⟨h1.1, h1.2.1, fun i w hi => ?_⟩
  have h2 := al_args_get (G := G) (ad := ad) vs n 0 i w hi
  rw [Nat.zero_add] at h2
  exact h1.2.2 _ h2
end
section
/-! THE ABSTRACT MACHINE IS SOUND, third: the words of the tables, the step. -/
section SND
variable (G : AG) (ad : Nat → Nat) (cA : Nat → ClassId) (nc ns nm ncl : Nat) (D : va_G) (cl : List vw_C)
variable (cn : Nat → String) (yn : Nat → MethodName) (bc : Nat → ByteArray) (tf : Nat → u_T × Nat × (Nat → FieldType)) (AW AN : List Cond)
variable (zs : List ((String × String × String) × Nat)) (sk : Nat → String × Nat × String) (XS : State → Heap → Prop)
def aTys : List (ClassId × FieldType) := [(cA 0, .int), (cA 1, .boolean), (cA 2, .char), (cA 3, .long), (cA 4, .array .int)]
def aF : Nat → Prop := fun a => ∃ q, q < nc ∧ a = ad q
def aRty (k : Nat) : Option FieldType := match k with
  | 1 => some .int
  | 2 => some .boolean
  | 3 => some .char
  | _ => none
def aRoom (d : Nat) : Room := { frames := 10 + d, cells := 0, slots := 0, locals := 100 * (10 + d) }
abbrev aMx (y : Nat) : Nat := (G.2.1 y).2.1
abbrev aOw (y : Nat) : String := cn (G.2.1 y).1
def aWs (y : Nat) : List Cond := Cond.code (yn y) (bc y) (aMx G y) (aRty (G.2.1 y).2.2.1) :: AW
def aX (s : State) : Prop := va_K D cl (aTys cA) s ∧ (∀ q cs, G.1 q = kC cs → cs ≠ [] → va_T .int (ad q) cs.length (fun j => .int (Int32.ofInt (cs.getD j 0))) (aF ad nc) s s.heap) ∧ (∀ z ∈ zs, va_Z z.1.1 z.1.2.1 z.1.2.2 (.ref (ad z.2)) (aF ad nc) s s.heap) ∧ (∀ w ∈ AN, va_Nw w s) ∧ (∀ k, k < ns → vk_R (sk k).1 (sk k).2.1 (sk k).2.2 (ad (5000 + k)) s) ∧ XS s s.heap
def aPc (as : List AV) (M : AM) : Array Value → State → Prop := va_Pc (as.map (acv G ad)) (fun U => va_P D cl (aw G ad cA nc M) U.heap ∧ aX G ad cA nc ns D cl AN zs sk XS U)
def aQc (Q : Option AV → AM → Prop) : Array Value → State → Outcome → State → Prop := fun _ st oc t => (∃ (r : Option AV) (M' : AM), oc = .returned (r.map (acv G ad)) ∧ Q r M' ∧ (∀ v, r = some v → aOKV G ns v) ∧ aOKM G M' ∧ va_P D cl (aw G ad cA nc M') t.heap) ∧ va_F (aF ad nc) st t
def aCtx (d y : Nat) (p : Program) (s : State) (m : MethodId) (args : Array Value) (meth : Method) (c : Code) : Prop :=
  p.tables.exec = Jvm.exec ∧ c.code = bc y ∧ meth.sig.returnType = aRty (G.2.1 y).2.2.1 ∧ c.maxLocals = aMx G y ∧ s.vm.findClass (aOw G cn y) = some m.cls ∧ (∀ w ∈ AW, w.before args s = true) ∧ meth.locks = false ∧ aX G ad cA nc ns D cl AN zs sk XS s
/-- what the tables must say for one instruction -/
def okF (y i : Nat) (x : AX) : Prop := x.2.1 < ncl ∧ x.2.2 < (tf x.2.1).2.1 ∧ Cond.fieldLink (aOw G cn y) i ((tf x.2.1).1 x.2.2).1 ((tf x.2.1).1 x.2.2).2.1 ((tf x.2.1).1 x.2.2).2.2.1 ∈ AW
def aLenN : MethodName := ⟨"java/lang/String", "length", "()I"⟩
def aChrN : MethodName := ⟨"java/lang/String", "charAt", "(I)C"⟩
def okI (y : Nat) (ins : Jvm.ClassFile.Instr) (x : AX) : Prop := match ins with
  | .iconst n => aR32 n
  | .bipush n => -128 ≤ n ∧ n < 128
  | .sipush n => -32768 ≤ n ∧ n < 32768
  | .iinc k n => aR32 n ∧ k < aMx G y
  | .ldc i => match x with
    | (z, 0, _) => aR32 z ∧ Cond.constant (aOw G cn y) i (Int32.ofInt z) ∈ AW
    | (_, 1, k) => k < ns ∧ (sk k).1 = aOw G cn y ∧ (sk k).2.1 = i
    | _ => True
  | .ldc_w i => aR32 x.1 ∧ Cond.constant (aOw G cn y) i (Int32.ofInt x.1) ∈ AW
  | .ldc2_w i => aR64 x.1 ∧ Cond.constantLong (aOw G cn y) i (Int64.ofInt x.1) ∈ AW
  | .istore_n k => (k : Nat) < aMx G y
  | .istore k => k < aMx G y
  | .astore_n k => (k : Nat) < aMx G y
  | .astore k => k < aMx G y
  | .lstore_n k => (k : Nat) + 1 < aMx G y
  | .lstore k => k + 1 < aMx G y
  | .getfield i => okF G ncl cn tf AW y i x
  | .putfield i => okF G ncl cn tf AW y i x ∧ ((tf x.2.1).1 x.2.2).2.2.2 = false
  | .getstatic i => ∃ C n d, ((C, n, d), x.2.1) ∈ zs ∧ Cond.fieldLink (aOw G cn y) i C n d ∈ AW
  | .invokestatic i => match x.1 with
    | 0 => x.2.1 < nm ∧ (parseMethodDescriptor (yn x.2.1).desc).map (fun d => d.parameters.length) = some x.2.2 ∧ ((Cond.methodLink (aOw G cn y) i (yn x.2.1) ∈ AW) ∨ ∃ host, Cond.methodLinkNest (aOw G cn y) i (yn x.2.1) host ∈ AN)
    | 1 => Cond.methodLink (aOw G cn y) i Lib.Math.abs.name ∈ AW ∧ Cond.static Lib.Math.abs.name ∈ AW ∧ Cond.initialized "java/lang/Math" ∈ AW ∧ Cond.code Lib.Math.abs.name Lib.Math.abs.code 1 (some .int) ∈ AW
    | 2 => Cond.methodLink (aOw G cn y) i Lib.Math.max.name ∈ AW ∧ Cond.static Lib.Math.max.name ∈ AW ∧ Cond.initialized "java/lang/Math" ∈ AW ∧ Cond.code Lib.Math.max.name Lib.Math.max.code 2 (some .int) ∈ AW
    | 3 => Cond.methodLink (aOw G cn y) i Lib.Math.min.name ∈ AW ∧ Cond.static Lib.Math.min.name ∈ AW ∧ Cond.initialized "java/lang/Math" ∈ AW ∧ Cond.code Lib.Math.min.name Lib.Math.min.code 2 (some .int) ∈ AW
    | _ => True
  | .invokevirtual i => match x.1 with
    | 0 => x.2.1 < nm ∧ (parseMethodDescriptor (yn x.2.1).desc).map (fun d => d.parameters.length) = some x.2.2 ∧ Cond.methodLink (aOw G cn y) i (yn x.2.1) ∈ AW
    | 1 => Cond.methodLink (aOw G cn y) i aLenN ∈ AW
    | 2 => Cond.methodLink (aOw G cn y) i aChrN ∈ AW
    | _ => True
  | .tableswitch _ lo hi offs => hi - lo + 1 = offs.size ∧ aR32 lo ∧ aR32 hi
  | .lookupswitch _ ps => (ps.toList.zip (ps.toList.drop 1)).all (fun (a, next) => a.1 < next.1) = true
  | _ => True
def a_len (i : Jvm.ClassFile.Instr) : Nat := match i with
  | .bipush _ => 2
  | .sipush _ => 3
  | .ldc _ => 2
  | .ldc_w _ => 3
  | .ldc2_w _ => 3
  | .iload _ => 2
  | .lload _ => 2
  | .aload _ => 2
  | .istore _ => 2
  | .lstore _ => 2
  | .astore _ => 2
  | .iinc _ _ => 3
  | .if_icmp _ _ => 3
  | .ifCond _ _ => 3
  | .goto _ => 3
  | .getfield _ => 3
  | .putfield _ => 3
  | .getstatic _ => 3
  | .invokestatic _ => 3
  | .invokevirtual _ => 3
  | _ => 1
/-- a jump goes to a place, not ahead of the first -/
def okJ (pc : Nat) (ins : Jvm.ClassFile.Instr) : Prop := match ins with
  | .goto o => 0 ≤ (pc : Int) + o
  | .if_icmp _ o => 0 ≤ (pc : Int) + o
  | .ifCond _ o => 0 ≤ (pc : Int) + o
  | .tableswitch d _ _ offs => 0 ≤ (pc : Int) + d ∧ ∀ o ∈ offs.toList, 0 ≤ (pc : Int) + o
  | .lookupswitch d ps => 0 ≤ (pc : Int) + d ∧ ∀ q ∈ ps.toList, 0 ≤ (pc : Int) + q.2
  | _ => True
def okD (y pc : Nat) (ins : Jvm.ClassFile.Instr) : Prop := match ins with
  | .tableswitch _ _ _ _ => ∃ n, decode (bc y) pc = .ok (ins, n)
  | .lookupswitch _ _ => ∃ n, decode (bc y) pc = .ok (ins, n)
  | _ => decode (bc y) pc = .ok (ins, a_len ins)
/-- a block's rest, from pc on -/
def okL (y : Nat) : Nat → AB → Prop
  | _, [] => True
  | pc, (ins, x) :: rs => okD bc y pc ins ∧ okJ pc ins ∧ okI G ns nm ncl cn yn tf AW AN zs sk y ins x ∧ okL y (pc + a_len ins) rs
/-- the facts of the tables -/
def aTab : Prop := aGW G nc ∧ (∀ i j, i < nc → j < nc → ad i = ad j → i = j) ∧
  (∀ ci, ci < ncl → cl[ci]? = some (cn ci, (tf ci).1, (tf ci).2.1) ∧ (∀ w ∈ u_ws (cn ci) (tf ci).1 (tf ci).2.1, w ∈ AW) ∧ (∀ k, k < (tf ci).2.1 → parseFieldDescriptor ((tf ci).1 k).2.2.1 = some ((tf ci).2.2 k)) ∧ (∀ a, a < (tf ci).2.1 → ∀ b, b < (tf ci).2.1 → a ≠ b → ((tf ci).1 a).2.1 ≠ ((tf ci).1 b).2.1)) ∧
  (∀ q ci fs, G.1 q = kO ci fs → ci < ncl ∧ fs.length = (tf ci).2.1 ∧ ∀ k, (fs[k]? = some 0 → (tf ci).2.2 k = .int) ∧ (fs[k]? = some 1 → (tf ci).2.2 k = .boolean)) ∧
  (∀ y, y < nm → Cond.code (yn y) (bc y) (aMx G y) (aRty (G.2.1 y).2.2.1) ∈ AW ∧ Cond.initialized (yn y).cls ∈ AW ∧ (yn y).cls = aOw G cn y ∧ plainName (yn y).cls = true ∧ ((yn y).cls ≠ "java/lang/invoke/MethodHandle" ∧ (yn y).cls ≠ "java/lang/invoke/VarHandle") ∧ aMx G y ≤ 80 ∧ ((G.2.1 y).2.2.2 = 1 → (G.2.1 y).1 < ncl ∧ Cond.instanceMethod (yn y) ∈ AW ∧ Cond.selects (aOw G cn y) (yn y) (yn y) ∈ AW) ∧ ((G.2.1 y).2.2.2 = 0 → Cond.static (yn y) ∈ AW)) ∧
  (∀ w ∈ AW, goodWord w = true) ∧ (∀ w ∈ AN, ∃ a i x h, w = .methodLinkNest a i x h) ∧
  (∀ y pc, y < nm → okL G ns nm ncl cn yn bc tf AW AN zs sk y pc (G.2.2.1 y pc)) ∧
  (∀ {u U : State} {H : Heap}, u.vm.Alike U.vm → XS u H → XS U H) ∧ (∀ {U : State} {H H1 : Heap}, XS U H → (∀ a : Nat, a < H.size → ¬ aF ad nc a → H1[a]? = H[a]?) → XS U H1)
end SND
end
section
/-! THE ABSTRACT MACHINE IS SOUND, fourth: one step. -/
theorem a_i8 {n : Int} (h : -128 ≤ n ∧ n < 128) : (Int8.ofInt n).toInt32 = Int32.ofInt n := by
  apply Int32.toInt_inj.mp
  rw [Int8.toInt_toInt32, Int8.toInt_ofInt_of_le (by omega) (by omega), Int32.toInt_ofInt_of_le (by omega) (by omega)]
theorem a_i16 {n : Int} (h : -32768 ≤ n ∧ n < 32768) : (Int16.ofInt n).toInt32 = Int32.ofInt n := by
  apply Int32.toInt_inj.mp
  rw [Int16.toInt_toInt32, Int16.toInt_ofInt_of_le (by omega) (by omega), Int32.toInt_ofInt_of_le (by omega) (by omega)]
theorem a_cond {b : Bool} {A : Prop} (h : cond b A False) : b = true ∧ A := by
  cases b
  · exact h.elim
  · exact ⟨rfl, h⟩
theorem a_st1 {P : AV → Prop} {v : AV} {st : List AV} (h : ∀ w ∈ v :: st, P w) : P v ∧ ∀ w ∈ st, P w := List.forall_mem_cons.mp h
theorem a_stc {P : AV → Prop} {v : AV} {st : List AV} (h : P v) (h2 : ∀ w ∈ st, P w) : ∀ w ∈ v :: st, P w := List.forall_mem_cons.mpr ⟨h, h2⟩
/-- which instructions: calls; over the heap and ends; all others -/
def a_kc (i : Jvm.ClassFile.Instr) : Bool := match i with | .invokestatic _ => true | .invokevirtual _ => true | _ => false
def a_kh (i : Jvm.ClassFile.Instr) : Bool := match i with | .getfield _ => true | .putfield _ => true | .getstatic _ => true | .arraylength => true | .iaload => true | .aaload => true | .baload => true | .caload => true | .laload => true | .iastore => true | .bastore => true | .castore => true | .lastore => true | .ireturn => true | .return_ => true | .ldc _ => true | _ => false
def a_kl (i : Jvm.ClassFile.Instr) : Bool := match i with | .getfield _ => false | .putfield _ => false | .getstatic _ => false | .arraylength => false | .iaload => false | .aaload => false | .baload => false | .caload => false | .laload => false | .iastore => false | .bastore => false | .castore => false | .lastore => false | .invokestatic _ => false | .invokevirtual _ => false | .ireturn => false | .return_ => false | .ldc _ => false | _ => true
section ST
variable {G : AG} {ad : Nat → Nat} {cA : Nat → ClassId} {nc ns nm ncl : Nat} {D : va_G} {cl : List vw_C}
variable {cn : Nat → String} {yn : Nat → MethodName} {bc : Nat → ByteArray} {tf : Nat → u_T × Nat × (Nat → FieldType)} {AW AN : List Cond}
variable {zs : List ((String × String × String) × Nat)} {sk : Nat → String × Nat × String} {XS : State → Heap → Prop}
variable {p : Program} {l : Launch} {e : Env} {R : Room} {s : State} {m : MethodId} {args : Array Value} {below : List Frame} {meth : Method} {c : Code} {H : Heap} {locs : List Loc} {cells slots : Nat} {QQ : State → Prop} {lsC : Array Slot}
theorem a_top {pc : Nat} {x y : Int32} {rest : List Value} (h : x = y) (k : W p l e R s m args below meth c H locs cells slots QQ (F0 m pc lsC (.int x :: rest))) : W p l e R s m args below meth c H locs cells slots QQ (F0 m pc lsC (.int y :: rest)) := h ▸ k
theorem a_topL {pc : Nat} {x y : Int64} {rest : List Value} (h : x = y) (k : W p l e R s m args below meth c H locs cells slots QQ (F0 m pc lsC (.long x :: rest))) : W p l e R s m args below meth c H locs cells slots QQ (F0 m pc lsC (.long y :: rest)) := h ▸ k
/-- what stands at a place of a method's walk -/
def aInv (G : AG) (ad : Nat → Nat) (cA : Nat → ClassId) (nc ns : Nat) (D : va_G) (cl : List vw_C) (y : Nat) (ls : AL) (st : List AV) (M : AM) (s : State) (H : Heap) (locs : List Loc) (lsC : Array Slot) : Prop :=
  aLoc (acv G ad) lsC (aMx G y) ls ∧ (∀ v ∈ st, aOKV G ns v) ∧ (∀ v, some v ∈ ls → aOKV G ns v) ∧ aOKM G M ∧ va_P D cl (aw G ad cA nc M) H ∧ va_S (aF ad nc) s.heap H locs
theorem aD_of (hT : ∀ i j, i < nc → j < nc → ad i = ad j → i = j) (M : AM) : va_D (aF ad nc) (aw G ad cA nc M) := by
  have key : ∀ (i : Nat) (p : Nat × va_E), (aw G ad cA nc M)[i]? = some p → i < nc ∧ p.1 = ad i := fun i p h => by
    have hi : i < nc := by have := (List.getElem?_eq_some_iff.mp h).1; simpa [aw] using this
    rw [aw_at hi] at h
    cases h
    exact ⟨hi, rfl⟩
  refine ⟨fun i j p q hp hq hpq => ?_, fun k q hq => ?_⟩
  · obtain ⟨h1, h2⟩ := key i p hp
    obtain ⟨h3, h4⟩ := key j q hq
    exact hT i j h1 h3 (by rw [← h2, ← h4]; exact hpq)
  · obtain ⟨h1, h2⟩ := key k q hq
    exact ⟨k, h1, h2⟩
theorem aw_eO {M : AM} {q ci : Nat} {fs : List Nat} (h : G.1 q = .inl (ci, fs)) : aw_e G ad cA M q = .inr (ci, aw_fv ad M q 0 fs) := by simp only [aw_e, h]
theorem aw_eL {M : AM} {q n : Nat} (h : G.1 q = kA 3 n) : aw_e G ad cA M q = .inl (cA 3, n, .inr (.inl (fun j => Int64.ofInt (M q j)))) := by simp only [aw_e, h]
theorem aw_eA {M : AM} {q t n : Nat} (h : G.1 q = kA t n) (ht : t ≠ 3) : aw_e G ad cA M q = .inl (cA t, n, .inl (fun j => Int32.ofInt (M q j))) := by
  unfold aw_e
  rw [h]
  split
  next e => cases e
  next e => cases e; exact absurd rfl ht
  next e => cases e; rfl
  next e => cases e
  next e => cases e
  next e => cases e
theorem aw_eR {M : AM} {q n len base : Nat} (h : G.1 q = kR n len base) : aw_e G ad cA M q = .inl (cA 4, n, .inr (.inr (.inr (.inr (fun i => if i < n then some (ad (base + i)) else none))))) := by simp only [aw_e, h]
theorem aw_eW {M : AM} {q k r len : Nat} (h : G.1 q = kW k r len) : aw_e G ad cA M q = .inl (cA 0, len, .inl (fun j => if j < len then Int32.ofInt (M k (r * len + j)) else 0)) := by simp only [aw_e, h]
theorem a_isLf {q : Nat} (h : ∀ n, G.1 q ≠ kA 3 n) : a_isL G q = false := by
  unfold a_isL
  split
  next n e => exact absurd e (h n)
  next => rfl
theorem aOKM_i {M : AM} (h : aOKM G M) {q : Nat} (hq : ∀ n, G.1 q ≠ kA 3 n) (i : Int) : aR32 (M q i) := (h q i).2 (a_isLf hq)
theorem aOKM_l {M : AM} (h : aOKM G M) {q n : Nat} (hq : G.1 q = kA 3 n) (i : Int) : aR64 (M q i) := (h q i).1 (by simp only [a_isL, hq])
theorem aOKM_upi {M : AM} {k : Nat} {i z : Int} (h : aOKM G M) (hk : ∀ n, G.1 k ≠ kA 3 n) (hz : aR32 z) : aOKM G (am_up M k i z) := aOKM_up h ⟨fun x => (by rw [a_isLf hk] at x; cases x), fun _ => hz⟩
theorem aOKM_upl {M : AM} {k n : Nat} {i z : Int} (h : aOKM G M) (hk : G.1 k = kA 3 n) (hz : aR64 z) : aOKM G (am_up M k i z) := aOKM_up h ⟨fun _ => hz, fun x => by simp only [a_isL, hk] at x; cases x⟩
end ST
end
section
theorem a_w64 {a : Int} (h : aR32 a) : (Int32.ofInt a).toInt64 = Int64.ofInt a := by
  apply Int64.toInt_inj.mp
  rw [Int32.toInt_toInt64, a32_t h, a64_t ⟨by have := h.1; omega, by have := h.2; omega⟩]
theorem a_cmpR (a b : Int) : aR32 (a_cmp a b) := by
  unfold a_cmp
  split
  · exact ⟨by decide, by decide⟩
  · split <;> exact ⟨by decide, by decide⟩
theorem a_lgc {a b : Int} (ha : aR64 a) (hb : aR64 b) : Int32.ofInt (a_cmp a b) = lg_cmp (Int64.ofInt a) (Int64.ofInt b) := by
  unfold a_cmp lg_cmp
  by_cases h1 : b < a
  · rw [if_pos h1, if_pos ((a64_lt hb ha).mpr h1)]; rfl
  · rw [if_neg h1, if_neg (fun z => h1 ((a64_lt hb ha).mp z))]
    by_cases h2 : a = b
    · rw [if_pos h2, if_pos ((a64_eq ha hb).mpr h2)]; rfl
    · rw [if_neg h2, if_neg (fun z => h2 ((a64_eq ha hb).mp z))]; rfl
theorem a_tsw_at (nx : Nat → Prop) (pc : Nat) (a : Int) : ∀ (os : List Int) (j : Nat) (lo o : Int), a_tsw nx pc a lo os → os[j]? = some o → a = lo + j → nx ((pc : Int) + o).toNat := by
  intro os
  induction os with
  | nil => intro j lo o _ h; simp at h
  | cons q os ih =>
    intro j lo o h hj ha
    cases j with
    | zero => simp at hj; subst hj; exact h.1 (by omega)
    | succ j => exact ih j (lo + 1) o h.2 (by simpa using hj) (by omega)
theorem a_lsw_at (nx : Nat → Prop) (pc : Nat) (a d : Int) : ∀ (ps : List (Int × Int)), a_lsw nx pc a d ps → 0 ≤ (pc : Int) + d → (∀ q ∈ ps, 0 ≤ (pc : Int) + q.2) → ∃ o, Op.lookupswitch.offset ps d a = o ∧ 0 ≤ (pc : Int) + o ∧ nx ((pc : Int) + o).toNat := by
  intro ps
  induction ps with
  | nil => intro h h0 _; exact ⟨d, rfl, h0, h⟩
  | cons q r ih =>
    intro h h0 hq
    obtain ⟨k, o⟩ := q
    rw [Op.lookupswitch.offset_cons]
    by_cases hk : a = k
    · exact ⟨o, by rw [if_pos (by first | exact hk | exact hk.symm)], hq _ List.mem_cons_self, h.1 hk⟩
    · obtain ⟨o2, g1, g2⟩ := ih (h.2 hk) h0 (fun z hz => hq z (List.mem_cons_of_mem _ hz))
      exact ⟨o2, by rw [if_neg (by first | exact hk | exact (fun z => hk z.symm))]; exact g1, g2⟩
section SP
variable {G : AG} {ad : Nat → Nat} {cA : Nat → ClassId} {nc ns nm ncl : Nat} {D : va_G} {cl : List vw_C}
variable {cn : Nat → String} {yn : Nat → MethodName} {bc : Nat → ByteArray} {tf : Nat → u_T × Nat × (Nat → FieldType)} {AW AN : List Cond}
variable {zs : List ((String × String × String) × Nat)} {sk : Nat → String × Nat × String} {XS : State → Heap → Prop}
variable {p : Program} {l : Launch} {e : Env} {s : State} {m : MethodId} {args : Array Value} {below : List Frame} {meth : Method} {c : Code} {H : Heap} {locs : List Loc} {lsC : Array Slot} {d y : Nat} {Q : Option AV → AM → Prop}
/-- the walk's goal -/
abbrev aWl (G : AG) (ad : Nat → Nat) (cA : Nat → ClassId) (nc ns : Nat) (D : va_G) (cl : List vw_C) (d : Nat) (Q : Option AV → AM → Prop) (p : Program) (l : Launch) (e : Env) (s : State) (m : MethodId) (args : Array Value) (below : List Frame) (meth : Method) (c : Code) (H : Heap) (locs : List Loc) (lsC : Array Slot) (pc : Nat) (st : List Value) : Prop :=
  W p l e (aRoom d) s m args below meth c H locs 0 0 (MQ below (aQc G ad cA nc ns D cl Q) args s 0 0 (aF ad nc)) (F0 m pc lsC st)
/-- the next places of the walk are known -/
abbrev aIH (G : AG) (ad : Nat → Nat) (cA : Nat → ClassId) (nc ns nm ncl : Nat) (D : va_G) (cl : List vw_C) (cn : Nat → String) (yn : Nat → MethodName) (bc : Nat → ByteArray) (tf : Nat → u_T × Nat × (Nat → FieldType)) (AW AN : List Cond) (zs : List ((String × String × String) × Nat)) (sk : Nat → String × Nat × String) (d y : Nat) (Q : Option AV → AM → Prop) (p : Program) (l : Launch) (e : Env) (s : State) (m : MethodId) (args : Array Value) (below : List Frame) (meth : Method) (c : Code) (nx : Nat → AB → AL → List AV → AM → Prop) : Prop :=
  ∀ pc rs ls st M, nx pc rs ls st M → okL G ns nm ncl cn yn bc tf AW AN zs sk y pc rs → ∀ H locs lsC, aInv G ad cA nc ns D cl y ls st M s H locs lsC → aWl G ad cA nc ns D cl d Q p l e s m args below meth c H locs lsC pc (st.map (acv G ad))
theorem a_jump {pc : Nat} {o : Int} (h : 0 ≤ (pc : Int) + o) : (pc : Int) + o = ((((pc : Int) + o).toNat : Nat) : Int) := (Int.toNat_of_nonneg h).symm
set_option maxHeartbeats 4000000 in
/-- instructions that leave the heap alone -/
theorem a_step_l {run : Nat → List AV → AM → (Option AV → AM → Prop) → Prop} {nx : Nat → AB → AL → List AV → AM → Prop} {pc : Nat} {ins : Jvm.ClassFile.Instr} {x : AX} {rs : AB} {ls : AL} {st : List AV} {M : AM}
    (hC : aCtx G ad cA nc ns D cl cn bc AW AN zs sk XS d y p s m args meth c) (hI : aInv G ad cA nc ns D cl y ls st M s H locs lsC)
    (hD : okD bc y pc ins) (hJ : okJ pc ins) (hO : okI G ns nm ncl cn yn tf AW AN zs sk y ins x) (hrs : okL G ns nm ncl cn yn bc tf AW AN zs sk y (pc + a_len ins) rs)
    (IH : aIH G ad cA nc ns nm ncl D cl cn yn bc tf AW AN zs sk d y Q p l e s m args below meth c nx)
    (hk : a_kl ins = true)
    (h : a_step G run nx (G.2.1 y).2.2.1 Q pc ins x rs ls st M) : aWl G ad cA nc ns D cl d Q p l e s m args below meth c H locs lsC pc (st.map (acv G ad)) := by
  obtain ⟨hx, hb, hr, hml, hown, hts, hlk, hX⟩ := id hC
  obtain ⟨hL, hst, hls, hM, hP, hS⟩ := id hI
  unfold a_step at h
  cases ins
  case iconst n => exact lv_iconst (v := Int32.ofInt n) hx hb hD rfl (IH _ _ _ _ _ h hrs _ _ _ ⟨hL, a_stc hO hst, hls, hM, hP, hS⟩)
  case bipush n => exact lv_bipush (v := Int32.ofInt n) hx hb hD (a_i8 hO) (IH _ _ _ _ _ h hrs _ _ _ ⟨hL, a_stc ⟨by have := hO.1; omega, by have := hO.2; omega⟩ hst, hls, hM, hP, hS⟩)
  case sipush n => exact lv_sipush (v := Int32.ofInt n) hx hb hD (a_i16 hO) (IH _ _ _ _ _ h hrs _ _ _ ⟨hL, a_stc ⟨by have := hO.1; omega, by have := hO.2; omega⟩ hst, hls, hM, hP, hS⟩)
  case lconst n => exact lv_lconst (v := Int64.ofInt (n : Nat)) hx hb hD (by match n with | 0 => rfl | 1 => rfl) (IH _ _ _ _ _ h hrs _ _ _ ⟨hL, a_stc ⟨by omega, by omega⟩ hst, hls, hM, hP, hS⟩)
  case ldc_w i => exact lv_ldcw hx hb hown (hts _ hO.2) hD (IH _ _ _ _ _ h hrs _ _ _ ⟨hL, a_stc hO.1 hst, hls, hM, hP, hS⟩)
  case ldc2_w i => exact lv_ldc2 hx hb hown (hts _ hO.2) hD (IH _ _ _ _ _ h hrs _ _ _ ⟨hL, a_stc hO.1 hst, hls, hM, hP, hS⟩)
  case iload_n k =>
    dsimp only at h
    split at h
    next z ez => exact lv_iload_n hx hb hD rfl (hL.2.2 _ _ ez) (IH _ _ _ _ _ h hrs _ _ _ ⟨hL, a_stc (hls _ (List.mem_of_getElem? ez)) hst, hls, hM, hP, hS⟩)
    next => exact h.elim
  case iload k =>
    dsimp only at h
    split at h
    next z ez => exact lv_iload hx hb hD (hL.2.2 _ _ ez) (IH _ _ _ _ _ h hrs _ _ _ ⟨hL, a_stc (hls _ (List.mem_of_getElem? ez)) hst, hls, hM, hP, hS⟩)
    next => exact h.elim
  case lload_n k =>
    dsimp only at h
    split at h
    next z ez => exact lv_lload_n hx hb hD rfl (hL.2.2 _ _ ez) (IH _ _ _ _ _ h hrs _ _ _ ⟨hL, a_stc (hls _ (List.mem_of_getElem? ez)) hst, hls, hM, hP, hS⟩)
    next => exact h.elim
  case lload k =>
    dsimp only at h
    split at h
    next z ez => exact lv_lload hx hb hD (hL.2.2 _ _ ez) (IH _ _ _ _ _ h hrs _ _ _ ⟨hL, a_stc (hls _ (List.mem_of_getElem? ez)) hst, hls, hM, hP, hS⟩)
    next => exact h.elim
  case aload_n k =>
    dsimp only at h
    split at h
    next v ez =>
      have k1 := IH _ _ _ _ _ h hrs _ _ _ ⟨hL, a_stc (hls _ (List.mem_of_getElem? ez)) hst, hls, hM, hP, hS⟩
      have k2 := hL.2.2 _ _ ez
      rcases v with a | ⟨a, i⟩ | a <;> exact lv_aload_n hx hb hD rfl k2 k1
    next => exact h.elim
  case aload k =>
    dsimp only at h
    split at h
    next v ez =>
      have k1 := IH _ _ _ _ _ h hrs _ _ _ ⟨hL, a_stc (hls _ (List.mem_of_getElem? ez)) hst, hls, hM, hP, hS⟩
      have k2 := hL.2.2 _ _ ez
      rcases v with a | ⟨a, i⟩ | a <;> exact lv_aload hx hb hD k2 k1
    next => exact h.elim
  case istore_n k =>
    dsimp only at h
    split at h
    next z st => exact lv_istore_n hx hb hD rfl (al_has hL) hO rfl (fun lsC' h' => IH _ _ _ _ _ h hrs _ _ _ ⟨al_store1 (v := aI z) h', (a_st1 hst).2, al_set1_ok hls (a_st1 hst).1, hM, hP, hS⟩)
    next => exact h.elim
  case istore k =>
    dsimp only at h
    split at h
    next z st => exact lv_istore hx hb hD (al_has hL) hO rfl (fun lsC' h' => IH _ _ _ _ _ h hrs _ _ _ ⟨al_store1 (v := aI z) h', (a_st1 hst).2, al_set1_ok hls (a_st1 hst).1, hM, hP, hS⟩)
    next => exact h.elim
  case lstore_n k =>
    dsimp only at h
    split at h
    next z st => exact lv_lstore_n hx hb hD rfl (al_has hL) hO rfl (fun lsC' h' => IH _ _ _ _ _ h hrs _ _ _ ⟨al_store2 (v := aL z) h', (a_st1 hst).2, al_set2_ok hls (a_st1 hst).1, hM, hP, hS⟩)
    next => exact h.elim
  case lstore k =>
    dsimp only at h
    split at h
    next z st => exact lv_lstore hx hb hD (al_has hL) hO rfl (fun lsC' h' => IH _ _ _ _ _ h hrs _ _ _ ⟨al_store2 (v := aL z) h', (a_st1 hst).2, al_set2_ok hls (a_st1 hst).1, hM, hP, hS⟩)
    next => exact h.elim
  case astore_n k =>
    dsimp only at h
    split at h
    next v st =>
      rcases v with a | ⟨a, i⟩ | a
      · exact lv_astore_n hx hb hD rfl (al_has hL) hO rfl (fun lsC' h' => IH _ _ _ _ _ h hrs _ _ _ ⟨al_store1 (v := aP a) h', (a_st1 hst).2, al_set1_ok hls (a_st1 hst).1, hM, hP, hS⟩)
      · exact lv_astore_n hx hb hD rfl (al_has hL) hO rfl (fun lsC' h' => IH _ _ _ _ _ h hrs _ _ _ ⟨al_store1 (v := aR a i) h', (a_st1 hst).2, al_set1_ok hls (a_st1 hst).1, hM, hP, hS⟩)
      · exact lv_astore_n hx hb hD rfl (al_has hL) hO rfl (fun lsC' h' => IH _ _ _ _ _ h hrs _ _ _ ⟨al_store1 (v := aS a) h', (a_st1 hst).2, al_set1_ok hls (a_st1 hst).1, hM, hP, hS⟩)
    next => exact h.elim
  case astore k =>
    dsimp only at h
    split at h
    next v st =>
      rcases v with a | ⟨a, i⟩ | a
      · exact lv_astore hx hb hD (al_has hL) hO rfl (fun lsC' h' => IH _ _ _ _ _ h hrs _ _ _ ⟨al_store1 (v := aP a) h', (a_st1 hst).2, al_set1_ok hls (a_st1 hst).1, hM, hP, hS⟩)
      · exact lv_astore hx hb hD (al_has hL) hO rfl (fun lsC' h' => IH _ _ _ _ _ h hrs _ _ _ ⟨al_store1 (v := aR a i) h', (a_st1 hst).2, al_set1_ok hls (a_st1 hst).1, hM, hP, hS⟩)
      · exact lv_astore hx hb hD (al_has hL) hO rfl (fun lsC' h' => IH _ _ _ _ _ h hrs _ _ _ ⟨al_store1 (v := aS a) h', (a_st1 hst).2, al_set1_ok hls (a_st1 hst).1, hM, hP, hS⟩)
    next => exact h.elim
  case iinc k n =>
    dsimp only at h
    split at h
    next z ez =>
      obtain ⟨j, hj⟩ := List.getElem?_of_mem (al_mem (cv := acv G ad).mpr ⟨_, ez, rfl⟩)
      exact lv_iinc (v := Int32.ofInt (a_add z n)) hx hb hD (al_has hL) hj (a32_o _).symm hO.2 rfl (fun lsC' h' => IH _ _ _ _ _ h hrs _ _ _ ⟨al_store1 (v := aI (a_add z n)) h', hst, al_set1_ok hls (aR32_of _), hM, hP, hS⟩)
    next => exact h.elim
  case dup =>
    dsimp only at h
    split at h
    next v st =>
      obtain ⟨h1, h⟩ := a_cond h
      exact lv_dup hx hb hD ((acv_catN v).trans (Nat.eq_of_beq_eq_true h1)) (IH _ _ _ _ _ h hrs _ _ _ ⟨hL, a_stc (a_st1 hst).1 hst, hls, hM, hP, hS⟩)
    next => exact h.elim
  case dup_x1 =>
    dsimp only at h
    split at h
    next v w st =>
      obtain ⟨h1, h⟩ := a_cond h
      rw [Bool.and_eq_true] at h1
      exact lv_dup_x1 hx hb hD ((acv_catN v).trans (Nat.eq_of_beq_eq_true h1.1)) ((acv_catN w).trans (Nat.eq_of_beq_eq_true h1.2)) (IH _ _ _ _ _ h hrs _ _ _ ⟨hL, a_stc (a_st1 hst).1 (a_stc (a_st1 (a_st1 hst).2).1 (a_stc (a_st1 hst).1 (a_st1 (a_st1 hst).2).2)), hls, hM, hP, hS⟩)
    next => exact h.elim
  case dup2 =>
    dsimp only at h
    split at h
    next v w st =>
      obtain ⟨h1, h⟩ := a_cond h
      rw [Bool.and_eq_true] at h1
      exact lv_dup2_11 hx hb hD ((acv_catN v).trans (Nat.eq_of_beq_eq_true h1.1)) ((acv_catN w).trans (Nat.eq_of_beq_eq_true h1.2)) (IH _ _ _ _ _ h hrs _ _ _ ⟨hL, a_stc (a_st1 hst).1 (a_stc (a_st1 (a_st1 hst).2).1 hst), hls, hM, hP, hS⟩)
    next => exact h.elim
  case pop =>
    dsimp only at h
    split at h
    next v st =>
      obtain ⟨h1, h⟩ := a_cond h
      exact lv_pop hx hb hD ((acv_catN v).trans (Nat.eq_of_beq_eq_true h1)) (IH _ _ _ _ _ h hrs _ _ _ ⟨hL, (a_st1 hst).2, hls, hM, hP, hS⟩)
    next => exact h.elim
  case ineg =>
    dsimp only at h
    split at h
    next a st => exact lv_ineg hx hb hD (a_top (a32_o _) (IH _ _ _ _ _ h hrs _ _ _ ⟨hL, a_stc (aR32_of _) (a_st1 hst).2, hls, hM, hP, hS⟩))
    next => exact h.elim
  case idiv =>
    dsimp only at h
    split at h
    next b a st =>
      exact lv_idiv hx hb hD (fun q => h.1 ((a32_eq (a_st1 hst).1 ⟨by decide, by decide⟩).mp q)) (a_top (a32_o _) (IH _ _ _ _ _ h.2 hrs _ _ _ ⟨hL, a_stc (aR32_of _) (a_st1 (a_st1 hst).2).2, hls, hM, hP, hS⟩))
    next => exact h.elim
  case irem =>
    dsimp only at h
    split at h
    next b a st =>
      exact lv_irem hx hb hD (fun q => h.1 ((a32_eq (a_st1 hst).1 ⟨by decide, by decide⟩).mp q)) (a_top (a32_o _) (IH _ _ _ _ _ h.2 hrs _ _ _ ⟨hL, a_stc (aR32_of _) (a_st1 (a_st1 hst).2).2, hls, hM, hP, hS⟩))
    next => exact h.elim
  case i2l =>
    dsimp only at h
    split at h
    next a st =>
      have ha := (a_st1 hst).1
      exact lv_i2l (v := Int64.ofInt a) hx hb hD (a_w64 ha) (IH _ _ _ _ _ h hrs _ _ _ ⟨hL, a_stc ⟨by have := ha.1; omega, by have := ha.2; omega⟩ (a_st1 hst).2, hls, hM, hP, hS⟩)
    next => exact h.elim
  case l2i =>
    dsimp only at h
    split at h
    next a st => exact lv_l2i hx hb hD (a32_o _).symm (IH _ _ _ _ _ h hrs _ _ _ ⟨hL, a_stc (aR32_of _) (a_st1 hst).2, hls, hM, hP, hS⟩)
    next => exact h.elim
  case i2c =>
    dsimp only at h
    split at h
    next a st => exact lv_i2c hx hb hD (a32_o _).symm (IH _ _ _ _ _ h hrs _ _ _ ⟨hL, a_stc (aR32_of _) (a_st1 hst).2, hls, hM, hP, hS⟩)
    next => exact h.elim
  case lcmp =>
    dsimp only at h
    split at h
    next b a st =>
      exact W.lcmp hx hb hD (a_top (a_lgc (a_st1 (a_st1 hst).2).1 (a_st1 hst).1) (IH _ _ _ _ _ h hrs _ _ _ ⟨hL, a_stc (a_cmpR a b) (a_st1 (a_st1 hst).2).2, hls, hM, hP, hS⟩))
    next => exact h.elim
  case goto o => exact lv_goto hx hb hD (a_jump hJ) (IH _ _ _ _ _ h trivial _ _ _ ⟨hL, hst, hls, hM, hP, hS⟩)
  case if_icmp cc o =>
    dsimp only at h
    split at h
    next b a st =>
      have hb1 := (a_st1 hst).1
      have ha1 := (a_st1 (a_st1 hst).2).1
      have K1 := fun hh => IH ((pc : Int) + o).toNat [] ls st M hh trivial H locs lsC ⟨hL, (a_st1 (a_st1 hst).2).2, hls, hM, hP, hS⟩
      have K2 := fun hh => IH (pc + 3) rs ls st M hh hrs H locs lsC ⟨hL, (a_st1 (a_st1 hst).2).2, hls, hM, hP, hS⟩
      cases cc <;> dsimp only [a_cnd] at h
      · exact lv_icmp_eq hx hb hD (a_jump hJ) (fun q => K1 (h.1 ((a32_eq ha1 hb1).mp q))) (fun q => K2 (h.2 (fun z => q ((a32_eq ha1 hb1).mpr z))))
      · exact lv_icmp_ne hx hb hD (a_jump hJ) (fun q => K1 (h.1 (fun z => q ((a32_eq ha1 hb1).mpr z)))) (fun q => K2 (h.2 ((a32_eq ha1 hb1).mp q)))
      · exact lv_icmp_lt hx hb hD (a_jump hJ) (fun q => K1 (h.1 ((a32_lt ha1 hb1).mp q))) (fun q => K2 (h.2 (Int.not_lt.mp (fun z => q ((a32_lt ha1 hb1).mpr z)))))
      · exact lv_icmp_ge hx hb hD (a_jump hJ) (fun q => K1 (h.1 ((a32_le hb1 ha1).mp q))) (fun q => K2 (h.2 (Int.not_le.mp (fun z => q ((a32_le hb1 ha1).mpr z)))))
      · exact lv_icmp_gt hx hb hD (a_jump hJ) (fun q => K1 (h.1 ((a32_lt hb1 ha1).mp q))) (fun q => K2 (h.2 (Int.not_lt.mp (fun z => q ((a32_lt hb1 ha1).mpr z)))))
      · exact lv_icmp_le hx hb hD (a_jump hJ) (fun q => K1 (h.1 ((a32_le ha1 hb1).mp q))) (fun q => K2 (h.2 (Int.not_le.mp (fun z => q ((a32_le ha1 hb1).mpr z)))))
    next => exact h.elim
  case ifCond cc o =>
    dsimp only at h
    split at h
    next a st =>
      have hb1 : aR32 0 := ⟨by decide, by decide⟩
      have ha1 := (a_st1 hst).1
      have K1 := fun hh => IH ((pc : Int) + o).toNat [] ls st M hh trivial H locs lsC ⟨hL, (a_st1 hst).2, hls, hM, hP, hS⟩
      have K2 := fun hh => IH (pc + 3) rs ls st M hh hrs H locs lsC ⟨hL, (a_st1 hst).2, hls, hM, hP, hS⟩
      cases cc <;> dsimp only [a_cnd] at h
      · exact lv_if_eq hx hb hD (a_jump hJ) (fun q => K1 (h.1 ((a32_eq ha1 hb1).mp q))) (fun q => K2 (h.2 (fun z => q ((a32_eq ha1 hb1).mpr z))))
      · exact lv_if_ne hx hb hD (a_jump hJ) (fun q => K1 (h.1 (fun z => q ((a32_eq ha1 hb1).mpr z)))) (fun q => K2 (h.2 ((a32_eq ha1 hb1).mp q)))
      · exact lv_if_lt hx hb hD (a_jump hJ) (fun q => K1 (h.1 ((a32_lt ha1 hb1).mp q))) (fun q => K2 (h.2 (Int.not_lt.mp (fun z => q ((a32_lt ha1 hb1).mpr z)))))
      · exact lv_if_ge hx hb hD (a_jump hJ) (fun q => K1 (h.1 ((a32_le hb1 ha1).mp q))) (fun q => K2 (h.2 (Int.not_le.mp (fun z => q ((a32_le hb1 ha1).mpr z)))))
      · exact lv_if_gt hx hb hD (a_jump hJ) (fun q => K1 (h.1 ((a32_lt hb1 ha1).mp q))) (fun q => K2 (h.2 (Int.not_lt.mp (fun z => q ((a32_lt hb1 ha1).mpr z)))))
      · exact lv_if_le hx hb hD (a_jump hJ) (fun q => K1 (h.1 ((a32_le ha1 hb1).mp q))) (fun q => K2 (h.2 (Int.not_le.mp (fun z => q ((a32_le ha1 hb1).mpr z)))))
    next => exact h.elim
  case tableswitch d0 lo hi offs =>
    dsimp only at h
    split at h
    next a st =>
      obtain ⟨n, hD⟩ := hD
      have ha1 : (Int32.ofInt a).toInt = a := a32_t (a_st1 hst).1
      by_cases h1 : a < lo ∨ hi < a
      · exact lv_tableOut hx hb hD (by rw [ha1]; exact h1) (a_jump hJ.1) (IH _ _ _ _ _ (h.2 h1) trivial _ _ _ ⟨hL, (a_st1 hst).2, hls, hM, hP, hS⟩)
      · have hlt : (a - lo).toNat < offs.size := by have := hO.1; omega
        have hoff : offs[(a - lo).toNat]? = some offs[(a - lo).toNat] := by simp [hlt]
        refine lv_tableIn hx hb hD (by rw [ha1]; omega) (by rw [ha1]; omega) (off := offs[(a - lo).toNat]) (by rw [ha1]; exact hoff) (a_jump (hJ.2 _ (by simp))) ?_
        refine IH _ _ _ _ _ (a_tsw_at _ _ _ _ (a - lo).toNat _ _ h.1 (by simp [hlt]) (by omega)) trivial _ _ _ ⟨hL, (a_st1 hst).2, hls, hM, hP, hS⟩
    next => exact h.elim
  case lookupswitch d0 ps =>
    dsimp only at h
    split at h
    next a st =>
      obtain ⟨n, hD⟩ := hD
      have ha1 : (Int32.ofInt a).toInt = a := a32_t (a_st1 hst).1
      obtain ⟨o, g1, g2, g3⟩ := a_lsw_at _ pc a d0 ps.toList h hJ.1 hJ.2
      exact lv_lookup hx hb hD hO (by rw [ha1]; exact g1) (a_jump g2) (IH _ _ _ _ _ g3 trivial _ _ _ ⟨hL, (a_st1 hst).2, hls, hM, hP, hS⟩)
    next => exact h.elim
  case iadd =>
    dsimp only [a_bin, a_binL, a_shL] at h
    split at h
    next b a st => exact lv_iadd hx hb hD (a_top (a32_o _) (IH _ _ _ _ _ h hrs _ _ _ ⟨hL, a_stc (aR32_of _) (a_st1 (a_st1 hst).2).2, hls, hM, hP, hS⟩))
    next => exact h.elim
  case isub =>
    dsimp only [a_bin, a_binL, a_shL] at h
    split at h
    next b a st => exact lv_isub hx hb hD (a_top (a32_o _) (IH _ _ _ _ _ h hrs _ _ _ ⟨hL, a_stc (aR32_of _) (a_st1 (a_st1 hst).2).2, hls, hM, hP, hS⟩))
    next => exact h.elim
  case imul =>
    dsimp only [a_bin, a_binL, a_shL] at h
    split at h
    next b a st => exact lv_imul hx hb hD (a_top (a32_o _) (IH _ _ _ _ _ h hrs _ _ _ ⟨hL, a_stc (aR32_of _) (a_st1 (a_st1 hst).2).2, hls, hM, hP, hS⟩))
    next => exact h.elim
  case iand =>
    dsimp only [a_bin, a_binL, a_shL] at h
    split at h
    next b a st => exact lv_iand hx hb hD (a_top (a32_o _) (IH _ _ _ _ _ h hrs _ _ _ ⟨hL, a_stc (aR32_of _) (a_st1 (a_st1 hst).2).2, hls, hM, hP, hS⟩))
    next => exact h.elim
  case ior =>
    dsimp only [a_bin, a_binL, a_shL] at h
    split at h
    next b a st => exact lv_ior hx hb hD (a_top (a32_o _) (IH _ _ _ _ _ h hrs _ _ _ ⟨hL, a_stc (aR32_of _) (a_st1 (a_st1 hst).2).2, hls, hM, hP, hS⟩))
    next => exact h.elim
  case ixor =>
    dsimp only [a_bin, a_binL, a_shL] at h
    split at h
    next b a st => exact lv_ixor hx hb hD (a_top (a32_o _) (IH _ _ _ _ _ h hrs _ _ _ ⟨hL, a_stc (aR32_of _) (a_st1 (a_st1 hst).2).2, hls, hM, hP, hS⟩))
    next => exact h.elim
  case ishl =>
    dsimp only [a_bin, a_binL, a_shL] at h
    split at h
    next b a st => exact lv_ishl hx hb hD (a_top (a32_o _) (IH _ _ _ _ _ h hrs _ _ _ ⟨hL, a_stc (aR32_of _) (a_st1 (a_st1 hst).2).2, hls, hM, hP, hS⟩))
    next => exact h.elim
  case ishr =>
    dsimp only [a_bin, a_binL, a_shL] at h
    split at h
    next b a st => exact lv_ishr hx hb hD (a_top (a32_o _) (IH _ _ _ _ _ h hrs _ _ _ ⟨hL, a_stc (aR32_of _) (a_st1 (a_st1 hst).2).2, hls, hM, hP, hS⟩))
    next => exact h.elim
  case ladd =>
    dsimp only [a_bin, a_binL, a_shL] at h
    split at h
    next b a st => exact lv_ladd hx hb hD (a_topL (a64_o _) (IH _ _ _ _ _ h hrs _ _ _ ⟨hL, a_stc (aR64_of _) (a_st1 (a_st1 hst).2).2, hls, hM, hP, hS⟩))
    next => exact h.elim
  case lsub =>
    dsimp only [a_bin, a_binL, a_shL] at h
    split at h
    next b a st => exact lv_lsub hx hb hD (a_topL (a64_o _) (IH _ _ _ _ _ h hrs _ _ _ ⟨hL, a_stc (aR64_of _) (a_st1 (a_st1 hst).2).2, hls, hM, hP, hS⟩))
    next => exact h.elim
  case land =>
    dsimp only [a_bin, a_binL, a_shL] at h
    split at h
    next b a st => exact lv_land hx hb hD (a_topL (a64_o _) (IH _ _ _ _ _ h hrs _ _ _ ⟨hL, a_stc (aR64_of _) (a_st1 (a_st1 hst).2).2, hls, hM, hP, hS⟩))
    next => exact h.elim
  case lor =>
    dsimp only [a_bin, a_binL, a_shL] at h
    split at h
    next b a st => exact lv_lor hx hb hD (a_topL (a64_o _) (IH _ _ _ _ _ h hrs _ _ _ ⟨hL, a_stc (aR64_of _) (a_st1 (a_st1 hst).2).2, hls, hM, hP, hS⟩))
    next => exact h.elim
  case lxor =>
    dsimp only [a_bin, a_binL, a_shL] at h
    split at h
    next b a st => exact lv_lxor hx hb hD (a_topL (a64_o _) (IH _ _ _ _ _ h hrs _ _ _ ⟨hL, a_stc (aR64_of _) (a_st1 (a_st1 hst).2).2, hls, hM, hP, hS⟩))
    next => exact h.elim
  case iushr =>
    dsimp only [a_bin, a_binL, a_shL] at h
    split at h
    next b a st => exact lv_iushr hx hb hD (a32_o _).symm (IH _ _ _ _ _ h hrs _ _ _ ⟨hL, a_stc (aR32_of _) (a_st1 (a_st1 hst).2).2, hls, hM, hP, hS⟩)
    next => exact h.elim
  case lshl =>
    dsimp only [a_bin, a_binL, a_shL] at h
    split at h
    next b a st => exact lv_lshl hx hb hD (a64_o _).symm (IH _ _ _ _ _ h hrs _ _ _ ⟨hL, a_stc (aR64_of _) (a_st1 (a_st1 hst).2).2, hls, hM, hP, hS⟩)
    next => exact h.elim
  case lshr =>
    dsimp only [a_bin, a_binL, a_shL] at h
    split at h
    next b a st => exact lv_lshr hx hb hD (a64_o _).symm (IH _ _ _ _ _ h hrs _ _ _ ⟨hL, a_stc (aR64_of _) (a_st1 (a_st1 hst).2).2, hls, hM, hP, hS⟩)
    next => exact h.elim
  case lushr =>
    dsimp only [a_bin, a_binL, a_shL] at h
    split at h
    next b a st => exact lv_lushr hx hb hD (a64_o _).symm (IH _ _ _ _ _ h hrs _ _ _ ⟨hL, a_stc (aR64_of _) (a_st1 (a_st1 hst).2).2, hls, hM, hP, hS⟩)
    next => exact h.elim
  all_goals first | exact (Bool.noConfusion hk) | exact h.elim
end SP
end
section
/-! THE ABSTRACT MACHINE IS SOUND: instructions over the heap, ends. -/
theorem a_ix {i : Int} {n : Nat} (h : 0 ≤ i ∧ i < n) (hr : aR32 i) : vp_in (Int32.ofInt i) n := (a32_ix h.1 h.2 hr).1
theorem a_ixn {i : Int} {n : Nat} (h : 0 ≤ i ∧ i < n) (hr : aR32 i) : (Int32.ofInt i).toNatClampNeg = i.toNat := (a32_ix h.1 h.2 hr).2
theorem a_tn {i : Int} (h : 0 ≤ i) : ((i.toNat : Nat) : Int) = i := Int.toNat_of_nonneg h
theorem a_nch {z : Int} (h : 0 ≤ z ∧ z < 65536) : narrow .char (.int (Int32.ofInt z)) = .int (Int32.ofInt z) ∧ fits .char (.int (Int32.ofInt z)) = true ∧ vp_nar .char (Int32.ofInt z) = Int32.ofInt z := by
  have e : Int32.ofInt z = nI z.toNat := by
    unfold nI
    apply Int32.toInt_inj.mp
    rw [a32_t ⟨by omega, by omega⟩, Int32.toInt_ofNat_of_lt (by omega)]
    omega
  rw [e]
  obtain ⟨h1, h2⟩ := pk_charN (q := z.toNat) (by omega)
  refine ⟨h1, h2, ?_⟩
  unfold vp_nar
  rw [h1]
section AALD
variable {p : Program} {l : Launch} {e : Env} {R : Room} {s : State} {m : MethodId} {args : Array Value} {below : List Frame} {meth : Method} {c : Code} {H : Heap} {locs : List Loc} {cells slots : Nat} {Q : State → Prop}
variable {cc : ByteArray} {pc : Nat} {ls : Array Slot} {rest : List Value} {D : va_G} {cl : List vw_C} {a : Nat} {tys : List (ClassId × FieldType)} {ws : va_W}
/-- a row out of an array of rows -/
theorem a_aald (hexec : p.tables.exec = Jvm.exec) (hb : c.code = cc) (hK : va_K D cl tys s) (hP : va_P D cl ws H) (q0 t0 : Nat) {cA : ClassId} {ty : FieldType} {n : Nat} {f : Nat → Option Nat} (ha : ws[q0]? = some (a, .inl (cA, n, .inr (.inr (.inr (.inr f)))))) (ht : tys[t0]? = some (cA, .array ty)) {i : Int32} (hin : vp_in i n) (hdg : decode cc pc = .ok (.aaload, 1))
    (kk : W p l e R s m args below meth c H locs cells slots Q (F0 m (pc + 1) ls (va_rf (f i.toNatClampNeg) :: rest))) : W p l e R s m args below meth c H locs cells slots Q (F0 m pc ls (.int i :: .ref a :: rest)) := by
  have hlt : i.toNatClampNeg < n := Nat.not_le.mp fun q => hin (Or.inr q)
  exact W.aald (v := va_rf (f i.toNatClampNeg)) (ty := .array ty) hexec hb (hP q0 _ ha) ((hK.2 t0 _ ht).1 n (fun j => va_rf (f j))) rfl (fun q => by cases q) (by show ¬ (i < 0 ∨ (arrV _ _ _).slots.size ≤ _); rw [arrV_size]; exact hin) (by show (arrV _ _ _).slots[_]? = _; rw [arrV_read _ _ hlt]) rfl rfl hdg kk
end AALD
section SH
variable {G : AG} {ad : Nat → Nat} {cA : Nat → ClassId} {nc ns nm ncl : Nat} {D : va_G} {cl : List vw_C}
variable {cn : Nat → String} {yn : Nat → MethodName} {bc : Nat → ByteArray} {tf : Nat → u_T × Nat × (Nat → FieldType)} {AW AN : List Cond}
variable {zs : List ((String × String × String) × Nat)} {sk : Nat → String × Nat × String} {XS : State → Heap → Prop}
variable {p : Program} {l : Launch} {e : Env} {s : State} {m : MethodId} {args : Array Value} {below : List Frame} {meth : Method} {c : Code} {H : Heap} {locs : List Loc} {lsC : Array Slot} {d y : Nat} {Q : Option AV → AM → Prop}
theorem aw_putA {M : AM} {k t n : Nat} {i z : Int} (hG : aGW G nc) (hk : G.1 k = kA t n) (ht : t ≠ 3) (hi : 0 ≤ i) : (aw G ad cA nc M).set k (ad k, .inl (cA t, n, .inl (upd (fun j => Int32.ofInt (M k j)) i.toNat (Int32.ofInt z)))) = aw G ad cA nc (am_up M k i z) := by
  rw [aw_set (q := k) (fun q' _ hq => aw_other hG (fun a b c x => by rw [hk] at x; cases x) hq), aw_eA hk ht]
  refine congrArg (fun f => (aw G ad cA nc M).set k (ad k, .inl (cA t, n, .inl f))) (funext fun j => ?_)
  by_cases hj : j = i.toNat
  · subst hj; simp [upd, am_up, a_tn hi]
  · have : ¬ (j : Int) = i := by omega
    simp [upd, am_up, hj, this]
theorem aw_putL {M : AM} {k n : Nat} {i z : Int} (hG : aGW G nc) (hk : G.1 k = kA 3 n) (hi : 0 ≤ i) : (aw G ad cA nc M).set k (ad k, .inl (cA 3, n, .inr (.inl (vp_updL (fun j => Int64.ofInt (M k j)) i.toNat (Int64.ofInt z))))) = aw G ad cA nc (am_up M k i z) := by
  rw [aw_set (q := k) (fun q' _ hq => aw_other hG (fun a b c x => by rw [hk] at x; cases x) hq), aw_eL hk]
  refine congrArg (fun f => (aw G ad cA nc M).set k (ad k, .inl (cA 3, n, .inr (.inl f)))) (funext fun j => ?_)
  by_cases hj : j = i.toNat
  · subst hj; simp [vp_updL, am_up, a_tn hi]
  · have : ¬ (j : Int) = i := by omega
    simp [vp_updL, am_up, hj, this]
theorem aw_putR {M : AM} {k n len base : Nat} {r i z : Int} (hG : aGW G nc) (hk : G.1 k = kR n len base) (hr0 : 0 ≤ r) (hr1 : r < n) (hi : 0 ≤ i) (hi1 : i < len) : (aw G ad cA nc M).set (base + r.toNat) (ad (base + r.toNat), .inl (cA 0, len, .inl (upd (fun j => if j < len then Int32.ofInt (M k ((r.toNat : Nat) * len + j)) else 0) i.toNat (Int32.ofInt z)))) = aw G ad cA nc (am_up M k (r * len + i) z) := by
  obtain ⟨hb, hw⟩ := hG.2.1 k n len base hk r.toNat (by omega)
  have er : ((r.toNat : Nat) : Int) = r := a_tn hr0
  rw [aw_set (q := base + r.toNat) (fun q' _ hq => by have := aw_otherR (ad := ad) (cA := cA) (M := M) (z := z) hG hk (r := r.toNat) (by omega) hi hi1 hq; rw [er] at this; exact this), aw_eW hw]
  refine congrArg (fun f => (aw G ad cA nc M).set (base + r.toNat) (ad (base + r.toNat), .inl (cA 0, len, .inl f))) (funext fun j => ?_)
  by_cases hj : j = i.toNat
  · subst hj
    have : i.toNat < len := by omega
    simp [upd, am_up, er, a_tn hi, this]
  · have : ¬ (j : Int) = i := by omega
    simp [upd, am_up, er, hj, this]
theorem aw_putO {M : AM} {k ci j : Nat} {fs : List Nat} {z : Int} (hG : aGW G nc) (hk : G.1 k = .inl (ci, fs)) (hf : fs[j]? = some 0 ∨ fs[j]? = some 1) : (aw G ad cA nc M).set k (ad k, .inr (ci, (aw_fv ad M k 0 fs).set j (.int (Int32.ofInt z)))) = aw G ad cA nc (am_up M k j z) := by
  rw [aw_set (q := k) (fun q' _ hq => aw_other hG (fun a b c x => by rw [hk] at x; cases x) hq), aw_eO hk]
  refine congrArg (fun f => (aw G ad cA nc M).set k (ad k, .inr (ci, f))) (List.ext_getElem? fun i => ?_)
  rw [List.getElem?_set, aw_fv_get, aw_fv_get, aw_fv_len]
  by_cases h : j = i
  · subst h
    have hl : j < fs.length := by rcases hf with hf | hf <;> exact (List.getElem?_eq_some_iff.mp hf).1
    rw [if_pos rfl, if_pos hl]
    rcases hf with hf | hf <;> simp [hf, am_up]
  · rw [if_neg h]
    have h2 : ¬ ((i : Nat) : Int) = (j : Int) := by omega
    split <;> simp [am_up, h2]
set_option maxHeartbeats 4000000 in
/-- instructions over the heap -/
theorem a_step_h {run : Nat → List AV → AM → (Option AV → AM → Prop) → Prop} {nx : Nat → AB → AL → List AV → AM → Prop} {pc : Nat} {ins : Jvm.ClassFile.Instr} {x : AX} {rs : AB} {ls : AL} {st : List AV} {M : AM}
    (hT : aTab G ad nc ns nm ncl cl cn yn bc tf AW AN zs sk XS)
    (hC : aCtx G ad cA nc ns D cl cn bc AW AN zs sk XS d y p s m args meth c) (hI : aInv G ad cA nc ns D cl y ls st M s H locs lsC)
    (hD : okD bc y pc ins) (hJ : okJ pc ins) (hO : okI G ns nm ncl cn yn tf AW AN zs sk y ins x) (hrs : okL G ns nm ncl cn yn bc tf AW AN zs sk y (pc + a_len ins) rs)
    (IH : aIH G ad cA nc ns nm ncl D cl cn yn bc tf AW AN zs sk d y Q p l e s m args below meth c nx)
    (hk : a_kh ins = true)
    (h : a_step G run nx (G.2.1 y).2.2.1 Q pc ins x rs ls st M) : aWl G ad cA nc ns D cl d Q p l e s m args below meth c H locs lsC pc (st.map (acv G ad)) := by
  obtain ⟨hx, hb, hr, hml, hown, hts, hlk, hX⟩ := id hC
  obtain ⟨hL, hst, hls, hM, hP, hS⟩ := id hI
  obtain ⟨hG, hadi, hcl, hKf, hMt, hgw, hAN, hblk, hXm, hXk⟩ := id hT
  have hDD := aD_of (G := G) (cA := cA) hadi M
  have hK := hX.1
  have t0 : (aTys cA)[0]? = some (cA 0, .int) := rfl
  have t1 : (aTys cA)[1]? = some (cA 1, .boolean) := rfl
  have t2 : (aTys cA)[2]? = some (cA 2, .char) := rfl
  have t3 : (aTys cA)[3]? = some (cA 3, .long) := rfl
  have t4 : (aTys cA)[4]? = some (cA 4, .array .int) := rfl
  unfold a_step at h
  cases ins
  case ldc i =>
    dsimp only at h
    split at h
    next z k => exact lv_ldc hx hb hown (hts _ hO.2) hD (IH _ _ _ _ _ h hrs _ _ _ ⟨hL, a_stc hO.1 hst, hls, hM, hP, hS⟩)
    next z k =>
      obtain ⟨o1, o2, o3⟩ := hO
      have hz := hX.2.2.2.2.1 k o1
      rw [o2, o3] at hz
      exact va_ldcS hx hb hown hz hD (IH _ _ _ _ _ h hrs _ _ _ ⟨hL, a_stc o1 hst, hls, hM, hP, hS⟩)
    next => exact h.elim
  case getfield i =>
    dsimp only at h
    split at h
    next q st =>
      split at h
      next ci fs eq =>
        replace h := a_cond h
        obtain ⟨h1, h⟩ := h
        have eci : ci = x.2.1 := Nat.eq_of_beq_eq_true h1
        subst eci
        obtain ⟨o1, o2, o3⟩ := hO
        obtain ⟨g1, g2, g3, g4⟩ := hcl _ o1
        have hq : q < nc := aw_in hG (fun cs x => by rw [eq] at x; cases x)
        have hv := aw_fv_get (ad := ad) (M := M) (q := q) fs 0 x.2.2
        unfold a_fld at h
        have he : (aw G ad cA nc M)[q]? = some (ad q, .inr (x.2.1, aw_fv ad M q 0 fs)) := by rw [aw_at hq, aw_eO eq]
        have nl : ∀ n, G.1 q ≠ kA 3 n := fun n x => by rw [eq] at x; cases x
        split at h
        next v ev =>
          split at ev
          next => cases ev
          next f0 =>
            cases ev
            rw [f0] at hv
            exact va_get hx hb hts g2 hown hK hP q he g1 x.2.2 o2 (hts _ o3) (fun _ z => z) hv hD (a_top (by rw [Nat.zero_add]) (IH _ _ _ _ _ h hrs _ _ _ ⟨hL, a_stc (aOKM_i hM nl _) (a_st1 hst).2, hls, hM, hP, hS⟩))
          next f0 =>
            cases ev
            rw [f0] at hv
            exact va_get hx hb hts g2 hown hK hP q he g1 x.2.2 o2 (hts _ o3) (fun _ z => z) hv hD (a_top (by rw [Nat.zero_add]) (IH _ _ _ _ _ h hrs _ _ _ ⟨hL, a_stc (aOKM_i hM nl _) (a_st1 hst).2, hls, hM, hP, hS⟩))
          next j f0 =>
            cases ev
            rw [f0] at hv
            exact va_get hx hb hts g2 hown hK hP q he g1 x.2.2 o2 (hts _ o3) (fun _ z => z) hv hD (IH _ _ _ _ _ h hrs _ _ _ ⟨hL, a_stc trivial (a_st1 hst).2, hls, hM, hP, hS⟩)
        next => exact h.elim
      next => exact h.elim
    next => exact h.elim
  case putfield i =>
    dsimp only at h
    split at h
    next z q st =>
      split at h
      next ci fs eq =>
        replace h := a_cond h
        obtain ⟨h1, h⟩ := h
        have eci : ci = x.2.1 := Nat.eq_of_beq_eq_true h1
        subst eci
        obtain ⟨⟨o1, o2, o3⟩, o4⟩ := hO
        obtain ⟨g1, g2, g3, g4⟩ := hcl _ o1
        obtain ⟨k1, k2, k3⟩ := hKf q _ fs eq
        have hq : q < nc := aw_in hG (fun cs x => by rw [eq] at x; cases x)
        have he : (aw G ad cA nc M)[q]? = some (ad q, .inr (x.2.1, aw_fv ad M q 0 fs)) := by rw [aw_at hq, aw_eO eq]
        have nl : ∀ n, G.1 q ≠ kA 3 n := fun n x => by rw [eq] at x; cases x
        have hz := (a_st1 hst).1
        split at h
        next f0 =>
          exact va_put hx hb hts g2 _ g3 g4 hown hK hP hDD hS q he g1 x.2.2 o2 (hts _ o3) (fun _ z => z) o4 (ty := .int) (by rw [g3 _ o2, (k3 x.2.2).1 f0]) rfl rfl (by rw [aw_fv_len, k2]; exact o2) hD (fun H1 locs1 a1 a2 a3 => IH _ _ _ _ _ h hrs _ _ _ ⟨hL, (a_st1 (a_st1 hst).2).2, hls, aOKM_upi hM nl hz, by rw [← aw_putO hG eq (Or.inl f0)]; exact a1, a3⟩)
        next f0 =>
          have hn : narrow .boolean (.int (Int32.ofInt z)) = .int (Int32.ofInt z) ∧ fits .boolean (.int (Int32.ofInt z)) = true := by rcases h.1 with h0 | h0 <;> rw [h0] <;> exact ⟨rfl, rfl⟩
          exact va_put hx hb hts g2 _ g3 g4 hown hK hP hDD hS q he g1 x.2.2 o2 (hts _ o3) (fun _ z => z) o4 (ty := .boolean) (by rw [g3 _ o2, (k3 x.2.2).2 f0]) hn.1 hn.2 (by rw [aw_fv_len, k2]; exact o2) hD (fun H1 locs1 a1 a2 a3 => IH _ _ _ _ _ h.2 hrs _ _ _ ⟨hL, (a_st1 (a_st1 hst).2).2, hls, aOKM_upi hM nl hz, by rw [← aw_putO hG eq (Or.inr f0)]; exact a1, a3⟩)
        next => exact h.elim
      next => exact h.elim
    next => exact h.elim
  case getstatic i =>
    obtain ⟨C, n, dd, o3, o4⟩ := hO
    exact va_gets hx hb (hX.2.2.1 _ o3) hS hown (hts _ o4) (fun _ z => z) hD (IH _ _ _ _ _ h hrs _ _ _ ⟨hL, a_stc trivial hst, hls, hM, hP, hS⟩)
  case arraylength =>
    dsimp only at h
    split at h
    next q st =>
      split at h
      next t n eq =>
        have hq : q < nc := aw_in hG (fun cs x => by rw [eq] at x; cases x)
        obtain ⟨w1, w2⟩ := hG.2.2.2.2 q t n eq
        have nn : aR32 (n : Int) := ⟨by omega, by omega⟩
        have en : Int32.ofNat n = Int32.ofInt (n : Int) := by first | rfl | simp
        rcases (show t = 3 ∨ t ≠ 3 by omega) with h3 | h3
        · subst h3
          exact va_alen hx hb hK hP q 3 (by rw [aw_at hq, aw_eL eq]) t3 en hD (IH _ _ _ _ _ h hrs _ _ _ ⟨hL, a_stc nn (a_st1 hst).2, hls, hM, hP, hS⟩)
        · have he : (aw G ad cA nc M)[q]? = some (ad q, .inl (cA t, n, .inl (fun j => Int32.ofInt (M q j)))) := by rw [aw_at hq, aw_eA eq h3]
          have k9 := IH _ _ _ _ _ h hrs H locs lsC ⟨hL, a_stc nn (a_st1 hst).2, hls, hM, hP, hS⟩
          rcases (show t = 0 ∨ t = 1 ∨ t = 2 by omega) with h0 | h0 | h0 <;> subst h0
          · exact va_alen hx hb hK hP q 0 he t0 en hD k9
          · exact va_alen hx hb hK hP q 1 he t1 en hD k9
          · exact va_alen hx hb hK hP q 2 he t2 en hD k9
      next => exact h.elim
    next => exact h.elim
  case iaload =>
    dsimp only at h
    split at h
    next i q st =>
      have hi := (a_st1 hst).1
      split at h
      next n eq =>
        have hq : q < nc := aw_in hG (fun cs x => by rw [eq] at x; cases x)
        have he : (aw G ad cA nc M)[q]? = some (ad q, .inl (cA 0, n, .inl (fun j => Int32.ofInt (M q j)))) := by rw [aw_at hq, aw_eA eq (by decide)]
        have nl : ∀ n, G.1 q ≠ kA 3 n := fun n x => by rw [eq] at x; cases x
        exact va_iald hx hb hK hP q 0 he t0 (a_ix h.1 hi) hD (a_top (by rw [a_ixn h.1 hi, a_tn h.1.1]) (IH _ _ _ _ _ h.2 hrs _ _ _ ⟨hL, a_stc (aOKM_i hM nl _) (a_st1 (a_st1 hst).2).2, hls, hM, hP, hS⟩))
      next cs eq =>
        have hz : aR32 (cs.getD i.toNat 0) := by
          have hl : i.toNat < cs.length := by have := h.1; omega
          rw [List.getD_eq_getElem?_getD, List.getElem?_eq_getElem hl]
          exact hG.2.2.2.1 q cs eq _ (List.getElem_mem hl)
        have hne : cs ≠ [] := fun x => by rw [x] at h; have := h.1; simp at this; omega
        exact va_ti hx hb (hX.2.1 q cs eq hne) hS (a_ix h.1 hi) (v := .int (Int32.ofInt (cs.getD i.toNat 0))) (by rw [a_ixn h.1 hi]) hD (IH _ _ _ _ _ h.2 hrs _ _ _ ⟨hL, a_stc hz (a_st1 (a_st1 hst).2).2, hls, hM, hP, hS⟩)
      next => exact h.elim
    next i q r st =>
      have hi := (a_st1 hst).1
      have hr := (a_st1 (a_st1 hst).2).1
      split at h
      next n len base eq =>
        obtain ⟨n', len', base', e1, e2, e3⟩ := hr
        rw [eq] at e1
        cases e1
        obtain ⟨hb2, hw⟩ := hG.2.1 q n len base eq r.toNat (by omega)
        have he : (aw G ad cA nc M)[base + r.toNat]? = some (ad (base + r.toNat), .inl (cA 0, len, .inl (fun j => if j < len then Int32.ofInt (M q ((r.toNat : Nat) * len + j)) else 0))) := by rw [aw_at hb2, aw_eW hw]
        have hrb : a_rb G q = base := by simp only [a_rb, eq]
        have nl : ∀ n, G.1 q ≠ kA 3 n := fun n x => by rw [eq] at x; cases x
        have k9 := va_iald hx hb hK hP (base + r.toNat) 0 he t0 (a_ix h.1 hi) hD (a_top (by rw [a_ixn h.1 hi, if_pos (by omega), a_tn h.1.1, a_tn e2]) (IH _ _ _ _ _ h.2 hrs _ _ _ ⟨hL, a_stc (aOKM_i hM nl _) (a_st1 (a_st1 hst).2).2, hls, hM, hP, hS⟩))
        simpa only [List.map_cons, acv, hrb] using k9
      next => exact h.elim
    next => exact h.elim
  case aaload =>
    dsimp only at h
    split at h
    next i q st =>
      have hi := (a_st1 hst).1
      split at h
      next n len base eq =>
        have hq : q < nc := aw_in hG (fun cs x => by rw [eq] at x; cases x)
        have he : (aw G ad cA nc M)[q]? = some (ad q, .inl (cA 4, n, .inr (.inr (.inr (.inr (fun i => if i < n then some (ad (base + i)) else none)))))) := by rw [aw_at hq, aw_eR eq]
        have hrb : a_rb G q = base := by simp only [a_rb, eq]
        have k9 := IH _ _ _ _ _ h.2 hrs H locs lsC ⟨hL, a_stc ⟨n, len, base, eq, h.1.1, h.1.2⟩ (a_st1 (a_st1 hst).2).2, hls, hM, hP, hS⟩
        refine a_aald hx hb hK hP q 4 he t4 (a_ix h.1 hi) hD ?_
        rw [a_ixn h.1 hi, if_pos (by have := h.1; omega)]
        simpa only [List.map_cons, acv, hrb, va_rf] using k9
      next => exact h.elim
    next => exact h.elim
  case baload =>
    dsimp only at h
    split at h
    next i q st =>
      have hi := (a_st1 hst).1
      split at h
      next n eq =>
        have hq : q < nc := aw_in hG (fun cs x => by rw [eq] at x; cases x)
        have he : (aw G ad cA nc M)[q]? = some (ad q, .inl (cA 1, n, .inl (fun j => Int32.ofInt (M q j)))) := by rw [aw_at hq, aw_eA eq (by decide)]
        have nl : ∀ n, G.1 q ≠ kA 3 n := fun n x => by rw [eq] at x; cases x
        exact va_zald hx hb hK hP q 1 he t1 (a_ix h.1 hi) hD (a_top (by rw [a_ixn h.1 hi, a_tn h.1.1]) (IH _ _ _ _ _ h.2 hrs _ _ _ ⟨hL, a_stc (aOKM_i hM nl _) (a_st1 (a_st1 hst).2).2, hls, hM, hP, hS⟩))
      next => exact h.elim
    next => exact h.elim
  case caload =>
    dsimp only at h
    split at h
    next i q st =>
      have hi := (a_st1 hst).1
      split at h
      next n eq =>
        have hq : q < nc := aw_in hG (fun cs x => by rw [eq] at x; cases x)
        have he : (aw G ad cA nc M)[q]? = some (ad q, .inl (cA 2, n, .inl (fun j => Int32.ofInt (M q j)))) := by rw [aw_at hq, aw_eA eq (by decide)]
        have nl : ∀ n, G.1 q ≠ kA 3 n := fun n x => by rw [eq] at x; cases x
        exact va_cald hx hb hK hP q 2 he t2 (a_ix h.1 hi) hD (a_top (by rw [a_ixn h.1 hi, a_tn h.1.1]) (IH _ _ _ _ _ h.2 hrs _ _ _ ⟨hL, a_stc (aOKM_i hM nl _) (a_st1 (a_st1 hst).2).2, hls, hM, hP, hS⟩))
      next => exact h.elim
    next => exact h.elim
  case laload =>
    dsimp only at h
    split at h
    next i q st =>
      have hi := (a_st1 hst).1
      split at h
      next n eq =>
        have hq : q < nc := aw_in hG (fun cs x => by rw [eq] at x; cases x)
        have he : (aw G ad cA nc M)[q]? = some (ad q, .inl (cA 3, n, .inr (.inl (fun j => Int64.ofInt (M q j))))) := by rw [aw_at hq, aw_eL eq]
        exact va_lald hx hb hK hP q 3 he t3 (a_ix h.1 hi) hD (a_topL (by rw [a_ixn h.1 hi, a_tn h.1.1]) (IH _ _ _ _ _ h.2 hrs _ _ _ ⟨hL, a_stc (aOKM_l hM eq _) (a_st1 (a_st1 hst).2).2, hls, hM, hP, hS⟩))
      next => exact h.elim
    next => exact h.elim
  case iastore =>
    dsimp only at h
    split at h
    next z i q st =>
      have hz := (a_st1 hst).1
      have hi := (a_st1 (a_st1 hst).2).1
      split at h
      next n eq =>
        have hq : q < nc := aw_in hG (fun cs x => by rw [eq] at x; cases x)
        have he : (aw G ad cA nc M)[q]? = some (ad q, .inl (cA 0, n, .inl (fun j => Int32.ofInt (M q j)))) := by rw [aw_at hq, aw_eA eq (by decide)]
        have nl : ∀ n, G.1 q ≠ kA 3 n := fun n x => by rw [eq] at x; cases x
        exact va_iast hx hb hK hP hDD hS q 0 he t0 (a_ix h.1 hi) hD (fun H1 locs1 a1 a2 a3 => IH _ _ _ _ _ h.2 hrs _ _ _ ⟨hL, (a_st1 (a_st1 (a_st1 hst).2).2).2, hls, aOKM_upi hM nl hz, by rw [← aw_putA hG eq (by decide) h.1.1, ← a_ixn h.1 hi]; exact a1, a3⟩)
      next => exact h.elim
    next z i q r st =>
      have hz := (a_st1 hst).1
      have hi := (a_st1 (a_st1 hst).2).1
      have hr := (a_st1 (a_st1 (a_st1 hst).2).2).1
      split at h
      next n len base eq =>
        obtain ⟨n', len', base', e1, e2, e3⟩ := hr
        rw [eq] at e1
        cases e1
        obtain ⟨hb2, hw⟩ := hG.2.1 q n len base eq r.toNat (by omega)
        have he : (aw G ad cA nc M)[base + r.toNat]? = some (ad (base + r.toNat), .inl (cA 0, len, .inl (fun j => if j < len then Int32.ofInt (M q ((r.toNat : Nat) * len + j)) else 0))) := by rw [aw_at hb2, aw_eW hw]
        have hrb : a_rb G q = base := by simp only [a_rb, eq]
        have nl : ∀ n, G.1 q ≠ kA 3 n := fun n x => by rw [eq] at x; cases x
        have k9 := va_iast (x := Int32.ofInt z) hx hb hK hP hDD hS (base + r.toNat) 0 he t0 (a_ix h.1 hi) hD (fun H1 locs1 a1 a2 a3 => IH _ _ _ _ _ h.2 hrs H1 locs1 lsC ⟨hL, (a_st1 (a_st1 (a_st1 hst).2).2).2, hls, aOKM_upi hM nl hz, by rw [← aw_putR hG eq e2 e3 h.1.1 h.1.2, ← a_ixn h.1 hi]; exact a1, a3⟩)
        simpa only [List.map_cons, acv, hrb] using k9
      next => exact h.elim
    next => exact h.elim
  case bastore =>
    dsimp only at h
    split at h
    next z i q st =>
      have hz := (a_st1 hst).1
      have hi := (a_st1 (a_st1 hst).2).1
      split at h
      next n eq =>
        have hq : q < nc := aw_in hG (fun cs x => by rw [eq] at x; cases x)
        have he : (aw G ad cA nc M)[q]? = some (ad q, .inl (cA 1, n, .inl (fun j => Int32.ofInt (M q j)))) := by rw [aw_at hq, aw_eA eq (by decide)]
        have nl : ∀ n, G.1 q ≠ kA 3 n := fun n x => by rw [eq] at x; cases x
        have hn : vp_nar .boolean (Int32.ofInt z) = Int32.ofInt z := by rcases h.2.1 with h0 | h0 <;> rw [h0] <;> rfl
        exact va_zast hx hb hK hP hDD hS q 1 he t1 (a_ix h.1 hi) hD (fun H1 locs1 a1 a2 a3 => IH _ _ _ _ _ h.2.2 hrs _ _ _ ⟨hL, (a_st1 (a_st1 (a_st1 hst).2).2).2, hls, aOKM_upi hM nl hz, by rw [hn] at a1; rw [← aw_putA hG eq (by decide) h.1.1, ← a_ixn h.1 hi]; exact a1, a3⟩)
      next => exact h.elim
    next => exact h.elim
  case castore =>
    dsimp only at h
    split at h
    next z i q st =>
      have hz := (a_st1 hst).1
      have hi := (a_st1 (a_st1 hst).2).1
      split at h
      next n eq =>
        have hq : q < nc := aw_in hG (fun cs x => by rw [eq] at x; cases x)
        have he : (aw G ad cA nc M)[q]? = some (ad q, .inl (cA 2, n, .inl (fun j => Int32.ofInt (M q j)))) := by rw [aw_at hq, aw_eA eq (by decide)]
        have nl : ∀ n, G.1 q ≠ kA 3 n := fun n x => by rw [eq] at x; cases x
        have hn : vp_nar .char (Int32.ofInt z) = Int32.ofInt z := (a_nch h.2.1).2.2
        exact va_cast hx hb hK hP hDD hS q 2 he t2 (a_ix h.1 hi) hD (fun H1 locs1 a1 a2 a3 => IH _ _ _ _ _ h.2.2 hrs _ _ _ ⟨hL, (a_st1 (a_st1 (a_st1 hst).2).2).2, hls, aOKM_upi hM nl hz, by rw [hn] at a1; rw [← aw_putA hG eq (by decide) h.1.1, ← a_ixn h.1 hi]; exact a1, a3⟩)
      next => exact h.elim
    next => exact h.elim
  case lastore =>
    dsimp only at h
    split at h
    next z i q st =>
      have hz := (a_st1 hst).1
      have hi := (a_st1 (a_st1 hst).2).1
      split at h
      next n eq =>
        have hq : q < nc := aw_in hG (fun cs x => by rw [eq] at x; cases x)
        have he : (aw G ad cA nc M)[q]? = some (ad q, .inl (cA 3, n, .inr (.inl (fun j => Int64.ofInt (M q j))))) := by rw [aw_at hq, aw_eL eq]
        exact va_last hx hb hK hP hDD hS q 3 he t3 (a_ix h.1 hi) hD (fun H1 locs1 a1 a2 a3 => IH _ _ _ _ _ h.2 hrs _ _ _ ⟨hL, (a_st1 (a_st1 (a_st1 hst).2).2).2, hls, aOKM_upl hM eq hz, by rw [← aw_putL hG eq h.1.1, ← a_ixn h.1 hi]; exact a1, a3⟩)
      next => exact h.elim
    next => exact h.elim
  case ireturn =>
    dsimp only at h
    split at h
    next z =>
      have hz := (a_st1 hst).1
      have hq : ∀ rk, (G.2.1 y).2.2.1 = rk → narrow ((aRty rk).getD .int) (.int (Int32.ofInt z)) = .int (Int32.ofInt z) ∧ aRty rk = some ((aRty rk).getD .int) ∧ Q (some (aI z)) M := by
        intro rk hrk
        rw [hrk] at h
        split at h
        · exact ⟨rfl, rfl, h⟩
        · refine ⟨?_, rfl, h.2⟩
          rcases h.1 with h0 | h0 <;> rw [h0] <;> rfl
        · exact ⟨(a_nch h.1).1, rfl, h.2⟩
        · exact h.elim
      obtain ⟨q1, q2, q3⟩ := hq _ rfl
      exact W.zret hx hb (hr.trans q2) q1 (fun t ht _ => ⟨⟨some (aI z), M, rfl, q3, fun v hv => (by cases hv; exact hz), hM, by rw [ht]; exact hP⟩, va_S.F hS ht⟩) hS.2.2 hD hlk
    next => exact h.elim
  case return_ =>
    dsimp only at h
    split at h
    next =>
      have hq : ∀ rk, (G.2.1 y).2.2.1 = rk → aRty rk = none ∧ Q none M := by
        intro rk hrk
        rw [hrk] at h
        split at h
        · exact ⟨rfl, h⟩
        · exact h.elim
      obtain ⟨q2, q3⟩ := hq _ rfl
      exact W.vret hx hb (hr.trans q2) (fun t ht _ => ⟨⟨none, M, rfl, q3, fun v hv => (by cases hv), hM, by rw [ht]; exact hP⟩, va_S.F hS ht⟩) hS.2.2 hD hlk
    next => exact h.elim
  all_goals first | exact (Bool.noConfusion hk) | exact h.elim
end SH
end
section
/-! THE ABSTRACT MACHINE IS SOUND: calls, and the whole walk of a method. -/
theorem a_opt {G : AG} {ad : Nat → Nat} (r : Option AV) (st : List AV) : (r.map (acv G ad)).toList ++ st.map (acv G ad) = (r.toList ++ st).map (acv G ad) := by cases r <;> simp
theorem a_pabs {a : Int} (h : aR32 a) : Int32.ofInt (if a < 0 then a_neg a else a) = (if 0 ≤ Int32.ofInt a then Int32.ofInt a else 0 - Int32.ofInt a) := by
  have h0 : aR32 0 := ⟨by decide, by decide⟩
  have e : (0 : Int32) ≤ Int32.ofInt a ↔ 0 ≤ a := a32_le h0 h
  by_cases c : a < 0
  · rw [if_pos c, if_neg (fun z => by have := e.mp z; omega)]
    unfold a_neg
    rw [a32_o]
    simp
  · rw [if_neg c, if_pos (e.mpr (by omega))]
theorem a_pabsR {a : Int} (h : aR32 a) : aR32 (if a < 0 then a_neg a else a) := by
  split
  · exact aR32_of _
  · exact h
theorem a_pmax {a b : Int} (ha : aR32 a) (hb : aR32 b) : Int32.ofInt (if b ≤ a then a else b) = (if Int32.ofInt a < Int32.ofInt b then Int32.ofInt b else Int32.ofInt a) := by
  by_cases c : b ≤ a
  · rw [if_pos c, if_neg (fun z => by have := (a32_lt ha hb).mp z; omega)]
  · rw [if_neg c, if_pos ((a32_lt ha hb).mpr (by omega))]
theorem a_pmin {a b : Int} (ha : aR32 a) (hb : aR32 b) : Int32.ofInt (if a ≤ b then a else b) = (if Int32.ofInt b < Int32.ofInt a then Int32.ofInt b else Int32.ofInt a) := by
  by_cases c : a ≤ b
  · rw [if_pos c, if_neg (fun z => by have := (a32_lt hb ha).mp z; omega)]
  · rw [if_neg c, if_pos ((a32_lt hb ha).mpr (by omega))]
section SC
variable {G : AG} {ad : Nat → Nat} {cA : Nat → ClassId} {nc ns nm ncl : Nat} {D : va_G} {cl : List vw_C}
variable {cn : Nat → String} {yn : Nat → MethodName} {bc : Nat → ByteArray} {tf : Nat → u_T × Nat × (Nat → FieldType)} {AW AN : List Cond}
variable {zs : List ((String × String × String) × Nat)} {sk : Nat → String × Nat × String} {XS : State → Heap → Prop}
variable {p : Program} {l : Launch} {e : Env} {s : State} {m : MethodId} {args : Array Value} {below : List Frame} {meth : Method} {c : Code} {H : Heap} {locs : List Loc} {lsC : Array Slot} {d y : Nat} {Q : Option AV → AM → Prop}
/-- String.length() and charAt() of the string constants -/
def aStr (G : AG) (ad : Nat → Nat) (cA : Nat → ClassId) (nc ns : Nat) (D : va_G) (cl : List vw_C) (cn : Nat → String) (bc : Nat → ByteArray) (AW AN : List Cond) (zs : List ((String × String × String) × Nat)) (sk : Nat → String × Nat × String) (XS : State → Heap → Prop) (l : Launch) : Prop :=
  ∀ (y d : Nat) (Q : Option AV → AM → Prop) (p : Program) (e : Env) (s : State) (m : MethodId) (args : Array Value) (below : List Frame) (meth : Method) (c : Code), aCtx G ad cA nc ns D cl cn bc AW AN zs sk XS d y p s m args meth c →
    ∀ (pc i k : Nat) (rest : List Value) (H : Heap) (locs : List Loc) (lsC : Array Slot), decode (bc y) pc = .ok (.invokevirtual i, 3) → k < ns → (rest.map fun v => v.category).sum ≤ 8 → lsC.size = aMx G y → va_S (aF ad nc) s.heap H locs →
      (Cond.methodLink (aOw G cn y) i aLenN ∈ AW → (∀ locs1, va_S (aF ad nc) s.heap H locs1 → aWl G ad cA nc ns D cl d Q p l e s m args below meth c H locs1 lsC (pc + 3) (.int (Int32.ofInt (G.2.2.2 k).length) :: rest)) → aWl G ad cA nc ns D cl d Q p l e s m args below meth c H locs lsC pc (.ref (ad (5000 + k)) :: rest)) ∧
      (∀ z : Int, 0 ≤ z ∧ z < (G.2.2.2 k).length → Cond.methodLink (aOw G cn y) i aChrN ∈ AW → (∀ locs1, va_S (aF ad nc) s.heap H locs1 → aWl G ad cA nc ns D cl d Q p l e s m args below meth c H locs1 lsC (pc + 3) (.int (Int32.ofInt ((G.2.2.2 k).getD z.toNat 0)) :: rest)) → aWl G ad cA nc ns D cl d Q p l e s m args below meth c H locs lsC pc (.int (Int32.ofInt z) :: .ref (ad (5000 + k)) :: rest))
/-- behind a call -/
theorem a_call {K Qf : Option AV → AM → Prop} {pc : Nat} {a : Array Value} {st0 rest : List Value} (hr : va_Run p l e (aRoom d) s m args below meth c H locs 0 0 0 0 (F0 m pc lsC st0) rest (aQc G ad cA nc ns D cl K a) (aF ad nc)) (hS : va_S (aF ad nc) s.heap H locs)
    (kk : ∀ (r : Option AV) (M' : AM) (H1 : Heap) (locs1 : List Loc), K r M' → (∀ v, r = some v → aOKV G ns v) → aOKM G M' → va_P D cl (aw G ad cA nc M') H1 → va_S (aF ad nc) s.heap H1 locs1 → aWl G ad cA nc ns D cl d Qf p l e s m args below meth c H1 locs1 lsC (pc + 3) ((r.map (acv G ad)).toList ++ rest)) : aWl G ad cA nc ns D cl d Qf p l e s m args below meth c H locs lsC pc st0 := by
  intro T hT X
  obtain ⟨v, st₀, t, T', L, h0, X', hL, e1, e2, ⟨⟨r, M', hv, hp, hrk, hM, hP⟩, hz, hk⟩, st⟩ := hr T hT X
  cases hv
  rw [h0] at hz hk
  obtain ⟨t2, a1, b1⟩ := kk r M' T'.heap (locs ++ L) hp hrk hM (by rw [e1]; exact hP)
    ⟨Nat.le_trans hS.1 (by rw [e1]; exact hz), fun q h1 h2 => by rw [e1, hk q (Nat.lt_of_lt_of_le h1 hS.1) h2]; exact hS.2.1 q h1 h2, fun q hq => by
      rcases List.mem_append.mp hq with h | h
      · exact hS.2.2 q h
      · exact hL q h⟩ T' rfl X'
  exact ⟨t2, st t2 a1, b1⟩
/-- the facts of the entry hold wherever the tables are warmer and only the world has changed -/
theorem aX_warm (hT : aTab G ad nc ns nm ncl cl cn yn bc tf AW AN zs sk XS) (hX : aX G ad cA nc ns D cl AN zs sk XS s) (hS : va_S (aF ad nc) s.heap H locs) {U : State} (hU : U.heap = H) (hW : s.WarmedH U.vm) : aX G ad cA nc ns D cl AN zs sk XS U := by
  obtain ⟨hG, hadi, hcl, hKf, hMt, hgw, hAN, hblk, hXm, hXk⟩ := id hT
  obtain ⟨x1, x2, x3, x4, x5, x6⟩ := hX
  have hq : ∀ a : Nat, a < s.heap.size → ¬ aF ad nc a → U.heap[a]? = s.heap[a]? := fun a h1 h2 => by rw [hU]; exact hS.2.1 a h1 h2
  refine ⟨va_K.moved hW.alike x1, fun q cs h1 h2 => ((x2 q cs h1 h2).kept hq).moved hW.alike, fun z hz => ((x3 z hz).kept hq).moved hW.alike, fun w hw => ?_, fun k hk => (x5 k hk).warm hW, hXm hW.alike (hXk x6 hq)⟩
  obtain ⟨a, i, x, h, rfl⟩ := hAN w hw
  exact va_Nw.warmM hW (x4 _ hw)
theorem aPc_blind (hT : aTab G ad nc ns nm ncl cl cn yn bc tf AW AN zs sk XS) (as : List AV) (M : AM) : FrameBlind (aPc G ad cA nc ns D cl AN zs sk XS as M) := by
  intro a U g mk q
  obtain ⟨q1, q2, q3⟩ := q
  refine ⟨q1, q2, aX_warm hT q3 va_S.rf (U := U.calling g mk a) rfl ?_⟩
  exact State.WarmedH.refl U
theorem aWs_good (hT : aTab G ad nc ns nm ncl cl cn yn bc tf AW AN zs sk XS) {y : Nat} (hy : y < nm) : GoodIn AW (aWs G yn bc AW y) := by
  obtain ⟨hG, hadi, hcl, hKf, hMt, hgw, -⟩ := id hT
  intro w hw
  rcases List.mem_cons.mp hw with h | h
  · rw [h]; exact ⟨(hMt y hy).1, good_of_word (hgw _ (hMt y hy).1)⟩
  · exact ⟨h, good_of_word (hgw _ h)⟩
set_option maxHeartbeats 4000000 in
/-- calls -/
theorem a_step_c {run : Nat → List AV → AM → (Option AV → AM → Prop) → Prop} {nx : Nat → AB → AL → List AV → AM → Prop} {pc : Nat} {ins : Jvm.ClassFile.Instr} {x : AX} {rs : AB} {ls : AL} {st : List AV} {M : AM}
    (hT : aTab G ad nc ns nm ncl cl cn yn bc tf AW AN zs sk XS) (hSt : aStr G ad cA nc ns D cl cn bc AW AN zs sk XS l)
    (hsb : ∀ k, k < ns → aR32 (G.2.2.2 k).length ∧ ∀ z ∈ G.2.2.2 k, aR32 z)
    (hC : aCtx G ad cA nc ns D cl cn bc AW AN zs sk XS d y p s m args meth c) (hI : aInv G ad cA nc ns D cl y ls st M s H locs lsC)
    (hD : okD bc y pc ins) (hJ : okJ pc ins) (hO : okI G ns nm ncl cn yn tf AW AN zs sk y ins x) (hrs : okL G ns nm ncl cn yn bc tf AW AN zs sk y (pc + a_len ins) rs)
    (IH : aIH G ad cA nc ns nm ncl D cl cn yn bc tf AW AN zs sk d y Q p l e s m args below meth c nx)
    (RUN : ∀ y' as M' K, run y' as M' K → y' < nm → (∀ v ∈ as, aOKV G ns v) → aOKM G M' → ∃ d', d = d' + 1 ∧ Met l (yn y') (aWs G yn bc AW y') (aRoom d') (aPc G ad cA nc ns D cl AN zs sk XS as M') (aQc G ad cA nc ns D cl K) 0 0 (aF ad nc))
    (hk : a_kc ins = true)
    (h : a_step G run nx (G.2.1 y).2.2.1 Q pc ins x rs ls st M) : aWl G ad cA nc ns D cl d Q p l e s m args below meth c H locs lsC pc (st.map (acv G ad)) := by
  obtain ⟨hx, hb, hr, hml, hown, hts, hlk, hX⟩ := id hC
  obtain ⟨hL, hst, hls, hM, hP, hS⟩ := id hI
  obtain ⟨hG, hadi, hcl, hKf, hMt, hgw, hAN, hblk, hXm, hXk⟩ := id hT
  have hK := hX.1
  unfold a_step at h
  cases ins
  case invokestatic i =>
    dsimp only at h
    split at h
    next e0 =>
      replace h := a_cond h
      obtain ⟨h1, h⟩ := h
      rw [Bool.and_eq_true, Bool.and_eq_true] at h1
      obtain ⟨⟨c1, c2⟩, c3⟩ := h1
      have c1 : x.2.2 ≤ st.length := Nat.le_of_ble_eq_true c1
      have c2 : av_cats (st.drop x.2.2) ≤ 8 := Nat.le_of_ble_eq_true c2
      have c3 : (G.2.1 x.2.1).2.2.2 = 0 := Nat.eq_of_beq_eq_true c3
      simp only [okI, e0] at hO
      obtain ⟨o1, o2, o3⟩ := hO
      obtain ⟨m1, m2, m3, m4, m5, m6, m7, m8⟩ := hMt _ o1
      have hok1 : ∀ v ∈ (st.take x.2.2).reverse, aOKV G ns v := fun v hv => hst v (List.mem_of_mem_take (List.mem_reverse.mp hv))
      obtain ⟨d', hd, hMet⟩ := RUN _ _ _ _ h o1 hok1 hM
      subst hd
      have hgo := aWs_good (yn := yn) hT o1
      have hlen : ((st.take x.2.2).reverse.map (acv G ad)).length = x.2.2 := by simp; omega
      have hstk : st.map (acv G ad) = ((st.take x.2.2).reverse.map (acv G ad)).reverse ++ (st.drop x.2.2).map (acv G ad) := by
        rw [← List.map_reverse, List.reverse_reverse, ← List.map_append, List.take_append_drop]
      have hpre : PreS s H (aPc G ad cA nc ns D cl AN zs sk XS (st.take x.2.2).reverse M) ((st.take x.2.2).reverse.map (acv G ad)) := ⟨aPc_blind hT _ _, fun U hU hW => ⟨rfl, by rw [hU]; exact hP, aX_warm hT hX hS hU hW⟩⟩
      have hpl : ∀ sig, parseMethodDescriptor (yn x.2.1).desc = some sig → x.2.2 = sig.parameters.length := fun sig hh => by rw [hh] at o2; exact (Option.some.inj o2).symm
      have hW8 : 2 * (F0 m pc lsC (st.map (acv G ad))).monitorRoom + (((st.drop x.2.2).map (acv G ad)).map fun v => v.category).sum ≤ 8 := lv_room (by rw [acv_cats]; exact c2)
      have hfr : (aRoom d').frames + 1 ≤ (aRoom (d' + 1)).frames := by simp only [aRoom]; omega
      have hlo : 8 + (aMx G x.2.1 + 11) + (aRoom d').locals ≤ (aRoom (d' + 1)).locals := by simp only [aRoom]; omega
      have kk : ∀ (r : Option AV) (M' : AM) (H1 : Heap) (locs1 : List Loc), nx (pc + 3) rs ls (r.toList ++ st.drop x.2.2) M' → (∀ v, r = some v → aOKV G ns v) → aOKM G M' → va_P D cl (aw G ad cA nc M') H1 → va_S (aF ad nc) s.heap H1 locs1 → aWl G ad cA nc ns D cl (d' + 1) Q p l e s m args below meth c H1 locs1 lsC (pc + 3) ((r.map (acv G ad)).toList ++ (st.drop x.2.2).map (acv G ad)) := fun r M' H1 locs1 hn hr2 hM2 hP2 hS2 => by
        rw [a_opt]
        refine IH _ _ _ _ _ hn hrs _ _ _ ⟨hL, fun v hv => ?_, hls, hM2, hP2, hS2⟩
        rcases List.mem_append.mp hv with g | g
        · exact hr2 v (by cases r <;> simp at g; rw [g])
        · exact hst v (List.mem_of_mem_drop g)
      rcases o3 with o3 | ⟨host, o3⟩
      · exact a_call (va_runS (As := (st.take x.2.2).reverse.map (acv G ad)) ⟨hx, hb, hml, hown, hts⟩ hMet ⟨⟨rfl, rfl, hfr, hlo, pay_in hts hgo, List.mem_cons_self, hts _ m1, hts _ m2, m5, hpl, hts _ o3⟩, hts _ (m8 c3)⟩ hpre rfl hlen hL.1 hstk hW8 hD ⟨Nat.le_refl _, Nat.le_refl _⟩) hS kk
      · exact a_call (va_runSN (As := (st.take x.2.2).reverse.map (acv G ad)) ⟨hx, hb, hml, hown, hts⟩ hMet ⟨⟨⟨rfl, rfl, hfr, hlo, pay_in hts hgo, List.mem_cons_self⟩, hts _ m1, hts _ m2, m5, hpl, va_Nw.use rfl (hX.2.2.2.1 _ o3)⟩, hts _ (m8 c3), trivial⟩ hpre rfl hlen hL.1 hstk hW8 hD ⟨Nat.le_refl _, Nat.le_refl _⟩) hS kk
    next e0 =>
      split at h
      next a st =>
        replace h := a_cond h
        obtain ⟨c2, h⟩ := h
        have c2 : av_cats st ≤ 8 := Nat.le_of_ble_eq_true c2
        simp only [okI, e0] at hO
        have ha := (a_st1 hst).1
        refine va_mabs hx hb (by rw [hml]; exact hL.1.symm) hown (hts _ hO.1) (hts _ hO.2.1) (hts _ hO.2.2.1) (hts _ hO.2.2.2) (by simp only [aRoom]; omega) (by rw [acv_cats]; simp only [aRoom]; omega) (Nat.le_refl _) (Nat.le_refl _) hD (a_top (a_pabs ha) (IH _ _ _ _ _ h hrs _ _ _ ⟨hL, a_stc (a_pabsR ha) (a_st1 hst).2, hls, hM, hP, hS⟩))
      next => exact h.elim
    next e0 =>
      split at h
      next b a st =>
        replace h := a_cond h
        obtain ⟨c2, h⟩ := h
        have c2 : av_cats st ≤ 8 := Nat.le_of_ble_eq_true c2
        simp only [okI, e0] at hO
        have hb1 := (a_st1 hst).1
        have ha := (a_st1 (a_st1 hst).2).1
        refine va_mmax hx hb (by rw [hml]; exact hL.1.symm) hown (hts _ hO.1) (hts _ hO.2.1) (hts _ hO.2.2.1) (hts _ hO.2.2.2) (by simp only [aRoom]; omega) (by rw [acv_cats]; simp only [aRoom]; omega) (Nat.le_refl _) (Nat.le_refl _) hD (a_top (a_pmax ha hb1) (IH _ _ _ _ _ h hrs _ _ _ ⟨hL, a_stc (by show aR32 _; split <;> assumption) (a_st1 (a_st1 hst).2).2, hls, hM, hP, hS⟩))
      next => exact h.elim
    next e0 =>
      split at h
      next b a st =>
        replace h := a_cond h
        obtain ⟨c2, h⟩ := h
        have c2 : av_cats st ≤ 8 := Nat.le_of_ble_eq_true c2
        simp only [okI, e0] at hO
        have hb1 := (a_st1 hst).1
        have ha := (a_st1 (a_st1 hst).2).1
        refine va_mmin hx hb (by rw [hml]; exact hL.1.symm) hown (hts _ hO.1) (hts _ hO.2.1) (hts _ hO.2.2.1) (hts _ hO.2.2.2) (by simp only [aRoom]; omega) (by rw [acv_cats]; simp only [aRoom]; omega) (Nat.le_refl _) (Nat.le_refl _) hD (a_top (a_pmin ha hb1) (IH _ _ _ _ _ h hrs _ _ _ ⟨hL, a_stc (by show aR32 _; split <;> assumption) (a_st1 (a_st1 hst).2).2, hls, hM, hP, hS⟩))
      next => exact h.elim
    next => exact h.elim
  case invokevirtual i =>
    dsimp only at h
    split at h
    next e0 =>
      split at h
      next q eq =>
        split at h
        next ci fs eK =>
          replace h := a_cond h
          obtain ⟨h1, h⟩ := h
          rw [Bool.and_eq_true, Bool.and_eq_true] at h1
          obtain ⟨⟨c0, c2⟩, c3⟩ := h1
          have c0 : ci = (G.2.1 x.2.1).1 := Nat.eq_of_beq_eq_true c0
          have c2 : av_cats (st.drop (x.2.2 + 1)) ≤ 8 := Nat.le_of_ble_eq_true c2
          have c3 : (G.2.1 x.2.1).2.2.2 = 1 := Nat.eq_of_beq_eq_true c3
          have c1 : x.2.2 < st.length := (List.getElem?_eq_some_iff.mp eq).1
          simp only [okI, e0] at hO
          obtain ⟨o1, o2, o3⟩ := hO
          obtain ⟨m1, m2, m3, m4, m5, m6, m7, m8⟩ := hMt _ o1
          obtain ⟨n1, n2, n3⟩ := m7 c3
          obtain ⟨g1, g2, g3, g4⟩ := hcl _ n1
          have hq : q < nc := aw_in hG (fun cs x => by rw [eK] at x; cases x)
          have he : (aw G ad cA nc M)[q]? = some (ad q, .inr (ci, aw_fv ad M q 0 fs)) := by rw [aw_at hq, aw_eO eK]
          have hok1 : ∀ v ∈ (aP q) :: (st.take x.2.2).reverse, aOKV G ns v := a_stc trivial (fun v hv => hst v (List.mem_of_mem_take (List.mem_reverse.mp hv)))
          obtain ⟨d', hd, hMet⟩ := RUN _ _ _ _ h o1 hok1 hM
          subst hd
          have hgo := aWs_good (yn := yn) hT o1
          have hlen : ((st.take x.2.2).reverse.map (acv G ad)).length = x.2.2 := by simp; omega
          have hstk : st.map (acv G ad) = ((st.take x.2.2).reverse.map (acv G ad)).reverse ++ .ref (ad q) :: (st.drop (x.2.2 + 1)).map (acv G ad) := by
            have e9 : st = st.take x.2.2 ++ aP q :: st.drop (x.2.2 + 1) := by
              have e8 : st[x.2.2] = aP q := (List.getElem?_eq_some_iff.mp eq).2
              rw [← e8, List.getElem_cons_drop, List.take_append_drop]
            rw [← List.map_reverse, List.reverse_reverse]
            exact (congrArg (List.map (acv G ad)) e9).trans (by rw [List.map_append]; rfl)
          have hpre : PreV s H (aOw G cn x.2.1) (ad q) (aPc G ad cA nc ns D cl AN zs sk XS (aP q :: (st.take x.2.2).reverse) M) ((st.take x.2.2).reverse.map (acv G ad)) := ⟨aPc_blind hT _ _, va_recv hK hP g1 (by rw [← c0]; exact he), fun U hU hW => ⟨rfl, by rw [hU]; exact hP, aX_warm hT hX hS hU hW⟩⟩
          have hpl : ∀ sig, parseMethodDescriptor (yn x.2.1).desc = some sig → x.2.2 = sig.parameters.length := fun sig hh => by rw [hh] at o2; exact (Option.some.inj o2).symm
          have hW8 : 2 * (F0 m pc lsC (st.map (acv G ad))).monitorRoom + (((st.drop (x.2.2 + 1)).map (acv G ad)).map fun v => v.category).sum ≤ 8 := lv_room (by rw [acv_cats]; exact c2)
          have hfr : (aRoom d').frames + 1 ≤ (aRoom (d' + 1)).frames := by simp only [aRoom]; omega
          have hlo : 8 + (aMx G x.2.1 + 11) + (aRoom d').locals ≤ (aRoom (d' + 1)).locals := by simp only [aRoom]; omega
          have kk : ∀ (r : Option AV) (M' : AM) (H1 : Heap) (locs1 : List Loc), nx (pc + 3) rs ls (r.toList ++ st.drop (x.2.2 + 1)) M' → (∀ v, r = some v → aOKV G ns v) → aOKM G M' → va_P D cl (aw G ad cA nc M') H1 → va_S (aF ad nc) s.heap H1 locs1 → aWl G ad cA nc ns D cl (d' + 1) Q p l e s m args below meth c H1 locs1 lsC (pc + 3) ((r.map (acv G ad)).toList ++ (st.drop (x.2.2 + 1)).map (acv G ad)) := fun r M' H1 locs1 hn hr2 hM2 hP2 hS2 => by
            rw [a_opt]
            refine IH _ _ _ _ _ hn hrs _ _ _ ⟨hL, fun v hv => ?_, hls, hM2, hP2, hS2⟩
            rcases List.mem_append.mp hv with g | g
            · exact hr2 v (by cases r <;> simp at g; rw [g])
            · exact hst v (List.mem_of_mem_drop g)
          exact a_call (va_runV (As := (st.take x.2.2).reverse.map (acv G ad)) ⟨hx, hb, hml, hown, hts⟩ hMet ⟨⟨rfl, rfl, hfr, hlo, pay_in hts hgo, List.mem_cons_self, hts _ m1, hts _ m2, m5, hpl, hts _ o3⟩, hts _ n2, hts _ n3⟩ hpre rfl hlen hL.1 hstk hW8 hD ⟨Nat.le_refl _, Nat.le_refl _⟩) hS kk
        next => exact h.elim
      next => exact h.elim
    next e0 =>
      split at h
      next k st =>
        replace h := a_cond h
        obtain ⟨c2, h⟩ := h
        have c2 : av_cats st ≤ 8 := Nat.le_of_ble_eq_true c2
        simp only [okI, e0] at hO
        have hks : k < ns := (a_st1 hst).1
        refine (hSt y d Q p e s m args below meth c hC pc i k (st.map (acv G ad)) H locs lsC hD hks (by rw [acv_cats]; exact c2) hL.1 hS).1 hO (fun locs1 hS1 => ?_)
        exact IH _ _ _ _ _ h hrs _ _ _ ⟨hL, a_stc (hsb k hks).1 (a_st1 hst).2, hls, hM, hP, hS1⟩
      next => exact h.elim
    next e0 =>
      split at h
      next z k st =>
        replace h := a_cond h
        obtain ⟨c2, hz, h⟩ := h
        have c2 : av_cats st ≤ 8 := Nat.le_of_ble_eq_true c2
        simp only [okI, e0] at hO
        have hks : k < ns := (a_st1 (a_st1 hst).2).1
        have hzz : aR32 ((G.2.2.2 k).getD z.toNat 0) := by
          have hl : z.toNat < (G.2.2.2 k).length := by omega
          rw [List.getD_eq_getElem?_getD, List.getElem?_eq_getElem hl]
          exact (hsb k hks).2 _ (List.getElem_mem hl)
        refine (hSt y d Q p e s m args below meth c hC pc i k (st.map (acv G ad)) H locs lsC hD hks (by rw [acv_cats]; exact c2) hL.1 hS).2 z hz hO (fun locs1 hS1 => ?_)
        exact IH _ _ _ _ _ h hrs _ _ _ ⟨hL, a_stc hzz (a_st1 (a_st1 hst).2).2, hls, hM, hP, hS1⟩
      next => exact h.elim
    next => exact h.elim
  all_goals exact (Bool.noConfusion hk)
end SC
end
section
section SM
variable {G : AG} {ad : Nat → Nat} {cA : Nat → ClassId} {nc ns nm ncl : Nat} {D : va_G} {cl : List vw_C}
variable {cn : Nat → String} {yn : Nat → MethodName} {bc : Nat → ByteArray} {tf : Nat → u_T × Nat × (Nat → FieldType)} {AW AN : List Cond}
variable {zs : List ((String × String × String) × Nat)} {sk : Nat → String × Nat × String} {XS : State → Heap → Prop} {l : Launch}
/-- one step, of any instruction -/
theorem a_step_ok {p : Program} {e : Env} {s : State} {m : MethodId} {args : Array Value} {below : List Frame} {meth : Method} {c : Code} {H : Heap} {locs : List Loc} {lsC : Array Slot} {d y : Nat} {Q : Option AV → AM → Prop} {run : Nat → List AV → AM → (Option AV → AM → Prop) → Prop} {nx : Nat → AB → AL → List AV → AM → Prop} {pc : Nat} {ins : Jvm.ClassFile.Instr} {x : AX} {rs : AB} {ls : AL} {st : List AV} {M : AM}
    (hT : aTab G ad nc ns nm ncl cl cn yn bc tf AW AN zs sk XS) (hSt : aStr G ad cA nc ns D cl cn bc AW AN zs sk XS l) (hsb : ∀ k, k < ns → aR32 (G.2.2.2 k).length ∧ ∀ z ∈ G.2.2.2 k, aR32 z)
    (hC : aCtx G ad cA nc ns D cl cn bc AW AN zs sk XS d y p s m args meth c) (hI : aInv G ad cA nc ns D cl y ls st M s H locs lsC)
    (hD : okD bc y pc ins) (hJ : okJ pc ins) (hO : okI G ns nm ncl cn yn tf AW AN zs sk y ins x) (hrs : okL G ns nm ncl cn yn bc tf AW AN zs sk y (pc + a_len ins) rs)
    (IH : aIH G ad cA nc ns nm ncl D cl cn yn bc tf AW AN zs sk d y Q p l e s m args below meth c nx)
    (RUN : ∀ y' as M' K, run y' as M' K → y' < nm → (∀ v ∈ as, aOKV G ns v) → aOKM G M' → ∃ d', d = d' + 1 ∧ Met l (yn y') (aWs G yn bc AW y') (aRoom d') (aPc G ad cA nc ns D cl AN zs sk XS as M') (aQc G ad cA nc ns D cl K) 0 0 (aF ad nc))
    (h : a_step G run nx (G.2.1 y).2.2.1 Q pc ins x rs ls st M) : aWl G ad cA nc ns D cl d Q p l e s m args below meth c H locs lsC pc (st.map (acv G ad)) := by
  by_cases h1 : a_kc ins = true
  · exact a_step_c hT hSt hsb hC hI hD hJ hO hrs IH RUN h1 h
  · by_cases h2 : a_kh ins = true
    · exact a_step_h hT hC hI hD hJ hO hrs IH h2 h
    · refine a_step_l hC hI hD hJ hO hrs IH ?_ h
      cases ins <;> first | rfl | exact absurd rfl h1 | exact absurd rfl h2
/-- the soundness of a place, as a predicate of it -/
def aSnd (G : AG) (ad : Nat → Nat) (cA : Nat → ClassId) (nc ns nm ncl : Nat) (D : va_G) (cl : List vw_C) (cn : Nat → String) (yn : Nat → MethodName) (bc : Nat → ByteArray) (tf : Nat → u_T × Nat × (Nat → FieldType)) (AW AN : List Cond) (zs : List ((String × String × String) × Nat)) (sk : Nat → String × Nat × String) (XS : State → Heap → Prop) (l : Launch) (d y pc : Nat) (rs : AB) (ls : AL) (st : List AV) (M : AM) (Q : Option AV → AM → Prop) : Prop :=
  y < nm → okL G ns nm ncl cn yn bc tf AW AN zs sk y pc rs → ∀ (p : Program) (e : Env) (s : State) (m : MethodId) (args : Array Value) (below : List Frame) (meth : Method) (c : Code), aCtx G ad cA nc ns D cl cn bc AW AN zs sk XS d y p s m args meth c → ∀ (H : Heap) (locs : List Loc) (lsC : Array Slot), aInv G ad cA nc ns D cl y ls st M s H locs lsC → aWl G ad cA nc ns D cl d Q p l e s m args below meth c H locs lsC pc (st.map (acv G ad))
/-- a method's contract out of it -/
theorem a_met_of (hT : aTab G ad nc ns nm ncl cl cn yn bc tf AW AN zs sk XS) {d y : Nat} {as : List AV} {M : AM} {Q : Option AV → AM → Prop}
    (h : aSnd G ad cA nc ns nm ncl D cl cn yn bc tf AW AN zs sk XS l d y 0 [] (al_args (aMx G y) as) [] M Q) (hy : y < nm) (hc : av_cats as ≤ aMx G y) (has : ∀ v ∈ as, aOKV G ns v) (hM : aOKM G M) :
    Met l (yn y) (aWs G yn bc AW y) (aRoom d) (aPc G ad cA nc ns D cl AN zs sk XS as M) (aQc G ad cA nc ns D cl Q) 0 0 (aF ad nc) := by
  obtain ⟨hG, hadi, hcl, hKf, hMt, hgw, hAN, hblk, hXm, hXk⟩ := id hT
  obtain ⟨m1, m2, m3, m4, m5, m6, m7, m8⟩ := hMt _ hy
  refine Met.ofW (cc := bc y) (maxL := aMx G y) (ret := aRty (G.2.1 y).2.2.1) m4 rfl ?_
  intro p e s m args below meth c s₁ B hml hv
  obtain ⟨rfl, hP, hX⟩ := hv
  have hts := atoms_spec (ws := aWs G yn bc AW y) B.pre
  have hown : s.vm.findClass (aOw G cn y) = some m.cls := by rw [← m3]; exact findClass_of_methodNamed B.named
  rw [lg_entry_eq]
  exact h hy trivial p e s m _ below meth c ⟨B.exec, B.bytes, B.returns, hml, hown, fun w hw => hts w (List.mem_cons_of_mem _ hw), B.notSynchronized, hX⟩ s.heap [] _ ⟨al_entry hc, fun v hv => (by cases hv), al_args_ok as _ has, hM, hP, va_S.rf⟩
theorem a_sound (hT : aTab G ad nc ns nm ncl cl cn yn bc tf AW AN zs sk XS) (hSt : aStr G ad cA nc ns D cl cn bc AW AN zs sk XS l) (hsb : ∀ k, k < ns → aR32 (G.2.2.2 k).length ∧ ∀ z ∈ G.2.2.2 k, aR32 z) {d y pc : Nat} {rs : AB} {ls : AL} {st : List AV} {M : AM} {Q : Option AV → AM → Prop} (h : aE G d y pc rs ls st M Q) : aSnd G ad cA nc ns nm ncl D cl cn yn bc tf AW AN zs sk XS l d y pc rs ls st M Q := by
  refine h (aSnd G ad cA nc ns nm ncl D cl cn yn bc tf AW AN zs sk XS l) ?_ ?_ ?_
  · intro d y pc rs ls st M Q Q' hQ h hy hok p e s m args below meth c hC H locs lsC hI T hT X
    obtain ⟨t, a, o, b1, b2, ⟨⟨r, M', g1, g2, g3⟩, g4⟩, b3⟩ := h hy hok p e s m args below meth c hC H locs lsC hI T hT X
    exact ⟨t, a, o, b1, b2, ⟨⟨r, M', g1, hQ _ _ g2, g3⟩, g4⟩, b3⟩
  · intro d y pc ls st M Q h hy hok
    exact h hy (hT.2.2.2.2.2.2.2.1 y pc hy)
  · intro d y pc ins x rs ls st M Q h hy hok p e s m args below meth c hC H locs lsC hI
    obtain ⟨hD, hJ, hO, hrs⟩ := hok
    refine a_step_ok hT hSt hsb hC hI hD hJ hO hrs (fun pc' rs' ls' st' M' h' hok' H' locs' lsC' hI' => h' hy hok' p e s m args below meth c hC H' locs' lsC' hI') ?_ h
    intro y' as M' K h' hy' has' hM'
    obtain ⟨d', e1, e2, h2⟩ := h'
    exact ⟨d', e1, a_met_of hT h2 hy' e2 has' hM'⟩
/-- the method y, begun with 'as' over the store M, ends with Q, its calls not more than h deep -/
def aC (G : AG) (h y : Nat) (as : List AV) (M : AM) (Q : Option AV → AM → Prop) : Prop := av_cats as ≤ aMx G y ∧ ∀ d, h ≤ d → aE G d y 0 [] (al_args (aMx G y) as) [] M Q
/-- WHAT THE ABSTRACT MACHINE RUNS, THE METHOD RUNS: its contract -/
theorem a_met (hT : aTab G ad nc ns nm ncl cl cn yn bc tf AW AN zs sk XS) (hSt : aStr G ad cA nc ns D cl cn bc AW AN zs sk XS l) (hsb : ∀ k, k < ns → aR32 (G.2.2.2 k).length ∧ ∀ z ∈ G.2.2.2 k, aR32 z)
    {h y : Nat} {as : List AV} {M : AM} {Q : Option AV → AM → Prop} (hE : aC G h y as M Q) (hy : y < nm) (has : ∀ v ∈ as, aOKV G ns v) (hM : aOKM G M) :
    Met l (yn y) (aWs G yn bc AW y) (aRoom h) (aPc G ad cA nc ns D cl AN zs sk XS as M) (aQc G ad cA nc ns D cl Q) 0 0 (aF ad nc) := a_met_of hT (a_sound hT hSt hsb (hE.2 h (Nat.le_refl _))) hy hE.1 has hM
end SM
end
section
/-! THE ABSTRACT MACHINE, how it is used: a block's run read off as a proposition. -/
section US
variable {G : AG}
theorem a_tsw_mono {nx nx' : Nat → Prop} (h : ∀ t, nx t → nx' t) {pc : Nat} {a : Int} : ∀ (os : List Int) (lo : Int), a_tsw nx pc a lo os → a_tsw nx' pc a lo os
  | [], _, _ => trivial
  | _ :: os, lo, hs => ⟨fun e => h _ (hs.1 e), a_tsw_mono h os (lo + 1) hs.2⟩
theorem a_lsw_mono {nx nx' : Nat → Prop} (h : ∀ t, nx t → nx' t) {pc : Nat} {a d : Int} : ∀ (ps : List (Int × Int)), a_lsw nx pc a d ps → a_lsw nx' pc a d ps
  | [], hs => h _ hs
  | _ :: ps, hs => ⟨fun e => h _ (hs.1 e), fun e => a_lsw_mono h ps (hs.2 e)⟩
theorem a_cnd_mono {c : Jvm.ClassFile.Cond} {a b : Int} {A B A' B' : Prop} (hA : A → A') (hB : B → B') (h : a_cnd c a b A B) : a_cnd c a b A' B' := by
  cases c <;> exact ⟨fun e => hA (h.1 e), fun e => hB (h.2 e)⟩
set_option maxHeartbeats 4000000 in
theorem a_step_mono {run run' : Nat → List AV → AM → (Option AV → AM → Prop) → Prop} {nx nx' : Nat → AB → AL → List AV → AM → Prop} (hr : ∀ y as M K K', (∀ r M', K r M' → K' r M') → run y as M K → run' y as M K') (hn : ∀ pc rs ls st M, nx pc rs ls st M → nx' pc rs ls st M)
    {rk : Nat} {Q : Option AV → AM → Prop} {pc : Nat} {ins : Jvm.ClassFile.Instr} {x : AX} {rs : AB} {ls : AL} {st : List AV} {M : AM} (h : a_step G run nx rk Q pc ins x rs ls st M) : a_step G run' nx' rk Q pc ins x rs ls st M := by
  unfold a_step at h ⊢
  cases ins <;> dsimp only [a_bin, a_binL, a_shL] at h ⊢
  all_goals first
    | exact h
    | exact hn _ _ _ _ _ h
    | skip
  all_goals (revert h)
  all_goals repeat' (first
    | exact fun h => h.elim
    | exact fun h => hn _ _ _ _ _ h
    | exact fun h => ⟨h.1, hn _ _ _ _ _ h.2⟩
    | exact fun h => ⟨h.1, h.2.1, hn _ _ _ _ _ h.2.2⟩
    | exact fun h => a_cnd_mono (hn _ _ _ _ _) (hn _ _ _ _ _) h
    | exact fun h => ⟨a_tsw_mono (fun t => hn _ _ _ _ _) _ _ h.1, fun e => hn _ _ _ _ _ (h.2 e)⟩
    | exact fun h => a_lsw_mono (fun t => hn _ _ _ _ _) _ h
    | exact fun h => hr _ _ _ _ _ (fun r M' => hn _ _ _ _ _) h
    | exact fun h => h
    | (refine fun h => ?_; obtain ⟨h1, h⟩ := a_cond h; rw [h1]; revert h; dsimp only [cond])
    | split)
end US
section UT
variable {G : AG}
theorem aE_mono : a_Mono (aE G) := fun d y pc rs ls st M Q Q' hQ h R m n s => m _ _ _ _ _ _ _ _ _ hQ (h R m n s)
theorem aE_nil : a_Nil G (aE G) := fun d y pc ls st M Q h R m n s => n _ _ _ _ _ _ _ (h R m n s)
theorem aE_stp : a_Stp G (aE G) := fun d y pc ins x rs ls st M Q h R m n s => s _ _ _ _ _ _ _ _ _ _ (a_step_mono (fun _ _ _ _ _ hK h => by
  obtain ⟨d', e1, e2, h3⟩ := h
  exact ⟨d', e1, e2, m _ _ _ _ _ _ _ _ _ hK (h3 R m n s)⟩) (fun _ _ _ _ _ h => h R m n s) h)
/-- the method y called at the depth d -/
def aK (G : AG) (d y : Nat) (as : List AV) (M : AM) (K : Option AV → AM → Prop) : Prop := a_Kof G (aE G) d y as M K
theorem aK_of {h d y : Nat} {as : List AV} {M : AM} {K K' : Option AV → AM → Prop} (hc : aC G h y as M K) (hd : h < d) (hK : ∀ r M', K r M' → K' r M') : aK G d y as M K' := by
  obtain ⟨h1, h2⟩ := hc
  cases d with
  | zero => omega
  | succ d => exact ⟨d, rfl, h1, aE_mono _ _ _ _ _ _ _ _ _ hK (h2 d (by omega))⟩
theorem aC_mono {h h' y : Nat} {as : List AV} {M : AM} {K K' : Option AV → AM → Prop} (hc : aC G h y as M K) (hd : h ≤ h') (hK : ∀ r M', K r M' → K' r M') : aC G h' y as M K' := ⟨hc.1, fun d h2 => aE_mono _ _ _ _ _ _ _ _ _ hK (hc.2 d (by omega))⟩
/-- calls of which the answer is known: by the table 'pu' -/
abbrev AP : Type := Nat → List AV → AM → Option (Option AV)
/-- a call that answers an int; one that answers nothing -/
def aKi (G : AG) (d y : Nat) (as : List AV) (M : AM) (K : Int → AM → Prop) : Prop := aK G d y as M (fun r M' => ∃ z, r = some (aI z) ∧ K z M')
def aKv (G : AG) (d y : Nat) (as : List AV) (M : AM) (K : AM → Prop) : Prop := aK G d y as M (fun r M' => r = none ∧ K M')
def aKp (G : AG) (pu : AP) (d y : Nat) (as : List AV) (M : AM) (K : Option AV → AM → Prop) : Prop := match pu y as M with
  | some r => K r M
  | none => match (G.2.1 y).2.2.1 with
    | 0 => aKv G d y as M (fun M' => K none M')
    | _ => aKi G d y as M (fun z M' => K (some (aI z)) M')
/-- contracts of methods that answer an int, or nothing -/
def aCi (G : AG) (h y : Nat) (as : List AV) (M : AM) (K : Int → AM → Prop) : Prop := aC G h y as M (fun r M' => ∃ z, r = some (aI z) ∧ K z M')
def aCv (G : AG) (h y : Nat) (as : List AV) (M : AM) (K : AM → Prop) : Prop := aC G h y as M (fun r M' => r = none ∧ K M')
theorem aKi_of {h d y : Nat} {as : List AV} {M : AM} {K K' : Int → AM → Prop} (hc : aCi G h y as M K) (hd : h < d) (hK : ∀ z M', K z M' → K' z M') : aKi G d y as M K' := aK_of hc hd (fun r M' q => by
  obtain ⟨z, e, k⟩ := q
  exact ⟨z, e, hK _ _ k⟩)
theorem aKv_of {h d y : Nat} {as : List AV} {M : AM} {K K' : AM → Prop} (hc : aCv G h y as M K) (hd : h < d) (hK : ∀ M', K M' → K' M') : aKv G d y as M K' := aK_of hc hd (fun r M' q => ⟨q.1, hK _ q.2⟩)
/-- the truth of c as an int -/
def a_bl (c : Prop) [Decidable c] : Int := if c then 1 else 0
theorem a_bl0 {c : Prop} [Decidable c] : a_bl c = 0 ↔ ¬ c := by unfold a_bl; split <;> simp [*]
theorem a_bl1 {c : Prop} [Decidable c] : a_bl c = 1 ↔ c := by unfold a_bl; split <;> simp [*]
theorem a_bl01 {c : Prop} [Decidable c] : a_bl c = 0 ∨ a_bl c = 1 := by unfold a_bl; split <;> simp
/-- locals of which less is known -/
def al_le (ls ls' : AL) : Prop := ls.length = ls'.length ∧ ∀ (i : Nat) (v : AV), ls[i]? = some (some v) → ls'[i]? = some (some v)
theorem al_le_kill {ls ls' : AL} (h : al_le ls ls') (i : Nat) : al_le (al_kill ls i) (al_kill ls' i) := by
  have hl : ∀ (l : AL), (al_kill l i).length = l.length := fun l => by
    unfold al_kill
    split
    · rfl
    · split <;> simp
  refine ⟨by rw [hl, hl, h.1], fun j v hj => ?_⟩
  obtain ⟨h1, h2⟩ := al_kill_get hj
  have h3 := h.2 j v h1
  unfold al_kill
  split
  · exact h3
  next k =>
    split
    next z e =>
      rw [List.getElem?_set]
      split
      next e2 =>
        subst e2
        rw [h3] at e
        cases e
        exact absurd ⟨rfl, z, rfl⟩ h2
      · exact h3
    · exact h3
theorem al_le_set {ls ls' : AL} (h : al_le ls ls') (i : Nat) (v : Option AV) : al_le (ls.set i v) (ls'.set i v) := by
  refine ⟨by simp [h.1], fun j w hj => ?_⟩
  rw [List.getElem?_set] at hj ⊢
  split at hj
  next e =>
    rw [if_pos e]
    split at hj
    next hl => rw [if_pos (by rw [← h.1]; exact hl)]; exact hj
    · cases hj
  next e => rw [if_neg e]; exact h.2 j w hj
theorem al_le_set1 {ls ls' : AL} (h : al_le ls ls') (i : Nat) (v : AV) : al_le (al_set1 ls i v) (al_set1 ls' i v) := al_le_set (al_le_kill h i) i _
theorem al_le_set2 {ls ls' : AL} (h : al_le ls ls') (i : Nat) (v : AV) : al_le (al_set2 ls i v) (al_set2 ls' i v) := al_le_set (al_le_set (al_le_kill h i) i _) (i + 1) _
set_option maxHeartbeats 4000000 in
theorem a_step_le {run : Nat → List AV → AM → (Option AV → AM → Prop) → Prop} {nx : Nat → AB → AL → List AV → AM → Prop} {rk : Nat} {Q : Option AV → AM → Prop} {pc : Nat} {ins : Jvm.ClassFile.Instr} {x : AX} {rs : AB} {ls ls' : AL} {st : List AV} {M : AM} (hle : al_le ls ls') (h : a_step G run (fun pc rs l st M => ∀ l', al_le l l' → nx pc rs l' st M) rk Q pc ins x rs ls st M)
    (hr : ∀ y as M K K', (∀ r M', K r M' → K' r M') → run y as M K → run y as M K') : a_step G run nx rk Q pc ins x rs ls' st M := by
  have ld : ∀ {k : Nat} {v : AV}, ls[k]? = some (some v) → ls'[k]? = some (some v) := fun h => hle.2 _ _ h
  unfold a_step at h ⊢
  cases ins
  case iload_n k =>
    dsimp only at h ⊢
    split at h
    next z e => rw [ld e]; exact h _ hle
    next => exact h.elim
  case iload k =>
    dsimp only at h ⊢
    split at h
    next z e => rw [ld e]; exact h _ hle
    next => exact h.elim
  case lload_n k =>
    dsimp only at h ⊢
    split at h
    next z e => rw [ld e]; exact h _ hle
    next => exact h.elim
  case lload k =>
    dsimp only at h ⊢
    split at h
    next z e => rw [ld e]; exact h _ hle
    next => exact h.elim
  case aload_n k =>
    dsimp only at h ⊢
    split at h
    next z e => rw [ld e]; exact h _ hle
    next => exact h.elim
  case aload k =>
    dsimp only at h ⊢
    split at h
    next z e => rw [ld e]; exact h _ hle
    next => exact h.elim
  case iinc k n =>
    dsimp only at h ⊢
    split at h
    next z e => rw [ld e]; exact h _ (al_le_set1 hle _ _)
    next => exact h.elim
  all_goals dsimp only [a_bin, a_binL, a_shL] at h ⊢
  all_goals first
    | exact h
    | exact h _ hle
    | skip
  all_goals (revert h)
  all_goals repeat' (first
    | exact fun h => h.elim
    | exact fun h => h _ hle
    | exact fun h => h _ (al_le_set1 hle _ _)
    | exact fun h => h _ (al_le_set2 hle _ _)
    | exact fun h => ⟨h.1, h.2 _ hle⟩
    | exact fun h => ⟨h.1, h.2.1, h.2.2 _ hle⟩
    | exact fun h => a_cnd_mono (fun k => k _ hle) (fun k => k _ hle) h
    | exact fun h => ⟨a_tsw_mono (fun t k => k _ hle) _ _ h.1, fun e => h.2 e _ hle⟩
    | exact fun h => a_lsw_mono (fun t k => k _ hle) _ h
    | exact fun h => hr _ _ _ _ _ (fun r M' k => k _ hle) h
    | exact fun h => h
    | (refine fun h => ?_; obtain ⟨h1, h⟩ := a_cond h; rw [h1]; revert h; dsimp only [cond])
    | split)
theorem aE_le {d y pc : Nat} {rs : AB} {ls ls' : AL} {st : List AV} {M : AM} {Q : Option AV → AM → Prop} (hle : al_le ls ls') (h : aE G d y pc rs ls st M Q) : aE G d y pc rs ls' st M Q := by
  refine h (fun d y pc rs ls st M Q => ∀ ls', al_le ls ls' → aE G d y pc rs ls' st M Q) ?_ ?_ ?_ ls' hle
  · intro d y pc rs ls st M Q Q' hQ h ls' hl
    exact aE_mono _ _ _ _ _ _ _ _ _ hQ (h ls' hl)
  · intro d y pc ls st M Q h ls' hl
    exact aE_nil _ _ _ _ _ _ _ (h ls' hl)
  · intro d y pc ins x rs ls st M Q h ls' hl
    refine aE_stp _ _ _ _ _ _ _ _ _ _ (a_step_le hl (a_step_mono (fun y as M K K' hK h => ?_) (fun pc rs l st M h l' hl' => h l' hl') h) (fun y as M K K' hK h => ?_))
    · obtain ⟨d', e1, e2, h3⟩ := h
      exact ⟨d', e1, e2, aE_mono _ _ _ _ _ _ _ _ _ hK (h3 _ ⟨rfl, fun _ _ q => q⟩)⟩
    · obtain ⟨d', e1, e2, h3⟩ := h
      exact ⟨d', e1, e2, aE_mono _ _ _ _ _ _ _ _ _ hK h3⟩
/-- locals, but those that nobody reads again -/
def al_mask : List Bool → AL → AL
  | [], _ => []
  | _ :: _, [] => []
  | true :: bs, v :: ls => v :: al_mask bs ls
  | false :: bs, _ :: ls => none :: al_mask bs ls
theorem al_mask_le : ∀ (bs : List Bool) (ls : AL), bs.length = ls.length → al_le (al_mask bs ls) ls
  | [], [], _ => ⟨rfl, fun i v h => h⟩
  | [], _ :: _, h => by cases h
  | _ :: _, [], h => by cases h
  | b :: bs, v :: ls, h => by
    obtain ⟨h1, h2⟩ := al_mask_le bs ls (Nat.succ.inj h)
    cases b
    · refine ⟨by simp [al_mask, h1], fun i w hi => ?_⟩
      cases i with
      | zero => simp [al_mask] at hi
      | succ i => simp only [al_mask, List.getElem?_cons_succ] at hi ⊢; exact h2 i w hi
    · refine ⟨by simp [al_mask, h1], fun i w hi => ?_⟩
      cases i with
      | zero => simpa [al_mask] using hi
      | succ i => simp only [al_mask, List.getElem?_cons_succ] at hi ⊢; exact h2 i w hi
def a_stop (pc : Nat) : List (Nat × List Bool) → Option (List Bool)
  | [] => none
  | (q, b) :: r => cond (Nat.beq pc q) (some b) (a_stop pc r)
/-- a block run, up to the places 'stops' (there with what is read again alone) -/
def aB (G : AG) (pu : AP) (stops : List (Nat × List Bool)) (d y : Nat) (Q : Option AV → AM → Prop) : Nat → Nat → AB → AL → List AV → AM → Prop
  | 0, pc, rs, ls, st, M => aE G d y pc rs ls st M Q
  | n + 1, pc, rs, ls, st, M => match rs with
    | [] => match a_stop pc stops with
      | some b => cond (Nat.beq b.length ls.length) (aE G d y pc [] (al_mask b ls) st M Q) False
      | none => aB G pu stops d y Q n pc (G.2.2.1 y pc) ls st M
    | (ins, x) :: rs => a_step G (aKp G pu d) (fun pc' rs' ls' st' M' => aB G pu stops d y Q n pc' rs' ls' st' M') (G.2.1 y).2.2.1 Q pc ins x rs ls st M
/-- what the table of known answers must hold to, p deep -/
def aPu (G : AG) (pu : AP) (p : Nat) : Prop := ∀ y as M r, pu y as M = some r → aC G p y as M (fun r' M' => r' = r ∧ M' = M)
theorem aB_ok {pu : AP} {p : Nat} (hpu : aPu G pu p) {stops : List (Nat × List Bool)} {d y : Nat} (hd : p < d) {Q : Option AV → AM → Prop} : ∀ (n pc : Nat) (rs : AB) (ls : AL) (st : List AV) (M : AM), aB G pu stops d y Q n pc rs ls st M → aE G d y pc rs ls st M Q := by
  intro n
  induction n with
  | zero => intro pc rs ls st M h; exact h
  | succ n ih =>
    intro pc rs ls st M h
    unfold aB at h
    split at h
    · split at h
      next b hs =>
        replace h := a_cond h
        exact aE_le (al_mask_le _ _ (Nat.eq_of_beq_eq_true h.1)) h.2
      next hs => exact aE_nil _ _ _ _ _ _ _ (ih _ _ _ _ _ h)
    · refine aE_stp _ _ _ _ _ _ _ _ _ _ (a_step_mono (fun y as M K K' hK h => ?_) (fun _ _ _ _ _ h => ih _ _ _ _ _ h) h)
      unfold aKp at h
      split at h
      next r e => exact aK_of (hpu _ _ _ _ e) hd (fun r' M' hh => by rw [hh.1, hh.2]; exact hK _ _ h)
      next e =>
        split at h
        · obtain ⟨d', e1, e2, h3⟩ := h
          exact ⟨d', e1, e2, aE_mono _ _ _ _ _ _ _ _ _ (fun r M' q => hK _ _ (by rw [q.1]; exact q.2)) h3⟩
        · obtain ⟨d', e1, e2, h3⟩ := h
          exact ⟨d', e1, e2, aE_mono _ _ _ _ _ _ _ _ _ (fun r M' q => by
            obtain ⟨z, e, k⟩ := q
            exact hK _ _ (by rw [e]; exact k)) h3⟩
/-- from a block's begin -/
theorem aE_go {pu : AP} {p : Nat} (hpu : aPu G pu p) (stops : List (Nat × List Bool)) (n : Nat) {d y pc : Nat} (hd : p < d) {ls : AL} {st : List AV} {M : AM} {Q : Option AV → AM → Prop} (h : aB G pu stops d y Q n pc (G.2.2.1 y pc) ls st M) : aE G d y pc [] ls st M Q := aE_nil _ _ _ _ _ _ _ (aB_ok hpu hd n _ _ _ _ _ h)
end UT
end
section
/-! what a program decides of the tables: one Boolean a method -/
def a_find (pc : Nat) : List (Nat × AB) → AB
  | [] => []
  | (q, b) :: r => cond (Nat.beq pc q) b (a_find pc r)
theorem a_find_all {P : Nat → AB → Prop} {pc : Nat} (h0 : P pc []) : ∀ (L : List (Nat × AB)), (∀ e ∈ L, P e.1 e.2) → P pc (a_find pc L)
  | [], _ => h0
  | (q, b) :: r, h => by
    unfold a_find
    cases e : Nat.beq pc q
    · exact a_find_all h0 r (fun x hx => h x (List.mem_cons_of_mem _ hx))
    · have : pc = q := Nat.eq_of_beq_eq_true e
      subst this
      exact h _ List.mem_cons_self
/-- the words that are good for a callee -/
def aAW : List Cond := lw_tbl.filter goodWord
theorem aAW_good : ∀ w ∈ aAW, goodWord w = true := fun w h => (List.mem_filter.mp h).2
theorem aAW_tbl : ∀ w ∈ aAW, w ∈ lw_tbl := fun w h => (List.mem_filter.mp h).1
def ck_w (i : Nat) (w : Cond) : Bool := match lw_tbl[i]? with
  | some v => decide (v = w) && goodWord w
  | none => false
theorem ck_w_ok {i : Nat} {w : Cond} (h : ck_w i w = true) : w ∈ aAW := by
  unfold ck_w at h
  split at h
  next v e =>
    rw [Bool.and_eq_true, decide_eq_true_eq] at h
    exact List.mem_filter.mpr ⟨h.1 ▸ List.mem_of_getElem? e, h.2⟩
  next => cases h
theorem ck_ma : Cond.static Lib.Math.abs.name ∈ aAW ∧ Cond.code Lib.Math.abs.name Lib.Math.abs.code 1 (some .int) ∈ aAW := ⟨ck_w_ok (i := 804) (by decide +kernel), ck_w_ok (i := 805) (by decide +kernel)⟩
theorem ck_mx : Cond.static Lib.Math.max.name ∈ aAW ∧ Cond.code Lib.Math.max.name Lib.Math.max.code 2 (some .int) ∈ aAW := ⟨ck_w_ok (i := 807) (by decide +kernel), ck_w_ok (i := 808) (by decide +kernel)⟩
theorem ck_mn : Cond.static Lib.Math.min.name ∈ aAW ∧ Cond.code Lib.Math.min.name Lib.Math.min.code 2 (some .int) ∈ aAW := ⟨ck_w_ok (i := 858) (by decide +kernel), ck_w_ok (i := 859) (by decide +kernel)⟩
theorem ck_mi : Cond.initialized "java/lang/Math" ∈ aAW := ck_w_ok (i := 132) (by decide +kernel)
def ck_r32 (z : Int) : Bool := decide (-2147483648 ≤ z) && decide (z < 2147483648)
def ck_r64 (z : Int) : Bool := decide (-9223372036854775808 ≤ z) && decide (z < 9223372036854775808)
theorem ck_r32_ok {z : Int} (h : ck_r32 z = true) : aR32 z := by
  simpa [ck_r32, aR32] using h
theorem ck_r64_ok {z : Int} (h : ck_r64 z = true) : aR64 z := by
  simpa [ck_r64, aR64] using h
section CK
variable (G : AG) (ns nm ncl : Nat) (cn : Nat → String) (yn : Nat → MethodName) (bc : Nat → ByteArray) (tf : Nat → u_T × Nat × (Nat → FieldType)) (AN : List Cond)
variable (zs : List ((String × String × String) × Nat)) (sk : Nat → String × Nat × String) (ar : Nat → Nat)
def ck_F (y j : Nat) (x : AX) (i : Nat) : Bool := Nat.blt x.2.1 ncl && Nat.blt x.2.2 (tf x.2.1).2.1 && ck_w i (Cond.fieldLink (aOw G cn y) j ((tf x.2.1).1 x.2.2).1 ((tf x.2.1).1 x.2.2).2.1 ((tf x.2.1).1 x.2.2).2.2.1)
def ck_N (y j : Nat) (n : MethodName) (i : Nat) : Bool := match AN[i]? with
  | some (.methodLinkNest a b c _) => decide (a = aOw G cn y) && Nat.beq b j && decide (c = n)
  | _ => false
def ck_Z (y j q : Nat) (i : Nat) : List ((String × String × String) × Nat) → Bool
  | [] => false
  | z :: r => cond (Nat.beq z.2 q) (ck_w i (Cond.fieldLink (aOw G cn y) j z.1.1 z.1.2.1 z.1.2.2)) (ck_Z y j q i r)
def ck_I (y : Nat) (ins : Jvm.ClassFile.Instr) (x : AX) (i : Nat) : Bool := match ins with
  | .iconst n => ck_r32 n
  | .bipush n => decide (-128 ≤ n) && decide (n < 128)
  | .sipush n => decide (-32768 ≤ n) && decide (n < 32768)
  | .iinc k n => ck_r32 n && Nat.blt k (aMx G y)
  | .ldc j => match x with
    | (z, 0, _) => ck_r32 z && ck_w i (Cond.constant (aOw G cn y) j (Int32.ofInt z))
    | (_, 1, k) => Nat.blt k ns && decide ((sk k).1 = aOw G cn y) && Nat.beq (sk k).2.1 j
    | _ => true
  | .ldc_w j => ck_r32 x.1 && ck_w i (Cond.constant (aOw G cn y) j (Int32.ofInt x.1))
  | .ldc2_w j => ck_r64 x.1 && ck_w i (Cond.constantLong (aOw G cn y) j (Int64.ofInt x.1))
  | .istore_n k => Nat.blt k (aMx G y)
  | .istore k => Nat.blt k (aMx G y)
  | .astore_n k => Nat.blt k (aMx G y)
  | .astore k => Nat.blt k (aMx G y)
  | .lstore_n k => Nat.blt (k + 1) (aMx G y)
  | .lstore k => Nat.blt (k + 1) (aMx G y)
  | .getfield j => ck_F G ncl cn tf y j x i
  | .putfield j => ck_F G ncl cn tf y j x i && !((tf x.2.1).1 x.2.2).2.2.2
  | .getstatic j => ck_Z G cn y j x.2.1 i zs
  | .invokestatic j => match x.1 with
    | 0 => Nat.blt x.2.1 nm && Nat.beq x.2.2 (ar x.2.1) && cond (Nat.blt i 100000) (ck_w i (Cond.methodLink (aOw G cn y) j (yn x.2.1))) (ck_N G cn AN y j (yn x.2.1) (i - 100000))
    | 1 => ck_w i (Cond.methodLink (aOw G cn y) j Lib.Math.abs.name)
    | 2 => ck_w i (Cond.methodLink (aOw G cn y) j Lib.Math.max.name)
    | 3 => ck_w i (Cond.methodLink (aOw G cn y) j Lib.Math.min.name)
    | _ => true
  | .invokevirtual j => match x.1 with
    | 0 => Nat.blt x.2.1 nm && Nat.beq x.2.2 (ar x.2.1) && ck_w i (Cond.methodLink (aOw G cn y) j (yn x.2.1))
    | 1 => ck_w i (Cond.methodLink (aOw G cn y) j aLenN)
    | 2 => ck_w i (Cond.methodLink (aOw G cn y) j aChrN)
    | _ => true
  | .tableswitch _ lo hi offs => decide (hi - lo + 1 = offs.size) && ck_r32 lo && ck_r32 hi
  | .lookupswitch _ ps => (ps.toList.zip (ps.toList.drop 1)).all (fun (a, next) => a.1 < next.1)
  | _ => true
def ck_J (pc : Nat) (ins : Jvm.ClassFile.Instr) : Bool := match ins with
  | .goto o => decide (0 ≤ (pc : Int) + o)
  | .if_icmp _ o => decide (0 ≤ (pc : Int) + o)
  | .ifCond _ o => decide (0 ≤ (pc : Int) + o)
  | .tableswitch d _ _ offs => decide (0 ≤ (pc : Int) + d) && offs.toList.all (fun o => decide (0 ≤ (pc : Int) + o))
  | .lookupswitch d ps => decide (0 ≤ (pc : Int) + d) && ps.toList.all (fun q => decide (0 ≤ (pc : Int) + q.2))
  | _ => true
def ck_sw (ins : Jvm.ClassFile.Instr) : Bool := match ins with
  | .tableswitch _ _ _ _ => true
  | .lookupswitch _ _ => true
  | _ => false
def ck_D (y pc : Nat) (ins : Jvm.ClassFile.Instr) : Bool := match decode (bc y) pc with
  | .ok (i, n) => decide (i = ins) && (ck_sw ins || Nat.beq n (a_len ins))
  | _ => false
def ck_L (y : Nat) : Nat → AB → List Nat → Bool
  | _, [], _ => true
  | _, _ :: _, [] => false
  | pc, (ins, x) :: rs, i :: is => ck_D bc y pc ins && ck_J pc ins && ck_I G ns nm ncl cn yn tf AN zs sk ar y ins x i && ck_L y (pc + a_len ins) rs is
def ck_B (y : Nat) : List (Nat × AB) → List (List Nat) → Bool
  | [], _ => true
  | _ :: _, [] => false
  | (pc, b) :: r, i :: is => ck_L G ns nm ncl cn yn bc tf AN zs sk ar y pc b i && ck_B y r is
variable {G ns nm ncl cn yn bc tf AN zs sk ar}
theorem ck_F_ok {y j i : Nat} {x : AX} (h : ck_F G ncl cn tf y j x i = true) : okF G ncl cn tf aAW y j x := by
  unfold ck_F at h
  rw [Bool.and_eq_true, Bool.and_eq_true] at h
  exact ⟨Nat.le_of_ble_eq_true h.1.1, Nat.le_of_ble_eq_true h.1.2, ck_w_ok h.2⟩
theorem ck_Z_ok {y j q i : Nat} : ∀ (z : List ((String × String × String) × Nat)), ck_Z G cn y j q i z = true → ∃ C n d, ((C, n, d), q) ∈ z ∧ Cond.fieldLink (aOw G cn y) j C n d ∈ aAW
  | [], h => by cases h
  | z :: r, h => by
    unfold ck_Z at h
    cases e : Nat.beq z.2 q
    · rw [e] at h
      obtain ⟨C, n, d, h1, h2⟩ := ck_Z_ok r h
      exact ⟨C, n, d, List.mem_cons_of_mem _ h1, h2⟩
    · rw [e] at h
      have := Nat.eq_of_beq_eq_true e
      subst this
      exact ⟨z.1.1, z.1.2.1, z.1.2.2, List.mem_cons_self, ck_w_ok h⟩
theorem ck_N_ok {y j i : Nat} {n : MethodName} (h : ck_N G cn AN y j n i = true) : ∃ host, Cond.methodLinkNest (aOw G cn y) j n host ∈ AN := by
  unfold ck_N at h
  split at h
  next a b c d e =>
    rw [Bool.and_eq_true, Bool.and_eq_true, decide_eq_true_eq, decide_eq_true_eq] at h
    obtain ⟨⟨h1, h2⟩, h3⟩ := h
    have h2 := Nat.eq_of_beq_eq_true h2
    subst h1; subst h2; subst h3
    exact ⟨d, List.mem_of_getElem? e⟩
  next => cases h
theorem ck_I_ok (har : ∀ y, y < nm → (parseMethodDescriptor (yn y).desc).map (fun d => d.parameters.length) = some (ar y)) {y i : Nat} {ins : Jvm.ClassFile.Instr} {x : AX} (h : ck_I G ns nm ncl cn yn tf AN zs sk ar y ins x i = true) : okI G ns nm ncl cn yn tf aAW AN zs sk y ins x := by
  have lt : ∀ {a b : Nat}, Nat.blt a b = true → a < b := fun h => Nat.le_of_ble_eq_true h
  cases ins <;> try exact trivial
  case iconst n => exact ck_r32_ok h
  case bipush n => simpa [ck_I, okI] using h
  case sipush n => simpa [ck_I, okI] using h
  case iinc k n =>
    simp only [ck_I, Bool.and_eq_true] at h
    exact ⟨ck_r32_ok h.1, lt h.2⟩
  case ldc j =>
    simp only [ck_I] at h
    simp only [okI]
    split at h
    next z k =>
      rw [Bool.and_eq_true] at h
      exact ⟨ck_r32_ok h.1, ck_w_ok h.2⟩
    next z k =>
      rw [Bool.and_eq_true, Bool.and_eq_true, decide_eq_true_eq] at h
      exact ⟨lt h.1.1, h.1.2, Nat.eq_of_beq_eq_true h.2⟩
    next h1 h2 => split <;> first | trivial | (exfalso; first | exact h1 _ _ rfl | exact h2 _ _ rfl)
  case ldc_w j =>
    simp only [ck_I, Bool.and_eq_true] at h
    exact ⟨ck_r32_ok h.1, ck_w_ok h.2⟩
  case ldc2_w j =>
    simp only [ck_I, Bool.and_eq_true] at h
    exact ⟨ck_r64_ok h.1, ck_w_ok h.2⟩
  case istore_n k => exact lt h
  case istore k => exact lt h
  case astore_n k => exact lt h
  case astore k => exact lt h
  case lstore_n k => exact lt h
  case lstore k => exact lt h
  case getfield j => exact ck_F_ok h
  case putfield j =>
    simp only [ck_I, Bool.and_eq_true] at h
    exact ⟨ck_F_ok h.1, by simpa using h.2⟩
  case getstatic j => exact ck_Z_ok zs h
  case invokestatic j =>
    simp only [ck_I] at h
    simp only [okI]
    split at h
    next e0 =>
      simp only [e0]
      rw [Bool.and_eq_true, Bool.and_eq_true] at h
      obtain ⟨⟨h1, h2⟩, h3⟩ := h
      refine ⟨lt h1, by rw [har _ (lt h1), Nat.eq_of_beq_eq_true h2], ?_⟩
      cases e : Nat.blt i 100000
      · rw [e] at h3; exact Or.inr (ck_N_ok h3)
      · rw [e] at h3; exact Or.inl (ck_w_ok h3)
    next e0 => simp only [e0]; exact ⟨ck_w_ok h, ck_ma.1, ck_mi, ck_ma.2⟩
    next e0 => simp only [e0]; exact ⟨ck_w_ok h, ck_mx.1, ck_mi, ck_mx.2⟩
    next e0 => simp only [e0]; exact ⟨ck_w_ok h, ck_mn.1, ck_mi, ck_mn.2⟩
    next h0 h1 h2 h3 =>
      split
      next e => exact (h0 e).elim
      next e => exact (h1 e).elim
      next e => exact (h2 e).elim
      next e => exact (h3 e).elim
      next => trivial
  case invokevirtual j =>
    simp only [ck_I] at h
    simp only [okI]
    split at h
    next e =>
      simp only [e]
      rw [Bool.and_eq_true, Bool.and_eq_true] at h
      exact ⟨lt h.1.1, by rw [har _ (lt h.1.1), Nat.eq_of_beq_eq_true h.1.2], ck_w_ok h.2⟩
    next e => simp only [e]; exact ck_w_ok h
    next e => simp only [e]; exact ck_w_ok h
    next h0 h1 h2 => split <;> first | trivial | (exfalso; first | exact h0 ‹_› | exact h1 ‹_› | exact h2 ‹_›)
  case tableswitch d lo hi offs =>
    simp only [ck_I, Bool.and_eq_true, decide_eq_true_eq] at h
    exact ⟨h.1.1, ck_r32_ok h.1.2, ck_r32_ok h.2⟩
  case lookupswitch d ps => exact h
theorem ck_J_ok {pc : Nat} {ins : Jvm.ClassFile.Instr} (h : ck_J pc ins = true) : okJ pc ins := by
  cases ins
  case tableswitch d lo hi offs =>
    simp only [ck_J, Bool.and_eq_true, decide_eq_true_eq, List.all_eq_true] at h
    exact h
  case lookupswitch d ps =>
    simp only [ck_J, Bool.and_eq_true, decide_eq_true_eq, List.all_eq_true] at h
    exact h
  all_goals first | exact trivial | (simpa [ck_J, okJ] using h)
theorem ck_D_ok {y pc : Nat} {ins : Jvm.ClassFile.Instr} (h : ck_D bc y pc ins = true) : okD bc y pc ins := by
  unfold ck_D at h
  split at h
  next i n e =>
    rw [Bool.and_eq_true, decide_eq_true_eq, Bool.or_eq_true] at h
    obtain ⟨h1, h2⟩ := h
    subst h1
    cases i <;> first
      | exact ⟨n, e⟩
      | (rcases h2 with h2 | h2
         · cases h2
         · rw [Nat.eq_of_beq_eq_true h2] at e; exact e)
  next => cases h
theorem ck_L_ok (har : ∀ y, y < nm → (parseMethodDescriptor (yn y).desc).map (fun d => d.parameters.length) = some (ar y)) {y : Nat} : ∀ (b : AB) (pc : Nat) (is : List Nat), ck_L G ns nm ncl cn yn bc tf AN zs sk ar y pc b is = true → okL G ns nm ncl cn yn bc tf aAW AN zs sk y pc b
  | [], _, _, _ => trivial
  | _ :: _, _, [], h => by cases h
  | (ins, x) :: rs, pc, i :: is, h => by
    unfold ck_L at h
    rw [Bool.and_eq_true, Bool.and_eq_true, Bool.and_eq_true] at h
    exact ⟨ck_D_ok h.1.1.1, ck_J_ok h.1.1.2, ck_I_ok har h.1.2, ck_L_ok har rs _ is h.2⟩
theorem ck_B_ok (har : ∀ y, y < nm → (parseMethodDescriptor (yn y).desc).map (fun d => d.parameters.length) = some (ar y)) {y : Nat} : ∀ (L : List (Nat × AB)) (is : List (List Nat)), ck_B G ns nm ncl cn yn bc tf AN zs sk ar y L is = true → ∀ e ∈ L, okL G ns nm ncl cn yn bc tf aAW AN zs sk y e.1 e.2
  | [], _, _ => fun e he => by cases he
  | _ :: _, [], h => by cases h
  | (pc, b) :: r, i :: is, h => by
    unfold ck_B at h
    rw [Bool.and_eq_true] at h
    intro e he
    rcases List.mem_cons.mp he with q | q
    · rw [q]; exact ck_L_ok har _ _ _ h.1
    · exact ck_B_ok har r is h.2 e q
end CK
end
section
/-! String.length() and charAt() of the string constants -/
def st_len : List Nat := [6, 3, 3, 2, 3, 3, 6, 5, 5, 5, 4, 6, 5, 5, 3, 3, 6, 5, 3, 4, 5]
def st_byt : List (List Int32) := [[117, 110, 108, 101, 115, 115], [110, 111, 116], [97, 110, 100], [111, 114], [108, 101, 116], [98, 97, 114], [115, 116, 114, 105, 107, 101], [108, 97, 112, 115, 101], [109, 105, 108, 101, 115], [119, 111, 114, 116, 104], [118, 111, 105, 100], [108, 97, 112, 115, 101, 100], [100, 101, 99, 97, 121], [115, 116, 101, 112, 115], [102, 101, 101], [97, 103, 101], [111, 114, 100, 101, 114, 115], [104, 111, 108, 100, 115], [102, 97, 114], [114, 105, 99, 104], [108, 101, 97, 118, 101]]
abbrev st_b_co : ByteArray := prog_18_method_152_code
def st_y_co : MethodName := ⟨"java/lang/String", "coder", "()B"⟩
def st_w_co : List Cond := .code st_y_co st_b_co 1 (some .byte) :: aAW
theorem st_d_co_0 : decode st_b_co 0 = .ok (.getstatic 38, 3) := by decide +kernel
theorem st_d_co_3 : decode st_b_co 3 = .ok (.ifCond .eq 10, 3) := by decide +kernel
theorem st_d_co_6 : decode st_b_co 6 = .ok (.aload_n 0, 1) := by decide +kernel
theorem st_d_co_7 : decode st_b_co 7 = .ok (.getfield 15, 3) := by decide +kernel
theorem st_d_co_10 : decode st_b_co 10 = .ok (.goto 4, 3) := by decide +kernel
theorem st_d_co_13 : decode st_b_co 13 = .ok (.iconst 1, 1) := by decide +kernel
theorem st_d_co_14 : decode st_b_co 14 = .ok (.ireturn, 1) := by decide +kernel
abbrev st_b_le : ByteArray := prog_18_method_54_code
def st_y_le : MethodName := ⟨"java/lang/String", "length", "()I"⟩
def st_w_le : List Cond := .code st_y_le st_b_le 1 (some .int) :: aAW
theorem st_d_le_0 : decode st_b_le 0 = .ok (.aload_n 0, 1) := by decide +kernel
theorem st_d_le_1 : decode st_b_le 1 = .ok (.getfield 9, 3) := by decide +kernel
theorem st_d_le_4 : decode st_b_le 4 = .ok (.arraylength, 1) := by decide +kernel
theorem st_d_le_5 : decode st_b_le 5 = .ok (.aload_n 0, 1) := by decide +kernel
theorem st_d_le_6 : decode st_b_le 6 = .ok (.invokevirtual 335, 3) := by decide +kernel
theorem st_d_le_9 : decode st_b_le 9 = .ok (.ishr, 1) := by decide +kernel
theorem st_d_le_10 : decode st_b_le 10 = .ok (.ireturn, 1) := by decide +kernel
abbrev st_b_la : ByteArray := prog_18_method_154_code
def st_y_la : MethodName := ⟨"java/lang/String", "isLatin1", "()Z"⟩
def st_w_la : List Cond := .code st_y_la st_b_la 1 (some .boolean) :: aAW
theorem st_d_la_0 : decode st_b_la 0 = .ok (.getstatic 38, 3) := by decide +kernel
theorem st_d_la_3 : decode st_b_la 3 = .ok (.ifCond .eq 14, 3) := by decide +kernel
theorem st_d_la_6 : decode st_b_la 6 = .ok (.aload_n 0, 1) := by decide +kernel
theorem st_d_la_7 : decode st_b_la 7 = .ok (.getfield 15, 3) := by decide +kernel
theorem st_d_la_10 : decode st_b_la 10 = .ok (.ifCond .ne 7, 3) := by decide +kernel
theorem st_d_la_13 : decode st_b_la 13 = .ok (.iconst 1, 1) := by decide +kernel
theorem st_d_la_14 : decode st_b_la 14 = .ok (.goto 4, 3) := by decide +kernel
theorem st_d_la_17 : decode st_b_la 17 = .ok (.iconst 0, 1) := by decide +kernel
theorem st_d_la_18 : decode st_b_la 18 = .ok (.ireturn, 1) := by decide +kernel
abbrev st_b_pc : ByteArray := prog_21_method_11_code
def st_y_pc : MethodName := ⟨"jdk/internal/util/Preconditions", "checkIndex", "(IILjava/util/function/BiFunction;)I"⟩
def st_w_pc : List Cond := .code st_y_pc st_b_pc 3 (some .int) :: aAW
theorem st_d_pc_0 : decode st_b_pc 0 = .ok (.iload_n 0, 1) := by decide +kernel
theorem st_d_pc_1 : decode st_b_pc 1 = .ok (.ifCond .lt 8, 3) := by decide +kernel
theorem st_d_pc_4 : decode st_b_pc 4 = .ok (.iload_n 0, 1) := by decide +kernel
theorem st_d_pc_5 : decode st_b_pc 5 = .ok (.iload_n 1, 1) := by decide +kernel
theorem st_d_pc_6 : decode st_b_pc 6 = .ok (.if_icmp .lt 10, 3) := by decide +kernel
theorem st_d_pc_9 : decode st_b_pc 9 = .ok (.aload_n 2, 1) := by decide +kernel
theorem st_d_pc_10 : decode st_b_pc 10 = .ok (.iload_n 0, 1) := by decide +kernel
theorem st_d_pc_11 : decode st_b_pc 11 = .ok (.iload_n 1, 1) := by decide +kernel
theorem st_d_pc_12 : decode st_b_pc 12 = .ok (.invokestatic 95, 3) := by decide +kernel
theorem st_d_pc_15 : decode st_b_pc 15 = .ok (.athrow, 1) := by decide +kernel
theorem st_d_pc_16 : decode st_b_pc 16 = .ok (.iload_n 0, 1) := by decide +kernel
theorem st_d_pc_17 : decode st_b_pc 17 = .ok (.ireturn, 1) := by decide +kernel
abbrev st_b_sc : ByteArray := prog_18_method_155_code
def st_y_sc : MethodName := ⟨"java/lang/String", "checkIndex", "(II)V"⟩
def st_w_sc : List Cond := .code st_y_sc st_b_sc 2 none :: aAW
theorem st_d_sc_0 : decode st_b_sc 0 = .ok (.iload_n 0, 1) := by decide +kernel
theorem st_d_sc_1 : decode st_b_sc 1 = .ok (.iload_n 1, 1) := by decide +kernel
theorem st_d_sc_2 : decode st_b_sc 2 = .ok (.getstatic 1053, 3) := by decide +kernel
theorem st_d_sc_5 : decode st_b_sc 5 = .ok (.invokestatic 1059, 3) := by decide +kernel
theorem st_d_sc_8 : decode st_b_sc 8 = .ok (.pop, 1) := by decide +kernel
theorem st_d_sc_9 : decode st_b_sc 9 = .ok (.return_, 1) := by decide +kernel
abbrev st_b_lc : ByteArray := prog_19_method_2_code
def st_y_lc : MethodName := ⟨"java/lang/StringLatin1", "charAt", "([BI)C"⟩
def st_w_lc : List Cond := .code st_y_lc st_b_lc 2 (some .char) :: aAW
theorem st_d_lc_0 : decode st_b_lc 0 = .ok (.iload_n 1, 1) := by decide +kernel
theorem st_d_lc_1 : decode st_b_lc 1 = .ok (.aload_n 0, 1) := by decide +kernel
theorem st_d_lc_2 : decode st_b_lc 2 = .ok (.arraylength, 1) := by decide +kernel
theorem st_d_lc_3 : decode st_b_lc 3 = .ok (.invokestatic 9, 3) := by decide +kernel
theorem st_d_lc_6 : decode st_b_lc 6 = .ok (.aload_n 0, 1) := by decide +kernel
theorem st_d_lc_7 : decode st_b_lc 7 = .ok (.iload_n 1, 1) := by decide +kernel
theorem st_d_lc_8 : decode st_b_lc 8 = .ok (.baload, 1) := by decide +kernel
theorem st_d_lc_9 : decode st_b_lc 9 = .ok (.sipush 255, 3) := by decide +kernel
theorem st_d_lc_12 : decode st_b_lc 12 = .ok (.iand, 1) := by decide +kernel
theorem st_d_lc_13 : decode st_b_lc 13 = .ok (.i2c, 1) := by decide +kernel
theorem st_d_lc_14 : decode st_b_lc 14 = .ok (.ireturn, 1) := by decide +kernel
abbrev st_b_ch : ByteArray := prog_18_method_56_code
def st_y_ch : MethodName := ⟨"java/lang/String", "charAt", "(I)C"⟩
def st_w_ch : List Cond := .code st_y_ch st_b_ch 2 (some .char) :: aAW
theorem st_d_ch_0 : decode st_b_ch 0 = .ok (.aload_n 0, 1) := by decide +kernel
theorem st_d_ch_1 : decode st_b_ch 1 = .ok (.invokevirtual 492, 3) := by decide +kernel
theorem st_d_ch_4 : decode st_b_ch 4 = .ok (.ifCond .eq 12, 3) := by decide +kernel
theorem st_d_ch_7 : decode st_b_ch 7 = .ok (.aload_n 0, 1) := by decide +kernel
theorem st_d_ch_8 : decode st_b_ch 8 = .ok (.getfield 9, 3) := by decide +kernel
theorem st_d_ch_11 : decode st_b_ch 11 = .ok (.iload_n 1, 1) := by decide +kernel
theorem st_d_ch_12 : decode st_b_ch 12 = .ok (.invokestatic 495, 3) := by decide +kernel
theorem st_d_ch_15 : decode st_b_ch 15 = .ok (.ireturn, 1) := by decide +kernel
theorem st_d_ch_16 : decode st_b_ch 16 = .ok (.aload_n 0, 1) := by decide +kernel
theorem st_d_ch_17 : decode st_b_ch 17 = .ok (.getfield 9, 3) := by decide +kernel
theorem st_d_ch_20 : decode st_b_ch 20 = .ok (.iload_n 1, 1) := by decide +kernel
theorem st_d_ch_21 : decode st_b_ch 21 = .ok (.invokestatic 498, 3) := by decide +kernel
theorem st_d_ch_24 : decode st_b_ch 24 = .ok (.ireturn, 1) := by decide +kernel
theorem st_c_co : Cond.code st_y_co st_b_co 1 (some .byte) ∈ aAW := ck_w_ok (i := 950) (by decide +kernel)
theorem st_i_co : Cond.instanceMethod st_y_co ∈ aAW := ck_w_ok (i := 948) (by decide +kernel)
theorem st_e_co : Cond.selects "java/lang/String" st_y_co st_y_co ∈ aAW := ck_w_ok (i := 949) (by decide +kernel)
theorem st_c_le : Cond.code st_y_le st_b_le 1 (some .int) ∈ aAW := ck_w_ok (i := 946) (by decide +kernel)
theorem st_i_le : Cond.instanceMethod st_y_le ∈ aAW := ck_w_ok (i := 944) (by decide +kernel)
theorem st_e_le : Cond.selects "java/lang/String" st_y_le st_y_le ∈ aAW := ck_w_ok (i := 945) (by decide +kernel)
theorem st_c_la : Cond.code st_y_la st_b_la 1 (some .boolean) ∈ aAW := ck_w_ok (i := 960) (by decide +kernel)
theorem st_i_la : Cond.instanceMethod st_y_la ∈ aAW := ck_w_ok (i := 958) (by decide +kernel)
theorem st_e_la : Cond.selects "java/lang/String" st_y_la st_y_la ∈ aAW := ck_w_ok (i := 959) (by decide +kernel)
theorem st_c_pc : Cond.code st_y_pc st_b_pc 3 (some .int) ∈ aAW := ck_w_ok (i := 971) (by decide +kernel)
theorem st_s_pc : Cond.static st_y_pc ∈ aAW := ck_w_ok (i := 970) (by decide +kernel)
theorem st_c_sc : Cond.code st_y_sc st_b_sc 2 none ∈ aAW := ck_w_ok (i := 966) (by decide +kernel)
theorem st_s_sc : Cond.static st_y_sc ∈ aAW := ck_w_ok (i := 965) (by decide +kernel)
theorem st_c_lc : Cond.code st_y_lc st_b_lc 2 (some .char) ∈ aAW := ck_w_ok (i := 963) (by decide +kernel)
theorem st_s_lc : Cond.static st_y_lc ∈ aAW := ck_w_ok (i := 962) (by decide +kernel)
theorem st_c_ch : Cond.code st_y_ch st_b_ch 2 (some .char) ∈ aAW := ck_w_ok (i := 956) (by decide +kernel)
theorem st_i_ch : Cond.instanceMethod st_y_ch ∈ aAW := ck_w_ok (i := 954) (by decide +kernel)
theorem st_e_ch : Cond.selects "java/lang/String" st_y_ch st_y_ch ∈ aAW := ck_w_ok (i := 955) (by decide +kernel)
theorem st_n_S : Cond.initialized "java/lang/String" ∈ aAW := ck_w_ok (i := 133) (by decide +kernel)
theorem st_n_L : Cond.initialized "java/lang/StringLatin1" ∈ aAW := ck_w_ok (i := 134) (by decide +kernel)
theorem st_n_P : Cond.initialized "jdk/internal/util/Preconditions" ∈ aAW := ck_w_ok (i := 135) (by decide +kernel)
theorem st_f38 : Cond.fieldLink "java/lang/String" 38 "java/lang/String" "COMPACT_STRINGS" "Z" ∈ aAW := ck_w_ok (i := 951) (by decide +kernel)
theorem st_f15 : Cond.fieldLink "java/lang/String" 15 "java/lang/String" "coder" "B" ∈ aAW := ck_w_ok (i := 2120) (by decide +kernel)
theorem st_f9 : Cond.fieldLink "java/lang/String" 9 "java/lang/String" "value" "[B" ∈ aAW := ck_w_ok (i := 2119) (by decide +kernel)
theorem st_f1053 : Cond.fieldLink "java/lang/String" 1053 "jdk/internal/util/Preconditions" "SIOOBE_FORMATTER" "Ljava/util/function/BiFunction;" ∈ aAW := ck_w_ok (i := 967) (by decide +kernel)
theorem st_l_co : Cond.methodLink "java/lang/String" 335 st_y_co ∈ aAW := ck_w_ok (i := 947) (by decide +kernel)
theorem st_l_la : Cond.methodLink "java/lang/String" 492 st_y_la ∈ aAW := ck_w_ok (i := 957) (by decide +kernel)
theorem st_l_lc : Cond.methodLink "java/lang/String" 495 st_y_lc ∈ aAW := ck_w_ok (i := 961) (by decide +kernel)
theorem st_l_sc : Cond.methodLink "java/lang/StringLatin1" 9 st_y_sc ∈ aAW := ck_w_ok (i := 964) (by decide +kernel)
theorem st_l_pc : Cond.methodLink "java/lang/String" 1059 st_y_pc ∈ aAW := ck_w_ok (i := 969) (by decide +kernel)
abbrev st_F (ad : Nat → Nat) : Nat → Prop := aF ad 205
/-- what is known of the constants' cells, and of two statics of the JDK -/
def st_X (ad adV : Nat → Nat) (U : State) (H : Heap) : Prop := vk_S 21 st_len st_byt (fun i => ad (5000 + i)) adV (st_F ad) U H ∧ va_Z "java/lang/String" "COMPACT_STRINGS" "Z" (.int 1) (st_F ad) U H ∧ va_Zq "jdk/internal/util/Preconditions" "SIOOBE_FORMATTER" "Ljava/util/function/BiFunction;" (st_F ad) U H
theorem st_X_moved {ad adV : Nat → Nat} {u U : State} {H : Heap} (h : u.vm.Alike U.vm) (x : st_X ad adV u H) : st_X ad adV U H := ⟨x.1.moved h, x.2.1.moved h, x.2.2.moved h⟩
theorem st_X_kept {ad adV : Nat → Nat} {U : State} {H H1 : Heap} (x : st_X ad adV U H) (h : ∀ a : Nat, a < H.size → ¬ aF ad 205 a → H1[a]? = H[a]?) : st_X ad adV U H1 := ⟨x.1.kept h, x.2.1.kept h, x.2.2.kept h⟩
def st_rm (f n : Nat) : Room := { frames := f, cells := 0, slots := 0, locals := n }
def st_P (ad adV : Nat → Nat) (av : List Value) : Array Value → State → Prop := va_Pc av (fun U => st_X ad adV U U.heap)
theorem st_blind (ad adV : Nat → Nat) (av : List Value) : FrameBlind (st_P ad adV av) := by
  intro a U g mk q
  exact ⟨q.1, st_X_moved (u := U) (U := U.calling g mk a) (Vm.Alike.refl U.vm) q.2⟩
theorem st_good {y : MethodName} {b : ByteArray} {n : Nat} {r : Option FieldType} (h : Cond.code y b n r ∈ aAW) : GoodIn aAW (Cond.code y b n r :: aAW) := fun w hw => by
  rcases List.mem_cons.mp hw with g | g
  · rw [g]; exact ⟨h, good_of_word (aAW_good _ h)⟩
  · exact ⟨g, good_of_word (aAW_good _ g)⟩
theorem sc_shr_0 (x : Int32) : x >>> ((0 : Int32) &&& 31) = x := sb_shr0 x
section STR
variable {l : Launch} {ad adV : Nat → Nat} {i : Nat}
set_option maxHeartbeats 2000000 in
theorem st_co (hi : i < 21) : Met l st_y_co st_w_co (st_rm 1 12) (st_P ad adV [.ref (ad (5000 + i))]) (vp_Si (fun r => r = 0)) 0 0 (fun _ => False) := by
  refine Met.ofW (cc := st_b_co) (maxL := 1) (ret := some .byte) (by decide) rfl ?_
  intro p e s m args below meth c s₁ B hml hv
  obtain ⟨rfl, hX⟩ := hv
  have hx := B.exec
  have hb := B.bytes
  have hr := B.returns
  have hts0 := atoms_spec (ws := st_w_co) B.pre
  have hts : ∀ w ∈ aAW, w.before _ s = true := fun w hw => hts0 w (List.mem_cons_of_mem _ hw)
  have hown : s.vm.findClass "java/lang/String" = some m.cls := findClass_of_methodNamed B.named
  have hlocks := B.notSynchronized
  have hS : va_S (st_F ad) s.heap s.heap [] := va_S.rf
  have hl := lv_entry ([.ref (ad (5000 + i))]) (n := 1) (Nat.le_of_ble_eq_true rfl)
  rw [lg_entry_eq]
  generalize (lg_sl ([.ref (ad (5000 + i))]) ++ List.replicate (1 - (lg_sl ([.ref (ad (5000 + i))])).length) Slot.unset).toArray = ls at hl ⊢
  have hl : lv_has ls 1 [(0, .ref (ad (5000 + i)))] := hl
  refine va_gets hx hb hX.2.1 hS hown (hts _ st_f38) (fun _ z => z) st_d_co_0 ?_
  refine lv_if_eq (tgt := 13) hx hb st_d_co_3 (by decide) (fun c => absurd c (by decide)) (fun _ => ?_)
  refine lv_aload_n hx hb st_d_co_6 rfl (lv_at hl 0 rfl) ?_
  refine vk_getf hx hb (hX.1.1 i hi).2.1 hS hown (hts _ st_f15) (fun _ z => z) st_d_co_7 ?_
  refine lv_goto (tgt := 14) hx hb st_d_co_10 (by decide) ?_
  exact W.zret hx hb hr rfl (fun t ht _ => ⟨0, rfl, rfl, ht⟩) (fun q h => by cases h) st_d_co_14 hlocks
set_option maxHeartbeats 2000000 in
theorem st_la (hi : i < 21) : Met l st_y_la st_w_la (st_rm 1 12) (st_P ad adV [.ref (ad (5000 + i))]) (vp_Si (fun r => r = 1)) 0 0 (fun _ => False) := by
  refine Met.ofW (cc := st_b_la) (maxL := 1) (ret := some .boolean) (by decide) rfl ?_
  intro p e s m args below meth c s₁ B hml hv
  obtain ⟨rfl, hX⟩ := hv
  have hx := B.exec
  have hb := B.bytes
  have hr := B.returns
  have hts0 := atoms_spec (ws := st_w_la) B.pre
  have hts : ∀ w ∈ aAW, w.before _ s = true := fun w hw => hts0 w (List.mem_cons_of_mem _ hw)
  have hown : s.vm.findClass "java/lang/String" = some m.cls := findClass_of_methodNamed B.named
  have hlocks := B.notSynchronized
  have hS : va_S (st_F ad) s.heap s.heap [] := va_S.rf
  have hl := lv_entry ([.ref (ad (5000 + i))]) (n := 1) (Nat.le_of_ble_eq_true rfl)
  rw [lg_entry_eq]
  generalize (lg_sl ([.ref (ad (5000 + i))]) ++ List.replicate (1 - (lg_sl ([.ref (ad (5000 + i))])).length) Slot.unset).toArray = ls at hl ⊢
  have hl : lv_has ls 1 [(0, .ref (ad (5000 + i)))] := hl
  refine va_gets hx hb hX.2.1 hS hown (hts _ st_f38) (fun _ z => z) st_d_la_0 ?_
  refine lv_if_eq (tgt := 17) hx hb st_d_la_3 (by decide) (fun c => absurd c (by decide)) (fun _ => ?_)
  refine lv_aload_n hx hb st_d_la_6 rfl (lv_at hl 0 rfl) ?_
  refine vk_getf hx hb (hX.1.1 i hi).2.1 hS hown (hts _ st_f15) (fun _ z => z) st_d_la_7 ?_
  refine lv_if_ne (tgt := 17) hx hb st_d_la_10 (by decide) (fun c => absurd rfl c) (fun _ => ?_)
  refine lv_iconst (v := 1) hx hb st_d_la_13 (by decide) ?_
  refine lv_goto (tgt := 18) hx hb st_d_la_14 (by decide) ?_
  exact W.zret hx hb hr rfl (fun t ht _ => ⟨1, rfl, rfl, ht⟩) (fun q h => by cases h) st_d_la_18 hlocks
set_option maxHeartbeats 2000000 in
theorem st_le (hi : i < 21) : Met l st_y_le st_w_le (st_rm 2 40) (st_P ad adV [.ref (ad (5000 + i))]) (vp_Si (fun r => r = Int32.ofNat (st_len.getD i 0))) 0 0 (fun _ => False) := by
  refine Met.ofW (cc := st_b_le) (maxL := 1) (ret := some .int) (by decide) rfl ?_
  intro p e s m args below meth c s₁ B hml hv
  obtain ⟨rfl, hX⟩ := hv
  have hx := B.exec
  have hb := B.bytes
  have hr := B.returns
  have hts0 := atoms_spec (ws := st_w_le) B.pre
  have hts : ∀ w ∈ aAW, w.before _ s = true := fun w hw => hts0 w (List.mem_cons_of_mem _ hw)
  have hown : s.vm.findClass "java/lang/String" = some m.cls := findClass_of_methodNamed B.named
  have hlocks := B.notSynchronized
  have hS : va_S (st_F ad) s.heap s.heap [] := va_S.rf
  have hl := lv_entry ([.ref (ad (5000 + i))]) (n := 1) (Nat.le_of_ble_eq_true rfl)
  rw [lg_entry_eq]
  generalize (lg_sl ([.ref (ad (5000 + i))]) ++ List.replicate (1 - (lg_sl ([.ref (ad (5000 + i))])).length) Slot.unset).toArray = ls at hl ⊢
  have hl : lv_has ls 1 [(0, .ref (ad (5000 + i)))] := hl
  refine lv_aload_n hx hb st_d_le_0 rfl (lv_at hl 0 rfl) ?_
  refine vk_getf hx hb (hX.1.1 i hi).2.2.1 hS hown (hts _ st_f9) (fun _ z => z) st_d_le_1 ?_
  refine va_tlen hx hb (hX.1.1 i hi).2.2.2 hS rfl st_d_le_4 ?_
  refine lv_aload_n hx hb st_d_le_5 rfl (lv_at hl 0 rfl) ?_
  refine vp_callSi (W.runV (As := []) (rest := [.int (Int32.ofNat (st_len.getD i 0))]) ⟨hx, hb, hml, hown, hts⟩ (st_co hi) ⟨⟨rfl, rfl, by decide, by decide, pay_in hts (st_good st_c_co), List.mem_cons_self, hts _ st_c_co, hts _ st_n_S, ⟨by decide, by decide⟩, fun sig h => (by
    have h2 : (parseMethodDescriptor st_y_co.desc).map (fun d => d.parameters.length) = some 0 := by decide +kernel
    rw [h] at h2
    exact (Option.some.inj h2).symm), hts _ st_l_co⟩, hts _ st_i_co, hts _ st_e_co⟩ ⟨st_blind ad adV _, vk_recv hX.1 hi hS, fun U hU hW => ⟨rfl, by rw [hU]; exact st_X_moved hW.alike hX⟩⟩ rfl rfl hl.1 rfl (lv_room (Nat.le_of_ble_eq_true rfl)) st_d_le_6 ⟨Nat.le_refl _, Nat.le_refl _⟩) (fun r hr0 => ?_)
  subst hr0
  refine lv_ishr hx hb st_d_le_9 ?_
  exact W.zret hx hb hr rfl (fun t ht _ => ⟨_, rfl, sc_shr_0 _, ht⟩) (fun q h => by cases h) st_d_le_10 hlocks
theorem st_callV {p : Program} {e : Env} {R : Room} {s : State} {m : MethodId} {args : Array Value} {below : List Frame} {meth : Method} {c : Code} {H : Heap} {locs : List Loc} {cells slots : Nat} {Q : State → Prop} {pc : Nat} {ls : Array Slot} {rest : List Value} {a : Array Value} {st0 : List Value} (hr : CallRun p l e R s m args below meth c H locs cells slots 0 0 (F0 m pc ls st0) rest ((fun _ st o t => o = .returned none ∧ t.heap = st.heap : Array Value → State → Outcome → State → Prop) a) (fun _ => False))
    (kk : W p l e R s m args below meth c H locs cells slots Q (F0 m (pc + 3) ls rest)) : W p l e R s m args below meth c H locs cells slots Q (F0 m pc ls st0) := by
  intro T hT X
  obtain ⟨v, st₀, t, T', L, h0, X', hL, e1, ⟨hv, hh⟩, st⟩ := hr T hT X
  cases hv
  obtain ⟨t2, a1, b1⟩ := kk T' (by rw [e1, hh, h0]) (Stand.forget X' (fun q h => (hL q h).elim))
  exact ⟨t2, st t2 a1, b1⟩
set_option maxHeartbeats 2000000 in
theorem st_pc {a b : Nat} (hab : a < b) (hb0 : b < 1000) {v : Value} (hv0 : v = .null ∨ ∃ t, v = .ref t) : Met l st_y_pc st_w_pc (st_rm 1 12) (st_P ad adV [.int (nI a), .int (nI b), v]) (vp_Si (fun _ => True)) 0 0 (fun _ => False) := by
  rcases hv0 with rfl | ⟨t0, rfl⟩
  all_goals
    refine Met.ofW (cc := st_b_pc) (maxL := 3) (ret := some .int) (by decide) rfl ?_
    intro p e s m args below meth c s₁ B hml hv
    obtain ⟨rfl, hX⟩ := hv
    have hx := B.exec
    have hb := B.bytes
    have hr := B.returns
    have hlocks := B.notSynchronized
    rw [lg_entry_eq]
  · have hl := lv_entry ([.int (nI a), .int (nI b), .null]) (n := 3) (Nat.le_of_ble_eq_true rfl)
    generalize (lg_sl ([.int (nI a), .int (nI b), .null]) ++ List.replicate (3 - (lg_sl ([.int (nI a), .int (nI b), .null])).length) Slot.unset).toArray = ls at hl ⊢
    have hl : lv_has ls 3 [(0, .int (nI a)), (1, .int (nI b)), (2, .null)] := hl
    refine lv_iload_n hx hb st_d_pc_0 rfl (lv_at hl 0 rfl) ?_
    refine lv_if_lt (tgt := 9) hx hb st_d_pc_1 (by decide) (fun c => absurd c (nI_pos (by omega))) (fun _ => ?_)
    refine lv_iload_n hx hb st_d_pc_4 rfl (lv_at hl 0 rfl) ?_
    refine lv_iload_n hx hb st_d_pc_5 rfl (lv_at hl 1 rfl) ?_
    refine lv_icmp_lt (tgt := 16) hx hb st_d_pc_6 (by decide) (fun _ => ?_) (fun c => absurd (nI_lt hab (by omega)) c)
    refine lv_iload_n hx hb st_d_pc_16 rfl (lv_at hl 0 rfl) ?_
    exact W.zret hx hb hr rfl (fun t ht _ => ⟨_, rfl, trivial, ht⟩) (fun q h => by cases h) st_d_pc_17 hlocks
  · have hl := lv_entry ([.int (nI a), .int (nI b), .ref t0]) (n := 3) (Nat.le_of_ble_eq_true rfl)
    generalize (lg_sl ([.int (nI a), .int (nI b), .ref t0]) ++ List.replicate (3 - (lg_sl ([.int (nI a), .int (nI b), .ref t0])).length) Slot.unset).toArray = ls at hl ⊢
    have hl : lv_has ls 3 [(0, .int (nI a)), (1, .int (nI b)), (2, .ref t0)] := hl
    refine lv_iload_n hx hb st_d_pc_0 rfl (lv_at hl 0 rfl) ?_
    refine lv_if_lt (tgt := 9) hx hb st_d_pc_1 (by decide) (fun c => absurd c (nI_pos (by omega))) (fun _ => ?_)
    refine lv_iload_n hx hb st_d_pc_4 rfl (lv_at hl 0 rfl) ?_
    refine lv_iload_n hx hb st_d_pc_5 rfl (lv_at hl 1 rfl) ?_
    refine lv_icmp_lt (tgt := 16) hx hb st_d_pc_6 (by decide) (fun _ => ?_) (fun c => absurd (nI_lt hab (by omega)) c)
    refine lv_iload_n hx hb st_d_pc_16 rfl (lv_at hl 0 rfl) ?_
    exact W.zret hx hb hr rfl (fun t ht _ => ⟨_, rfl, trivial, ht⟩) (fun q h => by cases h) st_d_pc_17 hlocks
set_option maxHeartbeats 2000000 in
theorem st_sc {a b : Nat} (hab : a < b) (hb0 : b < 1000) : Met l st_y_sc st_w_sc (st_rm 2 40) (st_P ad adV [.int (nI a), .int (nI b)]) (fun _ st o t => o = .returned none ∧ t.heap = st.heap) 0 0 (fun _ => False) := by
  refine Met.ofW (cc := st_b_sc) (maxL := 2) (ret := none) (by decide) rfl ?_
  intro p e s m args below meth c s₁ B hml hv
  obtain ⟨rfl, hX⟩ := hv
  have hx := B.exec
  have hb := B.bytes
  have hr := B.returns
  have hts0 := atoms_spec (ws := st_w_sc) B.pre
  have hts : ∀ w ∈ aAW, w.before _ s = true := fun w hw => hts0 w (List.mem_cons_of_mem _ hw)
  have hown : s.vm.findClass "java/lang/String" = some m.cls := findClass_of_methodNamed B.named
  have hlocks := B.notSynchronized
  have hS : va_S (st_F ad) s.heap s.heap [] := va_S.rf
  have hl := lv_entry ([.int (nI a), .int (nI b)]) (n := 2) (Nat.le_of_ble_eq_true rfl)
  rw [lg_entry_eq]
  generalize (lg_sl ([.int (nI a), .int (nI b)]) ++ List.replicate (2 - (lg_sl ([.int (nI a), .int (nI b)])).length) Slot.unset).toArray = ls at hl ⊢
  have hl : lv_has ls 2 [(0, .int (nI a)), (1, .int (nI b))] := hl
  refine lv_iload_n hx hb st_d_sc_0 rfl (lv_at hl 0 rfl) ?_
  refine lv_iload_n hx hb st_d_sc_1 rfl (lv_at hl 1 rfl) ?_
  have key : ∀ v : Value, (v = .null ∨ ∃ t, v = .ref t) → va_Z "jdk/internal/util/Preconditions" "SIOOBE_FORMATTER" "Ljava/util/function/BiFunction;" v (st_F ad) s s.heap → W p l e (headSpec st_w_sc (st_rm 2 40)).room s m _ below meth c s.heap [] 0 0 (MQ below (fun _ st o t => o = .returned none ∧ t.heap = st.heap) [Value.int (nI a), Value.int (nI b)].toArray s 0 0 (fun _ => False)) (F0 m 2 ls [.int (nI b), .int (nI a)]) := by
    intro v hv0 hz
    refine va_gets hx hb hz hS hown (hts _ st_f1053) (fun _ z => z) st_d_sc_2 ?_
    refine vp_callSi (W.runS (As := [.int (nI a), .int (nI b), v]) (rest := []) ⟨hx, hb, hml, hown, hts⟩ (st_pc hab hb0 hv0) ⟨⟨rfl, rfl, Nat.le_of_ble_eq_true rfl, Nat.le_of_ble_eq_true rfl, pay_in hts (st_good st_c_pc), List.mem_cons_self, hts _ st_c_pc, hts _ st_n_P, ⟨by decide, by decide⟩, fun sig h => (by
      have h2 : (parseMethodDescriptor st_y_pc.desc).map (fun d => d.parameters.length) = some 3 := by decide +kernel
      rw [h] at h2
      exact (Option.some.inj h2).symm), hts _ st_l_pc⟩, hts _ st_s_pc⟩ ⟨st_blind ad adV _, fun U hU hW => ⟨rfl, by rw [hU]; exact st_X_moved hW.alike hX⟩⟩ rfl rfl hl.1 rfl (lv_room (Nat.le_of_ble_eq_true rfl)) st_d_sc_5 ⟨Nat.le_refl _, Nat.le_refl _⟩) (fun r _ => ?_)
    refine lv_pop hx hb st_d_sc_8 rfl ?_
    exact W.vret hx hb hr (fun t ht _ => ⟨rfl, ht⟩) (fun q h => by cases h) st_d_sc_9 hlocks
  rcases hX.2.2 with hz | ⟨t, hz⟩
  · exact key _ (Or.inl rfl) hz
  · exact key _ (Or.inr ⟨t, rfl⟩) hz
theorem st_chr : ∀ i, i < 21 → ∀ k, k < 10 → k < st_len.getD i 0 → ((((st_byt.getD i []).getD k 0) &&& (Int16.ofInt 255).toInt32).toUInt32 % 65536).toInt32 = Int32.ofInt ((s1_st i).getD k 0) ∧ narrow .char (.int (Int32.ofInt ((s1_st i).getD k 0))) = .int (Int32.ofInt ((s1_st i).getD k 0)) := by decide +kernel
theorem st_len10 : ∀ i, i < 21 → st_len.getD i 0 < 10 ∧ (s1_st i).length = st_len.getD i 0 := by decide +kernel
set_option maxHeartbeats 2000000 in
theorem st_lc {k : Nat} (hi : i < 21) (hk : k < st_len.getD i 0) : Met l st_y_lc st_w_lc (st_rm 3 70) (st_P ad adV [.ref (adV i), .int (nI k)]) (vp_Si (fun r => r = Int32.ofInt ((s1_st i).getD k 0))) 0 0 (fun _ => False) := by
  refine Met.ofW (cc := st_b_lc) (maxL := 2) (ret := some .char) (by decide) rfl ?_
  intro p e s m args below meth c s₁ B hml hv
  obtain ⟨rfl, hX⟩ := hv
  have hx := B.exec
  have hb := B.bytes
  have hr := B.returns
  have hts0 := atoms_spec (ws := st_w_lc) B.pre
  have hts : ∀ w ∈ aAW, w.before _ s = true := fun w hw => hts0 w (List.mem_cons_of_mem _ hw)
  have hown : s.vm.findClass "java/lang/StringLatin1" = some m.cls := findClass_of_methodNamed B.named
  have hlocks := B.notSynchronized
  have hS : va_S (st_F ad) s.heap s.heap [] := va_S.rf
  have hl := lv_entry ([.ref (adV i), .int (nI k)]) (n := 2) (Nat.le_of_ble_eq_true rfl)
  rw [lg_entry_eq]
  generalize (lg_sl ([.ref (adV i), .int (nI k)]) ++ List.replicate (2 - (lg_sl ([.ref (adV i), .int (nI k)])).length) Slot.unset).toArray = ls at hl ⊢
  have hl : lv_has ls 2 [(0, .ref (adV i)), (1, .int (nI k))] := hl
  have hlt := (st_len10 i hi).1
  have hcl : (nI k).toNatClampNeg = k := nI_clamp (by omega)
  obtain ⟨c1, c2⟩ := st_chr i hi k (by omega) hk
  refine lv_iload_n hx hb st_d_lc_0 rfl (lv_at hl 1 rfl) ?_
  refine lv_aload_n hx hb st_d_lc_1 rfl (lv_at hl 0 rfl) ?_
  refine va_tlen (v := nI (st_len.getD i 0)) hx hb (hX.1.1 i hi).2.2.2 hS rfl st_d_lc_2 ?_
  refine st_callV (W.runS (As := [.int (nI k), .int (nI (st_len.getD i 0))]) (rest := []) ⟨hx, hb, hml, hown, hts⟩ (st_sc (ad := ad) (adV := adV) hk (by omega)) ⟨⟨rfl, rfl, Nat.le_of_ble_eq_true rfl, Nat.le_of_ble_eq_true rfl, pay_in hts (st_good st_c_sc), List.mem_cons_self, hts _ st_c_sc, hts _ st_n_S, ⟨by decide, by decide⟩, fun sig h => (by
    have h2 : (parseMethodDescriptor st_y_sc.desc).map (fun d => d.parameters.length) = some 2 := by decide +kernel
    rw [h] at h2
    exact (Option.some.inj h2).symm), hts _ st_l_sc⟩, hts _ st_s_sc⟩ ⟨st_blind ad adV _, fun U hU hW => ⟨rfl, by rw [hU]; exact st_X_moved hW.alike hX⟩⟩ rfl rfl hl.1 rfl (lv_room (Nat.le_of_ble_eq_true rfl)) st_d_lc_3 ⟨Nat.le_refl _, Nat.le_refl _⟩) ?_
  refine lv_aload_n hx hb st_d_lc_6 rfl (lv_at hl 0 rfl) ?_
  refine lv_iload_n hx hb st_d_lc_7 rfl (lv_at hl 1 rfl) ?_
  refine va_tb hx hb (hX.1.1 i hi).2.2.2 hS (vp_in_nI hk (by omega)) (v := .int ((st_byt.getD i []).getD k 0)) (by rw [hcl]) st_d_lc_8 ?_
  refine lv_sipush (v := (Int16.ofInt 255).toInt32) hx hb st_d_lc_9 rfl ?_
  refine lv_iand hx hb st_d_lc_12 ?_
  refine lv_i2c hx hb st_d_lc_13 c1 ?_
  exact W.zret hx hb hr c2 (fun t ht _ => ⟨_, rfl, rfl, ht⟩) (fun q h => by cases h) st_d_lc_14 hlocks
set_option maxHeartbeats 2000000 in
theorem st_ch {k : Nat} (hi : i < 21) (hk : k < st_len.getD i 0) : Met l st_y_ch st_w_ch (st_rm 4 100) (st_P ad adV [.ref (ad (5000 + i)), .int (nI k)]) (vp_Si (fun r => r = Int32.ofInt ((s1_st i).getD k 0))) 0 0 (fun _ => False) := by
  refine Met.ofW (cc := st_b_ch) (maxL := 2) (ret := some .char) (by decide) rfl ?_
  intro p e s m args below meth c s₁ B hml hv
  obtain ⟨rfl, hX⟩ := hv
  have hx := B.exec
  have hb := B.bytes
  have hr := B.returns
  have hts0 := atoms_spec (ws := st_w_ch) B.pre
  have hts : ∀ w ∈ aAW, w.before _ s = true := fun w hw => hts0 w (List.mem_cons_of_mem _ hw)
  have hown : s.vm.findClass "java/lang/String" = some m.cls := findClass_of_methodNamed B.named
  have hlocks := B.notSynchronized
  have hS : va_S (st_F ad) s.heap s.heap [] := va_S.rf
  have hl := lv_entry ([.ref (ad (5000 + i)), .int (nI k)]) (n := 2) (Nat.le_of_ble_eq_true rfl)
  rw [lg_entry_eq]
  generalize (lg_sl ([.ref (ad (5000 + i)), .int (nI k)]) ++ List.replicate (2 - (lg_sl ([.ref (ad (5000 + i)), .int (nI k)])).length) Slot.unset).toArray = ls at hl ⊢
  have hl : lv_has ls 2 [(0, .ref (ad (5000 + i))), (1, .int (nI k))] := hl
  have hlt := (st_len10 i hi).1
  obtain ⟨c1, c2⟩ := st_chr i hi k (by omega) hk
  refine lv_aload_n hx hb st_d_ch_0 rfl (lv_at hl 0 rfl) ?_
  refine vp_callSi (W.runV (As := []) (rest := []) ⟨hx, hb, hml, hown, hts⟩ (st_la hi) ⟨⟨rfl, rfl, Nat.le_of_ble_eq_true rfl, Nat.le_of_ble_eq_true rfl, pay_in hts (st_good st_c_la), List.mem_cons_self, hts _ st_c_la, hts _ st_n_S, ⟨by decide, by decide⟩, fun sig h => (by
    have h2 : (parseMethodDescriptor st_y_la.desc).map (fun d => d.parameters.length) = some 0 := by decide +kernel
    rw [h] at h2
    exact (Option.some.inj h2).symm), hts _ st_l_la⟩, hts _ st_i_la, hts _ st_e_la⟩ ⟨st_blind ad adV _, vk_recv hX.1 hi hS, fun U hU hW => ⟨rfl, by rw [hU]; exact st_X_moved hW.alike hX⟩⟩ rfl rfl hl.1 rfl (lv_room (Nat.le_of_ble_eq_true rfl)) st_d_ch_1 ⟨Nat.le_refl _, Nat.le_refl _⟩) (fun r hr0 => ?_)
  subst hr0
  refine lv_if_eq (tgt := 16) hx hb st_d_ch_4 (by decide) (fun c => absurd c (by decide)) (fun _ => ?_)
  refine lv_aload_n hx hb st_d_ch_7 rfl (lv_at hl 0 rfl) ?_
  refine vk_getf hx hb (hX.1.1 i hi).2.2.1 hS hown (hts _ st_f9) (fun _ z => z) st_d_ch_8 ?_
  refine lv_iload_n hx hb st_d_ch_11 rfl (lv_at hl 1 rfl) ?_
  refine vp_callSi (W.runS (As := [.ref (adV i), .int (nI k)]) (rest := []) ⟨hx, hb, hml, hown, hts⟩ (st_lc (ad := ad) hi hk) ⟨⟨rfl, rfl, Nat.le_of_ble_eq_true rfl, Nat.le_of_ble_eq_true rfl, pay_in hts (st_good st_c_lc), List.mem_cons_self, hts _ st_c_lc, hts _ st_n_L, ⟨by decide, by decide⟩, fun sig h => (by
    have h2 : (parseMethodDescriptor st_y_lc.desc).map (fun d => d.parameters.length) = some 2 := by decide +kernel
    rw [h] at h2
    exact (Option.some.inj h2).symm), hts _ st_l_lc⟩, hts _ st_s_lc⟩ ⟨st_blind ad adV _, fun U hU hW => ⟨rfl, by rw [hU]; exact st_X_moved hW.alike hX⟩⟩ rfl rfl hl.1 rfl (lv_room (Nat.le_of_ble_eq_true rfl)) st_d_ch_12 ⟨Nat.le_refl _, Nat.le_refl _⟩) (fun r hr0 => ?_)
  subst hr0
  exact W.zret hx hb hr c2 (fun t ht _ => ⟨_, rfl, rfl, ht⟩) (fun q h => by cases h) st_d_ch_15 hlocks
end STR
set_option maxHeartbeats 2000000 in
theorem st_str (l : Launch) {ad adV : Nat → Nat} {cA : Nat → ClassId} {D : va_G} : aStr s1_G ad cA 205 21 D wCl s1_cn s1_bc aAW s1_AN s1_zs s1_sk (st_X ad adV) l := by
  intro y d Q p e s m args below meth c hC pc i k rest H locs lsC hdg hk hcat hsz hS
  obtain ⟨hx, hb, hr, hml, hown, hts, hlk, hX⟩ := hC
  have hXs := hX.2.2.2.2.2
  have hXH : ∀ U : State, U.heap = H → s.WarmedH U.vm → st_X ad adV U U.heap := fun U hU hW => by
    rw [hU]
    exact st_X_moved hW.alike (st_X_kept hXs hS.2.1)
  have hrv : ∃ cell : Cell, H[ad (5000 + k)]? = some cell ∧ cell.vm.isStatics = false ∧ s.vm.findClass "java/lang/String" = some cell.cls := vk_recv hXs.1 hk hS
  obtain ⟨l1, l2⟩ := st_len10 k hk
  refine ⟨fun hl kk => ?_, fun z hz hl kk => ?_⟩
  · refine vp_callSi (W.runV (As := []) (rest := rest) ⟨hx, hb, hml, hown, hts⟩ (st_le (ad := ad) (adV := adV) hk) ⟨⟨rfl, rfl, by simp only [st_rm, aRoom]; omega, by simp only [st_rm, aRoom]; omega, pay_in hts (st_good st_c_le), List.mem_cons_self, hts _ st_c_le, hts _ st_n_S, ⟨by decide, by decide⟩, fun sig h => (by
      have h2 : (parseMethodDescriptor st_y_le.desc).map (fun d => d.parameters.length) = some 0 := by decide +kernel
      rw [h] at h2
      exact (Option.some.inj h2).symm), hts _ hl⟩, hts _ st_i_le, hts _ st_e_le⟩ ⟨st_blind ad adV _, hrv, fun U hU hW => ⟨rfl, hXH U hU hW⟩⟩ rfl rfl hsz rfl (lv_room hcat) hdg ⟨Nat.zero_le _, Nat.zero_le _⟩) (fun r hr0 => ?_)
    subst hr0
    have e : Int32.ofNat (st_len.getD k 0) = Int32.ofInt ((s1_G.2.2.2 k).length : Nat) := by
      rw [show (s1_G.2.2.2 k).length = st_len.getD k 0 from l2]
      rfl
    rw [e]
    exact kk locs hS
  · have hz2 : z.toNat < st_len.getD k 0 := by
      have := hz.2
      rw [show (s1_G.2.2.2 k).length = st_len.getD k 0 from l2] at this
      omega
    have e : Int32.ofInt z = nI z.toNat := by
      unfold nI
      apply Int32.toInt_inj.mp
      rw [a32_t ⟨by omega, by omega⟩, Int32.toInt_ofNat_of_lt (by omega)]
      omega
    rw [e]
    refine vp_callSi (W.runV (As := [.int (nI z.toNat)]) (rest := rest) ⟨hx, hb, hml, hown, hts⟩ (st_ch (ad := ad) (adV := adV) hk hz2) ⟨⟨rfl, rfl, by simp only [st_rm, aRoom]; omega, by simp only [st_rm, aRoom]; omega, pay_in hts (st_good st_c_ch), List.mem_cons_self, hts _ st_c_ch, hts _ st_n_S, ⟨by decide, by decide⟩, fun sig h => (by
      have h2 : (parseMethodDescriptor st_y_ch.desc).map (fun d => d.parameters.length) = some 1 := by decide +kernel
      rw [h] at h2
      exact (Option.some.inj h2).symm), hts _ hl⟩, hts _ st_i_ch, hts _ st_e_ch⟩ ⟨st_blind ad adV _, hrv, fun U hU hW => ⟨rfl, hXH U hU hW⟩⟩ rfl rfl hsz rfl (lv_room hcat) hdg ⟨Nat.zero_le _, Nat.zero_le _⟩) (fun r hr0 => ?_)
    subst hr0
    exact kk locs hS
end
