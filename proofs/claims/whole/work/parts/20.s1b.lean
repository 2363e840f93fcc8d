/-! SYSTEM 1: its blocks, read off: what is asked of a state for a block to run on (by program) -/
-- 0: DioceseBook$Canons.draft()V
set_option maxRecDepth 100000 in
set_option maxHeartbeats 4000000 in
theorem s1_Canons_draft_0 {d : Nat} (hd : 3 < d) {M : AM} {Q : Option AV → AM → Prop}
    (h : ((10 : Int) ≤ (M 24 0) → Q none M) ∧ ((M 24 0) < (10 : Int) → (0 ≤ (M 24 0) ∧ (M 24 0) < 10) ∧ (Q none (am_up (am_up M 25 (M 24 0) 0) 24 9 (a_mul ((am_up M 25 (M 24 0) 0) 24 0) 200))))) :
    aE s1_G d 0 0 [] [some (aP 24)] [] M Q := aE_go s1_pu_ok [] 96 hd h

-- 1: DioceseBook$Canons.addClause(IIII)V
set_option maxRecDepth 100000 in
set_option maxHeartbeats 4000000 in
theorem s1_Canons_addClause_0 {d : Nat} (hd : 3 < d) {M : AM} {Q : Option AV → AM → Prop} {x1 x2 x3 x4 : Int}
    (h : ((10 : Int) ≤ (M 24 0) → Q none M) ∧ ((M 24 0) < (10 : Int) → (0 ≤ (M 24 0) ∧ (M 24 0) < 10) ∧ (((12 : Int) ≤ (M 25 (M 24 0)) → Q none M) ∧ ((M 25 (M 24 0)) < (12 : Int) → (0 ≤ (M 24 0) ∧ (M 24 0) < 10) ∧ ((0 ≤ (a_add (a_mul (M 24 0) 12) (M 25 (M 24 0))) ∧ (a_add (a_mul (M 24 0) 12) (M 25 (M 24 0))) < 120) ∧ ((0 ≤ (a_add (a_mul (M 24 0) 12) (M 25 (M 24 0))) ∧ (a_add (a_mul (M 24 0) 12) (M 25 (M 24 0))) < 120) ∧ ((0 ≤ (a_add (a_mul (M 24 0) 12) (M 25 (M 24 0))) ∧ (a_add (a_mul (M 24 0) 12) (M 25 (M 24 0))) < 120) ∧ ((0 ≤ (a_add (a_mul (M 24 0) 12) (M 25 (M 24 0))) ∧ (a_add (a_mul (M 24 0) 12) (M 25 (M 24 0))) < 120) ∧ ((0 ≤ ((am_up (am_up (am_up (am_up M 28 (a_add (a_mul (M 24 0) 12) (M 25 (M 24 0))) x1) 29 (a_add (a_mul (M 24 0) 12) (M 25 (M 24 0))) x2) 30 (a_add (a_mul (M 24 0) 12) (M 25 (M 24 0))) x3) 31 (a_add (a_mul (M 24 0) 12) (M 25 (M 24 0))) x4) 24 0) ∧ ((am_up (am_up (am_up (am_up M 28 (a_add (a_mul (M 24 0) 12) (M 25 (M 24 0))) x1) 29 (a_add (a_mul (M 24 0) 12) (M 25 (M 24 0))) x2) 30 (a_add (a_mul (M 24 0) 12) (M 25 (M 24 0))) x3) 31 (a_add (a_mul (M 24 0) 12) (M 25 (M 24 0))) x4) 24 0) < 10) ∧ ((0 ≤ ((am_up (am_up (am_up (am_up M 28 (a_add (a_mul (M 24 0) 12) (M 25 (M 24 0))) x1) 29 (a_add (a_mul (M 24 0) 12) (M 25 (M 24 0))) x2) 30 (a_add (a_mul (M 24 0) 12) (M 25 (M 24 0))) x3) 31 (a_add (a_mul (M 24 0) 12) (M 25 (M 24 0))) x4) 24 0) ∧ ((am_up (am_up (am_up (am_up M 28 (a_add (a_mul (M 24 0) 12) (M 25 (M 24 0))) x1) 29 (a_add (a_mul (M 24 0) 12) (M 25 (M 24 0))) x2) 30 (a_add (a_mul (M 24 0) 12) (M 25 (M 24 0))) x3) 31 (a_add (a_mul (M 24 0) 12) (M 25 (M 24 0))) x4) 24 0) < 10) ∧ (Q none (am_up (am_up (am_up (am_up (am_up M 28 (a_add (a_mul (M 24 0) 12) (M 25 (M 24 0))) x1) 29 (a_add (a_mul (M 24 0) 12) (M 25 (M 24 0))) x2) 30 (a_add (a_mul (M 24 0) 12) (M 25 (M 24 0))) x3) 31 (a_add (a_mul (M 24 0) 12) (M 25 (M 24 0))) x4) 25 ((am_up (am_up (am_up (am_up M 28 (a_add (a_mul (M 24 0) 12) (M 25 (M 24 0))) x1) 29 (a_add (a_mul (M 24 0) 12) (M 25 (M 24 0))) x2) 30 (a_add (a_mul (M 24 0) 12) (M 25 (M 24 0))) x3) 31 (a_add (a_mul (M 24 0) 12) (M 25 (M 24 0))) x4) 24 0) (a_add ((am_up (am_up (am_up (am_up M 28 (a_add (a_mul (M 24 0) 12) (M 25 (M 24 0))) x1) 29 (a_add (a_mul (M 24 0) 12) (M 25 (M 24 0))) x2) 30 (a_add (a_mul (M 24 0) 12) (M 25 (M 24 0))) x3) 31 (a_add (a_mul (M 24 0) 12) (M 25 (M 24 0))) x4) 25 ((am_up (am_up (am_up (am_up M 28 (a_add (a_mul (M 24 0) 12) (M 25 (M 24 0))) x1) 29 (a_add (a_mul (M 24 0) 12) (M 25 (M 24 0))) x2) 30 (a_add (a_mul (M 24 0) 12) (M 25 (M 24 0))) x3) 31 (a_add (a_mul (M 24 0) 12) (M 25 (M 24 0))) x4) 24 0)) 1))))))))))))) :
    aE s1_G d 1 0 [] [some (aP 24), some (aI x1), some (aI x2), some (aI x3), some (aI x4), none] [] M Q := aE_go s1_pu_ok [] 168 hd h

-- 2: DioceseBook$Canons.addCode(I)V
set_option maxRecDepth 100000 in
set_option maxHeartbeats 4000000 in
theorem s1_Canons_addCode_0 {d : Nat} (hd : 3 < d) {M : AM} {Q : Option AV → AM → Prop} {x1 : Int}
    (h : ((a_mul (a_add (M 24 0) 1) 200) ≤ (M 24 9) → Q none M) ∧ ((M 24 9) < (a_mul (a_add (M 24 0) 1) 200) → ((2000 : Int) ≤ (M 24 9) → Q none M) ∧ ((M 24 9) < (2000 : Int) → (0 ≤ (M 24 9) ∧ (M 24 9) < 2000) ∧ (Q none (am_up (am_up M 32 (M 24 9) x1) 24 9 (a_add ((am_up M 32 (M 24 9) x1) 24 9) 1)))))) :
    aE s1_G d 2 0 [] [some (aP 24), some (aI x1)] [] M Q := aE_go s1_pu_ok [] 120 hd h

-- 3: DioceseBook$Canons.codePlace()I
set_option maxRecDepth 100000 in
set_option maxHeartbeats 4000000 in
theorem s1_Canons_codePlace_0 {d : Nat} (hd : 3 < d) {M : AM} {Q : Option AV → AM → Prop}
    (h : Q (some (aI (M 24 9))) M) :
    aE s1_G d 3 0 [] [some (aP 24)] [] M Q := aE_go s1_pu_ok [] 66 hd h

-- 4: DioceseBook$Canons.enact(I)I
set_option maxRecDepth 100000 in
set_option maxHeartbeats 4000000 in
theorem s1_Canons_enact_0 {d : Nat} (hd : 3 < d) {M : AM} {Q : Option AV → AM → Prop} {x1 : Int}
    (h : (0 ≤ (M 24 0) ∧ (M 24 0) < 10) ∧ (aE s1_G d 4 14 [] [some (aP 24), some (aI x1), some (aI (M 24 0)), some (aI (M 24 0))] [] (am_up M 26 (M 24 0) x1) Q)) :
    aE s1_G d 4 0 [] [some (aP 24), some (aI x1), none, none] [] M Q := aE_go s1_pu_ok [(14, [true, true, true, true])] 80 hd h

set_option maxRecDepth 100000 in
set_option maxHeartbeats 4000000 in
theorem s1_Canons_enact_14 {d : Nat} (hd : 3 < d) {M : AM} {Q : Option AV → AM → Prop} {x1 x2 x3 : Int}
    (h : (x3 ≤ (0 : Int) → (0 ≤ x3 ∧ x3 < 10) ∧ (Q (some (aI x2)) (am_up (am_up (am_up M 27 x3 x2) 24 0 (a_add ((am_up M 27 x3 x2) 24 0) 1)) 24 10 (-1)))) ∧ ((0 : Int) < x3 → (0 ≤ (a_sub x3 1) ∧ (a_sub x3 1) < 10) ∧ ((0 ≤ (M 27 (a_sub x3 1)) ∧ (M 27 (a_sub x3 1)) < 10) ∧ (((M 26 (M 27 (a_sub x3 1))) ≤ x1 → (0 ≤ x3 ∧ x3 < 10) ∧ (Q (some (aI x2)) (am_up (am_up (am_up M 27 x3 x2) 24 0 (a_add ((am_up M 27 x3 x2) 24 0) 1)) 24 10 (-1)))) ∧ (x1 < (M 26 (M 27 (a_sub x3 1))) → (0 ≤ (a_sub x3 1) ∧ (a_sub x3 1) < 10) ∧ ((0 ≤ x3 ∧ x3 < 10) ∧ (aE s1_G d 4 14 [] [some (aP 24), some (aI x1), some (aI x2), some (aI (a_add x3 (-1)))] [] (am_up M 27 x3 (M 27 (a_sub x3 1))) Q))))))) :
    aE s1_G d 4 14 [] [some (aP 24), some (aI x1), some (aI x2), some (aI x3)] [] M Q := aE_go s1_pu_ok [(14, [true, true, true, true])] 174 hd h

-- 5: DioceseBook$Canons.isCounting(I)Z
set_option maxRecDepth 100000 in
set_option maxHeartbeats 4000000 in
theorem s1_Canons_isCounting_0 {d : Nat} (hd : 3 < d) {M : AM} {Q : Option AV → AM → Prop} {x1 : Int}
    (h : ((a_and (a_shr (M 24 11) x1) 1) ≠ (1 : Int) → ((0 : Int) = 0 ∨ (0 : Int) = 1) ∧ Q (some (aI 0)) M) ∧ ((a_and (a_shr (M 24 11) x1) 1) = (1 : Int) → ((1 : Int) = 0 ∨ (1 : Int) = 1) ∧ Q (some (aI 1)) M)) :
    aE s1_G d 5 0 [] [some (aP 24), some (aI x1)] [] M Q := aE_go s1_pu_ok [] 86 hd h

-- 6: DioceseBook$Canons.numberOn(II)I
set_option maxRecDepth 100000 in
set_option maxHeartbeats 4000000 in
theorem s1_Canons_numberOn_0 {d : Nat} (hd : 3 < d) {M : AM} {Q : Option AV → AM → Prop} {x1 x2 : Int}
    (h : aKv s1_G d 7 [aP 24, aI x2] M (fun M1 => (0 ≤ x1 ∧ x1 < 8) ∧ (Q (some (aI (M1 33 x1))) M1))) :
    aE s1_G d 6 0 [] [some (aP 24), some (aI x1), some (aI x2)] [] M Q := aE_go s1_pu_ok [] 76 hd h

-- 7: DioceseBook$Canons.settle(I)V
set_option maxRecDepth 100000 in
set_option maxHeartbeats 4000000 in
theorem s1_Canons_settle_0 {d : Nat} (hd : 3 < d) {M : AM} {Q : Option AV → AM → Prop} {x1 : Int}
    (h : ((M 24 10) ≠ x1 → aE s1_G d 7 28 [] [some (aP 24), some (aI x1), some (aI 0), some (aI (a_sub ((am_up (am_up M 24 10 x1) 24 11 0) 24 0) 1))] [] (am_up (am_up M 24 10 x1) 24 11 0) Q) ∧ ((M 24 10) = x1 → Q none M)) :
    aE s1_G d 7 0 [] [some (aP 24), some (aI x1), none, none] [] M Q := aE_go s1_pu_ok [(28, [true, true, true, true]), (78, [true, false, false, true]), (110, [true, false, false, true])] 96 hd h

set_option maxRecDepth 100000 in
set_option maxHeartbeats 4000000 in
theorem s1_Canons_settle_28 {d : Nat} (hd : 3 < d) {M : AM} {Q : Option AV → AM → Prop} {x1 x2 x3 : Int}
    (h : (x3 < (0 : Int) → aE s1_G d 7 78 [] [some (aP 24), none, none, some (aI 0)] [] M Q) ∧ ((0 : Int) ≤ x3 → (0 ≤ x3 ∧ x3 < 10) ∧ ((x1 < (M 26 x3) → aE s1_G d 7 28 [] [some (aP 24), some (aI x1), some (aI x2), some (aI (a_add x3 (-1)))] [] M Q) ∧ ((M 26 x3) ≤ x1 → ((a_and (a_shr x2 x3) 1) ≠ (0 : Int) → aE s1_G d 7 28 [] [some (aP 24), some (aI x1), some (aI x2), some (aI (a_add x3 (-1)))] [] M Q) ∧ ((a_and (a_shr x2 x3) 1) = (0 : Int) → aKi s1_G d 8 [aP 24, aI x3] (am_up M 24 11 (a_or (M 24 11) (a_shl 1 x3))) (fun z2 M1 => aE s1_G d 7 28 [] [some (aP 24), some (aI x1), some (aI (a_or x2 z2)), some (aI (a_add x3 (-1)))] [] M1 Q)))))) :
    aE s1_G d 7 28 [] [some (aP 24), some (aI x1), some (aI x2), some (aI x3)] [] M Q := aE_go s1_pu_ok [(28, [true, true, true, true]), (78, [true, false, false, true]), (110, [true, false, false, true])] 132 hd h

set_option maxRecDepth 100000 in
set_option maxHeartbeats 4000000 in
theorem s1_Canons_settle_78 {d : Nat} (hd : 3 < d) {M : AM} {Q : Option AV → AM → Prop} {x3 : Int}
    (h : ((8 : Int) ≤ x3 → aE s1_G d 7 110 [] [some (aP 24), none, none, some (aI 0)] [] M Q) ∧ (x3 < (8 : Int) → (0 ≤ x3 ∧ x3 < 8) ∧ ((0 ≤ x3 ∧ x3 < 8) ∧ ((0 ≤ x3 ∧ x3 < 8) ∧ (aE s1_G d 7 78 [] [some (aP 24), none, none, some (aI (a_add x3 1))] [] (am_up (am_up M 33 x3 (List.getD [6, 30, 100, 0, 0, 0, 0, 0] (Int.toNat x3) 0)) 34 x3 (-1)) Q))))) :
    aE s1_G d 7 78 [] [some (aP 24), none, none, some (aI x3)] [] M Q := aE_go s1_pu_ok [(28, [true, true, true, true]), (78, [true, false, false, true]), (110, [true, false, false, true])] 98 hd h

set_option maxRecDepth 100000 in
set_option maxHeartbeats 4000000 in
theorem s1_Canons_settle_110 {d : Nat} (hd : 3 < d) {M : AM} {Q : Option AV → AM → Prop} {x3 : Int}
    (h : ((M 24 0) ≤ x3 → Q none M) ∧ (x3 < (M 24 0) → (0 ≤ x3 ∧ x3 < 10) ∧ (aKi s1_G d 5 [aP 24, aI (M 27 x3)] M (fun z2 M1 => (z2 = (0 : Int) → aE s1_G d 7 110 [] [some (aP 24), none, none, some (aI (a_add x3 1))] [] M1 Q) ∧ (z2 ≠ (0 : Int) → (0 ≤ x3 ∧ x3 < 10) ∧ (aKv s1_G d 9 [aP 24, aI (M1 27 x3)] M1 (fun M3 => aE s1_G d 7 110 [] [some (aP 24), none, none, some (aI (a_add x3 1))] [] M3 Q))))))) :
    aE s1_G d 7 110 [] [some (aP 24), none, none, some (aI x3)] [] M Q := aE_go s1_pu_ok [(28, [true, true, true, true]), (78, [true, false, false, true]), (110, [true, false, false, true])] 104 hd h

-- 8: DioceseBook$Canons.struckBy(I)I
set_option maxRecDepth 100000 in
set_option maxHeartbeats 4000000 in
theorem s1_Canons_struckBy_0 {d : Nat} (hd : 3 < d) {M : AM} {Q : Option AV → AM → Prop} {x1 : Int}
    (h : aE s1_G d 8 7 [] [some (aP 24), some (aI x1), some (aI 0), some (aI (a_mul x1 12))] [] M Q) :
    aE s1_G d 8 0 [] [some (aP 24), some (aI x1), none, none] [] M Q := aE_go s1_pu_ok [(7, [true, true, true, true])] 72 hd h

set_option maxRecDepth 100000 in
set_option maxHeartbeats 4000000 in
theorem s1_Canons_struckBy_7 {d : Nat} (hd : 3 < d) {M : AM} {Q : Option AV → AM → Prop} {x1 x2 x3 : Int}
    (h : (0 ≤ x1 ∧ x1 < 10) ∧ (((a_add (a_mul x1 12) (M 25 x1)) ≤ x3 → Q (some (aI x2)) M) ∧ (x3 < (a_add (a_mul x1 12) (M 25 x1)) → (0 ≤ x3 ∧ x3 < 120) ∧ (((M 28 x3) ≠ (2 : Int) → aE s1_G d 8 7 [] [some (aP 24), some (aI x1), some (aI x2), some (aI (a_add x3 1))] [] M Q) ∧ ((M 28 x3) = (2 : Int) → (0 ≤ x3 ∧ x3 < 120) ∧ (aE s1_G d 8 7 [] [some (aP 24), some (aI x1), some (aI (a_or x2 (a_shl 1 (M 29 x3)))), some (aI (a_add x3 1))] [] M Q)))))) :
    aE s1_G d 8 7 [] [some (aP 24), some (aI x1), some (aI x2), some (aI x3)] [] M Q := aE_go s1_pu_ok [(7, [true, true, true, true])] 122 hd h

-- 9: DioceseBook$Canons.letAll(I)V
set_option maxRecDepth 100000 in
set_option maxHeartbeats 4000000 in
theorem s1_Canons_letAll_0 {d : Nat} (hd : 3 < d) {M : AM} {Q : Option AV → AM → Prop} {x1 : Int}
    (h : aE s1_G d 9 5 [] [some (aP 24), some (aI x1), some (aI (a_mul x1 12))] [] M Q) :
    aE s1_G d 9 0 [] [some (aP 24), some (aI x1), none] [] M Q := aE_go s1_pu_ok [(5, [true, true, true])] 68 hd h

set_option maxRecDepth 100000 in
set_option maxHeartbeats 4000000 in
theorem s1_Canons_letAll_5 {d : Nat} (hd : 3 < d) {M : AM} {Q : Option AV → AM → Prop} {x1 x2 : Int}
    (h : (0 ≤ x1 ∧ x1 < 10) ∧ (((a_add (a_mul x1 12) (M 25 x1)) ≤ x2 → Q none M) ∧ (x2 < (a_add (a_mul x1 12) (M 25 x1)) → (0 ≤ x2 ∧ x2 < 120) ∧ (((M 28 x2) ≠ (0 : Int) → aE s1_G d 9 5 [] [some (aP 24), some (aI x1), some (aI (a_add x2 1))] [] M Q) ∧ ((M 28 x2) = (0 : Int) → (0 ≤ x2 ∧ x2 < 120) ∧ ((0 ≤ x2 ∧ x2 < 120) ∧ ((0 ≤ (M 29 x2) ∧ (M 29 x2) < 8) ∧ ((0 ≤ x2 ∧ x2 < 120) ∧ ((0 ≤ ((am_up M 33 (M 29 x2) (M 30 x2)) 29 x2) ∧ ((am_up M 33 (M 29 x2) (M 30 x2)) 29 x2) < 8) ∧ (aE s1_G d 9 5 [] [some (aP 24), some (aI x1), some (aI (a_add x2 1))] [] (am_up (am_up M 33 (M 29 x2) (M 30 x2)) 34 ((am_up M 33 (M 29 x2) (M 30 x2)) 29 x2) x1) Q)))))))))) :
    aE s1_G d 9 5 [] [some (aP 24), some (aI x1), some (aI x2)] [] M Q := aE_go s1_pu_ok [(5, [true, true, true])] 138 hd h

-- 10: DioceseBook$Canons.firstBar(I[I)I
set_option maxRecDepth 100000 in
set_option maxHeartbeats 4000000 in
theorem s1_Canons_firstBar_0 {d : Nat} (hd : 3 < d) {M : AM} {Q : Option AV → AM → Prop} {x1 : Int}
    (h : aKv s1_G d 7 [aP 24, aI x1] M (fun M1 => aE s1_G d 10 7 [] [some (aP 24), none, some (aP 55), some (aI 0), none, none, none] [] M1 Q)) :
    aE s1_G d 10 0 [] [some (aP 24), some (aI x1), some (aP 55), none, none, none, none] [] M Q := aE_go s1_pu_ok [(7, [true, false, true, true, false, false, false]), (26, [true, false, true, true, true, true, false])] 70 hd h

set_option maxRecDepth 100000 in
set_option maxHeartbeats 4000000 in
theorem s1_Canons_firstBar_7 {d : Nat} (hd : 3 < d) {M : AM} {Q : Option AV → AM → Prop} {x3 : Int}
    (h : ((M 24 0) ≤ x3 → Q (some (aI (-1))) M) ∧ (x3 < (M 24 0) → (0 ≤ x3 ∧ x3 < 10) ∧ (aE s1_G d 10 26 [] [some (aP 24), none, some (aP 55), some (aI x3), some (aI (M 27 x3)), some (aI 0), none] [] M Q))) :
    aE s1_G d 10 7 [] [some (aP 24), none, some (aP 55), some (aI x3), none, none, none] [] M Q := aE_go s1_pu_ok [(7, [true, false, true, true, false, false, false]), (26, [true, false, true, true, true, true, false])] 86 hd h

set_option maxRecDepth 100000 in
set_option maxHeartbeats 4000000 in
theorem s1_Canons_firstBar_26 {d : Nat} (hd : 3 < d) {M : AM} {Q : Option AV → AM → Prop} {x3 x4 x5 : Int}
    (h : (0 ≤ x4 ∧ x4 < 10) ∧ (((M 25 x4) ≤ x5 → aE s1_G d 10 7 [] [some (aP 24), none, some (aP 55), some (aI (a_add x3 1)), none, none, none] [] M Q) ∧ (x5 < (M 25 x4) → aKi s1_G d 5 [aP 24, aI x4] M (fun z2 M1 => (z2 = (0 : Int) → aE s1_G d 10 7 [] [some (aP 24), none, some (aP 55), some (aI (a_add x3 1)), none, none, none] [] M1 Q) ∧ (z2 ≠ (0 : Int) → (0 ≤ (a_add (a_mul x4 12) x5) ∧ (a_add (a_mul x4 12) x5) < 120) ∧ (((M1 28 (a_add (a_mul x4 12) x5)) ≠ (1 : Int) → aE s1_G d 10 26 [] [some (aP 24), none, some (aP 55), some (aI x3), some (aI x4), some (aI (a_add x5 1)), none] [] M1 Q) ∧ ((M1 28 (a_add (a_mul x4 12) x5)) = (1 : Int) → (0 ≤ (a_add (a_mul x4 12) x5) ∧ (a_add (a_mul x4 12) x5) < 120) ∧ ((0 ≤ (a_add (a_mul x4 12) x5) ∧ (a_add (a_mul x4 12) x5) < 120) ∧ (aKi s1_G d 11 [aP 24, aI (M1 29 (a_add (a_mul x4 12) x5)), aI (M1 30 (a_add (a_mul x4 12) x5)), aP 55] M1 (fun z4 M3 => (z4 = (0 : Int) → aE s1_G d 10 26 [] [some (aP 24), none, some (aP 55), some (aI x3), some (aI x4), some (aI (a_add x5 1)), none] [] M3 Q) ∧ (z4 ≠ (0 : Int) → (0 ≤ (a_add (a_mul x4 12) x5) ∧ (a_add (a_mul x4 12) x5) < 120) ∧ ((0 ≤ (a_add (a_mul x4 12) x5) ∧ (a_add (a_mul x4 12) x5) < 120) ∧ (((M3 31 (a_add (a_mul x4 12) x5)) ≤ (M3 30 (a_add (a_mul x4 12) x5)) → Q (some (aI (a_add (a_mul 100 x4) x5))) M3) ∧ ((M3 30 (a_add (a_mul x4 12) x5)) < (M3 31 (a_add (a_mul x4 12) x5)) → (0 ≤ (a_add (a_mul x4 12) x5) ∧ (a_add (a_mul x4 12) x5) < 120) ∧ ((0 ≤ (a_add (a_mul x4 12) x5) ∧ (a_add (a_mul x4 12) x5) < 120) ∧ (aKi s1_G d 11 [aP 24, aI (M3 30 (a_add (a_mul x4 12) x5)), aI (M3 31 (a_add (a_mul x4 12) x5)), aP 55] M3 (fun z6 M5 => (z6 ≠ (0 : Int) → aE s1_G d 10 26 [] [some (aP 24), none, some (aP 55), some (aI x3), some (aI x4), some (aI (a_add x5 1)), none] [] M5 Q) ∧ (z6 = (0 : Int) → Q (some (aI (a_add (a_mul 100 x4) x5))) M5)))))))))))))))))) :
    aE s1_G d 10 26 [] [some (aP 24), none, some (aP 55), some (aI x3), some (aI x4), some (aI x5), none] [] M Q := aE_go s1_pu_ok [(7, [true, false, true, true, false, false, false]), (26, [true, false, true, true, true, true, false])] 214 hd h

-- 11: DioceseBook$Canons.isMet(II[I)Z
set_option maxRecDepth 100000 in
set_option maxHeartbeats 4000000 in
theorem s1_Canons_isMet_0 {d : Nat} (hd : 3 < d) {M : AM} {Q : Option AV → AM → Prop} {x1 x2 : Int}
    (h : aE s1_G d 11 6 [] [some (aP 24), none, some (aI x2), some (aP 55), some (aL 0), none, some (aI x1), none, none] [] M Q) :
    aE s1_G d 11 0 [] [some (aP 24), some (aI x1), some (aI x2), some (aP 55), none, none, none, none, none] [] M Q := aE_go s1_pu_ok [(6, [true, false, true, true, true, false, true, false, false])] 68 hd h

set_option maxRecDepth 100000 in
set_option maxHeartbeats 4000000 in
theorem s1_Canons_isMet_6 {d : Nat} (hd : 3 < d) {M : AM} {Q : Option AV → AM → Prop} {x2 x4 x6 : Int}
    (h : (x2 ≤ x6 → ((a_cmp (a_land x4 1) 1) ≠ (0 : Int) → ((0 : Int) = 0 ∨ (0 : Int) = 1) ∧ Q (some (aI 0)) M) ∧ ((a_cmp (a_land x4 1) 1) = (0 : Int) → ((1 : Int) = 0 ∨ (1 : Int) = 1) ∧ Q (some (aI 1)) M)) ∧ (x6 < x2 → (0 ≤ x6 ∧ x6 < 2000) ∧ ((((M 32 x6) = (-3) → aE s1_G d 11 6 [] [some (aP 24), none, some (aI x2), some (aP 55), some (aL (a_lxor x4 1)), none, some (aI (a_add x6 1)), none, none] [] M Q) ∧ ((M 32 x6) = (-2) → aE s1_G d 11 6 [] [some (aP 24), none, some (aI x2), some (aP 55), some (aL (a_lor (a_lushr x4 1) (a_land x4 1))), none, some (aI (a_add x6 1)), none, none] [] M Q) ∧ ((M 32 x6) = (-1) → aE s1_G d 11 6 [] [some (aP 24), none, some (aI x2), some (aP 55), some (aL (a_land (a_lushr x4 1) (a_lor (-2) (a_land x4 1)))), none, some (aI (a_add x6 1)), none, none] [] M Q) ∧ True) ∧ ((M 32 x6) < (-3) ∨ (-1) < (M 32 x6) → (0 ≤ x6 ∧ x6 < 2000) ∧ (aKi s1_G d 12 [aI (M 32 x6), aP 55] M (fun z2 M1 => aE s1_G d 11 6 [] [some (aP 24), none, some (aI x2), some (aP 55), some (aL (a_lor (a_lshl x4 1) (a_bl (z2 ≠ 0)))), none, some (aI (a_add x6 1)), none, none] [] M1 Q)))))) :
    aE s1_G d 11 6 [] [some (aP 24), none, some (aI x2), some (aP 55), some (aL x4), none, some (aI x6), none, none] [] M Q := aE_go s1_pu_ok [(6, [true, false, true, true, true, false, true, false, false])] 198 hd h

-- 12: DioceseBook$Canons.compares(I[I)Z
set_option maxRecDepth 100000 in
set_option maxHeartbeats 4000000 in
theorem s1_Canons_compares_0 {d : Nat} (hd : 3 < d) {M : AM} {Q : Option AV → AM → Prop} {x0 : Int}
    (h : (30000 : Int) ≠ 0 ∧ ((0 ≤ (a_div x0 30000) ∧ (a_div x0 30000) < 6) ∧ ((10000 : Int) ≠ 0 ∧ ((3 : Int) ≠ 0 ∧ ((10000 : Int) ≠ 0 ∧ (((M 55 (a_div x0 30000)) ≠ ((-1) : Int) → ((a_rem (a_div x0 10000) 3) ≠ (0 : Int) → ((a_rem (a_div x0 10000) 3) ≠ (1 : Int) → ((M 55 (a_div x0 30000)) ≠ (a_rem x0 10000) → ((0 : Int) = 0 ∨ (0 : Int) = 1) ∧ Q (some (aI 0)) M) ∧ ((M 55 (a_div x0 30000)) = (a_rem x0 10000) → ((1 : Int) = 0 ∨ (1 : Int) = 1) ∧ Q (some (aI 1)) M)) ∧ ((a_rem (a_div x0 10000) 3) = (1 : Int) → ((M 55 (a_div x0 30000)) ≤ (a_rem x0 10000) → ((0 : Int) = 0 ∨ (0 : Int) = 1) ∧ Q (some (aI 0)) M) ∧ ((a_rem x0 10000) < (M 55 (a_div x0 30000)) → ((1 : Int) = 0 ∨ (1 : Int) = 1) ∧ Q (some (aI 1)) M))) ∧ ((a_rem (a_div x0 10000) 3) = (0 : Int) → ((a_rem x0 10000) ≤ (M 55 (a_div x0 30000)) → ((0 : Int) = 0 ∨ (0 : Int) = 1) ∧ Q (some (aI 0)) M) ∧ ((M 55 (a_div x0 30000)) < (a_rem x0 10000) → ((1 : Int) = 0 ∨ (1 : Int) = 1) ∧ Q (some (aI 1)) M))) ∧ ((M 55 (a_div x0 30000)) = ((-1) : Int) → ((0 : Int) = 0 ∨ (0 : Int) = 1) ∧ Q (some (aI 0)) M))))))) :
    aE s1_G d 12 0 [] [some (aI x0), some (aP 55), none, none, none] [] M Q := aE_go s1_pu_ok [] 162 hd h

-- 13: DioceseBook$Changes.stateOf(I)I
set_option maxRecDepth 100000 in
set_option maxHeartbeats 4000000 in
theorem s1_Changes_stateOf_0 {d : Nat} (hd : 3 < d) {M : AM} {Q : Option AV → AM → Prop} {x0 : Int}
    (h : Q (some (aI (if x0 ≤ 2 then x0 else 2))) M) :
    aE s1_G d 13 0 [] [some (aI x0)] [] M Q := aE_go s1_pu_ok [] 68 hd h

-- 14: DioceseBook$Changes.clearAll()V
set_option maxRecDepth 100000 in
set_option maxHeartbeats 4000000 in
theorem s1_Changes_clearAll_0 {d : Nat} (hd : 3 < d) {M : AM} {Q : Option AV → AM → Prop}
    (h : Q none (am_up M 62 6 0)) :
    aE s1_G d 14 0 [] [some (aP 62)] [] M Q := aE_go s1_pu_ok [] 68 hd h

-- 15: DioceseBook$Changes.note(IIZIII)V
set_option maxRecDepth 100000 in
set_option maxHeartbeats 4000000 in
theorem s1_Changes_note_0 {d : Nat} (hd : 3 < d) {M : AM} {Q : Option AV → AM → Prop} {x1 x2 x3 x4 x5 x6 : Int}
    (h : ((300 : Int) ≤ (M 62 6) → Q none M) ∧ ((M 62 6) < (300 : Int) → (0 ≤ (M 62 6) ∧ (M 62 6) < 300) ∧ ((0 ≤ ((am_up M 66 (M 62 6) x1) 62 6) ∧ ((am_up M 66 (M 62 6) x1) 62 6) < 300) ∧ ((0 ≤ ((am_up (am_up M 66 (M 62 6) x1) 67 ((am_up M 66 (M 62 6) x1) 62 6) x2) 62 6) ∧ ((am_up (am_up M 66 (M 62 6) x1) 67 ((am_up M 66 (M 62 6) x1) 62 6) x2) 62 6) < 300) ∧ ((x3 = 0 ∨ x3 = 1) ∧ ((0 ≤ ((am_up (am_up (am_up M 66 (M 62 6) x1) 67 ((am_up M 66 (M 62 6) x1) 62 6) x2) 68 ((am_up (am_up M 66 (M 62 6) x1) 67 ((am_up M 66 (M 62 6) x1) 62 6) x2) 62 6) x3) 62 6) ∧ ((am_up (am_up (am_up M 66 (M 62 6) x1) 67 ((am_up M 66 (M 62 6) x1) 62 6) x2) 68 ((am_up (am_up M 66 (M 62 6) x1) 67 ((am_up M 66 (M 62 6) x1) 62 6) x2) 62 6) x3) 62 6) < 300) ∧ ((0 ≤ ((am_up (am_up (am_up (am_up M 66 (M 62 6) x1) 67 ((am_up M 66 (M 62 6) x1) 62 6) x2) 68 ((am_up (am_up M 66 (M 62 6) x1) 67 ((am_up M 66 (M 62 6) x1) 62 6) x2) 62 6) x3) 63 ((am_up (am_up (am_up M 66 (M 62 6) x1) 67 ((am_up M 66 (M 62 6) x1) 62 6) x2) 68 ((am_up (am_up M 66 (M 62 6) x1) 67 ((am_up M 66 (M 62 6) x1) 62 6) x2) 62 6) x3) 62 6) x4) 62 6) ∧ ((am_up (am_up (am_up (am_up M 66 (M 62 6) x1) 67 ((am_up M 66 (M 62 6) x1) 62 6) x2) 68 ((am_up (am_up M 66 (M 62 6) x1) 67 ((am_up M 66 (M 62 6) x1) 62 6) x2) 62 6) x3) 63 ((am_up (am_up (am_up M 66 (M 62 6) x1) 67 ((am_up M 66 (M 62 6) x1) 62 6) x2) 68 ((am_up (am_up M 66 (M 62 6) x1) 67 ((am_up M 66 (M 62 6) x1) 62 6) x2) 62 6) x3) 62 6) x4) 62 6) < 300) ∧ ((0 ≤ ((am_up (am_up (am_up (am_up (am_up M 66 (M 62 6) x1) 67 ((am_up M 66 (M 62 6) x1) 62 6) x2) 68 ((am_up (am_up M 66 (M 62 6) x1) 67 ((am_up M 66 (M 62 6) x1) 62 6) x2) 62 6) x3) 63 ((am_up (am_up (am_up M 66 (M 62 6) x1) 67 ((am_up M 66 (M 62 6) x1) 62 6) x2) 68 ((am_up (am_up M 66 (M 62 6) x1) 67 ((am_up M 66 (M 62 6) x1) 62 6) x2) 62 6) x3) 62 6) x4) 64 ((am_up (am_up (am_up (am_up M 66 (M 62 6) x1) 67 ((am_up M 66 (M 62 6) x1) 62 6) x2) 68 ((am_up (am_up M 66 (M 62 6) x1) 67 ((am_up M 66 (M 62 6) x1) 62 6) x2) 62 6) x3) 63 ((am_up (am_up (am_up M 66 (M 62 6) x1) 67 ((am_up M 66 (M 62 6) x1) 62 6) x2) 68 ((am_up (am_up M 66 (M 62 6) x1) 67 ((am_up M 66 (M 62 6) x1) 62 6) x2) 62 6) x3) 62 6) x4) 62 6) x5) 62 6) ∧ ((am_up (am_up (am_up (am_up (am_up M 66 (M 62 6) x1) 67 ((am_up M 66 (M 62 6) x1) 62 6) x2) 68 ((am_up (am_up M 66 (M 62 6) x1) 67 ((am_up M 66 (M 62 6) x1) 62 6) x2) 62 6) x3) 63 ((am_up (am_up (am_up M 66 (M 62 6) x1) 67 ((am_up M 66 (M 62 6) x1) 62 6) x2) 68 ((am_up (am_up M 66 (M 62 6) x1) 67 ((am_up M 66 (M 62 6) x1) 62 6) x2) 62 6) x3) 62 6) x4) 64 ((am_up (am_up (am_up (am_up M 66 (M 62 6) x1) 67 ((am_up M 66 (M 62 6) x1) 62 6) x2) 68 ((am_up (am_up M 66 (M 62 6) x1) 67 ((am_up M 66 (M 62 6) x1) 62 6) x2) 62 6) x3) 63 ((am_up (am_up (am_up M 66 (M 62 6) x1) 67 ((am_up M 66 (M 62 6) x1) 62 6) x2) 68 ((am_up (am_up M 66 (M 62 6) x1) 67 ((am_up M 66 (M 62 6) x1) 62 6) x2) 62 6) x3) 62 6) x4) 62 6) x5) 62 6) < 300) ∧ (Q none (am_up (am_up (am_up (am_up (am_up (am_up (am_up M 66 (M 62 6) x1) 67 ((am_up M 66 (M 62 6) x1) 62 6) x2) 68 ((am_up (am_up M 66 (M 62 6) x1) 67 ((am_up M 66 (M 62 6) x1) 62 6) x2) 62 6) x3) 63 ((am_up (am_up (am_up M 66 (M 62 6) x1) 67 ((am_up M 66 (M 62 6) x1) 62 6) x2) 68 ((am_up (am_up M 66 (M 62 6) x1) 67 ((am_up M 66 (M 62 6) x1) 62 6) x2) 62 6) x3) 62 6) x4) 64 ((am_up (am_up (am_up (am_up M 66 (M 62 6) x1) 67 ((am_up M 66 (M 62 6) x1) 62 6) x2) 68 ((am_up (am_up M 66 (M 62 6) x1) 67 ((am_up M 66 (M 62 6) x1) 62 6) x2) 62 6) x3) 63 ((am_up (am_up (am_up M 66 (M 62 6) x1) 67 ((am_up M 66 (M 62 6) x1) 62 6) x2) 68 ((am_up (am_up M 66 (M 62 6) x1) 67 ((am_up M 66 (M 62 6) x1) 62 6) x2) 62 6) x3) 62 6) x4) 62 6) x5) 65 ((am_up (am_up (am_up (am_up (am_up M 66 (M 62 6) x1) 67 ((am_up M 66 (M 62 6) x1) 62 6) x2) 68 ((am_up (am_up M 66 (M 62 6) x1) 67 ((am_up M 66 (M 62 6) x1) 62 6) x2) 62 6) x3) 63 ((am_up (am_up (am_up M 66 (M 62 6) x1) 67 ((am_up M 66 (M 62 6) x1) 62 6) x2) 68 ((am_up (am_up M 66 (M 62 6) x1) 67 ((am_up M 66 (M 62 6) x1) 62 6) x2) 62 6) x3) 62 6) x4) 64 ((am_up (am_up (am_up (am_up M 66 (M 62 6) x1) 67 ((am_up M 66 (M 62 6) x1) 62 6) x2) 68 ((am_up (am_up M 66 (M 62 6) x1) 67 ((am_up M 66 (M 62 6) x1) 62 6) x2) 62 6) x3) 63 ((am_up (am_up (am_up M 66 (M 62 6) x1) 67 ((am_up M 66 (M 62 6) x1) 62 6) x2) 68 ((am_up (am_up M 66 (M 62 6) x1) 67 ((am_up M 66 (M 62 6) x1) 62 6) x2) 62 6) x3) 62 6) x4) 62 6) x5) 62 6) x6) 62 6 (a_add ((am_up (am_up (am_up (am_up (am_up (am_up M 66 (M 62 6) x1) 67 ((am_up M 66 (M 62 6) x1) 62 6) x2) 68 ((am_up (am_up M 66 (M 62 6) x1) 67 ((am_up M 66 (M 62 6) x1) 62 6) x2) 62 6) x3) 63 ((am_up (am_up (am_up M 66 (M 62 6) x1) 67 ((am_up M 66 (M 62 6) x1) 62 6) x2) 68 ((am_up (am_up M 66 (M 62 6) x1) 67 ((am_up M 66 (M 62 6) x1) 62 6) x2) 62 6) x3) 62 6) x4) 64 ((am_up (am_up (am_up (am_up M 66 (M 62 6) x1) 67 ((am_up M 66 (M 62 6) x1) 62 6) x2) 68 ((am_up (am_up M 66 (M 62 6) x1) 67 ((am_up M 66 (M 62 6) x1) 62 6) x2) 62 6) x3) 63 ((am_up (am_up (am_up M 66 (M 62 6) x1) 67 ((am_up M 66 (M 62 6) x1) 62 6) x2) 68 ((am_up (am_up M 66 (M 62 6) x1) 67 ((am_up M 66 (M 62 6) x1) 62 6) x2) 62 6) x3) 62 6) x4) 62 6) x5) 65 ((am_up (am_up (am_up (am_up (am_up M 66 (M 62 6) x1) 67 ((am_up M 66 (M 62 6) x1) 62 6) x2) 68 ((am_up (am_up M 66 (M 62 6) x1) 67 ((am_up M 66 (M 62 6) x1) 62 6) x2) 62 6) x3) 63 ((am_up (am_up (am_up M 66 (M 62 6) x1) 67 ((am_up M 66 (M 62 6) x1) 62 6) x2) 68 ((am_up (am_up M 66 (M 62 6) x1) 67 ((am_up M 66 (M 62 6) x1) 62 6) x2) 62 6) x3) 62 6) x4) 64 ((am_up (am_up (am_up (am_up M 66 (M 62 6) x1) 67 ((am_up M 66 (M 62 6) x1) 62 6) x2) 68 ((am_up (am_up M 66 (M 62 6) x1) 67 ((am_up M 66 (M 62 6) x1) 62 6) x2) 62 6) x3) 63 ((am_up (am_up (am_up M 66 (M 62 6) x1) 67 ((am_up M 66 (M 62 6) x1) 62 6) x2) 68 ((am_up (am_up M 66 (M 62 6) x1) 67 ((am_up M 66 (M 62 6) x1) 62 6) x2) 62 6) x3) 62 6) x4) 62 6) x5) 62 6) x6) 62 6) 1))))))))))) :
    aE s1_G d 15 0 [] [some (aP 62), some (aI x1), some (aI x2), some (aI x3), some (aI x4), some (aI x5), some (aI x6)] [] M Q := aE_go s1_pu_ok [] 156 hd h

-- 16: DioceseBook$Changes.rowOf(II)I
set_option maxRecDepth 100000 in
set_option maxHeartbeats 4000000 in
theorem s1_Changes_rowOf_0 {d : Nat} (hd : 3 < d) {M : AM} {Q : Option AV → AM → Prop} {x1 x2 : Int}
    (h : aE s1_G d 16 5 [] [some (aP 62), some (aI x1), some (aI x2), some (aI 0), some (aI 0)] [] M Q) :
    aE s1_G d 16 0 [] [some (aP 62), some (aI x1), some (aI x2), none, none] [] M Q := aE_go s1_pu_ok [(5, [true, true, true, true, true])] 68 hd h

set_option maxRecDepth 100000 in
set_option maxHeartbeats 4000000 in
theorem s1_Changes_rowOf_5 {d : Nat} (hd : 3 < d) {M : AM} {Q : Option AV → AM → Prop} {x1 x2 x3 x4 : Int}
    (h : ((M 62 6) ≤ x4 → Q (some (aI (-1))) M) ∧ (x4 < (M 62 6) → (0 ≤ x4 ∧ x4 < 300) ∧ (((M 66 x4) ≠ x1 → aE s1_G d 16 5 [] [some (aP 62), some (aI x1), some (aI x2), some (aI x3), some (aI (a_add x4 1))] [] M Q) ∧ ((M 66 x4) = x1 → (x3 ≠ x2 → aE s1_G d 16 5 [] [some (aP 62), some (aI x1), some (aI x2), some (aI (a_add x3 1)), some (aI (a_add x4 1))] [] M Q) ∧ (x3 = x2 → Q (some (aI x4)) M))))) :
    aE s1_G d 16 5 [] [some (aP 62), some (aI x1), some (aI x2), some (aI x3), some (aI x4)] [] M Q := aE_go s1_pu_ok [(5, [true, true, true, true, true])] 104 hd h

-- 17: DioceseBook$Changes.lastFall(II)I
set_option maxRecDepth 100000 in
set_option maxHeartbeats 4000000 in
theorem s1_Changes_lastFall_0 {d : Nat} (hd : 3 < d) {M : AM} {Q : Option AV → AM → Prop} {x1 x2 : Int}
    (h : aE s1_G d 17 7 [] [some (aP 62), some (aI x1), some (aI x2), some (aI (a_sub (M 62 6) 1))] [] M Q) :
    aE s1_G d 17 0 [] [some (aP 62), some (aI x1), some (aI x2), none] [] M Q := aE_go s1_pu_ok [(7, [true, true, true, true])] 70 hd h

set_option maxRecDepth 100000 in
set_option maxHeartbeats 4000000 in
theorem s1_Changes_lastFall_7 {d : Nat} (hd : 3 < d) {M : AM} {Q : Option AV → AM → Prop} {x1 x2 x3 : Int}
    (h : (x3 < (0 : Int) → Q (some (aI (-1))) M) ∧ ((0 : Int) ≤ x3 → (0 ≤ x3 ∧ x3 < 300) ∧ (((M 66 x3) ≠ x2 → aE s1_G d 17 7 [] [some (aP 62), some (aI x1), some (aI x2), some (aI (a_add x3 (-1)))] [] M Q) ∧ ((M 66 x3) = x2 → (0 ≤ x3 ∧ x3 < 300) ∧ (((M 67 x3) ≠ x1 → aE s1_G d 17 7 [] [some (aP 62), some (aI x1), some (aI x2), some (aI (a_add x3 (-1)))] [] M Q) ∧ ((M 67 x3) = x1 → (0 ≤ x3 ∧ x3 < 300) ∧ (((M 68 x3) = (0 : Int) → aE s1_G d 17 7 [] [some (aP 62), some (aI x1), some (aI x2), some (aI (a_add x3 (-1)))] [] M Q) ∧ ((M 68 x3) ≠ (0 : Int) → (0 ≤ x3 ∧ x3 < 300) ∧ (Q (some (aI (M 63 x3))) M))))))))) :
    aE s1_G d 17 7 [] [some (aP 62), some (aI x1), some (aI x2), some (aI x3)] [] M Q := aE_go s1_pu_ok [(7, [true, true, true, true])] 124 hd h

-- 18: DioceseBook$Changes.daysOf(IIII)I
set_option maxRecDepth 100000 in
set_option maxHeartbeats 4000000 in
theorem s1_Changes_daysOf_0 {d : Nat} (hd : 3 < d) {M : AM} {Q : Option AV → AM → Prop} {x1 x2 x3 x4 : Int}
    (h : aE s1_G d 18 12 [] [some (aP 62), some (aI x1), some (aI x2), some (aI x3), some (aI x4), some (aI 0), some (aI 0), some (aI 0), some (aI 0)] [] M Q) :
    aE s1_G d 18 0 [] [some (aP 62), some (aI x1), some (aI x2), some (aI x3), some (aI x4), none, none, none, none] [] M Q := aE_go s1_pu_ok [(12, [true, true, true, true, true, true, true, true, true])] 76 hd h

set_option maxRecDepth 100000 in
set_option maxHeartbeats 4000000 in
theorem s1_Changes_daysOf_12 {d : Nat} (hd : 3 < d) {M : AM} {Q : Option AV → AM → Prop} {x1 x2 x3 x4 x5 x6 x7 x8 : Int}
    (h : ((M 62 6) ≤ x8 → (x7 ≠ x4 → Q (some (aI (a_add x5 0))) M) ∧ (x7 = x4 → aKi s1_G d 19 [aI x6, aI 30000, aI x2, aI x3] M (fun z2 M1 => Q (some (aI (a_add x5 z2))) M1))) ∧ (x8 < (M 62 6) → (0 ≤ x8 ∧ x8 < 300) ∧ (((M 66 x8) ≠ x1 → aE s1_G d 18 12 [] [some (aP 62), some (aI x1), some (aI x2), some (aI x3), some (aI x4), some (aI x5), some (aI x6), some (aI x7), some (aI (a_add x8 1))] [] M Q) ∧ ((M 66 x8) = x1 → (x7 ≠ x4 → (0 ≤ x8 ∧ x8 < 300) ∧ ((0 ≤ x8 ∧ x8 < 300) ∧ (aKi s1_G d 13 [aI (M 65 x8)] M (fun z4 M3 => aE s1_G d 18 12 [] [some (aP 62), some (aI x1), some (aI x2), some (aI x3), some (aI x4), some (aI (a_add x5 0)), some (aI (M 63 x8)), some (aI z4), some (aI (a_add x8 1))] [] M3 Q)))) ∧ (x7 = x4 → (0 ≤ x8 ∧ x8 < 300) ∧ (aKi s1_G d 19 [aI x6, aI (a_sub (M 63 x8) 1), aI x2, aI x3] M (fun z6 M5 => (0 ≤ x8 ∧ x8 < 300) ∧ ((0 ≤ x8 ∧ x8 < 300) ∧ (aKi s1_G d 13 [aI (M5 65 x8)] M5 (fun z8 M7 => aE s1_G d 18 12 [] [some (aP 62), some (aI x1), some (aI x2), some (aI x3), some (aI x4), some (aI (a_add x5 z6)), some (aI (M5 63 x8)), some (aI z8), some (aI (a_add x8 1))] [] M7 Q)))))))))) :
    aE s1_G d 18 12 [] [some (aP 62), some (aI x1), some (aI x2), some (aI x3), some (aI x4), some (aI x5), some (aI x6), some (aI x7), some (aI x8)] [] M Q := aE_go s1_pu_ok [(12, [true, true, true, true, true, true, true, true, true])] 206 hd h

-- 19: DioceseBook$Changes.common(IIII)I
set_option maxRecDepth 100000 in
set_option maxHeartbeats 4000000 in
theorem s1_Changes_common_0 {d : Nat} (hd : 3 < d) {M : AM} {Q : Option AV → AM → Prop} {x0 x1 x2 x3 : Int}
    (h : Q (some (aI (if (a_add (a_sub (if x1 ≤ x3 then x1 else x3) (if x2 ≤ x0 then x0 else x2)) 1) ≤ 0 then 0 else a_add (a_sub (if x1 ≤ x3 then x1 else x3) (if x2 ≤ x0 then x0 else x2)) 1))) M) :
    aE s1_G d 19 0 [] [some (aI x0), some (aI x1), some (aI x2), some (aI x3)] [] M Q := aE_go s1_pu_ok [] 84 hd h

-- 20: DioceseBook$Lives.add(IIIII)I
set_option maxRecDepth 100000 in
set_option maxHeartbeats 4000000 in
theorem s1_Lives_add_0 {d : Nat} (hd : 3 < d) {M : AM} {Q : Option AV → AM → Prop} {x1 x2 x3 x4 x5 : Int}
    (h : ((M 181 5) < (16 : Int) → (0 ≤ (M 181 5) ∧ (M 181 5) < 16) ∧ ((0 ≤ ((am_up M 182 (M 181 5) x1) 181 5) ∧ ((am_up M 182 (M 181 5) x1) 181 5) < 16) ∧ ((0 ≤ ((am_up (am_up M 182 (M 181 5) x1) 183 ((am_up M 182 (M 181 5) x1) 181 5) x2) 181 5) ∧ ((am_up (am_up M 182 (M 181 5) x1) 183 ((am_up M 182 (M 181 5) x1) 181 5) x2) 181 5) < 16) ∧ ((0 ≤ ((am_up (am_up (am_up M 182 (M 181 5) x1) 183 ((am_up M 182 (M 181 5) x1) 181 5) x2) 184 ((am_up (am_up M 182 (M 181 5) x1) 183 ((am_up M 182 (M 181 5) x1) 181 5) x2) 181 5) x3) 181 5) ∧ ((am_up (am_up (am_up M 182 (M 181 5) x1) 183 ((am_up M 182 (M 181 5) x1) 181 5) x2) 184 ((am_up (am_up M 182 (M 181 5) x1) 183 ((am_up M 182 (M 181 5) x1) 181 5) x2) 181 5) x3) 181 5) < 16) ∧ ((0 ≤ ((am_up (am_up (am_up (am_up M 182 (M 181 5) x1) 183 ((am_up M 182 (M 181 5) x1) 181 5) x2) 184 ((am_up (am_up M 182 (M 181 5) x1) 183 ((am_up M 182 (M 181 5) x1) 181 5) x2) 181 5) x3) 185 ((am_up (am_up (am_up M 182 (M 181 5) x1) 183 ((am_up M 182 (M 181 5) x1) 181 5) x2) 184 ((am_up (am_up M 182 (M 181 5) x1) 183 ((am_up M 182 (M 181 5) x1) 181 5) x2) 181 5) x3) 181 5) x4) 181 5) ∧ ((am_up (am_up (am_up (am_up M 182 (M 181 5) x1) 183 ((am_up M 182 (M 181 5) x1) 181 5) x2) 184 ((am_up (am_up M 182 (M 181 5) x1) 183 ((am_up M 182 (M 181 5) x1) 181 5) x2) 181 5) x3) 185 ((am_up (am_up (am_up M 182 (M 181 5) x1) 183 ((am_up M 182 (M 181 5) x1) 181 5) x2) 184 ((am_up (am_up M 182 (M 181 5) x1) 183 ((am_up M 182 (M 181 5) x1) 181 5) x2) 181 5) x3) 181 5) x4) 181 5) < 16) ∧ (((0 : Int) = 0 ∨ (0 : Int) = 1) ∧ (Q (some (aI ((am_up (am_up (am_up (am_up (am_up (am_up M 182 (M 181 5) x1) 183 ((am_up M 182 (M 181 5) x1) 181 5) x2) 184 ((am_up (am_up M 182 (M 181 5) x1) 183 ((am_up M 182 (M 181 5) x1) 181 5) x2) 181 5) x3) 185 ((am_up (am_up (am_up M 182 (M 181 5) x1) 183 ((am_up M 182 (M 181 5) x1) 181 5) x2) 184 ((am_up (am_up M 182 (M 181 5) x1) 183 ((am_up M 182 (M 181 5) x1) 181 5) x2) 181 5) x3) 181 5) x4) 186 ((am_up (am_up (am_up (am_up M 182 (M 181 5) x1) 183 ((am_up M 182 (M 181 5) x1) 181 5) x2) 184 ((am_up (am_up M 182 (M 181 5) x1) 183 ((am_up M 182 (M 181 5) x1) 181 5) x2) 181 5) x3) 185 ((am_up (am_up (am_up M 182 (M 181 5) x1) 183 ((am_up M 182 (M 181 5) x1) 181 5) x2) 184 ((am_up (am_up M 182 (M 181 5) x1) 183 ((am_up M 182 (M 181 5) x1) 181 5) x2) 181 5) x3) 181 5) x4) 181 5) x5) 181 8 0) 181 5))) (am_up (am_up (am_up (am_up (am_up (am_up (am_up M 182 (M 181 5) x1) 183 ((am_up M 182 (M 181 5) x1) 181 5) x2) 184 ((am_up (am_up M 182 (M 181 5) x1) 183 ((am_up M 182 (M 181 5) x1) 181 5) x2) 181 5) x3) 185 ((am_up (am_up (am_up M 182 (M 181 5) x1) 183 ((am_up M 182 (M 181 5) x1) 181 5) x2) 184 ((am_up (am_up M 182 (M 181 5) x1) 183 ((am_up M 182 (M 181 5) x1) 181 5) x2) 181 5) x3) 181 5) x4) 186 ((am_up (am_up (am_up (am_up M 182 (M 181 5) x1) 183 ((am_up M 182 (M 181 5) x1) 181 5) x2) 184 ((am_up (am_up M 182 (M 181 5) x1) 183 ((am_up M 182 (M 181 5) x1) 181 5) x2) 181 5) x3) 185 ((am_up (am_up (am_up M 182 (M 181 5) x1) 183 ((am_up M 182 (M 181 5) x1) 181 5) x2) 184 ((am_up (am_up M 182 (M 181 5) x1) 183 ((am_up M 182 (M 181 5) x1) 181 5) x2) 181 5) x3) 181 5) x4) 181 5) x5) 181 8 0) 181 5 (a_add ((am_up (am_up (am_up (am_up (am_up (am_up M 182 (M 181 5) x1) 183 ((am_up M 182 (M 181 5) x1) 181 5) x2) 184 ((am_up (am_up M 182 (M 181 5) x1) 183 ((am_up M 182 (M 181 5) x1) 181 5) x2) 181 5) x3) 185 ((am_up (am_up (am_up M 182 (M 181 5) x1) 183 ((am_up M 182 (M 181 5) x1) 181 5) x2) 184 ((am_up (am_up M 182 (M 181 5) x1) 183 ((am_up M 182 (M 181 5) x1) 181 5) x2) 181 5) x3) 181 5) x4) 186 ((am_up (am_up (am_up (am_up M 182 (M 181 5) x1) 183 ((am_up M 182 (M 181 5) x1) 181 5) x2) 184 ((am_up (am_up M 182 (M 181 5) x1) 183 ((am_up M 182 (M 181 5) x1) 181 5) x2) 181 5) x3) 185 ((am_up (am_up (am_up M 182 (M 181 5) x1) 183 ((am_up M 182 (M 181 5) x1) 181 5) x2) 184 ((am_up (am_up M 182 (M 181 5) x1) 183 ((am_up M 182 (M 181 5) x1) 181 5) x2) 181 5) x3) 181 5) x4) 181 5) x5) 181 8 0) 181 5) 1))))))))) ∧ ((16 : Int) ≤ (M 181 5) → Q (some (aI (-100004))) M)) :
    aE s1_G d 20 0 [] [some (aP 181), some (aI x1), some (aI x2), some (aI x3), some (aI x4), some (aI x5)] [] M Q := aE_go s1_pu_ok [] 154 hd h

-- 21: DioceseBook$Lives.isAhead(II)Z
set_option maxRecDepth 100000 in
set_option maxHeartbeats 4000000 in
theorem s1_Lives_isAhead_0 {d : Nat} (hd : 3 < d) {M : AM} {Q : Option AV → AM → Prop} {x1 x2 : Int}
    (h : (0 ≤ x1 ∧ x1 < 16) ∧ ((0 ≤ x2 ∧ x2 < 16) ∧ (((M 185 x1) ≠ (M 186 x2) → (0 ≤ x1 ∧ x1 < 16) ∧ ((0 ≤ x2 ∧ x2 < 16) ∧ (((M 185 x2) < (M 186 x1) → ((0 : Int) = 0 ∨ (0 : Int) = 1) ∧ Q (some (aI 0)) M) ∧ ((M 186 x1) ≤ (M 185 x2) → ((1 : Int) = 0 ∨ (1 : Int) = 1) ∧ Q (some (aI 1)) M)))) ∧ ((M 185 x1) = (M 186 x2) → (0 ≤ x1 ∧ x1 < 16) ∧ ((0 ≤ x2 ∧ x2 < 16) ∧ (((M 186 x1) ≠ (M 185 x2) → (0 ≤ x1 ∧ x1 < 16) ∧ ((0 ≤ x2 ∧ x2 < 16) ∧ (((M 185 x2) < (M 186 x1) → ((0 : Int) = 0 ∨ (0 : Int) = 1) ∧ Q (some (aI 0)) M) ∧ ((M 186 x1) ≤ (M 185 x2) → ((1 : Int) = 0 ∨ (1 : Int) = 1) ∧ Q (some (aI 1)) M)))) ∧ ((M 186 x1) = (M 185 x2) → (x2 ≤ x1 → ((0 : Int) = 0 ∨ (0 : Int) = 1) ∧ Q (some (aI 0)) M) ∧ (x1 < x2 → ((1 : Int) = 0 ∨ (1 : Int) = 1) ∧ Q (some (aI 1)) M)))))))) :
    aE s1_G d 21 0 [] [some (aP 181), some (aI x1), some (aI x2)] [] M Q := aE_go s1_pu_ok [] 168 hd h

-- 22: DioceseBook$Lives.joins(II)Z
set_option maxRecDepth 100000 in
set_option maxHeartbeats 4000000 in
theorem s1_Lives_joins_0 {d : Nat} (hd : 3 < d) {M : AM} {Q : Option AV → AM → Prop} {x1 x2 : Int}
    (h : (0 ≤ x1 ∧ x1 < 16) ∧ ((0 ≤ x2 ∧ x2 < 16) ∧ ((0 ≤ x1 ∧ x1 < 16) ∧ ((0 ≤ x2 ∧ x2 < 16) ∧ ((0 ≤ x1 ∧ x1 < 16) ∧ ((0 ≤ x2 ∧ x2 < 16) ∧ (((M 182 x1) ≠ (M 182 x2) → ((0 : Int) = 0 ∨ (0 : Int) = 1) ∧ Q (some (aI 0)) M) ∧ ((M 182 x1) = (M 182 x2) → aKi s1_G d 21 [aP 181, aI x1, aI x2] M (fun z2 M1 => (z2 = (0 : Int) → ((0 : Int) = 0 ∨ (0 : Int) = 1) ∧ Q (some (aI 0)) M1) ∧ (z2 ≠ (0 : Int) → (0 ≤ x2 ∧ x2 < 16) ∧ ((0 ≤ x1 ∧ x1 < 16) ∧ ((20 : Int) ≠ 0 ∧ (((a_sub (M1 185 x2) (M1 186 x1)) < (a_div (a_sub (a_add (a_add (if (a_sub (M 183 x1) (M 183 x2)) < 0 then a_neg (a_sub (M 183 x1) (M 183 x2)) else a_sub (M 183 x1) (M 183 x2)) (if (a_sub (M 184 x1) (M 184 x2)) < 0 then a_neg (a_sub (M 184 x1) (M 184 x2)) else a_sub (M 184 x1) (M 184 x2))) 20) 1) 20) → ((0 : Int) = 0 ∨ (0 : Int) = 1) ∧ Q (some (aI 0)) M1) ∧ ((a_div (a_sub (a_add (a_add (if (a_sub (M 183 x1) (M 183 x2)) < 0 then a_neg (a_sub (M 183 x1) (M 183 x2)) else a_sub (M 183 x1) (M 183 x2)) (if (a_sub (M 184 x1) (M 184 x2)) < 0 then a_neg (a_sub (M 184 x1) (M 184 x2)) else a_sub (M 184 x1) (M 184 x2))) 20) 1) 20) ≤ (a_sub (M1 185 x2) (M1 186 x1)) → ((1 : Int) = 0 ∨ (1 : Int) = 1) ∧ Q (some (aI 1)) M1)))))))))))))) :
    aE s1_G d 22 0 [] [some (aP 181), some (aI x1), some (aI x2), none] [] M Q := aE_go s1_pu_ok [] 184 hd h

-- 23: DioceseBook$Lives.join()V
set_option maxRecDepth 100000 in
set_option maxHeartbeats 4000000 in
theorem s1_Lives_join_0 {d : Nat} (hd : 3 < d) {M : AM} {Q : Option AV → AM → Prop}
    (h : ((M 181 8) = (0 : Int) → ((1 : Int) = 0 ∨ (1 : Int) = 1) ∧ (aE s1_G d 23 15 [] [some (aP 181), some (aI 0), none, none] [] (am_up M 181 8 1) Q)) ∧ ((M 181 8) ≠ (0 : Int) → Q none M)) :
    aE s1_G d 23 0 [] [some (aP 181), none, none, none] [] M Q := aE_go s1_pu_ok [(15, [true, true, false, false]), (32, [true, true, true, false]), (98, [true, true, true, true])] 78 hd h

set_option maxRecDepth 100000 in
set_option maxHeartbeats 4000000 in
theorem s1_Lives_join_15 {d : Nat} (hd : 3 < d) {M : AM} {Q : Option AV → AM → Prop} {x1 : Int}
    (h : ((M 181 5) ≤ x1 → aKi s1_G d 25 [aP 181, aI 0, aI 0] M (fun z2 M1 => aE s1_G d 23 98 [] [some (aP 181), some (aI z2), some (aI 0), some (aI 0)] [] (am_up M1 181 6 (a_sub (M1 181 5) z2)) Q)) ∧ (x1 < (M 181 5) → (0 ≤ x1 ∧ x1 < 16) ∧ (aE s1_G d 23 32 [] [some (aP 181), some (aI x1), some (aI 0), none] [] (am_up M 188 x1 0) Q))) :
    aE s1_G d 23 15 [] [some (aP 181), some (aI x1), none, none] [] M Q := aE_go s1_pu_ok [(15, [true, true, false, false]), (32, [true, true, true, false]), (98, [true, true, true, true])] 112 hd h

set_option maxRecDepth 100000 in
set_option maxHeartbeats 4000000 in
theorem s1_Lives_join_32 {d : Nat} (hd : 3 < d) {M : AM} {Q : Option AV → AM → Prop} {x1 x2 : Int}
    (h : ((M 181 5) ≤ x2 → aE s1_G d 23 15 [] [some (aP 181), some (aI (a_add x1 1)), none, none] [] M Q) ∧ (x2 < (M 181 5) → (0 ≤ x1 ∧ x1 < 16) ∧ (aKi s1_G d 22 [aP 181, aI x1, aI x2] M (fun z2 M1 => (z2 = (0 : Int) → (0 ≤ x1 ∧ x1 < 16) ∧ (aE s1_G d 23 32 [] [some (aP 181), some (aI x1), some (aI (a_add x2 1)), none] [] (am_up M1 188 x1 (a_or (M 188 x1) 0)) Q)) ∧ (z2 ≠ (0 : Int) → (0 ≤ x1 ∧ x1 < 16) ∧ (aE s1_G d 23 32 [] [some (aP 181), some (aI x1), some (aI (a_add x2 1)), none] [] (am_up M1 188 x1 (a_or (M 188 x1) (a_shl 1 x2))) Q)))))) :
    aE s1_G d 23 32 [] [some (aP 181), some (aI x1), some (aI x2), none] [] M Q := aE_go s1_pu_ok [(15, [true, true, false, false]), (32, [true, true, true, false]), (98, [true, true, true, true])] 118 hd h

set_option maxRecDepth 100000 in
set_option maxHeartbeats 4000000 in
theorem s1_Lives_join_98 {d : Nat} (hd : 3 < d) {M : AM} {Q : Option AV → AM → Prop} {x1 x2 x3 : Int}
    (h : ((M 181 5) ≤ x3 → Q none M) ∧ (x3 < (M 181 5) → aKi s1_G d 24 [aP 181, aI x3, aI x2, aI x1] M (fun z2 M1 => (0 ≤ x3 ∧ x3 < 16) ∧ ((0 ≤ x3 ∧ x3 < 16) ∧ ((((am_up M1 187 x3 z2) 187 x3) = ((-1) : Int) → aE s1_G d 23 98 [] [some (aP 181), some (aI x1), some (aI x2), some (aI (a_add x3 1))] [] (am_up M1 187 x3 z2) Q) ∧ (((am_up M1 187 x3 z2) 187 x3) ≠ ((-1) : Int) → (0 ≤ x3 ∧ x3 < 16) ∧ (aE s1_G d 23 98 [] [some (aP 181), some (aI (a_add x1 (-1))), some (aI (a_or x2 (a_shl 1 ((am_up M1 187 x3 z2) 187 x3)))), some (aI (a_add x3 1))] [] (am_up M1 187 x3 z2) Q))))))) :
    aE s1_G d 23 98 [] [some (aP 181), some (aI x1), some (aI x2), some (aI x3)] [] M Q := aE_go s1_pu_ok [(15, [true, true, false, false]), (32, [true, true, true, false]), (98, [true, true, true, true])] 128 hd h

-- 24: DioceseBook$Lives.leastBehind(III)I
set_option maxRecDepth 100000 in
set_option maxHeartbeats 4000000 in
theorem s1_Lives_leastBehind_0 {d : Nat} (hd : 3 < d) {M : AM} {Q : Option AV → AM → Prop} {x1 x2 x3 : Int}
    (h : aE s1_G d 24 3 [] [some (aP 181), some (aI x1), some (aI x2), some (aI x3), some (aI 0)] [] M Q) :
    aE s1_G d 24 0 [] [some (aP 181), some (aI x1), some (aI x2), some (aI x3), none] [] M Q := aE_go s1_pu_ok [(3, [true, true, true, true, true])] 64 hd h

set_option maxRecDepth 100000 in
set_option maxHeartbeats 4000000 in
theorem s1_Lives_leastBehind_3 {d : Nat} (hd : 3 < d) {M : AM} {Q : Option AV → AM → Prop} {x1 x2 x3 x4 : Int}
    (h : ((M 181 5) ≤ x4 → Q (some (aI (-1))) M) ∧ (x4 < (M 181 5) → (0 ≤ x1 ∧ x1 < 16) ∧ (((a_and (a_and (M 188 x1) (a_xor x2 (-1))) (a_shl 1 x4)) = (0 : Int) → aE s1_G d 24 3 [] [some (aP 181), some (aI x1), some (aI x2), some (aI x3), some (aI (a_add x4 1))] [] M Q) ∧ ((a_and (a_and (M 188 x1) (a_xor x2 (-1))) (a_shl 1 x4)) ≠ (0 : Int) → aKi s1_G d 25 [aP 181, aI (a_add x1 1), aI (a_or x2 (a_shl 1 x4))] M (fun z2 M1 => (z2 ≠ (a_sub x3 1) → aE s1_G d 24 3 [] [some (aP 181), some (aI x1), some (aI x2), some (aI x3), some (aI (a_add x4 1))] [] M1 Q) ∧ (z2 = (a_sub x3 1) → Q (some (aI x4)) M1)))))) :
    aE s1_G d 24 3 [] [some (aP 181), some (aI x1), some (aI x2), some (aI x3), some (aI x4)] [] M Q := aE_go s1_pu_ok [(3, [true, true, true, true, true])] 138 hd h

-- 25: DioceseBook$Lives.mostLinks(II)I
set_option maxRecDepth 100000 in
set_option maxHeartbeats 4000000 in
theorem s1_Lives_mostLinks_0 {d : Nat} (hd : 3 < d) {M : AM} {Q : Option AV → AM → Prop} {x1 x2 : Int}
    (h : aE s1_G d 25 2 [] [some (aP 181), some (aI x1), some (aI x2), some (aI 0), none] [] M Q) :
    aE s1_G d 25 0 [] [some (aP 181), some (aI x1), some (aI x2), none, none] [] M Q := aE_go s1_pu_ok [(2, [true, true, true, true, false]), (28, [true, false, true, true, true])] 64 hd h

set_option maxRecDepth 100000 in
set_option maxHeartbeats 4000000 in
theorem s1_Lives_mostLinks_2 {d : Nat} (hd : 3 < d) {M : AM} {Q : Option AV → AM → Prop} {x1 x2 x3 : Int}
    (h : ((M 181 5) ≤ x3 → aE s1_G d 25 28 [] [some (aP 181), none, some (aI x2), some (aI 0), some (aI x1)] [] M Q) ∧ (x3 < (M 181 5) → (0 ≤ x3 ∧ x3 < 16) ∧ (aE s1_G d 25 2 [] [some (aP 181), some (aI x1), some (aI x2), some (aI (a_add x3 1)), none] [] (am_up M 189 x3 (-1)) Q))) :
    aE s1_G d 25 2 [] [some (aP 181), some (aI x1), some (aI x2), some (aI x3), none] [] M Q := aE_go s1_pu_ok [(2, [true, true, true, true, false]), (28, [true, false, true, true, true])] 90 hd h

set_option maxRecDepth 100000 in
set_option maxHeartbeats 4000000 in
theorem s1_Lives_mostLinks_28 {d : Nat} (hd : 3 < d) {M : AM} {Q : Option AV → AM → Prop} {x2 x3 x4 : Int}
    (h : ((M 181 5) ≤ x4 → Q (some (aI x3)) M) ∧ (x4 < (M 181 5) → aKi s1_G d 26 [aP 181, aI x4, aI 0] (am_up M 181 11 x2) (fun z2 M1 => (z2 = (0 : Int) → aE s1_G d 25 28 [] [some (aP 181), none, some (aI x2), some (aI x3), some (aI (a_add x4 1))] [] M1 Q) ∧ (z2 ≠ (0 : Int) → aE s1_G d 25 28 [] [some (aP 181), none, some (aI x2), some (aI (a_add x3 1)), some (aI (a_add x4 1))] [] M1 Q)))) :
    aE s1_G d 25 28 [] [some (aP 181), none, some (aI x2), some (aI x3), some (aI x4)] [] M Q := aE_go s1_pu_ok [(2, [true, true, true, true, false]), (28, [true, false, true, true, true])] 98 hd h

-- 26: DioceseBook$Lives.link(II)Z
set_option maxRecDepth 100000 in
set_option maxHeartbeats 4000000 in
theorem s1_Lives_link_0 {d : Nat} (hd : 3 < d) {M : AM} {Q : Option AV → AM → Prop} {x1 x2 : Int}
    (h : aE s1_G d 26 2 [] [some (aP 181), some (aI x1), some (aI x2), some (aI 0)] [] M Q) :
    aE s1_G d 26 0 [] [some (aP 181), some (aI x1), some (aI x2), none] [] M Q := aE_go s1_pu_ok [(2, [true, true, true, true])] 64 hd h

set_option maxRecDepth 100000 in
set_option maxHeartbeats 4000000 in
theorem s1_Lives_link_2 {d : Nat} (hd : 3 < d) {M : AM} {Q : Option AV → AM → Prop} {x1 x2 x3 : Int}
    (h : ((M 181 5) ≤ x3 → ((0 : Int) = 0 ∨ (0 : Int) = 1) ∧ Q (some (aI 0)) M) ∧ (x3 < (M 181 5) → ((16 : Int) < x2 → ((0 : Int) = 0 ∨ (0 : Int) = 1) ∧ Q (some (aI 0)) M) ∧ (x2 ≤ (16 : Int) → (0 ≤ x1 ∧ x1 < 16) ∧ (((a_and (a_and (M 188 x1) (a_xor (M 181 11) (-1))) (a_shl 1 x3)) = (0 : Int) → aE s1_G d 26 2 [] [some (aP 181), some (aI x1), some (aI x2), some (aI (a_add x3 1))] [] M Q) ∧ ((a_and (a_and (M 188 x1) (a_xor (M 181 11) (-1))) (a_shl 1 x3)) ≠ (0 : Int) → (0 ≤ x3 ∧ x3 < 16) ∧ ((((am_up M 181 11 (a_or (M 181 11) (a_shl 1 x3))) 189 x3) = ((-1) : Int) → (0 ≤ x3 ∧ x3 < 16) ∧ (((1 : Int) = 0 ∨ (1 : Int) = 1) ∧ Q (some (aI 1)) (am_up (am_up M 181 11 (a_or (M 181 11) (a_shl 1 x3))) 189 x3 x1))) ∧ (((am_up M 181 11 (a_or (M 181 11) (a_shl 1 x3))) 189 x3) ≠ ((-1) : Int) → (0 ≤ x3 ∧ x3 < 16) ∧ (aKi s1_G d 26 [aP 181, aI ((am_up M 181 11 (a_or (M 181 11) (a_shl 1 x3))) 189 x3), aI (a_add x2 1)] (am_up M 181 11 (a_or (M 181 11) (a_shl 1 x3))) (fun z2 M1 => (z2 = (0 : Int) → aE s1_G d 26 2 [] [some (aP 181), some (aI x1), some (aI x2), some (aI (a_add x3 1))] [] M1 Q) ∧ (z2 ≠ (0 : Int) → (0 ≤ x3 ∧ x3 < 16) ∧ (((1 : Int) = 0 ∨ (1 : Int) = 1) ∧ Q (some (aI 1)) (am_up M1 189 x3 x1)))))))))))) :
    aE s1_G d 26 2 [] [some (aP 181), some (aI x1), some (aI x2), some (aI x3)] [] M Q := aE_go s1_pu_ok [(2, [true, true, true, true])] 194 hd h

-- 27: DioceseBook$Papers.hasLiving(I)Z
set_option maxRecDepth 100000 in
set_option maxHeartbeats 4000000 in
theorem s1_Papers_hasLiving_0 {d : Nat} (hd : 3 < d) {M : AM} {Q : Option AV → AM → Prop} {x0 : Int}
    (h : ((a_bl (0 ≤ x0 ∧ x0 ≤ 12)) = (0 : Int) → ((0 : Int) = 0 ∨ (0 : Int) = 1) ∧ Q (some (aI 0)) M) ∧ ((a_bl (0 ≤ x0 ∧ x0 ≤ 12)) ≠ (0 : Int) → ((a_and (a_shr 3992 x0) 1) ≠ (1 : Int) → ((0 : Int) = 0 ∨ (0 : Int) = 1) ∧ Q (some (aI 0)) M) ∧ ((a_and (a_shr 3992 x0) 1) = (1 : Int) → ((1 : Int) = 0 ∨ (1 : Int) = 1) ∧ Q (some (aI 1)) M))) :
    aE s1_G d 27 0 [] [some (aI x0)] [] M Q := aE_go s1_pu_ok [] 98 hd h

-- 28: DioceseBook$Papers.hasPerson(I)Z
set_option maxRecDepth 100000 in
set_option maxHeartbeats 4000000 in
theorem s1_Papers_hasPerson_0 {d : Nat} (hd : 3 < d) {M : AM} {Q : Option AV → AM → Prop} {x0 : Int}
    (h : ((a_bl (0 ≤ x0 ∧ x0 ≤ 9)) = 0 ∨ (a_bl (0 ≤ x0 ∧ x0 ≤ 9)) = 1) ∧ Q (some (aI (a_bl (0 ≤ x0 ∧ x0 ≤ 9)))) M) :
    aE s1_G d 28 0 [] [some (aI x0)] [] M Q := aE_go s1_pu_ok [] 70 hd h

-- 29: DioceseBook$Papers.hasOther(I)Z
set_option maxRecDepth 100000 in
set_option maxHeartbeats 4000000 in
theorem s1_Papers_hasOther_0 {d : Nat} (hd : 3 < d) {M : AM} {Q : Option AV → AM → Prop} {x0 : Int}
    (h : ((a_bl (0 ≤ x0 ∧ x0 ≤ 12)) = (0 : Int) → ((0 : Int) = 0 ∨ (0 : Int) = 1) ∧ Q (some (aI 0)) M) ∧ ((a_bl (0 ≤ x0 ∧ x0 ≤ 12)) ≠ (0 : Int) → ((a_and (a_shr 712 x0) 1) ≠ (1 : Int) → ((0 : Int) = 0 ∨ (0 : Int) = 1) ∧ Q (some (aI 0)) M) ∧ ((a_and (a_shr 712 x0) 1) = (1 : Int) → ((1 : Int) = 0 ∨ (1 : Int) = 1) ∧ Q (some (aI 1)) M))) :
    aE s1_G d 29 0 [] [some (aI x0)] [] M Q := aE_go s1_pu_ok [] 98 hd h

-- 30: DioceseBook$Papers.add(IIIIIII)I
set_option maxRecDepth 100000 in
set_option maxHeartbeats 4000000 in
theorem s1_Papers_add_0 {d : Nat} (hd : 3 < d) {M : AM} {Q : Option AV → AM → Prop} {x1 x2 x3 x4 x5 x6 x7 : Int}
    (h : (0 ≤ (M 6 7) ∧ (M 6 7) < 150) ∧ ((0 ≤ (M 6 7) ∧ (M 6 7) < 150) ∧ ((0 ≤ (M 6 7) ∧ (M 6 7) < 150) ∧ (aKi s1_G d 27 [aI x1] (am_up (am_up (am_up M 7 (M 6 7) x1) 8 (M 6 7) x2) 9 (M 6 7) x3) (fun z2 M1 => (z2 = (0 : Int) → (0 ≤ (M 6 7) ∧ (M 6 7) < 150) ∧ (aKi s1_G d 28 [aI x1] (am_up M1 10 (M 6 7) (-1)) (fun z4 M3 => (z4 = (0 : Int) → (0 ≤ (M 6 7) ∧ (M 6 7) < 150) ∧ (aKi s1_G d 29 [aI x1] (am_up M3 11 (M 6 7) (-1)) (fun z6 M5 => (z6 = (0 : Int) → (0 ≤ (M 6 7) ∧ (M 6 7) < 150) ∧ ((x1 = (11 : Int) → (0 ≤ (M 6 7) ∧ (M 6 7) < 150) ∧ (aE s1_G d 30 119 [] [some (aP 6), none, some (aI x2), none, none, none, none, none, some (aI (M 6 7)), some (aI (M 6 7))] [] (am_up (am_up M5 12 (M 6 7) (-1)) 13 (M 6 7) x7) Q)) ∧ (x1 ≠ (11 : Int) → (x1 ≠ (12 : Int) → (0 ≤ (M 6 7) ∧ (M 6 7) < 150) ∧ (aE s1_G d 30 119 [] [some (aP 6), none, some (aI x2), none, none, none, none, none, some (aI (M 6 7)), some (aI (M 6 7))] [] (am_up (am_up M5 12 (M 6 7) (-1)) 13 (M 6 7) (-1)) Q)) ∧ (x1 = (12 : Int) → (0 ≤ (M 6 7) ∧ (M 6 7) < 150) ∧ (aE s1_G d 30 119 [] [some (aP 6), none, some (aI x2), none, none, none, none, none, some (aI (M 6 7)), some (aI (M 6 7))] [] (am_up (am_up M5 12 (M 6 7) (-1)) 13 (M 6 7) x7) Q))))) ∧ (z6 ≠ (0 : Int) → (0 ≤ (M 6 7) ∧ (M 6 7) < 150) ∧ ((x1 = (11 : Int) → (0 ≤ (M 6 7) ∧ (M 6 7) < 150) ∧ (aE s1_G d 30 119 [] [some (aP 6), none, some (aI x2), none, none, none, none, none, some (aI (M 6 7)), some (aI (M 6 7))] [] (am_up (am_up M5 12 (M 6 7) x6) 13 (M 6 7) x7) Q)) ∧ (x1 ≠ (11 : Int) → (x1 ≠ (12 : Int) → (0 ≤ (M 6 7) ∧ (M 6 7) < 150) ∧ (aE s1_G d 30 119 [] [some (aP 6), none, some (aI x2), none, none, none, none, none, some (aI (M 6 7)), some (aI (M 6 7))] [] (am_up (am_up M5 12 (M 6 7) x6) 13 (M 6 7) (-1)) Q)) ∧ (x1 = (12 : Int) → (0 ≤ (M 6 7) ∧ (M 6 7) < 150) ∧ (aE s1_G d 30 119 [] [some (aP 6), none, some (aI x2), none, none, none, none, none, some (aI (M 6 7)), some (aI (M 6 7))] [] (am_up (am_up M5 12 (M 6 7) x6) 13 (M 6 7) x7) Q)))))))) ∧ (z4 ≠ (0 : Int) → (0 ≤ (M 6 7) ∧ (M 6 7) < 150) ∧ (aKi s1_G d 29 [aI x1] (am_up M3 11 (M 6 7) x5) (fun z8 M7 => (z8 = (0 : Int) → (0 ≤ (M 6 7) ∧ (M 6 7) < 150) ∧ ((x1 = (11 : Int) → (0 ≤ (M 6 7) ∧ (M 6 7) < 150) ∧ (aE s1_G d 30 119 [] [some (aP 6), none, some (aI x2), none, none, none, none, none, some (aI (M 6 7)), some (aI (M 6 7))] [] (am_up (am_up M7 12 (M 6 7) (-1)) 13 (M 6 7) x7) Q)) ∧ (x1 ≠ (11 : Int) → (x1 ≠ (12 : Int) → (0 ≤ (M 6 7) ∧ (M 6 7) < 150) ∧ (aE s1_G d 30 119 [] [some (aP 6), none, some (aI x2), none, none, none, none, none, some (aI (M 6 7)), some (aI (M 6 7))] [] (am_up (am_up M7 12 (M 6 7) (-1)) 13 (M 6 7) (-1)) Q)) ∧ (x1 = (12 : Int) → (0 ≤ (M 6 7) ∧ (M 6 7) < 150) ∧ (aE s1_G d 30 119 [] [some (aP 6), none, some (aI x2), none, none, none, none, none, some (aI (M 6 7)), some (aI (M 6 7))] [] (am_up (am_up M7 12 (M 6 7) (-1)) 13 (M 6 7) x7) Q))))) ∧ (z8 ≠ (0 : Int) → (0 ≤ (M 6 7) ∧ (M 6 7) < 150) ∧ ((x1 = (11 : Int) → (0 ≤ (M 6 7) ∧ (M 6 7) < 150) ∧ (aE s1_G d 30 119 [] [some (aP 6), none, some (aI x2), none, none, none, none, none, some (aI (M 6 7)), some (aI (M 6 7))] [] (am_up (am_up M7 12 (M 6 7) x6) 13 (M 6 7) x7) Q)) ∧ (x1 ≠ (11 : Int) → (x1 ≠ (12 : Int) → (0 ≤ (M 6 7) ∧ (M 6 7) < 150) ∧ (aE s1_G d 30 119 [] [some (aP 6), none, some (aI x2), none, none, none, none, none, some (aI (M 6 7)), some (aI (M 6 7))] [] (am_up (am_up M7 12 (M 6 7) x6) 13 (M 6 7) (-1)) Q)) ∧ (x1 = (12 : Int) → (0 ≤ (M 6 7) ∧ (M 6 7) < 150) ∧ (aE s1_G d 30 119 [] [some (aP 6), none, some (aI x2), none, none, none, none, none, some (aI (M 6 7)), some (aI (M 6 7))] [] (am_up (am_up M7 12 (M 6 7) x6) 13 (M 6 7) x7) Q))))))))))) ∧ (z2 ≠ (0 : Int) → (0 ≤ (M 6 7) ∧ (M 6 7) < 150) ∧ (aKi s1_G d 28 [aI x1] (am_up M1 10 (M 6 7) x4) (fun z10 M9 => (z10 = (0 : Int) → (0 ≤ (M 6 7) ∧ (M 6 7) < 150) ∧ (aKi s1_G d 29 [aI x1] (am_up M9 11 (M 6 7) (-1)) (fun z12 M11 => (z12 = (0 : Int) → (0 ≤ (M 6 7) ∧ (M 6 7) < 150) ∧ ((x1 = (11 : Int) → (0 ≤ (M 6 7) ∧ (M 6 7) < 150) ∧ (aE s1_G d 30 119 [] [some (aP 6), none, some (aI x2), none, none, none, none, none, some (aI (M 6 7)), some (aI (M 6 7))] [] (am_up (am_up M11 12 (M 6 7) (-1)) 13 (M 6 7) x7) Q)) ∧ (x1 ≠ (11 : Int) → (x1 ≠ (12 : Int) → (0 ≤ (M 6 7) ∧ (M 6 7) < 150) ∧ (aE s1_G d 30 119 [] [some (aP 6), none, some (aI x2), none, none, none, none, none, some (aI (M 6 7)), some (aI (M 6 7))] [] (am_up (am_up M11 12 (M 6 7) (-1)) 13 (M 6 7) (-1)) Q)) ∧ (x1 = (12 : Int) → (0 ≤ (M 6 7) ∧ (M 6 7) < 150) ∧ (aE s1_G d 30 119 [] [some (aP 6), none, some (aI x2), none, none, none, none, none, some (aI (M 6 7)), some (aI (M 6 7))] [] (am_up (am_up M11 12 (M 6 7) (-1)) 13 (M 6 7) x7) Q))))) ∧ (z12 ≠ (0 : Int) → (0 ≤ (M 6 7) ∧ (M 6 7) < 150) ∧ ((x1 = (11 : Int) → (0 ≤ (M 6 7) ∧ (M 6 7) < 150) ∧ (aE s1_G d 30 119 [] [some (aP 6), none, some (aI x2), none, none, none, none, none, some (aI (M 6 7)), some (aI (M 6 7))] [] (am_up (am_up M11 12 (M 6 7) x6) 13 (M 6 7) x7) Q)) ∧ (x1 ≠ (11 : Int) → (x1 ≠ (12 : Int) → (0 ≤ (M 6 7) ∧ (M 6 7) < 150) ∧ (aE s1_G d 30 119 [] [some (aP 6), none, some (aI x2), none, none, none, none, none, some (aI (M 6 7)), some (aI (M 6 7))] [] (am_up (am_up M11 12 (M 6 7) x6) 13 (M 6 7) (-1)) Q)) ∧ (x1 = (12 : Int) → (0 ≤ (M 6 7) ∧ (M 6 7) < 150) ∧ (aE s1_G d 30 119 [] [some (aP 6), none, some (aI x2), none, none, none, none, none, some (aI (M 6 7)), some (aI (M 6 7))] [] (am_up (am_up M11 12 (M 6 7) x6) 13 (M 6 7) x7) Q)))))))) ∧ (z10 ≠ (0 : Int) → (0 ≤ (M 6 7) ∧ (M 6 7) < 150) ∧ (aKi s1_G d 29 [aI x1] (am_up M9 11 (M 6 7) x5) (fun z14 M13 => (z14 = (0 : Int) → (0 ≤ (M 6 7) ∧ (M 6 7) < 150) ∧ ((x1 = (11 : Int) → (0 ≤ (M 6 7) ∧ (M 6 7) < 150) ∧ (aE s1_G d 30 119 [] [some (aP 6), none, some (aI x2), none, none, none, none, none, some (aI (M 6 7)), some (aI (M 6 7))] [] (am_up (am_up M13 12 (M 6 7) (-1)) 13 (M 6 7) x7) Q)) ∧ (x1 ≠ (11 : Int) → (x1 ≠ (12 : Int) → (0 ≤ (M 6 7) ∧ (M 6 7) < 150) ∧ (aE s1_G d 30 119 [] [some (aP 6), none, some (aI x2), none, none, none, none, none, some (aI (M 6 7)), some (aI (M 6 7))] [] (am_up (am_up M13 12 (M 6 7) (-1)) 13 (M 6 7) (-1)) Q)) ∧ (x1 = (12 : Int) → (0 ≤ (M 6 7) ∧ (M 6 7) < 150) ∧ (aE s1_G d 30 119 [] [some (aP 6), none, some (aI x2), none, none, none, none, none, some (aI (M 6 7)), some (aI (M 6 7))] [] (am_up (am_up M13 12 (M 6 7) (-1)) 13 (M 6 7) x7) Q))))) ∧ (z14 ≠ (0 : Int) → (0 ≤ (M 6 7) ∧ (M 6 7) < 150) ∧ ((x1 = (11 : Int) → (0 ≤ (M 6 7) ∧ (M 6 7) < 150) ∧ (aE s1_G d 30 119 [] [some (aP 6), none, some (aI x2), none, none, none, none, none, some (aI (M 6 7)), some (aI (M 6 7))] [] (am_up (am_up M13 12 (M 6 7) x6) 13 (M 6 7) x7) Q)) ∧ (x1 ≠ (11 : Int) → (x1 ≠ (12 : Int) → (0 ≤ (M 6 7) ∧ (M 6 7) < 150) ∧ (aE s1_G d 30 119 [] [some (aP 6), none, some (aI x2), none, none, none, none, none, some (aI (M 6 7)), some (aI (M 6 7))] [] (am_up (am_up M13 12 (M 6 7) x6) 13 (M 6 7) (-1)) Q)) ∧ (x1 = (12 : Int) → (0 ≤ (M 6 7) ∧ (M 6 7) < 150) ∧ (aE s1_G d 30 119 [] [some (aP 6), none, some (aI x2), none, none, none, none, none, some (aI (M 6 7)), some (aI (M 6 7))] [] (am_up (am_up M13 12 (M 6 7) x6) 13 (M 6 7) x7) Q)))))))))))))))) :
    aE s1_G d 30 0 [] [some (aP 6), some (aI x1), some (aI x2), some (aI x3), some (aI x4), some (aI x5), some (aI x6), some (aI x7), none, none] [] M Q := aE_go s1_pu_ok [(119, [true, false, true, false, false, false, false, false, true, true])] 618 hd h

set_option maxRecDepth 100000 in
set_option maxHeartbeats 4000000 in
theorem s1_Papers_add_119 {d : Nat} (hd : 3 < d) {M : AM} {Q : Option AV → AM → Prop} {x2 x8 x9 : Int}
    (h : (x9 ≤ (0 : Int) → (0 ≤ x9 ∧ x9 < 150) ∧ (Q (some (aI x8)) (am_up (am_up (am_up M 14 x9 x8) 6 7 (a_add ((am_up M 14 x9 x8) 6 7) 1)) 6 9 (-1)))) ∧ ((0 : Int) < x9 → (0 ≤ (a_sub x9 1) ∧ (a_sub x9 1) < 150) ∧ ((0 ≤ (M 14 (a_sub x9 1)) ∧ (M 14 (a_sub x9 1)) < 150) ∧ (((M 8 (M 14 (a_sub x9 1))) ≤ x2 → (0 ≤ x9 ∧ x9 < 150) ∧ (Q (some (aI x8)) (am_up (am_up (am_up M 14 x9 x8) 6 7 (a_add ((am_up M 14 x9 x8) 6 7) 1)) 6 9 (-1)))) ∧ (x2 < (M 8 (M 14 (a_sub x9 1))) → (0 ≤ (a_sub x9 1) ∧ (a_sub x9 1) < 150) ∧ ((0 ≤ x9 ∧ x9 < 150) ∧ (aE s1_G d 30 119 [] [some (aP 6), none, some (aI x2), none, none, none, none, none, some (aI x8), some (aI (a_add x9 (-1)))] [] (am_up M 14 x9 (M 14 (a_sub x9 1))) Q))))))) :
    aE s1_G d 30 119 [] [some (aP 6), none, some (aI x2), none, none, none, none, none, some (aI x8), some (aI x9)] [] M Q := aE_go s1_pu_ok [(119, [true, false, true, false, false, false, false, false, true, true])] 174 hd h

-- 31: DioceseBook$Papers.open(I)V
set_option maxRecDepth 100000 in
set_option maxHeartbeats 4000000 in
theorem s1_Papers_open_0 {d : Nat} (hd : 3 < d) {M : AM} {Q : Option AV → AM → Prop} {x1 : Int}
    (h : ((M 6 9) ≠ x1 → aKv s1_G d 32 [aP 6, aI x1] (am_up M 6 9 x1) (fun M1 => aE s1_G d 31 21 [] [some (aP 6), none, some (aI 0), none] [] M1 Q)) ∧ ((M 6 9) = x1 → Q none M)) :
    aE s1_G d 31 0 [] [some (aP 6), some (aI x1), none, none] [] M Q := aE_go s1_pu_ok [(21, [true, false, true, false]), (28, [true, false, true, true]), (62, [true, false, true, false])] 86 hd h

set_option maxRecDepth 100000 in
set_option maxHeartbeats 4000000 in
theorem s1_Papers_open_21 {d : Nat} (hd : 3 < d) {M : AM} {Q : Option AV → AM → Prop} {x2 : Int}
    (h : ((5 : Int) < x2 → aE s1_G d 31 62 [] [some (aP 6), none, some (aI 0), none] [] (am_up M 6 12 0) Q) ∧ (x2 ≤ (5 : Int) → aE s1_G d 31 28 [] [some (aP 6), none, some (aI x2), some (aI 0)] [] M Q)) :
    aE s1_G d 31 21 [] [some (aP 6), none, some (aI x2), none] [] M Q := aE_go s1_pu_ok [(21, [true, false, true, false]), (28, [true, false, true, true]), (62, [true, false, true, false])] 80 hd h

set_option maxRecDepth 100000 in
set_option maxHeartbeats 4000000 in
theorem s1_Papers_open_28 {d : Nat} (hd : 3 < d) {M : AM} {Q : Option AV → AM → Prop} {x2 x3 : Int}
    (h : ((40 : Int) ≤ x3 → aE s1_G d 31 21 [] [some (aP 6), none, some (aI (a_add x2 1)), none] [] M Q) ∧ (x3 < (40 : Int) → (0 ≤ x2 ∧ x2 < 6) ∧ ((0 ≤ x3 ∧ x3 < 40) ∧ (aE s1_G d 31 28 [] [some (aP 6), none, some (aI x2), some (aI (a_add x3 1))] [] (am_up M 17 (x2 * 40 + x3) (-1)) Q)))) :
    aE s1_G d 31 28 [] [some (aP 6), none, some (aI x2), some (aI x3)] [] M Q := aE_go s1_pu_ok [(21, [true, false, true, false]), (28, [true, false, true, true]), (62, [true, false, true, false])] 88 hd h

set_option maxRecDepth 100000 in
set_option maxHeartbeats 4000000 in
theorem s1_Papers_open_62 {d : Nat} (hd : 3 < d) {M : AM} {Q : Option AV → AM → Prop} {x2 : Int}
    (h : ((M 6 7) ≤ x2 → Q none M) ∧ (x2 < (M 6 7) → (0 ≤ x2 ∧ x2 < 150) ∧ (aKi s1_G d 34 [aP 6, aI (M 14 x2)] M (fun z2 M1 => (z2 = (0 : Int) → aE s1_G d 31 62 [] [some (aP 6), none, some (aI (a_add x2 1)), none] [] M1 Q) ∧ (z2 ≠ (0 : Int) → (0 ≤ (M1 6 12) ∧ (M1 6 12) < 150) ∧ ((0 ≤ (M 14 x2) ∧ (M 14 x2) < 150) ∧ (((5 : Int) < ((am_up (am_up M1 16 (M1 6 12) (M 14 x2)) 6 12 (a_add ((am_up M1 16 (M1 6 12) (M 14 x2)) 6 12) 1)) 7 (M 14 x2)) → aE s1_G d 31 62 [] [some (aP 6), none, some (aI (a_add x2 1)), none] [] (am_up (am_up M1 16 (M1 6 12) (M 14 x2)) 6 12 (a_add ((am_up M1 16 (M1 6 12) (M 14 x2)) 6 12) 1)) Q) ∧ (((am_up (am_up M1 16 (M1 6 12) (M 14 x2)) 6 12 (a_add ((am_up M1 16 (M1 6 12) (M 14 x2)) 6 12) 1)) 7 (M 14 x2)) ≤ (5 : Int) → (0 ≤ (M 14 x2) ∧ (M 14 x2) < 150) ∧ ((0 ≤ ((am_up (am_up M1 16 (M1 6 12) (M 14 x2)) 6 12 (a_add ((am_up M1 16 (M1 6 12) (M 14 x2)) 6 12) 1)) 7 (M 14 x2)) ∧ ((am_up (am_up M1 16 (M1 6 12) (M 14 x2)) 6 12 (a_add ((am_up M1 16 (M1 6 12) (M 14 x2)) 6 12) 1)) 7 (M 14 x2)) < 6) ∧ ((0 ≤ (M 14 x2) ∧ (M 14 x2) < 150) ∧ ((0 ≤ ((am_up (am_up M1 16 (M1 6 12) (M 14 x2)) 6 12 (a_add ((am_up M1 16 (M1 6 12) (M 14 x2)) 6 12) 1)) 11 (M 14 x2)) ∧ ((am_up (am_up M1 16 (M1 6 12) (M 14 x2)) 6 12 (a_add ((am_up M1 16 (M1 6 12) (M 14 x2)) 6 12) 1)) 11 (M 14 x2)) < 40) ∧ ((((am_up (am_up M1 16 (M1 6 12) (M 14 x2)) 6 12 (a_add ((am_up M1 16 (M1 6 12) (M 14 x2)) 6 12) 1)) 17 (((am_up (am_up M1 16 (M1 6 12) (M 14 x2)) 6 12 (a_add ((am_up M1 16 (M1 6 12) (M 14 x2)) 6 12) 1)) 7 (M 14 x2)) * 40 + ((am_up (am_up M1 16 (M1 6 12) (M 14 x2)) 6 12 (a_add ((am_up M1 16 (M1 6 12) (M 14 x2)) 6 12) 1)) 11 (M 14 x2)))) ≠ ((-1) : Int) → aE s1_G d 31 62 [] [some (aP 6), none, some (aI (a_add x2 1)), none] [] (am_up (am_up M1 16 (M1 6 12) (M 14 x2)) 6 12 (a_add ((am_up M1 16 (M1 6 12) (M 14 x2)) 6 12) 1)) Q) ∧ (((am_up (am_up M1 16 (M1 6 12) (M 14 x2)) 6 12 (a_add ((am_up M1 16 (M1 6 12) (M 14 x2)) 6 12) 1)) 17 (((am_up (am_up M1 16 (M1 6 12) (M 14 x2)) 6 12 (a_add ((am_up M1 16 (M1 6 12) (M 14 x2)) 6 12) 1)) 7 (M 14 x2)) * 40 + ((am_up (am_up M1 16 (M1 6 12) (M 14 x2)) 6 12 (a_add ((am_up M1 16 (M1 6 12) (M 14 x2)) 6 12) 1)) 11 (M 14 x2)))) = ((-1) : Int) → (0 ≤ (M 14 x2) ∧ (M 14 x2) < 150) ∧ ((0 ≤ ((am_up (am_up M1 16 (M1 6 12) (M 14 x2)) 6 12 (a_add ((am_up M1 16 (M1 6 12) (M 14 x2)) 6 12) 1)) 7 (M 14 x2)) ∧ ((am_up (am_up M1 16 (M1 6 12) (M 14 x2)) 6 12 (a_add ((am_up M1 16 (M1 6 12) (M 14 x2)) 6 12) 1)) 7 (M 14 x2)) < 6) ∧ ((0 ≤ (M 14 x2) ∧ (M 14 x2) < 150) ∧ ((0 ≤ (M 14 x2) ∧ (M 14 x2) < 150) ∧ ((0 ≤ ((am_up (am_up M1 16 (M1 6 12) (M 14 x2)) 6 12 (a_add ((am_up M1 16 (M1 6 12) (M 14 x2)) 6 12) 1)) 11 (M 14 x2)) ∧ ((am_up (am_up M1 16 (M1 6 12) (M 14 x2)) 6 12 (a_add ((am_up M1 16 (M1 6 12) (M 14 x2)) 6 12) 1)) 11 (M 14 x2)) < 40) ∧ (aE s1_G d 31 62 [] [some (aP 6), none, some (aI (a_add x2 1)), none] [] (am_up (am_up (am_up M1 16 (M1 6 12) (M 14 x2)) 6 12 (a_add ((am_up M1 16 (M1 6 12) (M 14 x2)) 6 12) 1)) 17 (((am_up (am_up M1 16 (M1 6 12) (M 14 x2)) 6 12 (a_add ((am_up M1 16 (M1 6 12) (M 14 x2)) 6 12) 1)) 7 (M 14 x2)) * 40 + ((am_up (am_up M1 16 (M1 6 12) (M 14 x2)) 6 12 (a_add ((am_up M1 16 (M1 6 12) (M 14 x2)) 6 12) 1)) 11 (M 14 x2))) ((am_up (am_up M1 16 (M1 6 12) (M 14 x2)) 6 12 (a_add ((am_up M1 16 (M1 6 12) (M 14 x2)) 6 12) 1)) 8 (M 14 x2))) Q)))))))))))))))))) :
    aE s1_G d 31 62 [] [some (aP 6), none, some (aI x2), none] [] M Q := aE_go s1_pu_ok [(21, [true, false, true, false]), (28, [true, false, true, true]), (62, [true, false, true, false])] 200 hd h

-- 32: DioceseBook$Papers.markVoid(I)V
set_option maxRecDepth 100000 in
set_option maxHeartbeats 4000000 in
theorem s1_Papers_markVoid_0 {d : Nat} (hd : 3 < d) {M : AM} {Q : Option AV → AM → Prop} {x1 : Int}
    (h : aE s1_G d 32 2 [] [some (aP 6), some (aI x1), some (aI 0)] [] M Q) :
    aE s1_G d 32 0 [] [some (aP 6), some (aI x1), none] [] M Q := aE_go s1_pu_ok [(2, [true, true, true]), (30, [true, true, true])] 64 hd h

set_option maxRecDepth 100000 in
set_option maxHeartbeats 4000000 in
theorem s1_Papers_markVoid_2 {d : Nat} (hd : 3 < d) {M : AM} {Q : Option AV → AM → Prop} {x1 x2 : Int}
    (h : ((M 6 7) ≤ x2 → aE s1_G d 32 30 [] [some (aP 6), some (aI x1), some (aI (a_sub (M 6 7) 1))] [] M Q) ∧ (x2 < (M 6 7) → (0 ≤ x2 ∧ x2 < 150) ∧ (((0 : Int) = 0 ∨ (0 : Int) = 1) ∧ (aE s1_G d 32 2 [] [some (aP 6), some (aI x1), some (aI (a_add x2 1))] [] (am_up M 15 x2 0) Q)))) :
    aE s1_G d 32 2 [] [some (aP 6), some (aI x1), some (aI x2)] [] M Q := aE_go s1_pu_ok [(2, [true, true, true]), (30, [true, true, true])] 92 hd h

set_option maxRecDepth 100000 in
set_option maxHeartbeats 4000000 in
theorem s1_Papers_markVoid_30 {d : Nat} (hd : 3 < d) {M : AM} {Q : Option AV → AM → Prop} {x1 x2 : Int}
    (h : (x2 < (0 : Int) → Q none M) ∧ ((0 : Int) ≤ x2 → (0 ≤ x2 ∧ x2 < 150) ∧ (((M 7 x2) ≠ (12 : Int) → aE s1_G d 32 30 [] [some (aP 6), some (aI x1), some (aI (a_add x2 (-1)))] [] M Q) ∧ ((M 7 x2) = (12 : Int) → (0 ≤ x2 ∧ x2 < 150) ∧ ((x1 < (M 9 x2) → aE s1_G d 32 30 [] [some (aP 6), some (aI x1), some (aI (a_add x2 (-1)))] [] M Q) ∧ ((M 9 x2) ≤ x1 → (0 ≤ x2 ∧ x2 < 150) ∧ (((M 15 x2) ≠ (0 : Int) → aE s1_G d 32 30 [] [some (aP 6), some (aI x1), some (aI (a_add x2 (-1)))] [] M Q) ∧ ((M 15 x2) = (0 : Int) → (0 ≤ x2 ∧ x2 < 150) ∧ ((0 ≤ (M 13 x2) ∧ (M 13 x2) < 150) ∧ (((1 : Int) = 0 ∨ (1 : Int) = 1) ∧ (aE s1_G d 32 30 [] [some (aP 6), some (aI x1), some (aI (a_add x2 (-1)))] [] (am_up M 15 (M 13 x2) 1) Q))))))))))) :
    aE s1_G d 32 30 [] [some (aP 6), some (aI x1), some (aI x2)] [] M Q := aE_go s1_pu_ok [(2, [true, true, true]), (30, [true, true, true])] 132 hd h

-- 33: DioceseBook$Papers.hadBy(III)Z
set_option maxRecDepth 100000 in
set_option maxHeartbeats 4000000 in
theorem s1_Papers_hadBy_0 {d : Nat} (hd : 3 < d) {M : AM} {Q : Option AV → AM → Prop} {x1 x2 x3 : Int}
    (h : (0 ≤ x1 ∧ x1 < 6) ∧ ((0 ≤ x2 ∧ x2 < 40) ∧ (((M 17 (x1 * 40 + x2)) = ((-1) : Int) → ((0 : Int) = 0 ∨ (0 : Int) = 1) ∧ Q (some (aI 0)) M) ∧ ((M 17 (x1 * 40 + x2)) ≠ ((-1) : Int) → (x3 < (M 17 (x1 * 40 + x2)) → ((0 : Int) = 0 ∨ (0 : Int) = 1) ∧ Q (some (aI 0)) M) ∧ ((M 17 (x1 * 40 + x2)) ≤ x3 → ((1 : Int) = 0 ∨ (1 : Int) = 1) ∧ Q (some (aI 1)) M))))) :
    aE s1_G d 33 0 [] [some (aP 6), some (aI x1), some (aI x2), some (aI x3), none] [] M Q := aE_go s1_pu_ok [] 100 hd h

-- 34: DioceseBook$Papers.isInBook(I)Z
set_option maxRecDepth 100000 in
set_option maxHeartbeats 4000000 in
theorem s1_Papers_isInBook_0 {d : Nat} (hd : 3 < d) {M : AM} {Q : Option AV → AM → Prop} {x1 : Int}
    (h : (0 ≤ x1 ∧ x1 < 150) ∧ (((M 6 9) < (M 9 x1) → ((0 : Int) = 0 ∨ (0 : Int) = 1) ∧ Q (some (aI 0)) M) ∧ ((M 9 x1) ≤ (M 6 9) → (0 ≤ x1 ∧ x1 < 150) ∧ (((M 15 x1) ≠ (0 : Int) → ((0 : Int) = 0 ∨ (0 : Int) = 1) ∧ Q (some (aI 0)) M) ∧ ((M 15 x1) = (0 : Int) → ((1 : Int) = 0 ∨ (1 : Int) = 1) ∧ Q (some (aI 1)) M))))) :
    aE s1_G d 34 0 [] [some (aP 6), some (aI x1)] [] M Q := aE_go s1_pu_ok [] 98 hd h

-- 35: DioceseBook$Papers.heirBy(II)I
set_option maxRecDepth 100000 in
set_option maxHeartbeats 4000000 in
theorem s1_Papers_heirBy_0 {d : Nat} (hd : 3 < d) {M : AM} {Q : Option AV → AM → Prop} {x1 x2 : Int}
    (h : aE s1_G d 35 7 [] [some (aP 6), some (aI x1), some (aI x2), some (aI (a_sub (M 6 12) 1)), none] [] M Q) :
    aE s1_G d 35 0 [] [some (aP 6), some (aI x1), some (aI x2), none, none] [] M Q := aE_go s1_pu_ok [(7, [true, true, true, true, false])] 70 hd h

set_option maxRecDepth 100000 in
set_option maxHeartbeats 4000000 in
theorem s1_Papers_heirBy_7 {d : Nat} (hd : 3 < d) {M : AM} {Q : Option AV → AM → Prop} {x1 x2 x3 : Int}
    (h : (x3 < (0 : Int) → Q (some (aI (-1))) M) ∧ ((0 : Int) ≤ x3 → (0 ≤ x3 ∧ x3 < 150) ∧ ((0 ≤ (M 16 x3) ∧ (M 16 x3) < 150) ∧ (((M 7 (M 16 x3)) ≠ (6 : Int) → aE s1_G d 35 7 [] [some (aP 6), some (aI x1), some (aI x2), some (aI (a_add x3 (-1))), none] [] M Q) ∧ ((M 7 (M 16 x3)) = (6 : Int) → (0 ≤ (M 16 x3) ∧ (M 16 x3) < 150) ∧ (((M 11 (M 16 x3)) ≠ x1 → aE s1_G d 35 7 [] [some (aP 6), some (aI x1), some (aI x2), some (aI (a_add x3 (-1))), none] [] M Q) ∧ ((M 11 (M 16 x3)) = x1 → (0 ≤ (M 16 x3) ∧ (M 16 x3) < 150) ∧ ((x2 < (M 8 (M 16 x3)) → aE s1_G d 35 7 [] [some (aP 6), some (aI x1), some (aI x2), some (aI (a_add x3 (-1))), none] [] M Q) ∧ ((M 8 (M 16 x3)) ≤ x2 → (0 ≤ (M 16 x3) ∧ (M 16 x3) < 150) ∧ (Q (some (aI (M 12 (M 16 x3)))) M)))))))))) :
    aE s1_G d 35 7 [] [some (aP 6), some (aI x1), some (aI x2), some (aI x3), none] [] M Q := aE_go s1_pu_ok [(7, [true, true, true, true, false])] 136 hd h

-- 36: DioceseBook$Papers.firstNotice(II)I
set_option maxRecDepth 100000 in
set_option maxHeartbeats 4000000 in
theorem s1_Papers_firstNotice_0 {d : Nat} (hd : 3 < d) {M : AM} {Q : Option AV → AM → Prop} {x1 x2 : Int}
    (h : aE s1_G d 36 2 [] [some (aP 6), some (aI x1), some (aI x2), some (aI 0), none] [] M Q) :
    aE s1_G d 36 0 [] [some (aP 6), some (aI x1), some (aI x2), none, none] [] M Q := aE_go s1_pu_ok [(2, [true, true, true, true, false])] 64 hd h

set_option maxRecDepth 100000 in
set_option maxHeartbeats 4000000 in
theorem s1_Papers_firstNotice_2 {d : Nat} (hd : 3 < d) {M : AM} {Q : Option AV → AM → Prop} {x1 x2 x3 : Int}
    (h : ((M 6 12) ≤ x3 → Q (some (aI (-1))) M) ∧ (x3 < (M 6 12) → (0 ≤ x3 ∧ x3 < 150) ∧ ((0 ≤ (M 16 x3) ∧ (M 16 x3) < 150) ∧ (((M 7 (M 16 x3)) ≠ (10 : Int) → aE s1_G d 36 2 [] [some (aP 6), some (aI x1), some (aI x2), some (aI (a_add x3 1)), none] [] M Q) ∧ ((M 7 (M 16 x3)) = (10 : Int) → (0 ≤ (M 16 x3) ∧ (M 16 x3) < 150) ∧ (((M 10 (M 16 x3)) ≠ x1 → aE s1_G d 36 2 [] [some (aP 6), some (aI x1), some (aI x2), some (aI (a_add x3 1)), none] [] M Q) ∧ ((M 10 (M 16 x3)) = x1 → (0 ≤ (M 16 x3) ∧ (M 16 x3) < 150) ∧ (((M 8 (M 16 x3)) < x2 → aE s1_G d 36 2 [] [some (aP 6), some (aI x1), some (aI x2), some (aI (a_add x3 1)), none] [] M Q) ∧ (x2 ≤ (M 8 (M 16 x3)) → (0 ≤ (M 16 x3) ∧ (M 16 x3) < 150) ∧ (Q (some (aI (M 8 (M 16 x3)))) M)))))))))) :
    aE s1_G d 36 2 [] [some (aP 6), some (aI x1), some (aI x2), some (aI x3), none] [] M Q := aE_go s1_pu_ok [(2, [true, true, true, true, false])] 140 hd h

-- 37: DioceseBook$Reader.append(I)V
set_option maxRecDepth 100000 in
set_option maxHeartbeats 4000000 in
theorem s1_Reader_append_0 {d : Nat} (hd : 3 < d) {M : AM} {Q : Option AV → AM → Prop} {x1 : Int}
    (h : ((200 : Int) ≤ (M 35 2) → Q none M) ∧ ((M 35 2) < (200 : Int) → (0 ≤ (M 35 2) ∧ (M 35 2) < 200) ∧ ((0 ≤ (a_i2c x1) ∧ (a_i2c x1) < 65536) ∧ (Q none (am_up (am_up M 36 (M 35 2) (a_i2c x1)) 35 2 (a_add ((am_up M 36 (M 35 2) (a_i2c x1)) 35 2) 1)))))) :
    aE s1_G d 37 0 [] [some (aP 35), some (aI x1)] [] M Q := aE_go s1_pu_ok [] 98 hd h

-- 38: DioceseBook$Reader.readText()I
set_option maxRecDepth 100000 in
set_option maxHeartbeats 4000000 in
theorem s1_Reader_readText_0 {d : Nat} (hd : 3 < d) {M : AM} {Q : Option AV → AM → Prop}
    (h : aKv s1_G d 0 [aP 24] (am_up (am_up (am_up M 35 5 0) 35 4 0) 35 3 (-1)) (fun M1 => aE s1_G d 38 24 [] [some (aP 35), some (aI 0), none, none] [] M1 Q)) :
    aE s1_G d 38 0 [] [some (aP 35), none, none, none] [] M Q := aE_go s1_pu_ok [(24, [true, true, false, false])] 88 hd h

set_option maxRecDepth 100000 in
set_option maxHeartbeats 4000000 in
theorem s1_Reader_readText_24 {d : Nat} (hd : 3 < d) {M : AM} {Q : Option AV → AM → Prop} {x1 : Int}
    (h : ((12 : Int) < x1 → Q (some (aI ((am_up M 35 2 0) 35 4))) (am_up M 35 2 0)) ∧ (x1 ≤ (12 : Int) → ((M 35 4) ≠ (0 : Int) → Q (some (aI ((am_up M 35 2 0) 35 4))) (am_up M 35 2 0)) ∧ ((M 35 4) = (0 : Int) → aKi s1_G d 39 [aP 35] M (fun z2 M1 => (z2 ≠ (0 : Int) → Q (some (aI ((am_up M1 35 2 0) 35 4))) (am_up M1 35 2 0)) ∧ (z2 = (0 : Int) → aKi s1_G d 51 [aP 35] M1 (fun z4 M3 => (z4 ≠ ((-1) : Int) → (x1 < (12 : Int) → (z4 ≠ (0 : Int) → (z4 ≠ (1 : Int) → aKv s1_G d 42 [aP 35] M3 (fun M5 => aE s1_G d 38 24 [] [some (aP 35), some (aI (a_add x1 1)), none, none] [] M5 Q)) ∧ (z4 = (1 : Int) → aKv s1_G d 43 [aP 35] M3 (fun M6 => aE s1_G d 38 24 [] [some (aP 35), some (aI (a_add x1 1)), none, none] [] M6 Q))) ∧ (z4 = (0 : Int) → aKv s1_G d 41 [aP 35] M3 (fun M7 => aE s1_G d 38 24 [] [some (aP 35), some (aI (a_add x1 1)), none, none] [] M7 Q))) ∧ ((12 : Int) ≤ x1 → aKv s1_G d 40 [aP 35, aI 4, aI (M1 35 5)] M3 (fun M8 => aE s1_G d 38 24 [] [some (aP 35), some (aI (a_add x1 1)), none, none] [] M8 Q))) ∧ (z4 = ((-1) : Int) → aKv s1_G d 40 [aP 35, aI 1, aI (M1 35 5)] M3 (fun M9 => aE s1_G d 38 24 [] [some (aP 35), some (aI (a_add x1 1)), none, none] [] M9 Q)))))))) :
    aE s1_G d 38 24 [] [some (aP 35), some (aI x1), none, none] [] M Q := aE_go s1_pu_ok [(24, [true, true, false, false])] 204 hd h

-- 39: DioceseBook$Reader.isAtEnd()Z
set_option maxRecDepth 100000 in
set_option maxHeartbeats 4000000 in
theorem s1_Reader_isAtEnd_0 {d : Nat} (hd : 3 < d) {M : AM} {Q : Option AV → AM → Prop}
    (h : aKv s1_G d 50 [aP 35] M (fun M1 => ((M1 35 5) < (M1 35 2) → ((0 : Int) = 0 ∨ (0 : Int) = 1) ∧ Q (some (aI 0)) M1) ∧ ((M1 35 2) ≤ (M1 35 5) → ((1 : Int) = 0 ∨ (1 : Int) = 1) ∧ Q (some (aI 1)) M1))) :
    aE s1_G d 39 0 [] [some (aP 35)] [] M Q := aE_go s1_pu_ok [] 84 hd h

-- 40: DioceseBook$Reader.fail(II)V
set_option maxRecDepth 100000 in
set_option maxHeartbeats 4000000 in
theorem s1_Reader_fail_0 {d : Nat} (hd : 3 < d) {M : AM} {Q : Option AV → AM → Prop} {x1 x2 : Int}
    (h : ((M 35 4) ≠ (0 : Int) → Q none M) ∧ ((M 35 4) = (0 : Int) → Q none (am_up (am_up M 35 4 x1) 35 3 x2))) :
    aE s1_G d 40 0 [] [some (aP 35), some (aI x1), some (aI x2)] [] M Q := aE_go s1_pu_ok [] 82 hd h

-- 41: DioceseBook$Reader.readLet()V
set_option maxRecDepth 100000 in
set_option maxHeartbeats 4000000 in
theorem s1_Reader_readLet_0 {d : Nat} (hd : 3 < d) {M : AM} {Q : Option AV → AM → Prop}
    (h : aKi s1_G d 52 [aP 35] M (fun z2 M1 => (z2 ≠ ((-1) : Int) → (0 ≤ z2 ∧ z2 < 8) ∧ (aKi s1_G d 46 [aP 35, aI (List.getD [24, 99, 999, 1, 1, 2, 999, 999] (Int.toNat z2) 0)] M1 (fun z4 M3 => aKv s1_G d 47 [aP 35, aI 59] M3 (fun M5 => aKv s1_G d 1 [aP 24, aI 0, aI z2, aI z4, aI 0] M5 (fun M6 => Q none M6))))) ∧ (z2 = ((-1) : Int) → aKv s1_G d 40 [aP 35, aI 1, aI (M1 35 5)] M1 (fun M7 => Q none M7)))) :
    aE s1_G d 41 0 [] [some (aP 35), none, none] [] M Q := aE_go s1_pu_ok [] 118 hd h

-- 42: DioceseBook$Reader.readStrike()V
set_option maxRecDepth 100000 in
set_option maxHeartbeats 4000000 in
theorem s1_Reader_readStrike_0 {d : Nat} (hd : 3 < d) {M : AM} {Q : Option AV → AM → Prop}
    (h : aKv s1_G d 50 [aP 35] M (fun M1 => aKi s1_G d 46 [aP 35, aI 9999] M1 (fun z3 M2 => (z3 < (M2 24 0) → aKv s1_G d 47 [aP 35, aI 59] M2 (fun M4 => aKv s1_G d 1 [aP 24, aI 2, aI z3, aI 0, aI 0] M4 (fun M5 => Q none M5))) ∧ ((M2 24 0) ≤ z3 → aKv s1_G d 40 [aP 35, aI 3, aI (M1 35 5)] M2 (fun M6 => aKv s1_G d 47 [aP 35, aI 59] M6 (fun M7 => aKv s1_G d 1 [aP 24, aI 2, aI z3, aI 0, aI 0] M7 (fun M8 => Q none M8))))))) :
    aE s1_G d 42 0 [] [some (aP 35), none, none] [] M Q := aE_go s1_pu_ok [] 140 hd h

-- 43: DioceseBook$Reader.readBar()V
set_option maxRecDepth 100000 in
set_option maxHeartbeats 4000000 in
theorem s1_Reader_readBar_0 {d : Nat} (hd : 3 < d) {M : AM} {Q : Option AV → AM → Prop}
    (h : aKi s1_G d 3 [aP 24] M (fun z2 M1 => aKv s1_G d 44 [aP 35, aI 0] M1 (fun M3 => aKi s1_G d 3 [aP 24] M3 (fun z5 M4 => aKi s1_G d 49 [aP 35, aS 0] M4 (fun z7 M6 => (z7 = (0 : Int) → aKv s1_G d 47 [aP 35, aI 59] M6 (fun M8 => aKi s1_G d 3 [aP 24] M8 (fun z10 M9 => aKv s1_G d 1 [aP 24, aI 1, aI z2, aI z5, aI z10] M9 (fun M11 => Q none M11)))) ∧ (z7 ≠ (0 : Int) → aKv s1_G d 44 [aP 35, aI 0] M6 (fun M12 => aKv s1_G d 47 [aP 35, aI 59] M12 (fun M13 => aKi s1_G d 3 [aP 24] M13 (fun z15 M14 => aKv s1_G d 1 [aP 24, aI 1, aI z2, aI z5, aI z15] M14 (fun M16 => Q none M16)))))))))) :
    aE s1_G d 43 0 [] [some (aP 35), none, none] [] M Q := aE_go s1_pu_ok [] 148 hd h

-- 44: DioceseBook$Reader.readTest(I)V
set_option maxRecDepth 100000 in
set_option maxHeartbeats 4000000 in
theorem s1_Reader_readTest_0 {d : Nat} (hd : 3 < d) {M : AM} {Q : Option AV → AM → Prop} {x1 : Int}
    (h : aE s1_G d 44 10 [] [some (aP 35), some (aI x1), some (aI 0), some (aI 0), some (aI 1), some (aI 0), none] [] M Q) :
    aE s1_G d 44 0 [] [some (aP 35), some (aI x1), none, none, none, none, none] [] M Q := aE_go s1_pu_ok [(10, [true, true, true, true, true, true, false]), (33, [true, true, true, true, true, true, true])] 76 hd h

set_option maxRecDepth 100000 in
set_option maxHeartbeats 4000000 in
theorem s1_Reader_readTest_10 {d : Nat} (hd : 3 < d) {M : AM} {Q : Option AV → AM → Prop} {x1 x2 x3 x4 x5 : Int}
    (h : ((200 : Int) ≤ x5 → Q none M) ∧ (x5 < (200 : Int) → ((M 35 4) ≠ (0 : Int) → Q none M) ∧ ((M 35 4) = (0 : Int) → (x4 = (0 : Int) → Q none M) ∧ (x4 ≠ (0 : Int) → aE s1_G d 44 33 [] [some (aP 35), some (aI x1), some (aI x2), some (aI x3), some (aI x4), some (aI x5), some (aI 0)] [] M Q)))) :
    aE s1_G d 44 10 [] [some (aP 35), some (aI x1), some (aI x2), some (aI x3), some (aI x4), some (aI x5), none] [] M Q := aE_go s1_pu_ok [(10, [true, true, true, true, true, true, false]), (33, [true, true, true, true, true, true, true])] 86 hd h

set_option maxRecDepth 100000 in
set_option maxHeartbeats 4000000 in
theorem s1_Reader_readTest_33 {d : Nat} (hd : 3 < d) {M : AM} {Q : Option AV → AM → Prop} {x1 x2 x3 x4 x5 x6 : Int}
    (h : ((200 : Int) ≤ x6 → aKi s1_G d 48 [aP 35, aI 40] M (fun z2 M1 => (z2 ≠ (0 : Int) → (x1 < (8 : Int) → aKv s1_G d 44 [aP 35, aI (a_add x1 1)] M1 (fun M3 => aKv s1_G d 47 [aP 35, aI 41] M3 (fun M4 => (2 : Int) ≠ 0 ∧ (((a_rem x6 2) ≠ (1 : Int) → (x2 = (0 : Int) → aKi s1_G d 49 [aP 35, aS 2] M4 (fun z6 M5 => (z6 ≠ (0 : Int) → aE s1_G d 44 10 [] [some (aP 35), some (aI x1), some (aI z6), some (aI x3), some (aI x4), some (aI (a_add x5 1)), none] [] M5 Q) ∧ (z6 = (0 : Int) → (x3 = (0 : Int) → aKi s1_G d 49 [aP 35, aS 3] M5 (fun z8 M7 => aE s1_G d 44 10 [] [some (aP 35), some (aI x1), some (aI z6), some (aI z8), some (aI z8), some (aI (a_add x5 1)), none] [] M7 Q)) ∧ (x3 ≠ (0 : Int) → aKv s1_G d 2 [aP 24, aI (-2)] M5 (fun M9 => aKi s1_G d 49 [aP 35, aS 3] M9 (fun z11 M10 => aE s1_G d 44 10 [] [some (aP 35), some (aI x1), some (aI z6), some (aI z11), some (aI z11), some (aI (a_add x5 1)), none] [] M10 Q)))))) ∧ (x2 ≠ (0 : Int) → aKv s1_G d 2 [aP 24, aI (-1)] M4 (fun M12 => aKi s1_G d 49 [aP 35, aS 2] M12 (fun z14 M13 => (z14 ≠ (0 : Int) → aE s1_G d 44 10 [] [some (aP 35), some (aI x1), some (aI z14), some (aI x3), some (aI x4), some (aI (a_add x5 1)), none] [] M13 Q) ∧ (z14 = (0 : Int) → (x3 = (0 : Int) → aKi s1_G d 49 [aP 35, aS 3] M13 (fun z16 M15 => aE s1_G d 44 10 [] [some (aP 35), some (aI x1), some (aI z14), some (aI z16), some (aI z16), some (aI (a_add x5 1)), none] [] M15 Q)) ∧ (x3 ≠ (0 : Int) → aKv s1_G d 2 [aP 24, aI (-2)] M13 (fun M17 => aKi s1_G d 49 [aP 35, aS 3] M17 (fun z19 M18 => aE s1_G d 44 10 [] [some (aP 35), some (aI x1), some (aI z14), some (aI z19), some (aI z19), some (aI (a_add x5 1)), none] [] M18 Q)))))))) ∧ ((a_rem x6 2) = (1 : Int) → aKv s1_G d 2 [aP 24, aI (-3)] M4 (fun M20 => (x2 = (0 : Int) → aKi s1_G d 49 [aP 35, aS 2] M20 (fun z22 M21 => (z22 ≠ (0 : Int) → aE s1_G d 44 10 [] [some (aP 35), some (aI x1), some (aI z22), some (aI x3), some (aI x4), some (aI (a_add x5 1)), none] [] M21 Q) ∧ (z22 = (0 : Int) → (x3 = (0 : Int) → aKi s1_G d 49 [aP 35, aS 3] M21 (fun z24 M23 => aE s1_G d 44 10 [] [some (aP 35), some (aI x1), some (aI z22), some (aI z24), some (aI z24), some (aI (a_add x5 1)), none] [] M23 Q)) ∧ (x3 ≠ (0 : Int) → aKv s1_G d 2 [aP 24, aI (-2)] M21 (fun M25 => aKi s1_G d 49 [aP 35, aS 3] M25 (fun z27 M26 => aE s1_G d 44 10 [] [some (aP 35), some (aI x1), some (aI z22), some (aI z27), some (aI z27), some (aI (a_add x5 1)), none] [] M26 Q)))))) ∧ (x2 ≠ (0 : Int) → aKv s1_G d 2 [aP 24, aI (-1)] M20 (fun M28 => aKi s1_G d 49 [aP 35, aS 2] M28 (fun z30 M29 => (z30 ≠ (0 : Int) → aE s1_G d 44 10 [] [some (aP 35), some (aI x1), some (aI z30), some (aI x3), some (aI x4), some (aI (a_add x5 1)), none] [] M29 Q) ∧ (z30 = (0 : Int) → (x3 = (0 : Int) → aKi s1_G d 49 [aP 35, aS 3] M29 (fun z32 M31 => aE s1_G d 44 10 [] [some (aP 35), some (aI x1), some (aI z30), some (aI z32), some (aI z32), some (aI (a_add x5 1)), none] [] M31 Q)) ∧ (x3 ≠ (0 : Int) → aKv s1_G d 2 [aP 24, aI (-2)] M29 (fun M33 => aKi s1_G d 49 [aP 35, aS 3] M33 (fun z35 M34 => aE s1_G d 44 10 [] [some (aP 35), some (aI x1), some (aI z30), some (aI z35), some (aI z35), some (aI (a_add x5 1)), none] [] M34 Q))))))))))))) ∧ ((8 : Int) ≤ x1 → aKv s1_G d 40 [aP 35, aI 5, aI (a_sub (M1 35 5) 1)] M1 (fun M36 => (2 : Int) ≠ 0 ∧ (((a_rem x6 2) ≠ (1 : Int) → (x2 = (0 : Int) → aKi s1_G d 49 [aP 35, aS 2] M36 (fun z38 M37 => (z38 ≠ (0 : Int) → aE s1_G d 44 10 [] [some (aP 35), some (aI x1), some (aI z38), some (aI x3), some (aI x4), some (aI (a_add x5 1)), none] [] M37 Q) ∧ (z38 = (0 : Int) → (x3 = (0 : Int) → aKi s1_G d 49 [aP 35, aS 3] M37 (fun z40 M39 => aE s1_G d 44 10 [] [some (aP 35), some (aI x1), some (aI z38), some (aI z40), some (aI z40), some (aI (a_add x5 1)), none] [] M39 Q)) ∧ (x3 ≠ (0 : Int) → aKv s1_G d 2 [aP 24, aI (-2)] M37 (fun M41 => aKi s1_G d 49 [aP 35, aS 3] M41 (fun z43 M42 => aE s1_G d 44 10 [] [some (aP 35), some (aI x1), some (aI z38), some (aI z43), some (aI z43), some (aI (a_add x5 1)), none] [] M42 Q)))))) ∧ (x2 ≠ (0 : Int) → aKv s1_G d 2 [aP 24, aI (-1)] M36 (fun M44 => aKi s1_G d 49 [aP 35, aS 2] M44 (fun z46 M45 => (z46 ≠ (0 : Int) → aE s1_G d 44 10 [] [some (aP 35), some (aI x1), some (aI z46), some (aI x3), some (aI x4), some (aI (a_add x5 1)), none] [] M45 Q) ∧ (z46 = (0 : Int) → (x3 = (0 : Int) → aKi s1_G d 49 [aP 35, aS 3] M45 (fun z48 M47 => aE s1_G d 44 10 [] [some (aP 35), some (aI x1), some (aI z46), some (aI z48), some (aI z48), some (aI (a_add x5 1)), none] [] M47 Q)) ∧ (x3 ≠ (0 : Int) → aKv s1_G d 2 [aP 24, aI (-2)] M45 (fun M49 => aKi s1_G d 49 [aP 35, aS 3] M49 (fun z51 M50 => aE s1_G d 44 10 [] [some (aP 35), some (aI x1), some (aI z46), some (aI z51), some (aI z51), some (aI (a_add x5 1)), none] [] M50 Q)))))))) ∧ ((a_rem x6 2) = (1 : Int) → aKv s1_G d 2 [aP 24, aI (-3)] M36 (fun M52 => (x2 = (0 : Int) → aKi s1_G d 49 [aP 35, aS 2] M52 (fun z54 M53 => (z54 ≠ (0 : Int) → aE s1_G d 44 10 [] [some (aP 35), some (aI x1), some (aI z54), some (aI x3), some (aI x4), some (aI (a_add x5 1)), none] [] M53 Q) ∧ (z54 = (0 : Int) → (x3 = (0 : Int) → aKi s1_G d 49 [aP 35, aS 3] M53 (fun z56 M55 => aE s1_G d 44 10 [] [some (aP 35), some (aI x1), some (aI z54), some (aI z56), some (aI z56), some (aI (a_add x5 1)), none] [] M55 Q)) ∧ (x3 ≠ (0 : Int) → aKv s1_G d 2 [aP 24, aI (-2)] M53 (fun M57 => aKi s1_G d 49 [aP 35, aS 3] M57 (fun z59 M58 => aE s1_G d 44 10 [] [some (aP 35), some (aI x1), some (aI z54), some (aI z59), some (aI z59), some (aI (a_add x5 1)), none] [] M58 Q)))))) ∧ (x2 ≠ (0 : Int) → aKv s1_G d 2 [aP 24, aI (-1)] M52 (fun M60 => aKi s1_G d 49 [aP 35, aS 2] M60 (fun z62 M61 => (z62 ≠ (0 : Int) → aE s1_G d 44 10 [] [some (aP 35), some (aI x1), some (aI z62), some (aI x3), some (aI x4), some (aI (a_add x5 1)), none] [] M61 Q) ∧ (z62 = (0 : Int) → (x3 = (0 : Int) → aKi s1_G d 49 [aP 35, aS 3] M61 (fun z64 M63 => aE s1_G d 44 10 [] [some (aP 35), some (aI x1), some (aI z62), some (aI z64), some (aI z64), some (aI (a_add x5 1)), none] [] M63 Q)) ∧ (x3 ≠ (0 : Int) → aKv s1_G d 2 [aP 24, aI (-2)] M61 (fun M65 => aKi s1_G d 49 [aP 35, aS 3] M65 (fun z67 M66 => aE s1_G d 44 10 [] [some (aP 35), some (aI x1), some (aI z62), some (aI z67), some (aI z67), some (aI (a_add x5 1)), none] [] M66 Q))))))))))))) ∧ (z2 = (0 : Int) → aKv s1_G d 45 [aP 35] M1 (fun M68 => (2 : Int) ≠ 0 ∧ (((a_rem x6 2) ≠ (1 : Int) → (x2 = (0 : Int) → aKi s1_G d 49 [aP 35, aS 2] M68 (fun z70 M69 => (z70 ≠ (0 : Int) → aE s1_G d 44 10 [] [some (aP 35), some (aI x1), some (aI z70), some (aI x3), some (aI x4), some (aI (a_add x5 1)), none] [] M69 Q) ∧ (z70 = (0 : Int) → (x3 = (0 : Int) → aKi s1_G d 49 [aP 35, aS 3] M69 (fun z72 M71 => aE s1_G d 44 10 [] [some (aP 35), some (aI x1), some (aI z70), some (aI z72), some (aI z72), some (aI (a_add x5 1)), none] [] M71 Q)) ∧ (x3 ≠ (0 : Int) → aKv s1_G d 2 [aP 24, aI (-2)] M69 (fun M73 => aKi s1_G d 49 [aP 35, aS 3] M73 (fun z75 M74 => aE s1_G d 44 10 [] [some (aP 35), some (aI x1), some (aI z70), some (aI z75), some (aI z75), some (aI (a_add x5 1)), none] [] M74 Q)))))) ∧ (x2 ≠ (0 : Int) → aKv s1_G d 2 [aP 24, aI (-1)] M68 (fun M76 => aKi s1_G d 49 [aP 35, aS 2] M76 (fun z78 M77 => (z78 ≠ (0 : Int) → aE s1_G d 44 10 [] [some (aP 35), some (aI x1), some (aI z78), some (aI x3), some (aI x4), some (aI (a_add x5 1)), none] [] M77 Q) ∧ (z78 = (0 : Int) → (x3 = (0 : Int) → aKi s1_G d 49 [aP 35, aS 3] M77 (fun z80 M79 => aE s1_G d 44 10 [] [some (aP 35), some (aI x1), some (aI z78), some (aI z80), some (aI z80), some (aI (a_add x5 1)), none] [] M79 Q)) ∧ (x3 ≠ (0 : Int) → aKv s1_G d 2 [aP 24, aI (-2)] M77 (fun M81 => aKi s1_G d 49 [aP 35, aS 3] M81 (fun z83 M82 => aE s1_G d 44 10 [] [some (aP 35), some (aI x1), some (aI z78), some (aI z83), some (aI z83), some (aI (a_add x5 1)), none] [] M82 Q)))))))) ∧ ((a_rem x6 2) = (1 : Int) → aKv s1_G d 2 [aP 24, aI (-3)] M68 (fun M84 => (x2 = (0 : Int) → aKi s1_G d 49 [aP 35, aS 2] M84 (fun z86 M85 => (z86 ≠ (0 : Int) → aE s1_G d 44 10 [] [some (aP 35), some (aI x1), some (aI z86), some (aI x3), some (aI x4), some (aI (a_add x5 1)), none] [] M85 Q) ∧ (z86 = (0 : Int) → (x3 = (0 : Int) → aKi s1_G d 49 [aP 35, aS 3] M85 (fun z88 M87 => aE s1_G d 44 10 [] [some (aP 35), some (aI x1), some (aI z86), some (aI z88), some (aI z88), some (aI (a_add x5 1)), none] [] M87 Q)) ∧ (x3 ≠ (0 : Int) → aKv s1_G d 2 [aP 24, aI (-2)] M85 (fun M89 => aKi s1_G d 49 [aP 35, aS 3] M89 (fun z91 M90 => aE s1_G d 44 10 [] [some (aP 35), some (aI x1), some (aI z86), some (aI z91), some (aI z91), some (aI (a_add x5 1)), none] [] M90 Q)))))) ∧ (x2 ≠ (0 : Int) → aKv s1_G d 2 [aP 24, aI (-1)] M84 (fun M92 => aKi s1_G d 49 [aP 35, aS 2] M92 (fun z94 M93 => (z94 ≠ (0 : Int) → aE s1_G d 44 10 [] [some (aP 35), some (aI x1), some (aI z94), some (aI x3), some (aI x4), some (aI (a_add x5 1)), none] [] M93 Q) ∧ (z94 = (0 : Int) → (x3 = (0 : Int) → aKi s1_G d 49 [aP 35, aS 3] M93 (fun z96 M95 => aE s1_G d 44 10 [] [some (aP 35), some (aI x1), some (aI z94), some (aI z96), some (aI z96), some (aI (a_add x5 1)), none] [] M95 Q)) ∧ (x3 ≠ (0 : Int) → aKv s1_G d 2 [aP 24, aI (-2)] M93 (fun M97 => aKi s1_G d 49 [aP 35, aS 3] M97 (fun z99 M98 => aE s1_G d 44 10 [] [some (aP 35), some (aI x1), some (aI z94), some (aI z99), some (aI z99), some (aI (a_add x5 1)), none] [] M98 Q)))))))))))))) ∧ (x6 < (200 : Int) → aKi s1_G d 49 [aP 35, aS 1] M (fun z101 M100 => (z101 = (0 : Int) → aKi s1_G d 48 [aP 35, aI 40] M100 (fun z103 M102 => (z103 ≠ (0 : Int) → (x1 < (8 : Int) → aKv s1_G d 44 [aP 35, aI (a_add x1 1)] M102 (fun M104 => aKv s1_G d 47 [aP 35, aI 41] M104 (fun M105 => (2 : Int) ≠ 0 ∧ (((a_rem x6 2) ≠ (1 : Int) → (x2 = (0 : Int) → aKi s1_G d 49 [aP 35, aS 2] M105 (fun z107 M106 => (z107 ≠ (0 : Int) → aE s1_G d 44 10 [] [some (aP 35), some (aI x1), some (aI z107), some (aI x3), some (aI x4), some (aI (a_add x5 1)), none] [] M106 Q) ∧ (z107 = (0 : Int) → (x3 = (0 : Int) → aKi s1_G d 49 [aP 35, aS 3] M106 (fun z109 M108 => aE s1_G d 44 10 [] [some (aP 35), some (aI x1), some (aI z107), some (aI z109), some (aI z109), some (aI (a_add x5 1)), none] [] M108 Q)) ∧ (x3 ≠ (0 : Int) → aKv s1_G d 2 [aP 24, aI (-2)] M106 (fun M110 => aKi s1_G d 49 [aP 35, aS 3] M110 (fun z112 M111 => aE s1_G d 44 10 [] [some (aP 35), some (aI x1), some (aI z107), some (aI z112), some (aI z112), some (aI (a_add x5 1)), none] [] M111 Q)))))) ∧ (x2 ≠ (0 : Int) → aKv s1_G d 2 [aP 24, aI (-1)] M105 (fun M113 => aKi s1_G d 49 [aP 35, aS 2] M113 (fun z115 M114 => (z115 ≠ (0 : Int) → aE s1_G d 44 10 [] [some (aP 35), some (aI x1), some (aI z115), some (aI x3), some (aI x4), some (aI (a_add x5 1)), none] [] M114 Q) ∧ (z115 = (0 : Int) → (x3 = (0 : Int) → aKi s1_G d 49 [aP 35, aS 3] M114 (fun z117 M116 => aE s1_G d 44 10 [] [some (aP 35), some (aI x1), some (aI z115), some (aI z117), some (aI z117), some (aI (a_add x5 1)), none] [] M116 Q)) ∧ (x3 ≠ (0 : Int) → aKv s1_G d 2 [aP 24, aI (-2)] M114 (fun M118 => aKi s1_G d 49 [aP 35, aS 3] M118 (fun z120 M119 => aE s1_G d 44 10 [] [some (aP 35), some (aI x1), some (aI z115), some (aI z120), some (aI z120), some (aI (a_add x5 1)), none] [] M119 Q)))))))) ∧ ((a_rem x6 2) = (1 : Int) → aKv s1_G d 2 [aP 24, aI (-3)] M105 (fun M121 => (x2 = (0 : Int) → aKi s1_G d 49 [aP 35, aS 2] M121 (fun z123 M122 => (z123 ≠ (0 : Int) → aE s1_G d 44 10 [] [some (aP 35), some (aI x1), some (aI z123), some (aI x3), some (aI x4), some (aI (a_add x5 1)), none] [] M122 Q) ∧ (z123 = (0 : Int) → (x3 = (0 : Int) → aKi s1_G d 49 [aP 35, aS 3] M122 (fun z125 M124 => aE s1_G d 44 10 [] [some (aP 35), some (aI x1), some (aI z123), some (aI z125), some (aI z125), some (aI (a_add x5 1)), none] [] M124 Q)) ∧ (x3 ≠ (0 : Int) → aKv s1_G d 2 [aP 24, aI (-2)] M122 (fun M126 => aKi s1_G d 49 [aP 35, aS 3] M126 (fun z128 M127 => aE s1_G d 44 10 [] [some (aP 35), some (aI x1), some (aI z123), some (aI z128), some (aI z128), some (aI (a_add x5 1)), none] [] M127 Q)))))) ∧ (x2 ≠ (0 : Int) → aKv s1_G d 2 [aP 24, aI (-1)] M121 (fun M129 => aKi s1_G d 49 [aP 35, aS 2] M129 (fun z131 M130 => (z131 ≠ (0 : Int) → aE s1_G d 44 10 [] [some (aP 35), some (aI x1), some (aI z131), some (aI x3), some (aI x4), some (aI (a_add x5 1)), none] [] M130 Q) ∧ (z131 = (0 : Int) → (x3 = (0 : Int) → aKi s1_G d 49 [aP 35, aS 3] M130 (fun z133 M132 => aE s1_G d 44 10 [] [some (aP 35), some (aI x1), some (aI z131), some (aI z133), some (aI z133), some (aI (a_add x5 1)), none] [] M132 Q)) ∧ (x3 ≠ (0 : Int) → aKv s1_G d 2 [aP 24, aI (-2)] M130 (fun M134 => aKi s1_G d 49 [aP 35, aS 3] M134 (fun z136 M135 => aE s1_G d 44 10 [] [some (aP 35), some (aI x1), some (aI z131), some (aI z136), some (aI z136), some (aI (a_add x5 1)), none] [] M135 Q))))))))))))) ∧ ((8 : Int) ≤ x1 → aKv s1_G d 40 [aP 35, aI 5, aI (a_sub (M102 35 5) 1)] M102 (fun M137 => (2 : Int) ≠ 0 ∧ (((a_rem x6 2) ≠ (1 : Int) → (x2 = (0 : Int) → aKi s1_G d 49 [aP 35, aS 2] M137 (fun z139 M138 => (z139 ≠ (0 : Int) → aE s1_G d 44 10 [] [some (aP 35), some (aI x1), some (aI z139), some (aI x3), some (aI x4), some (aI (a_add x5 1)), none] [] M138 Q) ∧ (z139 = (0 : Int) → (x3 = (0 : Int) → aKi s1_G d 49 [aP 35, aS 3] M138 (fun z141 M140 => aE s1_G d 44 10 [] [some (aP 35), some (aI x1), some (aI z139), some (aI z141), some (aI z141), some (aI (a_add x5 1)), none] [] M140 Q)) ∧ (x3 ≠ (0 : Int) → aKv s1_G d 2 [aP 24, aI (-2)] M138 (fun M142 => aKi s1_G d 49 [aP 35, aS 3] M142 (fun z144 M143 => aE s1_G d 44 10 [] [some (aP 35), some (aI x1), some (aI z139), some (aI z144), some (aI z144), some (aI (a_add x5 1)), none] [] M143 Q)))))) ∧ (x2 ≠ (0 : Int) → aKv s1_G d 2 [aP 24, aI (-1)] M137 (fun M145 => aKi s1_G d 49 [aP 35, aS 2] M145 (fun z147 M146 => (z147 ≠ (0 : Int) → aE s1_G d 44 10 [] [some (aP 35), some (aI x1), some (aI z147), some (aI x3), some (aI x4), some (aI (a_add x5 1)), none] [] M146 Q) ∧ (z147 = (0 : Int) → (x3 = (0 : Int) → aKi s1_G d 49 [aP 35, aS 3] M146 (fun z149 M148 => aE s1_G d 44 10 [] [some (aP 35), some (aI x1), some (aI z147), some (aI z149), some (aI z149), some (aI (a_add x5 1)), none] [] M148 Q)) ∧ (x3 ≠ (0 : Int) → aKv s1_G d 2 [aP 24, aI (-2)] M146 (fun M150 => aKi s1_G d 49 [aP 35, aS 3] M150 (fun z152 M151 => aE s1_G d 44 10 [] [some (aP 35), some (aI x1), some (aI z147), some (aI z152), some (aI z152), some (aI (a_add x5 1)), none] [] M151 Q)))))))) ∧ ((a_rem x6 2) = (1 : Int) → aKv s1_G d 2 [aP 24, aI (-3)] M137 (fun M153 => (x2 = (0 : Int) → aKi s1_G d 49 [aP 35, aS 2] M153 (fun z155 M154 => (z155 ≠ (0 : Int) → aE s1_G d 44 10 [] [some (aP 35), some (aI x1), some (aI z155), some (aI x3), some (aI x4), some (aI (a_add x5 1)), none] [] M154 Q) ∧ (z155 = (0 : Int) → (x3 = (0 : Int) → aKi s1_G d 49 [aP 35, aS 3] M154 (fun z157 M156 => aE s1_G d 44 10 [] [some (aP 35), some (aI x1), some (aI z155), some (aI z157), some (aI z157), some (aI (a_add x5 1)), none] [] M156 Q)) ∧ (x3 ≠ (0 : Int) → aKv s1_G d 2 [aP 24, aI (-2)] M154 (fun M158 => aKi s1_G d 49 [aP 35, aS 3] M158 (fun z160 M159 => aE s1_G d 44 10 [] [some (aP 35), some (aI x1), some (aI z155), some (aI z160), some (aI z160), some (aI (a_add x5 1)), none] [] M159 Q)))))) ∧ (x2 ≠ (0 : Int) → aKv s1_G d 2 [aP 24, aI (-1)] M153 (fun M161 => aKi s1_G d 49 [aP 35, aS 2] M161 (fun z163 M162 => (z163 ≠ (0 : Int) → aE s1_G d 44 10 [] [some (aP 35), some (aI x1), some (aI z163), some (aI x3), some (aI x4), some (aI (a_add x5 1)), none] [] M162 Q) ∧ (z163 = (0 : Int) → (x3 = (0 : Int) → aKi s1_G d 49 [aP 35, aS 3] M162 (fun z165 M164 => aE s1_G d 44 10 [] [some (aP 35), some (aI x1), some (aI z163), some (aI z165), some (aI z165), some (aI (a_add x5 1)), none] [] M164 Q)) ∧ (x3 ≠ (0 : Int) → aKv s1_G d 2 [aP 24, aI (-2)] M162 (fun M166 => aKi s1_G d 49 [aP 35, aS 3] M166 (fun z168 M167 => aE s1_G d 44 10 [] [some (aP 35), some (aI x1), some (aI z163), some (aI z168), some (aI z168), some (aI (a_add x5 1)), none] [] M167 Q))))))))))))) ∧ (z103 = (0 : Int) → aKv s1_G d 45 [aP 35] M102 (fun M169 => (2 : Int) ≠ 0 ∧ (((a_rem x6 2) ≠ (1 : Int) → (x2 = (0 : Int) → aKi s1_G d 49 [aP 35, aS 2] M169 (fun z171 M170 => (z171 ≠ (0 : Int) → aE s1_G d 44 10 [] [some (aP 35), some (aI x1), some (aI z171), some (aI x3), some (aI x4), some (aI (a_add x5 1)), none] [] M170 Q) ∧ (z171 = (0 : Int) → (x3 = (0 : Int) → aKi s1_G d 49 [aP 35, aS 3] M170 (fun z173 M172 => aE s1_G d 44 10 [] [some (aP 35), some (aI x1), some (aI z171), some (aI z173), some (aI z173), some (aI (a_add x5 1)), none] [] M172 Q)) ∧ (x3 ≠ (0 : Int) → aKv s1_G d 2 [aP 24, aI (-2)] M170 (fun M174 => aKi s1_G d 49 [aP 35, aS 3] M174 (fun z176 M175 => aE s1_G d 44 10 [] [some (aP 35), some (aI x1), some (aI z171), some (aI z176), some (aI z176), some (aI (a_add x5 1)), none] [] M175 Q)))))) ∧ (x2 ≠ (0 : Int) → aKv s1_G d 2 [aP 24, aI (-1)] M169 (fun M177 => aKi s1_G d 49 [aP 35, aS 2] M177 (fun z179 M178 => (z179 ≠ (0 : Int) → aE s1_G d 44 10 [] [some (aP 35), some (aI x1), some (aI z179), some (aI x3), some (aI x4), some (aI (a_add x5 1)), none] [] M178 Q) ∧ (z179 = (0 : Int) → (x3 = (0 : Int) → aKi s1_G d 49 [aP 35, aS 3] M178 (fun z181 M180 => aE s1_G d 44 10 [] [some (aP 35), some (aI x1), some (aI z179), some (aI z181), some (aI z181), some (aI (a_add x5 1)), none] [] M180 Q)) ∧ (x3 ≠ (0 : Int) → aKv s1_G d 2 [aP 24, aI (-2)] M178 (fun M182 => aKi s1_G d 49 [aP 35, aS 3] M182 (fun z184 M183 => aE s1_G d 44 10 [] [some (aP 35), some (aI x1), some (aI z179), some (aI z184), some (aI z184), some (aI (a_add x5 1)), none] [] M183 Q)))))))) ∧ ((a_rem x6 2) = (1 : Int) → aKv s1_G d 2 [aP 24, aI (-3)] M169 (fun M185 => (x2 = (0 : Int) → aKi s1_G d 49 [aP 35, aS 2] M185 (fun z187 M186 => (z187 ≠ (0 : Int) → aE s1_G d 44 10 [] [some (aP 35), some (aI x1), some (aI z187), some (aI x3), some (aI x4), some (aI (a_add x5 1)), none] [] M186 Q) ∧ (z187 = (0 : Int) → (x3 = (0 : Int) → aKi s1_G d 49 [aP 35, aS 3] M186 (fun z189 M188 => aE s1_G d 44 10 [] [some (aP 35), some (aI x1), some (aI z187), some (aI z189), some (aI z189), some (aI (a_add x5 1)), none] [] M188 Q)) ∧ (x3 ≠ (0 : Int) → aKv s1_G d 2 [aP 24, aI (-2)] M186 (fun M190 => aKi s1_G d 49 [aP 35, aS 3] M190 (fun z192 M191 => aE s1_G d 44 10 [] [some (aP 35), some (aI x1), some (aI z187), some (aI z192), some (aI z192), some (aI (a_add x5 1)), none] [] M191 Q)))))) ∧ (x2 ≠ (0 : Int) → aKv s1_G d 2 [aP 24, aI (-1)] M185 (fun M193 => aKi s1_G d 49 [aP 35, aS 2] M193 (fun z195 M194 => (z195 ≠ (0 : Int) → aE s1_G d 44 10 [] [some (aP 35), some (aI x1), some (aI z195), some (aI x3), some (aI x4), some (aI (a_add x5 1)), none] [] M194 Q) ∧ (z195 = (0 : Int) → (x3 = (0 : Int) → aKi s1_G d 49 [aP 35, aS 3] M194 (fun z197 M196 => aE s1_G d 44 10 [] [some (aP 35), some (aI x1), some (aI z195), some (aI z197), some (aI z197), some (aI (a_add x5 1)), none] [] M196 Q)) ∧ (x3 ≠ (0 : Int) → aKv s1_G d 2 [aP 24, aI (-2)] M194 (fun M198 => aKi s1_G d 49 [aP 35, aS 3] M198 (fun z200 M199 => aE s1_G d 44 10 [] [some (aP 35), some (aI x1), some (aI z195), some (aI z200), some (aI z200), some (aI (a_add x5 1)), none] [] M199 Q)))))))))))))) ∧ (z101 ≠ (0 : Int) → aE s1_G d 44 33 [] [some (aP 35), some (aI x1), some (aI x2), some (aI x3), some (aI x4), some (aI x5), some (aI (a_add x6 1))] [] M100 Q)))) :
    aE s1_G d 44 33 [] [some (aP 35), some (aI x1), some (aI x2), some (aI x3), some (aI x4), some (aI x5), some (aI x6)] [] M Q := aE_go s1_pu_ok [(10, [true, true, true, true, true, true, false]), (33, [true, true, true, true, true, true, true])] 1874 hd h

-- 45: DioceseBook$Reader.readComparison()V
set_option maxRecDepth 100000 in
set_option maxHeartbeats 4000000 in
theorem s1_Reader_readComparison_0 {d : Nat} (hd : 3 < d) {M : AM} {Q : Option AV → AM → Prop}
    (h : aKi s1_G d 53 [aP 35] M (fun z2 M1 => (z2 ≠ ((-1) : Int) → aKi s1_G d 54 [aP 35] M1 (fun z4 M3 => (z4 ≠ ((-1) : Int) → aKi s1_G d 46 [aP 35, aI 9999] M3 (fun z6 M5 => aKv s1_G d 2 [aP 24, aI (a_add (a_mul (a_add (a_mul z2 3) z4) 10000) z6)] M5 (fun M7 => Q none M7))) ∧ (z4 = ((-1) : Int) → aKv s1_G d 40 [aP 35, aI 1, aI (M3 35 5)] M3 (fun M8 => Q none M8)))) ∧ (z2 = ((-1) : Int) → aKv s1_G d 40 [aP 35, aI 1, aI (M1 35 5)] M1 (fun M9 => Q none M9)))) :
    aE s1_G d 45 0 [] [some (aP 35), none, none, none] [] M Q := aE_go s1_pu_ok [] 142 hd h

-- 46: DioceseBook$Reader.readNumber(I)I
set_option maxRecDepth 100000 in
set_option maxHeartbeats 4000000 in
theorem s1_Reader_readNumber_0 {d : Nat} (hd : 3 < d) {M : AM} {Q : Option AV → AM → Prop} {x1 : Int}
    (h : aKv s1_G d 50 [aP 35] M (fun M1 => aE s1_G d 46 11 [] [some (aP 35), some (aI x1), some (aI (M1 35 5)), some (aI 0)] [] M1 Q)) :
    aE s1_G d 46 0 [] [some (aP 35), some (aI x1), none, none] [] M Q := aE_go s1_pu_ok [(11, [true, true, true, true])] 74 hd h

set_option maxRecDepth 100000 in
set_option maxHeartbeats 4000000 in
theorem s1_Reader_readNumber_11 {d : Nat} (hd : 3 < d) {M : AM} {Q : Option AV → AM → Prop} {x1 x2 x3 : Int}
    (h : ((M 35 2) ≤ (M 35 5) → ((M 35 5) ≠ x2 → ((4 : Int) < (a_sub (M 35 5) x2) → aKv s1_G d 40 [aP 35, aI 2, aI x2] M (fun M1 => Q (some (aI x3)) M1)) ∧ ((a_sub (M 35 5) x2) ≤ (4 : Int) → (x3 ≤ x1 → Q (some (aI x3)) M) ∧ (x1 < x3 → aKv s1_G d 40 [aP 35, aI 2, aI x2] M (fun M2 => Q (some (aI x3)) M2)))) ∧ ((M 35 5) = x2 → aKv s1_G d 40 [aP 35, aI 1, aI x2] M (fun M3 => Q (some (aI x3)) M3))) ∧ ((M 35 5) < (M 35 2) → (0 ≤ (M 35 5) ∧ (M 35 5) < 200) ∧ (((M 36 (M 35 5)) < (48 : Int) → ((M 35 5) ≠ x2 → ((4 : Int) < (a_sub (M 35 5) x2) → aKv s1_G d 40 [aP 35, aI 2, aI x2] M (fun M4 => Q (some (aI x3)) M4)) ∧ ((a_sub (M 35 5) x2) ≤ (4 : Int) → (x3 ≤ x1 → Q (some (aI x3)) M) ∧ (x1 < x3 → aKv s1_G d 40 [aP 35, aI 2, aI x2] M (fun M5 => Q (some (aI x3)) M5)))) ∧ ((M 35 5) = x2 → aKv s1_G d 40 [aP 35, aI 1, aI x2] M (fun M6 => Q (some (aI x3)) M6))) ∧ ((48 : Int) ≤ (M 36 (M 35 5)) → (0 ≤ (M 35 5) ∧ (M 35 5) < 200) ∧ (((57 : Int) < (M 36 (M 35 5)) → ((M 35 5) ≠ x2 → ((4 : Int) < (a_sub (M 35 5) x2) → aKv s1_G d 40 [aP 35, aI 2, aI x2] M (fun M7 => Q (some (aI x3)) M7)) ∧ ((a_sub (M 35 5) x2) ≤ (4 : Int) → (x3 ≤ x1 → Q (some (aI x3)) M) ∧ (x1 < x3 → aKv s1_G d 40 [aP 35, aI 2, aI x2] M (fun M8 => Q (some (aI x3)) M8)))) ∧ ((M 35 5) = x2 → aKv s1_G d 40 [aP 35, aI 1, aI x2] M (fun M9 => Q (some (aI x3)) M9))) ∧ ((M 36 (M 35 5)) ≤ (57 : Int) → ((4 : Int) ≤ (a_sub (M 35 5) x2) → aE s1_G d 46 11 [] [some (aP 35), some (aI x1), some (aI x2), some (aI x3)] [] (am_up M 35 5 (a_add (M 35 5) 1)) Q) ∧ ((a_sub (M 35 5) x2) < (4 : Int) → (0 ≤ (M 35 5) ∧ (M 35 5) < 200) ∧ (aE s1_G d 46 11 [] [some (aP 35), some (aI x1), some (aI x2), some (aI (a_sub (a_add (a_mul 10 x3) (M 36 (M 35 5))) 48))] [] (am_up M 35 5 (a_add (M 35 5) 1)) Q)))))))) :
    aE s1_G d 46 11 [] [some (aP 35), some (aI x1), some (aI x2), some (aI x3)] [] M Q := aE_go s1_pu_ok [(11, [true, true, true, true])] 366 hd h

-- 47: DioceseBook$Reader.expect(C)V
set_option maxRecDepth 100000 in
set_option maxHeartbeats 4000000 in
theorem s1_Reader_expect_0 {d : Nat} (hd : 3 < d) {M : AM} {Q : Option AV → AM → Prop} {x1 : Int}
    (h : aKi s1_G d 48 [aP 35, aI x1] M (fun z2 M1 => (z2 ≠ (0 : Int) → Q none M1) ∧ (z2 = (0 : Int) → aKv s1_G d 40 [aP 35, aI 1, aI (M1 35 5)] M1 (fun M3 => Q none M3)))) :
    aE s1_G d 47 0 [] [some (aP 35), some (aI x1)] [] M Q := aE_go s1_pu_ok [] 82 hd h

-- 48: DioceseBook$Reader.takeSign(C)Z
set_option maxRecDepth 100000 in
set_option maxHeartbeats 4000000 in
theorem s1_Reader_takeSign_0 {d : Nat} (hd : 3 < d) {M : AM} {Q : Option AV → AM → Prop} {x1 : Int}
    (h : aKv s1_G d 50 [aP 35] M (fun M1 => ((M1 35 2) ≤ (M1 35 5) → ((0 : Int) = 0 ∨ (0 : Int) = 1) ∧ Q (some (aI 0)) M1) ∧ ((M1 35 5) < (M1 35 2) → (0 ≤ (M1 35 5) ∧ (M1 35 5) < 200) ∧ (((M1 36 (M1 35 5)) ≠ x1 → ((0 : Int) = 0 ∨ (0 : Int) = 1) ∧ Q (some (aI 0)) M1) ∧ ((M1 36 (M1 35 5)) = x1 → ((1 : Int) = 0 ∨ (1 : Int) = 1) ∧ Q (some (aI 1)) (am_up M1 35 5 (a_add (M1 35 5) 1))))))) :
    aE s1_G d 48 0 [] [some (aP 35), some (aI x1)] [] M Q := aE_go s1_pu_ok [] 112 hd h

-- 49: DioceseBook$Reader.takeWord(Ljava/lang/String;)Z
set_option maxRecDepth 100000 in
set_option maxHeartbeats 4000000 in
theorem s1_Reader_takeWord_0 {d : Nat} (hd : 3 < d) {M : AM} {Q : Option AV → AM → Prop} {x1 : Nat}
    (h : aKv s1_G d 50 [aP 35] M (fun M1 => aE s1_G d 49 9 [] [some (aP 35), some (aS x1), some (aI (M1 35 5)), none] [] M1 Q)) :
    aE s1_G d 49 0 [] [some (aP 35), some (aS x1), none, none] [] M Q := aE_go s1_pu_ok [(9, [true, true, true, false]), (62, [true, true, true, true])] 70 hd h

set_option maxRecDepth 100000 in
set_option maxHeartbeats 4000000 in
theorem s1_Reader_takeWord_9 {d : Nat} (hd : 3 < d) {M : AM} {Q : Option AV → AM → Prop} {x2 : Int} {x1 : Nat}
    (h : ((M 35 2) ≤ x2 → ((a_sub x2 (M 35 5)) = ((List.length (s1_st x1) : Nat) : Int) → aE s1_G d 49 62 [] [some (aP 35), some (aS x1), some (aI x2), some (aI 0)] [] M Q) ∧ ((a_sub x2 (M 35 5)) ≠ ((List.length (s1_st x1) : Nat) : Int) → ((0 : Int) = 0 ∨ (0 : Int) = 1) ∧ Q (some (aI 0)) M)) ∧ (x2 < (M 35 2) → (0 ≤ x2 ∧ x2 < 200) ∧ (((M 36 x2) < (97 : Int) → ((a_sub x2 (M 35 5)) = ((List.length (s1_st x1) : Nat) : Int) → aE s1_G d 49 62 [] [some (aP 35), some (aS x1), some (aI x2), some (aI 0)] [] M Q) ∧ ((a_sub x2 (M 35 5)) ≠ ((List.length (s1_st x1) : Nat) : Int) → ((0 : Int) = 0 ∨ (0 : Int) = 1) ∧ Q (some (aI 0)) M)) ∧ ((97 : Int) ≤ (M 36 x2) → (0 ≤ x2 ∧ x2 < 200) ∧ (((122 : Int) < (M 36 x2) → ((a_sub x2 (M 35 5)) = ((List.length (s1_st x1) : Nat) : Int) → aE s1_G d 49 62 [] [some (aP 35), some (aS x1), some (aI x2), some (aI 0)] [] M Q) ∧ ((a_sub x2 (M 35 5)) ≠ ((List.length (s1_st x1) : Nat) : Int) → ((0 : Int) = 0 ∨ (0 : Int) = 1) ∧ Q (some (aI 0)) M)) ∧ ((M 36 x2) ≤ (122 : Int) → aE s1_G d 49 9 [] [some (aP 35), some (aS x1), some (aI (a_add x2 1)), none] [] M Q)))))) :
    aE s1_G d 49 9 [] [some (aP 35), some (aS x1), some (aI x2), none] [] M Q := aE_go s1_pu_ok [(9, [true, true, true, false]), (62, [true, true, true, true])] 162 hd h

set_option maxRecDepth 100000 in
set_option maxHeartbeats 4000000 in
theorem s1_Reader_takeWord_62 {d : Nat} (hd : 3 < d) {M : AM} {Q : Option AV → AM → Prop} {x2 x3 : Int} {x1 : Nat}
    (h : (((List.length (s1_st x1) : Nat) : Int) ≤ x3 → ((1 : Int) = 0 ∨ (1 : Int) = 1) ∧ Q (some (aI 1)) (am_up M 35 5 x2)) ∧ (x3 < ((List.length (s1_st x1) : Nat) : Int) → (0 ≤ (a_add (M 35 5) x3) ∧ (a_add (M 35 5) x3) < 200) ∧ ((0 ≤ x3 ∧ x3 < ((List.length (s1_st x1) : Nat) : Int)) ∧ (((M 36 (a_add (M 35 5) x3)) = (List.getD (s1_st x1) (Int.toNat x3) 0) → aE s1_G d 49 62 [] [some (aP 35), some (aS x1), some (aI x2), some (aI (a_add x3 1))] [] M Q) ∧ ((M 36 (a_add (M 35 5) x3)) ≠ (List.getD (s1_st x1) (Int.toNat x3) 0) → ((0 : Int) = 0 ∨ (0 : Int) = 1) ∧ Q (some (aI 0)) M))))) :
    aE s1_G d 49 62 [] [some (aP 35), some (aS x1), some (aI x2), some (aI x3)] [] M Q := aE_go s1_pu_ok [(9, [true, true, true, false]), (62, [true, true, true, true])] 108 hd h

-- 50: DioceseBook$Reader.skipBlanks()V
set_option maxRecDepth 100000 in
set_option maxHeartbeats 4000000 in
theorem s1_Reader_skipBlanks_0 {d : Nat} (hd : 3 < d) {M : AM} {Q : Option AV → AM → Prop}
    (h : ((M 35 2) ≤ (M 35 5) → Q none M) ∧ ((M 35 5) < (M 35 2) → (0 ≤ (M 35 5) ∧ (M 35 5) < 200) ∧ (((M 36 (M 35 5)) ≠ (32 : Int) → Q none M) ∧ ((M 36 (M 35 5)) = (32 : Int) → aE s1_G d 50 0 [] [some (aP 35)] [] (am_up M 35 5 (a_add (M 35 5) 1)) Q)))) :
    aE s1_G d 50 0 [] [some (aP 35)] [] M Q := aE_go s1_pu_ok [(0, [true])] 102 hd h

-- 51: DioceseBook$Reader.clauseWord()I
set_option maxRecDepth 100000 in
set_option maxHeartbeats 4000000 in
theorem s1_Reader_clauseWord_0 {d : Nat} (hd : 3 < d) {M : AM} {Q : Option AV → AM → Prop}
    (h : aKi s1_G d 49 [aP 35, aS 4] M (fun z2 M1 => (z2 = (0 : Int) → aKi s1_G d 49 [aP 35, aS 5] M1 (fun z4 M3 => (z4 = (0 : Int) → aKi s1_G d 49 [aP 35, aS 6] M3 (fun z6 M5 => (z6 = (0 : Int) → Q (some (aI (-1))) M5) ∧ (z6 ≠ (0 : Int) → Q (some (aI 2)) M5))) ∧ (z4 ≠ (0 : Int) → Q (some (aI 1)) M3))) ∧ (z2 ≠ (0 : Int) → Q (some (aI 0)) M1))) :
    aE s1_G d 51 0 [] [some (aP 35)] [] M Q := aE_go s1_pu_ok [] 102 hd h

-- 52: DioceseBook$Reader.nameWord()I
set_option maxRecDepth 100000 in
set_option maxHeartbeats 4000000 in
theorem s1_Reader_nameWord_0 {d : Nat} (hd : 3 < d) {M : AM} {Q : Option AV → AM → Prop}
    (h : aKi s1_G d 49 [aP 35, aS 7] M (fun z2 M1 => (z2 = (0 : Int) → aKi s1_G d 49 [aP 35, aS 8] M1 (fun z4 M3 => (z4 = (0 : Int) → aKi s1_G d 49 [aP 35, aS 9] M3 (fun z6 M5 => (z6 = (0 : Int) → aKi s1_G d 49 [aP 35, aS 10] M5 (fun z8 M7 => (z8 = (0 : Int) → aKi s1_G d 49 [aP 35, aS 11] M7 (fun z10 M9 => (z10 = (0 : Int) → aKi s1_G d 49 [aP 35, aS 12] M9 (fun z12 M11 => (z12 = (0 : Int) → aKi s1_G d 49 [aP 35, aS 13] M11 (fun z14 M13 => (z14 = (0 : Int) → aKi s1_G d 49 [aP 35, aS 14] M13 (fun z16 M15 => (z16 = (0 : Int) → Q (some (aI (-1))) M15) ∧ (z16 ≠ (0 : Int) → Q (some (aI 7)) M15))) ∧ (z14 ≠ (0 : Int) → Q (some (aI 6)) M13))) ∧ (z12 ≠ (0 : Int) → Q (some (aI 5)) M11))) ∧ (z10 ≠ (0 : Int) → Q (some (aI 4)) M9))) ∧ (z8 ≠ (0 : Int) → Q (some (aI 3)) M7))) ∧ (z6 ≠ (0 : Int) → Q (some (aI 2)) M5))) ∧ (z4 ≠ (0 : Int) → Q (some (aI 1)) M3))) ∧ (z2 ≠ (0 : Int) → Q (some (aI 0)) M1))) :
    aE s1_G d 52 0 [] [some (aP 35)] [] M Q := aE_go s1_pu_ok [] 162 hd h

-- 53: DioceseBook$Reader.factWord()I
set_option maxRecDepth 100000 in
set_option maxHeartbeats 4000000 in
theorem s1_Reader_factWord_0 {d : Nat} (hd : 3 < d) {M : AM} {Q : Option AV → AM → Prop}
    (h : aKi s1_G d 49 [aP 35, aS 15] M (fun z2 M1 => (z2 = (0 : Int) → aKi s1_G d 49 [aP 35, aS 16] M1 (fun z4 M3 => (z4 = (0 : Int) → aKi s1_G d 49 [aP 35, aS 17] M3 (fun z6 M5 => (z6 = (0 : Int) → aKi s1_G d 49 [aP 35, aS 18] M5 (fun z8 M7 => (z8 = (0 : Int) → aKi s1_G d 49 [aP 35, aS 19] M7 (fun z10 M9 => (z10 = (0 : Int) → aKi s1_G d 49 [aP 35, aS 20] M9 (fun z12 M11 => (z12 = (0 : Int) → Q (some (aI (-1))) M11) ∧ (z12 ≠ (0 : Int) → Q (some (aI 5)) M11))) ∧ (z10 ≠ (0 : Int) → Q (some (aI 4)) M9))) ∧ (z8 ≠ (0 : Int) → Q (some (aI 3)) M7))) ∧ (z6 ≠ (0 : Int) → Q (some (aI 2)) M5))) ∧ (z4 ≠ (0 : Int) → Q (some (aI 1)) M3))) ∧ (z2 ≠ (0 : Int) → Q (some (aI 0)) M1))) :
    aE s1_G d 53 0 [] [some (aP 35)] [] M Q := aE_go s1_pu_ok [] 138 hd h

-- 54: DioceseBook$Reader.compareSign()I
set_option maxRecDepth 100000 in
set_option maxHeartbeats 4000000 in
theorem s1_Reader_compareSign_0 {d : Nat} (hd : 3 < d) {M : AM} {Q : Option AV → AM → Prop}
    (h : aKi s1_G d 48 [aP 35, aI 60] M (fun z2 M1 => (z2 = (0 : Int) → aKi s1_G d 48 [aP 35, aI 62] M1 (fun z4 M3 => (z4 = (0 : Int) → aKi s1_G d 48 [aP 35, aI 61] M3 (fun z6 M5 => (z6 = (0 : Int) → Q (some (aI (-1))) M5) ∧ (z6 ≠ (0 : Int) → Q (some (aI 2)) M5))) ∧ (z4 ≠ (0 : Int) → Q (some (aI 1)) M3))) ∧ (z2 ≠ (0 : Int) → Q (some (aI 0)) M1))) :
    aE s1_G d 54 0 [] [some (aP 35)] [] M Q := aE_go s1_pu_ok [] 102 hd h

-- 55: DioceseBook$Register.addPerson(I)I
set_option maxRecDepth 100000 in
set_option maxHeartbeats 4000000 in
theorem s1_Register_addPerson_0 {d : Nat} (hd : 3 < d) {M : AM} {Q : Option AV → AM → Prop} {x1 : Int}
    (h : ((M 1 4) < (40 : Int) → (0 ≤ (M 1 4) ∧ (M 1 4) < 40) ∧ (Q (some (aI ((am_up M 2 (M 1 4) x1) 1 4))) (am_up (am_up M 2 (M 1 4) x1) 1 4 (a_add ((am_up M 2 (M 1 4) x1) 1 4) 1)))) ∧ ((40 : Int) ≤ (M 1 4) → Q (some (aI (-100004))) M)) :
    aE s1_G d 55 0 [] [some (aP 1), some (aI x1)] [] M Q := aE_go s1_pu_ok [] 100 hd h

-- 56: DioceseBook$Register.addLiving(III)I
set_option maxRecDepth 100000 in
set_option maxHeartbeats 4000000 in
theorem s1_Register_addLiving_0 {d : Nat} (hd : 3 < d) {M : AM} {Q : Option AV → AM → Prop} {x1 x2 x3 : Int}
    (h : ((M 1 5) < (12 : Int) → (0 ≤ (M 1 5) ∧ (M 1 5) < 12) ∧ ((0 ≤ ((am_up M 3 (M 1 5) x1) 1 5) ∧ ((am_up M 3 (M 1 5) x1) 1 5) < 12) ∧ ((0 ≤ ((am_up (am_up M 3 (M 1 5) x1) 4 ((am_up M 3 (M 1 5) x1) 1 5) x2) 1 5) ∧ ((am_up (am_up M 3 (M 1 5) x1) 4 ((am_up M 3 (M 1 5) x1) 1 5) x2) 1 5) < 12) ∧ (Q (some (aI ((am_up (am_up (am_up M 3 (M 1 5) x1) 4 ((am_up M 3 (M 1 5) x1) 1 5) x2) 5 ((am_up (am_up M 3 (M 1 5) x1) 4 ((am_up M 3 (M 1 5) x1) 1 5) x2) 1 5) x3) 1 5))) (am_up (am_up (am_up (am_up M 3 (M 1 5) x1) 4 ((am_up M 3 (M 1 5) x1) 1 5) x2) 5 ((am_up (am_up M 3 (M 1 5) x1) 4 ((am_up M 3 (M 1 5) x1) 1 5) x2) 1 5) x3) 1 5 (a_add ((am_up (am_up (am_up M 3 (M 1 5) x1) 4 ((am_up M 3 (M 1 5) x1) 1 5) x2) 5 ((am_up (am_up M 3 (M 1 5) x1) 4 ((am_up M 3 (M 1 5) x1) 1 5) x2) 1 5) x3) 1 5) 1)))))) ∧ ((12 : Int) ≤ (M 1 5) → Q (some (aI (-100004))) M)) :
    aE s1_G d 56 0 [] [some (aP 1), some (aI x1), some (aI x2), some (aI x3)] [] M Q := aE_go s1_pu_ok [] 124 hd h

-- 57: DioceseBook$Register.milesBetween(II)I
set_option maxRecDepth 100000 in
set_option maxHeartbeats 4000000 in
theorem s1_Register_milesBetween_0 {d : Nat} (hd : 3 < d) {M : AM} {Q : Option AV → AM → Prop} {x1 x2 : Int}
    (h : (0 ≤ x1 ∧ x1 < 12) ∧ ((0 ≤ x2 ∧ x2 < 12) ∧ ((0 ≤ x1 ∧ x1 < 12) ∧ ((0 ≤ x2 ∧ x2 < 12) ∧ (Q (some (aI (a_add (if (a_sub (M 3 x1) (M 3 x2)) < 0 then a_neg (a_sub (M 3 x1) (M 3 x2)) else a_sub (M 3 x1) (M 3 x2)) (if (a_sub (M 4 x1) (M 4 x2)) < 0 then a_neg (a_sub (M 4 x1) (M 4 x2)) else a_sub (M 4 x1) (M 4 x2))))) M))))) :
    aE s1_G d 57 0 [] [some (aP 1), some (aI x1), some (aI x2)] [] M Q := aE_go s1_pu_ok [] 104 hd h

-- 58: DioceseBook$Register.milesFromSee(I)I
set_option maxRecDepth 100000 in
set_option maxHeartbeats 4000000 in
theorem s1_Register_milesFromSee_0 {d : Nat} (hd : 3 < d) {M : AM} {Q : Option AV → AM → Prop} {x1 : Int}
    (h : (0 ≤ x1 ∧ x1 < 12) ∧ ((0 ≤ x1 ∧ x1 < 12) ∧ (Q (some (aI (a_add (if (M 3 x1) < 0 then a_neg (M 3 x1) else M 3 x1) (if (M 4 x1) < 0 then a_neg (M 4 x1) else M 4 x1)))) M))) :
    aE s1_G d 58 0 [] [some (aP 1), some (aI x1)] [] M Q := aE_go s1_pu_ok [] 84 hd h

-- 59: DioceseBook$Rights.clearAll()V
set_option maxRecDepth 100000 in
set_option maxHeartbeats 4000000 in
theorem s1_Rights_clearAll_0 {d : Nat} (hd : 3 < d) {M : AM} {Q : Option AV → AM → Prop}
    (h : aE s1_G d 59 2 [] [some (aP 56), some (aI 0)] [] M Q) :
    aE s1_G d 59 0 [] [some (aP 56), none] [] M Q := aE_go s1_pu_ok [(2, [true, true])] 64 hd h

set_option maxRecDepth 100000 in
set_option maxHeartbeats 4000000 in
theorem s1_Rights_clearAll_2 {d : Nat} (hd : 3 < d) {M : AM} {Q : Option AV → AM → Prop} {x1 : Int}
    (h : ((12 : Int) ≤ x1 → Q none (am_up M 56 5 0)) ∧ (x1 < (12 : Int) → aKv s1_G d 60 [aP 56, aI x1, aI (-1), aI (-1)] M (fun M1 => aE s1_G d 59 2 [] [some (aP 56), some (aI (a_add x1 1))] [] M1 Q))) :
    aE s1_G d 59 2 [] [some (aP 56), some (aI x1)] [] M Q := aE_go s1_pu_ok [(2, [true, true])] 88 hd h

-- 60: DioceseBook$Rights.grant(III)V
set_option maxRecDepth 100000 in
set_option maxHeartbeats 4000000 in
theorem s1_Rights_grant_0 {d : Nat} (hd : 3 < d) {M : AM} {Q : Option AV → AM → Prop} {x1 x2 x3 : Int}
    (h : (0 ≤ x1 ∧ x1 < 12) ∧ ((0 ≤ x1 ∧ x1 < 12) ∧ ((0 ≤ x1 ∧ x1 < 12) ∧ (((0 : Int) = 0 ∨ (0 : Int) = 1) ∧ (Q none (am_up (am_up (am_up M 57 x1 x2) 58 x1 x3) 59 x1 0)))))) :
    aE s1_G d 60 0 [] [some (aP 56), some (aI x1), some (aI x2), some (aI x3)] [] M Q := aE_go s1_pu_ok [] 92 hd h

-- 61: DioceseBook$Rights.sell(I)V
set_option maxRecDepth 100000 in
set_option maxHeartbeats 4000000 in
theorem s1_Rights_sell_0 {d : Nat} (hd : 3 < d) {M : AM} {Q : Option AV → AM → Prop} {x1 : Int}
    (h : ((150 : Int) ≤ (M 56 5) → Q none M) ∧ ((M 56 5) < (150 : Int) → (0 ≤ (M 56 5) ∧ (M 56 5) < 150) ∧ ((0 ≤ ((am_up M 60 (M 56 5) x1) 56 5) ∧ ((am_up M 60 (M 56 5) x1) 56 5) < 150) ∧ (((0 : Int) = 0 ∨ (0 : Int) = 1) ∧ (Q none (am_up (am_up (am_up M 60 (M 56 5) x1) 61 ((am_up M 60 (M 56 5) x1) 56 5) 0) 56 5 (a_add ((am_up (am_up M 60 (M 56 5) x1) 61 ((am_up M 60 (M 56 5) x1) 56 5) 0) 56 5) 1))))))) :
    aE s1_G d 61 0 [] [some (aP 56), some (aI x1)] [] M Q := aE_go s1_pu_ok [] 108 hd h

-- 62: DioceseBook$Rights.turnOf(I)I
set_option maxRecDepth 100000 in
set_option maxHeartbeats 4000000 in
theorem s1_Rights_turnOf_0 {d : Nat} (hd : 3 < d) {M : AM} {Q : Option AV → AM → Prop} {x1 : Int}
    (h : (0 ≤ x1 ∧ x1 < 12) ∧ (((M 59 x1) = (0 : Int) → (0 ≤ x1 ∧ x1 < 12) ∧ (Q (some (aI (M 57 x1))) M)) ∧ ((M 59 x1) ≠ (0 : Int) → (0 ≤ x1 ∧ x1 < 12) ∧ (Q (some (aI (M 58 x1))) M)))) :
    aE s1_G d 62 0 [] [some (aP 56), some (aI x1)] [] M Q := aE_go s1_pu_ok [] 92 hd h

-- 63: DioceseBook$Rights.soldLeft(I)I
set_option maxRecDepth 100000 in
set_option maxHeartbeats 4000000 in
theorem s1_Rights_soldLeft_0 {d : Nat} (hd : 3 < d) {M : AM} {Q : Option AV → AM → Prop} {x1 : Int}
    (h : aE s1_G d 63 4 [] [some (aP 56), some (aI x1), some (aI 0), some (aI 0)] [] M Q) :
    aE s1_G d 63 0 [] [some (aP 56), some (aI x1), none, none] [] M Q := aE_go s1_pu_ok [(4, [true, true, true, true])] 68 hd h

set_option maxRecDepth 100000 in
set_option maxHeartbeats 4000000 in
theorem s1_Rights_soldLeft_4 {d : Nat} (hd : 3 < d) {M : AM} {Q : Option AV → AM → Prop} {x1 x2 x3 : Int}
    (h : ((M 56 5) ≤ x3 → Q (some (aI x2)) M) ∧ (x3 < (M 56 5) → (0 ≤ x3 ∧ x3 < 150) ∧ ((0 ≤ (M 60 x3) ∧ (M 60 x3) < 150) ∧ (((M 10 (M 60 x3)) ≠ x1 → aE s1_G d 63 4 [] [some (aP 56), some (aI x1), some (aI x2), some (aI (a_add x3 1))] [] M Q) ∧ ((M 10 (M 60 x3)) = x1 → (0 ≤ x3 ∧ x3 < 150) ∧ (((M 61 x3) ≠ (0 : Int) → aE s1_G d 63 4 [] [some (aP 56), some (aI x1), some (aI x2), some (aI (a_add x3 1))] [] M Q) ∧ ((M 61 x3) = (0 : Int) → aE s1_G d 63 4 [] [some (aP 56), some (aI x1), some (aI (a_add x2 1)), some (aI (a_add x3 1))] [] M Q))))))) :
    aE s1_G d 63 4 [] [some (aP 56), some (aI x1), some (aI x2), some (aI x3)] [] M Q := aE_go s1_pu_ok [(4, [true, true, true, true])] 116 hd h

-- 64: DioceseBook$Rights.firstSold(II)I
set_option maxRecDepth 100000 in
set_option maxHeartbeats 4000000 in
theorem s1_Rights_firstSold_0 {d : Nat} (hd : 3 < d) {M : AM} {Q : Option AV → AM → Prop} {x1 x2 : Int}
    (h : aE s1_G d 64 2 [] [some (aP 56), some (aI x1), some (aI x2), some (aI 0)] [] M Q) :
    aE s1_G d 64 0 [] [some (aP 56), some (aI x1), some (aI x2), none] [] M Q := aE_go s1_pu_ok [(2, [true, true, true, true])] 64 hd h

set_option maxRecDepth 100000 in
set_option maxHeartbeats 4000000 in
theorem s1_Rights_firstSold_2 {d : Nat} (hd : 3 < d) {M : AM} {Q : Option AV → AM → Prop} {x1 x2 x3 : Int}
    (h : ((M 56 5) ≤ x3 → Q (some (aI (-1))) M) ∧ (x3 < (M 56 5) → (0 ≤ x3 ∧ x3 < 150) ∧ ((0 ≤ (M 60 x3) ∧ (M 60 x3) < 150) ∧ (((M 10 (M 60 x3)) ≠ x1 → aE s1_G d 64 2 [] [some (aP 56), some (aI x1), some (aI x2), some (aI (a_add x3 1))] [] M Q) ∧ ((M 10 (M 60 x3)) = x1 → (0 ≤ x3 ∧ x3 < 150) ∧ ((0 ≤ (M 60 x3) ∧ (M 60 x3) < 150) ∧ (((M 11 (M 60 x3)) ≠ x2 → aE s1_G d 64 2 [] [some (aP 56), some (aI x1), some (aI x2), some (aI (a_add x3 1))] [] M Q) ∧ ((M 11 (M 60 x3)) = x2 → (0 ≤ x3 ∧ x3 < 150) ∧ (((M 61 x3) ≠ (0 : Int) → aE s1_G d 64 2 [] [some (aP 56), some (aI x1), some (aI x2), some (aI (a_add x3 1))] [] M Q) ∧ ((M 61 x3) = (0 : Int) → Q (some (aI x3)) M)))))))))) :
    aE s1_G d 64 2 [] [some (aP 56), some (aI x1), some (aI x2), some (aI x3)] [] M Q := aE_go s1_pu_ok [(2, [true, true, true, true])] 138 hd h

-- 65: DioceseBook$Rights.patronOn(II)I
set_option maxRecDepth 100000 in
set_option maxHeartbeats 4000000 in
theorem s1_Rights_patronOn_0 {d : Nat} (hd : 3 < d) {M : AM} {Q : Option AV → AM → Prop} {x1 x2 : Int}
    (h : aKi s1_G d 62 [aP 56, aI x1] M (fun z2 M1 => (z2 ≠ ((-1) : Int) → aKi s1_G d 64 [aP 56, aI x1, aI z2] M1 (fun z4 M3 => (z4 ≠ ((-1) : Int) → (0 ≤ z4 ∧ z4 < 150) ∧ ((0 ≤ (M3 60 z4) ∧ (M3 60 z4) < 150) ∧ (aKi s1_G d 66 [aP 56, aI (M3 12 (M3 60 z4)), aI x2] M3 (fun z6 M5 => Q (some (aI z6)) M5)))) ∧ (z4 = ((-1) : Int) → aKi s1_G d 66 [aP 56, aI z2, aI x2] M3 (fun z8 M7 => Q (some (aI z8)) M7)))) ∧ (z2 = ((-1) : Int) → Q (some (aI (-4))) M1))) :
    aE s1_G d 65 0 [] [some (aP 56), some (aI x1), some (aI x2), none, none] [] M Q := aE_go s1_pu_ok [] 128 hd h

-- 66: DioceseBook$Rights.livingHeir(II)I
set_option maxRecDepth 100000 in
set_option maxHeartbeats 4000000 in
theorem s1_Rights_livingHeir_0 {d : Nat} (hd : 3 < d) {M : AM} {Q : Option AV → AM → Prop} {x1 x2 : Int}
    (h : aE s1_G d 66 5 [] [some (aP 56), none, some (aI x2), some (aI x1), some (aI 0)] [] M Q) :
    aE s1_G d 66 0 [] [some (aP 56), some (aI x1), some (aI x2), none, none] [] M Q := aE_go s1_pu_ok [(5, [true, false, true, true, true])] 68 hd h

set_option maxRecDepth 100000 in
set_option maxHeartbeats 4000000 in
theorem s1_Rights_livingHeir_5 {d : Nat} (hd : 3 < d) {M : AM} {Q : Option AV → AM → Prop} {x2 x3 x4 : Int}
    (h : ((12 : Int) ≤ x4 → aKi s1_G d 33 [aP 6, aI 1, aI x3, aI x2] M (fun z2 M1 => (z2 = (0 : Int) → Q (some (aI x3)) M1) ∧ (z2 ≠ (0 : Int) → Q (some (aI (-4))) M1))) ∧ (x4 < (12 : Int) → aKi s1_G d 33 [aP 6, aI 1, aI x3, aI x2] M (fun z4 M3 => (z4 = (0 : Int) → aKi s1_G d 33 [aP 6, aI 1, aI x3, aI x2] M3 (fun z6 M5 => (z6 = (0 : Int) → Q (some (aI x3)) M5) ∧ (z6 ≠ (0 : Int) → Q (some (aI (-4))) M5))) ∧ (z4 ≠ (0 : Int) → aKi s1_G d 35 [aP 6, aI x3, aI x2] M3 (fun z8 M7 => (z8 ≠ ((-1) : Int) → aE s1_G d 66 5 [] [some (aP 56), none, some (aI x2), some (aI z8), some (aI (a_add x4 1))] [] M7 Q) ∧ (z8 = ((-1) : Int) → Q (some (aI (-4))) M7)))))) :
    aE s1_G d 66 5 [] [some (aP 56), none, some (aI x2), some (aI x3), some (aI x4)] [] M Q := aE_go s1_pu_ok [(5, [true, false, true, true, true])] 154 hd h

-- 67: DioceseBook$Rights.useTurn(I)V
set_option maxRecDepth 100000 in
set_option maxHeartbeats 4000000 in
theorem s1_Rights_useTurn_0 {d : Nat} (hd : 3 < d) {M : AM} {Q : Option AV → AM → Prop} {x1 : Int}
    (h : aKi s1_G d 62 [aP 56, aI x1] M (fun z2 M1 => (z2 ≠ ((-1) : Int) → aKi s1_G d 64 [aP 56, aI x1, aI z2] M1 (fun z4 M3 => (z4 = ((-1) : Int) → (0 ≤ x1 ∧ x1 < 12) ∧ (((M3 58 x1) = ((-1) : Int) → Q none M3) ∧ ((M3 58 x1) ≠ ((-1) : Int) → (0 ≤ x1 ∧ x1 < 12) ∧ (((M3 59 x1) ≠ (0 : Int) → (0 ≤ x1 ∧ x1 < 12) ∧ (((0 : Int) = 0 ∨ (0 : Int) = 1) ∧ (Q none (am_up M3 59 x1 0)))) ∧ ((M3 59 x1) = (0 : Int) → (0 ≤ x1 ∧ x1 < 12) ∧ (((1 : Int) = 0 ∨ (1 : Int) = 1) ∧ (Q none (am_up M3 59 x1 1)))))))) ∧ (z4 ≠ ((-1) : Int) → (0 ≤ z4 ∧ z4 < 150) ∧ (((1 : Int) = 0 ∨ (1 : Int) = 1) ∧ ((0 ≤ x1 ∧ x1 < 12) ∧ ((((am_up M3 61 z4 1) 58 x1) = ((-1) : Int) → Q none (am_up M3 61 z4 1)) ∧ (((am_up M3 61 z4 1) 58 x1) ≠ ((-1) : Int) → (0 ≤ x1 ∧ x1 < 12) ∧ ((((am_up M3 61 z4 1) 59 x1) ≠ (0 : Int) → (0 ≤ x1 ∧ x1 < 12) ∧ (((0 : Int) = 0 ∨ (0 : Int) = 1) ∧ (Q none (am_up (am_up M3 61 z4 1) 59 x1 0)))) ∧ (((am_up M3 61 z4 1) 59 x1) = (0 : Int) → (0 ≤ x1 ∧ x1 < 12) ∧ (((1 : Int) = 0 ∨ (1 : Int) = 1) ∧ (Q none (am_up (am_up M3 61 z4 1) 59 x1 1)))))))))))) ∧ (z2 = ((-1) : Int) → Q none M1))) :
    aE s1_G d 67 0 [] [some (aP 56), some (aI x1), none, none] [] M Q := aE_go s1_pu_ok [] 190 hd h

-- 68: DioceseBook$Story.forget()V
set_option maxRecDepth 100000 in
set_option maxHeartbeats 4000000 in
theorem s1_Story_forget_0 {d : Nat} (hd : 3 < d) {M : AM} {Q : Option AV → AM → Prop}
    (h : Q none (am_up M 37 11 (-1))) :
    aE s1_G d 68 0 [] [some (aP 37)] [] M Q := aE_go s1_pu_ok [] 68 hd h

-- 69: DioceseBook$Story.tell(II)V
set_option maxRecDepth 100000 in
set_option maxHeartbeats 4000000 in
theorem s1_Story_tell_0 {d : Nat} (hd : 3 < d) {M : AM} {Q : Option AV → AM → Prop} {x1 x2 : Int}
    (h : aKv s1_G d 31 [aP 6, aI x1] M (fun M1 => ((M1 37 11) ≠ x1 → aKv s1_G d 70 [aP 37] (am_up (am_up M1 37 11 x1) 37 12 x2) (fun M2 => aE s1_G d 69 41 [] [some (aP 37), none, some (aI x2), some (aI 0), none, none, none] [] M2 Q)) ∧ ((M1 37 11) = x1 → ((M1 37 12) ≠ x2 → aKv s1_G d 70 [aP 37] (am_up (am_up M1 37 11 x1) 37 12 x2) (fun M3 => aE s1_G d 69 41 [] [some (aP 37), none, some (aI x2), some (aI 0), none, none, none] [] M3 Q)) ∧ ((M1 37 12) = x2 → Q none M1)))) :
    aE s1_G d 69 0 [] [some (aP 37), some (aI x1), some (aI x2), none, none, none, none] [] M Q := aE_go s1_pu_ok [(41, [true, false, true, true, false, false, false])] 126 hd h

set_option maxRecDepth 100000 in
set_option maxHeartbeats 4000000 in
theorem s1_Story_tell_41 {d : Nat} (hd : 3 < d) {M : AM} {Q : Option AV → AM → Prop} {x2 x3 : Int}
    (h : ((M 6 12) ≤ x3 → Q none M) ∧ (x3 < (M 6 12) → (0 ≤ x3 ∧ x3 < 150) ∧ ((0 ≤ (M 16 x3) ∧ (M 16 x3) < 150) ∧ ((x2 < (M 8 (M 16 x3)) → Q none M) ∧ ((M 8 (M 16 x3)) ≤ x2 → (0 ≤ x3 ∧ x3 < 150) ∧ ((0 ≤ (M 16 x3) ∧ (M 16 x3) < 150) ∧ ((0 ≤ (M 16 x3) ∧ (M 16 x3) < 150) ∧ ((0 ≤ (M 16 x3) ∧ (M 16 x3) < 150) ∧ ((((M 7 (M 16 x3)) = 1 → aKv s1_G d 74 [aP 37, aI (-1), aI (-1), aI (M 16 x3), aI 1] M (fun M1 => aE s1_G d 69 41 [] [some (aP 37), none, some (aI x2), some (aI (a_add x3 1)), none, none, none] [] M1 Q)) ∧ ((M 7 (M 16 x3)) = 2 → aE s1_G d 69 41 [] [some (aP 37), none, some (aI x2), some (aI (a_add x3 1)), none, none, none] [] M Q) ∧ ((M 7 (M 16 x3)) = 3 → aKv s1_G d 71 [aP 37, aI (M 16 x3), aI x3] M (fun M2 => aE s1_G d 69 41 [] [some (aP 37), none, some (aI x2), some (aI (a_add x3 1)), none, none, none] [] M2 Q)) ∧ ((M 7 (M 16 x3)) = 4 → aKv s1_G d 75 [aP 37, aI (M 10 (M 16 x3)), aI (M 16 x3), aI 2] M (fun M3 => aE s1_G d 69 41 [] [some (aP 37), none, some (aI x2), some (aI (a_add x3 1)), none, none, none] [] M3 Q)) ∧ ((M 7 (M 16 x3)) = 5 → aE s1_G d 69 41 [] [some (aP 37), none, some (aI x2), some (aI (a_add x3 1)), none, none, none] [] M Q) ∧ ((M 7 (M 16 x3)) = 6 → aE s1_G d 69 41 [] [some (aP 37), none, some (aI x2), some (aI (a_add x3 1)), none, none, none] [] M Q) ∧ ((M 7 (M 16 x3)) = 7 → (0 ≤ (M 16 x3) ∧ (M 16 x3) < 150) ∧ (aKv s1_G d 60 [aP 56, aI (M 10 (M 16 x3)), aI (M 11 (M 16 x3)), aI (M 12 (M 16 x3))] M (fun M4 => aE s1_G d 69 41 [] [some (aP 37), none, some (aI x2), some (aI (a_add x3 1)), none, none, none] [] M4 Q))) ∧ ((M 7 (M 16 x3)) = 8 → aKv s1_G d 60 [aP 56, aI (M 10 (M 16 x3)), aI (M 11 (M 16 x3)), aI (-1)] M (fun M5 => aE s1_G d 69 41 [] [some (aP 37), none, some (aI x2), some (aI (a_add x3 1)), none, none, none] [] M5 Q)) ∧ ((M 7 (M 16 x3)) = 9 → aKv s1_G d 61 [aP 56, aI (M 16 x3)] M (fun M6 => aE s1_G d 69 41 [] [some (aP 37), none, some (aI x2), some (aI (a_add x3 1)), none, none, none] [] M6 Q)) ∧ True) ∧ ((M 7 (M 16 x3)) < 1 ∨ 9 < (M 7 (M 16 x3)) → aE s1_G d 69 41 [] [some (aP 37), none, some (aI x2), some (aI (a_add x3 1)), none, none, none] [] M Q)))))))))) :
    aE s1_G d 69 41 [] [some (aP 37), none, some (aI x2), some (aI x3), none, none, none] [] M Q := aE_go s1_pu_ok [(41, [true, false, true, true, false, false, false])] 266 hd h

-- 70: DioceseBook$Story.clearAll()V
set_option maxRecDepth 100000 in
set_option maxHeartbeats 4000000 in
theorem s1_Story_clearAll_0 {d : Nat} (hd : 3 < d) {M : AM} {Q : Option AV → AM → Prop}
    (h : aE s1_G d 70 2 [] [some (aP 37), some (aI 0)] [] M Q) :
    aE s1_G d 70 0 [] [some (aP 37), none] [] M Q := aE_go s1_pu_ok [(2, [true, true])] 64 hd h

set_option maxRecDepth 100000 in
set_option maxHeartbeats 4000000 in
theorem s1_Story_clearAll_2 {d : Nat} (hd : 3 < d) {M : AM} {Q : Option AV → AM → Prop} {x1 : Int}
    (h : ((12 : Int) ≤ x1 → aKv s1_G d 59 [aP 56] M (fun M1 => aKv s1_G d 14 [aP 62] M1 (fun M2 => Q none M2))) ∧ (x1 < (12 : Int) → (0 ≤ x1 ∧ x1 < 12) ∧ ((0 ≤ x1 ∧ x1 < 12) ∧ ((0 ≤ x1 ∧ x1 < 12) ∧ (aE s1_G d 70 2 [] [some (aP 37), some (aI (a_add x1 1))] [] (am_up (am_up (am_up M 38 x1 0) 52 x1 0) 53 x1 0) Q))))) :
    aE s1_G d 70 2 [] [some (aP 37), some (aI x1)] [] M Q := aE_go s1_pu_ok [(2, [true, true])] 114 hd h

-- 71: DioceseBook$Story.takeIn(II)V
set_option maxRecDepth 100000 in
set_option maxHeartbeats 4000000 in
theorem s1_Story_takeIn_0 {d : Nat} (hd : 3 < d) {M : AM} {Q : Option AV → AM → Prop} {x1 x2 : Int}
    (h : (0 ≤ x1 ∧ x1 < 150) ∧ ((0 ≤ x1 ∧ x1 < 150) ∧ ((0 ≤ x1 ∧ x1 < 150) ∧ ((0 ≤ x1 ∧ x1 < 150) ∧ ((0 ≤ (M 10 x1) ∧ (M 10 x1) < 12) ∧ (((a_cmp (M 38 (M 10 x1)) 0) = (0 : Int) → aE s1_G d 71 59 [] [some (aP 37), some (aI x1), some (aI x2), some (aI (M 10 x1)), some (aI (M 11 x1)), some (aI (M 12 x1)), some (aI (M 8 x1)), none, none, none] [aI 0] M Q) ∧ ((a_cmp (M 38 (M 10 x1)) 0) ≠ (0 : Int) → aE s1_G d 71 59 [] [some (aP 37), some (aI x1), some (aI x2), some (aI (M 10 x1)), some (aI (M 11 x1)), some (aI (M 12 x1)), some (aI (M 8 x1)), none, none, none] [aI 1] M Q))))))) :
    aE s1_G d 71 0 [] [some (aP 37), some (aI x1), some (aI x2), none, none, none, none, none, none, none] [] M Q := aE_go s1_pu_ok [(59, [true, true, true, true, true, true, true, false, false, false]), (79, [true, true, true, true, true, true, true, false, false, false]), (98, [true, true, true, true, true, true, true, false, false, false]), (117, [true, true, true, true, true, true, true, false, false, false]), (147, [true, true, true, true, true, true, true, true, false, false]), (152, [true, true, true, true, true, true, true, true, false, false]), (187, [true, true, true, true, true, true, true, false, true, false]), (188, [true, true, true, true, true, true, true, false, true, false]), (210, [true, true, true, true, true, false, true, false, false, true]), (215, [true, true, true, true, true, false, true, false, false, false]), (223, [true, true, true, true, true, false, true, false, false, false]), (289, [true, true, false, true, true, false, true, false, false, false])] 128 hd h

set_option maxRecDepth 100000 in
set_option maxHeartbeats 4000000 in
theorem s1_Story_takeIn_59 {d : Nat} (hd : 3 < d) {M : AM} {Q : Option AV → AM → Prop} {x1 x2 x3 x4 x5 x6 t0 : Int}
    (h : aKi s1_G d 33 [aP 6, aI 1, aI x4, aI x6] M (fun z2 M1 => (z2 = (0 : Int) → aE s1_G d 71 79 [] [some (aP 37), some (aI x1), some (aI x2), some (aI x3), some (aI x4), some (aI x5), some (aI x6), none, none, none] [aI 0, aI t0] M1 Q) ∧ (z2 ≠ (0 : Int) → aE s1_G d 71 79 [] [some (aP 37), some (aI x1), some (aI x2), some (aI x3), some (aI x4), some (aI x5), some (aI x6), none, none, none] [aI 2, aI t0] M1 Q))) :
    aE s1_G d 71 59 [] [some (aP 37), some (aI x1), some (aI x2), some (aI x3), some (aI x4), some (aI x5), some (aI x6), none, none, none] [aI t0] M Q := aE_go s1_pu_ok [(59, [true, true, true, true, true, true, true, false, false, false]), (79, [true, true, true, true, true, true, true, false, false, false]), (98, [true, true, true, true, true, true, true, false, false, false]), (117, [true, true, true, true, true, true, true, false, false, false]), (147, [true, true, true, true, true, true, true, true, false, false]), (152, [true, true, true, true, true, true, true, true, false, false]), (187, [true, true, true, true, true, true, true, false, true, false]), (188, [true, true, true, true, true, true, true, false, true, false]), (210, [true, true, true, true, true, false, true, false, false, true]), (215, [true, true, true, true, true, false, true, false, false, false]), (223, [true, true, true, true, true, false, true, false, false, false]), (289, [true, true, false, true, true, false, true, false, false, false])] 80 hd h

set_option maxRecDepth 100000 in
set_option maxHeartbeats 4000000 in
theorem s1_Story_takeIn_79 {d : Nat} (hd : 3 < d) {M : AM} {Q : Option AV → AM → Prop} {x1 x2 x3 x4 x5 x6 t0 t1 : Int}
    (h : aKi s1_G d 82 [aP 37, aI x4, aI x3, aI x6] M (fun z2 M1 => (z2 = ((-1) : Int) → aE s1_G d 71 98 [] [some (aP 37), some (aI x1), some (aI x2), some (aI x3), some (aI x4), some (aI x5), some (aI x6), none, none, none] [aI 0, aI (a_or t1 t0)] M1 Q) ∧ (z2 ≠ ((-1) : Int) → aE s1_G d 71 98 [] [some (aP 37), some (aI x1), some (aI x2), some (aI x3), some (aI x4), some (aI x5), some (aI x6), none, none, none] [aI 4, aI (a_or t1 t0)] M1 Q))) :
    aE s1_G d 71 79 [] [some (aP 37), some (aI x1), some (aI x2), some (aI x3), some (aI x4), some (aI x5), some (aI x6), none, none, none] [aI t0, aI t1] M Q := aE_go s1_pu_ok [(59, [true, true, true, true, true, true, true, false, false, false]), (79, [true, true, true, true, true, true, true, false, false, false]), (98, [true, true, true, true, true, true, true, false, false, false]), (117, [true, true, true, true, true, true, true, false, false, false]), (147, [true, true, true, true, true, true, true, true, false, false]), (152, [true, true, true, true, true, true, true, true, false, false]), (187, [true, true, true, true, true, true, true, false, true, false]), (188, [true, true, true, true, true, true, true, false, true, false]), (210, [true, true, true, true, true, false, true, false, false, true]), (215, [true, true, true, true, true, false, true, false, false, false]), (223, [true, true, true, true, true, false, true, false, false, false]), (289, [true, true, false, true, true, false, true, false, false, false])] 82 hd h

set_option maxRecDepth 100000 in
set_option maxHeartbeats 4000000 in
theorem s1_Story_takeIn_98 {d : Nat} (hd : 3 < d) {M : AM} {Q : Option AV → AM → Prop} {x1 x2 x3 x4 x5 x6 t0 t1 : Int}
    (h : aKi s1_G d 80 [aP 37, aI x3, aI x6] M (fun z2 M1 => (z2 = x5 → aE s1_G d 71 117 [] [some (aP 37), some (aI x1), some (aI x2), some (aI x3), some (aI x4), some (aI x5), some (aI x6), none, none, none] [aI 0, aI (a_or t1 t0)] M1 Q) ∧ (z2 ≠ x5 → aE s1_G d 71 117 [] [some (aP 37), some (aI x1), some (aI x2), some (aI x3), some (aI x4), some (aI x5), some (aI x6), none, none, none] [aI 8, aI (a_or t1 t0)] M1 Q))) :
    aE s1_G d 71 98 [] [some (aP 37), some (aI x1), some (aI x2), some (aI x3), some (aI x4), some (aI x5), some (aI x6), none, none, none] [aI t0, aI t1] M Q := aE_go s1_pu_ok [(59, [true, true, true, true, true, true, true, false, false, false]), (79, [true, true, true, true, true, true, true, false, false, false]), (98, [true, true, true, true, true, true, true, false, false, false]), (117, [true, true, true, true, true, true, true, false, false, false]), (147, [true, true, true, true, true, true, true, true, false, false]), (152, [true, true, true, true, true, true, true, true, false, false]), (187, [true, true, true, true, true, true, true, false, true, false]), (188, [true, true, true, true, true, true, true, false, true, false]), (210, [true, true, true, true, true, false, true, false, false, true]), (215, [true, true, true, true, true, false, true, false, false, false]), (223, [true, true, true, true, true, false, true, false, false, false]), (289, [true, true, false, true, true, false, true, false, false, false])] 80 hd h

set_option maxRecDepth 100000 in
set_option maxHeartbeats 4000000 in
theorem s1_Story_takeIn_117 {d : Nat} (hd : 3 < d) {M : AM} {Q : Option AV → AM → Prop} {x1 x2 x3 x4 x5 x6 t0 t1 : Int}
    (h : (0 ≤ x1 ∧ x1 < 150) ∧ (((a_or t1 t0) = (0 : Int) → aE s1_G d 71 147 [] [some (aP 37), some (aI x1), some (aI x2), some (aI x3), some (aI x4), some (aI x5), some (aI x6), some (aI (a_or t1 t0)), none, none] [] (am_up M 54 x1 (a_or t1 t0)) Q) ∧ ((a_or t1 t0) ≠ (0 : Int) → aKi s1_G d 6 [aP 24, aI 3, aI x6] (am_up M 54 x1 (a_or t1 t0)) (fun z2 M1 => (z2 ≠ (1 : Int) → aE s1_G d 71 152 [] [some (aP 37), some (aI x1), some (aI x2), some (aI x3), some (aI x4), some (aI x5), some (aI x6), some (aI (a_or t1 t0)), none, none] [aI 0] M1 Q) ∧ (z2 = (1 : Int) → aE s1_G d 71 147 [] [some (aP 37), some (aI x1), some (aI x2), some (aI x3), some (aI x4), some (aI x5), some (aI x6), some (aI (a_or t1 t0)), none, none] [] M1 Q))))) :
    aE s1_G d 71 117 [] [some (aP 37), some (aI x1), some (aI x2), some (aI x3), some (aI x4), some (aI x5), some (aI x6), none, none, none] [aI t0, aI t1] M Q := aE_go s1_pu_ok [(59, [true, true, true, true, true, true, true, false, false, false]), (79, [true, true, true, true, true, true, true, false, false, false]), (98, [true, true, true, true, true, true, true, false, false, false]), (117, [true, true, true, true, true, true, true, false, false, false]), (147, [true, true, true, true, true, true, true, true, false, false]), (152, [true, true, true, true, true, true, true, true, false, false]), (187, [true, true, true, true, true, true, true, false, true, false]), (188, [true, true, true, true, true, true, true, false, true, false]), (210, [true, true, true, true, true, false, true, false, false, true]), (215, [true, true, true, true, true, false, true, false, false, false]), (223, [true, true, true, true, true, false, true, false, false, false]), (289, [true, true, false, true, true, false, true, false, false, false])] 94 hd h

set_option maxRecDepth 100000 in
set_option maxHeartbeats 4000000 in
theorem s1_Story_takeIn_147 {d : Nat} (hd : 3 < d) {M : AM} {Q : Option AV → AM → Prop} {x1 x2 x3 x4 x5 x6 x7 : Int}
    (h : aE s1_G d 71 152 [] [some (aP 37), some (aI x1), some (aI x2), some (aI x3), some (aI x4), some (aI x5), some (aI x6), some (aI x7), none, none] [aI 1] M Q) :
    aE s1_G d 71 147 [] [some (aP 37), some (aI x1), some (aI x2), some (aI x3), some (aI x4), some (aI x5), some (aI x6), some (aI x7), none, none] [] M Q := aE_go s1_pu_ok [(59, [true, true, true, true, true, true, true, false, false, false]), (79, [true, true, true, true, true, true, true, false, false, false]), (98, [true, true, true, true, true, true, true, false, false, false]), (117, [true, true, true, true, true, true, true, false, false, false]), (147, [true, true, true, true, true, true, true, true, false, false]), (152, [true, true, true, true, true, true, true, true, false, false]), (187, [true, true, true, true, true, true, true, false, true, false]), (188, [true, true, true, true, true, true, true, false, true, false]), (210, [true, true, true, true, true, false, true, false, false, true]), (215, [true, true, true, true, true, false, true, false, false, false]), (223, [true, true, true, true, true, false, true, false, false, false]), (289, [true, true, false, true, true, false, true, false, false, false])] 64 hd h

set_option maxRecDepth 100000 in
set_option maxHeartbeats 4000000 in
theorem s1_Story_takeIn_152 {d : Nat} (hd : 3 < d) {M : AM} {Q : Option AV → AM → Prop} {x1 x2 x3 x4 x5 x6 x7 t0 : Int}
    (h : (x7 ≠ (0 : Int) → aE s1_G d 71 187 [] [some (aP 37), some (aI x1), some (aI x2), some (aI x3), some (aI x4), some (aI x5), some (aI x6), none, some (aI t0), none] [] M Q) ∧ (x7 = (0 : Int) → aKi s1_G d 81 [aP 37, aI x3, aI x6] M (fun z2 M1 => (z2 = (0 : Int) → aE s1_G d 71 187 [] [some (aP 37), some (aI x1), some (aI x2), some (aI x3), some (aI x4), some (aI x5), some (aI x6), none, some (aI t0), none] [] M1 Q) ∧ (z2 ≠ (0 : Int) → aKi s1_G d 6 [aP 24, aI 4, aI x6] M1 (fun z4 M3 => (z4 ≠ (1 : Int) → aE s1_G d 71 187 [] [some (aP 37), some (aI x1), some (aI x2), some (aI x3), some (aI x4), some (aI x5), some (aI x6), none, some (aI t0), none] [] M3 Q) ∧ (z4 = (1 : Int) → aE s1_G d 71 188 [] [some (aP 37), some (aI x1), some (aI x2), some (aI x3), some (aI x4), some (aI x5), some (aI x6), none, some (aI t0), none] [aI 1] M3 Q)))))) :
    aE s1_G d 71 152 [] [some (aP 37), some (aI x1), some (aI x2), some (aI x3), some (aI x4), some (aI x5), some (aI x6), some (aI x7), none, none] [aI t0] M Q := aE_go s1_pu_ok [(59, [true, true, true, true, true, true, true, false, false, false]), (79, [true, true, true, true, true, true, true, false, false, false]), (98, [true, true, true, true, true, true, true, false, false, false]), (117, [true, true, true, true, true, true, true, false, false, false]), (147, [true, true, true, true, true, true, true, true, false, false]), (152, [true, true, true, true, true, true, true, true, false, false]), (187, [true, true, true, true, true, true, true, false, true, false]), (188, [true, true, true, true, true, true, true, false, true, false]), (210, [true, true, true, true, true, false, true, false, false, true]), (215, [true, true, true, true, true, false, true, false, false, false]), (223, [true, true, true, true, true, false, true, false, false, false]), (289, [true, true, false, true, true, false, true, false, false, false])] 94 hd h

set_option maxRecDepth 100000 in
set_option maxHeartbeats 4000000 in
theorem s1_Story_takeIn_187 {d : Nat} (hd : 3 < d) {M : AM} {Q : Option AV → AM → Prop} {x1 x2 x3 x4 x5 x6 x8 : Int}
    (h : aE s1_G d 71 188 [] [some (aP 37), some (aI x1), some (aI x2), some (aI x3), some (aI x4), some (aI x5), some (aI x6), none, some (aI x8), none] [aI 0] M Q) :
    aE s1_G d 71 187 [] [some (aP 37), some (aI x1), some (aI x2), some (aI x3), some (aI x4), some (aI x5), some (aI x6), none, some (aI x8), none] [] M Q := aE_go s1_pu_ok [(59, [true, true, true, true, true, true, true, false, false, false]), (79, [true, true, true, true, true, true, true, false, false, false]), (98, [true, true, true, true, true, true, true, false, false, false]), (117, [true, true, true, true, true, true, true, false, false, false]), (147, [true, true, true, true, true, true, true, true, false, false]), (152, [true, true, true, true, true, true, true, true, false, false]), (187, [true, true, true, true, true, true, true, false, true, false]), (188, [true, true, true, true, true, true, true, false, true, false]), (210, [true, true, true, true, true, false, true, false, false, true]), (215, [true, true, true, true, true, false, true, false, false, false]), (223, [true, true, true, true, true, false, true, false, false, false]), (289, [true, true, false, true, true, false, true, false, false, false])] 62 hd h

set_option maxRecDepth 100000 in
set_option maxHeartbeats 4000000 in
theorem s1_Story_takeIn_188 {d : Nat} (hd : 3 < d) {M : AM} {Q : Option AV → AM → Prop} {x1 x2 x3 x4 x5 x6 x8 t0 : Int}
    (h : (x8 = (0 : Int) → aE s1_G d 71 210 [] [some (aP 37), some (aI x1), some (aI x2), some (aI x3), some (aI x4), none, some (aI x6), none, none, some (aI t0)] [] M Q) ∧ (x8 ≠ (0 : Int) → aKi s1_G d 65 [aP 56, aI x3, aI x6] M (fun z2 M1 => (z2 = x5 → aE s1_G d 71 215 [] [some (aP 37), some (aI x1), some (aI x2), some (aI x3), some (aI x4), none, some (aI x6), none, none, none] [] M1 Q) ∧ (z2 ≠ x5 → aE s1_G d 71 210 [] [some (aP 37), some (aI x1), some (aI x2), some (aI x3), some (aI x4), none, some (aI x6), none, none, some (aI t0)] [] M1 Q)))) :
    aE s1_G d 71 188 [] [some (aP 37), some (aI x1), some (aI x2), some (aI x3), some (aI x4), some (aI x5), some (aI x6), none, some (aI x8), none] [aI t0] M Q := aE_go s1_pu_ok [(59, [true, true, true, true, true, true, true, false, false, false]), (79, [true, true, true, true, true, true, true, false, false, false]), (98, [true, true, true, true, true, true, true, false, false, false]), (117, [true, true, true, true, true, true, true, false, false, false]), (147, [true, true, true, true, true, true, true, true, false, false]), (152, [true, true, true, true, true, true, true, true, false, false]), (187, [true, true, true, true, true, true, true, false, true, false]), (188, [true, true, true, true, true, true, true, false, true, false]), (210, [true, true, true, true, true, false, true, false, false, true]), (215, [true, true, true, true, true, false, true, false, false, false]), (223, [true, true, true, true, true, false, true, false, false, false]), (289, [true, true, false, true, true, false, true, false, false, false])] 80 hd h

set_option maxRecDepth 100000 in
set_option maxHeartbeats 4000000 in
theorem s1_Story_takeIn_210 {d : Nat} (hd : 3 < d) {M : AM} {Q : Option AV → AM → Prop} {x1 x2 x3 x4 x6 x9 : Int}
    (h : (x9 = (0 : Int) → aE s1_G d 71 223 [] [some (aP 37), some (aI x1), some (aI x2), some (aI x3), some (aI x4), none, some (aI x6), none, none, none] [] M Q) ∧ (x9 ≠ (0 : Int) → aE s1_G d 71 215 [] [some (aP 37), some (aI x1), some (aI x2), some (aI x3), some (aI x4), none, some (aI x6), none, none, none] [] M Q)) :
    aE s1_G d 71 210 [] [some (aP 37), some (aI x1), some (aI x2), some (aI x3), some (aI x4), none, some (aI x6), none, none, some (aI x9)] [] M Q := aE_go s1_pu_ok [(59, [true, true, true, true, true, true, true, false, false, false]), (79, [true, true, true, true, true, true, true, false, false, false]), (98, [true, true, true, true, true, true, true, false, false, false]), (117, [true, true, true, true, true, true, true, false, false, false]), (147, [true, true, true, true, true, true, true, true, false, false]), (152, [true, true, true, true, true, true, true, true, false, false]), (187, [true, true, true, true, true, true, true, false, true, false]), (188, [true, true, true, true, true, true, true, false, true, false]), (210, [true, true, true, true, true, false, true, false, false, true]), (215, [true, true, true, true, true, false, true, false, false, false]), (223, [true, true, true, true, true, false, true, false, false, false]), (289, [true, true, false, true, true, false, true, false, false, false])] 64 hd h

set_option maxRecDepth 100000 in
set_option maxHeartbeats 4000000 in
theorem s1_Story_takeIn_215 {d : Nat} (hd : 3 < d) {M : AM} {Q : Option AV → AM → Prop} {x1 x2 x3 x4 x6 : Int}
    (h : aKv s1_G d 67 [aP 56, aI x3] M (fun M1 => aE s1_G d 71 223 [] [some (aP 37), some (aI x1), some (aI x2), some (aI x3), some (aI x4), none, some (aI x6), none, none, none] [] M1 Q)) :
    aE s1_G d 71 215 [] [some (aP 37), some (aI x1), some (aI x2), some (aI x3), some (aI x4), none, some (aI x6), none, none, none] [] M Q := aE_go s1_pu_ok [(59, [true, true, true, true, true, true, true, false, false, false]), (79, [true, true, true, true, true, true, true, false, false, false]), (98, [true, true, true, true, true, true, true, false, false, false]), (117, [true, true, true, true, true, true, true, false, false, false]), (147, [true, true, true, true, true, true, true, true, false, false]), (152, [true, true, true, true, true, true, true, true, false, false]), (187, [true, true, true, true, true, true, true, false, true, false]), (188, [true, true, true, true, true, true, true, false, true, false]), (210, [true, true, true, true, true, false, true, false, false, true]), (215, [true, true, true, true, true, false, true, false, false, false]), (223, [true, true, true, true, true, false, true, false, false, false]), (289, [true, true, false, true, true, false, true, false, false, false])] 68 hd h

set_option maxRecDepth 100000 in
set_option maxHeartbeats 4000000 in
theorem s1_Story_takeIn_223 {d : Nat} (hd : 3 < d) {M : AM} {Q : Option AV → AM → Prop} {x1 x2 x3 x4 x6 : Int}
    (h : aKi s1_G d 76 [aP 37, aI x3, aI x4] M (fun z2 M1 => (z2 ≠ (0 : Int) → aE s1_G d 71 289 [] [some (aP 37), some (aI x1), none, some (aI x3), some (aI x4), none, some (aI x6), none, none, none] [] M1 Q) ∧ (z2 = (0 : Int) → (0 ≤ x3 ∧ x3 < 12) ∧ ((0 ≤ x3 ∧ x3 < 12) ∧ ((0 ≤ x3 ∧ x3 < 12) ∧ ((0 ≤ x4 ∧ x4 < 40) ∧ ((0 ≤ x3 ∧ x3 < 12) ∧ ((0 ≤ x3 ∧ x3 < 12) ∧ (aKi s1_G d 77 [aP 37, aI x3] (am_up (am_up (am_up (am_up M1 38 x3 (a_lor (M1 38 x3) (a_lshl 1 x4))) 39 (x3 * 40 + x4) x2) 52 x3 (-1)) 53 x3 (-1)) (fun z4 M3 => aKv s1_G d 15 [aP 62, aI x3, aI x4, aI 0, aI x6, aI x1, aI z4] M3 (fun M5 => aE s1_G d 71 289 [] [some (aP 37), some (aI x1), none, some (aI x3), some (aI x4), none, some (aI x6), none, none, none] [] M5 Q))))))))))) :
    aE s1_G d 71 223 [] [some (aP 37), some (aI x1), some (aI x2), some (aI x3), some (aI x4), none, some (aI x6), none, none, none] [] M Q := aE_go s1_pu_ok [(59, [true, true, true, true, true, true, true, false, false, false]), (79, [true, true, true, true, true, true, true, false, false, false]), (98, [true, true, true, true, true, true, true, false, false, false]), (117, [true, true, true, true, true, true, true, false, false, false]), (147, [true, true, true, true, true, true, true, true, false, false]), (152, [true, true, true, true, true, true, true, true, false, false]), (187, [true, true, true, true, true, true, true, false, true, false]), (188, [true, true, true, true, true, true, true, false, true, false]), (210, [true, true, true, true, true, false, true, false, false, true]), (215, [true, true, true, true, true, false, true, false, false, false]), (223, [true, true, true, true, true, false, true, false, false, false]), (289, [true, true, false, true, true, false, true, false, false, false])] 146 hd h

set_option maxRecDepth 100000 in
set_option maxHeartbeats 4000000 in
theorem s1_Story_takeIn_289 {d : Nat} (hd : 3 < d) {M : AM} {Q : Option AV → AM → Prop} {x1 x3 x4 x6 : Int}
    (h : aKi s1_G d 72 [aP 37, aI x3, aI x4, aI x6] M (fun z2 M1 => aKv s1_G d 74 [aP 37, aI x3, aI z2, aI x1, aI 3] M1 (fun M3 => Q none M3))) :
    aE s1_G d 71 289 [] [some (aP 37), some (aI x1), none, some (aI x3), some (aI x4), none, some (aI x6), none, none, none] [] M Q := aE_go s1_pu_ok [(59, [true, true, true, true, true, true, true, false, false, false]), (79, [true, true, true, true, true, true, true, false, false, false]), (98, [true, true, true, true, true, true, true, false, false, false]), (117, [true, true, true, true, true, true, true, false, false, false]), (147, [true, true, true, true, true, true, true, true, false, false]), (152, [true, true, true, true, true, true, true, true, false, false]), (187, [true, true, true, true, true, true, true, false, true, false]), (188, [true, true, true, true, true, true, true, false, true, false]), (210, [true, true, true, true, true, false, true, false, false, true]), (215, [true, true, true, true, true, false, true, false, false, false]), (223, [true, true, true, true, true, false, true, false, false, false]), (289, [true, true, false, true, true, false, true, false, false, false])] 82 hd h

-- 72: DioceseBook$Story.otherToKeep(III)I
set_option maxRecDepth 100000 in
set_option maxHeartbeats 4000000 in
theorem s1_Story_otherToKeep_0 {d : Nat} (hd : 3 < d) {M : AM} {Q : Option AV → AM → Prop} {x1 x2 x3 : Int}
    (h : aE s1_G d 72 6 [] [some (aP 37), some (aI x1), some (aI x2), some (aI x3), some (aI (-1)), some (aI 0)] [] M Q) :
    aE s1_G d 72 0 [] [some (aP 37), some (aI x1), some (aI x2), some (aI x3), none, none] [] M Q := aE_go s1_pu_ok [(6, [true, true, true, true, true, true])] 68 hd h

set_option maxRecDepth 100000 in
set_option maxHeartbeats 4000000 in
theorem s1_Story_otherToKeep_6 {d : Nat} (hd : 3 < d) {M : AM} {Q : Option AV → AM → Prop} {x1 x2 x3 x4 x5 : Int}
    (h : ((M 1 5) ≤ x5 → (x4 = ((-1) : Int) → Q (some (aI (-1))) M) ∧ (x4 ≠ ((-1) : Int) → aKi s1_G d 73 [aP 37, aI x1, aI x4, aI x2, aI x3] M (fun z2 M1 => (z2 = (0 : Int) → Q (some (aI (-1))) M1) ∧ (z2 ≠ (0 : Int) → Q (some (aI x4)) M1)))) ∧ (x5 < (M 1 5) → (x5 = x1 → aE s1_G d 72 6 [] [some (aP 37), some (aI x1), some (aI x2), some (aI x3), some (aI x4), some (aI (a_add x5 1))] [] M Q) ∧ (x5 ≠ x1 → aKi s1_G d 76 [aP 37, aI x5, aI x2] M (fun z4 M3 => (z4 = (0 : Int) → aE s1_G d 72 6 [] [some (aP 37), some (aI x1), some (aI x2), some (aI x3), some (aI x4), some (aI (a_add x5 1))] [] M3 Q) ∧ (z4 ≠ (0 : Int) → (x4 = ((-1) : Int) → aE s1_G d 72 6 [] [some (aP 37), some (aI x1), some (aI x2), some (aI x3), some (aI x5), some (aI (a_add x5 1))] [] M3 Q) ∧ (x4 ≠ ((-1) : Int) → (0 ≤ x5 ∧ x5 < 12) ∧ ((0 ≤ x2 ∧ x2 < 40) ∧ ((0 ≤ x4 ∧ x4 < 12) ∧ ((0 ≤ x2 ∧ x2 < 40) ∧ (((M3 39 (x5 * 40 + x2)) ≤ (M3 39 (x4 * 40 + x2)) → aE s1_G d 72 6 [] [some (aP 37), some (aI x1), some (aI x2), some (aI x3), some (aI x4), some (aI (a_add x5 1))] [] M3 Q) ∧ ((M3 39 (x4 * 40 + x2)) < (M3 39 (x5 * 40 + x2)) → aE s1_G d 72 6 [] [some (aP 37), some (aI x1), some (aI x2), some (aI x3), some (aI x5), some (aI (a_add x5 1))] [] M3 Q))))))))))) :
    aE s1_G d 72 6 [] [some (aP 37), some (aI x1), some (aI x2), some (aI x3), some (aI x4), some (aI x5)] [] M Q := aE_go s1_pu_ok [(6, [true, true, true, true, true, true])] 180 hd h

-- 73: DioceseBook$Story.mayHoldBoth(IIII)Z
set_option maxRecDepth 100000 in
set_option maxHeartbeats 4000000 in
theorem s1_Story_mayHoldBoth_0 {d : Nat} (hd : 3 < d) {M : AM} {Q : Option AV → AM → Prop} {x1 x2 x3 x4 : Int}
    (h : aKi s1_G d 6 [aP 24, aI 2, aI x4] M (fun z2 M1 => aKi s1_G d 33 [aP 6, aI 5, aI x3, aI x4] M1 (fun z4 M3 => (z4 = (0 : Int) → ((0 : Int) = 0 ∨ (0 : Int) = 1) ∧ Q (some (aI 0)) M3) ∧ (z4 ≠ (0 : Int) → aKi s1_G d 57 [aP 1, aI x1, aI x2] M3 (fun z6 M5 => aKi s1_G d 6 [aP 24, aI 1, aI x4] M5 (fun z8 M7 => (z8 < z6 → ((0 : Int) = 0 ∨ (0 : Int) = 1) ∧ Q (some (aI 0)) M7) ∧ (z6 ≤ z8 → (0 ≤ x1 ∧ x1 < 12) ∧ ((z2 < (M7 5 x1) → ((0 : Int) = 0 ∨ (0 : Int) = 1) ∧ Q (some (aI 0)) M7) ∧ ((M7 5 x1) ≤ z2 → (0 ≤ x2 ∧ x2 < 12) ∧ ((z2 < (M7 5 x2) → ((0 : Int) = 0 ∨ (0 : Int) = 1) ∧ Q (some (aI 0)) M7) ∧ ((M7 5 x2) ≤ z2 → ((1 : Int) = 0 ∨ (1 : Int) = 1) ∧ Q (some (aI 1)) M7))))))))))) :
    aE s1_G d 73 0 [] [some (aP 37), some (aI x1), some (aI x2), some (aI x3), some (aI x4), none] [] M Q := aE_go s1_pu_ok [] 158 hd h

-- 74: DioceseBook$Story.fallFromAllBut(IIII)V
set_option maxRecDepth 100000 in
set_option maxHeartbeats 4000000 in
theorem s1_Story_fallFromAllBut_0 {d : Nat} (hd : 3 < d) {M : AM} {Q : Option AV → AM → Prop} {x1 x2 x3 x4 : Int}
    (h : aE s1_G d 74 3 [] [some (aP 37), some (aI x1), some (aI x2), some (aI x3), some (aI x4), some (aI 0)] [] M Q) :
    aE s1_G d 74 0 [] [some (aP 37), some (aI x1), some (aI x2), some (aI x3), some (aI x4), none] [] M Q := aE_go s1_pu_ok [(3, [true, true, true, true, true, true])] 64 hd h

set_option maxRecDepth 100000 in
set_option maxHeartbeats 4000000 in
theorem s1_Story_fallFromAllBut_3 {d : Nat} (hd : 3 < d) {M : AM} {Q : Option AV → AM → Prop} {x1 x2 x3 x4 x5 : Int}
    (h : ((M 1 5) ≤ x5 → Q none M) ∧ (x5 < (M 1 5) → (x5 = x1 → aE s1_G d 74 3 [] [some (aP 37), some (aI x1), some (aI x2), some (aI x3), some (aI x4), some (aI (a_add x5 1))] [] M Q) ∧ (x5 ≠ x1 → (x5 = x2 → aE s1_G d 74 3 [] [some (aP 37), some (aI x1), some (aI x2), some (aI x3), some (aI x4), some (aI (a_add x5 1))] [] M Q) ∧ (x5 ≠ x2 → aKv s1_G d 75 [aP 37, aI x5, aI x3, aI x4] M (fun M1 => aE s1_G d 74 3 [] [some (aP 37), some (aI x1), some (aI x2), some (aI x3), some (aI x4), some (aI (a_add x5 1))] [] M1 Q))))) :
    aE s1_G d 74 3 [] [some (aP 37), some (aI x1), some (aI x2), some (aI x3), some (aI x4), some (aI x5)] [] M Q := aE_go s1_pu_ok [(3, [true, true, true, true, true, true])] 106 hd h

-- 75: DioceseBook$Story.fall(III)V
set_option maxRecDepth 100000 in
set_option maxHeartbeats 4000000 in
theorem s1_Story_fall_0 {d : Nat} (hd : 3 < d) {M : AM} {Q : Option AV → AM → Prop} {x1 x2 x3 : Int}
    (h : (0 ≤ x2 ∧ x2 < 150) ∧ (aKi s1_G d 76 [aP 37, aI x1, aI (M 11 x2)] M (fun z2 M1 => (z2 ≠ (0 : Int) → (0 ≤ x1 ∧ x1 < 12) ∧ ((0 ≤ x1 ∧ x1 < 12) ∧ ((0 ≤ x1 ∧ x1 < 12) ∧ (((a_cmp ((am_up M1 38 x1 (a_land (M1 38 x1) (a_lxor (a_lshl 1 (M 11 x2)) (-1)))) 38 x1) 0) ≠ (0 : Int) → (0 ≤ x2 ∧ x2 < 150) ∧ (aKi s1_G d 77 [aP 37, aI x1] (am_up M1 38 x1 (a_land (M1 38 x1) (a_lxor (a_lshl 1 (M 11 x2)) (-1)))) (fun z4 M3 => aKv s1_G d 15 [aP 62, aI x1, aI (M 11 x2), aI 1, aI ((am_up M1 38 x1 (a_land (M1 38 x1) (a_lxor (a_lshl 1 (M 11 x2)) (-1)))) 8 x2), aI x2, aI z4] M3 (fun M5 => Q none M5)))) ∧ ((a_cmp ((am_up M1 38 x1 (a_land (M1 38 x1) (a_lxor (a_lshl 1 (M 11 x2)) (-1)))) 38 x1) 0) = (0 : Int) → (0 ≤ x2 ∧ x2 < 150) ∧ ((0 ≤ x1 ∧ x1 < 12) ∧ ((0 ≤ x1 ∧ x1 < 12) ∧ ((0 ≤ x2 ∧ x2 < 150) ∧ (aKi s1_G d 77 [aP 37, aI x1] (am_up (am_up (am_up M1 38 x1 (a_land (M1 38 x1) (a_lxor (a_lshl 1 (M 11 x2)) (-1)))) 52 x1 ((am_up M1 38 x1 (a_land (M1 38 x1) (a_lxor (a_lshl 1 (M 11 x2)) (-1)))) 8 x2)) 53 x1 x3) (fun z7 M6 => aKv s1_G d 15 [aP 62, aI x1, aI (M 11 x2), aI 1, aI ((am_up (am_up (am_up M1 38 x1 (a_land (M1 38 x1) (a_lxor (a_lshl 1 (M 11 x2)) (-1)))) 52 x1 ((am_up M1 38 x1 (a_land (M1 38 x1) (a_lxor (a_lshl 1 (M 11 x2)) (-1)))) 8 x2)) 53 x1 x3) 8 x2), aI x2, aI z7] M6 (fun M8 => Q none M8))))))))))) ∧ (z2 = (0 : Int) → Q none M1)))) :
    aE s1_G d 75 0 [] [some (aP 37), some (aI x1), some (aI x2), some (aI x3), none] [] M Q := aE_go s1_pu_ok [] 214 hd h

-- 76: DioceseBook$Story.isHolder(II)Z
set_option maxRecDepth 100000 in
set_option maxHeartbeats 4000000 in
theorem s1_Story_isHolder_0 {d : Nat} (hd : 3 < d) {M : AM} {Q : Option AV → AM → Prop} {x1 x2 : Int}
    (h : (0 ≤ x1 ∧ x1 < 12) ∧ (((a_cmp (a_land (a_lshr (M 38 x1) x2) 1) 1) ≠ (0 : Int) → ((0 : Int) = 0 ∨ (0 : Int) = 1) ∧ Q (some (aI 0)) M) ∧ ((a_cmp (a_land (a_lshr (M 38 x1) x2) 1) 1) = (0 : Int) → ((1 : Int) = 0 ∨ (1 : Int) = 1) ∧ Q (some (aI 1)) M))) :
    aE s1_G d 76 0 [] [some (aP 37), some (aI x1), some (aI x2)] [] M Q := aE_go s1_pu_ok [] 92 hd h

-- 77: DioceseBook$Story.holderCount(I)I
set_option maxRecDepth 100000 in
set_option maxHeartbeats 4000000 in
theorem s1_Story_holderCount_0 {d : Nat} (hd : 3 < d) {M : AM} {Q : Option AV → AM → Prop} {x1 : Int}
    (h : (0 ≤ x1 ∧ x1 < 12) ∧ (aKi s1_G d 152 [aL (M 38 x1)] M (fun z2 M1 => Q (some (aI z2)) M1))) :
    aE s1_G d 77 0 [] [some (aP 37), some (aI x1)] [] M Q := aE_go s1_pu_ok [] 72 hd h

-- 78: DioceseBook$Story.livingsThatAre(I)I
set_option maxRecDepth 100000 in
set_option maxHeartbeats 4000000 in
theorem s1_Story_livingsThatAre_0 {d : Nat} (hd : 3 < d) {M : AM} {Q : Option AV → AM → Prop} {x1 : Int}
    (h : aE s1_G d 78 4 [] [some (aP 37), some (aI x1), some (aI 0), some (aI 0)] [] M Q) :
    aE s1_G d 78 0 [] [some (aP 37), some (aI x1), none, none] [] M Q := aE_go s1_pu_ok [(4, [true, true, true, true])] 68 hd h

set_option maxRecDepth 100000 in
set_option maxHeartbeats 4000000 in
theorem s1_Story_livingsThatAre_4 {d : Nat} (hd : 3 < d) {M : AM} {Q : Option AV → AM → Prop} {x1 x2 x3 : Int}
    (h : ((M 1 5) ≤ x3 → Q (some (aI x2)) M) ∧ (x3 < (M 1 5) → aKi s1_G d 77 [aP 37, aI x3] M (fun z2 M1 => aKi s1_G d 13 [aI z2] M1 (fun z4 M3 => (z4 ≠ x1 → aE s1_G d 78 4 [] [some (aP 37), some (aI x1), some (aI (a_add x2 (a_bl ((0 : Int) ≠ 0)))), some (aI (a_add x3 1))] [] M3 Q) ∧ (z4 = x1 → aE s1_G d 78 4 [] [some (aP 37), some (aI x1), some (aI (a_add x2 (a_bl ((1 : Int) ≠ 0)))), some (aI (a_add x3 1))] [] M3 Q))))) :
    aE s1_G d 78 4 [] [some (aP 37), some (aI x1), some (aI x2), some (aI x3)] [] M Q := aE_go s1_pu_ok [(4, [true, true, true, true])] 114 hd h

-- 79: DioceseBook$Story.firstHolder(I)I
set_option maxRecDepth 100000 in
set_option maxHeartbeats 4000000 in
theorem s1_Story_firstHolder_0 {d : Nat} (hd : 3 < d) {M : AM} {Q : Option AV → AM → Prop} {x1 : Int}
    (h : aE s1_G d 79 4 [] [some (aP 37), some (aI x1), some (aI (-1)), some (aI 0)] [] M Q) :
    aE s1_G d 79 0 [] [some (aP 37), some (aI x1), none, none] [] M Q := aE_go s1_pu_ok [(4, [true, true, true, true])] 68 hd h

set_option maxRecDepth 100000 in
set_option maxHeartbeats 4000000 in
theorem s1_Story_firstHolder_4 {d : Nat} (hd : 3 < d) {M : AM} {Q : Option AV → AM → Prop} {x1 x2 x3 : Int}
    (h : ((M 1 4) ≤ x3 → Q (some (aI x2)) M) ∧ (x3 < (M 1 4) → aKi s1_G d 76 [aP 37, aI x1, aI x3] M (fun z2 M1 => (z2 = (0 : Int) → aE s1_G d 79 4 [] [some (aP 37), some (aI x1), some (aI x2), some (aI (a_add x3 1))] [] M1 Q) ∧ (z2 ≠ (0 : Int) → (x2 = ((-1) : Int) → aE s1_G d 79 4 [] [some (aP 37), some (aI x1), some (aI x3), some (aI (a_add x3 1))] [] M1 Q) ∧ (x2 ≠ ((-1) : Int) → (0 ≤ x1 ∧ x1 < 12) ∧ ((0 ≤ x3 ∧ x3 < 40) ∧ ((0 ≤ x1 ∧ x1 < 12) ∧ ((0 ≤ x2 ∧ x2 < 40) ∧ (((M1 39 (x1 * 40 + x2)) ≤ (M1 39 (x1 * 40 + x3)) → aE s1_G d 79 4 [] [some (aP 37), some (aI x1), some (aI x2), some (aI (a_add x3 1))] [] M1 Q) ∧ ((M1 39 (x1 * 40 + x3)) < (M1 39 (x1 * 40 + x2)) → aE s1_G d 79 4 [] [some (aP 37), some (aI x1), some (aI x3), some (aI (a_add x3 1))] [] M1 Q)))))))))) :
    aE s1_G d 79 4 [] [some (aP 37), some (aI x1), some (aI x2), some (aI x3)] [] M Q := aE_go s1_pu_ok [(4, [true, true, true, true])] 140 hd h

-- 80: DioceseBook$Story.presenter(II)I
set_option maxRecDepth 100000 in
set_option maxHeartbeats 4000000 in
theorem s1_Story_presenter_0 {d : Nat} (hd : 3 < d) {M : AM} {Q : Option AV → AM → Prop} {x1 x2 : Int}
    (h : (0 ≤ x1 ∧ x1 < 12) ∧ (((a_cmp (M 38 x1) 0) = (0 : Int) → aKi s1_G d 81 [aP 37, aI x1, aI x2] M (fun z2 M1 => ((z2 = 0 → aKi s1_G d 65 [aP 56, aI x1, aI x2] M1 (fun z4 M3 => Q (some (aI z4)) M3)) ∧ (z2 = 1 → Q (some (aI (-2))) M1) ∧ (z2 = 2 → Q (some (aI (-3))) M1) ∧ True) ∧ (z2 < 0 ∨ 2 < z2 → Q (some (aI (-4))) M1))) ∧ ((a_cmp (M 38 x1) 0) ≠ (0 : Int) → Q (some (aI (-1))) M))) :
    aE s1_G d 80 0 [] [some (aP 37), some (aI x1), some (aI x2)] [] M Q := aE_go s1_pu_ok [] 112 hd h

-- 81: DioceseBook$Story.lapsedTo(II)I
set_option maxRecDepth 100000 in
set_option maxHeartbeats 4000000 in
theorem s1_Story_lapsedTo_0 {d : Nat} (hd : 3 < d) {M : AM} {Q : Option AV → AM → Prop} {x1 x2 : Int}
    (h : (0 ≤ x1 ∧ x1 < 12) ∧ (aKi s1_G d 6 [aP 24, aI 0, aI (M 52 x1)] M (fun z2 M1 => (0 ≤ x1 ∧ x1 < 12) ∧ (((M1 53 x1) ≠ (2 : Int) → (0 ≤ x1 ∧ x1 < 12) ∧ (((a_mul 30 z2) ≤ (0 : Int) → Q (some (aI 0)) M1) ∧ ((0 : Int) < (a_mul 30 z2) → ((M1 52 x1) = ((-1) : Int) → Q (some (aI 0)) M1) ∧ ((M1 52 x1) ≠ ((-1) : Int) → ((M1 52 x1) ≤ x2 → (a_mul 30 z2) ≠ 0 ∧ (Q (some (aI (if (a_div (a_sub x2 (M1 52 x1)) (a_mul 30 z2)) ≤ 3 then a_div (a_sub x2 (M1 52 x1)) (a_mul 30 z2) else 3))) M1)) ∧ (x2 < (M1 52 x1) → Q (some (aI 0)) M1))))) ∧ ((M1 53 x1) = (2 : Int) → (0 ≤ x1 ∧ x1 < 12) ∧ (aKi s1_G d 36 [aP 6, aI x1, aI (M1 52 x1)] M1 (fun z4 M3 => ((a_mul 30 z2) ≤ (0 : Int) → Q (some (aI 0)) M3) ∧ ((0 : Int) < (a_mul 30 z2) → (z4 = ((-1) : Int) → Q (some (aI 0)) M3) ∧ (z4 ≠ ((-1) : Int) → (z4 ≤ x2 → (a_mul 30 z2) ≠ 0 ∧ (Q (some (aI (if (a_div (a_sub x2 z4) (a_mul 30 z2)) ≤ 3 then a_div (a_sub x2 z4) (a_mul 30 z2) else 3))) M3)) ∧ (x2 < z4 → Q (some (aI 0)) M3)))))))))) :
    aE s1_G d 81 0 [] [some (aP 37), some (aI x1), some (aI x2), none, none] [] M Q := aE_go s1_pu_ok [] 212 hd h

-- 82: DioceseBook$Story.barOf(III)I
set_option maxRecDepth 100000 in
set_option maxHeartbeats 4000000 in
theorem s1_Story_barOf_0 {d : Nat} (hd : 3 < d) {M : AM} {Q : Option AV → AM → Prop} {x1 x2 x3 : Int}
    (h : (0 ≤ (0 : Int) ∧ (0 : Int) < 6) ∧ ((0 ≤ x1 ∧ x1 < 40) ∧ ((0 ≤ (2 : Int) ∧ (2 : Int) < 6) ∧ ((0 ≤ x1 ∧ x1 < 40) ∧ (aKi s1_G d 33 [aP 6, aI 0, aI x1, aI x3] M (fun z2 M1 => (z2 = (0 : Int) → (0 ≤ (0 : Int) ∧ (0 : Int) < 6) ∧ (aKi s1_G d 33 [aP 6, aI 2, aI x1, aI x3] (am_up M1 55 (0 : Int) (-1)) (fun z4 M3 => (z4 = (0 : Int) → (0 ≤ (1 : Int) ∧ (1 : Int) < 6) ∧ ((0 ≤ (2 : Int) ∧ (2 : Int) < 6) ∧ ((0 ≤ (3 : Int) ∧ (3 : Int) < 6) ∧ (aE s1_G d 82 101 [] [some (aP 37), some (aI x1), some (aI x2), some (aI x3), none, none, some (aI 0)] [] (am_up (am_up (am_up M3 55 (1 : Int) (-1)) 55 (2 : Int) 0) 55 (3 : Int) 0) Q)))) ∧ (z4 ≠ (0 : Int) → (0 ≤ (1 : Int) ∧ (1 : Int) < 6) ∧ ((0 ≤ (2 : Int) ∧ (2 : Int) < 6) ∧ ((0 ≤ (3 : Int) ∧ (3 : Int) < 6) ∧ (aE s1_G d 82 101 [] [some (aP 37), some (aI x1), some (aI x2), some (aI x3), none, none, some (aI 0)] [] (am_up (am_up (am_up M3 55 (1 : Int) (a_sub x3 (M 17 ((2 : Int) * 40 + x1)))) 55 (2 : Int) 0) 55 (3 : Int) 0) Q))))))) ∧ (z2 ≠ (0 : Int) → (360 : Int) ≠ 0 ∧ ((0 ≤ (0 : Int) ∧ (0 : Int) < 6) ∧ (aKi s1_G d 33 [aP 6, aI 2, aI x1, aI x3] (am_up M1 55 (0 : Int) (a_div (a_sub x3 (M 17 ((0 : Int) * 40 + x1))) 360)) (fun z6 M5 => (z6 = (0 : Int) → (0 ≤ (1 : Int) ∧ (1 : Int) < 6) ∧ ((0 ≤ (2 : Int) ∧ (2 : Int) < 6) ∧ ((0 ≤ (3 : Int) ∧ (3 : Int) < 6) ∧ (aE s1_G d 82 101 [] [some (aP 37), some (aI x1), some (aI x2), some (aI x3), none, none, some (aI 0)] [] (am_up (am_up (am_up M5 55 (1 : Int) (-1)) 55 (2 : Int) 0) 55 (3 : Int) 0) Q)))) ∧ (z6 ≠ (0 : Int) → (0 ≤ (1 : Int) ∧ (1 : Int) < 6) ∧ ((0 ≤ (2 : Int) ∧ (2 : Int) < 6) ∧ ((0 ≤ (3 : Int) ∧ (3 : Int) < 6) ∧ (aE s1_G d 82 101 [] [some (aP 37), some (aI x1), some (aI x2), some (aI x3), none, none, some (aI 0)] [] (am_up (am_up (am_up M5 55 (1 : Int) (a_sub x3 (M 17 ((2 : Int) * 40 + x1)))) 55 (2 : Int) 0) 55 (3 : Int) 0) Q)))))))))))))) :
    aE s1_G d 82 0 [] [some (aP 37), some (aI x1), some (aI x2), some (aI x3), none, none, none] [] M Q := aE_go s1_pu_ok [(101, [true, true, true, true, false, false, true])] 294 hd h

set_option maxRecDepth 100000 in
set_option maxHeartbeats 4000000 in
theorem s1_Story_barOf_101 {d : Nat} (hd : 3 < d) {M : AM} {Q : Option AV → AM → Prop} {x1 x2 x3 x6 : Int}
    (h : ((M 1 5) ≤ x6 → (0 ≤ x2 ∧ x2 < 12) ∧ ((0 ≤ (4 : Int) ∧ (4 : Int) < 6) ∧ (aKi s1_G d 33 [aP 6, aI 5, aI x1, aI x3] (am_up M 55 (4 : Int) (M 5 x2)) (fun z2 M1 => (0 ≤ (5 : Int) ∧ (5 : Int) < 6) ∧ (aKi s1_G d 10 [aP 24, aI x3, aP 55] (am_up M1 55 (5 : Int) (a_bl (z2 ≠ 0))) (fun z4 M3 => Q (some (aI z4)) M3)))))) ∧ (x6 < (M 1 5) → (x6 = x2 → aE s1_G d 82 101 [] [some (aP 37), some (aI x1), some (aI x2), some (aI x3), none, none, some (aI (a_add x6 1))] [] M Q) ∧ (x6 ≠ x2 → aKi s1_G d 76 [aP 37, aI x6, aI x1] M (fun z6 M5 => (z6 = (0 : Int) → aE s1_G d 82 101 [] [some (aP 37), some (aI x1), some (aI x2), some (aI x3), none, none, some (aI (a_add x6 1))] [] M5 Q) ∧ (z6 ≠ (0 : Int) → (0 ≤ (2 : Int) ∧ (2 : Int) < 6) ∧ ((0 ≤ (2 : Int) ∧ (2 : Int) < 6) ∧ ((0 ≤ (3 : Int) ∧ (3 : Int) < 6) ∧ (aKi s1_G d 57 [aP 1, aI x6, aI x2] (am_up M5 55 (2 : Int) (a_add (M5 55 (2 : Int)) 1)) (fun z8 M7 => (0 ≤ (3 : Int) ∧ (3 : Int) < 6) ∧ (aE s1_G d 82 101 [] [some (aP 37), some (aI x1), some (aI x2), some (aI x3), none, none, some (aI (a_add x6 1))] [] (am_up M7 55 (3 : Int) (if z8 ≤ ((am_up M5 55 (2 : Int) (a_add (M5 55 (2 : Int)) 1)) 55 (3 : Int)) then (am_up M5 55 (2 : Int) (a_add (M5 55 (2 : Int)) 1)) 55 (3 : Int) else z8)) Q)))))))))) :
    aE s1_G d 82 101 [] [some (aP 37), some (aI x1), some (aI x2), some (aI x3), none, none, some (aI x6)] [] M Q := aE_go s1_pu_ok [(101, [true, true, true, true, false, false, true])] 196 hd h

-- 83: DioceseBook$Story.decayOf(II)I
set_option maxRecDepth 100000 in
set_option maxHeartbeats 4000000 in
theorem s1_Story_decayOf_0 {d : Nat} (hd : 3 < d) {M : AM} {Q : Option AV → AM → Prop} {x1 x2 : Int}
    (h : aKi s1_G d 17 [aP 62, aI x1, aI x2] M (fun z2 M1 => (z2 ≠ ((-1) : Int) → aE s1_G d 83 23 [] [some (aP 37), none, some (aI x2), some (aI z2), some (aI (-1)), some (aI 0), none] [] M1 Q) ∧ (z2 = ((-1) : Int) → Q (some (aI 0)) M1))) :
    aE s1_G d 83 0 [] [some (aP 37), some (aI x1), some (aI x2), none, none, none, none] [] M Q := aE_go s1_pu_ok [(23, [true, false, true, true, true, true, false])] 90 hd h

set_option maxRecDepth 100000 in
set_option maxHeartbeats 4000000 in
theorem s1_Story_decayOf_23 {d : Nat} (hd : 3 < d) {M : AM} {Q : Option AV → AM → Prop} {x2 x3 x4 x5 : Int}
    (h : ((M 6 12) ≤ x5 → Q (some (aI (if (0 : Int) ≤ x4 then x4 else 0))) M) ∧ (x5 < (M 6 12) → (0 ≤ x5 ∧ x5 < 150) ∧ ((0 ≤ (M 16 x5) ∧ (M 16 x5) < 150) ∧ (((M 7 (M 16 x5)) ≠ (11 : Int) → aE s1_G d 83 23 [] [some (aP 37), none, some (aI x2), some (aI x3), some (aI x4), some (aI (a_add x5 1)), none] [] M Q) ∧ ((M 7 (M 16 x5)) = (11 : Int) → (0 ≤ (M 16 x5) ∧ (M 16 x5) < 150) ∧ (((M 10 (M 16 x5)) ≠ x2 → aE s1_G d 83 23 [] [some (aP 37), none, some (aI x2), some (aI x3), some (aI x4), some (aI (a_add x5 1)), none] [] M Q) ∧ ((M 10 (M 16 x5)) = x2 → (0 ≤ (M 16 x5) ∧ (M 16 x5) < 150) ∧ (((a_bl (x3 ≤ (M 8 (M 16 x5)) ∧ (M 8 (M 16 x5)) ≤ (a_add x3 90))) = (0 : Int) → aE s1_G d 83 23 [] [some (aP 37), none, some (aI x2), some (aI x3), some (aI x4), some (aI (a_add x5 1)), none] [] M Q) ∧ ((a_bl (x3 ≤ (M 8 (M 16 x5)) ∧ (M 8 (M 16 x5)) ≤ (a_add x3 90))) ≠ (0 : Int) → (x4 = ((-1) : Int) → (0 ≤ (M 16 x5) ∧ (M 16 x5) < 150) ∧ (aE s1_G d 83 23 [] [some (aP 37), none, some (aI x2), some (aI x3), some (aI (M 13 (M 16 x5))), some (aI (a_add x5 1)), none] [] M Q)) ∧ (x4 ≠ ((-1) : Int) → (0 ≤ (M 16 x5) ∧ (M 16 x5) < 150) ∧ (aKi s1_G d 6 [aP 24, aI 5, aI x3] M (fun z2 M1 => aKi s1_G d 84 [aI x4, aI (M 13 (M 16 x5)), aI z2] M1 (fun z4 M3 => Q (some (aI z4)) M3))))))))))))) :
    aE s1_G d 83 23 [] [some (aP 37), none, some (aI x2), some (aI x3), some (aI x4), some (aI x5), none] [] M Q := aE_go s1_pu_ok [(23, [true, false, true, true, true, true, false])] 200 hd h

-- 84: DioceseBook$Story.ofBoth(III)I
set_option maxRecDepth 100000 in
set_option maxHeartbeats 4000000 in
theorem s1_Story_ofBoth_0 {d : Nat} (hd : 3 < d) {M : AM} {Q : Option AV → AM → Prop} {x0 x1 x2 : Int}
    (h : (x2 = 0 → Q (some (aI (if x0 ≤ x1 then x0 else x1))) M) ∧ (x2 ≠ 0 → (x2 = 1 → Q (some (aI (if x1 ≤ x0 then x0 else x1))) M) ∧ (x2 ≠ 1 → (2 : Int) ≠ 0 ∧ (Q (some (aI (a_div (a_add x0 x1) 2))) M)))) :
    aE s1_G d 84 0 [] [some (aI x0), some (aI x1), some (aI x2)] [] M Q := aE_go s1_pu_ok [] 92 hd h

-- 85: DioceseBook$Suits.add(I)I
set_option maxRecDepth 100000 in
set_option maxHeartbeats 4000000 in
theorem s1_Suits_add_0 {d : Nat} (hd : 3 < d) {M : AM} {Q : Option AV → AM → Prop} {x1 : Int}
    (h : ((M 69 4) < (20 : Int) → (0 ≤ (M 69 4) ∧ (M 69 4) < 20) ∧ ((0 ≤ ((am_up M 70 (M 69 4) x1) 69 4) ∧ ((am_up M 70 (M 69 4) x1) 69 4) < 20) ∧ (Q (some (aI ((am_up (am_up M 70 (M 69 4) x1) 71 ((am_up M 70 (M 69 4) x1) 69 4) 0) 69 4))) (am_up (am_up (am_up M 70 (M 69 4) x1) 71 ((am_up M 70 (M 69 4) x1) 69 4) 0) 69 4 (a_add ((am_up (am_up M 70 (M 69 4) x1) 71 ((am_up M 70 (M 69 4) x1) 69 4) 0) 69 4) 1))))) ∧ ((20 : Int) ≤ (M 69 4) → Q (some (aI (-100004))) M)) :
    aE s1_G d 85 0 [] [some (aP 69), some (aI x1)] [] M Q := aE_go s1_pu_ok [] 112 hd h

-- 86: DioceseBook$Suits.addStep(II)I
set_option maxRecDepth 100000 in
set_option maxHeartbeats 4000000 in
theorem s1_Suits_addStep_0 {d : Nat} (hd : 3 < d) {M : AM} {Q : Option AV → AM → Prop} {x1 x2 : Int}
    (h : (0 ≤ x1 ∧ x1 < 20) ∧ (((M 71 x1) < (5 : Int) → (0 ≤ x1 ∧ x1 < 20) ∧ ((0 ≤ x1 ∧ x1 < 20) ∧ ((0 ≤ (M 71 x1) ∧ (M 71 x1) < 5) ∧ ((0 ≤ x1 ∧ x1 < 20) ∧ ((0 ≤ x1 ∧ x1 < 20) ∧ ((0 ≤ x1 ∧ x1 < 20) ∧ (Q (some (aI ((am_up (am_up M 72 (x1 * 5 + (M 71 x1)) x2) 71 x1 (a_add ((am_up M 72 (x1 * 5 + (M 71 x1)) x2) 71 x1) 1)) 71 x1))) (am_up (am_up M 72 (x1 * 5 + (M 71 x1)) x2) 71 x1 (a_add ((am_up M 72 (x1 * 5 + (M 71 x1)) x2) 71 x1) 1))))))))) ∧ ((5 : Int) ≤ (M 71 x1) → Q (some (aI (-100003))) M))) :
    aE s1_G d 86 0 [] [some (aP 69), some (aI x1), some (aI x2)] [] M Q := aE_go s1_pu_ok [] 122 hd h

-- 87: DioceseBook$Suits.undoFrom(II)I
set_option maxRecDepth 100000 in
set_option maxHeartbeats 4000000 in
theorem s1_Suits_undoFrom_0 {d : Nat} (hd : 3 < d) {M : AM} {Q : Option AV → AM → Prop} {x1 x2 : Int}
    (h : (0 ≤ x1 ∧ x1 < 20) ∧ ((x2 ≤ (M 71 x1) → (0 ≤ x1 ∧ x1 < 20) ∧ ((0 ≤ x1 ∧ x1 < 20) ∧ (Q (some (aI ((am_up M 71 x1 (a_sub x2 1)) 71 x1))) (am_up M 71 x1 (a_sub x2 1))))) ∧ ((M 71 x1) < x2 → Q (some (aI (-100003))) M))) :
    aE s1_G d 87 0 [] [some (aP 69), some (aI x1), some (aI x2)] [] M Q := aE_go s1_pu_ok [] 100 hd h

-- 88: DioceseBook$Suits.stepsBy(II)I
set_option maxRecDepth 100000 in
set_option maxHeartbeats 4000000 in
theorem s1_Suits_stepsBy_0 {d : Nat} (hd : 3 < d) {M : AM} {Q : Option AV → AM → Prop} {x1 x2 : Int}
    (h : aE s1_G d 88 2 [] [some (aP 69), some (aI x1), some (aI x2), some (aI 0)] [] M Q) :
    aE s1_G d 88 0 [] [some (aP 69), some (aI x1), some (aI x2), none] [] M Q := aE_go s1_pu_ok [(2, [true, true, true, true])] 64 hd h

set_option maxRecDepth 100000 in
set_option maxHeartbeats 4000000 in
theorem s1_Suits_stepsBy_2 {d : Nat} (hd : 3 < d) {M : AM} {Q : Option AV → AM → Prop} {x1 x2 x3 : Int}
    (h : (0 ≤ x1 ∧ x1 < 20) ∧ (((M 71 x1) ≤ x3 → Q (some (aI x3)) M) ∧ (x3 < (M 71 x1) → (0 ≤ x1 ∧ x1 < 20) ∧ ((0 ≤ x3 ∧ x3 < 5) ∧ ((x2 < (M 72 (x1 * 5 + x3)) → Q (some (aI x3)) M) ∧ ((M 72 (x1 * 5 + x3)) ≤ x2 → aE s1_G d 88 2 [] [some (aP 69), some (aI x1), some (aI x2), some (aI (a_add x3 1))] [] M Q)))))) :
    aE s1_G d 88 2 [] [some (aP 69), some (aI x1), some (aI x2), some (aI x3)] [] M Q := aE_go s1_pu_ok [(2, [true, true, true, true])] 100 hd h

-- 89: DioceseBook$Suits.lastDay(II)I
set_option maxRecDepth 100000 in
set_option maxHeartbeats 4000000 in
theorem s1_Suits_lastDay_0 {d : Nat} (hd : 3 < d) {M : AM} {Q : Option AV → AM → Prop} {x1 x2 : Int}
    (h : aKi s1_G d 88 [aP 69, aI x1, aI x2] M (fun z2 M1 => (z2 ≤ (0 : Int) → (0 ≤ x1 ∧ x1 < 20) ∧ ((x2 < (M1 70 x1) → Q (some (aI (-1))) M1) ∧ ((M1 70 x1) ≤ x2 → (0 ≤ x1 ∧ x1 < 20) ∧ (Q (some (aI (M1 70 x1))) M1)))) ∧ ((0 : Int) < z2 → (0 ≤ x1 ∧ x1 < 20) ∧ ((0 ≤ (a_sub z2 1) ∧ (a_sub z2 1) < 5) ∧ (Q (some (aI (M1 72 (x1 * 5 + (a_sub z2 1))))) M1))))) :
    aE s1_G d 89 0 [] [some (aP 69), some (aI x1), some (aI x2), none] [] M Q := aE_go s1_pu_ok [] 120 hd h

-- 90: DioceseBook$Suits.sleeps(II)Z
set_option maxRecDepth 100000 in
set_option maxHeartbeats 4000000 in
theorem s1_Suits_sleeps_0 {d : Nat} (hd : 3 < d) {M : AM} {Q : Option AV → AM → Prop} {x1 x2 : Int}
    (h : aKi s1_G d 89 [aP 69, aI x1, aI x2] M (fun z2 M1 => aKi s1_G d 6 [aP 24, aI 6, aI x2] M1 (fun z4 M3 => (z2 = ((-1) : Int) → ((0 : Int) = 0 ∨ (0 : Int) = 1) ∧ Q (some (aI 0)) M3) ∧ (z2 ≠ ((-1) : Int) → (z4 ≤ (0 : Int) → ((0 : Int) = 0 ∨ (0 : Int) = 1) ∧ Q (some (aI 0)) M3) ∧ ((0 : Int) < z4 → aKi s1_G d 88 [aP 69, aI x1, aI x2] M3 (fun z6 M5 => ((5 : Int) ≤ z6 → ((0 : Int) = 0 ∨ (0 : Int) = 1) ∧ Q (some (aI 0)) M5) ∧ (z6 < (5 : Int) → ((a_sub x2 z2) ≤ z4 → ((0 : Int) = 0 ∨ (0 : Int) = 1) ∧ Q (some (aI 0)) M5) ∧ (z4 < (a_sub x2 z2) → ((1 : Int) = 0 ∨ (1 : Int) = 1) ∧ Q (some (aI 1)) M5)))))))) :
    aE s1_G d 90 0 [] [some (aP 69), some (aI x1), some (aI x2), none, none] [] M Q := aE_go s1_pu_ok [] 136 hd h

-- 91: DioceseBook$Suits.fees(I)I
set_option maxRecDepth 100000 in
set_option maxHeartbeats 4000000 in
theorem s1_Suits_fees_0 {d : Nat} (hd : 3 < d) {M : AM} {Q : Option AV → AM → Prop} {x1 : Int}
    (h : aE s1_G d 91 4 [] [some (aP 69), some (aI x1), some (aI 0), some (aI 0)] [] M Q) :
    aE s1_G d 91 0 [] [some (aP 69), some (aI x1), none, none] [] M Q := aE_go s1_pu_ok [(4, [true, true, true, true])] 68 hd h

set_option maxRecDepth 100000 in
set_option maxHeartbeats 4000000 in
theorem s1_Suits_fees_4 {d : Nat} (hd : 3 < d) {M : AM} {Q : Option AV → AM → Prop} {x1 x2 x3 : Int}
    (h : (0 ≤ x1 ∧ x1 < 20) ∧ (((M 71 x1) ≤ x3 → Q (some (aI x2)) M) ∧ (x3 < (M 71 x1) → (0 ≤ x1 ∧ x1 < 20) ∧ ((0 ≤ x3 ∧ x3 < 5) ∧ (aKi s1_G d 6 [aP 24, aI 7, aI (M 72 (x1 * 5 + x3))] M (fun z2 M1 => aE s1_G d 91 4 [] [some (aP 69), some (aI x1), some (aI (a_add x2 z2)), some (aI (a_add x3 1))] [] M1 Q)))))) :
    aE s1_G d 91 4 [] [some (aP 69), some (aI x1), some (aI x2), some (aI x3)] [] M Q := aE_go s1_pu_ok [(4, [true, true, true, true])] 106 hd h

-- 92: DioceseBook$Terriers.add(IIII)I
set_option maxRecDepth 100000 in
set_option maxHeartbeats 4000000 in
theorem s1_Terriers_add_0 {d : Nat} (hd : 3 < d) {M : AM} {Q : Option AV → AM → Prop} {x1 x2 x3 x4 : Int}
    (h : (0 ≤ x1 ∧ x1 < 24) ∧ (((M 94 x1) < (8 : Int) → (0 ≤ x1 ∧ x1 < 24) ∧ ((0 ≤ (M 94 x1) ∧ (M 94 x1) < 8) ∧ ((0 ≤ x1 ∧ x1 < 24) ∧ ((0 ≤ (M 94 x1) ∧ (M 94 x1) < 8) ∧ ((0 ≤ x1 ∧ x1 < 24) ∧ ((0 ≤ (M 94 x1) ∧ (M 94 x1) < 8) ∧ ((0 ≤ x1 ∧ x1 < 24) ∧ ((0 ≤ x1 ∧ x1 < 24) ∧ (Q (some (aI (M 94 x1))) (am_up (am_up (am_up (am_up (am_up M 95 (x1 * 8 + (M 94 x1)) x2) 120 (x1 * 8 + (M 94 x1)) x3) 145 (x1 * 8 + (M 94 x1)) x4) 94 x1 (a_add ((am_up (am_up (am_up M 95 (x1 * 8 + (M 94 x1)) x2) 120 (x1 * 8 + (M 94 x1)) x3) 145 (x1 * 8 + (M 94 x1)) x4) 94 x1) 1)) 93 6 (-1))))))))))) ∧ ((8 : Int) ≤ (M 94 x1) → Q (some (aI (-100004))) M))) :
    aE s1_G d 92 0 [] [some (aP 93), some (aI x1), some (aI x2), some (aI x3), some (aI x4), none] [] M Q := aE_go s1_pu_ok [] 148 hd h

-- 93: DioceseBook$Terriers.leastCost()I
set_option maxRecDepth 100000 in
set_option maxHeartbeats 4000000 in
theorem s1_Terriers_leastCost_0 {d : Nat} (hd : 3 < d) {M : AM} {Q : Option AV → AM → Prop}
    (h : (0 ≤ (0 : Int) ∧ (0 : Int) < 9) ∧ ((0 ≤ (0 : Int) ∧ (0 : Int) < 256) ∧ (Q (some (aI (M 170 ((0 : Int) * 256 + (0 : Int))))) M))) :
    aE s1_G d 93 0 [] [some (aP 93)] [] M Q := aE_go s1_pu_ok [] 74 hd h

-- 94: DioceseBook$Terriers.partner(II)I
set_option maxRecDepth 100000 in
set_option maxHeartbeats 4000000 in
theorem s1_Terriers_partner_0 {d : Nat} (hd : 3 < d) {M : AM} {Q : Option AV → AM → Prop} {x1 x2 : Int}
    (h : (0 ≤ (a_mul 2 x1) ∧ (a_mul 2 x1) < 24) ∧ (((a_bl (0 ≤ x2 ∧ x2 ≤ (a_sub (M 94 (a_mul 2 x1)) 1))) = (0 : Int) → Q (some (aI (-1))) M) ∧ ((a_bl (0 ≤ x2 ∧ x2 ≤ (a_sub (M 94 (a_mul 2 x1)) 1))) ≠ (0 : Int) → (0 ≤ x2 ∧ x2 < 8) ∧ (Q (some (aI (M 180 x2))) M)))) :
    aE s1_G d 94 0 [] [some (aP 93), some (aI x1), some (aI x2)] [] M Q := aE_go s1_pu_ok [] 100 hd h

-- 95: DioceseBook$Terriers.pair(I)V
set_option maxRecDepth 100000 in
set_option maxHeartbeats 4000000 in
theorem s1_Terriers_pair_0 {d : Nat} (hd : 3 < d) {M : AM} {Q : Option AV → AM → Prop} {x1 : Int}
    (h : ((M 93 6) ≠ x1 → (0 ≤ (a_mul 2 x1) ∧ (a_mul 2 x1) < 24) ∧ ((0 ≤ (a_add (a_mul 2 x1) 1) ∧ (a_add (a_mul 2 x1) 1) < 24) ∧ (aE s1_G d 95 39 [] [some (aP 93), some (aI x1), some (aI ((am_up M 93 6 x1) 94 (a_mul 2 x1))), some (aI (a_shl 1 ((am_up M 93 6 x1) 94 (a_add (a_mul 2 x1) 1)))), some (aI 0), none] [] (am_up M 93 6 x1) Q))) ∧ ((M 93 6) = x1 → Q none M)) :
    aE s1_G d 95 0 [] [some (aP 93), some (aI x1), none, none, none, none] [] M Q := aE_go s1_pu_ok [(39, [true, true, true, true, true, false]), (76, [true, true, true, true, true, false]), (84, [true, true, true, true, true, true]), (137, [true, true, true, false, true, true])] 116 hd h

set_option maxRecDepth 100000 in
set_option maxHeartbeats 4000000 in
theorem s1_Terriers_pair_39 {d : Nat} (hd : 3 < d) {M : AM} {Q : Option AV → AM → Prop} {x1 x2 x3 x4 : Int}
    (h : (x3 ≤ x4 → aE s1_G d 95 76 [] [some (aP 93), some (aI x1), some (aI x2), some (aI x3), some (aI (a_sub x2 1)), none] [] M Q) ∧ (x4 < x3 → (0 ≤ x2 ∧ x2 < 9) ∧ (aKi s1_G d 100 [aP 93, aI (a_add (a_mul 2 x1) 1), aI x4] M (fun z2 M1 => (0 ≤ x4 ∧ x4 < 256) ∧ (aE s1_G d 95 39 [] [some (aP 93), some (aI x1), some (aI x2), some (aI x3), some (aI (a_add x4 1)), none] [] (am_up M1 170 (x2 * 256 + x4) z2) Q))))) :
    aE s1_G d 95 39 [] [some (aP 93), some (aI x1), some (aI x2), some (aI x3), some (aI x4), none] [] M Q := aE_go s1_pu_ok [(39, [true, true, true, true, true, false]), (76, [true, true, true, true, true, false]), (84, [true, true, true, true, true, true]), (137, [true, true, true, false, true, true])] 106 hd h

set_option maxRecDepth 100000 in
set_option maxHeartbeats 4000000 in
theorem s1_Terriers_pair_76 {d : Nat} (hd : 3 < d) {M : AM} {Q : Option AV → AM → Prop} {x1 x2 x3 x4 : Int}
    (h : (x4 < (0 : Int) → aE s1_G d 95 137 [] [some (aP 93), some (aI x1), some (aI x2), none, some (aI 0), some (aI 0)] [] M Q) ∧ ((0 : Int) ≤ x4 → aE s1_G d 95 84 [] [some (aP 93), some (aI x1), some (aI x2), some (aI x3), some (aI x4), some (aI 0)] [] M Q)) :
    aE s1_G d 95 76 [] [some (aP 93), some (aI x1), some (aI x2), some (aI x3), some (aI x4), none] [] M Q := aE_go s1_pu_ok [(39, [true, true, true, true, true, false]), (76, [true, true, true, true, true, false]), (84, [true, true, true, true, true, true]), (137, [true, true, true, false, true, true])] 76 hd h

set_option maxRecDepth 100000 in
set_option maxHeartbeats 4000000 in
theorem s1_Terriers_pair_84 {d : Nat} (hd : 3 < d) {M : AM} {Q : Option AV → AM → Prop} {x1 x2 x3 x4 x5 : Int}
    (h : (x3 ≤ x5 → aE s1_G d 95 76 [] [some (aP 93), some (aI x1), some (aI x2), some (aI x3), some (aI (a_add x4 (-1))), none] [] M Q) ∧ (x5 < x3 → aKi s1_G d 151 [aI x5] M (fun z2 M1 => (x4 < z2 → aE s1_G d 95 84 [] [some (aP 93), some (aI x1), some (aI x2), some (aI x3), some (aI x4), some (aI (a_add x5 1))] [] M1 Q) ∧ (z2 ≤ x4 → (0 ≤ x4 ∧ x4 < 9) ∧ (aKi s1_G d 96 [aP 93, aI x1, aI x4, aI x5] M1 (fun z4 M3 => (0 ≤ x5 ∧ x5 < 256) ∧ (aE s1_G d 95 84 [] [some (aP 93), some (aI x1), some (aI x2), some (aI x3), some (aI x4), some (aI (a_add x5 1))] [] (am_up M3 170 (x4 * 256 + x5) z4) Q))))))) :
    aE s1_G d 95 84 [] [some (aP 93), some (aI x1), some (aI x2), some (aI x3), some (aI x4), some (aI x5)] [] M Q := aE_go s1_pu_ok [(39, [true, true, true, true, true, false]), (76, [true, true, true, true, true, false]), (84, [true, true, true, true, true, true]), (137, [true, true, true, false, true, true])] 108 hd h

set_option maxRecDepth 100000 in
set_option maxHeartbeats 4000000 in
theorem s1_Terriers_pair_137 {d : Nat} (hd : 3 < d) {M : AM} {Q : Option AV → AM → Prop} {x1 x2 x4 x5 : Int}
    (h : (x2 ≤ x5 → Q none M) ∧ (x5 < x2 → aKi s1_G d 97 [aP 93, aI x1, aI x5, aI x4] M (fun z2 M1 => (0 ≤ x5 ∧ x5 < 8) ∧ ((0 ≤ x5 ∧ x5 < 8) ∧ ((((am_up M1 180 x5 z2) 180 x5) ≠ ((-1) : Int) → (0 ≤ x5 ∧ x5 < 8) ∧ (aE s1_G d 95 137 [] [some (aP 93), some (aI x1), some (aI x2), none, some (aI (a_or x4 (a_shl 1 ((am_up M1 180 x5 z2) 180 x5)))), some (aI (a_add x5 1))] [] (am_up M1 180 x5 z2) Q)) ∧ (((am_up M1 180 x5 z2) 180 x5) = ((-1) : Int) → aE s1_G d 95 137 [] [some (aP 93), some (aI x1), some (aI x2), none, some (aI (a_or x4 0)), some (aI (a_add x5 1))] [] (am_up M1 180 x5 z2) Q)))))) :
    aE s1_G d 95 137 [] [some (aP 93), some (aI x1), some (aI x2), none, some (aI x4), some (aI x5)] [] M Q := aE_go s1_pu_ok [(39, [true, true, true, true, true, false]), (76, [true, true, true, true, true, false]), (84, [true, true, true, true, true, true]), (137, [true, true, true, false, true, true])] 132 hd h

-- 96: DioceseBook$Terriers.leastFrom(III)I
set_option maxRecDepth 100000 in
set_option maxHeartbeats 4000000 in
theorem s1_Terriers_leastFrom_0 {d : Nat} (hd : 3 < d) {M : AM} {Q : Option AV → AM → Prop} {x1 x2 x3 : Int}
    (h : aKi s1_G d 99 [aP 93, aI (a_mul 2 x1), aI x2] M (fun z2 M1 => (0 ≤ (a_add x2 1) ∧ (a_add x2 1) < 9) ∧ ((0 ≤ x3 ∧ x3 < 256) ∧ (aE s1_G d 96 24 [] [some (aP 93), some (aI x1), some (aI x2), some (aI x3), some (aI (a_add z2 (M1 170 ((a_add x2 1) * 256 + x3)))), some (aI 0)] [] M1 Q)))) :
    aE s1_G d 96 0 [] [some (aP 93), some (aI x1), some (aI x2), some (aI x3), none, none] [] M Q := aE_go s1_pu_ok [(24, [true, true, true, true, true, true])] 96 hd h

set_option maxRecDepth 100000 in
set_option maxHeartbeats 4000000 in
theorem s1_Terriers_leastFrom_24 {d : Nat} (hd : 3 < d) {M : AM} {Q : Option AV → AM → Prop} {x1 x2 x3 x4 x5 : Int}
    (h : (0 ≤ (a_add (a_mul 2 x1) 1) ∧ (a_add (a_mul 2 x1) 1) < 24) ∧ (((M 94 (a_add (a_mul 2 x1) 1)) ≤ x5 → Q (some (aI x4)) M) ∧ (x5 < (M 94 (a_add (a_mul 2 x1) 1)) → ((a_and (a_shr x3 x5) 1) ≠ (0 : Int) → aE s1_G d 96 24 [] [some (aP 93), some (aI x1), some (aI x2), some (aI x3), some (aI x4), some (aI (a_add x5 1))] [] M Q) ∧ ((a_and (a_shr x3 x5) 1) = (0 : Int) → aKi s1_G d 98 [aP 93, aI x1, aI x2, aI x5] M (fun z2 M1 => (0 ≤ (a_add x2 1) ∧ (a_add x2 1) < 9) ∧ ((0 ≤ (a_or x3 (a_shl 1 x5)) ∧ (a_or x3 (a_shl 1 x5)) < 256) ∧ (aE s1_G d 96 24 [] [some (aP 93), some (aI x1), some (aI x2), some (aI x3), some (aI (if x4 ≤ (a_add z2 (M1 170 ((a_add x2 1) * 256 + (a_or x3 (a_shl 1 x5))))) then x4 else a_add z2 (M1 170 ((a_add x2 1) * 256 + (a_or x3 (a_shl 1 x5)))))), some (aI (a_add x5 1))] [] M1 Q))))))) :
    aE s1_G d 96 24 [] [some (aP 93), some (aI x1), some (aI x2), some (aI x3), some (aI x4), some (aI x5)] [] M Q := aE_go s1_pu_ok [(24, [true, true, true, true, true, true])] 146 hd h

-- 97: DioceseBook$Terriers.firstPartner(III)I
set_option maxRecDepth 100000 in
set_option maxHeartbeats 4000000 in
theorem s1_Terriers_firstPartner_0 {d : Nat} (hd : 3 < d) {M : AM} {Q : Option AV → AM → Prop} {x1 x2 x3 : Int}
    (h : aE s1_G d 97 3 [] [some (aP 93), some (aI x1), some (aI x2), some (aI x3), some (aI 0)] [] M Q) :
    aE s1_G d 97 0 [] [some (aP 93), some (aI x1), some (aI x2), some (aI x3), none] [] M Q := aE_go s1_pu_ok [(3, [true, true, true, true, true])] 64 hd h

set_option maxRecDepth 100000 in
set_option maxHeartbeats 4000000 in
theorem s1_Terriers_firstPartner_3 {d : Nat} (hd : 3 < d) {M : AM} {Q : Option AV → AM → Prop} {x1 x2 x3 x4 : Int}
    (h : (0 ≤ (a_add (a_mul 2 x1) 1) ∧ (a_add (a_mul 2 x1) 1) < 24) ∧ (((M 94 (a_add (a_mul 2 x1) 1)) ≤ x4 → Q (some (aI (-1))) M) ∧ (x4 < (M 94 (a_add (a_mul 2 x1) 1)) → ((a_and (a_shr x3 x4) 1) ≠ (0 : Int) → aE s1_G d 97 3 [] [some (aP 93), some (aI x1), some (aI x2), some (aI x3), some (aI (a_add x4 1))] [] M Q) ∧ ((a_and (a_shr x3 x4) 1) = (0 : Int) → aKi s1_G d 98 [aP 93, aI x1, aI x2, aI x4] M (fun z2 M1 => (0 ≤ (a_add x2 1) ∧ (a_add x2 1) < 9) ∧ ((0 ≤ (a_or x3 (a_shl 1 x4)) ∧ (a_or x3 (a_shl 1 x4)) < 256) ∧ ((0 ≤ x2 ∧ x2 < 9) ∧ ((0 ≤ x3 ∧ x3 < 256) ∧ (((a_add z2 (M1 170 ((a_add x2 1) * 256 + (a_or x3 (a_shl 1 x4))))) ≠ (M1 170 (x2 * 256 + x3)) → aE s1_G d 97 3 [] [some (aP 93), some (aI x1), some (aI x2), some (aI x3), some (aI (a_add x4 1))] [] M1 Q) ∧ ((a_add z2 (M1 170 ((a_add x2 1) * 256 + (a_or x3 (a_shl 1 x4))))) = (M1 170 (x2 * 256 + x3)) → Q (some (aI x4)) M1)))))))))) :
    aE s1_G d 97 3 [] [some (aP 93), some (aI x1), some (aI x2), some (aI x3), some (aI x4)] [] M Q := aE_go s1_pu_ok [(3, [true, true, true, true, true])] 158 hd h

-- 98: DioceseBook$Terriers.pairCost(III)I
set_option maxRecDepth 100000 in
set_option maxHeartbeats 4000000 in
theorem s1_Terriers_pairCost_0 {d : Nat} (hd : 3 < d) {M : AM} {Q : Option AV → AM → Prop} {x1 x2 x3 : Int}
    (h : (0 ≤ (a_mul 2 x1) ∧ (a_mul 2 x1) < 24) ∧ ((0 ≤ x2 ∧ x2 < 8) ∧ ((0 ≤ (a_add (a_mul 2 x1) 1) ∧ (a_add (a_mul 2 x1) 1) < 24) ∧ ((0 ≤ x3 ∧ x3 < 8) ∧ ((0 ≤ (a_mul 2 x1) ∧ (a_mul 2 x1) < 24) ∧ ((0 ≤ x2 ∧ x2 < 8) ∧ ((0 ≤ (a_add (a_mul 2 x1) 1) ∧ (a_add (a_mul 2 x1) 1) < 24) ∧ ((0 ≤ x3 ∧ x3 < 8) ∧ (((M 95 ((a_mul 2 x1) * 8 + x2)) ≠ (M 95 ((a_add (a_mul 2 x1) 1) * 8 + x3)) → (0 ≤ (a_mul 2 x1) ∧ (a_mul 2 x1) < 24) ∧ ((0 ≤ x2 ∧ x2 < 8) ∧ ((0 ≤ (a_add (a_mul 2 x1) 1) ∧ (a_add (a_mul 2 x1) 1) < 24) ∧ ((0 ≤ x3 ∧ x3 < 8) ∧ (((M 145 ((a_mul 2 x1) * 8 + x2)) ≠ (M 145 ((a_add (a_mul 2 x1) 1) * 8 + x3)) → Q (some (aI (a_add (a_add (if (a_sub (M 120 ((a_mul 2 x1) * 8 + x2)) (M 120 ((a_add (a_mul 2 x1) 1) * 8 + x3))) < 0 then a_neg (a_sub (M 120 ((a_mul 2 x1) * 8 + x2)) (M 120 ((a_add (a_mul 2 x1) 1) * 8 + x3))) else a_sub (M 120 ((a_mul 2 x1) * 8 + x2)) (M 120 ((a_add (a_mul 2 x1) 1) * 8 + x3))) 7) 3))) M) ∧ ((M 145 ((a_mul 2 x1) * 8 + x2)) = (M 145 ((a_add (a_mul 2 x1) 1) * 8 + x3)) → Q (some (aI (a_add (a_add (if (a_sub (M 120 ((a_mul 2 x1) * 8 + x2)) (M 120 ((a_add (a_mul 2 x1) 1) * 8 + x3))) < 0 then a_neg (a_sub (M 120 ((a_mul 2 x1) * 8 + x2)) (M 120 ((a_add (a_mul 2 x1) 1) * 8 + x3))) else a_sub (M 120 ((a_mul 2 x1) * 8 + x2)) (M 120 ((a_add (a_mul 2 x1) 1) * 8 + x3))) 7) 0))) M)))))) ∧ ((M 95 ((a_mul 2 x1) * 8 + x2)) = (M 95 ((a_add (a_mul 2 x1) 1) * 8 + x3)) → (0 ≤ (a_mul 2 x1) ∧ (a_mul 2 x1) < 24) ∧ ((0 ≤ x2 ∧ x2 < 8) ∧ ((0 ≤ (a_add (a_mul 2 x1) 1) ∧ (a_add (a_mul 2 x1) 1) < 24) ∧ ((0 ≤ x3 ∧ x3 < 8) ∧ (((M 145 ((a_mul 2 x1) * 8 + x2)) ≠ (M 145 ((a_add (a_mul 2 x1) 1) * 8 + x3)) → Q (some (aI (a_add (a_add (if (a_sub (M 120 ((a_mul 2 x1) * 8 + x2)) (M 120 ((a_add (a_mul 2 x1) 1) * 8 + x3))) < 0 then a_neg (a_sub (M 120 ((a_mul 2 x1) * 8 + x2)) (M 120 ((a_add (a_mul 2 x1) 1) * 8 + x3))) else a_sub (M 120 ((a_mul 2 x1) * 8 + x2)) (M 120 ((a_add (a_mul 2 x1) 1) * 8 + x3))) 0) 3))) M) ∧ ((M 145 ((a_mul 2 x1) * 8 + x2)) = (M 145 ((a_add (a_mul 2 x1) 1) * 8 + x3)) → Q (some (aI (a_add (a_add (if (a_sub (M 120 ((a_mul 2 x1) * 8 + x2)) (M 120 ((a_add (a_mul 2 x1) 1) * 8 + x3))) < 0 then a_neg (a_sub (M 120 ((a_mul 2 x1) * 8 + x2)) (M 120 ((a_add (a_mul 2 x1) 1) * 8 + x3))) else a_sub (M 120 ((a_mul 2 x1) * 8 + x2)) (M 120 ((a_add (a_mul 2 x1) 1) * 8 + x3))) 0) 0))) M))))))))))))))) :
    aE s1_G d 98 0 [] [some (aP 93), some (aI x1), some (aI x2), some (aI x3), none, none] [] M Q := aE_go s1_pu_ok [] 220 hd h

-- 99: DioceseBook$Terriers.aloneCost(II)I
set_option maxRecDepth 100000 in
set_option maxHeartbeats 4000000 in
theorem s1_Terriers_aloneCost_0 {d : Nat} (hd : 3 < d) {M : AM} {Q : Option AV → AM → Prop} {x1 x2 : Int}
    (h : (0 ≤ x1 ∧ x1 < 24) ∧ ((0 ≤ x2 ∧ x2 < 8) ∧ ((10 : Int) ≠ 0 ∧ (Q (some (aI (a_add 10 (a_div (M 120 (x1 * 8 + x2)) 10)))) M)))) :
    aE s1_G d 99 0 [] [some (aP 93), some (aI x1), some (aI x2)] [] M Q := aE_go s1_pu_ok [] 82 hd h

-- 100: DioceseBook$Terriers.aloneBehind(II)I
set_option maxRecDepth 100000 in
set_option maxHeartbeats 4000000 in
theorem s1_Terriers_aloneBehind_0 {d : Nat} (hd : 3 < d) {M : AM} {Q : Option AV → AM → Prop} {x1 x2 : Int}
    (h : aE s1_G d 100 5 [] [some (aP 93), some (aI x1), some (aI x2), some (aI 0), some (aI 0)] [] M Q) :
    aE s1_G d 100 0 [] [some (aP 93), some (aI x1), some (aI x2), none, none] [] M Q := aE_go s1_pu_ok [(5, [true, true, true, true, true])] 68 hd h

set_option maxRecDepth 100000 in
set_option maxHeartbeats 4000000 in
theorem s1_Terriers_aloneBehind_5 {d : Nat} (hd : 3 < d) {M : AM} {Q : Option AV → AM → Prop} {x1 x2 x3 x4 : Int}
    (h : (0 ≤ x1 ∧ x1 < 24) ∧ (((M 94 x1) ≤ x4 → Q (some (aI x3)) M) ∧ (x4 < (M 94 x1) → ((a_and (a_shr x2 x4) 1) ≠ (0 : Int) → aE s1_G d 100 5 [] [some (aP 93), some (aI x1), some (aI x2), some (aI (a_add x3 0)), some (aI (a_add x4 1))] [] M Q) ∧ ((a_and (a_shr x2 x4) 1) = (0 : Int) → aKi s1_G d 99 [aP 93, aI x1, aI x4] M (fun z2 M1 => aE s1_G d 100 5 [] [some (aP 93), some (aI x1), some (aI x2), some (aI (a_add x3 z2)), some (aI (a_add x4 1))] [] M1 Q))))) :
    aE s1_G d 100 5 [] [some (aP 93), some (aI x1), some (aI x2), some (aI x3), some (aI x4)] [] M Q := aE_go s1_pu_ok [(5, [true, true, true, true, true])] 118 hd h

-- 101: DioceseBook$Visitation.prepare(II)Z
set_option maxRecDepth 100000 in
set_option maxHeartbeats 4000000 in
theorem s1_Visitation_prepare_0 {d : Nat} (hd : 3 < d) {M : AM} {Q : Option AV → AM → Prop} {x1 x2 : Int}
    (h : ((M 190 7) = x1 → aE s1_G d 101 86 [] [some (aP 190), none, some (aI x2), some (aI 0)] [] M Q) ∧ ((M 190 7) ≠ x1 → aE s1_G d 101 25 [] [some (aP 190), some (aI x1), some (aI x2), some (aI 0)] [] (am_up (am_up (am_up M 190 7 x1) 190 8 0) 190 2 0) Q)) :
    aE s1_G d 101 0 [] [some (aP 190), some (aI x1), some (aI x2), none] [] M Q := aE_go s1_pu_ok [(25, [true, true, true, true]), (86, [true, false, true, true])] 94 hd h

set_option maxRecDepth 100000 in
set_option maxHeartbeats 4000000 in
theorem s1_Visitation_prepare_25 {d : Nat} (hd : 3 < d) {M : AM} {Q : Option AV → AM → Prop} {x1 x2 x3 : Int}
    (h : ((M 1 5) ≤ x3 → aKv s1_G d 102 [aP 190] M (fun M1 => aE s1_G d 101 86 [] [some (aP 190), none, some (aI x2), some (aI 0)] [] M1 Q)) ∧ (x3 < (M 1 5) → ((8 : Int) ≤ (M 190 2) → aKv s1_G d 102 [aP 190] M (fun M2 => aE s1_G d 101 86 [] [some (aP 190), none, some (aI x2), some (aI 0)] [] M2 Q)) ∧ ((M 190 2) < (8 : Int) → ((a_and (a_shr x1 x3) 1) ≠ (1 : Int) → aE s1_G d 101 25 [] [some (aP 190), some (aI x1), some (aI x2), some (aI (a_add x3 1))] [] M Q) ∧ ((a_and (a_shr x1 x3) 1) = (1 : Int) → (0 ≤ (M 190 2) ∧ (M 190 2) < 8) ∧ (aE s1_G d 101 25 [] [some (aP 190), some (aI x1), some (aI x2), some (aI (a_add x3 1))] [] (am_up (am_up M 191 (M 190 2) x3) 190 2 (a_add ((am_up M 191 (M 190 2) x3) 190 2) 1)) Q))))) :
    aE s1_G d 101 25 [] [some (aP 190), some (aI x1), some (aI x2), some (aI x3)] [] M Q := aE_go s1_pu_ok [(25, [true, true, true, true]), (86, [true, false, true, true])] 140 hd h

set_option maxRecDepth 100000 in
set_option maxHeartbeats 4000000 in
theorem s1_Visitation_prepare_86 {d : Nat} (hd : 3 < d) {M : AM} {Q : Option AV → AM → Prop} {x2 x3 : Int}
    (h : ((M 190 2) ≤ x3 → ((M 190 8) = x2 → ((1 : Int) = 0 ∨ (1 : Int) = 1) ∧ Q (some (aI 1)) M) ∧ ((M 190 8) ≠ x2 → aKv s1_G d 104 [aP 190, aI x2] (am_up M 190 8 x2) (fun M1 => ((1 : Int) = 0 ∨ (1 : Int) = 1) ∧ Q (some (aI 1)) M1))) ∧ (x3 < (M 190 2) → (0 ≤ (a_shl 1 x3) ∧ (a_shl 1 x3) < 256) ∧ (((M 201 (a_shl 1 x3)) ≤ x2 → aE s1_G d 101 86 [] [some (aP 190), none, some (aI x2), some (aI (a_add x3 1))] [] M Q) ∧ (x2 < (M 201 (a_shl 1 x3)) → ((0 : Int) = 0 ∨ (0 : Int) = 1) ∧ Q (some (aI 0)) M)))) :
    aE s1_G d 101 86 [] [some (aP 190), none, some (aI x2), some (aI x3)] [] M Q := aE_go s1_pu_ok [(25, [true, true, true, true]), (86, [true, false, true, true])] 120 hd h

-- 102: DioceseBook$Visitation.measure()V
set_option maxRecDepth 100000 in
set_option maxHeartbeats 4000000 in
theorem s1_Visitation_measure_0 {d : Nat} (hd : 3 < d) {M : AM} {Q : Option AV → AM → Prop}
    (h : aE s1_G d 102 2 [] [some (aP 190), some (aI 1), none] [] M Q) :
    aE s1_G d 102 0 [] [some (aP 190), none, none] [] M Q := aE_go s1_pu_ok [(2, [true, true, false]), (22, [true, true, true])] 64 hd h

set_option maxRecDepth 100000 in
set_option maxHeartbeats 4000000 in
theorem s1_Visitation_measure_2 {d : Nat} (hd : 3 < d) {M : AM} {Q : Option AV → AM → Prop} {x1 : Int}
    (h : ((a_shl 1 (M 190 2)) ≤ x1 → Q none M) ∧ (x1 < (a_shl 1 (M 190 2)) → (0 ≤ x1 ∧ x1 < 256) ∧ (aE s1_G d 102 22 [] [some (aP 190), some (aI x1), some (aI 0)] [] (am_up M 201 x1 1000000) Q))) :
    aE s1_G d 102 2 [] [some (aP 190), some (aI x1), none] [] M Q := aE_go s1_pu_ok [(2, [true, true, false]), (22, [true, true, true])] 88 hd h

set_option maxRecDepth 100000 in
set_option maxHeartbeats 4000000 in
theorem s1_Visitation_measure_22 {d : Nat} (hd : 3 < d) {M : AM} {Q : Option AV → AM → Prop} {x1 x2 : Int}
    (h : ((M 190 2) ≤ x2 → aE s1_G d 102 2 [] [some (aP 190), some (aI (a_add x1 1)), none] [] M Q) ∧ (x2 < (M 190 2) → ((a_and (a_shr x1 x2) 1) ≠ (1 : Int) → aE s1_G d 102 22 [] [some (aP 190), some (aI x1), some (aI (a_add x2 1))] [] M Q) ∧ ((a_and (a_shr x1 x2) 1) = (1 : Int) → (0 ≤ x2 ∧ x2 < 8) ∧ (aKi s1_G d 103 [aP 190, aI (a_xor x1 (a_shl 1 x2)), aI x2] M (fun z2 M1 => (0 ≤ x1 ∧ x1 < 256) ∧ ((0 ≤ x1 ∧ x1 < 256) ∧ ((0 ≤ x2 ∧ x2 < 8) ∧ ((0 ≤ x1 ∧ x1 < 256) ∧ ((0 ≤ x2 ∧ x2 < 8) ∧ (aKi s1_G d 58 [aP 1, aI ((am_up M1 192 (x2 * 256 + x1) z2) 191 x2)] (am_up M1 192 (x2 * 256 + x1) z2) (fun z4 M3 => (0 ≤ x1 ∧ x1 < 256) ∧ (aE s1_G d 102 22 [] [some (aP 190), some (aI x1), some (aI (a_add x2 1))] [] (am_up M3 201 x1 (if ((am_up M1 192 (x2 * 256 + x1) z2) 201 x1) ≤ (a_add ((am_up M1 192 (x2 * 256 + x1) z2) 192 (x2 * 256 + x1)) z4) then (am_up M1 192 (x2 * 256 + x1) z2) 201 x1 else a_add ((am_up M1 192 (x2 * 256 + x1) z2) 192 (x2 * 256 + x1)) z4)) Q)))))))))))) :
    aE s1_G d 102 22 [] [some (aP 190), some (aI x1), some (aI x2)] [] M Q := aE_go s1_pu_ok [(2, [true, true, false]), (22, [true, true, true])] 168 hd h

-- 103: DioceseBook$Visitation.wayTo(II)I
set_option maxRecDepth 100000 in
set_option maxHeartbeats 4000000 in
theorem s1_Visitation_wayTo_0 {d : Nat} (hd : 3 < d) {M : AM} {Q : Option AV → AM → Prop} {x1 x2 : Int}
    (h : (x1 ≠ (0 : Int) → aE s1_G d 103 24 [] [some (aP 190), some (aI x1), some (aI x2), some (aI 1000000), some (aI 0)] [] M Q) ∧ (x1 = (0 : Int) → (0 ≤ x2 ∧ x2 < 8) ∧ (aKi s1_G d 58 [aP 1, aI (M 191 x2)] M (fun z2 M1 => Q (some (aI z2)) M1)))) :
    aE s1_G d 103 0 [] [some (aP 190), some (aI x1), some (aI x2), none, none] [] M Q := aE_go s1_pu_ok [(24, [true, true, true, true, true])] 88 hd h

set_option maxRecDepth 100000 in
set_option maxHeartbeats 4000000 in
theorem s1_Visitation_wayTo_24 {d : Nat} (hd : 3 < d) {M : AM} {Q : Option AV → AM → Prop} {x1 x2 x3 x4 : Int}
    (h : ((M 190 2) ≤ x4 → Q (some (aI x3)) M) ∧ (x4 < (M 190 2) → ((a_and (a_shr x1 x4) 1) ≠ (1 : Int) → aE s1_G d 103 24 [] [some (aP 190), some (aI x1), some (aI x2), some (aI x3), some (aI (a_add x4 1))] [] M Q) ∧ ((a_and (a_shr x1 x4) 1) = (1 : Int) → (0 ≤ x4 ∧ x4 < 8) ∧ ((0 ≤ x1 ∧ x1 < 256) ∧ ((0 ≤ x4 ∧ x4 < 8) ∧ ((0 ≤ x2 ∧ x2 < 8) ∧ (aKi s1_G d 57 [aP 1, aI (M 191 x4), aI (M 191 x2)] M (fun z2 M1 => aE s1_G d 103 24 [] [some (aP 190), some (aI x1), some (aI x2), some (aI (if x3 ≤ (a_add (M 192 (x4 * 256 + x1)) z2) then x3 else a_add (M 192 (x4 * 256 + x1)) z2)), some (aI (a_add x4 1))] [] M1 Q)))))))) :
    aE s1_G d 103 24 [] [some (aP 190), some (aI x1), some (aI x2), some (aI x3), some (aI x4)] [] M Q := aE_go s1_pu_ok [(24, [true, true, true, true, true])] 136 hd h

-- 104: DioceseBook$Visitation.choose(I)V
set_option maxRecDepth 100000 in
set_option maxHeartbeats 4000000 in
theorem s1_Visitation_choose_0 {d : Nat} (hd : 3 < d) {M : AM} {Q : Option AV → AM → Prop} {x1 : Int}
    (h : (0 ≤ (0 : Int) ∧ (0 : Int) < 256) ∧ (aE s1_G d 104 18 [] [some (aP 190), some (aI x1), some (aI (a_sub (a_shl 1 (M 190 2)) 1)), some (aI 1), none] [] (am_up M 202 (0 : Int) 0) Q)) :
    aE s1_G d 104 0 [] [some (aP 190), some (aI x1), none, none, none] [] M Q := aE_go s1_pu_ok [(18, [true, true, true, true, false]), (34, [true, true, true, true, true]), (136, [true, true, false, true, true])] 88 hd h

set_option maxRecDepth 100000 in
set_option maxHeartbeats 4000000 in
theorem s1_Visitation_choose_18 {d : Nat} (hd : 3 < d) {M : AM} {Q : Option AV → AM → Prop} {x1 x2 x3 : Int}
    (h : (x2 < x3 → (0 ≤ x2 ∧ x2 < 256) ∧ ((10000 : Int) ≠ 0 ∧ ((0 ≤ x2 ∧ x2 < 256) ∧ ((10000 : Int) ≠ 0 ∧ (aE s1_G d 104 136 [] [some (aP 190), some (aI x1), none, some (aI x2), some (aI 0)] [] (am_up (am_up M 190 9 (a_div (M 202 x2) 10000)) 190 10 (a_rem ((am_up M 190 9 (a_div (M 202 x2) 10000)) 202 x2) 10000)) Q))))) ∧ (x3 ≤ x2 → (0 ≤ x3 ∧ x3 < 256) ∧ (aE s1_G d 104 34 [] [some (aP 190), some (aI x1), some (aI x2), some (aI x3), some (aI x3)] [] (am_up M 202 x3 1000000) Q))) :
    aE s1_G d 104 18 [] [some (aP 190), some (aI x1), some (aI x2), some (aI x3), none] [] M Q := aE_go s1_pu_ok [(18, [true, true, true, true, false]), (34, [true, true, true, true, true]), (136, [true, true, false, true, true])] 120 hd h

set_option maxRecDepth 100000 in
set_option maxHeartbeats 4000000 in
theorem s1_Visitation_choose_34 {d : Nat} (hd : 3 < d) {M : AM} {Q : Option AV → AM → Prop} {x1 x2 x3 x4 : Int}
    (h : (x4 ≤ (0 : Int) → aE s1_G d 104 18 [] [some (aP 190), some (aI x1), some (aI x2), some (aI (a_add x3 1)), none] [] M Q) ∧ ((0 : Int) < x4 → (0 ≤ x4 ∧ x4 < 256) ∧ ((x1 < (M 201 x4) → aE s1_G d 104 34 [] [some (aP 190), some (aI x1), some (aI x2), some (aI x3), some (aI (a_and (a_sub x4 1) x3))] [] M Q) ∧ ((M 201 x4) ≤ x1 → (0 ≤ x3 ∧ x3 < 256) ∧ ((0 ≤ x4 ∧ x4 < 256) ∧ ((0 ≤ (a_xor x3 x4) ∧ (a_xor x3 x4) < 256) ∧ ((0 ≤ x3 ∧ x3 < 256) ∧ (aE s1_G d 104 34 [] [some (aP 190), some (aI x1), some (aI x2), some (aI x3), some (aI (a_and (a_sub x4 1) x3))] [] (am_up M 202 x3 (if (M 202 x3) ≤ (a_add (a_add 10000 (M 201 x4)) (M 202 (a_xor x3 x4))) then M 202 x3 else a_add (a_add 10000 (M 201 x4)) (M 202 (a_xor x3 x4)))) Q)))))))) :
    aE s1_G d 104 34 [] [some (aP 190), some (aI x1), some (aI x2), some (aI x3), some (aI x4)] [] M Q := aE_go s1_pu_ok [(18, [true, true, true, true, false]), (34, [true, true, true, true, true]), (136, [true, true, false, true, true])] 152 hd h

set_option maxRecDepth 100000 in
set_option maxHeartbeats 4000000 in
theorem s1_Visitation_choose_136 {d : Nat} (hd : 3 < d) {M : AM} {Q : Option AV → AM → Prop} {x1 x3 x4 : Int}
    (h : ((8 : Int) ≤ x4 → Q none M) ∧ (x4 < (8 : Int) → aKi s1_G d 105 [aP 190, aI x3, aI x1] M (fun z2 M1 => (0 ≤ x4 ∧ x4 < 8) ∧ ((0 ≤ x4 ∧ x4 < 8) ∧ (aE s1_G d 104 136 [] [some (aP 190), some (aI x1), none, some (aI (a_xor x3 ((am_up M1 203 x4 z2) 203 x4))), some (aI (a_add x4 1))] [] (am_up M1 203 x4 z2) Q))))) :
    aE s1_G d 104 136 [] [some (aP 190), some (aI x1), none, some (aI x3), some (aI x4)] [] M Q := aE_go s1_pu_ok [(18, [true, true, true, true, false]), (34, [true, true, true, true, true]), (136, [true, true, false, true, true])] 102 hd h

-- 105: DioceseBook$Visitation.leastFirst(II)I
set_option maxRecDepth 100000 in
set_option maxHeartbeats 4000000 in
theorem s1_Visitation_leastFirst_0 {d : Nat} (hd : 3 < d) {M : AM} {Q : Option AV → AM → Prop} {x1 x2 : Int}
    (h : aE s1_G d 105 2 [] [some (aP 190), some (aI x1), some (aI x2), some (aI 1)] [] M Q) :
    aE s1_G d 105 0 [] [some (aP 190), some (aI x1), some (aI x2), none] [] M Q := aE_go s1_pu_ok [(2, [true, true, true, true])] 64 hd h

set_option maxRecDepth 100000 in
set_option maxHeartbeats 4000000 in
theorem s1_Visitation_leastFirst_2 {d : Nat} (hd : 3 < d) {M : AM} {Q : Option AV → AM → Prop} {x1 x2 x3 : Int}
    (h : (x1 < x3 → Q (some (aI 0)) M) ∧ (x3 ≤ x1 → ((a_and x3 x1) ≠ x3 → aE s1_G d 105 2 [] [some (aP 190), some (aI x1), some (aI x2), some (aI (a_add x3 1))] [] M Q) ∧ ((a_and x3 x1) = x3 → (0 ≤ x3 ∧ x3 < 256) ∧ ((x2 < (M 201 x3) → aE s1_G d 105 2 [] [some (aP 190), some (aI x1), some (aI x2), some (aI (a_add x3 1))] [] M Q) ∧ ((M 201 x3) ≤ x2 → (0 ≤ x3 ∧ x3 < 256) ∧ ((0 ≤ (a_xor x1 x3) ∧ (a_xor x1 x3) < 256) ∧ ((0 ≤ x1 ∧ x1 < 256) ∧ (((a_add (a_add 10000 (M 201 x3)) (M 202 (a_xor x1 x3))) ≠ (M 202 x1) → aE s1_G d 105 2 [] [some (aP 190), some (aI x1), some (aI x2), some (aI (a_add x3 1))] [] M Q) ∧ ((a_add (a_add 10000 (M 201 x3)) (M 202 (a_xor x1 x3))) = (M 202 x1) → Q (some (aI x3)) M))))))))) :
    aE s1_G d 105 2 [] [some (aP 190), some (aI x1), some (aI x2), some (aI x3)] [] M Q := aE_go s1_pu_ok [(2, [true, true, true, true])] 144 hd h

-- 106: DioceseBook$Visitation.setOf(I)I
set_option maxRecDepth 100000 in
set_option maxHeartbeats 4000000 in
theorem s1_Visitation_setOf_0 {d : Nat} (hd : 3 < d) {M : AM} {Q : Option AV → AM → Prop} {x1 : Int}
    (h : aE s1_G d 106 4 [] [some (aP 190), some (aI x1), some (aI 0), some (aI 0)] [] M Q) :
    aE s1_G d 106 0 [] [some (aP 190), some (aI x1), none, none] [] M Q := aE_go s1_pu_ok [(4, [true, true, true, true])] 68 hd h

set_option maxRecDepth 100000 in
set_option maxHeartbeats 4000000 in
theorem s1_Visitation_setOf_4 {d : Nat} (hd : 3 < d) {M : AM} {Q : Option AV → AM → Prop} {x1 x2 x3 : Int}
    (h : ((M 190 2) ≤ x3 → Q (some (aI x2)) M) ∧ (x3 < (M 190 2) → ((8 : Int) ≤ x1 → Q (some (aI x2)) M) ∧ (x1 < (8 : Int) → (0 ≤ x1 ∧ x1 < 8) ∧ ((0 ≤ x3 ∧ x3 < 8) ∧ (aE s1_G d 106 4 [] [some (aP 190), some (aI x1), some (aI (a_or x2 (a_shl (a_and (a_shr (M 203 x1) x3) 1) (M 191 x3)))), some (aI (a_add x3 1))] [] M Q))))) :
    aE s1_G d 106 4 [] [some (aP 190), some (aI x1), some (aI x2), some (aI x3)] [] M Q := aE_go s1_pu_ok [(4, [true, true, true, true])] 118 hd h

-- 107: DioceseBook.go(I)I
set_option maxRecDepth 100000 in
set_option maxHeartbeats 4000000 in
theorem s1_go_0 {d : Nat} (hd : 3 < d) {M : AM} {Q : Option AV → AM → Prop} {x1 : Int}
    (h : ((a_bl (0 ≤ x1 ∧ x1 ≤ 9999)) ≠ (0 : Int) → ((a_add (M 0 10) x1) ≤ (30000 : Int) → Q (some (aI ((am_up M 0 10 (a_add (M 0 10) x1)) 0 10))) (am_up M 0 10 (a_add (M 0 10) x1))) ∧ ((30000 : Int) < (a_add (M 0 10) x1) → Q (some (aI (-100003))) M)) ∧ ((a_bl (0 ≤ x1 ∧ x1 ≤ 9999)) = (0 : Int) → Q (some (aI (-100002))) M)) :
    aE s1_G d 107 0 [] [some (aP 0), some (aI x1)] [] M Q := aE_go s1_pu_ok [] 108 hd h

-- 108: DioceseBook.person(I)I
set_option maxRecDepth 100000 in
set_option maxHeartbeats 4000000 in
theorem s1_person_0 {d : Nat} (hd : 3 < d) {M : AM} {Q : Option AV → AM → Prop} {x1 : Int}
    (h : ((a_bl (0 ≤ x1 ∧ x1 ≤ 9999)) ≠ (0 : Int) → aKi s1_G d 55 [aP 1, aI x1] M (fun z2 M1 => Q (some (aI z2)) M1)) ∧ ((a_bl (0 ≤ x1 ∧ x1 ≤ 9999)) = (0 : Int) → Q (some (aI (-100002))) M)) :
    aE s1_G d 108 0 [] [some (aP 0), some (aI x1)] [] M Q := aE_go s1_pu_ok [] 84 hd h

-- 109: DioceseBook.living(III)I
set_option maxRecDepth 100000 in
set_option maxHeartbeats 4000000 in
theorem s1_living_0 {d : Nat} (hd : 3 < d) {M : AM} {Q : Option AV → AM → Prop} {x1 x2 x3 : Int}
    (h : ((a_bl ((-50 ≤ x1 ∧ x1 ≤ 50) ∧ (-50 ≤ x2 ∧ x2 ≤ 50))) = (0 : Int) → Q (some (aI (-100002))) M) ∧ ((a_bl ((-50 ≤ x1 ∧ x1 ≤ 50) ∧ (-50 ≤ x2 ∧ x2 ≤ 50))) ≠ (0 : Int) → ((a_bl (0 ≤ x3 ∧ x3 ≤ 999)) ≠ (0 : Int) → aKi s1_G d 56 [aP 1, aI x1, aI x2, aI x3] M (fun z2 M1 => Q (some (aI z2)) M1)) ∧ ((a_bl (0 ≤ x3 ∧ x3 ≤ 999)) = (0 : Int) → Q (some (aI (-100002))) M))) :
    aE s1_G d 109 0 [] [some (aP 0), some (aI x1), some (aI x2), some (aI x3)] [] M Q := aE_go s1_pu_ok [] 100 hd h

-- 110: DioceseBook.set(III)I
set_option maxRecDepth 100000 in
set_option maxHeartbeats 4000000 in
theorem s1_set_0 {d : Nat} (hd : 3 < d) {M : AM} {Q : Option AV → AM → Prop} {x1 x2 x3 : Int}
    (h : (x1 ≠ (0 : Int) → (x1 ≠ (1 : Int) → (x1 ≠ (0 : Int) → (x1 ≠ (1 : Int) → Q (some (aI (-100002))) M) ∧ (x1 = (1 : Int) → ((a_bl (0 ≤ x3 ∧ x3 ≤ 9999)) = (0 : Int) → Q (some (aI (-100002))) M) ∧ ((a_bl (0 ≤ x3 ∧ x3 ≤ 9999)) ≠ (0 : Int) → (0 ≤ x2 ∧ x2 < 40) ∧ ((0 ≤ x2 ∧ x2 < 40) ∧ (Q (some (aI (M 2 x2))) (am_up M 2 x2 x3)))))) ∧ (x1 = (0 : Int) → ((a_bl (0 ≤ x3 ∧ x3 ≤ 999)) = (0 : Int) → (x1 ≠ (1 : Int) → Q (some (aI (-100002))) M) ∧ (x1 = (1 : Int) → ((a_bl (0 ≤ x3 ∧ x3 ≤ 9999)) = (0 : Int) → Q (some (aI (-100002))) M) ∧ ((a_bl (0 ≤ x3 ∧ x3 ≤ 9999)) ≠ (0 : Int) → (0 ≤ x2 ∧ x2 < 40) ∧ ((0 ≤ x2 ∧ x2 < 40) ∧ (Q (some (aI (M 2 x2))) (am_up M 2 x2 x3)))))) ∧ ((a_bl (0 ≤ x3 ∧ x3 ≤ 999)) ≠ (0 : Int) → (0 ≤ x2 ∧ x2 < 12) ∧ ((0 ≤ x2 ∧ x2 < 12) ∧ (aKv s1_G d 68 [aP 37] (am_up M 5 x2 x3) (fun M1 => Q (some (aI (M 5 x2))) M1)))))) ∧ (x1 = (1 : Int) → ((a_bl (0 ≤ x2 ∧ x2 ≤ a_sub (M 1 4) 1)) ≠ (0 : Int) → (x1 ≠ (0 : Int) → (x1 ≠ (1 : Int) → Q (some (aI (-100002))) M) ∧ (x1 = (1 : Int) → ((a_bl (0 ≤ x3 ∧ x3 ≤ 9999)) = (0 : Int) → Q (some (aI (-100002))) M) ∧ ((a_bl (0 ≤ x3 ∧ x3 ≤ 9999)) ≠ (0 : Int) → (0 ≤ x2 ∧ x2 < 40) ∧ ((0 ≤ x2 ∧ x2 < 40) ∧ (Q (some (aI (M 2 x2))) (am_up M 2 x2 x3)))))) ∧ (x1 = (0 : Int) → ((a_bl (0 ≤ x3 ∧ x3 ≤ 999)) = (0 : Int) → (x1 ≠ (1 : Int) → Q (some (aI (-100002))) M) ∧ (x1 = (1 : Int) → ((a_bl (0 ≤ x3 ∧ x3 ≤ 9999)) = (0 : Int) → Q (some (aI (-100002))) M) ∧ ((a_bl (0 ≤ x3 ∧ x3 ≤ 9999)) ≠ (0 : Int) → (0 ≤ x2 ∧ x2 < 40) ∧ ((0 ≤ x2 ∧ x2 < 40) ∧ (Q (some (aI (M 2 x2))) (am_up M 2 x2 x3)))))) ∧ ((a_bl (0 ≤ x3 ∧ x3 ≤ 999)) ≠ (0 : Int) → (0 ≤ x2 ∧ x2 < 12) ∧ ((0 ≤ x2 ∧ x2 < 12) ∧ (aKv s1_G d 68 [aP 37] (am_up M 5 x2 x3) (fun M2 => Q (some (aI (M 5 x2))) M2)))))) ∧ ((a_bl (0 ≤ x2 ∧ x2 ≤ a_sub (M 1 4) 1)) = (0 : Int) → Q (some (aI (-100001))) M))) ∧ (x1 = (0 : Int) → ((a_bl (0 ≤ x2 ∧ x2 ≤ a_sub (M 1 5) 1)) = (0 : Int) → Q (some (aI (-100001))) M) ∧ ((a_bl (0 ≤ x2 ∧ x2 ≤ a_sub (M 1 5) 1)) ≠ (0 : Int) → (x1 ≠ (1 : Int) → (x1 ≠ (0 : Int) → (x1 ≠ (1 : Int) → Q (some (aI (-100002))) M) ∧ (x1 = (1 : Int) → ((a_bl (0 ≤ x3 ∧ x3 ≤ 9999)) = (0 : Int) → Q (some (aI (-100002))) M) ∧ ((a_bl (0 ≤ x3 ∧ x3 ≤ 9999)) ≠ (0 : Int) → (0 ≤ x2 ∧ x2 < 40) ∧ ((0 ≤ x2 ∧ x2 < 40) ∧ (Q (some (aI (M 2 x2))) (am_up M 2 x2 x3)))))) ∧ (x1 = (0 : Int) → ((a_bl (0 ≤ x3 ∧ x3 ≤ 999)) = (0 : Int) → (x1 ≠ (1 : Int) → Q (some (aI (-100002))) M) ∧ (x1 = (1 : Int) → ((a_bl (0 ≤ x3 ∧ x3 ≤ 9999)) = (0 : Int) → Q (some (aI (-100002))) M) ∧ ((a_bl (0 ≤ x3 ∧ x3 ≤ 9999)) ≠ (0 : Int) → (0 ≤ x2 ∧ x2 < 40) ∧ ((0 ≤ x2 ∧ x2 < 40) ∧ (Q (some (aI (M 2 x2))) (am_up M 2 x2 x3)))))) ∧ ((a_bl (0 ≤ x3 ∧ x3 ≤ 999)) ≠ (0 : Int) → (0 ≤ x2 ∧ x2 < 12) ∧ ((0 ≤ x2 ∧ x2 < 12) ∧ (aKv s1_G d 68 [aP 37] (am_up M 5 x2 x3) (fun M3 => Q (some (aI (M 5 x2))) M3)))))) ∧ (x1 = (1 : Int) → ((a_bl (0 ≤ x2 ∧ x2 ≤ a_sub (M 1 4) 1)) ≠ (0 : Int) → (x1 ≠ (0 : Int) → (x1 ≠ (1 : Int) → Q (some (aI (-100002))) M) ∧ (x1 = (1 : Int) → ((a_bl (0 ≤ x3 ∧ x3 ≤ 9999)) = (0 : Int) → Q (some (aI (-100002))) M) ∧ ((a_bl (0 ≤ x3 ∧ x3 ≤ 9999)) ≠ (0 : Int) → (0 ≤ x2 ∧ x2 < 40) ∧ ((0 ≤ x2 ∧ x2 < 40) ∧ (Q (some (aI (M 2 x2))) (am_up M 2 x2 x3)))))) ∧ (x1 = (0 : Int) → ((a_bl (0 ≤ x3 ∧ x3 ≤ 999)) = (0 : Int) → (x1 ≠ (1 : Int) → Q (some (aI (-100002))) M) ∧ (x1 = (1 : Int) → ((a_bl (0 ≤ x3 ∧ x3 ≤ 9999)) = (0 : Int) → Q (some (aI (-100002))) M) ∧ ((a_bl (0 ≤ x3 ∧ x3 ≤ 9999)) ≠ (0 : Int) → (0 ≤ x2 ∧ x2 < 40) ∧ ((0 ≤ x2 ∧ x2 < 40) ∧ (Q (some (aI (M 2 x2))) (am_up M 2 x2 x3)))))) ∧ ((a_bl (0 ≤ x3 ∧ x3 ≤ 999)) ≠ (0 : Int) → (0 ≤ x2 ∧ x2 < 12) ∧ ((0 ≤ x2 ∧ x2 < 12) ∧ (aKv s1_G d 68 [aP 37] (am_up M 5 x2 x3) (fun M4 => Q (some (aI (M 5 x2))) M4)))))) ∧ ((a_bl (0 ≤ x2 ∧ x2 ≤ a_sub (M 1 4) 1)) = (0 : Int) → Q (some (aI (-100001))) M))))) :
    aE s1_G d 110 0 [] [some (aP 0), some (aI x1), some (aI x2), some (aI x3), none] [] M Q := aE_go s1_pu_ok [] 720 hd h

-- 111: DioceseBook.paper(IIIIII)I
set_option maxRecDepth 100000 in
set_option maxHeartbeats 4000000 in
theorem s1_paper_0 {d : Nat} (hd : 3 < d) {M : AM} {Q : Option AV → AM → Prop} {x1 x2 x3 x4 x5 x6 : Int}
    (h : ((a_bl (0 ≤ x5 ∧ x5 ≤ a_sub (M 1 4) 1)) ≠ (0 : Int) → aE s1_G d 111 26 [] [some (aP 0), some (aI x1), some (aI x2), some (aI x3), some (aI x4), some (aI x5), some (aI x6), none] [] M Q) ∧ ((a_bl (0 ≤ x5 ∧ x5 ≤ a_sub (M 1 4) 1)) = (0 : Int) → (x1 ≠ (3 : Int) → aE s1_G d 111 30 [] [some (aP 0), some (aI x1), some (aI x2), some (aI x3), some (aI x4), some (aI x5), some (aI x6), none] [] M Q) ∧ (x1 = (3 : Int) → ((a_bl ((-4) ≤ x5 ∧ x5 ≤ (-2))) = (0 : Int) → aE s1_G d 111 30 [] [some (aP 0), some (aI x1), some (aI x2), some (aI x3), some (aI x4), some (aI x5), some (aI x6), none] [] M Q) ∧ ((a_bl ((-4) ≤ x5 ∧ x5 ≤ (-2))) ≠ (0 : Int) → aE s1_G d 111 26 [] [some (aP 0), some (aI x1), some (aI x2), some (aI x3), some (aI x4), some (aI x5), some (aI x6), none] [] M Q)))) :
    aE s1_G d 111 0 [] [some (aP 0), some (aI x1), some (aI x2), some (aI x3), some (aI x4), some (aI x5), some (aI x6), none] [] M Q := aE_go s1_pu_ok [(26, [true, true, true, true, true, true, true, false]), (30, [true, true, true, true, true, true, true, false]), (31, [true, true, true, true, true, true, true, false]), (48, [true, true, true, true, true, true, true, true]), (64, [true, true, true, true, true, true, true, true]), (76, [true, true, true, true, true, true, true, false]), (91, [false, false, false, false, false, false, false, false]), (94, [true, true, true, true, true, true, true, false]), (134, [true, true, true, true, true, true, true, false]), (146, [true, true, true, true, true, true, true, false]), (153, [false, false, false, false, false, false, false, false]), (156, [true, true, true, true, true, true, true, false])] 84 hd h

set_option maxRecDepth 100000 in
set_option maxHeartbeats 4000000 in
theorem s1_paper_26 {d : Nat} (hd : 3 < d) {M : AM} {Q : Option AV → AM → Prop} {x1 x2 x3 x4 x5 x6 : Int}
    (h : aE s1_G d 111 31 [] [some (aP 0), some (aI x1), some (aI x2), some (aI x3), some (aI x4), some (aI x5), some (aI x6), none] [aI 1] M Q) :
    aE s1_G d 111 26 [] [some (aP 0), some (aI x1), some (aI x2), some (aI x3), some (aI x4), some (aI x5), some (aI x6), none] [] M Q := aE_go s1_pu_ok [(26, [true, true, true, true, true, true, true, false]), (30, [true, true, true, true, true, true, true, false]), (31, [true, true, true, true, true, true, true, false]), (48, [true, true, true, true, true, true, true, true]), (64, [true, true, true, true, true, true, true, true]), (76, [true, true, true, true, true, true, true, false]), (91, [false, false, false, false, false, false, false, false]), (94, [true, true, true, true, true, true, true, false]), (134, [true, true, true, true, true, true, true, false]), (146, [true, true, true, true, true, true, true, false]), (153, [false, false, false, false, false, false, false, false]), (156, [true, true, true, true, true, true, true, false])] 64 hd h

set_option maxRecDepth 100000 in
set_option maxHeartbeats 4000000 in
theorem s1_paper_30 {d : Nat} (hd : 3 < d) {M : AM} {Q : Option AV → AM → Prop} {x1 x2 x3 x4 x5 x6 : Int}
    (h : aE s1_G d 111 31 [] [some (aP 0), some (aI x1), some (aI x2), some (aI x3), some (aI x4), some (aI x5), some (aI x6), none] [aI 0] M Q) :
    aE s1_G d 111 30 [] [some (aP 0), some (aI x1), some (aI x2), some (aI x3), some (aI x4), some (aI x5), some (aI x6), none] [] M Q := aE_go s1_pu_ok [(26, [true, true, true, true, true, true, true, false]), (30, [true, true, true, true, true, true, true, false]), (31, [true, true, true, true, true, true, true, false]), (48, [true, true, true, true, true, true, true, true]), (64, [true, true, true, true, true, true, true, true]), (76, [true, true, true, true, true, true, true, false]), (91, [false, false, false, false, false, false, false, false]), (94, [true, true, true, true, true, true, true, false]), (134, [true, true, true, true, true, true, true, false]), (146, [true, true, true, true, true, true, true, false]), (153, [false, false, false, false, false, false, false, false]), (156, [true, true, true, true, true, true, true, false])] 62 hd h

set_option maxRecDepth 100000 in
set_option maxHeartbeats 4000000 in
theorem s1_paper_31 {d : Nat} (hd : 3 < d) {M : AM} {Q : Option AV → AM → Prop} {x1 x2 x3 x4 x5 x6 t0 : Int}
    (h : aKi s1_G d 27 [aI x1] M (fun z2 M1 => (z2 = (0 : Int) → aE s1_G d 111 48 [] [some (aP 0), some (aI x1), some (aI x2), some (aI x3), some (aI x4), some (aI x5), some (aI x6), some (aI t0)] [] M1 Q) ∧ (z2 ≠ (0 : Int) → ((a_bl (0 ≤ x3 ∧ x3 ≤ a_sub (M1 1 5) 1)) = (0 : Int) → aE s1_G d 111 91 [] [none, none, none, none, none, none, none, none] [] M1 Q) ∧ ((a_bl (0 ≤ x3 ∧ x3 ≤ a_sub (M1 1 5) 1)) ≠ (0 : Int) → aE s1_G d 111 48 [] [some (aP 0), some (aI x1), some (aI x2), some (aI x3), some (aI x4), some (aI x5), some (aI x6), some (aI t0)] [] M1 Q)))) :
    aE s1_G d 111 31 [] [some (aP 0), some (aI x1), some (aI x2), some (aI x3), some (aI x4), some (aI x5), some (aI x6), none] [aI t0] M Q := aE_go s1_pu_ok [(26, [true, true, true, true, true, true, true, false]), (30, [true, true, true, true, true, true, true, false]), (31, [true, true, true, true, true, true, true, false]), (48, [true, true, true, true, true, true, true, true]), (64, [true, true, true, true, true, true, true, true]), (76, [true, true, true, true, true, true, true, false]), (91, [false, false, false, false, false, false, false, false]), (94, [true, true, true, true, true, true, true, false]), (134, [true, true, true, true, true, true, true, false]), (146, [true, true, true, true, true, true, true, false]), (153, [false, false, false, false, false, false, false, false]), (156, [true, true, true, true, true, true, true, false])] 76 hd h

set_option maxRecDepth 100000 in
set_option maxHeartbeats 4000000 in
theorem s1_paper_48 {d : Nat} (hd : 3 < d) {M : AM} {Q : Option AV → AM → Prop} {x1 x2 x3 x4 x5 x6 x7 : Int}
    (h : aKi s1_G d 28 [aI x1] M (fun z2 M1 => (z2 = (0 : Int) → aE s1_G d 111 64 [] [some (aP 0), some (aI x1), some (aI x2), some (aI x3), some (aI x4), some (aI x5), some (aI x6), some (aI x7)] [] M1 Q) ∧ (z2 ≠ (0 : Int) → ((a_bl (0 ≤ x4 ∧ x4 ≤ a_sub (M1 1 4) 1)) = (0 : Int) → aE s1_G d 111 91 [] [none, none, none, none, none, none, none, none] [] M1 Q) ∧ ((a_bl (0 ≤ x4 ∧ x4 ≤ a_sub (M1 1 4) 1)) ≠ (0 : Int) → aE s1_G d 111 64 [] [some (aP 0), some (aI x1), some (aI x2), some (aI x3), some (aI x4), some (aI x5), some (aI x6), some (aI x7)] [] M1 Q)))) :
    aE s1_G d 111 48 [] [some (aP 0), some (aI x1), some (aI x2), some (aI x3), some (aI x4), some (aI x5), some (aI x6), some (aI x7)] [] M Q := aE_go s1_pu_ok [(26, [true, true, true, true, true, true, true, false]), (30, [true, true, true, true, true, true, true, false]), (31, [true, true, true, true, true, true, true, false]), (48, [true, true, true, true, true, true, true, true]), (64, [true, true, true, true, true, true, true, true]), (76, [true, true, true, true, true, true, true, false]), (91, [false, false, false, false, false, false, false, false]), (94, [true, true, true, true, true, true, true, false]), (134, [true, true, true, true, true, true, true, false]), (146, [true, true, true, true, true, true, true, false]), (153, [false, false, false, false, false, false, false, false]), (156, [true, true, true, true, true, true, true, false])] 74 hd h

set_option maxRecDepth 100000 in
set_option maxHeartbeats 4000000 in
theorem s1_paper_64 {d : Nat} (hd : 3 < d) {M : AM} {Q : Option AV → AM → Prop} {x1 x2 x3 x4 x5 x6 x7 : Int}
    (h : aKi s1_G d 29 [aI x1] M (fun z2 M1 => (z2 = (0 : Int) → aE s1_G d 111 76 [] [some (aP 0), some (aI x1), some (aI x2), some (aI x3), some (aI x4), some (aI x5), some (aI x6), none] [] M1 Q) ∧ (z2 ≠ (0 : Int) → (x7 = (0 : Int) → aE s1_G d 111 91 [] [none, none, none, none, none, none, none, none] [] M1 Q) ∧ (x7 ≠ (0 : Int) → aE s1_G d 111 76 [] [some (aP 0), some (aI x1), some (aI x2), some (aI x3), some (aI x4), some (aI x5), some (aI x6), none] [] M1 Q)))) :
    aE s1_G d 111 64 [] [some (aP 0), some (aI x1), some (aI x2), some (aI x3), some (aI x4), some (aI x5), some (aI x6), some (aI x7)] [] M Q := aE_go s1_pu_ok [(26, [true, true, true, true, true, true, true, false]), (30, [true, true, true, true, true, true, true, false]), (31, [true, true, true, true, true, true, true, false]), (48, [true, true, true, true, true, true, true, true]), (64, [true, true, true, true, true, true, true, true]), (76, [true, true, true, true, true, true, true, false]), (91, [false, false, false, false, false, false, false, false]), (94, [true, true, true, true, true, true, true, false]), (134, [true, true, true, true, true, true, true, false]), (146, [true, true, true, true, true, true, true, false]), (153, [false, false, false, false, false, false, false, false]), (156, [true, true, true, true, true, true, true, false])] 70 hd h

set_option maxRecDepth 100000 in
set_option maxHeartbeats 4000000 in
theorem s1_paper_76 {d : Nat} (hd : 3 < d) {M : AM} {Q : Option AV → AM → Prop} {x1 x2 x3 x4 x5 x6 : Int}
    (h : (x1 ≠ (12 : Int) → aE s1_G d 111 94 [] [some (aP 0), some (aI x1), some (aI x2), some (aI x3), some (aI x4), some (aI x5), some (aI x6), none] [] M Q) ∧ (x1 = (12 : Int) → ((a_bl (0 ≤ x6 ∧ x6 ≤ a_sub (M 6 7) 1)) ≠ (0 : Int) → aE s1_G d 111 94 [] [some (aP 0), some (aI x1), some (aI x2), some (aI x3), some (aI x4), some (aI x5), some (aI x6), none] [] M Q) ∧ ((a_bl (0 ≤ x6 ∧ x6 ≤ a_sub (M 6 7) 1)) = (0 : Int) → aE s1_G d 111 91 [] [none, none, none, none, none, none, none, none] [] M Q))) :
    aE s1_G d 111 76 [] [some (aP 0), some (aI x1), some (aI x2), some (aI x3), some (aI x4), some (aI x5), some (aI x6), none] [] M Q := aE_go s1_pu_ok [(26, [true, true, true, true, true, true, true, false]), (30, [true, true, true, true, true, true, true, false]), (31, [true, true, true, true, true, true, true, false]), (48, [true, true, true, true, true, true, true, true]), (64, [true, true, true, true, true, true, true, true]), (76, [true, true, true, true, true, true, true, false]), (91, [false, false, false, false, false, false, false, false]), (94, [true, true, true, true, true, true, true, false]), (134, [true, true, true, true, true, true, true, false]), (146, [true, true, true, true, true, true, true, false]), (153, [false, false, false, false, false, false, false, false]), (156, [true, true, true, true, true, true, true, false])] 74 hd h

set_option maxRecDepth 100000 in
set_option maxHeartbeats 4000000 in
theorem s1_paper_91 {d : Nat} (hd : 3 < d) {M : AM} {Q : Option AV → AM → Prop}
    (h : Q (some (aI (-100001))) M) :
    aE s1_G d 111 91 [] [none, none, none, none, none, none, none, none] [] M Q := aE_go s1_pu_ok [(26, [true, true, true, true, true, true, true, false]), (30, [true, true, true, true, true, true, true, false]), (31, [true, true, true, true, true, true, true, false]), (48, [true, true, true, true, true, true, true, true]), (64, [true, true, true, true, true, true, true, true]), (76, [true, true, true, true, true, true, true, false]), (91, [false, false, false, false, false, false, false, false]), (94, [true, true, true, true, true, true, true, false]), (134, [true, true, true, true, true, true, true, false]), (146, [true, true, true, true, true, true, true, false]), (153, [false, false, false, false, false, false, false, false]), (156, [true, true, true, true, true, true, true, false])] 64 hd h

set_option maxRecDepth 100000 in
set_option maxHeartbeats 4000000 in
theorem s1_paper_94 {d : Nat} (hd : 3 < d) {M : AM} {Q : Option AV → AM → Prop} {x1 x2 x3 x4 x5 x6 : Int}
    (h : ((a_bl (0 ≤ x1 ∧ x1 ≤ 12)) = (0 : Int) → aE s1_G d 111 153 [] [none, none, none, none, none, none, none, none] [] M Q) ∧ ((a_bl (0 ≤ x1 ∧ x1 ≤ 12)) ≠ (0 : Int) → ((a_bl (0 ≤ x2 ∧ x2 ≤ (M 0 10))) = (0 : Int) → aE s1_G d 111 153 [] [none, none, none, none, none, none, none, none] [] M Q) ∧ ((a_bl (0 ≤ x2 ∧ x2 ≤ (M 0 10))) ≠ (0 : Int) → (x1 ≠ (11 : Int) → aE s1_G d 111 134 [] [some (aP 0), some (aI x1), some (aI x2), some (aI x3), some (aI x4), some (aI x5), some (aI x6), none] [] M Q) ∧ (x1 = (11 : Int) → ((a_bl (0 ≤ x6 ∧ x6 ≤ 9999)) = (0 : Int) → aE s1_G d 111 153 [] [none, none, none, none, none, none, none, none] [] M Q) ∧ ((a_bl (0 ≤ x6 ∧ x6 ≤ 9999)) ≠ (0 : Int) → aE s1_G d 111 134 [] [some (aP 0), some (aI x1), some (aI x2), some (aI x3), some (aI x4), some (aI x5), some (aI x6), none] [] M Q))))) :
    aE s1_G d 111 94 [] [some (aP 0), some (aI x1), some (aI x2), some (aI x3), some (aI x4), some (aI x5), some (aI x6), none] [] M Q := aE_go s1_pu_ok [(26, [true, true, true, true, true, true, true, false]), (30, [true, true, true, true, true, true, true, false]), (31, [true, true, true, true, true, true, true, false]), (48, [true, true, true, true, true, true, true, true]), (64, [true, true, true, true, true, true, true, true]), (76, [true, true, true, true, true, true, true, false]), (91, [false, false, false, false, false, false, false, false]), (94, [true, true, true, true, true, true, true, false]), (134, [true, true, true, true, true, true, true, false]), (146, [true, true, true, true, true, true, true, false]), (153, [false, false, false, false, false, false, false, false]), (156, [true, true, true, true, true, true, true, false])] 98 hd h

set_option maxRecDepth 100000 in
set_option maxHeartbeats 4000000 in
theorem s1_paper_134 {d : Nat} (hd : 3 < d) {M : AM} {Q : Option AV → AM → Prop} {x1 x2 x3 x4 x5 x6 : Int}
    (h : (x1 = (6 : Int) → aE s1_G d 111 146 [] [some (aP 0), some (aI x1), some (aI x2), some (aI x3), some (aI x4), some (aI x5), some (aI x6), none] [] M Q) ∧ (x1 ≠ (6 : Int) → (x1 ≠ (7 : Int) → aE s1_G d 111 156 [] [some (aP 0), some (aI x1), some (aI x2), some (aI x3), some (aI x4), some (aI x5), some (aI x6), none] [] M Q) ∧ (x1 = (7 : Int) → aE s1_G d 111 146 [] [some (aP 0), some (aI x1), some (aI x2), some (aI x3), some (aI x4), some (aI x5), some (aI x6), none] [] M Q))) :
    aE s1_G d 111 134 [] [some (aP 0), some (aI x1), some (aI x2), some (aI x3), some (aI x4), some (aI x5), some (aI x6), none] [] M Q := aE_go s1_pu_ok [(26, [true, true, true, true, true, true, true, false]), (30, [true, true, true, true, true, true, true, false]), (31, [true, true, true, true, true, true, true, false]), (48, [true, true, true, true, true, true, true, true]), (64, [true, true, true, true, true, true, true, true]), (76, [true, true, true, true, true, true, true, false]), (91, [false, false, false, false, false, false, false, false]), (94, [true, true, true, true, true, true, true, false]), (134, [true, true, true, true, true, true, true, false]), (146, [true, true, true, true, true, true, true, false]), (153, [false, false, false, false, false, false, false, false]), (156, [true, true, true, true, true, true, true, false])] 72 hd h

set_option maxRecDepth 100000 in
set_option maxHeartbeats 4000000 in
theorem s1_paper_146 {d : Nat} (hd : 3 < d) {M : AM} {Q : Option AV → AM → Prop} {x1 x2 x3 x4 x5 x6 : Int}
    (h : (x4 ≠ x5 → aE s1_G d 111 156 [] [some (aP 0), some (aI x1), some (aI x2), some (aI x3), some (aI x4), some (aI x5), some (aI x6), none] [] M Q) ∧ (x4 = x5 → aE s1_G d 111 153 [] [none, none, none, none, none, none, none, none] [] M Q)) :
    aE s1_G d 111 146 [] [some (aP 0), some (aI x1), some (aI x2), some (aI x3), some (aI x4), some (aI x5), some (aI x6), none] [] M Q := aE_go s1_pu_ok [(26, [true, true, true, true, true, true, true, false]), (30, [true, true, true, true, true, true, true, false]), (31, [true, true, true, true, true, true, true, false]), (48, [true, true, true, true, true, true, true, true]), (64, [true, true, true, true, true, true, true, true]), (76, [true, true, true, true, true, true, true, false]), (91, [false, false, false, false, false, false, false, false]), (94, [true, true, true, true, true, true, true, false]), (134, [true, true, true, true, true, true, true, false]), (146, [true, true, true, true, true, true, true, false]), (153, [false, false, false, false, false, false, false, false]), (156, [true, true, true, true, true, true, true, false])] 66 hd h

set_option maxRecDepth 100000 in
set_option maxHeartbeats 4000000 in
theorem s1_paper_153 {d : Nat} (hd : 3 < d) {M : AM} {Q : Option AV → AM → Prop}
    (h : Q (some (aI (-100002))) M) :
    aE s1_G d 111 153 [] [none, none, none, none, none, none, none, none] [] M Q := aE_go s1_pu_ok [(26, [true, true, true, true, true, true, true, false]), (30, [true, true, true, true, true, true, true, false]), (31, [true, true, true, true, true, true, true, false]), (48, [true, true, true, true, true, true, true, true]), (64, [true, true, true, true, true, true, true, true]), (76, [true, true, true, true, true, true, true, false]), (91, [false, false, false, false, false, false, false, false]), (94, [true, true, true, true, true, true, true, false]), (134, [true, true, true, true, true, true, true, false]), (146, [true, true, true, true, true, true, true, false]), (153, [false, false, false, false, false, false, false, false]), (156, [true, true, true, true, true, true, true, false])] 64 hd h

set_option maxRecDepth 100000 in
set_option maxHeartbeats 4000000 in
theorem s1_paper_156 {d : Nat} (hd : 3 < d) {M : AM} {Q : Option AV → AM → Prop} {x1 x2 x3 x4 x5 x6 : Int}
    (h : ((M 6 7) < (150 : Int) → aKv s1_G d 68 [aP 37] M (fun M1 => aKi s1_G d 30 [aP 6, aI x1, aI x2, aI (M1 0 10), aI x3, aI x4, aI x5, aI x6] M1 (fun z3 M2 => Q (some (aI z3)) M2))) ∧ ((150 : Int) ≤ (M 6 7) → Q (some (aI (-100004))) M)) :
    aE s1_G d 111 156 [] [some (aP 0), some (aI x1), some (aI x2), some (aI x3), some (aI x4), some (aI x5), some (aI x6), none] [] M Q := aE_go s1_pu_ok [(26, [true, true, true, true, true, true, true, false]), (30, [true, true, true, true, true, true, true, false]), (31, [true, true, true, true, true, true, true, false]), (48, [true, true, true, true, true, true, true, true]), (64, [true, true, true, true, true, true, true, true]), (76, [true, true, true, true, true, true, true, false]), (91, [false, false, false, false, false, false, false, false]), (94, [true, true, true, true, true, true, true, false]), (134, [true, true, true, true, true, true, true, false]), (146, [true, true, true, true, true, true, true, false]), (153, [false, false, false, false, false, false, false, false]), (156, [true, true, true, true, true, true, true, false])] 104 hd h

-- 112: DioceseBook.told(II)I
set_option maxRecDepth 100000 in
set_option maxHeartbeats 4000000 in
theorem s1_told_0 {d : Nat} (hd : 3 < d) {M : AM} {Q : Option AV → AM → Prop} {x1 x2 : Int}
    (h : ((a_bl (0 ≤ x1 ∧ x1 ≤ a_sub (M 6 7) 1)) ≠ (0 : Int) → ((x2 = 0 → (0 ≤ x1 ∧ x1 < 150) ∧ (Q (some (aI (M 7 x1))) M)) ∧ (x2 = 1 → (0 ≤ x1 ∧ x1 < 150) ∧ (Q (some (aI (M 8 x1))) M)) ∧ (x2 = 2 → (0 ≤ x1 ∧ x1 < 150) ∧ (Q (some (aI (M 9 x1))) M)) ∧ (x2 = 3 → (0 ≤ x1 ∧ x1 < 150) ∧ (Q (some (aI (M 10 x1))) M)) ∧ (x2 = 4 → (0 ≤ x1 ∧ x1 < 150) ∧ (Q (some (aI (M 11 x1))) M)) ∧ (x2 = 5 → (0 ≤ x1 ∧ x1 < 150) ∧ (Q (some (aI (M 12 x1))) M)) ∧ (x2 = 6 → (0 ≤ x1 ∧ x1 < 150) ∧ (Q (some (aI (M 13 x1))) M)) ∧ (x2 = 7 → aKv s1_G d 31 [aP 6, aI (M 0 10)] M (fun M1 => (0 ≤ x1 ∧ x1 < 150) ∧ (Q (some (aI (a_bl ((M1 15 x1) ≠ 0)))) M1))) ∧ True) ∧ (x2 < 0 ∨ 7 < x2 → Q (some (aI (-100002))) M)) ∧ ((a_bl (0 ≤ x1 ∧ x1 ≤ a_sub (M 6 7) 1)) = (0 : Int) → Q (some (aI (-100001))) M)) :
    aE s1_G d 112 0 [] [some (aP 0), some (aI x1), some (aI x2)] [] M Q := aE_go s1_pu_ok [] 188 hd h

-- 113: DioceseBook.book(II)I
set_option maxRecDepth 100000 in
set_option maxHeartbeats 4000000 in
theorem s1_book_0 {d : Nat} (hd : 3 < d) {M : AM} {Q : Option AV → AM → Prop} {x1 x2 : Int}
    (h : ((a_bl (0 ≤ x1 ∧ x1 ≤ M 0 10)) ≠ (0 : Int) → aKv s1_G d 31 [aP 6, aI x1] M (fun M1 => ((a_bl (0 ≤ x2 ∧ x2 ≤ (a_sub (M1 6 12) 1))) = (0 : Int) → Q (some (aI (-1))) M1) ∧ ((a_bl (0 ≤ x2 ∧ x2 ≤ (a_sub (M1 6 12) 1))) ≠ (0 : Int) → (0 ≤ x2 ∧ x2 < 150) ∧ (Q (some (aI (M1 16 x2))) M1)))) ∧ ((a_bl (0 ≤ x1 ∧ x1 ≤ M 0 10)) = (0 : Int) → Q (some (aI (-100002))) M)) :
    aE s1_G d 113 0 [] [some (aP 0), some (aI x1), some (aI x2)] [] M Q := aE_go s1_pu_ok [] 116 hd h

-- 114: DioceseBook.about(III)I
set_option maxRecDepth 100000 in
set_option maxHeartbeats 4000000 in
theorem s1_about_0 {d : Nat} (hd : 3 < d) {M : AM} {Q : Option AV → AM → Prop} {x1 x2 x3 : Int}
    (h : ((a_bl (0 ≤ x1 ∧ x1 ≤ a_sub (M 1 4) 1)) ≠ (0 : Int) → ((a_bl (0 ≤ x2 ∧ x2 ≤ M 0 10)) = (0 : Int) → Q (some (aI (-100002))) M) ∧ ((a_bl (0 ≤ x2 ∧ x2 ≤ M 0 10)) ≠ (0 : Int) → ((a_bl (0 ≤ x3 ∧ x3 ≤ 4)) ≠ (0 : Int) → aKv s1_G d 31 [aP 6, aI x2] M (fun M1 => ((x3 = 0 → (0 ≤ (0 : Int) ∧ (0 : Int) < 6) ∧ ((0 ≤ x1 ∧ x1 < 40) ∧ (Q (some (aI (M1 17 ((0 : Int) * 40 + x1)))) M1))) ∧ (x3 = 1 → (0 ≤ (1 : Int) ∧ (1 : Int) < 6) ∧ ((0 ≤ x1 ∧ x1 < 40) ∧ (Q (some (aI (M1 17 ((1 : Int) * 40 + x1)))) M1))) ∧ (x3 = 2 → (0 ≤ (2 : Int) ∧ (2 : Int) < 6) ∧ ((0 ≤ x1 ∧ x1 < 40) ∧ (Q (some (aI (M1 17 ((2 : Int) * 40 + x1)))) M1))) ∧ (x3 = 3 → aKi s1_G d 35 [aP 6, aI x1, aI 30000] M1 (fun z3 M2 => Q (some (aI z3)) M2)) ∧ True) ∧ (x3 < 0 ∨ 3 < x3 → aKi s1_G d 33 [aP 6, aI 5, aI x1, aI 30000] M1 (fun z5 M4 => Q (some (aI (a_bl (z5 ≠ 0)))) M4)))) ∧ ((a_bl (0 ≤ x3 ∧ x3 ≤ 4)) = (0 : Int) → Q (some (aI (-100002))) M))) ∧ ((a_bl (0 ≤ x1 ∧ x1 ≤ a_sub (M 1 4) 1)) = (0 : Int) → Q (some (aI (-100001))) M)) :
    aE s1_G d 114 0 [] [some (aP 0), some (aI x1), some (aI x2), some (aI x3)] [] M Q := aE_go s1_pu_ok [] 186 hd h

-- 115: DioceseBook.count(I)I
set_option maxRecDepth 100000 in
set_option maxHeartbeats 4000000 in
theorem s1_count_0 {d : Nat} (hd : 3 < d) {M : AM} {Q : Option AV → AM → Prop} {x1 : Int}
    (h : ((x1 = 0 → Q (some (aI (M 0 10))) M) ∧ (x1 = 1 → Q (some (aI (M 1 4))) M) ∧ (x1 = 2 → Q (some (aI (M 1 5))) M) ∧ (x1 = 3 → Q (some (aI (M 6 7))) M) ∧ (x1 = 4 → aKv s1_G d 31 [aP 6, aI (M 0 10)] M (fun M1 => Q (some (aI (a_sub (M1 6 7) (M1 6 12)))) M1)) ∧ (x1 = 5 → Q (some (aI (M 24 0))) M) ∧ (x1 = 6 → Q (some (aI (M 69 4))) M) ∧ (x1 = 7 → Q (some (aI (M 181 5))) M) ∧ (x1 = 8 → aKv s1_G d 69 [aP 37, aI (M 0 10), aI (M 0 10)] M (fun M2 => aKi s1_G d 78 [aP 37, aI 0] M2 (fun z4 M3 => Q (some (aI z4)) M3))) ∧ (x1 = 9 → aKv s1_G d 69 [aP 37, aI (M 0 10), aI (M 0 10)] M (fun M5 => aKi s1_G d 78 [aP 37, aI 2] M5 (fun z7 M6 => Q (some (aI z7)) M6))) ∧ (x1 = 10 → Q (some (aI (M 35 2))) M) ∧ True) ∧ (x1 < 0 ∨ 10 < x1 → Q (some (aI (-100002))) M)) :
    aE s1_G d 115 0 [] [some (aP 0), some (aI x1)] [] M Q := aE_go s1_pu_ok [] 204 hd h

-- 116: DioceseBook.feed(IJ)I
set_option maxRecDepth 100000 in
set_option maxHeartbeats 4000000 in
theorem s1_feed_0 {d : Nat} (hd : 3 < d) {M : AM} {Q : Option AV → AM → Prop} {x1 x2 : Int}
    (h : ((a_bl (1 ≤ x1 ∧ x1 ≤ 8)) ≠ (0 : Int) → ((a_add (M 35 2) x1) ≤ (200 : Int) → aE s1_G d 116 36 [] [some (aP 0), none, some (aL x2), none, some (aI (a_sub x1 1))] [] M Q) ∧ ((200 : Int) < (a_add (M 35 2) x1) → Q (some (aI (-100004))) M)) ∧ ((a_bl (1 ≤ x1 ∧ x1 ≤ 8)) = (0 : Int) → Q (some (aI (-100002))) M)) :
    aE s1_G d 116 0 [] [some (aP 0), some (aI x1), some (aL x2), none, none] [] M Q := aE_go s1_pu_ok [(36, [true, false, true, false, true])] 100 hd h

set_option maxRecDepth 100000 in
set_option maxHeartbeats 4000000 in
theorem s1_feed_36 {d : Nat} (hd : 3 < d) {M : AM} {Q : Option AV → AM → Prop} {x2 x4 : Int}
    (h : (x4 < (0 : Int) → Q (some (aI (M 35 2))) M) ∧ ((0 : Int) ≤ x4 → aKv s1_G d 37 [aP 35, aI (a_and (a_l2i (a_lushr x2 (a_mul 8 x4))) 255)] M (fun M1 => aE s1_G d 116 36 [] [some (aP 0), none, some (aL x2), none, some (aI (a_add x4 (-1)))] [] M1 Q))) :
    aE s1_G d 116 36 [] [some (aP 0), none, some (aL x2), none, some (aI x4)] [] M Q := aE_go s1_pu_ok [(36, [true, false, true, false, true])] 98 hd h

-- 117: DioceseBook.canon(I)I
set_option maxRecDepth 100000 in
set_option maxHeartbeats 4000000 in
theorem s1_canon_0 {d : Nat} (hd : 3 < d) {M : AM} {Q : Option AV → AM → Prop} {x1 : Int}
    (h : ((a_bl (0 ≤ x1 ∧ x1 ≤ 30000)) ≠ (0 : Int) → ((M 24 0) < (10 : Int) → aKi s1_G d 38 [aP 35] M (fun z2 M1 => (z2 = (0 : Int) → aKv s1_G d 68 [aP 37] M1 (fun M3 => aKi s1_G d 4 [aP 24, aI x1] M3 (fun z5 M4 => Q (some (aI z5)) M4))) ∧ (z2 ≠ (0 : Int) → Q (some (aI (a_sub (-10) z2))) M1))) ∧ ((10 : Int) ≤ (M 24 0) → Q (some (aI (-100004))) M)) ∧ ((a_bl (0 ≤ x1 ∧ x1 ≤ 30000)) = (0 : Int) → Q (some (aI (-100002))) M)) :
    aE s1_G d 117 0 [] [some (aP 0), some (aI x1), none] [] M Q := aE_go s1_pu_ok [] 120 hd h

-- 118: DioceseBook.fault()I
set_option maxRecDepth 100000 in
set_option maxHeartbeats 4000000 in
theorem s1_fault_0 {d : Nat} (hd : 3 < d) {M : AM} {Q : Option AV → AM → Prop}
    (h : Q (some (aI (M 35 3))) M) :
    aE s1_G d 118 0 [] [some (aP 0)] [] M Q := aE_go s1_pu_ok [] 68 hd h

-- 119: DioceseBook.force(III)I
set_option maxRecDepth 100000 in
set_option maxHeartbeats 4000000 in
theorem s1_force_0 {d : Nat} (hd : 3 < d) {M : AM} {Q : Option AV → AM → Prop} {x1 x2 x3 : Int}
    (h : ((a_bl (0 ≤ x1 ∧ x1 ≤ 7)) = (0 : Int) → Q (some (aI (-100002))) M) ∧ ((a_bl (0 ≤ x1 ∧ x1 ≤ 7)) ≠ (0 : Int) → ((a_bl (0 ≤ x2 ∧ x2 ≤ 30000)) = (0 : Int) → Q (some (aI (-100002))) M) ∧ ((a_bl (0 ≤ x2 ∧ x2 ≤ 30000)) ≠ (0 : Int) → ((a_bl (0 ≤ x3 ∧ x3 ≤ 1)) ≠ (0 : Int) → aKv s1_G d 7 [aP 24, aI x2] M (fun M1 => (x3 ≠ (0 : Int) → (0 ≤ x1 ∧ x1 < 8) ∧ (Q (some (aI (M1 34 x1))) M1)) ∧ (x3 = (0 : Int) → (0 ≤ x1 ∧ x1 < 8) ∧ (Q (some (aI (M1 33 x1))) M1)))) ∧ ((a_bl (0 ≤ x3 ∧ x3 ≤ 1)) = (0 : Int) → Q (some (aI (-100002))) M)))) :
    aE s1_G d 119 0 [] [some (aP 0), some (aI x1), some (aI x2), some (aI x3)] [] M Q := aE_go s1_pu_ok [] 136 hd h

-- 120: DioceseBook.counts(II)I
set_option maxRecDepth 100000 in
set_option maxHeartbeats 4000000 in
theorem s1_counts_0 {d : Nat} (hd : 3 < d) {M : AM} {Q : Option AV → AM → Prop} {x1 x2 : Int}
    (h : ((a_bl (0 ≤ x1 ∧ x1 ≤ (a_sub (M 24 0) 1))) ≠ (0 : Int) → ((a_bl (0 ≤ x2 ∧ x2 ≤ 30000)) ≠ (0 : Int) → aKv s1_G d 7 [aP 24, aI x2] M (fun M1 => aKi s1_G d 5 [aP 24, aI x1] M1 (fun z3 M2 => (z3 = (0 : Int) → Q (some (aI 0)) M2) ∧ (z3 ≠ (0 : Int) → (0 ≤ x1 ∧ x1 < 10) ∧ (Q (some (aI (M2 25 x1))) M2))))) ∧ ((a_bl (0 ≤ x2 ∧ x2 ≤ 30000)) = (0 : Int) → Q (some (aI (-100002))) M)) ∧ ((a_bl (0 ≤ x1 ∧ x1 ≤ (a_sub (M 24 0) 1))) = (0 : Int) → Q (some (aI (-100001))) M)) :
    aE s1_G d 120 0 [] [some (aP 0), some (aI x1), some (aI x2)] [] M Q := aE_go s1_pu_ok [] 128 hd h

-- 121: DioceseBook.barred(IIII)I
set_option maxRecDepth 100000 in
set_option maxHeartbeats 4000000 in
theorem s1_barred_0 {d : Nat} (hd : 3 < d) {M : AM} {Q : Option AV → AM → Prop} {x1 x2 x3 x4 : Int}
    (h : ((a_bl (0 ≤ x1 ∧ x1 ≤ a_sub (M 1 4) 1)) = (0 : Int) → Q (some (aI (-100001))) M) ∧ ((a_bl (0 ≤ x1 ∧ x1 ≤ a_sub (M 1 4) 1)) ≠ (0 : Int) → ((a_bl (0 ≤ x2 ∧ x2 ≤ a_sub (M 1 5) 1)) ≠ (0 : Int) → ((a_bl (0 ≤ x3 ∧ x3 ≤ 30000)) = (0 : Int) → Q (some (aI (-100002))) M) ∧ ((a_bl (0 ≤ x3 ∧ x3 ≤ 30000)) ≠ (0 : Int) → ((a_bl (0 ≤ x4 ∧ x4 ≤ M 0 10)) ≠ (0 : Int) → aKv s1_G d 69 [aP 37, aI x4, aI x3] M (fun M1 => aKi s1_G d 82 [aP 37, aI x1, aI x2, aI x3] M1 (fun z3 M2 => Q (some (aI z3)) M2))) ∧ ((a_bl (0 ≤ x4 ∧ x4 ≤ M 0 10)) = (0 : Int) → Q (some (aI (-100002))) M))) ∧ ((a_bl (0 ≤ x2 ∧ x2 ≤ a_sub (M 1 5) 1)) = (0 : Int) → Q (some (aI (-100001))) M))) :
    aE s1_G d 121 0 [] [some (aP 0), some (aI x1), some (aI x2), some (aI x3), some (aI x4)] [] M Q := aE_go s1_pu_ok [] 130 hd h

-- 122: DioceseBook.seat(IIII)I
set_option maxRecDepth 100000 in
set_option maxHeartbeats 4000000 in
theorem s1_seat_0 {d : Nat} (hd : 3 < d) {M : AM} {Q : Option AV → AM → Prop} {x1 x2 x3 x4 : Int}
    (h : ((a_bl (0 ≤ x1 ∧ x1 ≤ a_sub (M 1 5) 1)) ≠ (0 : Int) → ((a_bl (0 ≤ x2 ∧ x2 ≤ 30000)) = (0 : Int) → Q (some (aI (-100002))) M) ∧ ((a_bl (0 ≤ x2 ∧ x2 ≤ 30000)) ≠ (0 : Int) → ((a_bl (0 ≤ x3 ∧ x3 ≤ M 0 10)) = (0 : Int) → Q (some (aI (-100002))) M) ∧ ((a_bl (0 ≤ x3 ∧ x3 ≤ M 0 10)) ≠ (0 : Int) → ((a_bl (0 ≤ x4 ∧ x4 ≤ 7)) ≠ (0 : Int) → aKv s1_G d 69 [aP 37, aI x3, aI x2] M (fun M1 => ((x4 = 0 → aKi s1_G d 77 [aP 37, aI x1] M1 (fun z3 M2 => Q (some (aI z3)) M2)) ∧ (x4 = 1 → aKi s1_G d 79 [aP 37, aI x1] M1 (fun z5 M4 => Q (some (aI z5)) M4)) ∧ (x4 = 2 → (0 ≤ x1 ∧ x1 < 12) ∧ (Q (some (aI (a_l2i (a_land (M1 38 x1) 2147483647)))) M1)) ∧ (x4 = 3 → (0 ≤ x1 ∧ x1 < 12) ∧ (Q (some (aI (M1 52 x1))) M1)) ∧ (x4 = 4 → (0 ≤ x1 ∧ x1 < 12) ∧ (Q (some (aI (M1 53 x1))) M1)) ∧ (x4 = 5 → aKi s1_G d 80 [aP 37, aI x1, aI x2] M1 (fun z7 M6 => Q (some (aI z7)) M6)) ∧ (x4 = 6 → aKi s1_G d 62 [aP 56, aI x1] M1 (fun z9 M8 => Q (some (aI z9)) M8)) ∧ True) ∧ (x4 < 0 ∨ 6 < x4 → aKi s1_G d 63 [aP 56, aI x1] M1 (fun z11 M10 => Q (some (aI z11)) M10)))) ∧ ((a_bl (0 ≤ x4 ∧ x4 ≤ 7)) = (0 : Int) → Q (some (aI (-100002))) M)))) ∧ ((a_bl (0 ≤ x1 ∧ x1 ≤ a_sub (M 1 5) 1)) = (0 : Int) → Q (some (aI (-100001))) M)) :
    aE s1_G d 122 0 [] [some (aP 0), some (aI x1), some (aI x2), some (aI x3), some (aI x4)] [] M Q := aE_go s1_pu_ok [] 220 hd h

-- 123: DioceseBook.good(II)I
set_option maxRecDepth 100000 in
set_option maxHeartbeats 4000000 in
theorem s1_good_0 {d : Nat} (hd : 3 < d) {M : AM} {Q : Option AV → AM → Prop} {x1 x2 : Int}
    (h : aKi s1_G d 125 [aP 0, aI x1, aI x2] M (fun z2 M1 => (z2 = (0 : Int) → aKv s1_G d 69 [aP 37, aI x2, aI 30000] M1 (fun M3 => (0 ≤ x1 ∧ x1 < 150) ∧ (((M3 54 x1) ≠ (0 : Int) → Q (some (aI (a_bl ((0 : Int) ≠ 0)))) M3) ∧ ((M3 54 x1) = (0 : Int) → Q (some (aI (a_bl ((1 : Int) ≠ 0)))) M3)))) ∧ (z2 ≠ (0 : Int) → Q (some (aI z2)) M1))) :
    aE s1_G d 123 0 [] [some (aP 0), some (aI x1), some (aI x2), none] [] M Q := aE_go s1_pu_ok [] 114 hd h

-- 124: DioceseBook.why(II)I
set_option maxRecDepth 100000 in
set_option maxHeartbeats 4000000 in
theorem s1_why_0 {d : Nat} (hd : 3 < d) {M : AM} {Q : Option AV → AM → Prop} {x1 x2 : Int}
    (h : aKi s1_G d 125 [aP 0, aI x1, aI x2] M (fun z2 M1 => (z2 = (0 : Int) → aKv s1_G d 69 [aP 37, aI x2, aI 30000] M1 (fun M3 => (0 ≤ x1 ∧ x1 < 150) ∧ (Q (some (aI (M3 54 x1))) M3))) ∧ (z2 ≠ (0 : Int) → Q (some (aI z2)) M1))) :
    aE s1_G d 124 0 [] [some (aP 0), some (aI x1), some (aI x2), none] [] M Q := aE_go s1_pu_ok [] 100 hd h

-- 125: DioceseBook.refusalOfIn(II)I
set_option maxRecDepth 100000 in
set_option maxHeartbeats 4000000 in
theorem s1_refusalOfIn_0 {d : Nat} (hd : 3 < d) {M : AM} {Q : Option AV → AM → Prop} {x1 x2 : Int}
    (h : ((a_bl (0 ≤ x1 ∧ x1 ≤ a_sub (M 6 7) 1)) ≠ (0 : Int) → ((a_bl (0 ≤ x2 ∧ x2 ≤ M 0 10)) ≠ (0 : Int) → aKv s1_G d 31 [aP 6, aI x2] M (fun M1 => (0 ≤ x1 ∧ x1 < 150) ∧ (((M1 7 x1) ≠ (3 : Int) → Q (some (aI (-100003))) M1) ∧ ((M1 7 x1) = (3 : Int) → aKi s1_G d 34 [aP 6, aI x1] M1 (fun z3 M2 => (z3 = (0 : Int) → Q (some (aI (-100003))) M2) ∧ (z3 ≠ (0 : Int) → Q (some (aI 0)) M2)))))) ∧ ((a_bl (0 ≤ x2 ∧ x2 ≤ M 0 10)) = (0 : Int) → Q (some (aI (-100002))) M)) ∧ ((a_bl (0 ≤ x1 ∧ x1 ≤ a_sub (M 6 7) 1)) = (0 : Int) → Q (some (aI (-100001))) M)) :
    aE s1_G d 125 0 [] [some (aP 0), some (aI x1), some (aI x2)] [] M Q := aE_go s1_pu_ok [] 130 hd h

-- 126: DioceseBook.change(IIII)I
set_option maxRecDepth 100000 in
set_option maxHeartbeats 4000000 in
theorem s1_change_0 {d : Nat} (hd : 3 < d) {M : AM} {Q : Option AV → AM → Prop} {x1 x2 x3 x4 : Int}
    (h : ((a_bl (0 ≤ x1 ∧ x1 ≤ a_sub (M 1 5) 1)) ≠ (0 : Int) → ((a_bl (0 ≤ x2 ∧ x2 ≤ M 0 10)) = (0 : Int) → Q (some (aI (-100002))) M) ∧ ((a_bl (0 ≤ x2 ∧ x2 ≤ M 0 10)) ≠ (0 : Int) → ((a_bl (0 ≤ x4 ∧ x4 ≤ 2)) ≠ (0 : Int) → aKv s1_G d 69 [aP 37, aI x2, aI 30000] M (fun M1 => aKi s1_G d 16 [aP 62, aI x1, aI x3] M1 (fun z3 M2 => (z3 ≠ ((-1) : Int) → (x4 = 0 → (0 ≤ z3 ∧ z3 < 300) ∧ (Q (some (aI (M2 63 z3))) M2)) ∧ (x4 ≠ 0 → (x4 = 1 → (0 ≤ z3 ∧ z3 < 300) ∧ (Q (some (aI (M2 65 z3))) M2)) ∧ (x4 ≠ 1 → (0 ≤ z3 ∧ z3 < 300) ∧ (Q (some (aI (M2 64 z3))) M2)))) ∧ (z3 = ((-1) : Int) → Q (some (aI (-1))) M2)))) ∧ ((a_bl (0 ≤ x4 ∧ x4 ≤ 2)) = (0 : Int) → Q (some (aI (-100002))) M))) ∧ ((a_bl (0 ≤ x1 ∧ x1 ≤ a_sub (M 1 5) 1)) = (0 : Int) → Q (some (aI (-100001))) M)) :
    aE s1_G d 126 0 [] [some (aP 0), some (aI x1), some (aI x2), some (aI x3), some (aI x4), none] [] M Q := aE_go s1_pu_ok [] 178 hd h

-- 127: DioceseBook.days(IIIII)I
set_option maxRecDepth 100000 in
set_option maxHeartbeats 4000000 in
theorem s1_days_0 {d : Nat} (hd : 3 < d) {M : AM} {Q : Option AV → AM → Prop} {x1 x2 x3 x4 x5 : Int}
    (h : ((a_bl (0 ≤ x1 ∧ x1 ≤ a_sub (M 1 5) 1)) ≠ (0 : Int) → ((a_bl (0 ≤ x2 ∧ x2 ≤ 30000)) = (0 : Int) → Q (some (aI (-100002))) M) ∧ ((a_bl (0 ≤ x2 ∧ x2 ≤ 30000)) ≠ (0 : Int) → ((a_bl (0 ≤ x3 ∧ x3 ≤ 30000)) = (0 : Int) → Q (some (aI (-100002))) M) ∧ ((a_bl (0 ≤ x3 ∧ x3 ≤ 30000)) ≠ (0 : Int) → ((a_bl (0 ≤ (a_sub x3 x2) ∧ (a_sub x3 x2) ≤ 5000)) = (0 : Int) → Q (some (aI (-100002))) M) ∧ ((a_bl (0 ≤ (a_sub x3 x2) ∧ (a_sub x3 x2) ≤ 5000)) ≠ (0 : Int) → ((a_bl (0 ≤ x4 ∧ x4 ≤ M 0 10)) = (0 : Int) → Q (some (aI (-100002))) M) ∧ ((a_bl (0 ≤ x4 ∧ x4 ≤ M 0 10)) ≠ (0 : Int) → ((a_bl (0 ≤ x5 ∧ x5 ≤ 2)) ≠ (0 : Int) → aKv s1_G d 69 [aP 37, aI x4, aI 30000] M (fun M1 => aKi s1_G d 18 [aP 62, aI x1, aI x2, aI x3, aI x5] M1 (fun z3 M2 => Q (some (aI z3)) M2))) ∧ ((a_bl (0 ≤ x5 ∧ x5 ≤ 2)) = (0 : Int) → Q (some (aI (-100002))) M)))))) ∧ ((a_bl (0 ≤ x1 ∧ x1 ≤ a_sub (M 1 5) 1)) = (0 : Int) → Q (some (aI (-100001))) M)) :
    aE s1_G d 127 0 [] [some (aP 0), some (aI x1), some (aI x2), some (aI x3), some (aI x4), some (aI x5)] [] M Q := aE_go s1_pu_ok [] 164 hd h

-- 128: DioceseBook.news(III)I
set_option maxRecDepth 100000 in
set_option maxHeartbeats 4000000 in
theorem s1_news_0 {d : Nat} (hd : 3 < d) {M : AM} {Q : Option AV → AM → Prop} {x1 x2 x3 : Int}
    (h : ((a_bl (0 ≤ x1 ∧ x1 ≤ 30000)) = (0 : Int) → Q (some (aI (-100002))) M) ∧ ((a_bl (0 ≤ x1 ∧ x1 ≤ 30000)) ≠ (0 : Int) → ((a_bl (0 ≤ x2 ∧ x2 ≤ M 0 10)) = (0 : Int) → Q (some (aI (-100002))) M) ∧ ((a_bl (0 ≤ x2 ∧ x2 ≤ M 0 10)) ≠ (0 : Int) → ((a_bl (0 ≤ x3 ∧ x3 ≤ M 0 10)) ≠ (0 : Int) → aKv s1_G d 69 [aP 37, aI x2, aI x1] M (fun M1 => aE s1_G d 128 38 [] [some (aP 0), some (aI x1), none, some (aI x3), some (aI 0), none] [] M1 Q)) ∧ ((a_bl (0 ≤ x3 ∧ x3 ≤ M 0 10)) = (0 : Int) → Q (some (aI (-100002))) M)))) :
    aE s1_G d 128 0 [] [some (aP 0), some (aI x1), some (aI x2), some (aI x3), none, none] [] M Q := aE_go s1_pu_ok [(38, [true, true, false, true, true, false]), (88, [true, false, false, false, true, true])] 108 hd h

set_option maxRecDepth 100000 in
set_option maxHeartbeats 4000000 in
theorem s1_news_38 {d : Nat} (hd : 3 < d) {M : AM} {Q : Option AV → AM → Prop} {x1 x3 x4 : Int}
    (h : ((M 1 5) ≤ x4 → aKv s1_G d 69 [aP 37, aI x3, aI x1] M (fun M1 => aE s1_G d 128 88 [] [some (aP 0), none, none, none, some (aI 0), some (aI 0)] [] M1 Q)) ∧ (x4 < (M 1 5) → (0 ≤ x4 ∧ x4 < 12) ∧ ((0 ≤ x4 ∧ x4 < 12) ∧ (aE s1_G d 128 38 [] [some (aP 0), some (aI x1), none, some (aI x3), some (aI (a_add x4 1)), none] [] (am_up M 204 x4 (M 38 x4)) Q)))) :
    aE s1_G d 128 38 [] [some (aP 0), some (aI x1), none, some (aI x3), some (aI x4), none] [] M Q := aE_go s1_pu_ok [(38, [true, true, false, true, true, false]), (88, [true, false, false, false, true, true])] 110 hd h

set_option maxRecDepth 100000 in
set_option maxHeartbeats 4000000 in
theorem s1_news_88 {d : Nat} (hd : 3 < d) {M : AM} {Q : Option AV → AM → Prop} {x4 x5 : Int}
    (h : ((M 1 5) ≤ x5 → Q (some (aI x4)) M) ∧ (x5 < (M 1 5) → (0 ≤ x5 ∧ x5 < 12) ∧ ((0 ≤ x5 ∧ x5 < 12) ∧ (((a_cmp (M 204 x5) (M 38 x5)) = (0 : Int) → aE s1_G d 128 88 [] [some (aP 0), none, none, none, some (aI x4), some (aI (a_add x5 1))] [] M Q) ∧ ((a_cmp (M 204 x5) (M 38 x5)) ≠ (0 : Int) → aE s1_G d 128 88 [] [some (aP 0), none, none, none, some (aI (a_add x4 1)), some (aI (a_add x5 1))] [] M Q))))) :
    aE s1_G d 128 88 [] [some (aP 0), none, none, none, some (aI x4), some (aI x5)] [] M Q := aE_go s1_pu_ok [(38, [true, true, false, true, true, false]), (88, [true, false, false, false, true, true])] 106 hd h

-- 129: DioceseBook.present(III)I
set_option maxRecDepth 100000 in
set_option maxHeartbeats 4000000 in
theorem s1_present_0 {d : Nat} (hd : 3 < d) {M : AM} {Q : Option AV → AM → Prop} {x1 x2 x3 : Int}
    (h : ((a_bl (0 ≤ x1 ∧ x1 ≤ a_sub (M 1 4) 1)) = (0 : Int) → Q (some (aI (-100001))) M) ∧ ((a_bl (0 ≤ x1 ∧ x1 ≤ a_sub (M 1 4) 1)) ≠ (0 : Int) → ((a_bl (0 ≤ x2 ∧ x2 ≤ a_sub (M 1 5) 1)) ≠ (0 : Int) → ((a_bl (0 ≤ x3 ∧ x3 ≤ (M 0 10))) ≠ (0 : Int) → aKi s1_G d 85 [aP 69, aI x3] M (fun z2 M1 => Q (some (aI z2)) M1)) ∧ ((a_bl (0 ≤ x3 ∧ x3 ≤ (M 0 10))) = (0 : Int) → Q (some (aI (-100002))) M)) ∧ ((a_bl (0 ≤ x2 ∧ x2 ≤ a_sub (M 1 5) 1)) = (0 : Int) → Q (some (aI (-100001))) M))) :
    aE s1_G d 129 0 [] [some (aP 0), some (aI x1), some (aI x2), some (aI x3)] [] M Q := aE_go s1_pu_ok [] 110 hd h

-- 130: DioceseBook.step(II)I
set_option maxRecDepth 100000 in
set_option maxHeartbeats 4000000 in
theorem s1_step_0 {d : Nat} (hd : 3 < d) {M : AM} {Q : Option AV → AM → Prop} {x1 x2 : Int}
    (h : ((a_bl (0 ≤ x1 ∧ x1 ≤ a_sub (M 69 4) 1)) ≠ (0 : Int) → aKi s1_G d 89 [aP 69, aI x1, aI 30000] M (fun z2 M1 => ((a_bl (z2 ≤ x2 ∧ x2 ≤ (M1 0 10))) ≠ (0 : Int) → aKi s1_G d 86 [aP 69, aI x1, aI x2] M1 (fun z4 M3 => Q (some (aI z4)) M3)) ∧ ((a_bl (z2 ≤ x2 ∧ x2 ≤ (M1 0 10))) = (0 : Int) → Q (some (aI (-100002))) M1))) ∧ ((a_bl (0 ≤ x1 ∧ x1 ≤ a_sub (M 69 4) 1)) = (0 : Int) → Q (some (aI (-100001))) M)) :
    aE s1_G d 130 0 [] [some (aP 0), some (aI x1), some (aI x2)] [] M Q := aE_go s1_pu_ok [] 108 hd h

-- 131: DioceseBook.appeal(II)I
set_option maxRecDepth 100000 in
set_option maxHeartbeats 4000000 in
theorem s1_appeal_0 {d : Nat} (hd : 3 < d) {M : AM} {Q : Option AV → AM → Prop} {x1 x2 : Int}
    (h : ((a_bl (0 ≤ x1 ∧ x1 ≤ a_sub (M 69 4) 1)) ≠ (0 : Int) → ((a_bl (1 ≤ x2 ∧ x2 ≤ 5)) ≠ (0 : Int) → aKi s1_G d 87 [aP 69, aI x1, aI x2] M (fun z2 M1 => Q (some (aI z2)) M1)) ∧ ((a_bl (1 ≤ x2 ∧ x2 ≤ 5)) = (0 : Int) → Q (some (aI (-100002))) M)) ∧ ((a_bl (0 ≤ x1 ∧ x1 ≤ a_sub (M 69 4) 1)) = (0 : Int) → Q (some (aI (-100001))) M)) :
    aE s1_G d 131 0 [] [some (aP 0), some (aI x1), some (aI x2)] [] M Q := aE_go s1_pu_ok [] 98 hd h

-- 132: DioceseBook.suit(III)I
set_option maxRecDepth 100000 in
set_option maxHeartbeats 4000000 in
theorem s1_suit_0 {d : Nat} (hd : 3 < d) {M : AM} {Q : Option AV → AM → Prop} {x1 x2 x3 : Int}
    (h : ((a_bl (0 ≤ x1 ∧ x1 ≤ a_sub (M 69 4) 1)) ≠ (0 : Int) → ((a_bl (0 ≤ x2 ∧ x2 ≤ 30000)) ≠ (0 : Int) → ((x3 = 0 → aKi s1_G d 88 [aP 69, aI x1, aI x2] M (fun z2 M1 => Q (some (aI z2)) M1)) ∧ (x3 = 1 → aKi s1_G d 89 [aP 69, aI x1, aI x2] M (fun z4 M3 => Q (some (aI z4)) M3)) ∧ (x3 = 2 → aKi s1_G d 90 [aP 69, aI x1, aI x2] M (fun z6 M5 => Q (some (aI (a_bl (z6 ≠ 0)))) M5)) ∧ (x3 = 3 → aKi s1_G d 91 [aP 69, aI x1] M (fun z8 M7 => Q (some (aI z8)) M7)) ∧ True) ∧ (x3 < 0 ∨ 3 < x3 → Q (some (aI (-100002))) M)) ∧ ((a_bl (0 ≤ x2 ∧ x2 ≤ 30000)) = (0 : Int) → Q (some (aI (-100002))) M)) ∧ ((a_bl (0 ≤ x1 ∧ x1 ≤ a_sub (M 69 4) 1)) = (0 : Int) → Q (some (aI (-100001))) M)) :
    aE s1_G d 132 0 [] [some (aP 0), some (aI x1), some (aI x2), some (aI x3)] [] M Q := aE_go s1_pu_ok [] 138 hd h

-- 133: DioceseBook.decay(IIII)I
set_option maxRecDepth 100000 in
set_option maxHeartbeats 4000000 in
theorem s1_decay_0 {d : Nat} (hd : 3 < d) {M : AM} {Q : Option AV → AM → Prop} {x1 x2 x3 x4 : Int}
    (h : ((a_bl (0 ≤ x1 ∧ x1 ≤ a_sub (M 1 4) 1)) = (0 : Int) → Q (some (aI (-100001))) M) ∧ ((a_bl (0 ≤ x1 ∧ x1 ≤ a_sub (M 1 4) 1)) ≠ (0 : Int) → ((a_bl (0 ≤ x2 ∧ x2 ≤ a_sub (M 1 5) 1)) ≠ (0 : Int) → ((a_bl (0 ≤ x3 ∧ x3 ≤ M 0 10)) = (0 : Int) → Q (some (aI (-100002))) M) ∧ ((a_bl (0 ≤ x3 ∧ x3 ≤ M 0 10)) ≠ (0 : Int) → ((a_bl (0 ≤ x4 ∧ x4 ≤ 3)) ≠ (0 : Int) → aKv s1_G d 69 [aP 37, aI x3, aI 30000] M (fun M1 => (x4 ≠ (0 : Int) → (0 ≤ x1 ∧ x1 < 40) ∧ (aE s1_G d 133 83 [] [some (aP 0), some (aI x1), some (aI x2), none, some (aI x4), some (aI (M1 2 x1)), some (aI 0), none] [] M1 Q)) ∧ (x4 = (0 : Int) → aKi s1_G d 17 [aP 62, aI x1, aI x2] M1 (fun z3 M2 => Q (some (aI z3)) M2)))) ∧ ((a_bl (0 ≤ x4 ∧ x4 ≤ 3)) = (0 : Int) → Q (some (aI (-100002))) M))) ∧ ((a_bl (0 ≤ x2 ∧ x2 ≤ a_sub (M 1 5) 1)) = (0 : Int) → Q (some (aI (-100001))) M))) :
    aE s1_G d 133 0 [] [some (aP 0), some (aI x1), some (aI x2), some (aI x3), some (aI x4), none, none, none] [] M Q := aE_go s1_pu_ok [(83, [true, true, true, false, true, true, true, false])] 154 hd h

set_option maxRecDepth 100000 in
set_option maxHeartbeats 4000000 in
theorem s1_decay_83 {d : Nat} (hd : 3 < d) {M : AM} {Q : Option AV → AM → Prop} {x1 x2 x4 x5 x6 : Int}
    (h : (x2 ≤ x6 → aKi s1_G d 83 [aP 37, aI x1, aI x2] M (fun z2 M1 => (x4 = 1 → Q (some (aI z2)) M1) ∧ (x4 ≠ 1 → (x4 = 2 → Q (some (aI (if x5 ≤ z2 then x5 else z2))) M1) ∧ (x4 ≠ 2 → Q (some (aI (a_sub z2 (if x5 ≤ z2 then x5 else z2)))) M1)))) ∧ (x6 < x2 → aKi s1_G d 83 [aP 37, aI x1, aI x6] M (fun z4 M3 => aE s1_G d 133 83 [] [some (aP 0), some (aI x1), some (aI x2), none, some (aI x4), some (aI (a_sub x5 (if x5 ≤ z4 then x5 else z4))), some (aI (a_add x6 1)), none] [] M3 Q))) :
    aE s1_G d 133 83 [] [some (aP 0), some (aI x1), some (aI x2), none, some (aI x4), some (aI x5), some (aI x6), none] [] M Q := aE_go s1_pu_ok [(83, [true, true, true, false, true, true, true, false])] 130 hd h

-- 134: DioceseBook.field(IIIII)I
set_option maxRecDepth 100000 in
set_option maxHeartbeats 4000000 in
theorem s1_field_0 {d : Nat} (hd : 3 < d) {M : AM} {Q : Option AV → AM → Prop} {x1 x2 x3 x4 x5 : Int}
    (h : ((a_bl (0 ≤ x1 ∧ x1 ≤ a_sub (M 1 5) 1)) ≠ (0 : Int) → ((a_bl (0 ≤ x2 ∧ x2 ≤ 1)) = (0 : Int) → Q (some (aI (-100002))) M) ∧ ((a_bl (0 ≤ x2 ∧ x2 ≤ 1)) ≠ (0 : Int) → ((a_bl (0 ≤ x3 ∧ x3 ≤ 99)) = (0 : Int) → Q (some (aI (-100002))) M) ∧ ((a_bl (0 ≤ x3 ∧ x3 ≤ 99)) ≠ (0 : Int) → ((a_bl (1 ≤ x4 ∧ x4 ≤ 999)) = (0 : Int) → Q (some (aI (-100002))) M) ∧ ((a_bl (1 ≤ x4 ∧ x4 ≤ 999)) ≠ (0 : Int) → ((a_bl (0 ≤ x5 ∧ x5 ≤ 99)) ≠ (0 : Int) → aKi s1_G d 92 [aP 93, aI (a_add (a_mul 2 x1) x2), aI x3, aI x4, aI x5] M (fun z2 M1 => Q (some (aI z2)) M1)) ∧ ((a_bl (0 ≤ x5 ∧ x5 ≤ 99)) = (0 : Int) → Q (some (aI (-100002))) M))))) ∧ ((a_bl (0 ≤ x1 ∧ x1 ≤ a_sub (M 1 5) 1)) = (0 : Int) → Q (some (aI (-100001))) M)) :
    aE s1_G d 134 0 [] [some (aP 0), some (aI x1), some (aI x2), some (aI x3), some (aI x4), some (aI x5)] [] M Q := aE_go s1_pu_ok [] 144 hd h

-- 135: DioceseBook.match(II)I
set_option maxRecDepth 100000 in
set_option maxHeartbeats 4000000 in
theorem s1_match_0 {d : Nat} (hd : 3 < d) {M : AM} {Q : Option AV → AM → Prop} {x1 x2 : Int}
    (h : ((a_bl (0 ≤ x1 ∧ x1 ≤ a_sub (M 1 5) 1)) ≠ (0 : Int) → aKv s1_G d 95 [aP 93, aI x1] M (fun M1 => (x2 ≠ ((-1) : Int) → aKi s1_G d 94 [aP 93, aI x1, aI x2] M1 (fun z3 M2 => Q (some (aI z3)) M2)) ∧ (x2 = ((-1) : Int) → aKi s1_G d 93 [aP 93] M1 (fun z5 M4 => Q (some (aI z5)) M4)))) ∧ ((a_bl (0 ≤ x1 ∧ x1 ≤ a_sub (M 1 5) 1)) = (0 : Int) → Q (some (aI (-100001))) M)) :
    aE s1_G d 135 0 [] [some (aP 0), some (aI x1), some (aI x2)] [] M Q := aE_go s1_pu_ok [] 108 hd h

-- 136: DioceseBook.piece(IIIII)I
set_option maxRecDepth 100000 in
set_option maxHeartbeats 4000000 in
theorem s1_piece_0 {d : Nat} (hd : 3 < d) {M : AM} {Q : Option AV → AM → Prop} {x1 x2 x3 x4 x5 : Int}
    (h : ((a_bl (0 ≤ x1 ∧ x1 ≤ 99)) = (0 : Int) → Q (some (aI (-100002))) M) ∧ ((a_bl (0 ≤ x1 ∧ x1 ≤ 99)) ≠ (0 : Int) → ((a_bl ((-50 ≤ x2 ∧ x2 ≤ 50) ∧ (-50 ≤ x3 ∧ x3 ≤ 50))) = (0 : Int) → Q (some (aI (-100002))) M) ∧ ((a_bl ((-50 ≤ x2 ∧ x2 ≤ 50) ∧ (-50 ≤ x3 ∧ x3 ≤ 50))) ≠ (0 : Int) → ((a_bl (0 ≤ x4 ∧ x4 ≤ 30000)) = (0 : Int) → Q (some (aI (-100002))) M) ∧ ((a_bl (0 ≤ x4 ∧ x4 ≤ 30000)) ≠ (0 : Int) → ((a_bl (0 ≤ x5 ∧ x5 ≤ 30000)) = (0 : Int) → Q (some (aI (-100002))) M) ∧ ((a_bl (0 ≤ x5 ∧ x5 ≤ 30000)) ≠ (0 : Int) → (x4 ≤ x5 → aKi s1_G d 20 [aP 181, aI x1, aI x2, aI x3, aI x4, aI x5] M (fun z2 M1 => Q (some (aI z2)) M1)) ∧ (x5 < x4 → Q (some (aI (-100002))) M)))))) :
    aE s1_G d 136 0 [] [some (aP 0), some (aI x1), some (aI x2), some (aI x3), some (aI x4), some (aI x5)] [] M Q := aE_go s1_pu_ok [] 130 hd h

-- 137: DioceseBook.one(II)I
set_option maxRecDepth 100000 in
set_option maxHeartbeats 4000000 in
theorem s1_one_0 {d : Nat} (hd : 3 < d) {M : AM} {Q : Option AV → AM → Prop} {x1 x2 : Int}
    (h : ((a_bl (0 ≤ x1 ∧ x1 ≤ a_sub (M 181 5) 1)) = (0 : Int) → Q (some (aI (-100001))) M) ∧ ((a_bl (0 ≤ x1 ∧ x1 ≤ a_sub (M 181 5) 1)) ≠ (0 : Int) → ((a_bl (0 ≤ x2 ∧ x2 ≤ a_sub (M 181 5) 1)) ≠ (0 : Int) → aKi s1_G d 22 [aP 181, aI x1, aI x2] M (fun z2 M1 => (z2 ≠ (0 : Int) → Q (some (aI (a_bl ((1 : Int) ≠ 0)))) M1) ∧ (z2 = (0 : Int) → aKi s1_G d 22 [aP 181, aI x2, aI x1] M1 (fun z4 M3 => (z4 = (0 : Int) → Q (some (aI (a_bl ((0 : Int) ≠ 0)))) M3) ∧ (z4 ≠ (0 : Int) → Q (some (aI (a_bl ((1 : Int) ≠ 0)))) M3))))) ∧ ((a_bl (0 ≤ x2 ∧ x2 ≤ a_sub (M 181 5) 1)) = (0 : Int) → Q (some (aI (-100001))) M))) :
    aE s1_G d 137 0 [] [some (aP 0), some (aI x1), some (aI x2)] [] M Q := aE_go s1_pu_ok [] 130 hd h

-- 138: DioceseBook.lives(I)I
set_option maxRecDepth 100000 in
set_option maxHeartbeats 4000000 in
theorem s1_lives_0 {d : Nat} (hd : 3 < d) {M : AM} {Q : Option AV → AM → Prop} {x1 : Int}
    (h : (x1 = ((-1) : Int) → aKv s1_G d 23 [aP 181] M (fun M1 => (x1 ≠ ((-1) : Int) → (0 ≤ x1 ∧ x1 < 16) ∧ (Q (some (aI (M1 187 x1))) M1)) ∧ (x1 = ((-1) : Int) → Q (some (aI (M1 181 6))) M1))) ∧ (x1 ≠ ((-1) : Int) → ((a_bl (0 ≤ x1 ∧ x1 ≤ a_sub (M 181 5) 1)) ≠ (0 : Int) → aKv s1_G d 23 [aP 181] M (fun M2 => (x1 ≠ ((-1) : Int) → (0 ≤ x1 ∧ x1 < 16) ∧ (Q (some (aI (M2 187 x1))) M2)) ∧ (x1 = ((-1) : Int) → Q (some (aI (M2 181 6))) M2))) ∧ ((a_bl (0 ≤ x1 ∧ x1 ≤ a_sub (M 181 5) 1)) = (0 : Int) → Q (some (aI (-100001))) M))) :
    aE s1_G d 138 0 [] [some (aP 0), some (aI x1)] [] M Q := aE_go s1_pu_ok [] 146 hd h

-- 139: DioceseBook.plan(III)I
set_option maxRecDepth 100000 in
set_option maxHeartbeats 4000000 in
theorem s1_plan_0 {d : Nat} (hd : 3 < d) {M : AM} {Q : Option AV → AM → Prop} {x1 x2 x3 : Int}
    (h : ((a_ushr x1 (M 1 5)) = (0 : Int) → aKi s1_G d 151 [aI x1] M (fun z2 M1 => ((a_bl (1 ≤ z2 ∧ z2 ≤ 8)) = (0 : Int) → Q (some (aI (-100002))) M1) ∧ ((a_bl (1 ≤ z2 ∧ z2 ≤ 8)) ≠ (0 : Int) → ((a_bl (1 ≤ x2 ∧ x2 ≤ 999)) = (0 : Int) → Q (some (aI (-100002))) M1) ∧ ((a_bl (1 ≤ x2 ∧ x2 ≤ 999)) ≠ (0 : Int) → (((-2) : Int) ≤ x3 → aKi s1_G d 101 [aP 190, aI x1, aI x2] M1 (fun z4 M3 => (z4 ≠ (0 : Int) → (x3 ≠ ((-1) : Int) → (x3 ≠ ((-2) : Int) → aKi s1_G d 106 [aP 190, aI x3] M3 (fun z6 M5 => Q (some (aI z6)) M5)) ∧ (x3 = ((-2) : Int) → Q (some (aI (M3 190 10))) M3)) ∧ (x3 = ((-1) : Int) → Q (some (aI (M3 190 9))) M3)) ∧ (z4 = (0 : Int) → Q (some (aI (-100003))) M3))) ∧ (x3 < ((-2) : Int) → Q (some (aI (-100002))) M1))))) ∧ ((a_ushr x1 (M 1 5)) ≠ (0 : Int) → Q (some (aI (-100001))) M)) :
    aE s1_G d 139 0 [] [some (aP 0), some (aI x1), some (aI x2), some (aI x3)] [] M Q := aE_go s1_pu_ok [] 172 hd h

-- 140: DioceseBook.within(III)Z
set_option maxRecDepth 100000 in
set_option maxHeartbeats 4000000 in
theorem s1_within_0 {d : Nat} (hd : 3 < d) {M : AM} {Q : Option AV → AM → Prop} {x0 x1 x2 : Int}
    (h : (x0 < x1 → ((0 : Int) = 0 ∨ (0 : Int) = 1) ∧ Q (some (aI 0)) M) ∧ (x1 ≤ x0 → (x2 < x0 → ((0 : Int) = 0 ∨ (0 : Int) = 1) ∧ Q (some (aI 0)) M) ∧ (x0 ≤ x2 → ((1 : Int) = 0 ∨ (1 : Int) = 1) ∧ Q (some (aI 1)) M))) :
    aE s1_G d 140 0 [] [some (aI x0), some (aI x1), some (aI x2)] [] M Q := aE_go s1_pu_ok [] 86 hd h

-- 141: DioceseBook.oneIf(Z)I
set_option maxRecDepth 100000 in
set_option maxHeartbeats 4000000 in
theorem s1_oneIf_0 {d : Nat} (hd : 3 < d) {M : AM} {Q : Option AV → AM → Prop} {x0 : Int}
    (h : (x0 = (0 : Int) → Q (some (aI 0)) M) ∧ (x0 ≠ (0 : Int) → Q (some (aI 1)) M)) :
    aE s1_G d 141 0 [] [some (aI x0)] [] M Q := aE_go s1_pu_ok [] 74 hd h

-- 142: DioceseBook.isDay(I)Z
set_option maxRecDepth 100000 in
set_option maxHeartbeats 4000000 in
theorem s1_isDay_0 {d : Nat} (hd : 3 < d) {M : AM} {Q : Option AV → AM → Prop} {x0 : Int}
    (h : ((a_bl (0 ≤ x0 ∧ x0 ≤ 30000)) = 0 ∨ (a_bl (0 ≤ x0 ∧ x0 ≤ 30000)) = 1) ∧ Q (some (aI (a_bl (0 ≤ x0 ∧ x0 ≤ 30000)))) M) :
    aE s1_G d 142 0 [] [some (aI x0)] [] M Q := aE_go s1_pu_ok [] 70 hd h

-- 143: DioceseBook.isName(I)Z
set_option maxRecDepth 100000 in
set_option maxHeartbeats 4000000 in
theorem s1_isName_0 {d : Nat} (hd : 3 < d) {M : AM} {Q : Option AV → AM → Prop} {x0 : Int}
    (h : ((a_bl (0 ≤ x0 ∧ x0 ≤ 99)) = 0 ∨ (a_bl (0 ≤ x0 ∧ x0 ≤ 99)) = 1) ∧ Q (some (aI (a_bl (0 ≤ x0 ∧ x0 ≤ 99)))) M) :
    aE s1_G d 143 0 [] [some (aI x0)] [] M Q := aE_go s1_pu_ok [] 70 hd h

-- 144: DioceseBook.isPlace(II)Z
set_option maxRecDepth 100000 in
set_option maxHeartbeats 4000000 in
theorem s1_isPlace_0 {d : Nat} (hd : 3 < d) {M : AM} {Q : Option AV → AM → Prop} {x0 x1 : Int}
    (h : ((a_bl ((-50) ≤ x0 ∧ x0 ≤ 50)) = (0 : Int) → ((0 : Int) = 0 ∨ (0 : Int) = 1) ∧ Q (some (aI 0)) M) ∧ ((a_bl ((-50) ≤ x0 ∧ x0 ≤ 50)) ≠ (0 : Int) → ((a_bl ((-50) ≤ x1 ∧ x1 ≤ 50)) = (0 : Int) → ((0 : Int) = 0 ∨ (0 : Int) = 1) ∧ Q (some (aI 0)) M) ∧ ((a_bl ((-50) ≤ x1 ∧ x1 ≤ 50)) ≠ (0 : Int) → ((1 : Int) = 0 ∨ (1 : Int) = 1) ∧ Q (some (aI 1)) M))) :
    aE s1_G d 144 0 [] [some (aI x0), some (aI x1)] [] M Q := aE_go s1_pu_ok [] 94 hd h

-- 145: DioceseBook.isKnowable(I)Z
set_option maxRecDepth 100000 in
set_option maxHeartbeats 4000000 in
theorem s1_isKnowable_0 {d : Nat} (hd : 3 < d) {M : AM} {Q : Option AV → AM → Prop} {x1 : Int}
    (h : ((a_bl (0 ≤ x1 ∧ x1 ≤ (M 0 10))) = 0 ∨ (a_bl (0 ≤ x1 ∧ x1 ≤ (M 0 10))) = 1) ∧ Q (some (aI (a_bl (0 ≤ x1 ∧ x1 ≤ (M 0 10))))) M) :
    aE s1_G d 145 0 [] [some (aP 0), some (aI x1)] [] M Q := aE_go s1_pu_ok [] 72 hd h

-- 146: DioceseBook.isPerson(I)Z
set_option maxRecDepth 100000 in
set_option maxHeartbeats 4000000 in
theorem s1_isPerson_0 {d : Nat} (hd : 3 < d) {M : AM} {Q : Option AV → AM → Prop} {x1 : Int}
    (h : ((a_bl (0 ≤ x1 ∧ x1 ≤ (a_sub (M 1 4) 1))) = 0 ∨ (a_bl (0 ≤ x1 ∧ x1 ≤ (a_sub (M 1 4) 1))) = 1) ∧ Q (some (aI (a_bl (0 ≤ x1 ∧ x1 ≤ (a_sub (M 1 4) 1))))) M) :
    aE s1_G d 146 0 [] [some (aP 0), some (aI x1)] [] M Q := aE_go s1_pu_ok [] 78 hd h

-- 147: DioceseBook.isLiving(I)Z
set_option maxRecDepth 100000 in
set_option maxHeartbeats 4000000 in
theorem s1_isLiving_0 {d : Nat} (hd : 3 < d) {M : AM} {Q : Option AV → AM → Prop} {x1 : Int}
    (h : ((a_bl (0 ≤ x1 ∧ x1 ≤ (a_sub (M 1 5) 1))) = 0 ∨ (a_bl (0 ≤ x1 ∧ x1 ≤ (a_sub (M 1 5) 1))) = 1) ∧ Q (some (aI (a_bl (0 ≤ x1 ∧ x1 ≤ (a_sub (M 1 5) 1))))) M) :
    aE s1_G d 147 0 [] [some (aP 0), some (aI x1)] [] M Q := aE_go s1_pu_ok [] 78 hd h

-- 148: DioceseBook.isPaper(I)Z
set_option maxRecDepth 100000 in
set_option maxHeartbeats 4000000 in
theorem s1_isPaper_0 {d : Nat} (hd : 3 < d) {M : AM} {Q : Option AV → AM → Prop} {x1 : Int}
    (h : ((a_bl (0 ≤ x1 ∧ x1 ≤ (a_sub (M 6 7) 1))) = 0 ∨ (a_bl (0 ≤ x1 ∧ x1 ≤ (a_sub (M 6 7) 1))) = 1) ∧ Q (some (aI (a_bl (0 ≤ x1 ∧ x1 ≤ (a_sub (M 6 7) 1))))) M) :
    aE s1_G d 148 0 [] [some (aP 0), some (aI x1)] [] M Q := aE_go s1_pu_ok [] 78 hd h

-- 149: DioceseBook.isSuit(I)Z
set_option maxRecDepth 100000 in
set_option maxHeartbeats 4000000 in
theorem s1_isSuit_0 {d : Nat} (hd : 3 < d) {M : AM} {Q : Option AV → AM → Prop} {x1 : Int}
    (h : ((a_bl (0 ≤ x1 ∧ x1 ≤ (a_sub (M 69 4) 1))) = 0 ∨ (a_bl (0 ≤ x1 ∧ x1 ≤ (a_sub (M 69 4) 1))) = 1) ∧ Q (some (aI (a_bl (0 ≤ x1 ∧ x1 ≤ (a_sub (M 69 4) 1))))) M) :
    aE s1_G d 149 0 [] [some (aP 0), some (aI x1)] [] M Q := aE_go s1_pu_ok [] 78 hd h

-- 150: DioceseBook.isPiece(I)Z
set_option maxRecDepth 100000 in
set_option maxHeartbeats 4000000 in
theorem s1_isPiece_0 {d : Nat} (hd : 3 < d) {M : AM} {Q : Option AV → AM → Prop} {x1 : Int}
    (h : ((a_bl (0 ≤ x1 ∧ x1 ≤ (a_sub (M 181 5) 1))) = 0 ∨ (a_bl (0 ≤ x1 ∧ x1 ≤ (a_sub (M 181 5) 1))) = 1) ∧ Q (some (aI (a_bl (0 ≤ x1 ∧ x1 ≤ (a_sub (M 181 5) 1))))) M) :
    aE s1_G d 150 0 [] [some (aP 0), some (aI x1)] [] M Q := aE_go s1_pu_ok [] 78 hd h

-- 151: java/lang/Integer.bitCount(I)I
set_option maxRecDepth 100000 in
set_option maxHeartbeats 4000000 in
theorem s1_Integer_bitCount_0 {d : Nat} (hd : 3 < d) {M : AM} {Q : Option AV → AM → Prop} {x0 : Int}
    (h : Q (some (aI (a_and (a_add (a_add (a_and (a_add (a_add (a_and (a_sub x0 (a_and (a_ushr x0 1) 1431655765)) 858993459) (a_and (a_ushr (a_sub x0 (a_and (a_ushr x0 1) 1431655765)) 2) 858993459)) (a_ushr (a_add (a_and (a_sub x0 (a_and (a_ushr x0 1) 1431655765)) 858993459) (a_and (a_ushr (a_sub x0 (a_and (a_ushr x0 1) 1431655765)) 2) 858993459)) 4)) 252645135) (a_ushr (a_and (a_add (a_add (a_and (a_sub x0 (a_and (a_ushr x0 1) 1431655765)) 858993459) (a_and (a_ushr (a_sub x0 (a_and (a_ushr x0 1) 1431655765)) 2) 858993459)) (a_ushr (a_add (a_and (a_sub x0 (a_and (a_ushr x0 1) 1431655765)) 858993459) (a_and (a_ushr (a_sub x0 (a_and (a_ushr x0 1) 1431655765)) 2) 858993459)) 4)) 252645135) 8)) (a_ushr (a_add (a_and (a_add (a_add (a_and (a_sub x0 (a_and (a_ushr x0 1) 1431655765)) 858993459) (a_and (a_ushr (a_sub x0 (a_and (a_ushr x0 1) 1431655765)) 2) 858993459)) (a_ushr (a_add (a_and (a_sub x0 (a_and (a_ushr x0 1) 1431655765)) 858993459) (a_and (a_ushr (a_sub x0 (a_and (a_ushr x0 1) 1431655765)) 2) 858993459)) 4)) 252645135) (a_ushr (a_and (a_add (a_add (a_and (a_sub x0 (a_and (a_ushr x0 1) 1431655765)) 858993459) (a_and (a_ushr (a_sub x0 (a_and (a_ushr x0 1) 1431655765)) 2) 858993459)) (a_ushr (a_add (a_and (a_sub x0 (a_and (a_ushr x0 1) 1431655765)) 858993459) (a_and (a_ushr (a_sub x0 (a_and (a_ushr x0 1) 1431655765)) 2) 858993459)) 4)) 252645135) 8)) 16)) 63))) M) :
    aE s1_G d 151 0 [] [some (aI x0)] [] M Q := aE_go s1_pu_ok [] 144 hd h

-- 152: java/lang/Long.bitCount(J)I
set_option maxRecDepth 100000 in
set_option maxHeartbeats 4000000 in
theorem s1_Long_bitCount_0 {d : Nat} (hd : 3 < d) {M : AM} {Q : Option AV → AM → Prop} {x0 : Int}
    (h : Q (some (aI (a_and (a_l2i (a_ladd (a_ladd (a_ladd (a_land (a_ladd (a_ladd (a_land (a_lsub x0 (a_land (a_lushr x0 1) 6148914691236517205)) 3689348814741910323) (a_land (a_lushr (a_lsub x0 (a_land (a_lushr x0 1) 6148914691236517205)) 2) 3689348814741910323)) (a_lushr (a_ladd (a_land (a_lsub x0 (a_land (a_lushr x0 1) 6148914691236517205)) 3689348814741910323) (a_land (a_lushr (a_lsub x0 (a_land (a_lushr x0 1) 6148914691236517205)) 2) 3689348814741910323)) 4)) 1085102592571150095) (a_lushr (a_land (a_ladd (a_ladd (a_land (a_lsub x0 (a_land (a_lushr x0 1) 6148914691236517205)) 3689348814741910323) (a_land (a_lushr (a_lsub x0 (a_land (a_lushr x0 1) 6148914691236517205)) 2) 3689348814741910323)) (a_lushr (a_ladd (a_land (a_lsub x0 (a_land (a_lushr x0 1) 6148914691236517205)) 3689348814741910323) (a_land (a_lushr (a_lsub x0 (a_land (a_lushr x0 1) 6148914691236517205)) 2) 3689348814741910323)) 4)) 1085102592571150095) 8)) (a_lushr (a_ladd (a_land (a_ladd (a_ladd (a_land (a_lsub x0 (a_land (a_lushr x0 1) 6148914691236517205)) 3689348814741910323) (a_land (a_lushr (a_lsub x0 (a_land (a_lushr x0 1) 6148914691236517205)) 2) 3689348814741910323)) (a_lushr (a_ladd (a_land (a_lsub x0 (a_land (a_lushr x0 1) 6148914691236517205)) 3689348814741910323) (a_land (a_lushr (a_lsub x0 (a_land (a_lushr x0 1) 6148914691236517205)) 2) 3689348814741910323)) 4)) 1085102592571150095) (a_lushr (a_land (a_ladd (a_ladd (a_land (a_lsub x0 (a_land (a_lushr x0 1) 6148914691236517205)) 3689348814741910323) (a_land (a_lushr (a_lsub x0 (a_land (a_lushr x0 1) 6148914691236517205)) 2) 3689348814741910323)) (a_lushr (a_ladd (a_land (a_lsub x0 (a_land (a_lushr x0 1) 6148914691236517205)) 3689348814741910323) (a_land (a_lushr (a_lsub x0 (a_land (a_lushr x0 1) 6148914691236517205)) 2) 3689348814741910323)) 4)) 1085102592571150095) 8)) 16)) (a_lushr (a_ladd (a_ladd (a_land (a_ladd (a_ladd (a_land (a_lsub x0 (a_land (a_lushr x0 1) 6148914691236517205)) 3689348814741910323) (a_land (a_lushr (a_lsub x0 (a_land (a_lushr x0 1) 6148914691236517205)) 2) 3689348814741910323)) (a_lushr (a_ladd (a_land (a_lsub x0 (a_land (a_lushr x0 1) 6148914691236517205)) 3689348814741910323) (a_land (a_lushr (a_lsub x0 (a_land (a_lushr x0 1) 6148914691236517205)) 2) 3689348814741910323)) 4)) 1085102592571150095) (a_lushr (a_land (a_ladd (a_ladd (a_land (a_lsub x0 (a_land (a_lushr x0 1) 6148914691236517205)) 3689348814741910323) (a_land (a_lushr (a_lsub x0 (a_land (a_lushr x0 1) 6148914691236517205)) 2) 3689348814741910323)) (a_lushr (a_ladd (a_land (a_lsub x0 (a_land (a_lushr x0 1) 6148914691236517205)) 3689348814741910323) (a_land (a_lushr (a_lsub x0 (a_land (a_lushr x0 1) 6148914691236517205)) 2) 3689348814741910323)) 4)) 1085102592571150095) 8)) (a_lushr (a_ladd (a_land (a_ladd (a_ladd (a_land (a_lsub x0 (a_land (a_lushr x0 1) 6148914691236517205)) 3689348814741910323) (a_land (a_lushr (a_lsub x0 (a_land (a_lushr x0 1) 6148914691236517205)) 2) 3689348814741910323)) (a_lushr (a_ladd (a_land (a_lsub x0 (a_land (a_lushr x0 1) 6148914691236517205)) 3689348814741910323) (a_land (a_lushr (a_lsub x0 (a_land (a_lushr x0 1) 6148914691236517205)) 2) 3689348814741910323)) 4)) 1085102592571150095) (a_lushr (a_land (a_ladd (a_ladd (a_land (a_lsub x0 (a_land (a_lushr x0 1) 6148914691236517205)) 3689348814741910323) (a_land (a_lushr (a_lsub x0 (a_land (a_lushr x0 1) 6148914691236517205)) 2) 3689348814741910323)) (a_lushr (a_ladd (a_land (a_lsub x0 (a_land (a_lushr x0 1) 6148914691236517205)) 3689348814741910323) (a_land (a_lushr (a_lsub x0 (a_land (a_lushr x0 1) 6148914691236517205)) 2) 3689348814741910323)) 4)) 1085102592571150095) 8)) 16)) 32))) 127))) M) :
    aE s1_G d 152 0 [] [some (aL x0), none] [] M Q := aE_go s1_pu_ok [] 158 hd h

