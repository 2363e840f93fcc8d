/-! SYSTEM 2: its blocks, read off: what is asked of a state for a block to run on (by program) -/
-- 101: DioceseBookModel.mostPairs(I)I
set_option maxRecDepth 100000 in
set_option maxHeartbeats 4000000 in
theorem s2_mostPairs_0 {d : Nat} (hd : 3 < d) {M : AM} {Q : Option AV → AM → Prop} {x1 : Int}
    (h : aE s2_G d 101 4 [] [some (aP 0), some (aI x1), some (aI 0), some (aI 0)] [] M Q) :
    aE s2_G d 101 0 [] [some (aP 0), some (aI x1), none, none] [] M Q := aE_go s2_pu_ok [(4, [true, true, true, true]), (39, [true, true, true, true]), (76, [true, true, true, true])] 68 hd h

set_option maxRecDepth 100000 in
set_option maxHeartbeats 4000000 in
theorem s2_mostPairs_4 {d : Nat} (hd : 3 < d) {M : AM} {Q : Option AV → AM → Prop} {x1 x2 x3 : Int}
    (h : ((M 0 78) ≤ x3 → aE s2_G d 101 39 [] [some (aP 0), some (aI x1), some (aI x2), some (aI 0)] [] M Q) ∧ (x3 < (M 0 78) → (x3 < x1 → (0 ≤ x3 ∧ x3 < 16) ∧ (aE s2_G d 101 4 [] [some (aP 0), some (aI x1), some (aI x2), some (aI (a_add x3 1))] [] (am_up M 58 x3 (-1)) Q)) ∧ (x1 ≤ x3 → (0 ≤ x3 ∧ x3 < 16) ∧ ((0 ≤ x3 ∧ x3 < 16) ∧ (aE s2_G d 101 4 [] [some (aP 0), some (aI x1), some (aI x2), some (aI (a_add x3 1))] [] (am_up (am_up M 57 x3 (-1)) 58 x3 (-1)) Q))))) :
    aE s2_G d 101 4 [] [some (aP 0), some (aI x1), some (aI x2), some (aI x3)] [] M Q := aE_go s2_pu_ok [(4, [true, true, true, true]), (39, [true, true, true, true]), (76, [true, true, true, true])] 116 hd h

set_option maxRecDepth 100000 in
set_option maxHeartbeats 4000000 in
theorem s2_mostPairs_39 {d : Nat} (hd : 3 < d) {M : AM} {Q : Option AV → AM → Prop} {x1 x2 x3 : Int}
    (h : (x1 ≤ x3 → aE s2_G d 101 76 [] [some (aP 0), some (aI x1), some (aI x2), some (aI x1)] [] M Q) ∧ (x3 < x1 → (0 ≤ x3 ∧ x3 < 16) ∧ (((M 57 x3) < (0 : Int) → aE s2_G d 101 39 [] [some (aP 0), some (aI x1), some (aI x2), some (aI (a_add x3 1))] [] M Q) ∧ ((0 : Int) ≤ (M 57 x3) → (0 ≤ x3 ∧ x3 < 16) ∧ ((0 ≤ (M 57 x3) ∧ (M 57 x3) < 16) ∧ (aE s2_G d 101 39 [] [some (aP 0), some (aI x1), some (aI (a_add x2 1)), some (aI (a_add x3 1))] [] (am_up M 58 (M 57 x3) x3) Q)))))) :
    aE s2_G d 101 39 [] [some (aP 0), some (aI x1), some (aI x2), some (aI x3)] [] M Q := aE_go s2_pu_ok [(4, [true, true, true, true]), (39, [true, true, true, true]), (76, [true, true, true, true])] 106 hd h

set_option maxRecDepth 100000 in
set_option maxHeartbeats 4000000 in
theorem s2_mostPairs_76 {d : Nat} (hd : 3 < d) {M : AM} {Q : Option AV → AM → Prop} {x1 x2 x3 : Int}
    (h : ((M 0 78) ≤ x3 → Q (some (aI x2)) M) ∧ (x3 < (M 0 78) → aKi s2_G d 100 [aP 0, aI x3, aI x1] M (fun z2 M1 => aE s2_G d 101 76 [] [some (aP 0), some (aI x1), some (aI (a_add x2 (a_bl (z2 ≠ 0)))), some (aI (a_add x3 1))] [] M1 Q))) :
    aE s2_G d 101 76 [] [some (aP 0), some (aI x1), some (aI x2), some (aI x3)] [] M Q := aE_go s2_pu_ok [(4, [true, true, true, true]), (39, [true, true, true, true]), (76, [true, true, true, true])] 92 hd h

-- 102: DioceseBookModel.findLives()V
set_option maxRecDepth 100000 in
set_option maxHeartbeats 4000000 in
theorem s2_findLives_0 {d : Nat} (hd : 3 < d) {M : AM} {Q : Option AV → AM → Prop}
    (h : aKi s2_G d 101 [aP 0, aI 0] M (fun z2 M1 => aE s2_G d 102 11 [] [some (aP 0), some (aI 0), none, none, none, none] [] (am_up M1 0 89 z2) Q)) :
    aE s2_G d 102 0 [] [some (aP 0), none, none, none, none, none] [] M Q := aE_go s2_pu_ok [(11, [true, true, false, false, false, false]), (30, [true, true, true, true, false, false]), (53, [true, true, true, true, true, true]), (96, [true, true, false, true, false, true])] 74 hd h

set_option maxRecDepth 100000 in
set_option maxHeartbeats 4000000 in
theorem s2_findLives_11 {d : Nat} (hd : 3 < d) {M : AM} {Q : Option AV → AM → Prop} {x1 : Int}
    (h : ((M 0 78) ≤ x1 → Q none M) ∧ (x1 < (M 0 78) → (0 ≤ x1 ∧ x1 < 16) ∧ (aE s2_G d 102 30 [] [some (aP 0), some (aI x1), some (aI 0), some (aI 0), none, none] [] (am_up M 62 x1 (-1)) Q))) :
    aE s2_G d 102 11 [] [some (aP 0), some (aI x1), none, none, none, none] [] M Q := aE_go s2_pu_ok [(11, [true, true, false, false, false, false]), (30, [true, true, true, true, false, false]), (53, [true, true, true, true, true, true]), (96, [true, true, false, true, false, true])] 88 hd h

set_option maxRecDepth 100000 in
set_option maxHeartbeats 4000000 in
theorem s2_findLives_30 {d : Nat} (hd : 3 < d) {M : AM} {Q : Option AV → AM → Prop} {x1 x2 x3 : Int}
    (h : ((M 0 78) ≤ x3 → aE s2_G d 102 11 [] [some (aP 0), some (aI (a_add x1 1)), none, none, none, none] [] M Q) ∧ (x3 < (M 0 78) → (x2 ≠ (0 : Int) → aE s2_G d 102 11 [] [some (aP 0), some (aI (a_add x1 1)), none, none, none, none] [] M Q) ∧ (x2 = (0 : Int) → aKi s2_G d 98 [aP 0, aI x1, aI x3] M (fun z2 M1 => aE s2_G d 102 53 [] [some (aP 0), some (aI x1), some (aI x2), some (aI x3), some (aI z2), some (aI 0)] [] M1 Q)))) :
    aE s2_G d 102 30 [] [some (aP 0), some (aI x1), some (aI x2), some (aI x3), none, none] [] M Q := aE_go s2_pu_ok [(11, [true, true, false, false, false, false]), (30, [true, true, true, true, false, false]), (53, [true, true, true, true, true, true]), (96, [true, true, false, true, false, true])] 94 hd h

set_option maxRecDepth 100000 in
set_option maxHeartbeats 4000000 in
theorem s2_findLives_53 {d : Nat} (hd : 3 < d) {M : AM} {Q : Option AV → AM → Prop} {x1 x2 x3 x4 x5 : Int}
    (h : (x1 ≤ x5 → (x4 = (0 : Int) → aE s2_G d 102 30 [] [some (aP 0), some (aI x1), some (aI x2), some (aI (a_add x3 1)), none, none] [] M Q) ∧ (x4 ≠ (0 : Int) → aE s2_G d 102 96 [] [some (aP 0), some (aI x1), none, some (aI x3), none, some (aI 0)] [] M Q)) ∧ (x5 < x1 → (x4 = (0 : Int) → aE s2_G d 102 53 [] [some (aP 0), some (aI x1), some (aI x2), some (aI x3), some (aI 0), some (aI (a_add x5 1))] [] M Q) ∧ (x4 ≠ (0 : Int) → (0 ≤ x5 ∧ x5 < 16) ∧ (((M 62 x5) = x3 → aE s2_G d 102 53 [] [some (aP 0), some (aI x1), some (aI x2), some (aI x3), some (aI 0), some (aI (a_add x5 1))] [] M Q) ∧ ((M 62 x5) ≠ x3 → aE s2_G d 102 53 [] [some (aP 0), some (aI x1), some (aI x2), some (aI x3), some (aI 1), some (aI (a_add x5 1))] [] M Q))))) :
    aE s2_G d 102 53 [] [some (aP 0), some (aI x1), some (aI x2), some (aI x3), some (aI x4), some (aI x5)] [] M Q := aE_go s2_pu_ok [(11, [true, true, false, false, false, false]), (30, [true, true, true, true, false, false]), (53, [true, true, true, true, true, true]), (96, [true, true, false, true, false, true])] 120 hd h

set_option maxRecDepth 100000 in
set_option maxHeartbeats 4000000 in
theorem s2_findLives_96 {d : Nat} (hd : 3 < d) {M : AM} {Q : Option AV → AM → Prop} {x1 x3 x5 : Int}
    (h : (x1 ≤ x5 → (0 ≤ x1 ∧ x1 < 16) ∧ (aKi s2_G d 101 [aP 0, aI (a_add x1 1)] (am_up M 57 x1 x3) (fun z2 M1 => (z2 ≠ (M1 0 89) → ((0 : Int) = (0 : Int) → (0 ≤ x1 ∧ x1 < 16) ∧ (aE s2_G d 102 30 [] [some (aP 0), some (aI x1), some (aI 0), some (aI (a_add x3 1)), none, none] [] (am_up M1 62 x1 (-1)) Q)) ∧ ((0 : Int) ≠ (0 : Int) → (0 ≤ x1 ∧ x1 < 16) ∧ (aE s2_G d 102 30 [] [some (aP 0), some (aI x1), some (aI 0), some (aI (a_add x3 1)), none, none] [] (am_up M1 62 x1 x3) Q))) ∧ (z2 = (M1 0 89) → ((1 : Int) = (0 : Int) → (0 ≤ x1 ∧ x1 < 16) ∧ (aE s2_G d 102 30 [] [some (aP 0), some (aI x1), some (aI 1), some (aI (a_add x3 1)), none, none] [] (am_up M1 62 x1 (-1)) Q)) ∧ ((1 : Int) ≠ (0 : Int) → (0 ≤ x1 ∧ x1 < 16) ∧ (aE s2_G d 102 30 [] [some (aP 0), some (aI x1), some (aI 1), some (aI (a_add x3 1)), none, none] [] (am_up M1 62 x1 x3) Q)))))) ∧ (x5 < x1 → (0 ≤ x5 ∧ x5 < 16) ∧ ((0 ≤ x5 ∧ x5 < 16) ∧ (aE s2_G d 102 96 [] [some (aP 0), some (aI x1), none, some (aI x3), none, some (aI (a_add x5 1))] [] (am_up M 57 x5 (M 62 x5)) Q)))) :
    aE s2_G d 102 96 [] [some (aP 0), some (aI x1), none, some (aI x3), none, some (aI x5)] [] M Q := aE_go s2_pu_ok [(11, [true, true, false, false, false, false]), (30, [true, true, true, true, false, false]), (53, [true, true, true, true, true, true]), (96, [true, true, false, true, false, true])] 178 hd h

-- 103: DioceseBookModel.lives(I)I
set_option maxRecDepth 100000 in
set_option maxHeartbeats 4000000 in
theorem s2_lives_0 {d : Nat} (hd : 3 < d) {M : AM} {Q : Option AV → AM → Prop} {x1 : Int}
    (h : (x1 = ((-1) : Int) → aKv s2_G d 102 [aP 0] M (fun M1 => (x1 ≠ ((-1) : Int) → (0 ≤ x1 ∧ x1 < 16) ∧ (Q (some (aI (M1 62 x1))) M1)) ∧ (x1 = ((-1) : Int) → Q (some (aI (a_sub (M1 0 78) (M1 0 89)))) M1))) ∧ (x1 ≠ ((-1) : Int) → ((a_bl ¬(0 ≤ x1 ∧ x1 ≤ a_sub (M 0 78) 1)) = (0 : Int) → aKv s2_G d 102 [aP 0] M (fun M2 => (x1 ≠ ((-1) : Int) → (0 ≤ x1 ∧ x1 < 16) ∧ (Q (some (aI (M2 62 x1))) M2)) ∧ (x1 = ((-1) : Int) → Q (some (aI (a_sub (M2 0 78) (M2 0 89)))) M2))) ∧ ((a_bl ¬(0 ≤ x1 ∧ x1 ≤ a_sub (M 0 78) 1)) ≠ (0 : Int) → Q (some (aI (-100001))) M))) :
    aE s2_G d 103 0 [] [some (aP 0), some (aI x1)] [] M Q := aE_go s2_pu_ok [] 146 hd h

-- 104: DioceseBookModel.fromSee(I)I
set_option maxRecDepth 100000 in
set_option maxHeartbeats 4000000 in
theorem s2_fromSee_0 {d : Nat} (hd : 3 < d) {M : AM} {Q : Option AV → AM → Prop} {x1 : Int}
    (h : (0 ≤ x1 ∧ x1 < 8) ∧ ((0 ≤ (M 63 x1) ∧ (M 63 x1) < 12) ∧ ((0 ≤ x1 ∧ x1 < 8) ∧ ((0 ≤ (M 63 x1) ∧ (M 63 x1) < 12) ∧ (Q (some (aI (a_add (if (M 2 (M 63 x1)) < 0 then a_sub 0 (M 2 (M 63 x1)) else M 2 (M 63 x1)) (if (M 3 (M 63 x1)) < 0 then a_sub 0 (M 3 (M 63 x1)) else M 3 (M 63 x1))))) M))))) :
    aE s2_G d 104 0 [] [some (aP 0), some (aI x1)] [] M Q := aE_go s2_pu_ok [] 96 hd h

-- 105: DioceseBookModel.findRounds()V
set_option maxRecDepth 100000 in
set_option maxHeartbeats 4000000 in
theorem s2_findRounds_0 {d : Nat} (hd : 3 < d) {M : AM} {Q : Option AV → AM → Prop}
    (h : aE s2_G d 105 2 [] [some (aP 0), some (aI 1), none, none, none, none, none] [] M Q) :
    aE s2_G d 105 0 [] [some (aP 0), none, none, none, none, none, none] [] M Q := aE_go s2_pu_ok [(2, [true, true, false, false, false, false, false]), (23, [true, true, true, false, false, false, false]), (59, [true, true, true, true, true, true, false])] 64 hd h

set_option maxRecDepth 100000 in
set_option maxHeartbeats 4000000 in
theorem s2_findRounds_2 {d : Nat} (hd : 3 < d) {M : AM} {Q : Option AV → AM → Prop} {x1 : Int}
    (h : ((a_shl 1 (M 0 92)) ≤ x1 → Q none M) ∧ (x1 < (a_shl 1 (M 0 92)) → (0 ≤ x1 ∧ x1 < 256) ∧ (aE s2_G d 105 23 [] [some (aP 0), some (aI x1), some (aI 0), none, none, none, none] [] (am_up M 65 x1 1000000) Q))) :
    aE s2_G d 105 2 [] [some (aP 0), some (aI x1), none, none, none, none, none] [] M Q := aE_go s2_pu_ok [(2, [true, true, false, false, false, false, false]), (23, [true, true, true, false, false, false, false]), (59, [true, true, true, true, true, true, false])] 88 hd h

set_option maxRecDepth 100000 in
set_option maxHeartbeats 4000000 in
theorem s2_findRounds_23 {d : Nat} (hd : 3 < d) {M : AM} {Q : Option AV → AM → Prop} {x1 x2 : Int}
    (h : ((M 0 92) ≤ x2 → aE s2_G d 105 2 [] [some (aP 0), some (aI (a_add x1 1)), none, none, none, none, none] [] M Q) ∧ (x2 < (M 0 92) → ((a_and x1 (a_xor (a_shl 1 x2) (-1))) ≠ (0 : Int) → aE s2_G d 105 59 [] [some (aP 0), some (aI x1), some (aI x2), some (aI (a_and x1 (a_xor (a_shl 1 x2) (-1)))), some (aI 1000000), some (aI 0), none] [] M Q) ∧ ((a_and x1 (a_xor (a_shl 1 x2) (-1))) = (0 : Int) → aKi s2_G d 104 [aP 0, aI x2] M (fun z2 M1 => aE s2_G d 105 59 [] [some (aP 0), some (aI x1), some (aI x2), some (aI (a_and x1 (a_xor (a_shl 1 x2) (-1)))), some (aI z2), some (aI 0), none] [] M1 Q)))) :
    aE s2_G d 105 23 [] [some (aP 0), some (aI x1), some (aI x2), none, none, none, none] [] M Q := aE_go s2_pu_ok [(2, [true, true, false, false, false, false, false]), (23, [true, true, true, false, false, false, false]), (59, [true, true, true, true, true, true, false])] 114 hd h

set_option maxRecDepth 100000 in
set_option maxHeartbeats 4000000 in
theorem s2_findRounds_59 {d : Nat} (hd : 3 < d) {M : AM} {Q : Option AV → AM → Prop} {x1 x2 x3 x4 x5 : Int}
    (h : ((M 0 92) ≤ x5 → ((a_and (a_shr x1 x2) 1) ≠ (1 : Int) → aE s2_G d 105 23 [] [some (aP 0), some (aI x1), some (aI (a_add x2 1)), none, none, none, none] [] M Q) ∧ ((a_and (a_shr x1 x2) 1) = (1 : Int) → (0 ≤ (a_add (a_mul 8 x1) x2) ∧ (a_add (a_mul 8 x1) x2) < 2048) ∧ (aKi s2_G d 104 [aP 0, aI x2] (am_up M 64 (a_add (a_mul 8 x1) x2) x4) (fun z2 M1 => (0 ≤ x1 ∧ x1 < 256) ∧ (((M1 65 x1) ≤ (a_add x4 z2) → (0 ≤ x1 ∧ x1 < 256) ∧ ((0 ≤ x1 ∧ x1 < 256) ∧ (aE s2_G d 105 23 [] [some (aP 0), some (aI x1), some (aI (a_add x2 1)), none, none, none, none] [] (am_up M1 65 x1 (M1 65 x1)) Q))) ∧ ((a_add x4 z2) < (M1 65 x1) → aKi s2_G d 104 [aP 0, aI x2] M1 (fun z4 M3 => (0 ≤ x1 ∧ x1 < 256) ∧ (aE s2_G d 105 23 [] [some (aP 0), some (aI x1), some (aI (a_add x2 1)), none, none, none, none] [] (am_up M3 65 x1 (a_add x4 z4)) Q)))))))) ∧ (x5 < (M 0 92) → ((a_and (a_shr x1 x2) 1) ≠ (1 : Int) → ((a_and (a_shr x1 x2) 1) ≠ (1 : Int) → aE s2_G d 105 23 [] [some (aP 0), some (aI x1), some (aI (a_add x2 1)), none, none, none, none] [] M Q) ∧ ((a_and (a_shr x1 x2) 1) = (1 : Int) → (0 ≤ (a_add (a_mul 8 x1) x2) ∧ (a_add (a_mul 8 x1) x2) < 2048) ∧ (aKi s2_G d 104 [aP 0, aI x2] (am_up M 64 (a_add (a_mul 8 x1) x2) x4) (fun z6 M5 => (0 ≤ x1 ∧ x1 < 256) ∧ (((M5 65 x1) ≤ (a_add x4 z6) → (0 ≤ x1 ∧ x1 < 256) ∧ ((0 ≤ x1 ∧ x1 < 256) ∧ (aE s2_G d 105 23 [] [some (aP 0), some (aI x1), some (aI (a_add x2 1)), none, none, none, none] [] (am_up M5 65 x1 (M5 65 x1)) Q))) ∧ ((a_add x4 z6) < (M5 65 x1) → aKi s2_G d 104 [aP 0, aI x2] M5 (fun z8 M7 => (0 ≤ x1 ∧ x1 < 256) ∧ (aE s2_G d 105 23 [] [some (aP 0), some (aI x1), some (aI (a_add x2 1)), none, none, none, none] [] (am_up M7 65 x1 (a_add x4 z8)) Q)))))))) ∧ ((a_and (a_shr x1 x2) 1) = (1 : Int) → ((a_and (a_shr x3 x5) 1) ≠ (0 : Int) → (0 ≤ (a_add (a_mul 8 x3) x5) ∧ (a_add (a_mul 8 x3) x5) < 2048) ∧ ((0 ≤ x5 ∧ x5 < 8) ∧ ((0 ≤ x2 ∧ x2 < 8) ∧ (aKi s2_G d 10 [aP 0, aI (M 63 x5), aI (M 63 x2)] M (fun z10 M9 => (x4 ≤ (a_add (M 64 (a_add (a_mul 8 x3) x5)) z10) → aE s2_G d 105 59 [] [some (aP 0), some (aI x1), some (aI x2), some (aI x3), some (aI x4), some (aI (a_add x5 1)), none] [] M9 Q) ∧ ((a_add (M 64 (a_add (a_mul 8 x3) x5)) z10) < x4 → aE s2_G d 105 59 [] [some (aP 0), some (aI x1), some (aI x2), some (aI x3), some (aI (a_add (M 64 (a_add (a_mul 8 x3) x5)) z10)), some (aI (a_add x5 1)), none] [] M9 Q)))))) ∧ ((a_and (a_shr x3 x5) 1) = (0 : Int) → (x4 ≤ (1000000 : Int) → aE s2_G d 105 59 [] [some (aP 0), some (aI x1), some (aI x2), some (aI x3), some (aI x4), some (aI (a_add x5 1)), none] [] M Q) ∧ ((1000000 : Int) < x4 → aE s2_G d 105 59 [] [some (aP 0), some (aI x1), some (aI x2), some (aI x3), some (aI 1000000), some (aI (a_add x5 1)), none] [] M Q))))) :
    aE s2_G d 105 59 [] [some (aP 0), some (aI x1), some (aI x2), some (aI x3), some (aI x4), some (aI x5), none] [] M Q := aE_go s2_pu_ok [(2, [true, true, false, false, false, false, false]), (23, [true, true, true, false, false, false, false]), (59, [true, true, true, true, true, true, false])] 376 hd h

-- 106: DioceseBookModel.findDays(I)V
set_option maxRecDepth 100000 in
set_option maxHeartbeats 4000000 in
theorem s2_findDays_0 {d : Nat} (hd : 3 < d) {M : AM} {Q : Option AV → AM → Prop} {x1 : Int}
    (h : (0 ≤ (0 : Int) ∧ (0 : Int) < 256) ∧ ((0 ≤ (0 : Int) ∧ (0 : Int) < 256) ∧ (aE s2_G d 106 16 [] [some (aP 0), some (aI x1), some (aI 1), none, none, none, none] [] (am_up (am_up M 66 (0 : Int) 0) 67 (0 : Int) 0) Q))) :
    aE s2_G d 106 0 [] [some (aP 0), some (aI x1), none, none, none, none, none] [] M Q := aE_go s2_pu_ok [(16, [true, true, true, false, false, false, false]), (46, [true, true, true, true, false, false, false])] 84 hd h

set_option maxRecDepth 100000 in
set_option maxHeartbeats 4000000 in
theorem s2_findDays_16 {d : Nat} (hd : 3 < d) {M : AM} {Q : Option AV → AM → Prop} {x1 x2 : Int}
    (h : ((a_shl 1 (M 0 92)) ≤ x2 → Q none M) ∧ (x2 < (a_shl 1 (M 0 92)) → (0 ≤ x2 ∧ x2 < 256) ∧ ((0 ≤ x2 ∧ x2 < 256) ∧ (aE s2_G d 106 46 [] [some (aP 0), some (aI x1), some (aI x2), some (aI x2), none, none, none] [] (am_up (am_up M 66 x2 1000000) 67 x2 1000000) Q)))) :
    aE s2_G d 106 16 [] [some (aP 0), some (aI x1), some (aI x2), none, none, none, none] [] M Q := aE_go s2_pu_ok [(16, [true, true, true, false, false, false, false]), (46, [true, true, true, true, false, false, false])] 98 hd h

set_option maxRecDepth 100000 in
set_option maxHeartbeats 4000000 in
theorem s2_findDays_46 {d : Nat} (hd : 3 < d) {M : AM} {Q : Option AV → AM → Prop} {x1 x2 x3 : Int}
    (h : (x3 ≤ (0 : Int) → aE s2_G d 106 16 [] [some (aP 0), some (aI x1), some (aI (a_add x2 1)), none, none, none, none] [] M Q) ∧ ((0 : Int) < x3 → (0 ≤ (a_and x2 (a_xor x3 (-1))) ∧ (a_and x2 (a_xor x3 (-1))) < 256) ∧ ((0 ≤ (a_and x2 (a_xor x3 (-1))) ∧ (a_and x2 (a_xor x3 (-1))) < 256) ∧ ((0 ≤ x3 ∧ x3 < 256) ∧ ((0 ≤ x3 ∧ x3 < 256) ∧ ((x1 < (M 65 x3) → aE s2_G d 106 46 [] [some (aP 0), some (aI x1), some (aI x2), some (aI (a_and (a_sub x3 1) x2)), none, none, none] [] M Q) ∧ ((M 65 x3) ≤ x1 → (0 ≤ x2 ∧ x2 < 256) ∧ (((a_add (M 66 (a_and x2 (a_xor x3 (-1)))) 1) < (M 66 x2) → (0 ≤ x2 ∧ x2 < 256) ∧ ((0 ≤ x2 ∧ x2 < 256) ∧ (aE s2_G d 106 46 [] [some (aP 0), some (aI x1), some (aI x2), some (aI (a_and (a_sub x3 1) x2)), none, none, none] [] (am_up (am_up M 66 x2 (a_add (M 66 (a_and x2 (a_xor x3 (-1)))) 1)) 67 x2 (a_add (M 67 (a_and x2 (a_xor x3 (-1)))) (M 65 x3))) Q))) ∧ ((M 66 x2) ≤ (a_add (M 66 (a_and x2 (a_xor x3 (-1)))) 1) → (0 ≤ x2 ∧ x2 < 256) ∧ (((a_add (M 66 (a_and x2 (a_xor x3 (-1)))) 1) ≠ (M 66 x2) → aE s2_G d 106 46 [] [some (aP 0), some (aI x1), some (aI x2), some (aI (a_and (a_sub x3 1) x2)), none, none, none] [] M Q) ∧ ((a_add (M 66 (a_and x2 (a_xor x3 (-1)))) 1) = (M 66 x2) → (0 ≤ x2 ∧ x2 < 256) ∧ (((M 67 x2) ≤ (a_add (M 67 (a_and x2 (a_xor x3 (-1)))) (M 65 x3)) → aE s2_G d 106 46 [] [some (aP 0), some (aI x1), some (aI x2), some (aI (a_and (a_sub x3 1) x2)), none, none, none] [] M Q) ∧ ((a_add (M 67 (a_and x2 (a_xor x3 (-1)))) (M 65 x3)) < (M 67 x2) → (0 ≤ x2 ∧ x2 < 256) ∧ ((0 ≤ x2 ∧ x2 < 256) ∧ (aE s2_G d 106 46 [] [some (aP 0), some (aI x1), some (aI x2), some (aI (a_and (a_sub x3 1) x2)), none, none, none] [] (am_up (am_up M 66 x2 (a_add (M 66 (a_and x2 (a_xor x3 (-1)))) 1)) 67 x2 (a_add (M 67 (a_and x2 (a_xor x3 (-1)))) (M 65 x3))) Q))))))))))))))) :
    aE s2_G d 106 46 [] [some (aP 0), some (aI x1), some (aI x2), some (aI x3), none, none, none] [] M Q := aE_go s2_pu_ok [(16, [true, true, true, false, false, false, false]), (46, [true, true, true, true, false, false, false])] 272 hd h

-- 107: DioceseBookModel.spread(I)I
set_option maxRecDepth 100000 in
set_option maxHeartbeats 4000000 in
theorem s2_spread_0 {d : Nat} (hd : 3 < d) {M : AM} {Q : Option AV → AM → Prop} {x1 : Int}
    (h : aE s2_G d 107 4 [] [some (aP 0), some (aI x1), some (aI 0), some (aI 0)] [] M Q) :
    aE s2_G d 107 0 [] [some (aP 0), some (aI x1), none, none] [] M Q := aE_go s2_pu_ok [(4, [true, true, true, true])] 68 hd h

set_option maxRecDepth 100000 in
set_option maxHeartbeats 4000000 in
theorem s2_spread_4 {d : Nat} (hd : 3 < d) {M : AM} {Q : Option AV → AM → Prop} {x1 x2 x3 : Int}
    (h : ((M 0 92) ≤ x3 → Q (some (aI x2)) M) ∧ (x3 < (M 0 92) → (0 ≤ x3 ∧ x3 < 8) ∧ (aE s2_G d 107 4 [] [some (aP 0), some (aI x1), some (aI (a_or x2 (a_shl (a_and (a_shr x1 x3) 1) (M 63 x3)))), some (aI (a_add x3 1))] [] M Q))) :
    aE s2_G d 107 4 [] [some (aP 0), some (aI x1), some (aI x2), some (aI x3)] [] M Q := aE_go s2_pu_ok [(4, [true, true, true, true])] 102 hd h

-- 108: DioceseBookModel.firstDay(II)I
set_option maxRecDepth 100000 in
set_option maxHeartbeats 4000000 in
theorem s2_firstDay_0 {d : Nat} (hd : 3 < d) {M : AM} {Q : Option AV → AM → Prop} {x1 x2 : Int}
    (h : aE s2_G d 108 2 [] [some (aP 0), some (aI x1), some (aI x2), some (aI 1)] [] M Q) :
    aE s2_G d 108 0 [] [some (aP 0), some (aI x1), some (aI x2), none] [] M Q := aE_go s2_pu_ok [(2, [true, true, true, true])] 64 hd h

set_option maxRecDepth 100000 in
set_option maxHeartbeats 4000000 in
theorem s2_firstDay_2 {d : Nat} (hd : 3 < d) {M : AM} {Q : Option AV → AM → Prop} {x1 x2 x3 : Int}
    (h : ((a_and x3 (a_xor x1 (-1))) ≠ (0 : Int) → aE s2_G d 108 2 [] [some (aP 0), some (aI x1), some (aI x2), some (aI (a_add x3 1))] [] M Q) ∧ ((a_and x3 (a_xor x1 (-1))) = (0 : Int) → (0 ≤ x3 ∧ x3 < 256) ∧ ((x2 < (M 65 x3) → aE s2_G d 108 2 [] [some (aP 0), some (aI x1), some (aI x2), some (aI (a_add x3 1))] [] M Q) ∧ ((M 65 x3) ≤ x2 → (0 ≤ (a_and x1 (a_xor x3 (-1))) ∧ (a_and x1 (a_xor x3 (-1))) < 256) ∧ ((0 ≤ x1 ∧ x1 < 256) ∧ (((a_add (M 66 (a_and x1 (a_xor x3 (-1)))) 1) ≠ (M 66 x1) → aE s2_G d 108 2 [] [some (aP 0), some (aI x1), some (aI x2), some (aI (a_add x3 1))] [] M Q) ∧ ((a_add (M 66 (a_and x1 (a_xor x3 (-1)))) 1) = (M 66 x1) → (0 ≤ (a_and x1 (a_xor x3 (-1))) ∧ (a_and x1 (a_xor x3 (-1))) < 256) ∧ ((0 ≤ x3 ∧ x3 < 256) ∧ ((0 ≤ x1 ∧ x1 < 256) ∧ (((a_add (M 67 (a_and x1 (a_xor x3 (-1)))) (M 65 x3)) = (M 67 x1) → Q (some (aI x3)) M) ∧ ((a_add (M 67 (a_and x1 (a_xor x3 (-1)))) (M 65 x3)) ≠ (M 67 x1) → aE s2_G d 108 2 [] [some (aP 0), some (aI x1), some (aI x2), some (aI (a_add x3 1))] [] M Q))))))))))) :
    aE s2_G d 108 2 [] [some (aP 0), some (aI x1), some (aI x2), some (aI x3)] [] M Q := aE_go s2_pu_ok [(2, [true, true, true, true])] 170 hd h

-- 109: DioceseBookModel.ones(I)I
set_option maxRecDepth 100000 in
set_option maxHeartbeats 4000000 in
theorem s2_ones_0 {d : Nat} (hd : 3 < d) {M : AM} {Q : Option AV → AM → Prop} {x0 : Int}
    (h : aE s2_G d 109 4 [] [some (aI x0), some (aI 0), some (aI 0)] [] M Q) :
    aE s2_G d 109 0 [] [some (aI x0), none, none] [] M Q := aE_go s2_pu_ok [(4, [true, true, true])] 68 hd h

set_option maxRecDepth 100000 in
set_option maxHeartbeats 4000000 in
theorem s2_ones_4 {d : Nat} (hd : 3 < d) {M : AM} {Q : Option AV → AM → Prop} {x0 x1 x2 : Int}
    (h : ((31 : Int) ≤ x2 → Q (some (aI x1)) M) ∧ (x2 < (31 : Int) → aE s2_G d 109 4 [] [some (aI x0), some (aI (a_add x1 (a_and (a_shr x0 x2) 1))), some (aI (a_add x2 1))] [] M Q)) :
    aE s2_G d 109 4 [] [some (aI x0), some (aI x1), some (aI x2)] [] M Q := aE_go s2_pu_ok [(4, [true, true, true])] 90 hd h

-- 110: DioceseBookModel.plan(III)I
set_option maxRecDepth 100000 in
set_option maxHeartbeats 4000000 in
theorem s2_plan_0 {d : Nat} (hd : 3 < d) {M : AM} {Q : Option AV → AM → Prop} {x1 x2 x3 : Int}
    (h : (x1 < (0 : Int) → Q (some (aI (-100001))) M) ∧ ((0 : Int) ≤ x1 → ((a_shr x1 (M 0 3)) = (0 : Int) → aKi s2_G d 109 [aI x1] M (fun z2 M1 => ((a_bl (1 ≤ z2 ∧ z2 ≤ 8)) = (0 : Int) → Q (some (aI (-100002))) M1) ∧ ((a_bl (1 ≤ z2 ∧ z2 ≤ 8)) ≠ (0 : Int) → ((a_bl (1 ≤ x2 ∧ x2 ≤ 999)) = (0 : Int) → Q (some (aI (-100002))) M1) ∧ ((a_bl (1 ≤ x2 ∧ x2 ≤ 999)) ≠ (0 : Int) → (((-2) : Int) ≤ x3 → aE s2_G d 110 60 [] [some (aP 0), some (aI x1), some (aI x2), some (aI x3), some (aI 0), none, none] [] (am_up M1 0 92 0) Q) ∧ (x3 < ((-2) : Int) → Q (some (aI (-100002))) M1))))) ∧ ((a_shr x1 (M 0 3)) ≠ (0 : Int) → Q (some (aI (-100001))) M))) :
    aE s2_G d 110 0 [] [some (aP 0), some (aI x1), some (aI x2), some (aI x3), none, none, none] [] M Q := aE_go s2_pu_ok [(60, [true, true, true, true, true, false, false]), (175, [true, false, true, true, false, true, true])] 136 hd h

set_option maxRecDepth 100000 in
set_option maxHeartbeats 4000000 in
theorem s2_plan_60 {d : Nat} (hd : 3 < d) {M : AM} {Q : Option AV → AM → Prop} {x1 x2 x3 x4 : Int}
    (h : ((M 0 3) ≤ x4 → aKv s2_G d 105 [aP 0] M (fun M1 => aKv s2_G d 106 [aP 0, aI x2] M1 (fun M2 => (0 ≤ (a_sub (a_shl 1 (M2 0 92)) 1) ∧ (a_sub (a_shl 1 (M2 0 92)) 1) < 256) ∧ (((M2 66 (a_sub (a_shl 1 (M2 0 92)) 1)) < (1000000 : Int) → ((0 : Int) ≤ x3 → aE s2_G d 110 175 [] [some (aP 0), none, some (aI x2), some (aI x3), none, some (aI (a_sub (a_shl 1 (M2 0 92)) 1)), some (aI 0)] [] M2 Q) ∧ (x3 < (0 : Int) → (x3 ≠ ((-1) : Int) → (0 ≤ (a_sub (a_shl 1 (M2 0 92)) 1) ∧ (a_sub (a_shl 1 (M2 0 92)) 1) < 256) ∧ (Q (some (aI (M2 67 (a_sub (a_shl 1 (M2 0 92)) 1)))) M2)) ∧ (x3 = ((-1) : Int) → (0 ≤ (a_sub (a_shl 1 (M2 0 92)) 1) ∧ (a_sub (a_shl 1 (M2 0 92)) 1) < 256) ∧ (Q (some (aI (M2 66 (a_sub (a_shl 1 (M2 0 92)) 1)))) M2)))) ∧ ((1000000 : Int) ≤ (M2 66 (a_sub (a_shl 1 (M2 0 92)) 1)) → Q (some (aI (-100003))) M2))))) ∧ (x4 < (M 0 3) → ((a_and (a_shr x1 x4) 1) ≠ (1 : Int) → aE s2_G d 110 60 [] [some (aP 0), some (aI x1), some (aI x2), some (aI x3), some (aI (a_add x4 1)), none, none] [] M Q) ∧ ((a_and (a_shr x1 x4) 1) = (1 : Int) → (0 ≤ (M 0 92) ∧ (M 0 92) < 8) ∧ (aE s2_G d 110 60 [] [some (aP 0), some (aI x1), some (aI x2), some (aI x3), some (aI (a_add x4 1)), none, none] [] (am_up (am_up M 63 (M 0 92) x4) 0 92 (a_add ((am_up M 63 (M 0 92) x4) 0 92) 1)) Q)))) :
    aE s2_G d 110 60 [] [some (aP 0), some (aI x1), some (aI x2), some (aI x3), some (aI x4), none, none] [] M Q := aE_go s2_pu_ok [(60, [true, true, true, true, true, false, false]), (175, [true, false, true, true, false, true, true])] 194 hd h

set_option maxRecDepth 100000 in
set_option maxHeartbeats 4000000 in
theorem s2_plan_175 {d : Nat} (hd : 3 < d) {M : AM} {Q : Option AV → AM → Prop} {x2 x3 x5 x6 : Int}
    (h : (x3 ≤ x6 → (x5 ≠ (0 : Int) → aKi s2_G d 108 [aP 0, aI x5, aI x2] M (fun z2 M1 => aKi s2_G d 107 [aP 0, aI z2] M1 (fun z4 M3 => Q (some (aI z4)) M3))) ∧ (x5 = (0 : Int) → Q (some (aI 0)) M)) ∧ (x6 < x3 → (x5 = (0 : Int) → (x5 ≠ (0 : Int) → aKi s2_G d 108 [aP 0, aI x5, aI x2] M (fun z6 M5 => aKi s2_G d 107 [aP 0, aI z6] M5 (fun z8 M7 => Q (some (aI z8)) M7))) ∧ (x5 = (0 : Int) → Q (some (aI 0)) M)) ∧ (x5 ≠ (0 : Int) → aKi s2_G d 108 [aP 0, aI x5, aI x2] M (fun z10 M9 => aE s2_G d 110 175 [] [some (aP 0), none, some (aI x2), some (aI x3), none, some (aI (a_and x5 (a_xor z10 (-1)))), some (aI (a_add x6 1))] [] M9 Q)))) :
    aE s2_G d 110 175 [] [some (aP 0), none, some (aI x2), some (aI x3), none, some (aI x5), some (aI x6)] [] M Q := aE_go s2_pu_ok [(60, [true, true, true, true, true, false, false]), (175, [true, false, true, true, false, true, true])] 140 hd h
