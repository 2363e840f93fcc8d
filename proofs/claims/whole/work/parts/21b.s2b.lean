/-! SYSTEM 2: its blocks, read off: what is asked of a state for a block to run on (by program) -/
-- 17: DioceseBookModel.findVoid(I)I
set_option maxRecDepth 100000 in
set_option maxHeartbeats 4000000 in
theorem s2_findVoid_0 {d : Nat} (hd : 3 < d) {M : AM} {Q : Option AV → AM → Prop} {x1 : Int}
    (h : aE s2_G d 17 4 [] [some (aP 0), some (aI x1), some (aI 0), some (aI 0)] [] M Q) :
    aE s2_G d 17 0 [] [some (aP 0), some (aI x1), none, none] [] M Q := aE_go s2_pu_ok [(4, [true, true, true, true]), (32, [true, true, true, true]), (86, [true, false, true, true])] 68 hd h

set_option maxRecDepth 100000 in
set_option maxHeartbeats 4000000 in
theorem s2_findVoid_4 {d : Nat} (hd : 3 < d) {M : AM} {Q : Option AV → AM → Prop} {x1 x2 x3 : Int}
    (h : ((M 0 7) ≤ x3 → aE s2_G d 17 32 [] [some (aP 0), some (aI x1), some (aI x2), some (aI (a_sub (M 0 7) 1))] [] M Q) ∧ (x3 < (M 0 7) → (0 ≤ x3 ∧ x3 < 150) ∧ (((0 : Int) = 0 ∨ (0 : Int) = 1) ∧ (aE s2_G d 17 4 [] [some (aP 0), some (aI x1), some (aI x2), some (aI (a_add x3 1))] [] (am_up M 12 x3 0) Q)))) :
    aE s2_G d 17 4 [] [some (aP 0), some (aI x1), some (aI x2), some (aI x3)] [] M Q := aE_go s2_pu_ok [(4, [true, true, true, true]), (32, [true, true, true, true]), (86, [true, false, true, true])] 92 hd h

set_option maxRecDepth 100000 in
set_option maxHeartbeats 4000000 in
theorem s2_findVoid_32 {d : Nat} (hd : 3 < d) {M : AM} {Q : Option AV → AM → Prop} {x1 x2 x3 : Int}
    (h : (x3 < (0 : Int) → aE s2_G d 17 86 [] [some (aP 0), none, some (aI x2), some (aI 0)] [] M Q) ∧ ((0 : Int) ≤ x3 → (0 ≤ x3 ∧ x3 < 150) ∧ ((x1 < (M 7 x3) → aE s2_G d 17 32 [] [some (aP 0), some (aI x1), some (aI x2), some (aI (a_add x3 (-1)))] [] M Q) ∧ ((M 7 x3) ≤ x1 → (0 ≤ x3 ∧ x3 < 150) ∧ (((M 5 x3) ≠ (12 : Int) → aE s2_G d 17 32 [] [some (aP 0), some (aI x1), some (aI x2), some (aI (a_add x3 (-1)))] [] M Q) ∧ ((M 5 x3) = (12 : Int) → (0 ≤ x3 ∧ x3 < 150) ∧ (((M 12 x3) ≠ (0 : Int) → aE s2_G d 17 32 [] [some (aP 0), some (aI x1), some (aI x2), some (aI (a_add x3 (-1)))] [] M Q) ∧ ((M 12 x3) = (0 : Int) → (0 ≤ x3 ∧ x3 < 150) ∧ ((0 ≤ (M 11 x3) ∧ (M 11 x3) < 150) ∧ (((1 : Int) = 0 ∨ (1 : Int) = 1) ∧ (aE s2_G d 17 32 [] [some (aP 0), some (aI x1), some (aI x2), some (aI (a_add x3 (-1)))] [] (am_up M 12 (M 11 x3) 1) Q))))))))))) :
    aE s2_G d 17 32 [] [some (aP 0), some (aI x1), some (aI x2), some (aI x3)] [] M Q := aE_go s2_pu_ok [(4, [true, true, true, true]), (32, [true, true, true, true]), (86, [true, false, true, true])] 134 hd h

set_option maxRecDepth 100000 in
set_option maxHeartbeats 4000000 in
theorem s2_findVoid_86 {d : Nat} (hd : 3 < d) {M : AM} {Q : Option AV → AM → Prop} {x2 x3 : Int}
    (h : ((M 0 7) ≤ x3 → Q (some (aI x2)) M) ∧ (x3 < (M 0 7) → (0 ≤ x3 ∧ x3 < 150) ∧ (aE s2_G d 17 86 [] [some (aP 0), none, some (aI (a_add x2 (a_bl ((M 12 x3) ≠ 0)))), some (aI (a_add x3 1))] [] M Q))) :
    aE s2_G d 17 86 [] [some (aP 0), none, some (aI x2), some (aI x3)] [] M Q := aE_go s2_pu_ok [(4, [true, true, true, true]), (32, [true, true, true, true]), (86, [true, false, true, true])] 92 hd h

-- 18: DioceseBookModel.findBook(I)V
set_option maxRecDepth 100000 in
set_option maxHeartbeats 4000000 in
theorem s2_findBook_0 {d : Nat} (hd : 3 < d) {M : AM} {Q : Option AV → AM → Prop} {x1 : Int}
    (h : aKi s2_G d 17 [aP 0, aI x1] M (fun z2 M1 => aE s2_G d 18 13 [] [some (aP 0), some (aI x1), none, some (aI 0), none] [] (am_up M1 0 17 0) Q)) :
    aE s2_G d 18 0 [] [some (aP 0), some (aI x1), none, none, none] [] M Q := aE_go s2_pu_ok [(13, [true, true, false, true, false]), (46, [true, true, false, true, true])] 78 hd h

set_option maxRecDepth 100000 in
set_option maxHeartbeats 4000000 in
theorem s2_findBook_13 {d : Nat} (hd : 3 < d) {M : AM} {Q : Option AV → AM → Prop} {x1 x3 : Int}
    (h : ((M 0 7) ≤ x3 → Q none M) ∧ (x3 < (M 0 7) → (0 ≤ x3 ∧ x3 < 150) ∧ ((x1 < (M 7 x3) → aE s2_G d 18 13 [] [some (aP 0), some (aI x1), none, some (aI (a_add x3 1)), none] [] M Q) ∧ ((M 7 x3) ≤ x1 → (0 ≤ x3 ∧ x3 < 150) ∧ (((M 12 x3) ≠ (0 : Int) → aE s2_G d 18 13 [] [some (aP 0), some (aI x1), none, some (aI (a_add x3 1)), none] [] M Q) ∧ ((M 12 x3) = (0 : Int) → aE s2_G d 18 46 [] [some (aP 0), some (aI x1), none, some (aI x3), some (aI (M 0 17))] [] M Q)))))) :
    aE s2_G d 18 13 [] [some (aP 0), some (aI x1), none, some (aI x3), none] [] M Q := aE_go s2_pu_ok [(13, [true, true, false, true, false]), (46, [true, true, false, true, true])] 106 hd h

set_option maxRecDepth 100000 in
set_option maxHeartbeats 4000000 in
theorem s2_findBook_46 {d : Nat} (hd : 3 < d) {M : AM} {Q : Option AV → AM → Prop} {x1 x3 x4 : Int}
    (h : (x4 ≤ (0 : Int) → (0 ≤ x4 ∧ x4 < 150) ∧ (aE s2_G d 18 13 [] [some (aP 0), some (aI x1), none, some (aI (a_add x3 1)), none] [] (am_up (am_up M 13 x4 x3) 0 17 (a_add ((am_up M 13 x4 x3) 0 17) 1)) Q)) ∧ ((0 : Int) < x4 → (0 ≤ (a_sub x4 1) ∧ (a_sub x4 1) < 150) ∧ ((0 ≤ (M 13 (a_sub x4 1)) ∧ (M 13 (a_sub x4 1)) < 150) ∧ ((0 ≤ x3 ∧ x3 < 150) ∧ (((M 6 (M 13 (a_sub x4 1))) ≤ (M 6 x3) → (0 ≤ x4 ∧ x4 < 150) ∧ (aE s2_G d 18 13 [] [some (aP 0), some (aI x1), none, some (aI (a_add x3 1)), none] [] (am_up (am_up M 13 x4 x3) 0 17 (a_add ((am_up M 13 x4 x3) 0 17) 1)) Q)) ∧ ((M 6 x3) < (M 6 (M 13 (a_sub x4 1))) → (0 ≤ (a_sub x4 1) ∧ (a_sub x4 1) < 150) ∧ ((0 ≤ x4 ∧ x4 < 150) ∧ (aE s2_G d 18 46 [] [some (aP 0), some (aI x1), none, some (aI x3), some (aI (a_add x4 (-1)))] [] (am_up M 13 x4 (M 13 (a_sub x4 1))) Q)))))))) :
    aE s2_G d 18 46 [] [some (aP 0), some (aI x1), none, some (aI x3), some (aI x4)] [] M Q := aE_go s2_pu_ok [(13, [true, true, false, true, false]), (46, [true, true, false, true, true])] 168 hd h

-- 19: DioceseBookModel.told(II)I
set_option maxRecDepth 100000 in
set_option maxHeartbeats 4000000 in
theorem s2_told_0 {d : Nat} (hd : 3 < d) {M : AM} {Q : Option AV → AM → Prop} {x1 x2 : Int}
    (h : ((a_bl (0 ≤ x1 ∧ x1 ≤ (a_sub (M 0 7) 1))) ≠ (0 : Int) → ((x2 = 0 → (0 ≤ x1 ∧ x1 < 150) ∧ (Q (some (aI (M 5 x1))) M)) ∧ (x2 = 1 → (0 ≤ x1 ∧ x1 < 150) ∧ (Q (some (aI (M 6 x1))) M)) ∧ (x2 = 2 → (0 ≤ x1 ∧ x1 < 150) ∧ (Q (some (aI (M 7 x1))) M)) ∧ (x2 = 3 → (0 ≤ x1 ∧ x1 < 150) ∧ (Q (some (aI (M 8 x1))) M)) ∧ (x2 = 4 → (0 ≤ x1 ∧ x1 < 150) ∧ (Q (some (aI (M 9 x1))) M)) ∧ (x2 = 5 → (0 ≤ x1 ∧ x1 < 150) ∧ (Q (some (aI (M 10 x1))) M)) ∧ (x2 = 6 → (0 ≤ x1 ∧ x1 < 150) ∧ (Q (some (aI (M 11 x1))) M)) ∧ (x2 = 7 → aKi s2_G d 17 [aP 0, aI (M 0 0)] M (fun z2 M1 => (0 ≤ x1 ∧ x1 < 150) ∧ (Q (some (aI (a_bl ((M1 12 x1) ≠ 0)))) M1))) ∧ True) ∧ (x2 < 0 ∨ 7 < x2 → Q (some (aI (-100002))) M)) ∧ ((a_bl (0 ≤ x1 ∧ x1 ≤ (a_sub (M 0 7) 1))) = (0 : Int) → Q (some (aI (-100001))) M)) :
    aE s2_G d 19 0 [] [some (aP 0), some (aI x1), some (aI x2), none] [] M Q := aE_go s2_pu_ok [] 184 hd h

-- 20: DioceseBookModel.book(II)I
set_option maxRecDepth 100000 in
set_option maxHeartbeats 4000000 in
theorem s2_book_0 {d : Nat} (hd : 3 < d) {M : AM} {Q : Option AV → AM → Prop} {x1 x2 : Int}
    (h : ((a_bl (0 ≤ x1 ∧ x1 ≤ M 0 0)) ≠ (0 : Int) → aKv s2_G d 18 [aP 0, aI x1] M (fun M1 => ((a_bl (0 ≤ x2 ∧ x2 ≤ (a_sub (M1 0 17) 1))) = (0 : Int) → Q (some (aI (-1))) M1) ∧ ((a_bl (0 ≤ x2 ∧ x2 ≤ (a_sub (M1 0 17) 1))) ≠ (0 : Int) → (0 ≤ x2 ∧ x2 < 150) ∧ (Q (some (aI (M1 13 x2))) M1)))) ∧ ((a_bl (0 ≤ x1 ∧ x1 ≤ M 0 0)) = (0 : Int) → Q (some (aI (-100002))) M)) :
    aE s2_G d 20 0 [] [some (aP 0), some (aI x1), some (aI x2)] [] M Q := aE_go s2_pu_ok [] 114 hd h

-- 21: DioceseBookModel.firstOf(II)I
set_option maxRecDepth 100000 in
set_option maxHeartbeats 4000000 in
theorem s2_firstOf_0 {d : Nat} (hd : 3 < d) {M : AM} {Q : Option AV → AM → Prop} {x1 x2 : Int}
    (h : aE s2_G d 21 2 [] [some (aP 0), some (aI x1), some (aI x2), some (aI 0)] [] M Q) :
    aE s2_G d 21 0 [] [some (aP 0), some (aI x1), some (aI x2), none] [] M Q := aE_go s2_pu_ok [(2, [true, true, true, true])] 64 hd h

set_option maxRecDepth 100000 in
set_option maxHeartbeats 4000000 in
theorem s2_firstOf_2 {d : Nat} (hd : 3 < d) {M : AM} {Q : Option AV → AM → Prop} {x1 x2 x3 : Int}
    (h : ((M 0 17) ≤ x3 → Q (some (aI (-1))) M) ∧ (x3 < (M 0 17) → (0 ≤ x3 ∧ x3 < 150) ∧ ((0 ≤ (M 13 x3) ∧ (M 13 x3) < 150) ∧ (((M 5 (M 13 x3)) ≠ x1 → aE s2_G d 21 2 [] [some (aP 0), some (aI x1), some (aI x2), some (aI (a_add x3 1))] [] M Q) ∧ ((M 5 (M 13 x3)) = x1 → (0 ≤ x3 ∧ x3 < 150) ∧ ((0 ≤ (M 13 x3) ∧ (M 13 x3) < 150) ∧ (((M 9 (M 13 x3)) ≠ x2 → aE s2_G d 21 2 [] [some (aP 0), some (aI x1), some (aI x2), some (aI (a_add x3 1))] [] M Q) ∧ ((M 9 (M 13 x3)) = x2 → (0 ≤ x3 ∧ x3 < 150) ∧ (Q (some (aI (M 13 x3))) M))))))))) :
    aE s2_G d 21 2 [] [some (aP 0), some (aI x1), some (aI x2), some (aI x3)] [] M Q := aE_go s2_pu_ok [(2, [true, true, true, true])] 126 hd h

-- 22: DioceseBookModel.dayOn(II)I
set_option maxRecDepth 100000 in
set_option maxHeartbeats 4000000 in
theorem s2_dayOn_0 {d : Nat} (hd : 3 < d) {M : AM} {Q : Option AV → AM → Prop} {x1 x2 : Int}
    (h : aKi s2_G d 21 [aP 0, aI x1, aI x2] M (fun z2 M1 => ((0 : Int) ≤ z2 → (0 ≤ z2 ∧ z2 < 150) ∧ (Q (some (aI (M1 6 z2))) M1)) ∧ (z2 < (0 : Int) → Q (some (aI (-1))) M1))) :
    aE s2_G d 22 0 [] [some (aP 0), some (aI x1), some (aI x2), none] [] M Q := aE_go s2_pu_ok [] 90 hd h

-- 23: DioceseBookModel.isDead(II)Z
set_option maxRecDepth 100000 in
set_option maxHeartbeats 4000000 in
theorem s2_isDead_0 {d : Nat} (hd : 3 < d) {M : AM} {Q : Option AV → AM → Prop} {x1 x2 : Int}
    (h : aKi s2_G d 22 [aP 0, aI 1, aI x1] M (fun z2 M1 => (z2 < (0 : Int) → ((0 : Int) = 0 ∨ (0 : Int) = 1) ∧ Q (some (aI 0)) M1) ∧ ((0 : Int) ≤ z2 → (x2 < z2 → ((0 : Int) = 0 ∨ (0 : Int) = 1) ∧ Q (some (aI 0)) M1) ∧ (z2 ≤ x2 → ((1 : Int) = 0 ∨ (1 : Int) = 1) ∧ Q (some (aI 1)) M1)))) :
    aE s2_G d 23 0 [] [some (aP 0), some (aI x1), some (aI x2), none] [] M Q := aE_go s2_pu_ok [] 94 hd h

-- 24: DioceseBookModel.hasLeave(II)Z
set_option maxRecDepth 100000 in
set_option maxHeartbeats 4000000 in
theorem s2_hasLeave_0 {d : Nat} (hd : 3 < d) {M : AM} {Q : Option AV → AM → Prop} {x1 x2 : Int}
    (h : aKi s2_G d 22 [aP 0, aI 5, aI x1] M (fun z2 M1 => (z2 < (0 : Int) → ((0 : Int) = 0 ∨ (0 : Int) = 1) ∧ Q (some (aI 0)) M1) ∧ ((0 : Int) ≤ z2 → (x2 < z2 → ((0 : Int) = 0 ∨ (0 : Int) = 1) ∧ Q (some (aI 0)) M1) ∧ (z2 ≤ x2 → ((1 : Int) = 0 ∨ (1 : Int) = 1) ∧ Q (some (aI 1)) M1)))) :
    aE s2_G d 24 0 [] [some (aP 0), some (aI x1), some (aI x2), none] [] M Q := aE_go s2_pu_ok [] 94 hd h

-- 25: DioceseBookModel.heirOf(II)I
set_option maxRecDepth 100000 in
set_option maxHeartbeats 4000000 in
theorem s2_heirOf_0 {d : Nat} (hd : 3 < d) {M : AM} {Q : Option AV → AM → Prop} {x1 x2 : Int}
    (h : aE s2_G d 25 5 [] [some (aP 0), some (aI x1), some (aI x2), some (aI (-1)), some (aI 0), none] [] M Q) :
    aE s2_G d 25 0 [] [some (aP 0), some (aI x1), some (aI x2), none, none, none] [] M Q := aE_go s2_pu_ok [(5, [true, true, true, true, true, false])] 68 hd h

set_option maxRecDepth 100000 in
set_option maxHeartbeats 4000000 in
theorem s2_heirOf_5 {d : Nat} (hd : 3 < d) {M : AM} {Q : Option AV → AM → Prop} {x1 x2 x3 x4 : Int}
    (h : ((M 0 17) ≤ x4 → Q (some (aI x3)) M) ∧ (x4 < (M 0 17) → (0 ≤ x4 ∧ x4 < 150) ∧ ((0 ≤ (M 13 x4) ∧ (M 13 x4) < 150) ∧ (((M 5 (M 13 x4)) ≠ (6 : Int) → aE s2_G d 25 5 [] [some (aP 0), some (aI x1), some (aI x2), some (aI x3), some (aI (a_add x4 1)), none] [] M Q) ∧ ((M 5 (M 13 x4)) = (6 : Int) → (0 ≤ (M 13 x4) ∧ (M 13 x4) < 150) ∧ (((M 9 (M 13 x4)) ≠ x1 → aE s2_G d 25 5 [] [some (aP 0), some (aI x1), some (aI x2), some (aI x3), some (aI (a_add x4 1)), none] [] M Q) ∧ ((M 9 (M 13 x4)) = x1 → (0 ≤ (M 13 x4) ∧ (M 13 x4) < 150) ∧ ((x2 < (M 6 (M 13 x4)) → aE s2_G d 25 5 [] [some (aP 0), some (aI x1), some (aI x2), some (aI x3), some (aI (a_add x4 1)), none] [] M Q) ∧ ((M 6 (M 13 x4)) ≤ x2 → (0 ≤ (M 13 x4) ∧ (M 13 x4) < 150) ∧ (aE s2_G d 25 5 [] [some (aP 0), some (aI x1), some (aI x2), some (aI (M 10 (M 13 x4))), some (aI (a_add x4 1)), none] [] M Q)))))))))) :
    aE s2_G d 25 5 [] [some (aP 0), some (aI x1), some (aI x2), some (aI x3), some (aI x4), none] [] M Q := aE_go s2_pu_ok [(5, [true, true, true, true, true, false])] 158 hd h

-- 26: DioceseBookModel.about(III)I
set_option maxRecDepth 100000 in
set_option maxHeartbeats 4000000 in
theorem s2_about_0 {d : Nat} (hd : 3 < d) {M : AM} {Q : Option AV → AM → Prop} {x1 x2 x3 : Int}
    (h : ((a_bl ¬(0 ≤ x1 ∧ x1 ≤ a_sub (M 0 1) 1)) = (0 : Int) → ((a_bl (0 ≤ x2 ∧ x2 ≤ M 0 0)) = (0 : Int) → Q (some (aI (-100002))) M) ∧ ((a_bl (0 ≤ x2 ∧ x2 ≤ M 0 0)) ≠ (0 : Int) → ((a_bl (0 ≤ x3 ∧ x3 ≤ 4)) ≠ (0 : Int) → aKv s2_G d 18 [aP 0, aI x2] M (fun M1 => ((3 : Int) ≤ x3 → (x3 ≠ (3 : Int) → aKi s2_G d 24 [aP 0, aI x1, aI 30000] M1 (fun z3 M2 => Q (some (aI (a_bl (z3 ≠ 0)))) M2)) ∧ (x3 = (3 : Int) → aKi s2_G d 25 [aP 0, aI x1, aI 30000] M1 (fun z5 M4 => Q (some (aI z5)) M4))) ∧ (x3 < (3 : Int) → aKi s2_G d 22 [aP 0, aI x3, aI x1] M1 (fun z7 M6 => Q (some (aI z7)) M6)))) ∧ ((a_bl (0 ≤ x3 ∧ x3 ≤ 4)) = (0 : Int) → Q (some (aI (-100002))) M))) ∧ ((a_bl ¬(0 ≤ x1 ∧ x1 ≤ a_sub (M 0 1) 1)) ≠ (0 : Int) → Q (some (aI (-100001))) M)) :
    aE s2_G d 26 0 [] [some (aP 0), some (aI x1), some (aI x2), some (aI x3)] [] M Q := aE_go s2_pu_ok [] 154 hd h

-- 27: DioceseBookModel.feed(IJ)I
set_option maxRecDepth 100000 in
set_option maxHeartbeats 4000000 in
theorem s2_feed_0 {d : Nat} (hd : 3 < d) {M : AM} {Q : Option AV → AM → Prop} {x1 x2 : Int}
    (h : ((a_bl (1 ≤ x1 ∧ x1 ≤ 8)) ≠ (0 : Int) → ((a_add (M 0 29) x1) ≤ (200 : Int) → aE s2_G d 27 35 [] [some (aP 0), none, some (aL x2), none, some (aI (a_sub x1 1))] [] M Q) ∧ ((200 : Int) < (a_add (M 0 29) x1) → Q (some (aI (-100004))) M)) ∧ ((a_bl (1 ≤ x1 ∧ x1 ≤ 8)) = (0 : Int) → Q (some (aI (-100002))) M)) :
    aE s2_G d 27 0 [] [some (aP 0), some (aI x1), some (aL x2), none, none] [] M Q := aE_go s2_pu_ok [(35, [true, false, true, false, true])] 100 hd h

set_option maxRecDepth 100000 in
set_option maxHeartbeats 4000000 in
theorem s2_feed_35 {d : Nat} (hd : 3 < d) {M : AM} {Q : Option AV → AM → Prop} {x2 x4 : Int}
    (h : (x4 < (0 : Int) → Q (some (aI (M 0 29))) M) ∧ ((0 : Int) ≤ x4 → (0 ≤ (M 0 29) ∧ (M 0 29) < 200) ∧ (aE s2_G d 27 35 [] [some (aP 0), none, some (aL x2), none, some (aI (a_add x4 (-1)))] [] (am_up (am_up M 23 (M 0 29) (a_l2i (a_land (a_lshr x2 (a_mul 8 x4)) 255))) 0 29 (a_add ((am_up M 23 (M 0 29) (a_l2i (a_land (a_lshr x2 (a_mul 8 x4)) 255))) 0 29) 1)) Q))) :
    aE s2_G d 27 35 [] [some (aP 0), none, some (aL x2), none, some (aI x4)] [] M Q := aE_go s2_pu_ok [(35, [true, false, true, false, true])] 112 hd h

-- 28: DioceseBookModel.here()I
set_option maxRecDepth 100000 in
set_option maxHeartbeats 4000000 in
theorem s2_here_0 {d : Nat} (hd : 3 < d) {M : AM} {Q : Option AV → AM → Prop}
    (h : ((M 0 29) ≤ (M 0 30) → ((M 0 29) ≤ (M 0 30) → Q (some (aI (-1))) M) ∧ ((M 0 30) < (M 0 29) → (0 ≤ (M 0 30) ∧ (M 0 30) < 200) ∧ (Q (some (aI (M 23 (M 0 30)))) M))) ∧ ((M 0 30) < (M 0 29) → (0 ≤ (M 0 30) ∧ (M 0 30) < 200) ∧ (((M 23 (M 0 30)) ≠ (32 : Int) → ((M 0 29) ≤ (M 0 30) → Q (some (aI (-1))) M) ∧ ((M 0 30) < (M 0 29) → (0 ≤ (M 0 30) ∧ (M 0 30) < 200) ∧ (Q (some (aI (M 23 (M 0 30)))) M))) ∧ ((M 23 (M 0 30)) = (32 : Int) → aE s2_G d 28 0 [] [some (aP 0)] [] (am_up M 0 30 (a_add (M 0 30) 1)) Q)))) :
    aE s2_G d 28 0 [] [some (aP 0)] [] M Q := aE_go s2_pu_ok [(0, [true])] 154 hd h

-- 29: DioceseBookModel.want(ZII)Z
set_option maxRecDepth 100000 in
set_option maxHeartbeats 4000000 in
theorem s2_want_0 {d : Nat} (hd : 3 < d) {M : AM} {Q : Option AV → AM → Prop} {x1 x2 x3 : Int}
    (h : (x1 ≠ (0 : Int) → ((M 0 31) ≠ (0 : Int) → ((0 : Int) = 0 ∨ (0 : Int) = 1) ∧ Q (some (aI 0)) M) ∧ ((M 0 31) = (0 : Int) → ((1 : Int) = 0 ∨ (1 : Int) = 1) ∧ Q (some (aI 1)) M)) ∧ (x1 = (0 : Int) → ((M 0 31) ≠ (0 : Int) → ((M 0 31) ≠ (0 : Int) → ((0 : Int) = 0 ∨ (0 : Int) = 1) ∧ Q (some (aI 0)) M) ∧ ((M 0 31) = (0 : Int) → ((1 : Int) = 0 ∨ (1 : Int) = 1) ∧ Q (some (aI 1)) M)) ∧ ((M 0 31) = (0 : Int) → (((am_up (am_up M 0 31 x2) 0 32 x3) 0 31) ≠ (0 : Int) → ((0 : Int) = 0 ∨ (0 : Int) = 1) ∧ Q (some (aI 0)) (am_up (am_up M 0 31 x2) 0 32 x3)) ∧ (((am_up (am_up M 0 31 x2) 0 32 x3) 0 31) = (0 : Int) → ((1 : Int) = 0 ∨ (1 : Int) = 1) ∧ Q (some (aI 1)) (am_up (am_up M 0 31 x2) 0 32 x3))))) :
    aE s2_G d 29 0 [] [some (aP 0), some (aI x1), some (aI x2), some (aI x3)] [] M Q := aE_go s2_pu_ok [] 130 hd h

-- 30: DioceseBookModel.takeWord()V
set_option maxRecDepth 100000 in
set_option maxHeartbeats 4000000 in
theorem s2_takeWord_0 {d : Nat} (hd : 3 < d) {M : AM} {Q : Option AV → AM → Prop}
    (h : aKi s2_G d 28 [aP 0] M (fun z2 M1 => aE s2_G d 30 13 [] [some (aP 0), none] [] (am_up M1 0 33 (M1 0 30)) Q)) :
    aE s2_G d 30 0 [] [some (aP 0), none] [] M Q := aE_go s2_pu_ok [(13, [true, false])] 74 hd h

set_option maxRecDepth 100000 in
set_option maxHeartbeats 4000000 in
theorem s2_takeWord_13 {d : Nat} (hd : 3 < d) {M : AM} {Q : Option AV → AM → Prop}
    (h : ((M 0 29) ≤ (M 0 30) → Q none (am_up M 0 34 (a_sub (M 0 30) (M 0 33)))) ∧ ((M 0 30) < (M 0 29) → (0 ≤ (M 0 30) ∧ (M 0 30) < 200) ∧ (((a_bl (97 ≤ (M 23 (M 0 30)) ∧ (M 23 (M 0 30)) ≤ 122)) = (0 : Int) → Q none (am_up M 0 34 (a_sub (M 0 30) (M 0 33)))) ∧ ((a_bl (97 ≤ (M 23 (M 0 30)) ∧ (M 23 (M 0 30)) ≤ 122)) ≠ (0 : Int) → aE s2_G d 30 13 [] [some (aP 0), none] [] (am_up M 0 30 (a_add (M 0 30) 1)) Q)))) :
    aE s2_G d 30 13 [] [some (aP 0), none] [] M Q := aE_go s2_pu_ok [(13, [true, false])] 136 hd h

-- 31: DioceseBookModel.isWord(IIIIIII)Z
set_option maxRecDepth 100000 in
set_option maxHeartbeats 4000000 in
theorem s2_isWord_0 {d : Nat} (hd : 3 < d) {M : AM} {Q : Option AV → AM → Prop} {x1 x2 x3 x4 x5 x6 x7 : Int}
    (h : ((M 0 34) ≠ x1 → aE s2_G d 31 18 [] [some (aP 0), some (aI x1), some (aI x2), some (aI x3), some (aI x4), some (aI x5), some (aI x6), some (aI x7), some (aI 0), some (aI 0)] [] M Q) ∧ ((M 0 34) = x1 → aE s2_G d 31 18 [] [some (aP 0), some (aI x1), some (aI x2), some (aI x3), some (aI x4), some (aI x5), some (aI x6), some (aI x7), some (aI 1), some (aI 0)] [] M Q)) :
    aE s2_G d 31 0 [] [some (aP 0), some (aI x1), some (aI x2), some (aI x3), some (aI x4), some (aI x5), some (aI x6), some (aI x7), none, none] [] M Q := aE_go s2_pu_ok [(18, [true, true, true, true, true, true, true, true, true, true])] 86 hd h

set_option maxRecDepth 100000 in
set_option maxHeartbeats 4000000 in
theorem s2_isWord_18 {d : Nat} (hd : 3 < d) {M : AM} {Q : Option AV → AM → Prop} {x1 x2 x3 x4 x5 x6 x7 x8 x9 : Int}
    (h : (x1 ≤ x9 → (x8 = 0 ∨ x8 = 1) ∧ Q (some (aI x8)) M) ∧ (x9 < x1 → (x8 = (0 : Int) → (x8 = 0 ∨ x8 = 1) ∧ Q (some (aI x8)) M) ∧ (x8 ≠ (0 : Int) → (0 ≤ (a_add (M 0 33) x9) ∧ (a_add (M 0 33) x9) < 200) ∧ ((x9 ≠ (0 : Int) → (x9 ≠ (1 : Int) → (x9 ≠ (2 : Int) → (x9 ≠ (3 : Int) → (x9 ≠ (4 : Int) → ((M 23 (a_add (M 0 33) x9)) ≠ x7 → aE s2_G d 31 18 [] [some (aP 0), some (aI x1), some (aI x2), some (aI x3), some (aI x4), some (aI x5), some (aI x6), some (aI x7), some (aI 0), some (aI (a_add x9 1))] [] M Q) ∧ ((M 23 (a_add (M 0 33) x9)) = x7 → aE s2_G d 31 18 [] [some (aP 0), some (aI x1), some (aI x2), some (aI x3), some (aI x4), some (aI x5), some (aI x6), some (aI x7), some (aI 1), some (aI (a_add x9 1))] [] M Q)) ∧ (x9 = (4 : Int) → ((M 23 (a_add (M 0 33) x9)) ≠ x6 → aE s2_G d 31 18 [] [some (aP 0), some (aI x1), some (aI x2), some (aI x3), some (aI x4), some (aI x5), some (aI x6), some (aI x7), some (aI 0), some (aI (a_add x9 1))] [] M Q) ∧ ((M 23 (a_add (M 0 33) x9)) = x6 → aE s2_G d 31 18 [] [some (aP 0), some (aI x1), some (aI x2), some (aI x3), some (aI x4), some (aI x5), some (aI x6), some (aI x7), some (aI 1), some (aI (a_add x9 1))] [] M Q))) ∧ (x9 = (3 : Int) → ((M 23 (a_add (M 0 33) x9)) ≠ x5 → aE s2_G d 31 18 [] [some (aP 0), some (aI x1), some (aI x2), some (aI x3), some (aI x4), some (aI x5), some (aI x6), some (aI x7), some (aI 0), some (aI (a_add x9 1))] [] M Q) ∧ ((M 23 (a_add (M 0 33) x9)) = x5 → aE s2_G d 31 18 [] [some (aP 0), some (aI x1), some (aI x2), some (aI x3), some (aI x4), some (aI x5), some (aI x6), some (aI x7), some (aI 1), some (aI (a_add x9 1))] [] M Q))) ∧ (x9 = (2 : Int) → ((M 23 (a_add (M 0 33) x9)) ≠ x4 → aE s2_G d 31 18 [] [some (aP 0), some (aI x1), some (aI x2), some (aI x3), some (aI x4), some (aI x5), some (aI x6), some (aI x7), some (aI 0), some (aI (a_add x9 1))] [] M Q) ∧ ((M 23 (a_add (M 0 33) x9)) = x4 → aE s2_G d 31 18 [] [some (aP 0), some (aI x1), some (aI x2), some (aI x3), some (aI x4), some (aI x5), some (aI x6), some (aI x7), some (aI 1), some (aI (a_add x9 1))] [] M Q))) ∧ (x9 = (1 : Int) → ((M 23 (a_add (M 0 33) x9)) ≠ x3 → aE s2_G d 31 18 [] [some (aP 0), some (aI x1), some (aI x2), some (aI x3), some (aI x4), some (aI x5), some (aI x6), some (aI x7), some (aI 0), some (aI (a_add x9 1))] [] M Q) ∧ ((M 23 (a_add (M 0 33) x9)) = x3 → aE s2_G d 31 18 [] [some (aP 0), some (aI x1), some (aI x2), some (aI x3), some (aI x4), some (aI x5), some (aI x6), some (aI x7), some (aI 1), some (aI (a_add x9 1))] [] M Q))) ∧ (x9 = (0 : Int) → ((M 23 (a_add (M 0 33) x9)) ≠ x2 → aE s2_G d 31 18 [] [some (aP 0), some (aI x1), some (aI x2), some (aI x3), some (aI x4), some (aI x5), some (aI x6), some (aI x7), some (aI 0), some (aI (a_add x9 1))] [] M Q) ∧ ((M 23 (a_add (M 0 33) x9)) = x2 → aE s2_G d 31 18 [] [some (aP 0), some (aI x1), some (aI x2), some (aI x3), some (aI x4), some (aI x5), some (aI x6), some (aI x7), some (aI 1), some (aI (a_add x9 1))] [] M Q)))))) :
    aE s2_G d 31 18 [] [some (aP 0), some (aI x1), some (aI x2), some (aI x3), some (aI x4), some (aI x5), some (aI x6), some (aI x7), some (aI x8), some (aI x9)] [] M Q := aE_go s2_pu_ok [(18, [true, true, true, true, true, true, true, true, true, true])] 262 hd h

-- 32: DioceseBookModel.takeNumber(I)I
set_option maxRecDepth 100000 in
set_option maxHeartbeats 4000000 in
theorem s2_takeNumber_0 {d : Nat} (hd : 3 < d) {M : AM} {Q : Option AV → AM → Prop} {x1 : Int}
    (h : aKi s2_G d 28 [aP 0] M (fun z2 M1 => aKi s2_G d 29 [aP 0, aI (a_bl (48 ≤ z2 ∧ z2 ≤ 57)), aI 1, aI ((am_up M1 0 33 (M1 0 30)) 0 30)] (am_up M1 0 33 (M1 0 30)) (fun z4 M3 => (z4 ≠ (0 : Int) → aE s2_G d 32 40 [] [some (aP 0), some (aI x1), none, some (aI 0), none] [] M3 Q) ∧ (z4 = (0 : Int) → Q (some (aI 0)) M3)))) :
    aE s2_G d 32 0 [] [some (aP 0), some (aI x1), none, none, none] [] M Q := aE_go s2_pu_ok [(40, [true, true, false, true, false])] 104 hd h

set_option maxRecDepth 100000 in
set_option maxHeartbeats 4000000 in
theorem s2_takeNumber_40 {d : Nat} (hd : 3 < d) {M : AM} {Q : Option AV → AM → Prop} {x1 x3 : Int}
    (h : ((M 0 29) ≤ (M 0 30) → ((5 : Int) ≤ (a_sub (M 0 30) (M 0 33)) → aKi s2_G d 29 [aP 0, aI 0, aI 2, aI (M 0 33)] M (fun z2 M1 => Q (some (aI x3)) M1)) ∧ ((a_sub (M 0 30) (M 0 33)) < (5 : Int) → (x1 < x3 → aKi s2_G d 29 [aP 0, aI 0, aI 2, aI (M 0 33)] M (fun z4 M3 => Q (some (aI x3)) M3)) ∧ (x3 ≤ x1 → aKi s2_G d 29 [aP 0, aI 1, aI 2, aI (M 0 33)] M (fun z6 M5 => Q (some (aI x3)) M5)))) ∧ ((M 0 30) < (M 0 29) → (0 ≤ (M 0 30) ∧ (M 0 30) < 200) ∧ (((a_bl (48 ≤ (M 23 (M 0 30)) ∧ (M 23 (M 0 30)) ≤ 57)) = (0 : Int) → ((5 : Int) ≤ (a_sub (M 0 30) (M 0 33)) → aKi s2_G d 29 [aP 0, aI 0, aI 2, aI (M 0 33)] M (fun z8 M7 => Q (some (aI x3)) M7)) ∧ ((a_sub (M 0 30) (M 0 33)) < (5 : Int) → (x1 < x3 → aKi s2_G d 29 [aP 0, aI 0, aI 2, aI (M 0 33)] M (fun z10 M9 => Q (some (aI x3)) M9)) ∧ (x3 ≤ x1 → aKi s2_G d 29 [aP 0, aI 1, aI 2, aI (M 0 33)] M (fun z12 M11 => Q (some (aI x3)) M11)))) ∧ ((a_bl (48 ≤ (M 23 (M 0 30)) ∧ (M 23 (M 0 30)) ≤ 57)) ≠ (0 : Int) → (x3 ≤ (9999 : Int) → (0 ≤ (M 0 30) ∧ (M 0 30) < 200) ∧ (aE s2_G d 32 40 [] [some (aP 0), some (aI x1), none, some (aI (a_sub (a_add (a_mul 10 x3) (M 23 (M 0 30))) 48)), none] [] (am_up M 0 30 (a_add (M 0 30) 1)) Q)) ∧ ((9999 : Int) < x3 → aE s2_G d 32 40 [] [some (aP 0), some (aI x1), none, some (aI x3), none] [] (am_up M 0 30 (a_add (M 0 30) 1)) Q))))) :
    aE s2_G d 32 40 [] [some (aP 0), some (aI x1), none, some (aI x3), none] [] M Q := aE_go s2_pu_ok [(40, [true, true, false, true, false])] 298 hd h

-- 33: DioceseBookModel.nameOf()I
set_option maxRecDepth 100000 in
set_option maxHeartbeats 4000000 in
theorem s2_nameOf_0 {d : Nat} (hd : 3 < d) {M : AM} {Q : Option AV → AM → Prop}
    (h : aKi s2_G d 31 [aP 0, aI 5, aI 108, aI 97, aI 112, aI 115, aI 101, aI 0] M (fun z2 M1 => (z2 = (0 : Int) → aKi s2_G d 31 [aP 0, aI 5, aI 109, aI 105, aI 108, aI 101, aI 115, aI 0] M1 (fun z4 M3 => (z4 = (0 : Int) → aKi s2_G d 31 [aP 0, aI 5, aI 119, aI 111, aI 114, aI 116, aI 104, aI 0] M3 (fun z6 M5 => (z6 = (0 : Int) → aKi s2_G d 31 [aP 0, aI 4, aI 118, aI 111, aI 105, aI 100, aI 0, aI 0] M5 (fun z8 M7 => (z8 = (0 : Int) → aKi s2_G d 31 [aP 0, aI 6, aI 108, aI 97, aI 112, aI 115, aI 101, aI 100] M7 (fun z10 M9 => (z10 = (0 : Int) → aKi s2_G d 31 [aP 0, aI 5, aI 100, aI 101, aI 99, aI 97, aI 121, aI 0] M9 (fun z12 M11 => (z12 = (0 : Int) → aKi s2_G d 31 [aP 0, aI 5, aI 115, aI 116, aI 101, aI 112, aI 115, aI 0] M11 (fun z14 M13 => (z14 = (0 : Int) → aKi s2_G d 31 [aP 0, aI 3, aI 102, aI 101, aI 101, aI 0, aI 0, aI 0] M13 (fun z16 M15 => (z16 = (0 : Int) → Q (some (aI (-1))) M15) ∧ (z16 ≠ (0 : Int) → Q (some (aI 7)) M15))) ∧ (z14 ≠ (0 : Int) → Q (some (aI 6)) M13))) ∧ (z12 ≠ (0 : Int) → Q (some (aI 5)) M11))) ∧ (z10 ≠ (0 : Int) → Q (some (aI 4)) M9))) ∧ (z8 ≠ (0 : Int) → Q (some (aI 3)) M7))) ∧ (z6 ≠ (0 : Int) → Q (some (aI 2)) M5))) ∧ (z4 ≠ (0 : Int) → Q (some (aI 1)) M3))) ∧ (z2 ≠ (0 : Int) → Q (some (aI 0)) M1))) :
    aE s2_G d 33 0 [] [some (aP 0)] [] M Q := aE_go s2_pu_ok [] 258 hd h
