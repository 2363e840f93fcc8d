/-! SYSTEM 2: its blocks, read off: what is asked of a state for a block to run on (by program) -/
-- 0: DioceseBookModel.in(JJJ)Z
set_option maxRecDepth 100000 in
set_option maxHeartbeats 4000000 in
theorem s2_in_0 {d : Nat} (hd : 3 < d) {M : AM} {Q : Option AV → AM → Prop} {x0 x2 x4 : Int}
    (h : ((a_cmp x0 x2) < (0 : Int) → ((0 : Int) = 0 ∨ (0 : Int) = 1) ∧ Q (some (aI 0)) M) ∧ ((0 : Int) ≤ (a_cmp x0 x2) → ((0 : Int) < (a_cmp x0 x4) → ((0 : Int) = 0 ∨ (0 : Int) = 1) ∧ Q (some (aI 0)) M) ∧ ((a_cmp x0 x4) ≤ (0 : Int) → ((1 : Int) = 0 ∨ (1 : Int) = 1) ∧ Q (some (aI 1)) M))) :
    aE s2_G d 0 0 [] [some (aL x0), none, some (aL x2), none, some (aL x4), none] [] M Q := aE_go s2_pu_ok [] 90 hd h

-- 1: DioceseBookModel.bit(Z)I
set_option maxRecDepth 100000 in
set_option maxHeartbeats 4000000 in
theorem s2_bit_0 {d : Nat} (hd : 3 < d) {M : AM} {Q : Option AV → AM → Prop} {x0 : Int}
    (h : (x0 = (0 : Int) → Q (some (aI 0)) M) ∧ (x0 ≠ (0 : Int) → Q (some (aI 1)) M)) :
    aE s2_G d 1 0 [] [some (aI x0)] [] M Q := aE_go s2_pu_ok [] 74 hd h

-- 2: DioceseBookModel.size(I)I
set_option maxRecDepth 100000 in
set_option maxHeartbeats 4000000 in
theorem s2_size_0 {d : Nat} (hd : 3 < d) {M : AM} {Q : Option AV → AM → Prop} {x0 : Int}
    (h : ((0 : Int) ≤ x0 → Q (some (aI x0)) M) ∧ (x0 < (0 : Int) → Q (some (aI (a_sub 0 x0))) M)) :
    aE s2_G d 2 0 [] [some (aI x0)] [] M Q := aE_go s2_pu_ok [] 78 hd h

-- 3: DioceseBookModel.noPerson(I)Z
set_option maxRecDepth 100000 in
set_option maxHeartbeats 4000000 in
theorem s2_noPerson_0 {d : Nat} (hd : 3 < d) {M : AM} {Q : Option AV → AM → Prop} {x1 : Int}
    (h : ((a_bl (0 ≤ x1 ∧ x1 ≤ (a_sub (M 0 1) 1))) ≠ (0 : Int) → ((0 : Int) = 0 ∨ (0 : Int) = 1) ∧ Q (some (aI 0)) M) ∧ ((a_bl (0 ≤ x1 ∧ x1 ≤ (a_sub (M 0 1) 1))) = (0 : Int) → ((1 : Int) = 0 ∨ (1 : Int) = 1) ∧ Q (some (aI 1)) M)) :
    aE s2_G d 3 0 [] [some (aP 0), some (aI x1)] [] M Q := aE_go s2_pu_ok [] 90 hd h

-- 4: DioceseBookModel.noLiving(I)Z
set_option maxRecDepth 100000 in
set_option maxHeartbeats 4000000 in
theorem s2_noLiving_0 {d : Nat} (hd : 3 < d) {M : AM} {Q : Option AV → AM → Prop} {x1 : Int}
    (h : ((a_bl (0 ≤ x1 ∧ x1 ≤ (a_sub (M 0 3) 1))) ≠ (0 : Int) → ((0 : Int) = 0 ∨ (0 : Int) = 1) ∧ Q (some (aI 0)) M) ∧ ((a_bl (0 ≤ x1 ∧ x1 ≤ (a_sub (M 0 3) 1))) = (0 : Int) → ((1 : Int) = 0 ∨ (1 : Int) = 1) ∧ Q (some (aI 1)) M)) :
    aE s2_G d 4 0 [] [some (aP 0), some (aI x1)] [] M Q := aE_go s2_pu_ok [] 90 hd h

-- 5: DioceseBookModel.isDay(I)Z
set_option maxRecDepth 100000 in
set_option maxHeartbeats 4000000 in
theorem s2_isDay_0 {d : Nat} (hd : 3 < d) {M : AM} {Q : Option AV → AM → Prop} {x0 : Int}
    (h : ((a_bl (0 ≤ x0 ∧ x0 ≤ 30000)) = 0 ∨ (a_bl (0 ≤ x0 ∧ x0 ≤ 30000)) = 1) ∧ Q (some (aI (a_bl (0 ≤ x0 ∧ x0 ≤ 30000)))) M) :
    aE s2_G d 5 0 [] [some (aI x0)] [] M Q := aE_go s2_pu_ok [] 72 hd h

-- 6: DioceseBookModel.isKnown(I)Z
set_option maxRecDepth 100000 in
set_option maxHeartbeats 4000000 in
theorem s2_isKnown_0 {d : Nat} (hd : 3 < d) {M : AM} {Q : Option AV → AM → Prop} {x1 : Int}
    (h : ((a_bl (0 ≤ x1 ∧ x1 ≤ (M 0 0))) = 0 ∨ (a_bl (0 ≤ x1 ∧ x1 ≤ (M 0 0))) = 1) ∧ Q (some (aI (a_bl (0 ≤ x1 ∧ x1 ≤ (M 0 0))))) M) :
    aE s2_G d 6 0 [] [some (aP 0), some (aI x1)] [] M Q := aE_go s2_pu_ok [] 76 hd h

-- 7: DioceseBookModel.go(I)I
set_option maxRecDepth 100000 in
set_option maxHeartbeats 4000000 in
theorem s2_go_0 {d : Nat} (hd : 3 < d) {M : AM} {Q : Option AV → AM → Prop} {x1 : Int}
    (h : ((a_bl (0 ≤ x1 ∧ x1 ≤ 9999)) ≠ (0 : Int) → ((a_add (M 0 0) x1) ≤ (30000 : Int) → Q (some (aI ((am_up M 0 0 (a_add (M 0 0) x1)) 0 0))) (am_up M 0 0 (a_add (M 0 0) x1))) ∧ ((30000 : Int) < (a_add (M 0 0) x1) → Q (some (aI (-100003))) M)) ∧ ((a_bl (0 ≤ x1 ∧ x1 ≤ 9999)) = (0 : Int) → Q (some (aI (-100002))) M)) :
    aE s2_G d 7 0 [] [some (aP 0), some (aI x1)] [] M Q := aE_go s2_pu_ok [] 110 hd h

-- 8: DioceseBookModel.person(I)I
set_option maxRecDepth 100000 in
set_option maxHeartbeats 4000000 in
theorem s2_person_0 {d : Nat} (hd : 3 < d) {M : AM} {Q : Option AV → AM → Prop} {x1 : Int}
    (h : ((a_bl (0 ≤ x1 ∧ x1 ≤ 9999)) ≠ (0 : Int) → ((M 0 1) ≠ (40 : Int) → (0 ≤ (M 0 1) ∧ (M 0 1) < 40) ∧ (Q (some (aI (a_sub ((am_up (am_up M 1 (M 0 1) x1) 0 1 (a_add ((am_up M 1 (M 0 1) x1) 0 1) 1)) 0 1) 1))) (am_up (am_up M 1 (M 0 1) x1) 0 1 (a_add ((am_up M 1 (M 0 1) x1) 0 1) 1)))) ∧ ((M 0 1) = (40 : Int) → Q (some (aI (-100004))) M)) ∧ ((a_bl (0 ≤ x1 ∧ x1 ≤ 9999)) = (0 : Int) → Q (some (aI (-100002))) M)) :
    aE s2_G d 8 0 [] [some (aP 0), some (aI x1)] [] M Q := aE_go s2_pu_ok [] 122 hd h

-- 9: DioceseBookModel.living(III)I
set_option maxRecDepth 100000 in
set_option maxHeartbeats 4000000 in
theorem s2_living_0 {d : Nat} (hd : 3 < d) {M : AM} {Q : Option AV → AM → Prop} {x1 x2 x3 : Int}
    (h : ((a_bl ((-50) ≤ x1 ∧ x1 ≤ 50)) = (0 : Int) → Q (some (aI (-100002))) M) ∧ ((a_bl ((-50) ≤ x1 ∧ x1 ≤ 50)) ≠ (0 : Int) → ((a_bl ((-50) ≤ x2 ∧ x2 ≤ 50)) = (0 : Int) → Q (some (aI (-100002))) M) ∧ ((a_bl ((-50) ≤ x2 ∧ x2 ≤ 50)) ≠ (0 : Int) → ((a_bl (0 ≤ x3 ∧ x3 ≤ 999)) ≠ (0 : Int) → ((M 0 3) ≠ (12 : Int) → (0 ≤ (M 0 3) ∧ (M 0 3) < 12) ∧ ((0 ≤ ((am_up M 2 (M 0 3) x1) 0 3) ∧ ((am_up M 2 (M 0 3) x1) 0 3) < 12) ∧ ((0 ≤ ((am_up (am_up M 2 (M 0 3) x1) 3 ((am_up M 2 (M 0 3) x1) 0 3) x2) 0 3) ∧ ((am_up (am_up M 2 (M 0 3) x1) 3 ((am_up M 2 (M 0 3) x1) 0 3) x2) 0 3) < 12) ∧ (Q (some (aI (a_sub ((am_up (am_up (am_up (am_up M 2 (M 0 3) x1) 3 ((am_up M 2 (M 0 3) x1) 0 3) x2) 4 ((am_up (am_up M 2 (M 0 3) x1) 3 ((am_up M 2 (M 0 3) x1) 0 3) x2) 0 3) x3) 0 3 (a_add ((am_up (am_up (am_up M 2 (M 0 3) x1) 3 ((am_up M 2 (M 0 3) x1) 0 3) x2) 4 ((am_up (am_up M 2 (M 0 3) x1) 3 ((am_up M 2 (M 0 3) x1) 0 3) x2) 0 3) x3) 0 3) 1)) 0 3) 1))) (am_up (am_up (am_up (am_up M 2 (M 0 3) x1) 3 ((am_up M 2 (M 0 3) x1) 0 3) x2) 4 ((am_up (am_up M 2 (M 0 3) x1) 3 ((am_up M 2 (M 0 3) x1) 0 3) x2) 0 3) x3) 0 3 (a_add ((am_up (am_up (am_up M 2 (M 0 3) x1) 3 ((am_up M 2 (M 0 3) x1) 0 3) x2) 4 ((am_up (am_up M 2 (M 0 3) x1) 3 ((am_up M 2 (M 0 3) x1) 0 3) x2) 0 3) x3) 0 3) 1)))))) ∧ ((M 0 3) = (12 : Int) → Q (some (aI (-100004))) M)) ∧ ((a_bl (0 ≤ x3 ∧ x3 ≤ 999)) = (0 : Int) → Q (some (aI (-100002))) M)))) :
    aE s2_G d 9 0 [] [some (aP 0), some (aI x1), some (aI x2), some (aI x3)] [] M Q := aE_go s2_pu_ok [] 178 hd h

-- 10: DioceseBookModel.miles(II)I
set_option maxRecDepth 100000 in
set_option maxHeartbeats 4000000 in
theorem s2_miles_0 {d : Nat} (hd : 3 < d) {M : AM} {Q : Option AV → AM → Prop} {x1 x2 : Int}
    (h : (0 ≤ x1 ∧ x1 < 12) ∧ ((0 ≤ x2 ∧ x2 < 12) ∧ ((0 ≤ x1 ∧ x1 < 12) ∧ ((0 ≤ x2 ∧ x2 < 12) ∧ (Q (some (aI (a_add (if (a_sub (M 2 x1) (M 2 x2)) < 0 then a_sub 0 (a_sub (M 2 x1) (M 2 x2)) else a_sub (M 2 x1) (M 2 x2)) (if (a_sub (M 3 x1) (M 3 x2)) < 0 then a_sub 0 (a_sub (M 3 x1) (M 3 x2)) else a_sub (M 3 x1) (M 3 x2))))) M))))) :
    aE s2_G d 10 0 [] [some (aP 0), some (aI x1), some (aI x2)] [] M Q := aE_go s2_pu_ok [] 104 hd h

-- 11: DioceseBookModel.set(III)I
set_option maxRecDepth 100000 in
set_option maxHeartbeats 4000000 in
theorem s2_set_0 {d : Nat} (hd : 3 < d) {M : AM} {Q : Option AV → AM → Prop} {x1 x2 x3 : Int}
    (h : ((a_bl (0 ≤ x1 ∧ x1 ≤ 1)) ≠ (0 : Int) → (x1 ≠ (0 : Int) → ((a_bl ¬(0 ≤ x2 ∧ x2 ≤ a_sub (M 0 1) 1)) = (0 : Int) → (x1 ≠ (0 : Int) → ((a_bl (0 ≤ x3 ∧ x3 ≤ 9999)) ≠ (0 : Int) → (x1 ≠ (0 : Int) → (0 ≤ x2 ∧ x2 < 40) ∧ ((x1 ≠ (0 : Int) → (0 ≤ x2 ∧ x2 < 40) ∧ (Q (some (aI (M 1 x2))) (am_up M 1 x2 x3))) ∧ (x1 = (0 : Int) → (0 ≤ x2 ∧ x2 < 12) ∧ (Q (some (aI (M 1 x2))) (am_up M 4 x2 x3))))) ∧ (x1 = (0 : Int) → (0 ≤ x2 ∧ x2 < 12) ∧ ((x1 ≠ (0 : Int) → (0 ≤ x2 ∧ x2 < 40) ∧ (Q (some (aI (M 4 x2))) (am_up M 1 x2 x3))) ∧ (x1 = (0 : Int) → (0 ≤ x2 ∧ x2 < 12) ∧ (Q (some (aI (M 4 x2))) (am_up M 4 x2 x3)))))) ∧ ((a_bl (0 ≤ x3 ∧ x3 ≤ 9999)) = (0 : Int) → Q (some (aI (-100002))) M)) ∧ (x1 = (0 : Int) → ((a_bl (0 ≤ x3 ∧ x3 ≤ 999)) ≠ (0 : Int) → (x1 ≠ (0 : Int) → (0 ≤ x2 ∧ x2 < 40) ∧ ((x1 ≠ (0 : Int) → (0 ≤ x2 ∧ x2 < 40) ∧ (Q (some (aI (M 1 x2))) (am_up M 1 x2 x3))) ∧ (x1 = (0 : Int) → (0 ≤ x2 ∧ x2 < 12) ∧ (Q (some (aI (M 1 x2))) (am_up M 4 x2 x3))))) ∧ (x1 = (0 : Int) → (0 ≤ x2 ∧ x2 < 12) ∧ ((x1 ≠ (0 : Int) → (0 ≤ x2 ∧ x2 < 40) ∧ (Q (some (aI (M 4 x2))) (am_up M 1 x2 x3))) ∧ (x1 = (0 : Int) → (0 ≤ x2 ∧ x2 < 12) ∧ (Q (some (aI (M 4 x2))) (am_up M 4 x2 x3)))))) ∧ ((a_bl (0 ≤ x3 ∧ x3 ≤ 999)) = (0 : Int) → Q (some (aI (-100002))) M))) ∧ ((a_bl ¬(0 ≤ x2 ∧ x2 ≤ a_sub (M 0 1) 1)) ≠ (0 : Int) → Q (some (aI (-100001))) M)) ∧ (x1 = (0 : Int) → ((a_bl ¬(0 ≤ x2 ∧ x2 ≤ a_sub (M 0 3) 1)) = (0 : Int) → (x1 ≠ (0 : Int) → ((a_bl (0 ≤ x3 ∧ x3 ≤ 9999)) ≠ (0 : Int) → (x1 ≠ (0 : Int) → (0 ≤ x2 ∧ x2 < 40) ∧ ((x1 ≠ (0 : Int) → (0 ≤ x2 ∧ x2 < 40) ∧ (Q (some (aI (M 1 x2))) (am_up M 1 x2 x3))) ∧ (x1 = (0 : Int) → (0 ≤ x2 ∧ x2 < 12) ∧ (Q (some (aI (M 1 x2))) (am_up M 4 x2 x3))))) ∧ (x1 = (0 : Int) → (0 ≤ x2 ∧ x2 < 12) ∧ ((x1 ≠ (0 : Int) → (0 ≤ x2 ∧ x2 < 40) ∧ (Q (some (aI (M 4 x2))) (am_up M 1 x2 x3))) ∧ (x1 = (0 : Int) → (0 ≤ x2 ∧ x2 < 12) ∧ (Q (some (aI (M 4 x2))) (am_up M 4 x2 x3)))))) ∧ ((a_bl (0 ≤ x3 ∧ x3 ≤ 9999)) = (0 : Int) → Q (some (aI (-100002))) M)) ∧ (x1 = (0 : Int) → ((a_bl (0 ≤ x3 ∧ x3 ≤ 999)) ≠ (0 : Int) → (x1 ≠ (0 : Int) → (0 ≤ x2 ∧ x2 < 40) ∧ ((x1 ≠ (0 : Int) → (0 ≤ x2 ∧ x2 < 40) ∧ (Q (some (aI (M 1 x2))) (am_up M 1 x2 x3))) ∧ (x1 = (0 : Int) → (0 ≤ x2 ∧ x2 < 12) ∧ (Q (some (aI (M 1 x2))) (am_up M 4 x2 x3))))) ∧ (x1 = (0 : Int) → (0 ≤ x2 ∧ x2 < 12) ∧ ((x1 ≠ (0 : Int) → (0 ≤ x2 ∧ x2 < 40) ∧ (Q (some (aI (M 4 x2))) (am_up M 1 x2 x3))) ∧ (x1 = (0 : Int) → (0 ≤ x2 ∧ x2 < 12) ∧ (Q (some (aI (M 4 x2))) (am_up M 4 x2 x3)))))) ∧ ((a_bl (0 ≤ x3 ∧ x3 ≤ 999)) = (0 : Int) → Q (some (aI (-100002))) M))) ∧ ((a_bl ¬(0 ≤ x2 ∧ x2 ≤ a_sub (M 0 3) 1)) ≠ (0 : Int) → Q (some (aI (-100001))) M))) ∧ ((a_bl (0 ≤ x1 ∧ x1 ≤ 1)) = (0 : Int) → Q (some (aI (-100002))) M)) :
    aE s2_G d 11 0 [] [some (aP 0), some (aI x1), some (aI x2), some (aI x3), none] [] M Q := aE_go s2_pu_ok [] 546 hd h

-- 12: DioceseBookModel.hasL(I)Z
set_option maxRecDepth 100000 in
set_option maxHeartbeats 4000000 in
theorem s2_hasL_0 {d : Nat} (hd : 3 < d) {M : AM} {Q : Option AV → AM → Prop} {x0 : Int}
    (h : (x0 = (3 : Int) → ((1 : Int) = 0 ∨ (1 : Int) = 1) ∧ Q (some (aI 1)) M) ∧ (x0 ≠ (3 : Int) → (x0 = (4 : Int) → ((1 : Int) = 0 ∨ (1 : Int) = 1) ∧ Q (some (aI 1)) M) ∧ (x0 ≠ (4 : Int) → (x0 < (7 : Int) → ((0 : Int) = 0 ∨ (0 : Int) = 1) ∧ Q (some (aI 0)) M) ∧ ((7 : Int) ≤ x0 → ((11 : Int) < x0 → ((0 : Int) = 0 ∨ (0 : Int) = 1) ∧ Q (some (aI 0)) M) ∧ (x0 ≤ (11 : Int) → ((1 : Int) = 0 ∨ (1 : Int) = 1) ∧ Q (some (aI 1)) M))))) :
    aE s2_G d 12 0 [] [some (aI x0)] [] M Q := aE_go s2_pu_ok [] 110 hd h

-- 13: DioceseBookModel.hasP(I)Z
set_option maxRecDepth 100000 in
set_option maxHeartbeats 4000000 in
theorem s2_hasP_0 {d : Nat} (hd : 3 < d) {M : AM} {Q : Option AV → AM → Prop} {x0 : Int}
    (h : ((9 : Int) < x0 → ((0 : Int) = 0 ∨ (0 : Int) = 1) ∧ Q (some (aI 0)) M) ∧ (x0 ≤ (9 : Int) → ((1 : Int) = 0 ∨ (1 : Int) = 1) ∧ Q (some (aI 1)) M)) :
    aE s2_G d 13 0 [] [some (aI x0)] [] M Q := aE_go s2_pu_ok [] 76 hd h

-- 14: DioceseBookModel.hasQ(I)Z
set_option maxRecDepth 100000 in
set_option maxHeartbeats 4000000 in
theorem s2_hasQ_0 {d : Nat} (hd : 3 < d) {M : AM} {Q : Option AV → AM → Prop} {x0 : Int}
    (h : (x0 = (3 : Int) → ((1 : Int) = 0 ∨ (1 : Int) = 1) ∧ Q (some (aI 1)) M) ∧ (x0 ≠ (3 : Int) → (x0 = (6 : Int) → ((1 : Int) = 0 ∨ (1 : Int) = 1) ∧ Q (some (aI 1)) M) ∧ (x0 ≠ (6 : Int) → (x0 = (7 : Int) → ((1 : Int) = 0 ∨ (1 : Int) = 1) ∧ Q (some (aI 1)) M) ∧ (x0 ≠ (7 : Int) → (x0 ≠ (9 : Int) → ((0 : Int) = 0 ∨ (0 : Int) = 1) ∧ Q (some (aI 0)) M) ∧ (x0 = (9 : Int) → ((1 : Int) = 0 ∨ (1 : Int) = 1) ∧ Q (some (aI 1)) M))))) :
    aE s2_G d 14 0 [] [some (aI x0)] [] M Q := aE_go s2_pu_ok [] 112 hd h

-- 15: DioceseBookModel.hasV(I)Z
set_option maxRecDepth 100000 in
set_option maxHeartbeats 4000000 in
theorem s2_hasV_0 {d : Nat} (hd : 3 < d) {M : AM} {Q : Option AV → AM → Prop} {x0 : Int}
    (h : (x0 = (11 : Int) → ((1 : Int) = 0 ∨ (1 : Int) = 1) ∧ Q (some (aI 1)) M) ∧ (x0 ≠ (11 : Int) → (x0 ≠ (12 : Int) → ((0 : Int) = 0 ∨ (0 : Int) = 1) ∧ Q (some (aI 0)) M) ∧ (x0 = (12 : Int) → ((1 : Int) = 0 ∨ (1 : Int) = 1) ∧ Q (some (aI 1)) M))) :
    aE s2_G d 15 0 [] [some (aI x0)] [] M Q := aE_go s2_pu_ok [] 88 hd h

-- 16: DioceseBookModel.paper(IIIIII)I
set_option maxRecDepth 100000 in
set_option maxHeartbeats 4000000 in
theorem s2_paper_0 {d : Nat} (hd : 3 < d) {M : AM} {Q : Option AV → AM → Prop} {x1 x2 x3 x4 x5 x6 : Int}
    (h : ((a_bl (0 ≤ x1 ∧ x1 ≤ 12)) ≠ (0 : Int) → (x1 ≠ (3 : Int) → aE s2_G d 16 39 [] [some (aP 0), some (aI x1), some (aI x2), some (aI x3), some (aI x4), some (aI x5), some (aI x6), none] [] M Q) ∧ (x1 = (3 : Int) → ((a_bl ((-4) ≤ x5 ∧ x5 ≤ (-2))) = (0 : Int) → aE s2_G d 16 39 [] [some (aP 0), some (aI x1), some (aI x2), some (aI x3), some (aI x4), some (aI x5), some (aI x6), none] [] M Q) ∧ ((a_bl ((-4) ≤ x5 ∧ x5 ≤ (-2))) ≠ (0 : Int) → aE s2_G d 16 40 [] [some (aP 0), some (aI x1), some (aI x2), some (aI x3), some (aI x4), some (aI x5), some (aI x6), none] [aI 1] M Q))) ∧ ((a_bl (0 ≤ x1 ∧ x1 ≤ 12)) = (0 : Int) → Q (some (aI (-100002))) M)) :
    aE s2_G d 16 0 [] [some (aP 0), some (aI x1), some (aI x2), some (aI x3), some (aI x4), some (aI x5), some (aI x6), none] [] M Q := aE_go s2_pu_ok [(39, [true, true, true, true, true, true, true, false]), (40, [true, true, true, true, true, true, true, false]), (57, [true, true, true, true, true, true, true, true]), (73, [true, true, true, true, true, true, true, true]), (94, [true, true, true, true, true, true, true, false]), (117, [false, false, false, false, false, false, false, false]), (120, [true, true, true, true, true, true, true, false]), (147, [true, true, true, true, true, true, true, false]), (159, [true, true, true, true, true, true, true, false]), (166, [false, false, false, false, false, false, false, false]), (169, [true, true, true, true, true, true, true, false]), (235, [true, true, false, false, true, true, true, false]), (257, [true, true, false, false, false, true, true, false]), (279, [true, true, false, false, false, false, true, false]), (301, [true, false, false, false, false, false, false, false])] 98 hd h

set_option maxRecDepth 100000 in
set_option maxHeartbeats 4000000 in
theorem s2_paper_39 {d : Nat} (hd : 3 < d) {M : AM} {Q : Option AV → AM → Prop} {x1 x2 x3 x4 x5 x6 : Int}
    (h : aE s2_G d 16 40 [] [some (aP 0), some (aI x1), some (aI x2), some (aI x3), some (aI x4), some (aI x5), some (aI x6), none] [aI 0] M Q) :
    aE s2_G d 16 39 [] [some (aP 0), some (aI x1), some (aI x2), some (aI x3), some (aI x4), some (aI x5), some (aI x6), none] [] M Q := aE_go s2_pu_ok [(39, [true, true, true, true, true, true, true, false]), (40, [true, true, true, true, true, true, true, false]), (57, [true, true, true, true, true, true, true, true]), (73, [true, true, true, true, true, true, true, true]), (94, [true, true, true, true, true, true, true, false]), (117, [false, false, false, false, false, false, false, false]), (120, [true, true, true, true, true, true, true, false]), (147, [true, true, true, true, true, true, true, false]), (159, [true, true, true, true, true, true, true, false]), (166, [false, false, false, false, false, false, false, false]), (169, [true, true, true, true, true, true, true, false]), (235, [true, true, false, false, true, true, true, false]), (257, [true, true, false, false, false, true, true, false]), (279, [true, true, false, false, false, false, true, false]), (301, [true, false, false, false, false, false, false, false])] 62 hd h

set_option maxRecDepth 100000 in
set_option maxHeartbeats 4000000 in
theorem s2_paper_40 {d : Nat} (hd : 3 < d) {M : AM} {Q : Option AV → AM → Prop} {x1 x2 x3 x4 x5 x6 t0 : Int}
    (h : aKi s2_G d 12 [aI x1] M (fun z2 M1 => (z2 = (0 : Int) → aE s2_G d 16 57 [] [some (aP 0), some (aI x1), some (aI x2), some (aI x3), some (aI x4), some (aI x5), some (aI x6), some (aI t0)] [] M1 Q) ∧ (z2 ≠ (0 : Int) → ((a_bl ¬(0 ≤ x3 ∧ x3 ≤ a_sub (M1 0 3) 1)) ≠ (0 : Int) → aE s2_G d 16 117 [] [none, none, none, none, none, none, none, none] [] M1 Q) ∧ ((a_bl ¬(0 ≤ x3 ∧ x3 ≤ a_sub (M1 0 3) 1)) = (0 : Int) → aE s2_G d 16 57 [] [some (aP 0), some (aI x1), some (aI x2), some (aI x3), some (aI x4), some (aI x5), some (aI x6), some (aI t0)] [] M1 Q)))) :
    aE s2_G d 16 40 [] [some (aP 0), some (aI x1), some (aI x2), some (aI x3), some (aI x4), some (aI x5), some (aI x6), none] [aI t0] M Q := aE_go s2_pu_ok [(39, [true, true, true, true, true, true, true, false]), (40, [true, true, true, true, true, true, true, false]), (57, [true, true, true, true, true, true, true, true]), (73, [true, true, true, true, true, true, true, true]), (94, [true, true, true, true, true, true, true, false]), (117, [false, false, false, false, false, false, false, false]), (120, [true, true, true, true, true, true, true, false]), (147, [true, true, true, true, true, true, true, false]), (159, [true, true, true, true, true, true, true, false]), (166, [false, false, false, false, false, false, false, false]), (169, [true, true, true, true, true, true, true, false]), (235, [true, true, false, false, true, true, true, false]), (257, [true, true, false, false, false, true, true, false]), (279, [true, true, false, false, false, false, true, false]), (301, [true, false, false, false, false, false, false, false])] 76 hd h

set_option maxRecDepth 100000 in
set_option maxHeartbeats 4000000 in
theorem s2_paper_57 {d : Nat} (hd : 3 < d) {M : AM} {Q : Option AV → AM → Prop} {x1 x2 x3 x4 x5 x6 x7 : Int}
    (h : aKi s2_G d 13 [aI x1] M (fun z2 M1 => (z2 = (0 : Int) → aE s2_G d 16 73 [] [some (aP 0), some (aI x1), some (aI x2), some (aI x3), some (aI x4), some (aI x5), some (aI x6), some (aI x7)] [] M1 Q) ∧ (z2 ≠ (0 : Int) → ((a_bl ¬(0 ≤ x4 ∧ x4 ≤ a_sub (M1 0 1) 1)) ≠ (0 : Int) → aE s2_G d 16 117 [] [none, none, none, none, none, none, none, none] [] M1 Q) ∧ ((a_bl ¬(0 ≤ x4 ∧ x4 ≤ a_sub (M1 0 1) 1)) = (0 : Int) → aE s2_G d 16 73 [] [some (aP 0), some (aI x1), some (aI x2), some (aI x3), some (aI x4), some (aI x5), some (aI x6), some (aI x7)] [] M1 Q)))) :
    aE s2_G d 16 57 [] [some (aP 0), some (aI x1), some (aI x2), some (aI x3), some (aI x4), some (aI x5), some (aI x6), some (aI x7)] [] M Q := aE_go s2_pu_ok [(39, [true, true, true, true, true, true, true, false]), (40, [true, true, true, true, true, true, true, false]), (57, [true, true, true, true, true, true, true, true]), (73, [true, true, true, true, true, true, true, true]), (94, [true, true, true, true, true, true, true, false]), (117, [false, false, false, false, false, false, false, false]), (120, [true, true, true, true, true, true, true, false]), (147, [true, true, true, true, true, true, true, false]), (159, [true, true, true, true, true, true, true, false]), (166, [false, false, false, false, false, false, false, false]), (169, [true, true, true, true, true, true, true, false]), (235, [true, true, false, false, true, true, true, false]), (257, [true, true, false, false, false, true, true, false]), (279, [true, true, false, false, false, false, true, false]), (301, [true, false, false, false, false, false, false, false])] 74 hd h

set_option maxRecDepth 100000 in
set_option maxHeartbeats 4000000 in
theorem s2_paper_73 {d : Nat} (hd : 3 < d) {M : AM} {Q : Option AV → AM → Prop} {x1 x2 x3 x4 x5 x6 x7 : Int}
    (h : aKi s2_G d 14 [aI x1] M (fun z2 M1 => (z2 = (0 : Int) → aE s2_G d 16 94 [] [some (aP 0), some (aI x1), some (aI x2), some (aI x3), some (aI x4), some (aI x5), some (aI x6), none] [] M1 Q) ∧ (z2 ≠ (0 : Int) → ((a_bl ¬(0 ≤ x5 ∧ x5 ≤ a_sub (M1 0 1) 1)) = (0 : Int) → aE s2_G d 16 94 [] [some (aP 0), some (aI x1), some (aI x2), some (aI x3), some (aI x4), some (aI x5), some (aI x6), none] [] M1 Q) ∧ ((a_bl ¬(0 ≤ x5 ∧ x5 ≤ a_sub (M1 0 1) 1)) ≠ (0 : Int) → (x7 = (0 : Int) → aE s2_G d 16 117 [] [none, none, none, none, none, none, none, none] [] M1 Q) ∧ (x7 ≠ (0 : Int) → aE s2_G d 16 94 [] [some (aP 0), some (aI x1), some (aI x2), some (aI x3), some (aI x4), some (aI x5), some (aI x6), none] [] M1 Q))))) :
    aE s2_G d 16 73 [] [some (aP 0), some (aI x1), some (aI x2), some (aI x3), some (aI x4), some (aI x5), some (aI x6), some (aI x7)] [] M Q := aE_go s2_pu_ok [(39, [true, true, true, true, true, true, true, false]), (40, [true, true, true, true, true, true, true, false]), (57, [true, true, true, true, true, true, true, true]), (73, [true, true, true, true, true, true, true, true]), (94, [true, true, true, true, true, true, true, false]), (117, [false, false, false, false, false, false, false, false]), (120, [true, true, true, true, true, true, true, false]), (147, [true, true, true, true, true, true, true, false]), (159, [true, true, true, true, true, true, true, false]), (166, [false, false, false, false, false, false, false, false]), (169, [true, true, true, true, true, true, true, false]), (235, [true, true, false, false, true, true, true, false]), (257, [true, true, false, false, false, true, true, false]), (279, [true, true, false, false, false, false, true, false]), (301, [true, false, false, false, false, false, false, false])] 78 hd h

set_option maxRecDepth 100000 in
set_option maxHeartbeats 4000000 in
theorem s2_paper_94 {d : Nat} (hd : 3 < d) {M : AM} {Q : Option AV → AM → Prop} {x1 x2 x3 x4 x5 x6 : Int}
    (h : (x1 ≠ (12 : Int) → aE s2_G d 16 120 [] [some (aP 0), some (aI x1), some (aI x2), some (aI x3), some (aI x4), some (aI x5), some (aI x6), none] [] M Q) ∧ (x1 = (12 : Int) → ((a_bl (0 ≤ x6 ∧ x6 ≤ (a_sub (M 0 7) 1))) ≠ (0 : Int) → aE s2_G d 16 120 [] [some (aP 0), some (aI x1), some (aI x2), some (aI x3), some (aI x4), some (aI x5), some (aI x6), none] [] M Q) ∧ ((a_bl (0 ≤ x6 ∧ x6 ≤ (a_sub (M 0 7) 1))) = (0 : Int) → aE s2_G d 16 117 [] [none, none, none, none, none, none, none, none] [] M Q))) :
    aE s2_G d 16 94 [] [some (aP 0), some (aI x1), some (aI x2), some (aI x3), some (aI x4), some (aI x5), some (aI x6), none] [] M Q := aE_go s2_pu_ok [(39, [true, true, true, true, true, true, true, false]), (40, [true, true, true, true, true, true, true, false]), (57, [true, true, true, true, true, true, true, true]), (73, [true, true, true, true, true, true, true, true]), (94, [true, true, true, true, true, true, true, false]), (117, [false, false, false, false, false, false, false, false]), (120, [true, true, true, true, true, true, true, false]), (147, [true, true, true, true, true, true, true, false]), (159, [true, true, true, true, true, true, true, false]), (166, [false, false, false, false, false, false, false, false]), (169, [true, true, true, true, true, true, true, false]), (235, [true, true, false, false, true, true, true, false]), (257, [true, true, false, false, false, true, true, false]), (279, [true, true, false, false, false, false, true, false]), (301, [true, false, false, false, false, false, false, false])] 86 hd h

set_option maxRecDepth 100000 in
set_option maxHeartbeats 4000000 in
theorem s2_paper_117 {d : Nat} (hd : 3 < d) {M : AM} {Q : Option AV → AM → Prop}
    (h : Q (some (aI (-100001))) M) :
    aE s2_G d 16 117 [] [none, none, none, none, none, none, none, none] [] M Q := aE_go s2_pu_ok [(39, [true, true, true, true, true, true, true, false]), (40, [true, true, true, true, true, true, true, false]), (57, [true, true, true, true, true, true, true, true]), (73, [true, true, true, true, true, true, true, true]), (94, [true, true, true, true, true, true, true, false]), (117, [false, false, false, false, false, false, false, false]), (120, [true, true, true, true, true, true, true, false]), (147, [true, true, true, true, true, true, true, false]), (159, [true, true, true, true, true, true, true, false]), (166, [false, false, false, false, false, false, false, false]), (169, [true, true, true, true, true, true, true, false]), (235, [true, true, false, false, true, true, true, false]), (257, [true, true, false, false, false, true, true, false]), (279, [true, true, false, false, false, false, true, false]), (301, [true, false, false, false, false, false, false, false])] 64 hd h

set_option maxRecDepth 100000 in
set_option maxHeartbeats 4000000 in
theorem s2_paper_120 {d : Nat} (hd : 3 < d) {M : AM} {Q : Option AV → AM → Prop} {x1 x2 x3 x4 x5 x6 : Int}
    (h : ((a_bl (0 ≤ x2 ∧ x2 ≤ M 0 0)) = (0 : Int) → aE s2_G d 16 166 [] [none, none, none, none, none, none, none, none] [] M Q) ∧ ((a_bl (0 ≤ x2 ∧ x2 ≤ M 0 0)) ≠ (0 : Int) → (x1 ≠ (11 : Int) → aE s2_G d 16 147 [] [some (aP 0), some (aI x1), some (aI x2), some (aI x3), some (aI x4), some (aI x5), some (aI x6), none] [] M Q) ∧ (x1 = (11 : Int) → ((a_bl (0 ≤ x6 ∧ x6 ≤ 9999)) = (0 : Int) → aE s2_G d 16 166 [] [none, none, none, none, none, none, none, none] [] M Q) ∧ ((a_bl (0 ≤ x6 ∧ x6 ≤ 9999)) ≠ (0 : Int) → aE s2_G d 16 147 [] [some (aP 0), some (aI x1), some (aI x2), some (aI x3), some (aI x4), some (aI x5), some (aI x6), none] [] M Q)))) :
    aE s2_G d 16 120 [] [some (aP 0), some (aI x1), some (aI x2), some (aI x3), some (aI x4), some (aI x5), some (aI x6), none] [] M Q := aE_go s2_pu_ok [(39, [true, true, true, true, true, true, true, false]), (40, [true, true, true, true, true, true, true, false]), (57, [true, true, true, true, true, true, true, true]), (73, [true, true, true, true, true, true, true, true]), (94, [true, true, true, true, true, true, true, false]), (117, [false, false, false, false, false, false, false, false]), (120, [true, true, true, true, true, true, true, false]), (147, [true, true, true, true, true, true, true, false]), (159, [true, true, true, true, true, true, true, false]), (166, [false, false, false, false, false, false, false, false]), (169, [true, true, true, true, true, true, true, false]), (235, [true, true, false, false, true, true, true, false]), (257, [true, true, false, false, false, true, true, false]), (279, [true, true, false, false, false, false, true, false]), (301, [true, false, false, false, false, false, false, false])] 86 hd h

set_option maxRecDepth 100000 in
set_option maxHeartbeats 4000000 in
theorem s2_paper_147 {d : Nat} (hd : 3 < d) {M : AM} {Q : Option AV → AM → Prop} {x1 x2 x3 x4 x5 x6 : Int}
    (h : (x1 = (6 : Int) → aE s2_G d 16 159 [] [some (aP 0), some (aI x1), some (aI x2), some (aI x3), some (aI x4), some (aI x5), some (aI x6), none] [] M Q) ∧ (x1 ≠ (6 : Int) → (x1 ≠ (7 : Int) → aE s2_G d 16 169 [] [some (aP 0), some (aI x1), some (aI x2), some (aI x3), some (aI x4), some (aI x5), some (aI x6), none] [] M Q) ∧ (x1 = (7 : Int) → aE s2_G d 16 159 [] [some (aP 0), some (aI x1), some (aI x2), some (aI x3), some (aI x4), some (aI x5), some (aI x6), none] [] M Q))) :
    aE s2_G d 16 147 [] [some (aP 0), some (aI x1), some (aI x2), some (aI x3), some (aI x4), some (aI x5), some (aI x6), none] [] M Q := aE_go s2_pu_ok [(39, [true, true, true, true, true, true, true, false]), (40, [true, true, true, true, true, true, true, false]), (57, [true, true, true, true, true, true, true, true]), (73, [true, true, true, true, true, true, true, true]), (94, [true, true, true, true, true, true, true, false]), (117, [false, false, false, false, false, false, false, false]), (120, [true, true, true, true, true, true, true, false]), (147, [true, true, true, true, true, true, true, false]), (159, [true, true, true, true, true, true, true, false]), (166, [false, false, false, false, false, false, false, false]), (169, [true, true, true, true, true, true, true, false]), (235, [true, true, false, false, true, true, true, false]), (257, [true, true, false, false, false, true, true, false]), (279, [true, true, false, false, false, false, true, false]), (301, [true, false, false, false, false, false, false, false])] 72 hd h

set_option maxRecDepth 100000 in
set_option maxHeartbeats 4000000 in
theorem s2_paper_159 {d : Nat} (hd : 3 < d) {M : AM} {Q : Option AV → AM → Prop} {x1 x2 x3 x4 x5 x6 : Int}
    (h : (x4 ≠ x5 → aE s2_G d 16 169 [] [some (aP 0), some (aI x1), some (aI x2), some (aI x3), some (aI x4), some (aI x5), some (aI x6), none] [] M Q) ∧ (x4 = x5 → aE s2_G d 16 166 [] [none, none, none, none, none, none, none, none] [] M Q)) :
    aE s2_G d 16 159 [] [some (aP 0), some (aI x1), some (aI x2), some (aI x3), some (aI x4), some (aI x5), some (aI x6), none] [] M Q := aE_go s2_pu_ok [(39, [true, true, true, true, true, true, true, false]), (40, [true, true, true, true, true, true, true, false]), (57, [true, true, true, true, true, true, true, true]), (73, [true, true, true, true, true, true, true, true]), (94, [true, true, true, true, true, true, true, false]), (117, [false, false, false, false, false, false, false, false]), (120, [true, true, true, true, true, true, true, false]), (147, [true, true, true, true, true, true, true, false]), (159, [true, true, true, true, true, true, true, false]), (166, [false, false, false, false, false, false, false, false]), (169, [true, true, true, true, true, true, true, false]), (235, [true, true, false, false, true, true, true, false]), (257, [true, true, false, false, false, true, true, false]), (279, [true, true, false, false, false, false, true, false]), (301, [true, false, false, false, false, false, false, false])] 66 hd h

set_option maxRecDepth 100000 in
set_option maxHeartbeats 4000000 in
theorem s2_paper_166 {d : Nat} (hd : 3 < d) {M : AM} {Q : Option AV → AM → Prop}
    (h : Q (some (aI (-100002))) M) :
    aE s2_G d 16 166 [] [none, none, none, none, none, none, none, none] [] M Q := aE_go s2_pu_ok [(39, [true, true, true, true, true, true, true, false]), (40, [true, true, true, true, true, true, true, false]), (57, [true, true, true, true, true, true, true, true]), (73, [true, true, true, true, true, true, true, true]), (94, [true, true, true, true, true, true, true, false]), (117, [false, false, false, false, false, false, false, false]), (120, [true, true, true, true, true, true, true, false]), (147, [true, true, true, true, true, true, true, false]), (159, [true, true, true, true, true, true, true, false]), (166, [false, false, false, false, false, false, false, false]), (169, [true, true, true, true, true, true, true, false]), (235, [true, true, false, false, true, true, true, false]), (257, [true, true, false, false, false, true, true, false]), (279, [true, true, false, false, false, false, true, false]), (301, [true, false, false, false, false, false, false, false])] 64 hd h

set_option maxRecDepth 100000 in
set_option maxHeartbeats 4000000 in
theorem s2_paper_169 {d : Nat} (hd : 3 < d) {M : AM} {Q : Option AV → AM → Prop} {x1 x2 x3 x4 x5 x6 : Int}
    (h : ((M 0 7) ≠ (150 : Int) → (0 ≤ (M 0 7) ∧ (M 0 7) < 150) ∧ ((0 ≤ ((am_up M 5 (M 0 7) x1) 0 7) ∧ ((am_up M 5 (M 0 7) x1) 0 7) < 150) ∧ ((0 ≤ ((am_up (am_up M 5 (M 0 7) x1) 6 ((am_up M 5 (M 0 7) x1) 0 7) x2) 0 7) ∧ ((am_up (am_up M 5 (M 0 7) x1) 6 ((am_up M 5 (M 0 7) x1) 0 7) x2) 0 7) < 150) ∧ (aKi s2_G d 12 [aI x1] (am_up (am_up (am_up M 5 (M 0 7) x1) 6 ((am_up M 5 (M 0 7) x1) 0 7) x2) 7 ((am_up (am_up M 5 (M 0 7) x1) 6 ((am_up M 5 (M 0 7) x1) 0 7) x2) 0 7) ((am_up (am_up M 5 (M 0 7) x1) 6 ((am_up M 5 (M 0 7) x1) 0 7) x2) 0 0)) (fun z2 M1 => (z2 = (0 : Int) → aE s2_G d 16 235 [] [some (aP 0), some (aI x1), none, none, some (aI x4), some (aI x5), some (aI x6), none] [aI (-1), aI ((am_up (am_up (am_up M 5 (M 0 7) x1) 6 ((am_up M 5 (M 0 7) x1) 0 7) x2) 7 ((am_up (am_up M 5 (M 0 7) x1) 6 ((am_up M 5 (M 0 7) x1) 0 7) x2) 0 7) ((am_up (am_up M 5 (M 0 7) x1) 6 ((am_up M 5 (M 0 7) x1) 0 7) x2) 0 0)) 0 7), aP 8] M1 Q) ∧ (z2 ≠ (0 : Int) → aE s2_G d 16 235 [] [some (aP 0), some (aI x1), none, none, some (aI x4), some (aI x5), some (aI x6), none] [aI x3, aI ((am_up (am_up (am_up M 5 (M 0 7) x1) 6 ((am_up M 5 (M 0 7) x1) 0 7) x2) 7 ((am_up (am_up M 5 (M 0 7) x1) 6 ((am_up M 5 (M 0 7) x1) 0 7) x2) 0 7) ((am_up (am_up M 5 (M 0 7) x1) 6 ((am_up M 5 (M 0 7) x1) 0 7) x2) 0 0)) 0 7), aP 8] M1 Q)))))) ∧ ((M 0 7) = (150 : Int) → Q (some (aI (-100004))) M)) :
    aE s2_G d 16 169 [] [some (aP 0), some (aI x1), some (aI x2), some (aI x3), some (aI x4), some (aI x5), some (aI x6), none] [] M Q := aE_go s2_pu_ok [(39, [true, true, true, true, true, true, true, false]), (40, [true, true, true, true, true, true, true, false]), (57, [true, true, true, true, true, true, true, true]), (73, [true, true, true, true, true, true, true, true]), (94, [true, true, true, true, true, true, true, false]), (117, [false, false, false, false, false, false, false, false]), (120, [true, true, true, true, true, true, true, false]), (147, [true, true, true, true, true, true, true, false]), (159, [true, true, true, true, true, true, true, false]), (166, [false, false, false, false, false, false, false, false]), (169, [true, true, true, true, true, true, true, false]), (235, [true, true, false, false, true, true, true, false]), (257, [true, true, false, false, false, true, true, false]), (279, [true, true, false, false, false, false, true, false]), (301, [true, false, false, false, false, false, false, false])] 130 hd h

set_option maxRecDepth 100000 in
set_option maxHeartbeats 4000000 in
theorem s2_paper_235 {d : Nat} (hd : 3 < d) {M : AM} {Q : Option AV → AM → Prop} {x1 x4 x5 x6 t0 t1 : Int}
    (h : (0 ≤ t1 ∧ t1 < 150) ∧ (aKi s2_G d 13 [aI x1] (am_up M 8 t1 t0) (fun z2 M1 => (z2 = (0 : Int) → aE s2_G d 16 257 [] [some (aP 0), some (aI x1), none, none, none, some (aI x5), some (aI x6), none] [aI (-1), aI ((am_up M 8 t1 t0) 0 7), aP 9] M1 Q) ∧ (z2 ≠ (0 : Int) → aE s2_G d 16 257 [] [some (aP 0), some (aI x1), none, none, none, some (aI x5), some (aI x6), none] [aI x4, aI ((am_up M 8 t1 t0) 0 7), aP 9] M1 Q)))) :
    aE s2_G d 16 235 [] [some (aP 0), some (aI x1), none, none, some (aI x4), some (aI x5), some (aI x6), none] [aI t0, aI t1, aP 8] M Q := aE_go s2_pu_ok [(39, [true, true, true, true, true, true, true, false]), (40, [true, true, true, true, true, true, true, false]), (57, [true, true, true, true, true, true, true, true]), (73, [true, true, true, true, true, true, true, true]), (94, [true, true, true, true, true, true, true, false]), (117, [false, false, false, false, false, false, false, false]), (120, [true, true, true, true, true, true, true, false]), (147, [true, true, true, true, true, true, true, false]), (159, [true, true, true, true, true, true, true, false]), (166, [false, false, false, false, false, false, false, false]), (169, [true, true, true, true, true, true, true, false]), (235, [true, true, false, false, true, true, true, false]), (257, [true, true, false, false, false, true, true, false]), (279, [true, true, false, false, false, false, true, false]), (301, [true, false, false, false, false, false, false, false])] 82 hd h

set_option maxRecDepth 100000 in
set_option maxHeartbeats 4000000 in
theorem s2_paper_257 {d : Nat} (hd : 3 < d) {M : AM} {Q : Option AV → AM → Prop} {x1 x5 x6 t0 t1 : Int}
    (h : (0 ≤ t1 ∧ t1 < 150) ∧ (aKi s2_G d 14 [aI x1] (am_up M 9 t1 t0) (fun z2 M1 => (z2 = (0 : Int) → aE s2_G d 16 279 [] [some (aP 0), some (aI x1), none, none, none, none, some (aI x6), none] [aI (-1), aI ((am_up M 9 t1 t0) 0 7), aP 10] M1 Q) ∧ (z2 ≠ (0 : Int) → aE s2_G d 16 279 [] [some (aP 0), some (aI x1), none, none, none, none, some (aI x6), none] [aI x5, aI ((am_up M 9 t1 t0) 0 7), aP 10] M1 Q)))) :
    aE s2_G d 16 257 [] [some (aP 0), some (aI x1), none, none, none, some (aI x5), some (aI x6), none] [aI t0, aI t1, aP 9] M Q := aE_go s2_pu_ok [(39, [true, true, true, true, true, true, true, false]), (40, [true, true, true, true, true, true, true, false]), (57, [true, true, true, true, true, true, true, true]), (73, [true, true, true, true, true, true, true, true]), (94, [true, true, true, true, true, true, true, false]), (117, [false, false, false, false, false, false, false, false]), (120, [true, true, true, true, true, true, true, false]), (147, [true, true, true, true, true, true, true, false]), (159, [true, true, true, true, true, true, true, false]), (166, [false, false, false, false, false, false, false, false]), (169, [true, true, true, true, true, true, true, false]), (235, [true, true, false, false, true, true, true, false]), (257, [true, true, false, false, false, true, true, false]), (279, [true, true, false, false, false, false, true, false]), (301, [true, false, false, false, false, false, false, false])] 82 hd h

set_option maxRecDepth 100000 in
set_option maxHeartbeats 4000000 in
theorem s2_paper_279 {d : Nat} (hd : 3 < d) {M : AM} {Q : Option AV → AM → Prop} {x1 x6 t0 t1 : Int}
    (h : (0 ≤ t1 ∧ t1 < 150) ∧ (aKi s2_G d 15 [aI x1] (am_up M 10 t1 t0) (fun z2 M1 => (z2 = (0 : Int) → aE s2_G d 16 301 [] [some (aP 0), none, none, none, none, none, none, none] [aI (-1), aI ((am_up M 10 t1 t0) 0 7), aP 11] M1 Q) ∧ (z2 ≠ (0 : Int) → aE s2_G d 16 301 [] [some (aP 0), none, none, none, none, none, none, none] [aI x6, aI ((am_up M 10 t1 t0) 0 7), aP 11] M1 Q)))) :
    aE s2_G d 16 279 [] [some (aP 0), some (aI x1), none, none, none, none, some (aI x6), none] [aI t0, aI t1, aP 10] M Q := aE_go s2_pu_ok [(39, [true, true, true, true, true, true, true, false]), (40, [true, true, true, true, true, true, true, false]), (57, [true, true, true, true, true, true, true, true]), (73, [true, true, true, true, true, true, true, true]), (94, [true, true, true, true, true, true, true, false]), (117, [false, false, false, false, false, false, false, false]), (120, [true, true, true, true, true, true, true, false]), (147, [true, true, true, true, true, true, true, false]), (159, [true, true, true, true, true, true, true, false]), (166, [false, false, false, false, false, false, false, false]), (169, [true, true, true, true, true, true, true, false]), (235, [true, true, false, false, true, true, true, false]), (257, [true, true, false, false, false, true, true, false]), (279, [true, true, false, false, false, false, true, false]), (301, [true, false, false, false, false, false, false, false])] 82 hd h

set_option maxRecDepth 100000 in
set_option maxHeartbeats 4000000 in
theorem s2_paper_301 {d : Nat} (hd : 3 < d) {M : AM} {Q : Option AV → AM → Prop} {t0 t1 : Int}
    (h : (0 ≤ t1 ∧ t1 < 150) ∧ (Q (some (aI (a_sub ((am_up (am_up M 11 t1 t0) 0 7 (a_add ((am_up M 11 t1 t0) 0 7) 1)) 0 7) 1))) (am_up (am_up M 11 t1 t0) 0 7 (a_add ((am_up M 11 t1 t0) 0 7) 1)))) :
    aE s2_G d 16 301 [] [some (aP 0), none, none, none, none, none, none, none] [aI t0, aI t1, aP 11] M Q := aE_go s2_pu_ok [(39, [true, true, true, true, true, true, true, false]), (40, [true, true, true, true, true, true, true, false]), (57, [true, true, true, true, true, true, true, true]), (73, [true, true, true, true, true, true, true, true]), (94, [true, true, true, true, true, true, true, false]), (117, [false, false, false, false, false, false, false, false]), (120, [true, true, true, true, true, true, true, false]), (147, [true, true, true, true, true, true, true, false]), (159, [true, true, true, true, true, true, true, false]), (166, [false, false, false, false, false, false, false, false]), (169, [true, true, true, true, true, true, true, false]), (235, [true, true, false, false, true, true, true, false]), (257, [true, true, false, false, false, true, true, false]), (279, [true, true, false, false, false, false, true, false]), (301, [true, false, false, false, false, false, false, false])] 84 hd h
