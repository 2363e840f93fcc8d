/-! SYSTEM 2: its blocks, read off: what is asked of a state for a block to run on (by program) -/
-- 66: DioceseBookModel.die(I)V
set_option maxRecDepth 100000 in
set_option maxHeartbeats 4000000 in
theorem s2_die_0 {d : Nat} (hd : 3 < d) {M : AM} {Q : Option AV → AM → Prop} {x1 : Int}
    (h : aE s2_G d 66 2 [] [some (aP 0), some (aI x1), some (aI 0)] [] M Q) :
    aE s2_G d 66 0 [] [some (aP 0), some (aI x1), none] [] M Q := aE_go s2_pu_ok [(2, [true, true, true])] 64 hd h

set_option maxRecDepth 100000 in
set_option maxHeartbeats 4000000 in
theorem s2_die_2 {d : Nat} (hd : 3 < d) {M : AM} {Q : Option AV → AM → Prop} {x1 x2 : Int}
    (h : ((M 0 3) ≤ x2 → Q none M) ∧ (x2 < (M 0 3) → (0 ≤ x1 ∧ x1 < 150) ∧ (aKv s2_G d 53 [aP 0, aI x2, aI (M 9 x1), aI 1, aI x1] M (fun M1 => aE s2_G d 66 2 [] [some (aP 0), some (aI x1), some (aI (a_add x2 1))] [] M1 Q)))) :
    aE s2_G d 66 2 [] [some (aP 0), some (aI x1), some (aI x2)] [] M Q := aE_go s2_pu_ok [(2, [true, true, true])] 92 hd h

-- 67: DioceseBookModel.lay(III)V
set_option maxRecDepth 100000 in
set_option maxHeartbeats 4000000 in
theorem s2_lay_0 {d : Nat} (hd : 3 < d) {M : AM} {Q : Option AV → AM → Prop} {x1 x2 x3 : Int}
    (h : (0 ≤ x1 ∧ x1 < 12) ∧ ((0 ≤ x1 ∧ x1 < 12) ∧ ((0 ≤ x1 ∧ x1 < 12) ∧ (Q none (am_up (am_up (am_up M 31 x1 x2) 32 x1 x3) 33 x1 0))))) :
    aE s2_G d 67 0 [] [some (aP 0), some (aI x1), some (aI x2), some (aI x3)] [] M Q := aE_go s2_pu_ok [] 92 hd h

-- 68: DioceseBookModel.befall(I)V
set_option maxRecDepth 100000 in
set_option maxHeartbeats 4000000 in
theorem s2_befall_0 {d : Nat} (hd : 3 < d) {M : AM} {Q : Option AV → AM → Prop} {x1 : Int}
    (h : (0 ≤ x1 ∧ x1 < 150) ∧ ((((M 5 x1) = 1 → aKv s2_G d 66 [aP 0, aI x1] M (fun M1 => Q none M1)) ∧ ((M 5 x1) = 2 → Q none M) ∧ ((M 5 x1) = 3 → aKv s2_G d 65 [aP 0, aI x1] M (fun M2 => Q none M2)) ∧ ((M 5 x1) = 4 → (0 ≤ x1 ∧ x1 < 150) ∧ ((0 ≤ x1 ∧ x1 < 150) ∧ (aKv s2_G d 53 [aP 0, aI (M 8 x1), aI (M 9 x1), aI 2, aI x1] M (fun M3 => Q none M3)))) ∧ ((M 5 x1) = 5 → Q none M) ∧ ((M 5 x1) = 6 → Q none M) ∧ ((M 5 x1) = 7 → (0 ≤ x1 ∧ x1 < 150) ∧ ((0 ≤ x1 ∧ x1 < 150) ∧ ((0 ≤ x1 ∧ x1 < 150) ∧ (aKv s2_G d 67 [aP 0, aI (M 8 x1), aI (M 9 x1), aI (M 10 x1)] M (fun M4 => Q none M4))))) ∧ ((M 5 x1) = 8 → (0 ≤ x1 ∧ x1 < 150) ∧ ((0 ≤ x1 ∧ x1 < 150) ∧ (aKv s2_G d 67 [aP 0, aI (M 8 x1), aI (M 9 x1), aI (-1)] M (fun M5 => Q none M5)))) ∧ ((M 5 x1) = 9 → (0 ≤ x1 ∧ x1 < 150) ∧ ((0 ≤ (M 0 52) ∧ (M 0 52) < 150) ∧ ((0 ≤ x1 ∧ x1 < 150) ∧ ((0 ≤ ((am_up M 35 (M 0 52) (M 8 x1)) 0 52) ∧ ((am_up M 35 (M 0 52) (M 8 x1)) 0 52) < 150) ∧ ((0 ≤ x1 ∧ x1 < 150) ∧ ((0 ≤ ((am_up (am_up M 35 (M 0 52) (M 8 x1)) 36 ((am_up M 35 (M 0 52) (M 8 x1)) 0 52) ((am_up M 35 (M 0 52) (M 8 x1)) 9 x1)) 0 52) ∧ ((am_up (am_up M 35 (M 0 52) (M 8 x1)) 36 ((am_up M 35 (M 0 52) (M 8 x1)) 0 52) ((am_up M 35 (M 0 52) (M 8 x1)) 9 x1)) 0 52) < 150) ∧ ((0 ≤ ((am_up (am_up (am_up M 35 (M 0 52) (M 8 x1)) 36 ((am_up M 35 (M 0 52) (M 8 x1)) 0 52) ((am_up M 35 (M 0 52) (M 8 x1)) 9 x1)) 37 ((am_up (am_up M 35 (M 0 52) (M 8 x1)) 36 ((am_up M 35 (M 0 52) (M 8 x1)) 0 52) ((am_up M 35 (M 0 52) (M 8 x1)) 9 x1)) 0 52) ((am_up (am_up M 35 (M 0 52) (M 8 x1)) 36 ((am_up M 35 (M 0 52) (M 8 x1)) 0 52) ((am_up M 35 (M 0 52) (M 8 x1)) 9 x1)) 10 x1)) 0 52) ∧ ((am_up (am_up (am_up M 35 (M 0 52) (M 8 x1)) 36 ((am_up M 35 (M 0 52) (M 8 x1)) 0 52) ((am_up M 35 (M 0 52) (M 8 x1)) 9 x1)) 37 ((am_up (am_up M 35 (M 0 52) (M 8 x1)) 36 ((am_up M 35 (M 0 52) (M 8 x1)) 0 52) ((am_up M 35 (M 0 52) (M 8 x1)) 9 x1)) 0 52) ((am_up (am_up M 35 (M 0 52) (M 8 x1)) 36 ((am_up M 35 (M 0 52) (M 8 x1)) 0 52) ((am_up M 35 (M 0 52) (M 8 x1)) 9 x1)) 10 x1)) 0 52) < 150) ∧ (((0 : Int) = 0 ∨ (0 : Int) = 1) ∧ (Q none (am_up (am_up (am_up (am_up (am_up M 35 (M 0 52) (M 8 x1)) 36 ((am_up M 35 (M 0 52) (M 8 x1)) 0 52) ((am_up M 35 (M 0 52) (M 8 x1)) 9 x1)) 37 ((am_up (am_up M 35 (M 0 52) (M 8 x1)) 36 ((am_up M 35 (M 0 52) (M 8 x1)) 0 52) ((am_up M 35 (M 0 52) (M 8 x1)) 9 x1)) 0 52) ((am_up (am_up M 35 (M 0 52) (M 8 x1)) 36 ((am_up M 35 (M 0 52) (M 8 x1)) 0 52) ((am_up M 35 (M 0 52) (M 8 x1)) 9 x1)) 10 x1)) 38 ((am_up (am_up (am_up M 35 (M 0 52) (M 8 x1)) 36 ((am_up M 35 (M 0 52) (M 8 x1)) 0 52) ((am_up M 35 (M 0 52) (M 8 x1)) 9 x1)) 37 ((am_up (am_up M 35 (M 0 52) (M 8 x1)) 36 ((am_up M 35 (M 0 52) (M 8 x1)) 0 52) ((am_up M 35 (M 0 52) (M 8 x1)) 9 x1)) 0 52) ((am_up (am_up M 35 (M 0 52) (M 8 x1)) 36 ((am_up M 35 (M 0 52) (M 8 x1)) 0 52) ((am_up M 35 (M 0 52) (M 8 x1)) 9 x1)) 10 x1)) 0 52) 0) 0 52 (a_add ((am_up (am_up (am_up (am_up M 35 (M 0 52) (M 8 x1)) 36 ((am_up M 35 (M 0 52) (M 8 x1)) 0 52) ((am_up M 35 (M 0 52) (M 8 x1)) 9 x1)) 37 ((am_up (am_up M 35 (M 0 52) (M 8 x1)) 36 ((am_up M 35 (M 0 52) (M 8 x1)) 0 52) ((am_up M 35 (M 0 52) (M 8 x1)) 9 x1)) 0 52) ((am_up (am_up M 35 (M 0 52) (M 8 x1)) 36 ((am_up M 35 (M 0 52) (M 8 x1)) 0 52) ((am_up M 35 (M 0 52) (M 8 x1)) 9 x1)) 10 x1)) 38 ((am_up (am_up (am_up M 35 (M 0 52) (M 8 x1)) 36 ((am_up M 35 (M 0 52) (M 8 x1)) 0 52) ((am_up M 35 (M 0 52) (M 8 x1)) 9 x1)) 37 ((am_up (am_up M 35 (M 0 52) (M 8 x1)) 36 ((am_up M 35 (M 0 52) (M 8 x1)) 0 52) ((am_up M 35 (M 0 52) (M 8 x1)) 9 x1)) 0 52) ((am_up (am_up M 35 (M 0 52) (M 8 x1)) 36 ((am_up M 35 (M 0 52) (M 8 x1)) 0 52) ((am_up M 35 (M 0 52) (M 8 x1)) 9 x1)) 10 x1)) 0 52) 0) 0 52) 1))))))))))) ∧ True) ∧ ((M 5 x1) < 1 ∨ 9 < (M 5 x1) → Q none M))) :
    aE s2_G d 68 0 [] [some (aP 0), some (aI x1)] [] M Q := aE_go s2_pu_ok [] 266 hd h

-- 69: DioceseBookModel.watch(III)V
set_option maxRecDepth 100000 in
set_option maxHeartbeats 4000000 in
theorem s2_watch_0 {d : Nat} (hd : 3 < d) {M : AM} {Q : Option AV → AM → Prop} {x1 x2 x3 : Int}
    (h : Q none (am_up (am_up (am_up (am_up (am_up (am_up M 0 57 x1) 0 64 x2) 0 62 x3) 0 58 0) 0 63 (-1)) 0 65 (-1))) :
    aE s2_G d 69 0 [] [some (aP 0), some (aI x1), some (aI x2), some (aI x3)] [] M Q := aE_go s2_pu_ok [] 98 hd h

-- 70: DioceseBookModel.tell(II)V
set_option maxRecDepth 100000 in
set_option maxHeartbeats 4000000 in
theorem s2_tell_0 {d : Nat} (hd : 3 < d) {M : AM} {Q : Option AV → AM → Prop} {x1 x2 : Int}
    (h : aKv s2_G d 18 [aP 0, aI x1] M (fun M1 => aE s2_G d 70 7 [] [some (aP 0), none, some (aI x2), some (aI 0)] [] M1 Q)) :
    aE s2_G d 70 0 [] [some (aP 0), some (aI x1), some (aI x2), none] [] M Q := aE_go s2_pu_ok [(7, [true, false, true, true]), (61, [true, false, true, true])] 70 hd h

set_option maxRecDepth 100000 in
set_option maxHeartbeats 4000000 in
theorem s2_tell_7 {d : Nat} (hd : 3 < d) {M : AM} {Q : Option AV → AM → Prop} {x2 x3 : Int}
    (h : ((M 0 3) ≤ x3 → aE s2_G d 70 61 [] [some (aP 0), none, some (aI x2), some (aI 0)] [] (am_up (am_up M 0 52 0) 0 51 0) Q) ∧ (x3 < (M 0 3) → (0 ≤ x3 ∧ x3 < 12) ∧ ((0 ≤ x3 ∧ x3 < 12) ∧ ((0 ≤ x3 ∧ x3 < 12) ∧ (aKv s2_G d 67 [aP 0, aI x3, aI (-1), aI (-1)] (am_up (am_up (am_up M 27 x3 0) 29 x3 0) 30 x3 0) (fun M1 => aE s2_G d 70 7 [] [some (aP 0), none, some (aI x2), some (aI (a_add x3 1))] [] M1 Q)))))) :
    aE s2_G d 70 7 [] [some (aP 0), none, some (aI x2), some (aI x3)] [] M Q := aE_go s2_pu_ok [(7, [true, false, true, true]), (61, [true, false, true, true])] 128 hd h

set_option maxRecDepth 100000 in
set_option maxHeartbeats 4000000 in
theorem s2_tell_61 {d : Nat} (hd : 3 < d) {M : AM} {Q : Option AV → AM → Prop} {x2 x3 : Int}
    (h : ((M 0 17) ≤ x3 → Q none M) ∧ (x3 < (M 0 17) → (0 ≤ x3 ∧ x3 < 150) ∧ ((0 ≤ (M 13 x3) ∧ (M 13 x3) < 150) ∧ ((x2 < (M 6 (M 13 x3)) → Q none M) ∧ ((M 6 (M 13 x3)) ≤ x2 → (0 ≤ x3 ∧ x3 < 150) ∧ (aKv s2_G d 68 [aP 0, aI (M 13 x3)] M (fun M1 => aE s2_G d 70 61 [] [some (aP 0), none, some (aI x2), some (aI (a_add x3 1))] [] M1 Q))))))) :
    aE s2_G d 70 61 [] [some (aP 0), none, some (aI x2), some (aI x3)] [] M Q := aE_go s2_pu_ok [(7, [true, false, true, true]), (61, [true, false, true, true])] 106 hd h

-- 71: DioceseBookModel.barred(IIII)I
set_option maxRecDepth 100000 in
set_option maxHeartbeats 4000000 in
theorem s2_barred_0 {d : Nat} (hd : 3 < d) {M : AM} {Q : Option AV → AM → Prop} {x1 x2 x3 x4 : Int}
    (h : ((a_bl ¬(0 ≤ x1 ∧ x1 ≤ a_sub (M 0 1) 1)) ≠ (0 : Int) → Q (some (aI (-100001))) M) ∧ ((a_bl ¬(0 ≤ x1 ∧ x1 ≤ a_sub (M 0 1) 1)) = (0 : Int) → ((a_bl ¬(0 ≤ x2 ∧ x2 ≤ a_sub (M 0 3) 1)) = (0 : Int) → ((a_bl (0 ≤ x3 ∧ x3 ≤ 30000)) = (0 : Int) → Q (some (aI (-100002))) M) ∧ ((a_bl (0 ≤ x3 ∧ x3 ≤ 30000)) ≠ (0 : Int) → ((a_bl (0 ≤ x4 ∧ x4 ≤ M 0 0)) ≠ (0 : Int) → aKv s2_G d 69 [aP 0, aI (-1), aI (-1), aI (-1)] M (fun M1 => aKv s2_G d 70 [aP 0, aI x4, aI x3] M1 (fun M2 => aKi s2_G d 62 [aP 0, aI x1, aI x2, aI x3] M2 (fun z4 M3 => Q (some (aI z4)) M3)))) ∧ ((a_bl (0 ≤ x4 ∧ x4 ≤ M 0 0)) = (0 : Int) → Q (some (aI (-100002))) M))) ∧ ((a_bl ¬(0 ≤ x2 ∧ x2 ≤ a_sub (M 0 3) 1)) ≠ (0 : Int) → Q (some (aI (-100001))) M))) :
    aE s2_G d 71 0 [] [some (aP 0), some (aI x1), some (aI x2), some (aI x3), some (aI x4)] [] M Q := aE_go s2_pu_ok [] 136 hd h

-- 72: DioceseBookModel.setOf(I)I
set_option maxRecDepth 100000 in
set_option maxHeartbeats 4000000 in
theorem s2_setOf_0 {d : Nat} (hd : 3 < d) {M : AM} {Q : Option AV → AM → Prop} {x1 : Int}
    (h : aE s2_G d 72 4 [] [some (aP 0), some (aI x1), some (aI 0), some (aI 0), none] [] M Q) :
    aE s2_G d 72 0 [] [some (aP 0), some (aI x1), none, none, none] [] M Q := aE_go s2_pu_ok [(4, [true, true, true, true, false])] 68 hd h

set_option maxRecDepth 100000 in
set_option maxHeartbeats 4000000 in
theorem s2_setOf_4 {d : Nat} (hd : 3 < d) {M : AM} {Q : Option AV → AM → Prop} {x1 x2 x3 : Int}
    (h : (0 ≤ x1 ∧ x1 < 12) ∧ (((M 27 x1) ≤ x3 → Q (some (aI x2)) M) ∧ (x3 < (M 27 x1) → (0 ≤ (a_add (a_mul 40 x1) x3) ∧ (a_add (a_mul 40 x1) x3) < 480) ∧ (((31 : Int) ≤ (M 28 (a_add (a_mul 40 x1) x3)) → aE s2_G d 72 4 [] [some (aP 0), some (aI x1), some (aI (a_or x2 0)), some (aI (a_add x3 1)), none] [] M Q) ∧ ((M 28 (a_add (a_mul 40 x1) x3)) < (31 : Int) → aE s2_G d 72 4 [] [some (aP 0), some (aI x1), some (aI (a_or x2 (a_shl 1 (M 28 (a_add (a_mul 40 x1) x3))))), some (aI (a_add x3 1)), none] [] M Q))))) :
    aE s2_G d 72 4 [] [some (aP 0), some (aI x1), some (aI x2), some (aI x3), none] [] M Q := aE_go s2_pu_ok [(4, [true, true, true, true, false])] 128 hd h

-- 73: DioceseBookModel.unused(I)I
set_option maxRecDepth 100000 in
set_option maxHeartbeats 4000000 in
theorem s2_unused_0 {d : Nat} (hd : 3 < d) {M : AM} {Q : Option AV → AM → Prop} {x1 : Int}
    (h : aE s2_G d 73 4 [] [some (aP 0), some (aI x1), some (aI 0), some (aI 0)] [] M Q) :
    aE s2_G d 73 0 [] [some (aP 0), some (aI x1), none, none] [] M Q := aE_go s2_pu_ok [(4, [true, true, true, true])] 68 hd h

set_option maxRecDepth 100000 in
set_option maxHeartbeats 4000000 in
theorem s2_unused_4 {d : Nat} (hd : 3 < d) {M : AM} {Q : Option AV → AM → Prop} {x1 x2 x3 : Int}
    (h : ((M 0 52) ≤ x3 → Q (some (aI x2)) M) ∧ (x3 < (M 0 52) → (0 ≤ x3 ∧ x3 < 150) ∧ (((M 35 x3) ≠ x1 → aE s2_G d 73 4 [] [some (aP 0), some (aI x1), some (aI (a_add x2 (a_bl ((0 : Int) ≠ 0)))), some (aI (a_add x3 1))] [] M Q) ∧ ((M 35 x3) = x1 → (0 ≤ x3 ∧ x3 < 150) ∧ (((M 38 x3) ≠ (0 : Int) → aE s2_G d 73 4 [] [some (aP 0), some (aI x1), some (aI (a_add x2 (a_bl ((0 : Int) ≠ 0)))), some (aI (a_add x3 1))] [] M Q) ∧ ((M 38 x3) = (0 : Int) → aE s2_G d 73 4 [] [some (aP 0), some (aI x1), some (aI (a_add x2 (a_bl ((1 : Int) ≠ 0)))), some (aI (a_add x3 1))] [] M Q)))))) :
    aE s2_G d 73 4 [] [some (aP 0), some (aI x1), some (aI x2), some (aI x3)] [] M Q := aE_go s2_pu_ok [(4, [true, true, true, true])] 134 hd h

-- 74: DioceseBookModel.seat(IIII)I
set_option maxRecDepth 100000 in
set_option maxHeartbeats 4000000 in
theorem s2_seat_0 {d : Nat} (hd : 3 < d) {M : AM} {Q : Option AV → AM → Prop} {x1 x2 x3 x4 : Int}
    (h : ((a_bl ¬(0 ≤ x1 ∧ x1 ≤ a_sub (M 0 3) 1)) = (0 : Int) → ((a_bl (0 ≤ x2 ∧ x2 ≤ 30000)) = (0 : Int) → Q (some (aI (-100002))) M) ∧ ((a_bl (0 ≤ x2 ∧ x2 ≤ 30000)) ≠ (0 : Int) → ((a_bl (0 ≤ x3 ∧ x3 ≤ M 0 0)) = (0 : Int) → Q (some (aI (-100002))) M) ∧ ((a_bl (0 ≤ x3 ∧ x3 ≤ M 0 0)) ≠ (0 : Int) → ((a_bl (0 ≤ x4 ∧ x4 ≤ 7)) ≠ (0 : Int) → aKv s2_G d 69 [aP 0, aI (-1), aI (-1), aI (-1)] M (fun M1 => aKv s2_G d 70 [aP 0, aI x3, aI x2] M1 (fun M2 => ((x4 = 0 → (0 ≤ x1 ∧ x1 < 12) ∧ (Q (some (aI (M2 27 x1))) M2)) ∧ (x4 = 1 → (0 ≤ x1 ∧ x1 < 12) ∧ (((M2 27 x1) ≠ (0 : Int) → (0 ≤ (a_mul 40 x1) ∧ (a_mul 40 x1) < 480) ∧ (Q (some (aI (M2 28 (a_mul 40 x1)))) M2)) ∧ ((M2 27 x1) = (0 : Int) → Q (some (aI (-1))) M2))) ∧ (x4 = 2 → aKi s2_G d 72 [aP 0, aI x1] M2 (fun z4 M3 => Q (some (aI z4)) M3)) ∧ (x4 = 3 → (0 ≤ x1 ∧ x1 < 12) ∧ (Q (some (aI (M2 29 x1))) M2)) ∧ (x4 = 4 → (0 ≤ x1 ∧ x1 < 12) ∧ (Q (some (aI (M2 30 x1))) M2)) ∧ (x4 = 5 → aKi s2_G d 59 [aP 0, aI x1, aI x2] M2 (fun z6 M5 => Q (some (aI z6)) M5)) ∧ (x4 = 6 → aKi s2_G d 55 [aP 0, aI x1] M2 (fun z8 M7 => Q (some (aI z8)) M7)) ∧ True) ∧ (x4 < 0 ∨ 6 < x4 → aKi s2_G d 73 [aP 0, aI x1] M2 (fun z10 M9 => Q (some (aI z10)) M9))))) ∧ ((a_bl (0 ≤ x4 ∧ x4 ≤ 7)) = (0 : Int) → Q (some (aI (-100002))) M)))) ∧ ((a_bl ¬(0 ≤ x1 ∧ x1 ≤ a_sub (M 0 3) 1)) ≠ (0 : Int) → Q (some (aI (-100001))) M)) :
    aE s2_G d 74 0 [] [some (aP 0), some (aI x1), some (aI x2), some (aI x3), some (aI x4)] [] M Q := aE_go s2_pu_ok [] 226 hd h

-- 75: DioceseBookModel.whyOf(II)I
set_option maxRecDepth 100000 in
set_option maxHeartbeats 4000000 in
theorem s2_whyOf_0 {d : Nat} (hd : 3 < d) {M : AM} {Q : Option AV → AM → Prop} {x1 x2 : Int}
    (h : ((a_bl (0 ≤ x1 ∧ x1 ≤ (a_sub (M 0 7) 1))) ≠ (0 : Int) → ((a_bl (0 ≤ x2 ∧ x2 ≤ M 0 0)) ≠ (0 : Int) → (0 ≤ x1 ∧ x1 < 150) ∧ (((M 5 x1) = (3 : Int) → aKv s2_G d 69 [aP 0, aI (-1), aI (-1), aI x1] M (fun M1 => aKv s2_G d 70 [aP 0, aI x2, aI 30000] M1 (fun M2 => ((0 : Int) ≤ (M2 0 63) → Q (some (aI (M2 0 63))) M2) ∧ ((M2 0 63) < (0 : Int) → Q (some (aI (-100003))) M2)))) ∧ ((M 5 x1) ≠ (3 : Int) → Q (some (aI (-100003))) M))) ∧ ((a_bl (0 ≤ x2 ∧ x2 ≤ M 0 0)) = (0 : Int) → Q (some (aI (-100002))) M)) ∧ ((a_bl (0 ≤ x1 ∧ x1 ≤ (a_sub (M 0 7) 1))) = (0 : Int) → Q (some (aI (-100001))) M)) :
    aE s2_G d 75 0 [] [some (aP 0), some (aI x1), some (aI x2)] [] M Q := aE_go s2_pu_ok [] 148 hd h

-- 76: DioceseBookModel.good(II)I
set_option maxRecDepth 100000 in
set_option maxHeartbeats 4000000 in
theorem s2_good_0 {d : Nat} (hd : 3 < d) {M : AM} {Q : Option AV → AM → Prop} {x1 x2 : Int}
    (h : aKi s2_G d 75 [aP 0, aI x1, aI x2] M (fun z2 M1 => ((0 : Int) ≤ z2 → (z2 ≠ (0 : Int) → Q (some (aI (a_bl ((0 : Int) ≠ 0)))) M1) ∧ (z2 = (0 : Int) → Q (some (aI (a_bl ((1 : Int) ≠ 0)))) M1)) ∧ (z2 < (0 : Int) → Q (some (aI z2)) M1))) :
    aE s2_G d 76 0 [] [some (aP 0), some (aI x1), some (aI x2), none] [] M Q := aE_go s2_pu_ok [] 98 hd h

-- 77: DioceseBookModel.why(II)I
set_option maxRecDepth 100000 in
set_option maxHeartbeats 4000000 in
theorem s2_why_0 {d : Nat} (hd : 3 < d) {M : AM} {Q : Option AV → AM → Prop} {x1 x2 : Int}
    (h : aKi s2_G d 75 [aP 0, aI x1, aI x2] M (fun z2 M1 => Q (some (aI z2)) M1)) :
    aE s2_G d 77 0 [] [some (aP 0), some (aI x1), some (aI x2)] [] M Q := aE_go s2_pu_ok [] 70 hd h

-- 78: DioceseBookModel.change(IIII)I
set_option maxRecDepth 100000 in
set_option maxHeartbeats 4000000 in
theorem s2_change_0 {d : Nat} (hd : 3 < d) {M : AM} {Q : Option AV → AM → Prop} {x1 x2 x3 x4 : Int}
    (h : ((a_bl ¬(0 ≤ x1 ∧ x1 ≤ a_sub (M 0 3) 1)) = (0 : Int) → ((a_bl (0 ≤ x2 ∧ x2 ≤ M 0 0)) = (0 : Int) → Q (some (aI (-100002))) M) ∧ ((a_bl (0 ≤ x2 ∧ x2 ≤ M 0 0)) ≠ (0 : Int) → ((a_bl (0 ≤ x4 ∧ x4 ≤ 2)) ≠ (0 : Int) → aKv s2_G d 69 [aP 0, aI x1, aI (-1), aI (-1)] M (fun M1 => aKv s2_G d 70 [aP 0, aI x2, aI 30000] M1 (fun M2 => ((a_bl (0 ≤ x3 ∧ x3 ≤ (a_sub (M2 0 58) 1))) ≠ (0 : Int) → (x4 ≠ (0 : Int) → (x4 ≠ (1 : Int) → (0 ≤ x3 ∧ x3 < 160) ∧ (Q (some (aI (M2 41 x3))) M2)) ∧ (x4 = (1 : Int) → (0 ≤ x3 ∧ x3 < 160) ∧ (Q (some (aI (M2 40 x3))) M2))) ∧ (x4 = (0 : Int) → (0 ≤ x3 ∧ x3 < 160) ∧ (Q (some (aI (M2 39 x3))) M2))) ∧ ((a_bl (0 ≤ x3 ∧ x3 ≤ (a_sub (M2 0 58) 1))) = (0 : Int) → Q (some (aI (-1))) M2)))) ∧ ((a_bl (0 ≤ x4 ∧ x4 ≤ 2)) = (0 : Int) → Q (some (aI (-100002))) M))) ∧ ((a_bl ¬(0 ≤ x1 ∧ x1 ≤ a_sub (M 0 3) 1)) ≠ (0 : Int) → Q (some (aI (-100001))) M)) :
    aE s2_G d 78 0 [] [some (aP 0), some (aI x1), some (aI x2), some (aI x3), some (aI x4)] [] M Q := aE_go s2_pu_ok [] 186 hd h

-- 79: DioceseBookModel.days(IIIII)I
set_option maxRecDepth 100000 in
set_option maxHeartbeats 4000000 in
theorem s2_days_0 {d : Nat} (hd : 3 < d) {M : AM} {Q : Option AV → AM → Prop} {x1 x2 x3 x4 x5 : Int}
    (h : ((a_bl ¬(0 ≤ x1 ∧ x1 ≤ a_sub (M 0 3) 1)) = (0 : Int) → ((a_bl (0 ≤ x2 ∧ x2 ≤ 30000)) = (0 : Int) → Q (some (aI (-100002))) M) ∧ ((a_bl (0 ≤ x2 ∧ x2 ≤ 30000)) ≠ (0 : Int) → ((a_bl (0 ≤ x3 ∧ x3 ≤ 30000)) = (0 : Int) → Q (some (aI (-100002))) M) ∧ ((a_bl (0 ≤ x3 ∧ x3 ≤ 30000)) ≠ (0 : Int) → (x3 < x2 → Q (some (aI (-100002))) M) ∧ (x2 ≤ x3 → ((5000 : Int) < (a_sub x3 x2) → Q (some (aI (-100002))) M) ∧ ((a_sub x3 x2) ≤ (5000 : Int) → ((a_bl (0 ≤ x4 ∧ x4 ≤ M 0 0)) = (0 : Int) → Q (some (aI (-100002))) M) ∧ ((a_bl (0 ≤ x4 ∧ x4 ≤ M 0 0)) ≠ (0 : Int) → ((a_bl (0 ≤ x5 ∧ x5 ≤ 2)) ≠ (0 : Int) → aKv s2_G d 69 [aP 0, aI x1, aI (-1), aI (-1)] M (fun M1 => aKv s2_G d 70 [aP 0, aI x4, aI 30000] M1 (fun M2 => aE s2_G d 79 92 [] [some (aP 0), none, some (aI x2), some (aI x3), none, some (aI x5), some (aI 0), some (aI 0), some (aI 0), some (aI 0), none] [] M2 Q))) ∧ ((a_bl (0 ≤ x5 ∧ x5 ≤ 2)) = (0 : Int) → Q (some (aI (-100002))) M))))))) ∧ ((a_bl ¬(0 ≤ x1 ∧ x1 ≤ a_sub (M 0 3) 1)) ≠ (0 : Int) → Q (some (aI (-100001))) M)) :
    aE s2_G d 79 0 [] [some (aP 0), some (aI x1), some (aI x2), some (aI x3), some (aI x4), some (aI x5), none, none, none, none, none] [] M Q := aE_go s2_pu_ok [(92, [true, false, true, true, false, true, true, true, true, true, false]), (98, [true, false, true, true, false, true, true, true, true, true, false])] 178 hd h

set_option maxRecDepth 100000 in
set_option maxHeartbeats 4000000 in
theorem s2_days_92 {d : Nat} (hd : 3 < d) {M : AM} {Q : Option AV → AM → Prop} {x2 x3 x5 x6 x7 x8 x9 : Int}
    (h : (x3 < x9 → Q (some (aI x6)) M) ∧ (x9 ≤ x3 → aE s2_G d 79 98 [] [some (aP 0), none, some (aI x2), some (aI x3), none, some (aI x5), some (aI x6), some (aI x7), some (aI x8), some (aI x9), none] [] M Q)) :
    aE s2_G d 79 92 [] [some (aP 0), none, some (aI x2), some (aI x3), none, some (aI x5), some (aI x6), some (aI x7), some (aI x8), some (aI x9), none] [] M Q := aE_go s2_pu_ok [(92, [true, false, true, true, false, true, true, true, true, true, false]), (98, [true, false, true, true, false, true, true, true, true, true, false])] 70 hd h

set_option maxRecDepth 100000 in
set_option maxHeartbeats 4000000 in
theorem s2_days_98 {d : Nat} (hd : 3 < d) {M : AM} {Q : Option AV → AM → Prop} {x2 x3 x5 x6 x7 x8 x9 : Int}
    (h : ((M 0 58) ≤ x7 → (x8 ≤ (1 : Int) → (x9 < x2 → aE s2_G d 79 92 [] [some (aP 0), none, some (aI x2), some (aI x3), none, some (aI x5), some (aI (a_add x6 (a_bl ((0 : Int) ≠ 0)))), some (aI x7), some (aI x8), some (aI (a_add x9 1)), none] [] M Q) ∧ (x2 ≤ x9 → (x8 ≠ x5 → aE s2_G d 79 92 [] [some (aP 0), none, some (aI x2), some (aI x3), none, some (aI x5), some (aI (a_add x6 (a_bl ((0 : Int) ≠ 0)))), some (aI x7), some (aI x8), some (aI (a_add x9 1)), none] [] M Q) ∧ (x8 = x5 → aE s2_G d 79 92 [] [some (aP 0), none, some (aI x2), some (aI x3), none, some (aI x5), some (aI (a_add x6 (a_bl ((1 : Int) ≠ 0)))), some (aI x7), some (aI x8), some (aI (a_add x9 1)), none] [] M Q))) ∧ ((1 : Int) < x8 → (x9 < x2 → aE s2_G d 79 92 [] [some (aP 0), none, some (aI x2), some (aI x3), none, some (aI x5), some (aI (a_add x6 (a_bl ((0 : Int) ≠ 0)))), some (aI x7), some (aI x8), some (aI (a_add x9 1)), none] [] M Q) ∧ (x2 ≤ x9 → ((2 : Int) ≠ x5 → aE s2_G d 79 92 [] [some (aP 0), none, some (aI x2), some (aI x3), none, some (aI x5), some (aI (a_add x6 (a_bl ((0 : Int) ≠ 0)))), some (aI x7), some (aI x8), some (aI (a_add x9 1)), none] [] M Q) ∧ ((2 : Int) = x5 → aE s2_G d 79 92 [] [some (aP 0), none, some (aI x2), some (aI x3), none, some (aI x5), some (aI (a_add x6 (a_bl ((1 : Int) ≠ 0)))), some (aI x7), some (aI x8), some (aI (a_add x9 1)), none] [] M Q)))) ∧ (x7 < (M 0 58) → (0 ≤ x7 ∧ x7 < 160) ∧ ((x9 < (M 39 x7) → (x8 ≤ (1 : Int) → (x9 < x2 → aE s2_G d 79 92 [] [some (aP 0), none, some (aI x2), some (aI x3), none, some (aI x5), some (aI (a_add x6 (a_bl ((0 : Int) ≠ 0)))), some (aI x7), some (aI x8), some (aI (a_add x9 1)), none] [] M Q) ∧ (x2 ≤ x9 → (x8 ≠ x5 → aE s2_G d 79 92 [] [some (aP 0), none, some (aI x2), some (aI x3), none, some (aI x5), some (aI (a_add x6 (a_bl ((0 : Int) ≠ 0)))), some (aI x7), some (aI x8), some (aI (a_add x9 1)), none] [] M Q) ∧ (x8 = x5 → aE s2_G d 79 92 [] [some (aP 0), none, some (aI x2), some (aI x3), none, some (aI x5), some (aI (a_add x6 (a_bl ((1 : Int) ≠ 0)))), some (aI x7), some (aI x8), some (aI (a_add x9 1)), none] [] M Q))) ∧ ((1 : Int) < x8 → (x9 < x2 → aE s2_G d 79 92 [] [some (aP 0), none, some (aI x2), some (aI x3), none, some (aI x5), some (aI (a_add x6 (a_bl ((0 : Int) ≠ 0)))), some (aI x7), some (aI x8), some (aI (a_add x9 1)), none] [] M Q) ∧ (x2 ≤ x9 → ((2 : Int) ≠ x5 → aE s2_G d 79 92 [] [some (aP 0), none, some (aI x2), some (aI x3), none, some (aI x5), some (aI (a_add x6 (a_bl ((0 : Int) ≠ 0)))), some (aI x7), some (aI x8), some (aI (a_add x9 1)), none] [] M Q) ∧ ((2 : Int) = x5 → aE s2_G d 79 92 [] [some (aP 0), none, some (aI x2), some (aI x3), none, some (aI x5), some (aI (a_add x6 (a_bl ((1 : Int) ≠ 0)))), some (aI x7), some (aI x8), some (aI (a_add x9 1)), none] [] M Q)))) ∧ ((M 39 x7) ≤ x9 → (0 ≤ x7 ∧ x7 < 160) ∧ (aE s2_G d 79 98 [] [some (aP 0), none, some (aI x2), some (aI x3), none, some (aI x5), some (aI x6), some (aI (a_add x7 1)), some (aI (M 40 x7)), some (aI x9), none] [] M Q))))) :
    aE s2_G d 79 98 [] [some (aP 0), none, some (aI x2), some (aI x3), none, some (aI x5), some (aI x6), some (aI x7), some (aI x8), some (aI x9), none] [] M Q := aE_go s2_pu_ok [(92, [true, false, true, true, false, true, true, true, true, true, false]), (98, [true, false, true, true, false, true, true, true, true, true, false])] 334 hd h

-- 80: DioceseBookModel.news(III)I
set_option maxRecDepth 100000 in
set_option maxHeartbeats 4000000 in
theorem s2_news_0 {d : Nat} (hd : 3 < d) {M : AM} {Q : Option AV → AM → Prop} {x1 x2 x3 : Int}
    (h : ((a_bl (0 ≤ x1 ∧ x1 ≤ 30000)) = (0 : Int) → Q (some (aI (-100002))) M) ∧ ((a_bl (0 ≤ x1 ∧ x1 ≤ 30000)) ≠ (0 : Int) → ((a_bl (0 ≤ x2 ∧ x2 ≤ M 0 0)) = (0 : Int) → Q (some (aI (-100002))) M) ∧ ((a_bl (0 ≤ x2 ∧ x2 ≤ M 0 0)) ≠ (0 : Int) → ((a_bl (0 ≤ x3 ∧ x3 ≤ M 0 0)) ≠ (0 : Int) → aKv s2_G d 69 [aP 0, aI (-1), aI (-1), aI (-1)] M (fun M1 => aKv s2_G d 70 [aP 0, aI x2, aI x1] M1 (fun M2 => aE s2_G d 80 42 [] [some (aP 0), some (aI x1), none, some (aI x3), some (aI 0), none, none, none] [] M2 Q))) ∧ ((a_bl (0 ≤ x3 ∧ x3 ≤ M 0 0)) = (0 : Int) → Q (some (aI (-100002))) M)))) :
    aE s2_G d 80 0 [] [some (aP 0), some (aI x1), some (aI x2), some (aI x3), none, none, none, none] [] M Q := aE_go s2_pu_ok [(42, [true, true, false, true, true, false, false, false]), (54, [true, true, false, true, true, true, false, false]), (116, [true, false, false, false, true, true, false, false]), (131, [true, false, false, false, true, true, true, true])] 116 hd h

set_option maxRecDepth 100000 in
set_option maxHeartbeats 4000000 in
theorem s2_news_42 {d : Nat} (hd : 3 < d) {M : AM} {Q : Option AV → AM → Prop} {x1 x3 x4 : Int}
    (h : ((M 0 3) ≤ x4 → aKv s2_G d 70 [aP 0, aI x3, aI x1] M (fun M1 => aE s2_G d 80 116 [] [some (aP 0), none, none, none, some (aI 0), some (aI 0), none, none] [] M1 Q)) ∧ (x4 < (M 0 3) → aE s2_G d 80 54 [] [some (aP 0), some (aI x1), none, some (aI x3), some (aI x4), some (aI 0), none, none] [] M Q)) :
    aE s2_G d 80 42 [] [some (aP 0), some (aI x1), none, some (aI x3), some (aI x4), none, none, none] [] M Q := aE_go s2_pu_ok [(42, [true, true, false, true, true, false, false, false]), (54, [true, true, false, true, true, true, false, false]), (116, [true, false, false, false, true, true, false, false]), (131, [true, false, false, false, true, true, true, true])] 88 hd h

set_option maxRecDepth 100000 in
set_option maxHeartbeats 4000000 in
theorem s2_news_54 {d : Nat} (hd : 3 < d) {M : AM} {Q : Option AV → AM → Prop} {x1 x3 x4 x5 : Int}
    (h : ((M 0 1) ≤ x5 → aE s2_G d 80 42 [] [some (aP 0), some (aI x1), none, some (aI x3), some (aI (a_add x4 1)), none, none, none] [] M Q) ∧ (x5 < (M 0 1) → aKi s2_G d 50 [aP 0, aI x4, aI x5] M (fun z2 M1 => (z2 < (0 : Int) → (0 ≤ (a_add (a_mul 40 x4) x5) ∧ (a_add (a_mul 40 x4) x5) < 480) ∧ (((0 : Int) = 0 ∨ (0 : Int) = 1) ∧ (aE s2_G d 80 54 [] [some (aP 0), some (aI x1), none, some (aI x3), some (aI x4), some (aI (a_add x5 1)), none, none] [] (am_up M1 43 (a_add (a_mul 40 x4) x5) 0) Q))) ∧ ((0 : Int) ≤ z2 → (0 ≤ (a_add (a_mul 40 x4) x5) ∧ (a_add (a_mul 40 x4) x5) < 480) ∧ (((1 : Int) = 0 ∨ (1 : Int) = 1) ∧ (aE s2_G d 80 54 [] [some (aP 0), some (aI x1), none, some (aI x3), some (aI x4), some (aI (a_add x5 1)), none, none] [] (am_up M1 43 (a_add (a_mul 40 x4) x5) 1) Q)))))) :
    aE s2_G d 80 54 [] [some (aP 0), some (aI x1), none, some (aI x3), some (aI x4), some (aI x5), none, none] [] M Q := aE_go s2_pu_ok [(42, [true, true, false, true, true, false, false, false]), (54, [true, true, false, true, true, true, false, false]), (116, [true, false, false, false, true, true, false, false]), (131, [true, false, false, false, true, true, true, true])] 114 hd h

set_option maxRecDepth 100000 in
set_option maxHeartbeats 4000000 in
theorem s2_news_116 {d : Nat} (hd : 3 < d) {M : AM} {Q : Option AV → AM → Prop} {x4 x5 : Int}
    (h : ((M 0 3) ≤ x5 → Q (some (aI x4)) M) ∧ (x5 < (M 0 3) → aE s2_G d 80 131 [] [some (aP 0), none, none, none, some (aI x4), some (aI x5), some (aI 1), some (aI 0)] [] M Q)) :
    aE s2_G d 80 116 [] [some (aP 0), none, none, none, some (aI x4), some (aI x5), none, none] [] M Q := aE_go s2_pu_ok [(42, [true, true, false, true, true, false, false, false]), (54, [true, true, false, true, true, true, false, false]), (116, [true, false, false, false, true, true, false, false]), (131, [true, false, false, false, true, true, true, true])] 80 hd h

set_option maxRecDepth 100000 in
set_option maxHeartbeats 4000000 in
theorem s2_news_131 {d : Nat} (hd : 3 < d) {M : AM} {Q : Option AV → AM → Prop} {x4 x5 x6 x7 : Int}
    (h : ((M 0 1) ≤ x7 → (x6 ≠ (0 : Int) → aE s2_G d 80 116 [] [some (aP 0), none, none, none, some (aI (a_add x4 (a_bl ((0 : Int) ≠ 0)))), some (aI (a_add x5 1)), none, none] [] M Q) ∧ (x6 = (0 : Int) → aE s2_G d 80 116 [] [some (aP 0), none, none, none, some (aI (a_add x4 (a_bl ((1 : Int) ≠ 0)))), some (aI (a_add x5 1)), none, none] [] M Q)) ∧ (x7 < (M 0 1) → (x6 = (0 : Int) → aE s2_G d 80 131 [] [some (aP 0), none, none, none, some (aI x4), some (aI x5), some (aI 0), some (aI (a_add x7 1))] [] M Q) ∧ (x6 ≠ (0 : Int) → (0 ≤ (a_add (a_mul 40 x5) x7) ∧ (a_add (a_mul 40 x5) x7) < 480) ∧ (aKi s2_G d 50 [aP 0, aI x5, aI x7] M (fun z2 M1 => (z2 < (0 : Int) → ((M 43 (a_add (a_mul 40 x5) x7)) ≠ (0 : Int) → aE s2_G d 80 131 [] [some (aP 0), none, none, none, some (aI x4), some (aI x5), some (aI 0), some (aI (a_add x7 1))] [] M1 Q) ∧ ((M 43 (a_add (a_mul 40 x5) x7)) = (0 : Int) → aE s2_G d 80 131 [] [some (aP 0), none, none, none, some (aI x4), some (aI x5), some (aI 1), some (aI (a_add x7 1))] [] M1 Q)) ∧ ((0 : Int) ≤ z2 → ((M 43 (a_add (a_mul 40 x5) x7)) ≠ (1 : Int) → aE s2_G d 80 131 [] [some (aP 0), none, none, none, some (aI x4), some (aI x5), some (aI 0), some (aI (a_add x7 1))] [] M1 Q) ∧ ((M 43 (a_add (a_mul 40 x5) x7)) = (1 : Int) → aE s2_G d 80 131 [] [some (aP 0), none, none, none, some (aI x4), some (aI x5), some (aI 1), some (aI (a_add x7 1))] [] M1 Q))))))) :
    aE s2_G d 80 131 [] [some (aP 0), none, none, none, some (aI x4), some (aI x5), some (aI x6), some (aI x7)] [] M Q := aE_go s2_pu_ok [(42, [true, true, false, true, true, false, false, false]), (54, [true, true, false, true, true, true, false, false]), (116, [true, false, false, false, true, true, false, false]), (131, [true, false, false, false, true, true, true, true])] 184 hd h
