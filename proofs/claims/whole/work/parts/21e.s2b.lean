/-! SYSTEM 2: its blocks, read off: what is asked of a state for a block to run on (by program) -/
-- 47: DioceseBookModel.forceOf(II)I
set_option maxRecDepth 100000 in
set_option maxHeartbeats 4000000 in
theorem s2_forceOf_0 {d : Nat} (hd : 3 < d) {M : AM} {Q : Option AV → AM → Prop} {x1 x2 : Int}
    (h : aKv s2_G d 46 [aP 0, aI x2] M (fun M1 => aKi s2_G d 36 [aI x1] M1 (fun z3 M2 => aE s2_G d 47 18 [] [some (aP 0), some (aI x1), none, some (aI z3), some (aI 0), none, none] [] (am_up M2 0 42 (-1)) Q))) :
    aE s2_G d 47 0 [] [some (aP 0), some (aI x1), some (aI x2), none, none, none, none] [] M Q := aE_go s2_pu_ok [(18, [true, true, false, true, true, false, false]), (43, [true, true, false, true, true, true, true])] 82 hd h

set_option maxRecDepth 100000 in
set_option maxHeartbeats 4000000 in
theorem s2_forceOf_18 {d : Nat} (hd : 3 < d) {M : AM} {Q : Option AV → AM → Prop} {x1 x3 x4 : Int}
    (h : ((M 0 41) ≤ x4 → Q (some (aI x3)) M) ∧ (x4 < (M 0 41) → (0 ≤ x4 ∧ x4 < 10) ∧ (aE s2_G d 47 43 [] [some (aP 0), some (aI x1), none, some (aI x3), some (aI x4), some (aI (M 26 x4)), some (aI (a_mul 12 (M 26 x4)))] [] M Q))) :
    aE s2_G d 47 18 [] [some (aP 0), some (aI x1), none, some (aI x3), some (aI x4), none, none] [] M Q := aE_go s2_pu_ok [(18, [true, true, false, true, true, false, false]), (43, [true, true, false, true, true, true, true])] 90 hd h

set_option maxRecDepth 100000 in
set_option maxHeartbeats 4000000 in
theorem s2_forceOf_43 {d : Nat} (hd : 3 < d) {M : AM} {Q : Option AV → AM → Prop} {x1 x3 x4 x5 x6 : Int}
    (h : (0 ≤ x5 ∧ x5 < 10) ∧ (((a_add (a_mul 12 x5) (M 15 x5)) ≤ x6 → aE s2_G d 47 18 [] [some (aP 0), some (aI x1), none, some (aI x3), some (aI (a_add x4 1)), none, none] [] M Q) ∧ (x6 < (a_add (a_mul 12 x5) (M 15 x5)) → (0 ≤ x6 ∧ x6 < 120) ∧ (((M 16 x6) ≠ (0 : Int) → aE s2_G d 47 43 [] [some (aP 0), some (aI x1), none, some (aI x3), some (aI x4), some (aI x5), some (aI (a_add x6 1))] [] M Q) ∧ ((M 16 x6) = (0 : Int) → (0 ≤ x6 ∧ x6 < 120) ∧ (((M 17 x6) ≠ x1 → aE s2_G d 47 43 [] [some (aP 0), some (aI x1), none, some (aI x3), some (aI x4), some (aI x5), some (aI (a_add x6 1))] [] M Q) ∧ ((M 17 x6) = x1 → (0 ≤ x6 ∧ x6 < 120) ∧ (aE s2_G d 47 43 [] [some (aP 0), some (aI x1), none, some (aI (M 18 x6)), some (aI x4), some (aI x5), some (aI (a_add x6 1))] [] (am_up M 0 42 x5) Q)))))))) :
    aE s2_G d 47 43 [] [some (aP 0), some (aI x1), none, some (aI x3), some (aI x4), some (aI x5), some (aI x6)] [] M Q := aE_go s2_pu_ok [(18, [true, true, false, true, true, false, false]), (43, [true, true, false, true, true, true, true])] 134 hd h

-- 48: DioceseBookModel.force(III)I
set_option maxRecDepth 100000 in
set_option maxHeartbeats 4000000 in
theorem s2_force_0 {d : Nat} (hd : 3 < d) {M : AM} {Q : Option AV → AM → Prop} {x1 x2 x3 : Int}
    (h : ((a_bl (0 ≤ x1 ∧ x1 ≤ 7)) = (0 : Int) → Q (some (aI (-100002))) M) ∧ ((a_bl (0 ≤ x1 ∧ x1 ≤ 7)) ≠ (0 : Int) → ((a_bl (0 ≤ x2 ∧ x2 ≤ 30000)) = (0 : Int) → Q (some (aI (-100002))) M) ∧ ((a_bl (0 ≤ x2 ∧ x2 ≤ 30000)) ≠ (0 : Int) → ((a_bl (0 ≤ x3 ∧ x3 ≤ 1)) ≠ (0 : Int) → aKi s2_G d 47 [aP 0, aI x1, aI x2] M (fun z2 M1 => (x3 ≠ (0 : Int) → Q (some (aI (M1 0 42))) M1) ∧ (x3 = (0 : Int) → Q (some (aI z2)) M1))) ∧ ((a_bl (0 ≤ x3 ∧ x3 ≤ 1)) = (0 : Int) → Q (some (aI (-100002))) M)))) :
    aE s2_G d 48 0 [] [some (aP 0), some (aI x1), some (aI x2), some (aI x3), none] [] M Q := aE_go s2_pu_ok [] 128 hd h

-- 49: DioceseBookModel.counts(II)I
set_option maxRecDepth 100000 in
set_option maxHeartbeats 4000000 in
theorem s2_counts_0 {d : Nat} (hd : 3 < d) {M : AM} {Q : Option AV → AM → Prop} {x1 x2 : Int}
    (h : ((a_bl (0 ≤ x1 ∧ x1 ≤ (a_sub (M 0 18) 1))) ≠ (0 : Int) → ((a_bl (0 ≤ x2 ∧ x2 ≤ 30000)) ≠ (0 : Int) → aKv s2_G d 46 [aP 0, aI x2] M (fun M1 => (0 ≤ x1 ∧ x1 < 10) ∧ (((M1 25 x1) = (0 : Int) → Q (some (aI 0)) M1) ∧ ((M1 25 x1) ≠ (0 : Int) → (0 ≤ x1 ∧ x1 < 10) ∧ (Q (some (aI (M1 15 x1))) M1))))) ∧ ((a_bl (0 ≤ x2 ∧ x2 ≤ 30000)) = (0 : Int) → Q (some (aI (-100002))) M)) ∧ ((a_bl (0 ≤ x1 ∧ x1 ≤ (a_sub (M 0 18) 1))) = (0 : Int) → Q (some (aI (-100001))) M)) :
    aE s2_G d 49 0 [] [some (aP 0), some (aI x1), some (aI x2)] [] M Q := aE_go s2_pu_ok [] 126 hd h

-- 50: DioceseBookModel.placeOf(II)I
set_option maxRecDepth 100000 in
set_option maxHeartbeats 4000000 in
theorem s2_placeOf_0 {d : Nat} (hd : 3 < d) {M : AM} {Q : Option AV → AM → Prop} {x1 x2 : Int}
    (h : aE s2_G d 50 2 [] [some (aP 0), some (aI x1), some (aI x2), some (aI 0)] [] M Q) :
    aE s2_G d 50 0 [] [some (aP 0), some (aI x1), some (aI x2), none] [] M Q := aE_go s2_pu_ok [(2, [true, true, true, true])] 64 hd h

set_option maxRecDepth 100000 in
set_option maxHeartbeats 4000000 in
theorem s2_placeOf_2 {d : Nat} (hd : 3 < d) {M : AM} {Q : Option AV → AM → Prop} {x1 x2 x3 : Int}
    (h : (0 ≤ x1 ∧ x1 < 12) ∧ (((M 27 x1) ≤ x3 → Q (some (aI (-1))) M) ∧ (x3 < (M 27 x1) → (0 ≤ (a_add (a_mul 40 x1) x3) ∧ (a_add (a_mul 40 x1) x3) < 480) ∧ (((M 28 (a_add (a_mul 40 x1) x3)) ≠ x2 → aE s2_G d 50 2 [] [some (aP 0), some (aI x1), some (aI x2), some (aI (a_add x3 1))] [] M Q) ∧ ((M 28 (a_add (a_mul 40 x1) x3)) = x2 → Q (some (aI x3)) M))))) :
    aE s2_G d 50 2 [] [some (aP 0), some (aI x1), some (aI x2), some (aI x3)] [] M Q := aE_go s2_pu_ok [(2, [true, true, true, true])] 104 hd h

-- 51: DioceseBookModel.note(II)V
set_option maxRecDepth 100000 in
set_option maxHeartbeats 4000000 in
theorem s2_note_0 {d : Nat} (hd : 3 < d) {M : AM} {Q : Option AV → AM → Prop} {x1 x2 : Int}
    (h : (x1 ≠ (M 0 57) → Q none M) ∧ (x1 = (M 0 57) → (0 ≤ x2 ∧ x2 < 150) ∧ ((0 ≤ (M 0 58) ∧ (M 0 58) < 160) ∧ ((0 ≤ x1 ∧ x1 < 12) ∧ ((0 ≤ ((am_up M 39 (M 0 58) (M 6 x2)) 0 58) ∧ ((am_up M 39 (M 0 58) (M 6 x2)) 0 58) < 160) ∧ ((0 ≤ ((am_up (am_up M 39 (M 0 58) (M 6 x2)) 40 ((am_up M 39 (M 0 58) (M 6 x2)) 0 58) ((am_up M 39 (M 0 58) (M 6 x2)) 27 x1)) 0 58) ∧ ((am_up (am_up M 39 (M 0 58) (M 6 x2)) 40 ((am_up M 39 (M 0 58) (M 6 x2)) 0 58) ((am_up M 39 (M 0 58) (M 6 x2)) 27 x1)) 0 58) < 160) ∧ (Q none (am_up (am_up (am_up (am_up M 39 (M 0 58) (M 6 x2)) 40 ((am_up M 39 (M 0 58) (M 6 x2)) 0 58) ((am_up M 39 (M 0 58) (M 6 x2)) 27 x1)) 41 ((am_up (am_up M 39 (M 0 58) (M 6 x2)) 40 ((am_up M 39 (M 0 58) (M 6 x2)) 0 58) ((am_up M 39 (M 0 58) (M 6 x2)) 27 x1)) 0 58) x2) 0 58 (a_add ((am_up (am_up (am_up M 39 (M 0 58) (M 6 x2)) 40 ((am_up M 39 (M 0 58) (M 6 x2)) 0 58) ((am_up M 39 (M 0 58) (M 6 x2)) 27 x1)) 41 ((am_up (am_up M 39 (M 0 58) (M 6 x2)) 40 ((am_up M 39 (M 0 58) (M 6 x2)) 0 58) ((am_up M 39 (M 0 58) (M 6 x2)) 27 x1)) 0 58) x2) 0 58) 1))))))))) :
    aE s2_G d 51 0 [] [some (aP 0), some (aI x1), some (aI x2)] [] M Q := aE_go s2_pu_ok [] 132 hd h

-- 52: DioceseBookModel.enter(III)V
set_option maxRecDepth 100000 in
set_option maxHeartbeats 4000000 in
theorem s2_enter_0 {d : Nat} (hd : 3 < d) {M : AM} {Q : Option AV → AM → Prop} {x1 x2 x3 : Int}
    (h : aKi s2_G d 50 [aP 0, aI x1, aI x2] M (fun z2 M1 => ((0 : Int) ≤ z2 → Q none M1) ∧ (z2 < (0 : Int) → (0 ≤ x1 ∧ x1 < 12) ∧ ((0 ≤ (a_add (a_mul 40 x1) (M1 27 x1)) ∧ (a_add (a_mul 40 x1) (M1 27 x1)) < 480) ∧ ((0 ≤ x1 ∧ x1 < 12) ∧ ((0 ≤ (a_add (a_mul 40 x1) ((am_up M1 28 (a_add (a_mul 40 x1) (M1 27 x1)) x2) 27 x1)) ∧ (a_add (a_mul 40 x1) ((am_up M1 28 (a_add (a_mul 40 x1) (M1 27 x1)) x2) 27 x1)) < 480) ∧ ((0 ≤ x1 ∧ x1 < 12) ∧ ((0 ≤ x1 ∧ x1 < 12) ∧ ((0 ≤ x1 ∧ x1 < 12) ∧ ((0 ≤ x1 ∧ x1 < 12) ∧ (aKv s2_G d 51 [aP 0, aI x1, aI x3] (am_up (am_up (am_up (am_up (am_up (am_up M1 28 (a_add (a_mul 40 x1) (M1 27 x1)) x2) 34 (a_add (a_mul 40 x1) ((am_up M1 28 (a_add (a_mul 40 x1) (M1 27 x1)) x2) 27 x1)) ((am_up M1 28 (a_add (a_mul 40 x1) (M1 27 x1)) x2) 0 51)) 27 x1 (a_add ((am_up (am_up M1 28 (a_add (a_mul 40 x1) (M1 27 x1)) x2) 34 (a_add (a_mul 40 x1) ((am_up M1 28 (a_add (a_mul 40 x1) (M1 27 x1)) x2) 27 x1)) ((am_up M1 28 (a_add (a_mul 40 x1) (M1 27 x1)) x2) 0 51)) 27 x1) 1)) 0 51 (a_add ((am_up (am_up (am_up M1 28 (a_add (a_mul 40 x1) (M1 27 x1)) x2) 34 (a_add (a_mul 40 x1) ((am_up M1 28 (a_add (a_mul 40 x1) (M1 27 x1)) x2) 27 x1)) ((am_up M1 28 (a_add (a_mul 40 x1) (M1 27 x1)) x2) 0 51)) 27 x1 (a_add ((am_up (am_up M1 28 (a_add (a_mul 40 x1) (M1 27 x1)) x2) 34 (a_add (a_mul 40 x1) ((am_up M1 28 (a_add (a_mul 40 x1) (M1 27 x1)) x2) 27 x1)) ((am_up M1 28 (a_add (a_mul 40 x1) (M1 27 x1)) x2) 0 51)) 27 x1) 1)) 0 51) 1)) 29 x1 (-1)) 30 x1 (-1)) (fun M3 => Q none M3)))))))))))) :
    aE s2_G d 52 0 [] [some (aP 0), some (aI x1), some (aI x2), some (aI x3)] [] M Q := aE_go s2_pu_ok [] 180 hd h

-- 53: DioceseBookModel.leave(IIII)V
set_option maxRecDepth 100000 in
set_option maxHeartbeats 4000000 in
theorem s2_leave_0 {d : Nat} (hd : 3 < d) {M : AM} {Q : Option AV → AM → Prop} {x1 x2 x3 x4 : Int}
    (h : aKi s2_G d 50 [aP 0, aI x1, aI x2] M (fun z2 M1 => ((0 : Int) ≤ z2 → (0 ≤ x1 ∧ x1 < 12) ∧ ((0 ≤ x1 ∧ x1 < 12) ∧ (aE s2_G d 53 28 [] [some (aP 0), some (aI x1), some (aI x2), some (aI x3), some (aI x4), none, some (aI z2)] [] (am_up M1 27 x1 (a_sub (M1 27 x1) 1)) Q))) ∧ (z2 < (0 : Int) → Q none M1))) :
    aE s2_G d 53 0 [] [some (aP 0), some (aI x1), some (aI x2), some (aI x3), some (aI x4), none, none] [] M Q := aE_go s2_pu_ok [(28, [true, true, true, true, true, false, true])] 96 hd h

set_option maxRecDepth 100000 in
set_option maxHeartbeats 4000000 in
theorem s2_leave_28 {d : Nat} (hd : 3 < d) {M : AM} {Q : Option AV → AM → Prop} {x1 x2 x3 x4 x6 : Int}
    (h : (0 ≤ x1 ∧ x1 < 12) ∧ (((M 27 x1) ≤ x6 → (0 ≤ x1 ∧ x1 < 12) ∧ (((M 27 x1) ≠ (0 : Int) → (x1 ≠ (M 0 57) → aKv s2_G d 51 [aP 0, aI x1, aI x4] M (fun M1 => Q none M1)) ∧ (x1 = (M 0 57) → (x2 ≠ (M 0 64) → aKv s2_G d 51 [aP 0, aI x1, aI x4] M (fun M2 => Q none M2)) ∧ (x2 = (M 0 64) → (0 ≤ x4 ∧ x4 < 150) ∧ (aKv s2_G d 51 [aP 0, aI x1, aI x4] (am_up M 0 65 (M 6 x4)) (fun M3 => Q none M3))))) ∧ ((M 27 x1) = (0 : Int) → (0 ≤ x4 ∧ x4 < 150) ∧ ((0 ≤ x1 ∧ x1 < 12) ∧ ((0 ≤ x1 ∧ x1 < 12) ∧ ((x1 ≠ ((am_up (am_up M 29 x1 (M 6 x4)) 30 x1 x3) 0 57) → aKv s2_G d 51 [aP 0, aI x1, aI x4] (am_up (am_up M 29 x1 (M 6 x4)) 30 x1 x3) (fun M4 => Q none M4)) ∧ (x1 = ((am_up (am_up M 29 x1 (M 6 x4)) 30 x1 x3) 0 57) → (x2 ≠ ((am_up (am_up M 29 x1 (M 6 x4)) 30 x1 x3) 0 64) → aKv s2_G d 51 [aP 0, aI x1, aI x4] (am_up (am_up M 29 x1 (M 6 x4)) 30 x1 x3) (fun M5 => Q none M5)) ∧ (x2 = ((am_up (am_up M 29 x1 (M 6 x4)) 30 x1 x3) 0 64) → (0 ≤ x4 ∧ x4 < 150) ∧ (aKv s2_G d 51 [aP 0, aI x1, aI x4] (am_up (am_up (am_up M 29 x1 (M 6 x4)) 30 x1 x3) 0 65 ((am_up (am_up M 29 x1 (M 6 x4)) 30 x1 x3) 6 x4)) (fun M6 => Q none M6)))))))))) ∧ (x6 < (M 27 x1) → (0 ≤ (a_add (a_add (a_mul 40 x1) x6) 1) ∧ (a_add (a_add (a_mul 40 x1) x6) 1) < 480) ∧ ((0 ≤ (a_add (a_mul 40 x1) x6) ∧ (a_add (a_mul 40 x1) x6) < 480) ∧ ((0 ≤ (a_add (a_add (a_mul 40 x1) x6) 1) ∧ (a_add (a_add (a_mul 40 x1) x6) 1) < 480) ∧ ((0 ≤ (a_add (a_mul 40 x1) x6) ∧ (a_add (a_mul 40 x1) x6) < 480) ∧ (aE s2_G d 53 28 [] [some (aP 0), some (aI x1), some (aI x2), some (aI x3), some (aI x4), none, some (aI (a_add x6 1))] [] (am_up (am_up M 28 (a_add (a_mul 40 x1) x6) (M 28 (a_add (a_add (a_mul 40 x1) x6) 1))) 34 (a_add (a_mul 40 x1) x6) ((am_up M 28 (a_add (a_mul 40 x1) x6) (M 28 (a_add (a_add (a_mul 40 x1) x6) 1))) 34 (a_add (a_add (a_mul 40 x1) x6) 1))) Q))))))) :
    aE s2_G d 53 28 [] [some (aP 0), some (aI x1), some (aI x2), some (aI x3), some (aI x4), none, some (aI x6)] [] M Q := aE_go s2_pu_ok [(28, [true, true, true, true, true, false, true])] 300 hd h

-- 54: DioceseBookModel.soldTurn(I)I
set_option maxRecDepth 100000 in
set_option maxHeartbeats 4000000 in
theorem s2_soldTurn_0 {d : Nat} (hd : 3 < d) {M : AM} {Q : Option AV → AM → Prop} {x1 : Int}
    (h : aKi s2_G d 55 [aP 0, aI x1] M (fun z2 M1 => aE s2_G d 54 8 [] [some (aP 0), some (aI x1), some (aI z2), some (aI 0)] [] M1 Q)) :
    aE s2_G d 54 0 [] [some (aP 0), some (aI x1), none, none] [] M Q := aE_go s2_pu_ok [(8, [true, true, true, true])] 72 hd h

set_option maxRecDepth 100000 in
set_option maxHeartbeats 4000000 in
theorem s2_soldTurn_8 {d : Nat} (hd : 3 < d) {M : AM} {Q : Option AV → AM → Prop} {x1 x2 x3 : Int}
    (h : ((M 0 52) ≤ x3 → Q (some (aI (-1))) M) ∧ (x3 < (M 0 52) → (0 ≤ x3 ∧ x3 < 150) ∧ (((M 35 x3) ≠ x1 → aE s2_G d 54 8 [] [some (aP 0), some (aI x1), some (aI x2), some (aI (a_add x3 1))] [] M Q) ∧ ((M 35 x3) = x1 → (0 ≤ x3 ∧ x3 < 150) ∧ (((M 36 x3) ≠ x2 → aE s2_G d 54 8 [] [some (aP 0), some (aI x1), some (aI x2), some (aI (a_add x3 1))] [] M Q) ∧ ((M 36 x3) = x2 → (0 ≤ x3 ∧ x3 < 150) ∧ (((M 38 x3) ≠ (0 : Int) → aE s2_G d 54 8 [] [some (aP 0), some (aI x1), some (aI x2), some (aI (a_add x3 1))] [] M Q) ∧ ((M 38 x3) = (0 : Int) → Q (some (aI x3)) M)))))))) :
    aE s2_G d 54 8 [] [some (aP 0), some (aI x1), some (aI x2), some (aI x3)] [] M Q := aE_go s2_pu_ok [(8, [true, true, true, true])] 122 hd h

-- 55: DioceseBookModel.turnOf(I)I
set_option maxRecDepth 100000 in
set_option maxHeartbeats 4000000 in
theorem s2_turnOf_0 {d : Nat} (hd : 3 < d) {M : AM} {Q : Option AV → AM → Prop} {x1 : Int}
    (h : (0 ≤ x1 ∧ x1 < 12) ∧ (((M 33 x1) ≠ (0 : Int) → (0 ≤ x1 ∧ x1 < 12) ∧ (Q (some (aI (M 32 x1))) M)) ∧ ((M 33 x1) = (0 : Int) → (0 ≤ x1 ∧ x1 < 12) ∧ (Q (some (aI (M 31 x1))) M)))) :
    aE s2_G d 55 0 [] [some (aP 0), some (aI x1)] [] M Q := aE_go s2_pu_ok [] 92 hd h

-- 56: DioceseBookModel.patronOf(II)I
set_option maxRecDepth 100000 in
set_option maxHeartbeats 4000000 in
theorem s2_patronOf_0 {d : Nat} (hd : 3 < d) {M : AM} {Q : Option AV → AM → Prop} {x1 x2 : Int}
    (h : (0 ≤ x1 ∧ x1 < 12) ∧ (((0 : Int) ≤ (M 31 x1) → aKi s2_G d 54 [aP 0, aI x1] M (fun z2 M1 => ((0 : Int) ≤ z2 → (0 ≤ z2 ∧ z2 < 150) ∧ (aE s2_G d 56 41 [] [some (aP 0), none, some (aI x2), none, some (aI (M1 37 z2)), some (aI 0)] [] M1 Q)) ∧ (z2 < (0 : Int) → aKi s2_G d 55 [aP 0, aI x1] M1 (fun z4 M3 => aE s2_G d 56 41 [] [some (aP 0), none, some (aI x2), none, some (aI z4), some (aI 0)] [] M3 Q)))) ∧ ((M 31 x1) < (0 : Int) → Q (some (aI (-4))) M))) :
    aE s2_G d 56 0 [] [some (aP 0), some (aI x1), some (aI x2), none, none, none] [] M Q := aE_go s2_pu_ok [(41, [true, false, true, false, true, true])] 114 hd h

set_option maxRecDepth 100000 in
set_option maxHeartbeats 4000000 in
theorem s2_patronOf_41 {d : Nat} (hd : 3 < d) {M : AM} {Q : Option AV → AM → Prop} {x2 x4 x5 : Int}
    (h : (x4 < (0 : Int) → ((0 : Int) ≤ x4 → Q (some (aI x4)) M) ∧ (x4 < (0 : Int) → Q (some (aI (-4))) M)) ∧ ((0 : Int) ≤ x4 → aKi s2_G d 23 [aP 0, aI x4, aI x2] M (fun z2 M1 => (z2 = (0 : Int) → ((0 : Int) ≤ x4 → Q (some (aI x4)) M1) ∧ (x4 < (0 : Int) → Q (some (aI (-4))) M1)) ∧ (z2 ≠ (0 : Int) → (x5 ≠ (12 : Int) → aKi s2_G d 25 [aP 0, aI x4, aI x2] M1 (fun z4 M3 => aE s2_G d 56 41 [] [some (aP 0), none, some (aI x2), none, some (aI z4), some (aI (a_add x5 1))] [] M3 Q)) ∧ (x5 = (12 : Int) → aE s2_G d 56 41 [] [some (aP 0), none, some (aI x2), none, some (aI (-1)), some (aI (a_add x5 1))] [] M1 Q))))) :
    aE s2_G d 56 41 [] [some (aP 0), none, some (aI x2), none, some (aI x4), some (aI x5)] [] M Q := aE_go s2_pu_ok [(41, [true, false, true, false, true, true])] 132 hd h

-- 57: DioceseBookModel.countFrom(I)I
set_option maxRecDepth 100000 in
set_option maxHeartbeats 4000000 in
theorem s2_countFrom_0 {d : Nat} (hd : 3 < d) {M : AM} {Q : Option AV → AM → Prop} {x1 : Int}
    (h : (0 ≤ x1 ∧ x1 < 12) ∧ (((M 30 x1) = (2 : Int) → aE s2_G d 57 19 [] [some (aP 0), some (aI x1), some (aI 0), none] [] M Q) ∧ ((M 30 x1) ≠ (2 : Int) → (0 ≤ x1 ∧ x1 < 12) ∧ (Q (some (aI (M 29 x1))) M)))) :
    aE s2_G d 57 0 [] [some (aP 0), some (aI x1), none, none] [] M Q := aE_go s2_pu_ok [(19, [true, true, true, false])] 86 hd h

set_option maxRecDepth 100000 in
set_option maxHeartbeats 4000000 in
theorem s2_countFrom_19 {d : Nat} (hd : 3 < d) {M : AM} {Q : Option AV → AM → Prop} {x1 x2 : Int}
    (h : ((M 0 17) ≤ x2 → Q (some (aI (-1))) M) ∧ (x2 < (M 0 17) → (0 ≤ x2 ∧ x2 < 150) ∧ ((0 ≤ (M 13 x2) ∧ (M 13 x2) < 150) ∧ (((M 5 (M 13 x2)) ≠ (10 : Int) → aE s2_G d 57 19 [] [some (aP 0), some (aI x1), some (aI (a_add x2 1)), none] [] M Q) ∧ ((M 5 (M 13 x2)) = (10 : Int) → (0 ≤ (M 13 x2) ∧ (M 13 x2) < 150) ∧ (((M 8 (M 13 x2)) ≠ x1 → aE s2_G d 57 19 [] [some (aP 0), some (aI x1), some (aI (a_add x2 1)), none] [] M Q) ∧ ((M 8 (M 13 x2)) = x1 → (0 ≤ (M 13 x2) ∧ (M 13 x2) < 150) ∧ ((0 ≤ x1 ∧ x1 < 12) ∧ (((M 6 (M 13 x2)) < (M 29 x1) → aE s2_G d 57 19 [] [some (aP 0), some (aI x1), some (aI (a_add x2 1)), none] [] M Q) ∧ ((M 29 x1) ≤ (M 6 (M 13 x2)) → (0 ≤ (M 13 x2) ∧ (M 13 x2) < 150) ∧ (Q (some (aI (M 6 (M 13 x2)))) M))))))))))) :
    aE s2_G d 57 19 [] [some (aP 0), some (aI x1), some (aI x2), none] [] M Q := aE_go s2_pu_ok [(19, [true, true, true, false])] 146 hd h

-- 58: DioceseBookModel.lapses(II)I
set_option maxRecDepth 100000 in
set_option maxHeartbeats 4000000 in
theorem s2_lapses_0 {d : Nat} (hd : 3 < d) {M : AM} {Q : Option AV → AM → Prop} {x1 x2 : Int}
    (h : aKi s2_G d 57 [aP 0, aI x1] M (fun z2 M1 => (0 ≤ x1 ∧ x1 < 12) ∧ (aKi s2_G d 47 [aP 0, aI 0, aI (M1 29 x1)] M1 (fun z4 M3 => (z2 < (0 : Int) → Q (some (aI 0)) M3) ∧ ((0 : Int) ≤ z2 → ((a_mul 30 z4) = (0 : Int) → Q (some (aI 0)) M3) ∧ ((a_mul 30 z4) ≠ (0 : Int) → (z2 ≤ x2 → (a_mul 30 z4) ≠ 0 ∧ (((a_div (a_sub x2 z2) (a_mul 30 z4)) ≤ (3 : Int) → Q (some (aI (a_div (a_sub x2 z2) (a_mul 30 z4)))) M3) ∧ ((3 : Int) < (a_div (a_sub x2 z2) (a_mul 30 z4)) → Q (some (aI 3)) M3))) ∧ (x2 < z2 → Q (some (aI 0)) M3))))))) :
    aE s2_G d 58 0 [] [some (aP 0), some (aI x1), some (aI x2), none, none, none] [] M Q := aE_go s2_pu_ok [] 142 hd h

-- 59: DioceseBookModel.whoMay(II)I
set_option maxRecDepth 100000 in
set_option maxHeartbeats 4000000 in
theorem s2_whoMay_0 {d : Nat} (hd : 3 < d) {M : AM} {Q : Option AV → AM → Prop} {x1 x2 : Int}
    (h : (0 ≤ x1 ∧ x1 < 12) ∧ (((M 27 x1) ≤ (0 : Int) → aKi s2_G d 58 [aP 0, aI x1, aI x2] M (fun z2 M1 => (z2 ≠ (0 : Int) → (z2 ≠ (1 : Int) → (z2 ≠ (2 : Int) → Q (some (aI (-4))) M1) ∧ (z2 = (2 : Int) → Q (some (aI (-3))) M1)) ∧ (z2 = (1 : Int) → Q (some (aI (-2))) M1)) ∧ (z2 = (0 : Int) → aKi s2_G d 56 [aP 0, aI x1, aI x2] M1 (fun z4 M3 => Q (some (aI z4)) M3)))) ∧ ((0 : Int) < (M 27 x1) → Q (some (aI (-1))) M))) :
    aE s2_G d 59 0 [] [some (aP 0), some (aI x1), some (aI x2), none] [] M Q := aE_go s2_pu_ok [] 128 hd h

-- 60: DioceseBookModel.factFor(IIII)I
set_option maxRecDepth 100000 in
set_option maxHeartbeats 4000000 in
theorem s2_factFor_0 {d : Nat} (hd : 3 < d) {M : AM} {Q : Option AV → AM → Prop} {x1 x2 x3 x4 : Int}
    (h : aE s2_G d 60 9 [] [some (aP 0), some (aI x1), some (aI x2), some (aI x3), some (aI x4), some (aI 0), some (aI 0), some (aI 0)] [] M Q) :
    aE s2_G d 60 0 [] [some (aP 0), some (aI x1), some (aI x2), some (aI x3), some (aI x4), none, none, none] [] M Q := aE_go s2_pu_ok [(9, [true, true, true, true, true, true, true, true])] 72 hd h

set_option maxRecDepth 100000 in
set_option maxHeartbeats 4000000 in
theorem s2_factFor_9 {d : Nat} (hd : 3 < d) {M : AM} {Q : Option AV → AM → Prop} {x1 x2 x3 x4 x5 x6 x7 : Int}
    (h : ((M 0 3) ≤ x7 → ((2 : Int) ≤ x1 → ((x1 = 0 → (((-1) : Int) < (0 : Int) → Q (some (aI (-1))) M) ∧ ((0 : Int) ≤ ((-1) : Int) → (((-1) : Int) ≤ x4 → (360 : Int) ≠ 0 ∧ (Q (some (aI (a_div (a_sub x4 (-1)) 360))) M)) ∧ (x4 < ((-1) : Int) → Q (some (aI (-1))) M))) ∧ (x1 = 1 → (((-1) : Int) < (0 : Int) → Q (some (aI (-1))) M) ∧ ((0 : Int) ≤ ((-1) : Int) → (((-1) : Int) ≤ x4 → Q (some (aI (a_sub x4 (-1)))) M) ∧ (x4 < ((-1) : Int) → Q (some (aI (-1))) M))) ∧ (x1 = 2 → Q (some (aI x5)) M) ∧ (x1 = 3 → Q (some (aI x6)) M) ∧ (x1 = 4 → (0 ≤ x3 ∧ x3 < 12) ∧ (Q (some (aI (M 4 x3))) M)) ∧ True) ∧ (x1 < 0 ∨ 4 < x1 → aKi s2_G d 24 [aP 0, aI x2, aI x4] M (fun z2 M1 => Q (some (aI (a_bl (z2 ≠ 0)))) M1))) ∧ (x1 < (2 : Int) → (x1 ≠ (0 : Int) → aKi s2_G d 22 [aP 0, aI 2, aI x2] M (fun z4 M3 => ((x1 = 0 → (z4 < (0 : Int) → Q (some (aI (-1))) M3) ∧ ((0 : Int) ≤ z4 → (z4 ≤ x4 → (360 : Int) ≠ 0 ∧ (Q (some (aI (a_div (a_sub x4 z4) 360))) M3)) ∧ (x4 < z4 → Q (some (aI (-1))) M3))) ∧ (x1 = 1 → (z4 < (0 : Int) → Q (some (aI (-1))) M3) ∧ ((0 : Int) ≤ z4 → (z4 ≤ x4 → Q (some (aI (a_sub x4 z4))) M3) ∧ (x4 < z4 → Q (some (aI (-1))) M3))) ∧ (x1 = 2 → Q (some (aI x5)) M3) ∧ (x1 = 3 → Q (some (aI x6)) M3) ∧ (x1 = 4 → (0 ≤ x3 ∧ x3 < 12) ∧ (Q (some (aI (M3 4 x3))) M3)) ∧ True) ∧ (x1 < 0 ∨ 4 < x1 → aKi s2_G d 24 [aP 0, aI x2, aI x4] M3 (fun z6 M5 => Q (some (aI (a_bl (z6 ≠ 0)))) M5)))) ∧ (x1 = (0 : Int) → aKi s2_G d 22 [aP 0, aI 0, aI x2] M (fun z8 M7 => ((x1 = 0 → (z8 < (0 : Int) → Q (some (aI (-1))) M7) ∧ ((0 : Int) ≤ z8 → (z8 ≤ x4 → (360 : Int) ≠ 0 ∧ (Q (some (aI (a_div (a_sub x4 z8) 360))) M7)) ∧ (x4 < z8 → Q (some (aI (-1))) M7))) ∧ (x1 = 1 → (z8 < (0 : Int) → Q (some (aI (-1))) M7) ∧ ((0 : Int) ≤ z8 → (z8 ≤ x4 → Q (some (aI (a_sub x4 z8))) M7) ∧ (x4 < z8 → Q (some (aI (-1))) M7))) ∧ (x1 = 2 → Q (some (aI x5)) M7) ∧ (x1 = 3 → Q (some (aI x6)) M7) ∧ (x1 = 4 → (0 ≤ x3 ∧ x3 < 12) ∧ (Q (some (aI (M7 4 x3))) M7)) ∧ True) ∧ (x1 < 0 ∨ 4 < x1 → aKi s2_G d 24 [aP 0, aI x2, aI x4] M7 (fun z10 M9 => Q (some (aI (a_bl (z10 ≠ 0)))) M9)))))) ∧ (x7 < (M 0 3) → (x7 = x3 → aE s2_G d 60 9 [] [some (aP 0), some (aI x1), some (aI x2), some (aI x3), some (aI x4), some (aI x5), some (aI x6), some (aI (a_add x7 1))] [] M Q) ∧ (x7 ≠ x3 → aKi s2_G d 50 [aP 0, aI x7, aI x2] M (fun z12 M11 => (z12 < (0 : Int) → aE s2_G d 60 9 [] [some (aP 0), some (aI x1), some (aI x2), some (aI x3), some (aI x4), some (aI x5), some (aI x6), some (aI (a_add x7 1))] [] M11 Q) ∧ ((0 : Int) ≤ z12 → aKi s2_G d 10 [aP 0, aI x3, aI x7] M11 (fun z14 M13 => (z14 ≤ x6 → aE s2_G d 60 9 [] [some (aP 0), some (aI x1), some (aI x2), some (aI x3), some (aI x4), some (aI (a_add x5 1)), some (aI x6), some (aI (a_add x7 1))] [] M13 Q) ∧ (x6 < z14 → aKi s2_G d 10 [aP 0, aI x3, aI x7] M13 (fun z16 M15 => aE s2_G d 60 9 [] [some (aP 0), some (aI x1), some (aI x2), some (aI x3), some (aI x4), some (aI (a_add x5 1)), some (aI z16), some (aI (a_add x7 1))] [] M15 Q)))))))) :
    aE s2_G d 60 9 [] [some (aP 0), some (aI x1), some (aI x2), some (aI x3), some (aI x4), some (aI x5), some (aI x6), some (aI x7)] [] M Q := aE_go s2_pu_ok [(9, [true, true, true, true, true, true, true, true])] 462 hd h

-- 61: DioceseBookModel.isMet(IIIIII)Z
set_option maxRecDepth 100000 in
set_option maxHeartbeats 4000000 in
theorem s2_isMet_0 {d : Nat} (hd : 3 < d) {M : AM} {Q : Option AV → AM → Prop} {x1 x2 x3 x4 x5 x6 : Int}
    (h : aE s2_G d 61 8 [] [some (aP 0), some (aI x1), none, some (aI x3), some (aI x4), some (aI x5), some (aI x6), some (aI x2), none, none, none, none] [] (am_up M 0 66 0) Q) :
    aE s2_G d 61 0 [] [some (aP 0), some (aI x1), some (aI x2), some (aI x3), some (aI x4), some (aI x5), some (aI x6), none, none, none, none, none] [] M Q := aE_go s2_pu_ok [(8, [true, true, false, true, true, true, true, true, false, false, false, false])] 70 hd h

set_option maxRecDepth 100000 in
set_option maxHeartbeats 4000000 in
theorem s2_isMet_8 {d : Nat} (hd : 3 < d) {M : AM} {Q : Option AV → AM → Prop} {x1 x3 x4 x5 x6 x7 : Int}
    (h : (x3 ≤ x7 → (0 ≤ (0 : Int) ∧ (0 : Int) < 140) ∧ (((M 42 (0 : Int)) = 0 ∨ (M 42 (0 : Int)) = 1) ∧ Q (some (aI (M 42 (0 : Int)))) M)) ∧ (x7 < x3 → (0 ≤ (a_add (a_mul 140 x1) x7) ∧ (a_add (a_mul 140 x1) x7) < 1400) ∧ (((M 22 (a_add (a_mul 140 x1) x7)) ≠ ((-3) : Int) → ((0 : Int) ≤ (M 22 (a_add (a_mul 140 x1) x7)) → (30000 : Int) ≠ 0 ∧ (aKi s2_G d 60 [aP 0, aI (a_div (M 22 (a_add (a_mul 140 x1) x7)) 30000), aI x4, aI x5, aI x6] M (fun z2 M1 => (10000 : Int) ≠ 0 ∧ ((3 : Int) ≠ 0 ∧ ((10000 : Int) ≠ 0 ∧ ((z2 < (0 : Int) → (0 ≤ (M1 0 66) ∧ (M1 0 66) < 140) ∧ (((0 : Int) = 0 ∨ (0 : Int) = 1) ∧ (aE s2_G d 61 8 [] [some (aP 0), some (aI x1), none, some (aI x3), some (aI x4), some (aI x5), some (aI x6), some (aI (a_add x7 1)), none, none, none, none] [] (am_up (am_up M1 42 (M1 0 66) 0) 0 66 (a_add ((am_up M1 42 (M1 0 66) 0) 0 66) 1)) Q))) ∧ ((0 : Int) ≤ z2 → ((a_rem (a_div (M 22 (a_add (a_mul 140 x1) x7)) 10000) 3) ≠ (0 : Int) → ((a_rem (a_div (M 22 (a_add (a_mul 140 x1) x7)) 10000) 3) ≠ (1 : Int) → (z2 ≠ (a_rem (M 22 (a_add (a_mul 140 x1) x7)) 10000) → (0 ≤ (M1 0 66) ∧ (M1 0 66) < 140) ∧ (((0 : Int) = 0 ∨ (0 : Int) = 1) ∧ (aE s2_G d 61 8 [] [some (aP 0), some (aI x1), none, some (aI x3), some (aI x4), some (aI x5), some (aI x6), some (aI (a_add x7 1)), none, none, none, none] [] (am_up (am_up M1 42 (M1 0 66) 0) 0 66 (a_add ((am_up M1 42 (M1 0 66) 0) 0 66) 1)) Q))) ∧ (z2 = (a_rem (M 22 (a_add (a_mul 140 x1) x7)) 10000) → (0 ≤ (M1 0 66) ∧ (M1 0 66) < 140) ∧ (((1 : Int) = 0 ∨ (1 : Int) = 1) ∧ (aE s2_G d 61 8 [] [some (aP 0), some (aI x1), none, some (aI x3), some (aI x4), some (aI x5), some (aI x6), some (aI (a_add x7 1)), none, none, none, none] [] (am_up (am_up M1 42 (M1 0 66) 1) 0 66 (a_add ((am_up M1 42 (M1 0 66) 1) 0 66) 1)) Q)))) ∧ ((a_rem (a_div (M 22 (a_add (a_mul 140 x1) x7)) 10000) 3) = (1 : Int) → (z2 ≤ (a_rem (M 22 (a_add (a_mul 140 x1) x7)) 10000) → (0 ≤ (M1 0 66) ∧ (M1 0 66) < 140) ∧ (((0 : Int) = 0 ∨ (0 : Int) = 1) ∧ (aE s2_G d 61 8 [] [some (aP 0), some (aI x1), none, some (aI x3), some (aI x4), some (aI x5), some (aI x6), some (aI (a_add x7 1)), none, none, none, none] [] (am_up (am_up M1 42 (M1 0 66) 0) 0 66 (a_add ((am_up M1 42 (M1 0 66) 0) 0 66) 1)) Q))) ∧ ((a_rem (M 22 (a_add (a_mul 140 x1) x7)) 10000) < z2 → (0 ≤ (M1 0 66) ∧ (M1 0 66) < 140) ∧ (((1 : Int) = 0 ∨ (1 : Int) = 1) ∧ (aE s2_G d 61 8 [] [some (aP 0), some (aI x1), none, some (aI x3), some (aI x4), some (aI x5), some (aI x6), some (aI (a_add x7 1)), none, none, none, none] [] (am_up (am_up M1 42 (M1 0 66) 1) 0 66 (a_add ((am_up M1 42 (M1 0 66) 1) 0 66) 1)) Q))))) ∧ ((a_rem (a_div (M 22 (a_add (a_mul 140 x1) x7)) 10000) 3) = (0 : Int) → ((a_rem (M 22 (a_add (a_mul 140 x1) x7)) 10000) ≤ z2 → (0 ≤ (M1 0 66) ∧ (M1 0 66) < 140) ∧ (((0 : Int) = 0 ∨ (0 : Int) = 1) ∧ (aE s2_G d 61 8 [] [some (aP 0), some (aI x1), none, some (aI x3), some (aI x4), some (aI x5), some (aI x6), some (aI (a_add x7 1)), none, none, none, none] [] (am_up (am_up M1 42 (M1 0 66) 0) 0 66 (a_add ((am_up M1 42 (M1 0 66) 0) 0 66) 1)) Q))) ∧ (z2 < (a_rem (M 22 (a_add (a_mul 140 x1) x7)) 10000) → (0 ≤ (M1 0 66) ∧ (M1 0 66) < 140) ∧ (((1 : Int) = 0 ∨ (1 : Int) = 1) ∧ (aE s2_G d 61 8 [] [some (aP 0), some (aI x1), none, some (aI x3), some (aI x4), some (aI x5), some (aI x6), some (aI (a_add x7 1)), none, none, none, none] [] (am_up (am_up M1 42 (M1 0 66) 1) 0 66 (a_add ((am_up M1 42 (M1 0 66) 1) 0 66) 1)) Q))))))))))) ∧ ((M 22 (a_add (a_mul 140 x1) x7)) < (0 : Int) → (0 ≤ (a_sub (M 0 66) 2) ∧ (a_sub (M 0 66) 2) < 140) ∧ ((0 ≤ (a_sub (M 0 66) 1) ∧ (a_sub (M 0 66) 1) < 140) ∧ (((M 22 (a_add (a_mul 140 x1) x7)) ≠ ((-1) : Int) → ((M 42 (a_sub (M 0 66) 2)) ≠ (0 : Int) → (0 ≤ (a_sub ((am_up M 0 66 (a_sub (M 0 66) 1)) 0 66) 1) ∧ (a_sub ((am_up M 0 66 (a_sub (M 0 66) 1)) 0 66) 1) < 140) ∧ (((1 : Int) = 0 ∨ (1 : Int) = 1) ∧ (aE s2_G d 61 8 [] [some (aP 0), some (aI x1), none, some (aI x3), some (aI x4), some (aI x5), some (aI x6), some (aI (a_add x7 1)), none, none, none, none] [] (am_up (am_up M 0 66 (a_sub (M 0 66) 1)) 42 (a_sub ((am_up M 0 66 (a_sub (M 0 66) 1)) 0 66) 1) 1) Q))) ∧ ((M 42 (a_sub (M 0 66) 2)) = (0 : Int) → ((M 42 (a_sub (M 0 66) 1)) = (0 : Int) → (0 ≤ (a_sub ((am_up M 0 66 (a_sub (M 0 66) 1)) 0 66) 1) ∧ (a_sub ((am_up M 0 66 (a_sub (M 0 66) 1)) 0 66) 1) < 140) ∧ (((0 : Int) = 0 ∨ (0 : Int) = 1) ∧ (aE s2_G d 61 8 [] [some (aP 0), some (aI x1), none, some (aI x3), some (aI x4), some (aI x5), some (aI x6), some (aI (a_add x7 1)), none, none, none, none] [] (am_up (am_up M 0 66 (a_sub (M 0 66) 1)) 42 (a_sub ((am_up M 0 66 (a_sub (M 0 66) 1)) 0 66) 1) 0) Q))) ∧ ((M 42 (a_sub (M 0 66) 1)) ≠ (0 : Int) → (0 ≤ (a_sub ((am_up M 0 66 (a_sub (M 0 66) 1)) 0 66) 1) ∧ (a_sub ((am_up M 0 66 (a_sub (M 0 66) 1)) 0 66) 1) < 140) ∧ (((1 : Int) = 0 ∨ (1 : Int) = 1) ∧ (aE s2_G d 61 8 [] [some (aP 0), some (aI x1), none, some (aI x3), some (aI x4), some (aI x5), some (aI x6), some (aI (a_add x7 1)), none, none, none, none] [] (am_up (am_up M 0 66 (a_sub (M 0 66) 1)) 42 (a_sub ((am_up M 0 66 (a_sub (M 0 66) 1)) 0 66) 1) 1) Q))))) ∧ ((M 22 (a_add (a_mul 140 x1) x7)) = ((-1) : Int) → ((M 42 (a_sub (M 0 66) 2)) = (0 : Int) → (0 ≤ (a_sub ((am_up M 0 66 (a_sub (M 0 66) 1)) 0 66) 1) ∧ (a_sub ((am_up M 0 66 (a_sub (M 0 66) 1)) 0 66) 1) < 140) ∧ (((0 : Int) = 0 ∨ (0 : Int) = 1) ∧ (aE s2_G d 61 8 [] [some (aP 0), some (aI x1), none, some (aI x3), some (aI x4), some (aI x5), some (aI x6), some (aI (a_add x7 1)), none, none, none, none] [] (am_up (am_up M 0 66 (a_sub (M 0 66) 1)) 42 (a_sub ((am_up M 0 66 (a_sub (M 0 66) 1)) 0 66) 1) 0) Q))) ∧ ((M 42 (a_sub (M 0 66) 2)) ≠ (0 : Int) → ((M 42 (a_sub (M 0 66) 1)) = (0 : Int) → (0 ≤ (a_sub ((am_up M 0 66 (a_sub (M 0 66) 1)) 0 66) 1) ∧ (a_sub ((am_up M 0 66 (a_sub (M 0 66) 1)) 0 66) 1) < 140) ∧ (((0 : Int) = 0 ∨ (0 : Int) = 1) ∧ (aE s2_G d 61 8 [] [some (aP 0), some (aI x1), none, some (aI x3), some (aI x4), some (aI x5), some (aI x6), some (aI (a_add x7 1)), none, none, none, none] [] (am_up (am_up M 0 66 (a_sub (M 0 66) 1)) 42 (a_sub ((am_up M 0 66 (a_sub (M 0 66) 1)) 0 66) 1) 0) Q))) ∧ ((M 42 (a_sub (M 0 66) 1)) ≠ (0 : Int) → (0 ≤ (a_sub ((am_up M 0 66 (a_sub (M 0 66) 1)) 0 66) 1) ∧ (a_sub ((am_up M 0 66 (a_sub (M 0 66) 1)) 0 66) 1) < 140) ∧ (((1 : Int) = 0 ∨ (1 : Int) = 1) ∧ (aE s2_G d 61 8 [] [some (aP 0), some (aI x1), none, some (aI x3), some (aI x4), some (aI x5), some (aI x6), some (aI (a_add x7 1)), none, none, none, none] [] (am_up (am_up M 0 66 (a_sub (M 0 66) 1)) 42 (a_sub ((am_up M 0 66 (a_sub (M 0 66) 1)) 0 66) 1) 1) Q))))))))) ∧ ((M 22 (a_add (a_mul 140 x1) x7)) = ((-3) : Int) → (0 ≤ (a_sub (M 0 66) 1) ∧ (a_sub (M 0 66) 1) < 140) ∧ (((M 42 (a_sub (M 0 66) 1)) ≠ (0 : Int) → (0 ≤ (a_sub (M 0 66) 1) ∧ (a_sub (M 0 66) 1) < 140) ∧ (((0 : Int) = 0 ∨ (0 : Int) = 1) ∧ (aE s2_G d 61 8 [] [some (aP 0), some (aI x1), none, some (aI x3), some (aI x4), some (aI x5), some (aI x6), some (aI (a_add x7 1)), none, none, none, none] [] (am_up M 42 (a_sub (M 0 66) 1) 0) Q))) ∧ ((M 42 (a_sub (M 0 66) 1)) = (0 : Int) → (0 ≤ (a_sub (M 0 66) 1) ∧ (a_sub (M 0 66) 1) < 140) ∧ (((1 : Int) = 0 ∨ (1 : Int) = 1) ∧ (aE s2_G d 61 8 [] [some (aP 0), some (aI x1), none, some (aI x3), some (aI x4), some (aI x5), some (aI x6), some (aI (a_add x7 1)), none, none, none, none] [] (am_up M 42 (a_sub (M 0 66) 1) 1) Q)))))))) :
    aE s2_G d 61 8 [] [some (aP 0), some (aI x1), none, some (aI x3), some (aI x4), some (aI x5), some (aI x6), some (aI x7), none, none, none, none] [] M Q := aE_go s2_pu_ok [(8, [true, true, false, true, true, true, true, true, false, false, false, false])] 530 hd h
