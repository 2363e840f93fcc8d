/-! SYSTEM 2: calls of which the answer is known (by program) -/
theorem a_cmp_neg {a b : Int} : a_cmp a b < 0 ↔ a < b := by
  unfold a_cmp
  split
  · omega
  · split <;> omega
theorem a_cmp_pos {a b : Int} : 0 < a_cmp a b ↔ b < a := by
  unfold a_cmp
  split
  · omega
  · split <;> omega
theorem a_cmp_nn {a b : Int} : 0 ≤ a_cmp a b ↔ b ≤ a := by
  unfold a_cmp
  split
  · omega
  · split <;> omega
theorem a_cmp_np {a b : Int} : a_cmp a b ≤ 0 ↔ a ≤ b := by
  unfold a_cmp
  split
  · omega
  · split <;> omega

def s2_pu0 : AP := fun _ _ _ => none
theorem s2_pu0_ok : aPu s2_G s2_pu0 0 := fun _ _ _ _ h => (by cases h)
theorem s2_q0_0 {d : Nat} (hd : 0 < d) {M : AM} {Q : Option AV → AM → Prop} {x0 x2 x4 : Int}
    (h : ((a_cmp x0 x2) < (0 : Int) → ((0 : Int) = 0 ∨ (0 : Int) = 1) ∧ Q (some (aI 0)) M) ∧ ((0 : Int) ≤ (a_cmp x0 x2) → ((0 : Int) < (a_cmp x0 x4) → ((0 : Int) = 0 ∨ (0 : Int) = 1) ∧ Q (some (aI 0)) M) ∧ ((a_cmp x0 x4) ≤ (0 : Int) → ((1 : Int) = 0 ∨ (1 : Int) = 1) ∧ Q (some (aI 1)) M))) :
    aE s2_G d 0 0 [] [some (aL x0), none, some (aL x2), none, some (aL x4), none] [] M Q := aE_go s2_pu0_ok [] 90 hd h

theorem s2_q0 : ∀ (v a b : Int) (M : AM), aC s2_G 1 0 [aL v, aL a, aL b] M (fun r' M' => r' = some (aI (a_bl (a ≤ v ∧ v ≤ b))) ∧ M' = M) := by
  intro v a b M
  refine ⟨Nat.le_of_ble_eq_true rfl, fun d hd => ?_⟩
  refine s2_q0_0 (by omega) ?_
  try unfold a_bl
  repeat' (first | (refine And.intro ?_ ?_) | (intro _))
  all_goals (try simp only [a_cmp_neg, a_cmp_pos, a_cmp_nn, a_cmp_np] at *)
  all_goals (first | rfl | (split <;> first | rfl | omega | (exfalso; omega) | simp_all) | omega | (exfalso; omega) | simp_all | skip)

theorem s2_q1_0 {d : Nat} (hd : 0 < d) {M : AM} {Q : Option AV → AM → Prop} {x0 : Int}
    (h : (x0 = (0 : Int) → Q (some (aI 0)) M) ∧ (x0 ≠ (0 : Int) → Q (some (aI 1)) M)) :
    aE s2_G d 1 0 [] [some (aI x0)] [] M Q := aE_go s2_pu0_ok [] 74 hd h

theorem s2_q1 : ∀ (v : Int) (M : AM), aC s2_G 1 1 [aI v] M (fun r' M' => r' = some (aI (a_bl (v ≠ 0))) ∧ M' = M) := by
  intro v M
  refine ⟨Nat.le_of_ble_eq_true rfl, fun d hd => ?_⟩
  refine s2_q1_0 (by omega) ?_
  try unfold a_bl
  repeat' (first | (refine And.intro ?_ ?_) | (intro _))
  all_goals (try simp only [a_cmp_neg, a_cmp_pos, a_cmp_nn, a_cmp_np] at *)
  all_goals (first | rfl | (split <;> first | rfl | omega | (exfalso; omega) | simp_all) | omega | (exfalso; omega) | simp_all | skip)

theorem s2_q2_0 {d : Nat} (hd : 0 < d) {M : AM} {Q : Option AV → AM → Prop} {x0 : Int}
    (h : ((0 : Int) ≤ x0 → Q (some (aI x0)) M) ∧ (x0 < (0 : Int) → Q (some (aI (a_sub 0 x0))) M)) :
    aE s2_G d 2 0 [] [some (aI x0)] [] M Q := aE_go s2_pu0_ok [] 78 hd h

theorem s2_q2 : ∀ (v : Int) (M : AM), aC s2_G 1 2 [aI v] M (fun r' M' => r' = some (aI (if v < 0 then a_sub 0 v else v)) ∧ M' = M) := by
  intro v M
  refine ⟨Nat.le_of_ble_eq_true rfl, fun d hd => ?_⟩
  refine s2_q2_0 (by omega) ?_
  try unfold a_bl
  repeat' (first | (refine And.intro ?_ ?_) | (intro _))
  all_goals (try simp only [a_cmp_neg, a_cmp_pos, a_cmp_nn, a_cmp_np] at *)
  all_goals (first | rfl | (split <;> first | rfl | omega | (exfalso; omega) | simp_all) | omega | (exfalso; omega) | simp_all | skip)

def s2_pu1 : AP := fun y as M => cond (Nat.beq y 0) (match as with
    | [.inr (.inl v), .inr (.inl a), .inr (.inl b)] => some (some (aI (a_bl (a ≤ v ∧ v ≤ b))))
    | _ => none) (cond (Nat.beq y 1) (match as with
    | [.inl v] => some (some (aI (a_bl (v ≠ 0))))
    | _ => none) (cond (Nat.beq y 2) (match as with
    | [.inl v] => some (some (aI (if v < 0 then a_sub 0 v else v)))
    | _ => none) (none)))

theorem s2_pu1_ok : aPu s2_G s2_pu1 1 := by
  intro y as M r h
  unfold s2_pu1 at h
  cases e0 : Nat.beq y 0
  rotate_left
  · rw [e0] at h
    have e := Nat.eq_of_beq_eq_true e0
    subst e
    dsimp only [cond] at h
    split at h
    · cases h; exact aC_mono (s2_q0 _ _ _ M) (by omega) (fun _ _ q => q)
    · cases h
  rw [e0] at h
  dsimp only [cond] at h
  cases e1 : Nat.beq y 1
  rotate_left
  · rw [e1] at h
    have e := Nat.eq_of_beq_eq_true e1
    subst e
    dsimp only [cond] at h
    split at h
    · cases h; exact aC_mono (s2_q1 _ M) (by omega) (fun _ _ q => q)
    · cases h
  rw [e1] at h
  dsimp only [cond] at h
  cases e2 : Nat.beq y 2
  rotate_left
  · rw [e2] at h
    have e := Nat.eq_of_beq_eq_true e2
    subst e
    dsimp only [cond] at h
    split at h
    · cases h; exact aC_mono (s2_q2 _ M) (by omega) (fun _ _ q => q)
    · cases h
  rw [e2] at h
  dsimp only [cond] at h
  cases h

theorem s2_q3_0 {d : Nat} (hd : 1 < d) {M : AM} {Q : Option AV → AM → Prop} {x1 : Int}
    (h : ((a_bl (0 ≤ x1 ∧ x1 ≤ (a_sub (M 0 1) 1))) ≠ (0 : Int) → ((0 : Int) = 0 ∨ (0 : Int) = 1) ∧ Q (some (aI 0)) M) ∧ ((a_bl (0 ≤ x1 ∧ x1 ≤ (a_sub (M 0 1) 1))) = (0 : Int) → ((1 : Int) = 0 ∨ (1 : Int) = 1) ∧ Q (some (aI 1)) M)) :
    aE s2_G d 3 0 [] [some (aP 0), some (aI x1)] [] M Q := aE_go s2_pu1_ok [] 90 hd h

theorem s2_q3 : ∀ (v : Int) (M : AM), aC s2_G 2 3 [aP 0, aI v] M (fun r' M' => r' = some (aI (a_bl ¬(0 ≤ v ∧ v ≤ a_sub (M 0 1) 1))) ∧ M' = M) := by
  intro v M
  refine ⟨Nat.le_of_ble_eq_true rfl, fun d hd => ?_⟩
  refine s2_q3_0 (by omega) ?_
  try unfold a_bl
  repeat' (first | (refine And.intro ?_ ?_) | (intro _))
  all_goals (try simp only [a_cmp_neg, a_cmp_pos, a_cmp_nn, a_cmp_np] at *)
  all_goals (first | rfl | (split <;> first | rfl | omega | (exfalso; omega) | simp_all) | omega | (exfalso; omega) | simp_all | skip)

theorem s2_q4_0 {d : Nat} (hd : 1 < d) {M : AM} {Q : Option AV → AM → Prop} {x1 : Int}
    (h : ((a_bl (0 ≤ x1 ∧ x1 ≤ (a_sub (M 0 3) 1))) ≠ (0 : Int) → ((0 : Int) = 0 ∨ (0 : Int) = 1) ∧ Q (some (aI 0)) M) ∧ ((a_bl (0 ≤ x1 ∧ x1 ≤ (a_sub (M 0 3) 1))) = (0 : Int) → ((1 : Int) = 0 ∨ (1 : Int) = 1) ∧ Q (some (aI 1)) M)) :
    aE s2_G d 4 0 [] [some (aP 0), some (aI x1)] [] M Q := aE_go s2_pu1_ok [] 90 hd h

theorem s2_q4 : ∀ (v : Int) (M : AM), aC s2_G 2 4 [aP 0, aI v] M (fun r' M' => r' = some (aI (a_bl ¬(0 ≤ v ∧ v ≤ a_sub (M 0 3) 1))) ∧ M' = M) := by
  intro v M
  refine ⟨Nat.le_of_ble_eq_true rfl, fun d hd => ?_⟩
  refine s2_q4_0 (by omega) ?_
  try unfold a_bl
  repeat' (first | (refine And.intro ?_ ?_) | (intro _))
  all_goals (try simp only [a_cmp_neg, a_cmp_pos, a_cmp_nn, a_cmp_np] at *)
  all_goals (first | rfl | (split <;> first | rfl | omega | (exfalso; omega) | simp_all) | omega | (exfalso; omega) | simp_all | skip)

theorem s2_q5_0 {d : Nat} (hd : 1 < d) {M : AM} {Q : Option AV → AM → Prop} {x0 : Int}
    (h : ((a_bl (0 ≤ x0 ∧ x0 ≤ 30000)) = 0 ∨ (a_bl (0 ≤ x0 ∧ x0 ≤ 30000)) = 1) ∧ Q (some (aI (a_bl (0 ≤ x0 ∧ x0 ≤ 30000)))) M) :
    aE s2_G d 5 0 [] [some (aI x0)] [] M Q := aE_go s2_pu1_ok [] 72 hd h

theorem s2_q5 : ∀ (v : Int) (M : AM), aC s2_G 2 5 [aI v] M (fun r' M' => r' = some (aI (a_bl (0 ≤ v ∧ v ≤ 30000))) ∧ M' = M) := by
  intro v M
  refine ⟨Nat.le_of_ble_eq_true rfl, fun d hd => ?_⟩
  refine s2_q5_0 (by omega) ?_
  try unfold a_bl
  repeat' (first | (refine And.intro ?_ ?_) | (intro _))
  all_goals (try simp only [a_cmp_neg, a_cmp_pos, a_cmp_nn, a_cmp_np] at *)
  all_goals (first | rfl | (split <;> first | rfl | omega | (exfalso; omega) | simp_all) | omega | (exfalso; omega) | simp_all | skip)

theorem s2_q6_0 {d : Nat} (hd : 1 < d) {M : AM} {Q : Option AV → AM → Prop} {x1 : Int}
    (h : ((a_bl (0 ≤ x1 ∧ x1 ≤ (M 0 0))) = 0 ∨ (a_bl (0 ≤ x1 ∧ x1 ≤ (M 0 0))) = 1) ∧ Q (some (aI (a_bl (0 ≤ x1 ∧ x1 ≤ (M 0 0))))) M) :
    aE s2_G d 6 0 [] [some (aP 0), some (aI x1)] [] M Q := aE_go s2_pu1_ok [] 76 hd h

theorem s2_q6 : ∀ (v : Int) (M : AM), aC s2_G 2 6 [aP 0, aI v] M (fun r' M' => r' = some (aI (a_bl (0 ≤ v ∧ v ≤ M 0 0))) ∧ M' = M) := by
  intro v M
  refine ⟨Nat.le_of_ble_eq_true rfl, fun d hd => ?_⟩
  refine s2_q6_0 (by omega) ?_
  try unfold a_bl
  repeat' (first | (refine And.intro ?_ ?_) | (intro _))
  all_goals (try simp only [a_cmp_neg, a_cmp_pos, a_cmp_nn, a_cmp_np] at *)
  all_goals (first | rfl | (split <;> first | rfl | omega | (exfalso; omega) | simp_all) | omega | (exfalso; omega) | simp_all | skip)

theorem s2_q84_0 {d : Nat} (hd : 1 < d) {M : AM} {Q : Option AV → AM → Prop} {x1 : Int}
    (h : ((a_bl (0 ≤ x1 ∧ x1 ≤ (a_sub (M 0 69) 1))) ≠ (0 : Int) → ((0 : Int) = 0 ∨ (0 : Int) = 1) ∧ Q (some (aI 0)) M) ∧ ((a_bl (0 ≤ x1 ∧ x1 ≤ (a_sub (M 0 69) 1))) = (0 : Int) → ((1 : Int) = 0 ∨ (1 : Int) = 1) ∧ Q (some (aI 1)) M)) :
    aE s2_G d 84 0 [] [some (aP 0), some (aI x1)] [] M Q := aE_go s2_pu1_ok [] 90 hd h

theorem s2_q84 : ∀ (v : Int) (M : AM), aC s2_G 2 84 [aP 0, aI v] M (fun r' M' => r' = some (aI (a_bl ¬(0 ≤ v ∧ v ≤ a_sub (M 0 69) 1))) ∧ M' = M) := by
  intro v M
  refine ⟨Nat.le_of_ble_eq_true rfl, fun d hd => ?_⟩
  refine s2_q84_0 (by omega) ?_
  try unfold a_bl
  repeat' (first | (refine And.intro ?_ ?_) | (intro _))
  all_goals (try simp only [a_cmp_neg, a_cmp_pos, a_cmp_nn, a_cmp_np] at *)
  all_goals (first | rfl | (split <;> first | rfl | omega | (exfalso; omega) | simp_all) | omega | (exfalso; omega) | simp_all | skip)

theorem s2_q96_0 {d : Nat} (hd : 1 < d) {M : AM} {Q : Option AV → AM → Prop} {x1 : Int}
    (h : ((a_bl (0 ≤ x1 ∧ x1 ≤ (a_sub (M 0 78) 1))) ≠ (0 : Int) → ((0 : Int) = 0 ∨ (0 : Int) = 1) ∧ Q (some (aI 0)) M) ∧ ((a_bl (0 ≤ x1 ∧ x1 ≤ (a_sub (M 0 78) 1))) = (0 : Int) → ((1 : Int) = 0 ∨ (1 : Int) = 1) ∧ Q (some (aI 1)) M)) :
    aE s2_G d 96 0 [] [some (aP 0), some (aI x1)] [] M Q := aE_go s2_pu1_ok [] 90 hd h

theorem s2_q96 : ∀ (v : Int) (M : AM), aC s2_G 2 96 [aP 0, aI v] M (fun r' M' => r' = some (aI (a_bl ¬(0 ≤ v ∧ v ≤ a_sub (M 0 78) 1))) ∧ M' = M) := by
  intro v M
  refine ⟨Nat.le_of_ble_eq_true rfl, fun d hd => ?_⟩
  refine s2_q96_0 (by omega) ?_
  try unfold a_bl
  repeat' (first | (refine And.intro ?_ ?_) | (intro _))
  all_goals (try simp only [a_cmp_neg, a_cmp_pos, a_cmp_nn, a_cmp_np] at *)
  all_goals (first | rfl | (split <;> first | rfl | omega | (exfalso; omega) | simp_all) | omega | (exfalso; omega) | simp_all | skip)

def s2_pu : AP := fun y as M => cond (Nat.beq y 0) (match as with
    | [.inr (.inl v), .inr (.inl a), .inr (.inl b)] => some (some (aI (a_bl (a ≤ v ∧ v ≤ b))))
    | _ => none) (cond (Nat.beq y 1) (match as with
    | [.inl v] => some (some (aI (a_bl (v ≠ 0))))
    | _ => none) (cond (Nat.beq y 2) (match as with
    | [.inl v] => some (some (aI (if v < 0 then a_sub 0 v else v)))
    | _ => none) (cond (Nat.beq y 3) (match as with
    | [.inr (.inr (.inl 0)), .inl v] => some (some (aI (a_bl ¬(0 ≤ v ∧ v ≤ a_sub (M 0 1) 1))))
    | _ => none) (cond (Nat.beq y 4) (match as with
    | [.inr (.inr (.inl 0)), .inl v] => some (some (aI (a_bl ¬(0 ≤ v ∧ v ≤ a_sub (M 0 3) 1))))
    | _ => none) (cond (Nat.beq y 5) (match as with
    | [.inl v] => some (some (aI (a_bl (0 ≤ v ∧ v ≤ 30000))))
    | _ => none) (cond (Nat.beq y 6) (match as with
    | [.inr (.inr (.inl 0)), .inl v] => some (some (aI (a_bl (0 ≤ v ∧ v ≤ M 0 0))))
    | _ => none) (cond (Nat.beq y 84) (match as with
    | [.inr (.inr (.inl 0)), .inl v] => some (some (aI (a_bl ¬(0 ≤ v ∧ v ≤ a_sub (M 0 69) 1))))
    | _ => none) (cond (Nat.beq y 96) (match as with
    | [.inr (.inr (.inl 0)), .inl v] => some (some (aI (a_bl ¬(0 ≤ v ∧ v ≤ a_sub (M 0 78) 1))))
    | _ => none) (none)))))))))

theorem s2_pu_ok : aPu s2_G s2_pu 3 := by
  intro y as M r h
  unfold s2_pu at h
  cases e0 : Nat.beq y 0
  rotate_left
  · rw [e0] at h
    have e := Nat.eq_of_beq_eq_true e0
    subst e
    dsimp only [cond] at h
    split at h
    · cases h; exact aC_mono (s2_q0 _ _ _ M) (by omega) (fun _ _ q => q)
    · cases h
  rw [e0] at h
  dsimp only [cond] at h
  cases e1 : Nat.beq y 1
  rotate_left
  · rw [e1] at h
    have e := Nat.eq_of_beq_eq_true e1
    subst e
    dsimp only [cond] at h
    split at h
    · cases h; exact aC_mono (s2_q1 _ M) (by omega) (fun _ _ q => q)
    · cases h
  rw [e1] at h
  dsimp only [cond] at h
  cases e2 : Nat.beq y 2
  rotate_left
  · rw [e2] at h
    have e := Nat.eq_of_beq_eq_true e2
    subst e
    dsimp only [cond] at h
    split at h
    · cases h; exact aC_mono (s2_q2 _ M) (by omega) (fun _ _ q => q)
    · cases h
  rw [e2] at h
  dsimp only [cond] at h
  cases e3 : Nat.beq y 3
  rotate_left
  · rw [e3] at h
    have e := Nat.eq_of_beq_eq_true e3
    subst e
    dsimp only [cond] at h
    split at h
    · cases h; exact aC_mono (s2_q3 _ M) (by omega) (fun _ _ q => q)
    · cases h
  rw [e3] at h
  dsimp only [cond] at h
  cases e4 : Nat.beq y 4
  rotate_left
  · rw [e4] at h
    have e := Nat.eq_of_beq_eq_true e4
    subst e
    dsimp only [cond] at h
    split at h
    · cases h; exact aC_mono (s2_q4 _ M) (by omega) (fun _ _ q => q)
    · cases h
  rw [e4] at h
  dsimp only [cond] at h
  cases e5 : Nat.beq y 5
  rotate_left
  · rw [e5] at h
    have e := Nat.eq_of_beq_eq_true e5
    subst e
    dsimp only [cond] at h
    split at h
    · cases h; exact aC_mono (s2_q5 _ M) (by omega) (fun _ _ q => q)
    · cases h
  rw [e5] at h
  dsimp only [cond] at h
  cases e6 : Nat.beq y 6
  rotate_left
  · rw [e6] at h
    have e := Nat.eq_of_beq_eq_true e6
    subst e
    dsimp only [cond] at h
    split at h
    · cases h; exact aC_mono (s2_q6 _ M) (by omega) (fun _ _ q => q)
    · cases h
  rw [e6] at h
  dsimp only [cond] at h
  cases e84 : Nat.beq y 84
  rotate_left
  · rw [e84] at h
    have e := Nat.eq_of_beq_eq_true e84
    subst e
    dsimp only [cond] at h
    split at h
    · cases h; exact aC_mono (s2_q84 _ M) (by omega) (fun _ _ q => q)
    · cases h
  rw [e84] at h
  dsimp only [cond] at h
  cases e96 : Nat.beq y 96
  rotate_left
  · rw [e96] at h
    have e := Nat.eq_of_beq_eq_true e96
    subst e
    dsimp only [cond] at h
    split at h
    · cases h; exact aC_mono (s2_q96 _ M) (by omega) (fun _ _ q => q)
    · cases h
  rw [e96] at h
  dsimp only [cond] at h
  cases h

