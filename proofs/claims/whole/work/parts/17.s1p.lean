/-! SYSTEM 1: calls of which the answer is known (by program) -/
def s1_pu0 : AP := fun _ _ _ => none
theorem s1_pu0_ok : aPu s1_G s1_pu0 0 := fun _ _ _ _ h => (by cases h)
theorem s1_q140_0 {d : Nat} (hd : 0 < d) {M : AM} {Q : Option AV → AM → Prop} {x0 x1 x2 : Int}
    (h : (x0 < x1 → ((0 : Int) = 0 ∨ (0 : Int) = 1) ∧ Q (some (aI 0)) M) ∧ (x1 ≤ x0 → (x2 < x0 → ((0 : Int) = 0 ∨ (0 : Int) = 1) ∧ Q (some (aI 0)) M) ∧ (x0 ≤ x2 → ((1 : Int) = 0 ∨ (1 : Int) = 1) ∧ Q (some (aI 1)) M))) :
    aE s1_G d 140 0 [] [some (aI x0), some (aI x1), some (aI x2)] [] M Q := aE_go s1_pu0_ok [] 86 hd h

theorem s1_q140 : ∀ (v a b : Int) (M : AM), aC s1_G 1 140 [aI v, aI a, aI b] M (fun r' M' => r' = some (aI (a_bl (a ≤ v ∧ v ≤ b))) ∧ M' = M) := by
  intro v a b M
  refine ⟨Nat.le_of_ble_eq_true rfl, fun d hd => ?_⟩
  refine s1_q140_0 (by omega) ?_
  try unfold a_bl
  repeat' (first | (refine And.intro ?_ ?_) | (intro _))
  all_goals (first | rfl | (split <;> first | rfl | omega | (exfalso; omega) | simp_all) | omega | (exfalso; omega) | simp_all | skip)

theorem s1_q141_0 {d : Nat} (hd : 0 < d) {M : AM} {Q : Option AV → AM → Prop} {x0 : Int}
    (h : (x0 = (0 : Int) → Q (some (aI 0)) M) ∧ (x0 ≠ (0 : Int) → Q (some (aI 1)) M)) :
    aE s1_G d 141 0 [] [some (aI x0)] [] M Q := aE_go s1_pu0_ok [] 74 hd h

theorem s1_q141 : ∀ (v : Int) (M : AM), aC s1_G 1 141 [aI v] M (fun r' M' => r' = some (aI (a_bl (v ≠ 0))) ∧ M' = M) := by
  intro v M
  refine ⟨Nat.le_of_ble_eq_true rfl, fun d hd => ?_⟩
  refine s1_q141_0 (by omega) ?_
  try unfold a_bl
  repeat' (first | (refine And.intro ?_ ?_) | (intro _))
  all_goals (first | rfl | (split <;> first | rfl | omega | (exfalso; omega) | simp_all) | omega | (exfalso; omega) | simp_all | skip)

def s1_pu1 : AP := fun y as M => cond (Nat.beq y 140) (match as with
    | [.inl v, .inl a, .inl b] => some (some (aI (a_bl (a ≤ v ∧ v ≤ b))))
    | _ => none) (cond (Nat.beq y 141) (match as with
    | [.inl v] => some (some (aI (a_bl (v ≠ 0))))
    | _ => none) (none))

theorem s1_pu1_ok : aPu s1_G s1_pu1 1 := by
  intro y as M r h
  unfold s1_pu1 at h
  cases e140 : Nat.beq y 140
  rotate_left
  · rw [e140] at h
    have e := Nat.eq_of_beq_eq_true e140
    subst e
    dsimp only [cond] at h
    split at h
    · cases h; exact aC_mono (s1_q140 _ _ _ M) (by omega) (fun _ _ q => q)
    · cases h
  rw [e140] at h
  dsimp only [cond] at h
  cases e141 : Nat.beq y 141
  rotate_left
  · rw [e141] at h
    have e := Nat.eq_of_beq_eq_true e141
    subst e
    dsimp only [cond] at h
    split at h
    · cases h; exact aC_mono (s1_q141 _ M) (by omega) (fun _ _ q => q)
    · cases h
  rw [e141] at h
  dsimp only [cond] at h
  cases h

theorem s1_q142_0 {d : Nat} (hd : 1 < d) {M : AM} {Q : Option AV → AM → Prop} {x0 : Int}
    (h : ((a_bl (0 ≤ x0 ∧ x0 ≤ 30000)) = 0 ∨ (a_bl (0 ≤ x0 ∧ x0 ≤ 30000)) = 1) ∧ Q (some (aI (a_bl (0 ≤ x0 ∧ x0 ≤ 30000)))) M) :
    aE s1_G d 142 0 [] [some (aI x0)] [] M Q := aE_go s1_pu1_ok [] 70 hd h

theorem s1_q142 : ∀ (v : Int) (M : AM), aC s1_G 2 142 [aI v] M (fun r' M' => r' = some (aI (a_bl (0 ≤ v ∧ v ≤ 30000))) ∧ M' = M) := by
  intro v M
  refine ⟨Nat.le_of_ble_eq_true rfl, fun d hd => ?_⟩
  refine s1_q142_0 (by omega) ?_
  try unfold a_bl
  repeat' (first | (refine And.intro ?_ ?_) | (intro _))
  all_goals (first | rfl | (split <;> first | rfl | omega | (exfalso; omega) | simp_all) | omega | (exfalso; omega) | simp_all | skip)

theorem s1_q143_0 {d : Nat} (hd : 1 < d) {M : AM} {Q : Option AV → AM → Prop} {x0 : Int}
    (h : ((a_bl (0 ≤ x0 ∧ x0 ≤ 99)) = 0 ∨ (a_bl (0 ≤ x0 ∧ x0 ≤ 99)) = 1) ∧ Q (some (aI (a_bl (0 ≤ x0 ∧ x0 ≤ 99)))) M) :
    aE s1_G d 143 0 [] [some (aI x0)] [] M Q := aE_go s1_pu1_ok [] 70 hd h

theorem s1_q143 : ∀ (v : Int) (M : AM), aC s1_G 2 143 [aI v] M (fun r' M' => r' = some (aI (a_bl (0 ≤ v ∧ v ≤ 99))) ∧ M' = M) := by
  intro v M
  refine ⟨Nat.le_of_ble_eq_true rfl, fun d hd => ?_⟩
  refine s1_q143_0 (by omega) ?_
  try unfold a_bl
  repeat' (first | (refine And.intro ?_ ?_) | (intro _))
  all_goals (first | rfl | (split <;> first | rfl | omega | (exfalso; omega) | simp_all) | omega | (exfalso; omega) | simp_all | skip)

theorem s1_q144_0 {d : Nat} (hd : 1 < d) {M : AM} {Q : Option AV → AM → Prop} {x0 x1 : Int}
    (h : ((a_bl ((-50) ≤ x0 ∧ x0 ≤ 50)) = (0 : Int) → ((0 : Int) = 0 ∨ (0 : Int) = 1) ∧ Q (some (aI 0)) M) ∧ ((a_bl ((-50) ≤ x0 ∧ x0 ≤ 50)) ≠ (0 : Int) → ((a_bl ((-50) ≤ x1 ∧ x1 ≤ 50)) = (0 : Int) → ((0 : Int) = 0 ∨ (0 : Int) = 1) ∧ Q (some (aI 0)) M) ∧ ((a_bl ((-50) ≤ x1 ∧ x1 ≤ 50)) ≠ (0 : Int) → ((1 : Int) = 0 ∨ (1 : Int) = 1) ∧ Q (some (aI 1)) M))) :
    aE s1_G d 144 0 [] [some (aI x0), some (aI x1)] [] M Q := aE_go s1_pu1_ok [] 94 hd h

theorem s1_q144 : ∀ (v a : Int) (M : AM), aC s1_G 2 144 [aI v, aI a] M (fun r' M' => r' = some (aI (a_bl ((-50 ≤ v ∧ v ≤ 50) ∧ (-50 ≤ a ∧ a ≤ 50)))) ∧ M' = M) := by
  intro v a M
  refine ⟨Nat.le_of_ble_eq_true rfl, fun d hd => ?_⟩
  refine s1_q144_0 (by omega) ?_
  try unfold a_bl
  repeat' (first | (refine And.intro ?_ ?_) | (intro _))
  all_goals (first | rfl | (split <;> first | rfl | omega | (exfalso; omega) | simp_all) | omega | (exfalso; omega) | simp_all | skip)

theorem s1_q145_0 {d : Nat} (hd : 1 < d) {M : AM} {Q : Option AV → AM → Prop} {x1 : Int}
    (h : ((a_bl (0 ≤ x1 ∧ x1 ≤ (M 0 10))) = 0 ∨ (a_bl (0 ≤ x1 ∧ x1 ≤ (M 0 10))) = 1) ∧ Q (some (aI (a_bl (0 ≤ x1 ∧ x1 ≤ (M 0 10))))) M) :
    aE s1_G d 145 0 [] [some (aP 0), some (aI x1)] [] M Q := aE_go s1_pu1_ok [] 72 hd h

theorem s1_q145 : ∀ (v : Int) (M : AM), aC s1_G 2 145 [aP 0, aI v] M (fun r' M' => r' = some (aI (a_bl (0 ≤ v ∧ v ≤ M 0 10))) ∧ M' = M) := by
  intro v M
  refine ⟨Nat.le_of_ble_eq_true rfl, fun d hd => ?_⟩
  refine s1_q145_0 (by omega) ?_
  try unfold a_bl
  repeat' (first | (refine And.intro ?_ ?_) | (intro _))
  all_goals (first | rfl | (split <;> first | rfl | omega | (exfalso; omega) | simp_all) | omega | (exfalso; omega) | simp_all | skip)

theorem s1_q146_0 {d : Nat} (hd : 1 < d) {M : AM} {Q : Option AV → AM → Prop} {x1 : Int}
    (h : ((a_bl (0 ≤ x1 ∧ x1 ≤ (a_sub (M 1 4) 1))) = 0 ∨ (a_bl (0 ≤ x1 ∧ x1 ≤ (a_sub (M 1 4) 1))) = 1) ∧ Q (some (aI (a_bl (0 ≤ x1 ∧ x1 ≤ (a_sub (M 1 4) 1))))) M) :
    aE s1_G d 146 0 [] [some (aP 0), some (aI x1)] [] M Q := aE_go s1_pu1_ok [] 78 hd h

theorem s1_q146 : ∀ (v : Int) (M : AM), aC s1_G 2 146 [aP 0, aI v] M (fun r' M' => r' = some (aI (a_bl (0 ≤ v ∧ v ≤ a_sub (M 1 4) 1))) ∧ M' = M) := by
  intro v M
  refine ⟨Nat.le_of_ble_eq_true rfl, fun d hd => ?_⟩
  refine s1_q146_0 (by omega) ?_
  try unfold a_bl
  repeat' (first | (refine And.intro ?_ ?_) | (intro _))
  all_goals (first | rfl | (split <;> first | rfl | omega | (exfalso; omega) | simp_all) | omega | (exfalso; omega) | simp_all | skip)

theorem s1_q147_0 {d : Nat} (hd : 1 < d) {M : AM} {Q : Option AV → AM → Prop} {x1 : Int}
    (h : ((a_bl (0 ≤ x1 ∧ x1 ≤ (a_sub (M 1 5) 1))) = 0 ∨ (a_bl (0 ≤ x1 ∧ x1 ≤ (a_sub (M 1 5) 1))) = 1) ∧ Q (some (aI (a_bl (0 ≤ x1 ∧ x1 ≤ (a_sub (M 1 5) 1))))) M) :
    aE s1_G d 147 0 [] [some (aP 0), some (aI x1)] [] M Q := aE_go s1_pu1_ok [] 78 hd h

theorem s1_q147 : ∀ (v : Int) (M : AM), aC s1_G 2 147 [aP 0, aI v] M (fun r' M' => r' = some (aI (a_bl (0 ≤ v ∧ v ≤ a_sub (M 1 5) 1))) ∧ M' = M) := by
  intro v M
  refine ⟨Nat.le_of_ble_eq_true rfl, fun d hd => ?_⟩
  refine s1_q147_0 (by omega) ?_
  try unfold a_bl
  repeat' (first | (refine And.intro ?_ ?_) | (intro _))
  all_goals (first | rfl | (split <;> first | rfl | omega | (exfalso; omega) | simp_all) | omega | (exfalso; omega) | simp_all | skip)

theorem s1_q148_0 {d : Nat} (hd : 1 < d) {M : AM} {Q : Option AV → AM → Prop} {x1 : Int}
    (h : ((a_bl (0 ≤ x1 ∧ x1 ≤ (a_sub (M 6 7) 1))) = 0 ∨ (a_bl (0 ≤ x1 ∧ x1 ≤ (a_sub (M 6 7) 1))) = 1) ∧ Q (some (aI (a_bl (0 ≤ x1 ∧ x1 ≤ (a_sub (M 6 7) 1))))) M) :
    aE s1_G d 148 0 [] [some (aP 0), some (aI x1)] [] M Q := aE_go s1_pu1_ok [] 78 hd h

theorem s1_q148 : ∀ (v : Int) (M : AM), aC s1_G 2 148 [aP 0, aI v] M (fun r' M' => r' = some (aI (a_bl (0 ≤ v ∧ v ≤ a_sub (M 6 7) 1))) ∧ M' = M) := by
  intro v M
  refine ⟨Nat.le_of_ble_eq_true rfl, fun d hd => ?_⟩
  refine s1_q148_0 (by omega) ?_
  try unfold a_bl
  repeat' (first | (refine And.intro ?_ ?_) | (intro _))
  all_goals (first | rfl | (split <;> first | rfl | omega | (exfalso; omega) | simp_all) | omega | (exfalso; omega) | simp_all | skip)

theorem s1_q149_0 {d : Nat} (hd : 1 < d) {M : AM} {Q : Option AV → AM → Prop} {x1 : Int}
    (h : ((a_bl (0 ≤ x1 ∧ x1 ≤ (a_sub (M 69 4) 1))) = 0 ∨ (a_bl (0 ≤ x1 ∧ x1 ≤ (a_sub (M 69 4) 1))) = 1) ∧ Q (some (aI (a_bl (0 ≤ x1 ∧ x1 ≤ (a_sub (M 69 4) 1))))) M) :
    aE s1_G d 149 0 [] [some (aP 0), some (aI x1)] [] M Q := aE_go s1_pu1_ok [] 78 hd h

theorem s1_q149 : ∀ (v : Int) (M : AM), aC s1_G 2 149 [aP 0, aI v] M (fun r' M' => r' = some (aI (a_bl (0 ≤ v ∧ v ≤ a_sub (M 69 4) 1))) ∧ M' = M) := by
  intro v M
  refine ⟨Nat.le_of_ble_eq_true rfl, fun d hd => ?_⟩
  refine s1_q149_0 (by omega) ?_
  try unfold a_bl
  repeat' (first | (refine And.intro ?_ ?_) | (intro _))
  all_goals (first | rfl | (split <;> first | rfl | omega | (exfalso; omega) | simp_all) | omega | (exfalso; omega) | simp_all | skip)

theorem s1_q150_0 {d : Nat} (hd : 1 < d) {M : AM} {Q : Option AV → AM → Prop} {x1 : Int}
    (h : ((a_bl (0 ≤ x1 ∧ x1 ≤ (a_sub (M 181 5) 1))) = 0 ∨ (a_bl (0 ≤ x1 ∧ x1 ≤ (a_sub (M 181 5) 1))) = 1) ∧ Q (some (aI (a_bl (0 ≤ x1 ∧ x1 ≤ (a_sub (M 181 5) 1))))) M) :
    aE s1_G d 150 0 [] [some (aP 0), some (aI x1)] [] M Q := aE_go s1_pu1_ok [] 78 hd h

theorem s1_q150 : ∀ (v : Int) (M : AM), aC s1_G 2 150 [aP 0, aI v] M (fun r' M' => r' = some (aI (a_bl (0 ≤ v ∧ v ≤ a_sub (M 181 5) 1))) ∧ M' = M) := by
  intro v M
  refine ⟨Nat.le_of_ble_eq_true rfl, fun d hd => ?_⟩
  refine s1_q150_0 (by omega) ?_
  try unfold a_bl
  repeat' (first | (refine And.intro ?_ ?_) | (intro _))
  all_goals (first | rfl | (split <;> first | rfl | omega | (exfalso; omega) | simp_all) | omega | (exfalso; omega) | simp_all | skip)

def s1_pu : AP := fun y as M => cond (Nat.beq y 140) (match as with
    | [.inl v, .inl a, .inl b] => some (some (aI (a_bl (a ≤ v ∧ v ≤ b))))
    | _ => none) (cond (Nat.beq y 141) (match as with
    | [.inl v] => some (some (aI (a_bl (v ≠ 0))))
    | _ => none) (cond (Nat.beq y 142) (match as with
    | [.inl v] => some (some (aI (a_bl (0 ≤ v ∧ v ≤ 30000))))
    | _ => none) (cond (Nat.beq y 143) (match as with
    | [.inl v] => some (some (aI (a_bl (0 ≤ v ∧ v ≤ 99))))
    | _ => none) (cond (Nat.beq y 144) (match as with
    | [.inl v, .inl a] => some (some (aI (a_bl ((-50 ≤ v ∧ v ≤ 50) ∧ (-50 ≤ a ∧ a ≤ 50)))))
    | _ => none) (cond (Nat.beq y 145) (match as with
    | [.inr (.inr (.inl 0)), .inl v] => some (some (aI (a_bl (0 ≤ v ∧ v ≤ M 0 10))))
    | _ => none) (cond (Nat.beq y 146) (match as with
    | [.inr (.inr (.inl 0)), .inl v] => some (some (aI (a_bl (0 ≤ v ∧ v ≤ a_sub (M 1 4) 1))))
    | _ => none) (cond (Nat.beq y 147) (match as with
    | [.inr (.inr (.inl 0)), .inl v] => some (some (aI (a_bl (0 ≤ v ∧ v ≤ a_sub (M 1 5) 1))))
    | _ => none) (cond (Nat.beq y 148) (match as with
    | [.inr (.inr (.inl 0)), .inl v] => some (some (aI (a_bl (0 ≤ v ∧ v ≤ a_sub (M 6 7) 1))))
    | _ => none) (cond (Nat.beq y 149) (match as with
    | [.inr (.inr (.inl 0)), .inl v] => some (some (aI (a_bl (0 ≤ v ∧ v ≤ a_sub (M 69 4) 1))))
    | _ => none) (cond (Nat.beq y 150) (match as with
    | [.inr (.inr (.inl 0)), .inl v] => some (some (aI (a_bl (0 ≤ v ∧ v ≤ a_sub (M 181 5) 1))))
    | _ => none) (none)))))))))))

theorem s1_pu_ok : aPu s1_G s1_pu 3 := by
  intro y as M r h
  unfold s1_pu at h
  cases e140 : Nat.beq y 140
  rotate_left
  · rw [e140] at h
    have e := Nat.eq_of_beq_eq_true e140
    subst e
    dsimp only [cond] at h
    split at h
    · cases h; exact aC_mono (s1_q140 _ _ _ M) (by omega) (fun _ _ q => q)
    · cases h
  rw [e140] at h
  dsimp only [cond] at h
  cases e141 : Nat.beq y 141
  rotate_left
  · rw [e141] at h
    have e := Nat.eq_of_beq_eq_true e141
    subst e
    dsimp only [cond] at h
    split at h
    · cases h; exact aC_mono (s1_q141 _ M) (by omega) (fun _ _ q => q)
    · cases h
  rw [e141] at h
  dsimp only [cond] at h
  cases e142 : Nat.beq y 142
  rotate_left
  · rw [e142] at h
    have e := Nat.eq_of_beq_eq_true e142
    subst e
    dsimp only [cond] at h
    split at h
    · cases h; exact aC_mono (s1_q142 _ M) (by omega) (fun _ _ q => q)
    · cases h
  rw [e142] at h
  dsimp only [cond] at h
  cases e143 : Nat.beq y 143
  rotate_left
  · rw [e143] at h
    have e := Nat.eq_of_beq_eq_true e143
    subst e
    dsimp only [cond] at h
    split at h
    · cases h; exact aC_mono (s1_q143 _ M) (by omega) (fun _ _ q => q)
    · cases h
  rw [e143] at h
  dsimp only [cond] at h
  cases e144 : Nat.beq y 144
  rotate_left
  · rw [e144] at h
    have e := Nat.eq_of_beq_eq_true e144
    subst e
    dsimp only [cond] at h
    split at h
    · cases h; exact aC_mono (s1_q144 _ _ M) (by omega) (fun _ _ q => q)
    · cases h
  rw [e144] at h
  dsimp only [cond] at h
  cases e145 : Nat.beq y 145
  rotate_left
  · rw [e145] at h
    have e := Nat.eq_of_beq_eq_true e145
    subst e
    dsimp only [cond] at h
    split at h
    · cases h; exact aC_mono (s1_q145 _ M) (by omega) (fun _ _ q => q)
    · cases h
  rw [e145] at h
  dsimp only [cond] at h
  cases e146 : Nat.beq y 146
  rotate_left
  · rw [e146] at h
    have e := Nat.eq_of_beq_eq_true e146
    subst e
    dsimp only [cond] at h
    split at h
    · cases h; exact aC_mono (s1_q146 _ M) (by omega) (fun _ _ q => q)
    · cases h
  rw [e146] at h
  dsimp only [cond] at h
  cases e147 : Nat.beq y 147
  rotate_left
  · rw [e147] at h
    have e := Nat.eq_of_beq_eq_true e147
    subst e
    dsimp only [cond] at h
    split at h
    · cases h; exact aC_mono (s1_q147 _ M) (by omega) (fun _ _ q => q)
    · cases h
  rw [e147] at h
  dsimp only [cond] at h
  cases e148 : Nat.beq y 148
  rotate_left
  · rw [e148] at h
    have e := Nat.eq_of_beq_eq_true e148
    subst e
    dsimp only [cond] at h
    split at h
    · cases h; exact aC_mono (s1_q148 _ M) (by omega) (fun _ _ q => q)
    · cases h
  rw [e148] at h
  dsimp only [cond] at h
  cases e149 : Nat.beq y 149
  rotate_left
  · rw [e149] at h
    have e := Nat.eq_of_beq_eq_true e149
    subst e
    dsimp only [cond] at h
    split at h
    · cases h; exact aC_mono (s1_q149 _ M) (by omega) (fun _ _ q => q)
    · cases h
  rw [e149] at h
  dsimp only [cond] at h
  cases e150 : Nat.beq y 150
  rotate_left
  · rw [e150] at h
    have e := Nat.eq_of_beq_eq_true e150
    subst e
    dsimp only [cond] at h
    split at h
    · cases h; exact aC_mono (s1_q150 _ M) (by omega) (fun _ _ q => q)
    · cases h
  rw [e150] at h
  dsimp only [cond] at h
  cases h

