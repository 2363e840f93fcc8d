/-! THE EASY CALLS of suits: present, step, appeal; fault -/
theorem c1_fault {D M : AM} (hB : B1 D M) : aCi s1_G 4 118 [aP 0] M (fun z M' => z = D 0 32 ∧ M' = M) := by
  refine ⟨Nat.le_of_ble_eq_true rfl, fun d hd => ?_⟩
  refine s1_fault_0 (by omega) ?_
  exact ⟨_, rfl, B1_rw hB, rfl⟩
theorem c2_fault {M : AM} : aCi s2_G 4 45 [aP 0] M (fun z M' => z = M 0 32 ∧ M' = M) := by
  refine ⟨Nat.le_of_ble_eq_true rfl, fun d hd => ?_⟩
  refine s2_fault_0 (by omega) ?_
  exact ⟨_, rfl, rfl, rfl⟩
/-- what a call of suits may write -/
abbrev wdS : Nat → Int → Bool := wr [44, 45, 46] [(0, 69)]
abbrev wmS : Nat → Int → Bool := wr [70, 71, 72] [(69, 4)]
theorem B1_suit {D D' M M' : AM} (hB : B1 D M) (gD : fr wdS D D') (gM : fr wmS M M') (hS : S1 D' M') : B1 D' M' := by
  refine ⟨?_, G1_fw (B1_G hB) gD gM rfl, P1_fw (B1_P hB) gD gM rfl, C1_fw (B1_C hB) gD gM rfl, R1_fw (B1_R hB) gD gM rfl, hS, F1_fw (B1_F hB) gD gM rfl, E1_fw (B1_E hB) gD gM rfl⟩
  rw [gD 0 0 rfl, gM 0 10 rfl]
  exact B1_now hB
theorem Inv_suit {D D' : AM} (hI : Inv D) (gD : fr wdS D D') (hS : InvS D') : Inv D' := by
  refine ⟨?_, InvG_fw (Inv_G hI) gD rfl, InvP_fw (Inv_P hI) gD rfl, InvL_fw (Inv_L hI) gD rfl, InvC_fw (Inv_C hI) gD rfl, InvR_fw (Inv_R hI) gD rfl, hS, InvF_fw (Inv_F hI) gD rfl, InvE_fw (Inv_E hI) gD rfl⟩
  rw [gD 0 0 rfl]
  exact Inv_now hI
/-- present -/
def f_present (D : AM) (p l t : Int) : Int × AM :=
  if ¬ (0 ≤ p ∧ p < D 0 1) then (-100001, D) else if ¬ (0 ≤ l ∧ l < D 0 3) then (-100001, D) else
  if ¬ (0 ≤ t ∧ t ≤ D 0 0) then (-100002, D) else if D 0 69 = 20 then (-100004, D) else
  (D 0 69, am_up (am_up (am_up D 44 (D 0 69) t) 45 (D 0 69) 0) 0 69 (D 0 69 + 1))
def f1_present (D M : AM) (p l t : Int) : AM :=
  if (0 ≤ p ∧ p < D 0 1) ∧ (0 ≤ l ∧ l < D 0 3) ∧ (0 ≤ t ∧ t ≤ D 0 0) ∧ D 0 69 ≠ 20 then am_up (am_up (am_up M 70 (D 0 69) t) 71 (D 0 69) 0) 69 4 (D 0 69 + 1) else M
theorem s1_Suits_add {D M : AM} {t : Int} (hI : Inv D) (hB : B1 D M) : aCi s1_G 4 85 [aP 69, aI t] M (fun z M' => if D 0 69 = 20 then z = -100004 ∧ M' = M else z = D 0 69 ∧ M' = am_up (am_up (am_up M 70 (D 0 69) t) 71 (D 0 69) 0) 69 4 (D 0 69 + 1)) := by
  refine ⟨Nat.le_of_ble_eq_true rfl, fun d hd => ?_⟩
  refine s1_Suits_add_0 (by omega) ?_
  have h1 := Inv_sn hI
  have h2 := B1_sn hB
  simp (decide := true) only [x_uc, x_us, h2]
  rw [x_add (by omega)]
  (repeat' (with_reducible first | refine And.intro ?_ ?_ | intro _))
  all_goals (try omega)
  all_goals (refine ⟨_, rfl, ?_⟩; (repeat (first | rw [if_pos (by omega)] | rw [if_neg (by omega)])); first | exact ⟨rfl, rfl⟩ | exact ⟨trivial, rfl⟩ | exact ⟨by omega, rfl⟩ | exact ⟨trivial, trivial⟩ | trivial)
theorem c1_present {D M : AM} {p l t : Int} (hI : Inv D) (hB : B1 D M) : aCi s1_G 8 129 [aP 0, aI p, aI l, aI t] M (fun z M' => z = (f_present D p l t).1 ∧ M' = f1_present D M p l t) := by
  refine ⟨Nat.le_of_ble_eq_true rfl, fun d hd => ?_⟩
  refine s1_present_0 (by omega) ?_
  have h1 := Inv_sn hI
  have h3 := Inv_np hI
  have h4 := Inv_nl hI
  simp only [a_bl_n, a_bl_z, B1_np hB, B1_nl hB, B1_now hB]
  rw [x_sub (by omega), x_sub (by omega)]
  unfold f_present f1_present
  (repeat' (with_reducible first | refine And.intro ?_ ?_ | intro _))
  all_goals (try omega)
  all_goals first
    | (refine ⟨_, rfl, ?_⟩; (repeat (first | rw [if_pos (by omega)] | rw [if_neg (by omega)])); first | exact ⟨rfl, rfl⟩ | exact ⟨trivial, rfl⟩ | exact ⟨by omega, rfl⟩ | exact ⟨trivial, trivial⟩ | trivial)
    | (refine aKi_of (s1_Suits_add hI hB) (by omega) (fun z M' q => ⟨z, rfl, ?_⟩)
       by_cases hn : D 0 69 = 20
       · rw [if_pos hn] at q
         (repeat (first | rw [if_pos (by omega)] | rw [if_neg (by omega)]))
         exact q
       · rw [if_neg hn] at q
         (repeat (first | rw [if_pos (by omega)] | rw [if_neg (by omega)]))
         exact q)
theorem c2_present {M : AM} {p l t : Int} (hI : Inv M) : aCi s2_G 8 83 [aP 0, aI p, aI l, aI t] M (fun z M' => z = (f_present M p l t).1 ∧ M' = (f_present M p l t).2) := by
  refine ⟨Nat.le_of_ble_eq_true rfl, fun d hd => ?_⟩
  refine s2_present_0 (by omega) ?_
  have h1 := Inv_sn hI
  have h3 := Inv_np hI
  have h4 := Inv_nl hI
  simp (decide := true) only [a_bl_n, a_bl_z, x_uc, x_us]
  rw [x_sub (by omega), x_sub (by omega), x_add (by omega), x_sub (by omega)]
  unfold f_present
  (repeat' (with_reducible first | refine And.intro ?_ ?_ | intro _))
  all_goals (try omega)
  all_goals (refine ⟨_, rfl, ?_⟩; (repeat (first | rw [if_pos (by omega)] | rw [if_neg (by omega)])); first | exact ⟨rfl, rfl⟩ | exact ⟨trivial, rfl⟩ | exact ⟨by omega, rfl⟩ | exact ⟨trivial, trivial⟩ | trivial)
theorem f_present_fr {D : AM} {p l t : Int} : fr wdS D (f_present D p l t).2 := by
  unfold f_present
  (repeat' split) <;> first | exact fr_rf | exact fr_up (fr_up (fr_up fr_rf rfl) rfl) rfl
theorem f1_present_fr {D M : AM} {p l t : Int} : fr wmS M (f1_present D M p l t) := by
  unfold f1_present
  (repeat' split) <;> first | exact fr_rf | exact fr_up (fr_up (fr_up fr_rf rfl) rfl) rfl
theorem f_present_B1 {D M : AM} {p l t : Int} (hB : B1 D M) : B1 (f_present D p l t).2 (f1_present D M p l t) := by
  refine B1_suit hB f_present_fr f1_present_fr ?_
  unfold f_present f1_present
  by_cases h : (0 ≤ p ∧ p < D 0 1) ∧ (0 ≤ l ∧ l < D 0 3) ∧ (0 ≤ t ∧ t ≤ D 0 0) ∧ D 0 69 ≠ 20
  · (repeat (first | rw [if_pos (by omega)] | rw [if_neg (by omega)]))
    unfold S1
    simp (decide := true) only [x_uc, x_us, x_uk, x_uu, B1_sd hB, B1_ss hB, B1_st hB]
  · rw [if_neg h]
    have e : (if ¬ (0 ≤ p ∧ p < D 0 1) then ((-100001, D) : Int × AM) else if ¬ (0 ≤ l ∧ l < D 0 3) then (-100001, D) else if ¬ (0 ≤ t ∧ t ≤ D 0 0) then (-100002, D) else if D 0 69 = 20 then (-100004, D) else (D 0 69, am_up (am_up (am_up D 44 (D 0 69) t) 45 (D 0 69) 0) 0 69 (D 0 69 + 1))).2 = D := by
      (repeat' split) <;> first | rfl | (exfalso; omega)
    rw [e]
    exact B1_S hB
theorem f_present_Inv {D : AM} {p l t : Int} (hI : Inv D) : Inv (f_present D p l t).2 := by
  refine Inv_suit hI f_present_fr ?_
  unfold f_present
  have hnow := Inv_now hI
  have hsn := Inv_sn hI
  (repeat' split) <;> first | exact Inv_S hI | skip
  unfold InvS
  simp (decide := true) only [x_uc, x_us, x_uk, x_uu]
  refine ⟨by omega, up1_rg (Inv_sd hI) (by omega), up1_rg (Inv_ss hI) (by omega), Inv_st hI, fun i k h0 h1 h2 h3 => ?_⟩
  have hne : i ≠ D 0 69 := fun e => by rw [e, up1_s] at h3; omega
  rw [up1_n hne] at h3 ⊢
  exact Inv_so hI i k h0 (by omega) h2 h3
/-- the steps done by a day: where they part -/
def isBy (D : AM) (s day z : Int) : Prop := 0 ≤ z ∧ z ≤ D 45 s ∧ (∀ k, 0 ≤ k → k < z → D 46 (5 * s + k) ≤ day) ∧ (z < D 45 s → day < D 46 (5 * s + z))
theorem s1_Suits_stepsBy {D M : AM} {s day : Int} (hI : Inv D) (hB : B1 D M) (h0 : 0 ≤ s) (h1 : s < 20) : aCi s1_G 4 88 [aP 69, aI s, aI day] M (fun z M' => M' = M ∧ isBy D s day z) := by
  refine ⟨Nat.le_of_ble_eq_true rfl, fun d hd => ?_⟩
  refine s1_Suits_stepsBy_0 (by omega) ?_
  have hs := Inv_ss hI s
  have key : ∀ (n : Nat) (x : Int), 0 ≤ x → x ≤ D 45 s → (D 45 s - x).toNat = n → (∀ k, 0 ≤ k → k < x → D 46 (5 * s + k) ≤ day) → aE s1_G d 88 2 [] [some (aP 69), some (aI s), some (aI day), some (aI x)] [] M (fun r M' => ∃ z, r = some (aI z) ∧ M' = M ∧ isBy D s day z) := by
    intro n
    induction n with
    | zero =>
      intro x hx hx1 hn hk
      refine s1_Suits_stepsBy_2 (by omega) ?_
      simp only [B1_ss hB, B1_st hB]
      (repeat' (with_reducible first | refine And.intro ?_ ?_ | intro _))
      all_goals (try omega)
      all_goals exact ⟨_, rfl, by trivial, hx, hx1, hk, fun h => absurd h (by omega)⟩
    | succ n ih =>
      intro x hx hx1 hn hk
      refine s1_Suits_stepsBy_2 (by omega) ?_
      simp only [B1_ss hB, B1_st hB]
      have e : s * 5 + x = 5 * s + x := by omega
      rw [e]
      (repeat' (with_reducible first | refine And.intro ?_ ?_ | intro _))
      all_goals (try omega)
      · exact ⟨_, rfl, by trivial, hx, hx1, hk, fun h => by omega⟩
      · rw [x_add (by omega)]
        refine ih (x + 1) (by omega) (by omega) (by omega) (fun k hk0 hk1 => ?_)
        by_cases hkx : k = x
        · subst hkx; assumption
        · exact hk k hk0 (by omega)
  exact key _ 0 (by omega) (by omega) rfl (fun k h0 h1 => by omega)
/-- the day of the last step, or of being presented -/
def lastS (D : AM) (s z : Int) : Int := if z = 0 then D 44 s else D 46 (5 * s + z - 1)
theorem s1_Suits_lastDay {D M : AM} {s day : Int} (hI : Inv D) (hB : B1 D M) (h0 : 0 ≤ s) (h1 : s < 20) : aCi s1_G 5 89 [aP 69, aI s, aI day] M (fun z M' => M' = M ∧ ∃ y, isBy D s day y ∧ z = if y = 0 then (if D 44 s ≤ day then D 44 s else -1) else D 46 (5 * s + y - 1)) := by
  refine ⟨Nat.le_of_ble_eq_true rfl, fun d hd => ?_⟩
  refine s1_Suits_lastDay_0 (by omega) ?_
  refine aKi_of (s1_Suits_stepsBy hI hB h0 h1) (by omega) (fun y M' q => ?_)
  obtain ⟨rfl, hy⟩ := q
  have hs := Inv_ss hI s
  have hy' := hy
  obtain ⟨y0, y1, -⟩ := hy'
  simp only [B1_sd hB, B1_st hB]
  rw [x_sub (by omega)]
  have e : s * 5 + (y - 1) = 5 * s + y - 1 := by omega
  rw [e]
  (repeat' (with_reducible first | refine And.intro ?_ ?_ | intro _))
  all_goals (try omega)
  all_goals (refine ⟨_, rfl, by trivial, y, hy, ?_⟩; (repeat (first | rw [if_pos (by omega)] | rw [if_neg (by omega)])); try rfl)
/-- step -/
def f_step (D : AM) (s t : Int) : Int × AM :=
  if ¬ (0 ≤ s ∧ s < D 0 69) then (-100001, D) else if ¬ (lastS D s (D 45 s) ≤ t ∧ t ≤ D 0 0) then (-100002, D) else
  if D 45 s = 5 then (-100003, D) else (D 45 s + 1, am_up (am_up D 46 (5 * s + D 45 s) t) 45 s (D 45 s + 1))
def f1_step (D M : AM) (s t : Int) : AM :=
  if (0 ≤ s ∧ s < D 0 69) ∧ (lastS D s (D 45 s) ≤ t ∧ t ≤ D 0 0) ∧ D 45 s ≠ 5 then am_up (am_up M 72 (5 * s + D 45 s) t) 71 s (D 45 s + 1) else M
theorem s1_Suits_addStep {D M : AM} {s t : Int} (hI : Inv D) (hB : B1 D M) (h0 : 0 ≤ s) (h1 : s < 20) : aCi s1_G 4 86 [aP 69, aI s, aI t] M (fun z M' => if D 45 s = 5 then z = -100003 ∧ M' = M else z = D 45 s + 1 ∧ M' = am_up (am_up M 72 (5 * s + D 45 s) t) 71 s (D 45 s + 1)) := by
  refine ⟨Nat.le_of_ble_eq_true rfl, fun d hd => ?_⟩
  refine s1_Suits_addStep_0 (by omega) ?_
  have hs := Inv_ss hI s
  simp (decide := true) only [x_uc, x_us, B1_ss hB]
  rw [x_add (by omega), show s * 5 + D 45 s = 5 * s + D 45 s by omega]
  (repeat' (with_reducible first | refine And.intro ?_ ?_ | intro _))
  all_goals (try omega)
  all_goals (refine ⟨_, rfl, ?_⟩; (repeat (first | rw [if_pos (by omega)] | rw [if_neg (by omega)])); first | exact ⟨rfl, rfl⟩ | exact ⟨trivial, rfl⟩ | exact ⟨by omega, rfl⟩ | exact ⟨trivial, trivial⟩ | trivial)
theorem isBy_all {D : AM} {s day z : Int} (hI : Inv D) (hd : 30000 ≤ day) (h : isBy D s day z) : z = D 45 s := by
  obtain ⟨h1, h2, h3, h4⟩ := h
  by_cases e : z < D 45 s
  · have := h4 e
    have := Inv_st hI (5 * s + z)
    omega
  · omega
theorem c1_step {D M : AM} {s t : Int} (hI : Inv D) (hB : B1 D M) : aCi s1_G 8 130 [aP 0, aI s, aI t] M (fun z M' => z = (f_step D s t).1 ∧ M' = f1_step D M s t) := by
  refine ⟨Nat.le_of_ble_eq_true rfl, fun d hd => ?_⟩
  refine s1_step_0 (by omega) ?_
  have h1 := Inv_sn hI
  simp only [a_bl_n, a_bl_z, B1_sn hB]
  rw [x_sub (by omega)]
  unfold f_step f1_step
  (repeat' (with_reducible first | refine And.intro ?_ ?_ | intro _))
  · refine aKi_of (s1_Suits_lastDay hI hB (by omega) (by omega)) (by omega) (fun z M' q => ?_)
    obtain ⟨rfl, y, hy, hz⟩ := q
    have hy := isBy_all hI (by omega) hy
    subst hy
    have hsd := Inv_sd hI s
    have hz : z = lastS D s (D 45 s) := by
      rw [hz]
      unfold lastS
      by_cases e : D 45 s = 0
      · rw [if_pos e, if_pos e, if_pos (by omega)]
      · rw [if_neg e, if_neg e]
    subst hz
    simp only [a_bl_n, a_bl_z, B1_now hB]
    (repeat' (with_reducible first | refine And.intro ?_ ?_ | intro _))
    · refine aKi_of (s1_Suits_addStep hI hB (by omega) (by omega)) (by omega) (fun z M' q => ⟨z, rfl, ?_⟩)
      by_cases hn : D 45 s = 5
      · rw [if_pos hn] at q
        (repeat (first | rw [if_pos (by omega)] | rw [if_neg (by omega)]))
        exact q
      · rw [if_neg hn] at q
        (repeat (first | rw [if_pos (by omega)] | rw [if_neg (by omega)]))
        exact q
    · refine ⟨_, rfl, ?_⟩; (repeat (first | rw [if_pos (by omega)] | rw [if_neg (by omega)])); first | exact ⟨rfl, rfl⟩ | exact ⟨trivial, rfl⟩ | exact ⟨by omega, rfl⟩ | exact ⟨trivial, trivial⟩ | trivial
  · refine ⟨_, rfl, ?_⟩; (repeat (first | rw [if_pos (by omega)] | rw [if_neg (by omega)])); first | exact ⟨rfl, rfl⟩ | exact ⟨trivial, rfl⟩ | exact ⟨by omega, rfl⟩ | exact ⟨trivial, trivial⟩ | trivial
theorem c2_step {M : AM} {s t : Int} (hI : Inv M) : aCi s2_G 8 85 [aP 0, aI s, aI t] M (fun z M' => z = (f_step M s t).1 ∧ M' = (f_step M s t).2) := by
  refine ⟨Nat.le_of_ble_eq_true rfl, fun d hd => ?_⟩
  refine s2_step_0 (by omega) ?_
  have h1 := Inv_sn hI
  have hs := Inv_ss hI s
  simp (decide := true) only [a_bl_n, a_bl_z, x_uc, x_us]
  rw [x_sub (a := M 0 69) (by omega)]
  by_cases hr : 0 ≤ s ∧ s < M 0 69
  · rw [x_mul (by omega), x_add (a := 5 * s) (by omega), x_sub (by omega), x_add (by omega)]
    unfold f_step lastS
    (repeat' (with_reducible first | refine And.intro ?_ ?_ | intro _))
    all_goals (try omega)
    all_goals (refine ⟨_, rfl, ?_⟩; (repeat (first | rw [if_pos (by omega)] | rw [if_neg (by omega)])); first | exact ⟨rfl, rfl⟩ | exact ⟨trivial, rfl⟩ | exact ⟨by omega, rfl⟩ | exact ⟨trivial, trivial⟩ | trivial)
  · unfold f_step
    (repeat' (with_reducible first | refine And.intro ?_ ?_ | intro _))
    all_goals (try (exfalso; omega))
    all_goals (refine ⟨_, rfl, ?_⟩; (repeat (first | rw [if_pos (by omega)] | rw [if_neg (by omega)])); first | exact ⟨rfl, rfl⟩ | exact ⟨trivial, rfl⟩ | exact ⟨by omega, rfl⟩ | exact ⟨trivial, trivial⟩ | trivial)
theorem f_step_fr {D : AM} {s t : Int} : fr wdS D (f_step D s t).2 := by
  unfold f_step
  (repeat' split) <;> first | exact fr_rf | exact fr_up (fr_up fr_rf rfl) rfl
theorem f1_step_fr {D M : AM} {s t : Int} : fr wmS M (f1_step D M s t) := by
  unfold f1_step
  (repeat' split) <;> first | exact fr_rf | exact fr_up (fr_up fr_rf rfl) rfl
theorem f_step_B1 {D M : AM} {s t : Int} (hB : B1 D M) : B1 (f_step D s t).2 (f1_step D M s t) := by
  refine B1_suit hB f_step_fr f1_step_fr ?_
  unfold f1_step
  by_cases h : (0 ≤ s ∧ s < D 0 69) ∧ (lastS D s (D 45 s) ≤ t ∧ t ≤ D 0 0) ∧ D 45 s ≠ 5
  · unfold f_step
    (repeat (first | rw [if_pos (by omega)] | rw [if_neg (by omega)]))
    unfold S1
    simp (decide := true) only [x_uc, x_us, x_uk, x_uu, B1_sn hB, B1_sd hB, B1_ss hB, B1_st hB]
  · rw [if_neg h]
    have e : (f_step D s t).2 = D := by
      unfold f_step
      (repeat' split) <;> first | rfl | (exfalso; omega)
    rw [e]
    exact B1_S hB
theorem f_step_Inv {D : AM} {s t : Int} (hI : Inv D) : Inv (f_step D s t).2 := by
  refine Inv_suit hI f_step_fr ?_
  unfold f_step
  have hnow := Inv_now hI
  have hsn := Inv_sn hI
  have hss := Inv_ss hI s
  (repeat' split) <;> first | exact Inv_S hI | skip
  next h1 h2 h3 =>
  have hl : -1 ≤ lastS D s (D 45 s) := by
    unfold lastS
    split
    · have := Inv_sd hI s; omega
    · have := Inv_st hI (5 * s + D 45 s - 1); omega
  have hl0 : 0 ≤ lastS D s (D 45 s) := by
    unfold lastS
    split
    · have := Inv_sd hI s; omega
    · have := Inv_st hI (5 * s + D 45 s - 1); omega
  unfold InvS
  simp (decide := true) only [x_uc, x_us, x_uk, x_uu]
  refine ⟨by omega, Inv_sd hI, up1_rg (Inv_ss hI) (by omega), up1_rg (Inv_st hI) (by omega), fun i k h4 h5 h6 h7 => ?_⟩
  by_cases hi : i = s
  · subst hi
    rw [up1_s] at h7
    have hso := Inv_so hI i
    by_cases hk : k = D 45 i
    · subst hk
      rw [up1_s]
      have hge : D 44 i ≤ t ∧ ∀ k', 0 ≤ k' → k' < D 45 i → D 46 (5 * i + k') ≤ t := by
        unfold lastS at h2
        by_cases hz : D 45 i = 0
        · rw [if_pos hz] at h2
          exact ⟨by omega, fun k' a b => by omega⟩
        · rw [if_neg hz] at h2
          have hq := hso (D 45 i - 1) h4 (by omega) (by omega) (by omega)
          rw [show 5 * i + (D 45 i - 1) = 5 * i + D 45 i - 1 by omega] at hq
          refine ⟨by omega, fun k' a b => ?_⟩
          have := hq.2 k' a (by omega)
          omega
      refine ⟨hge.1, fun k' a b => ?_⟩
      by_cases hk' : k' = D 45 i
      · rw [hk', up1_s]; omega
      · rw [up1_n (by omega)]; exact hge.2 k' a (by omega)
    · rw [up1_n (by omega)]
      have hq := hso k h4 (by omega) (by omega) (by omega)
      refine ⟨hq.1, fun k' a b => ?_⟩
      rw [up1_n (by omega)]
      exact hq.2 k' a b
  · rw [up1_n hi] at h7
    have hq := Inv_so hI i k h4 (by omega) h6 h7
    have hik := Inv_ss hI i
    rw [up1_n (by omega)]
    refine ⟨hq.1, fun k' a b => ?_⟩
    rw [up1_n (by omega)]
    exact hq.2 k' a b
/-- appeal -/
def f_appeal (D : AM) (s k : Int) : Int × AM :=
  if ¬ (0 ≤ s ∧ s < D 0 69) then (-100001, D) else if ¬ (1 ≤ k ∧ k ≤ 5) then (-100002, D) else
  if D 45 s < k then (-100003, D) else (k - 1, am_up D 45 s (k - 1))
def f1_appeal (D M : AM) (s k : Int) : AM :=
  if (0 ≤ s ∧ s < D 0 69) ∧ (1 ≤ k ∧ k ≤ 5) ∧ k ≤ D 45 s then am_up M 71 s (k - 1) else M
theorem s1_Suits_undoFrom {D M : AM} {s k : Int} (hB : B1 D M) (h0 : 0 ≤ s) (h1 : s < 20) (hk : 1 ≤ k ∧ k ≤ 5) : aCi s1_G 4 87 [aP 69, aI s, aI k] M (fun z M' => if k ≤ D 45 s then z = k - 1 ∧ M' = am_up M 71 s (k - 1) else z = -100003 ∧ M' = M) := by
  refine ⟨Nat.le_of_ble_eq_true rfl, fun d hd => ?_⟩
  refine s1_Suits_undoFrom_0 (by omega) ?_
  simp (decide := true) only [x_uc, x_us, B1_ss hB]
  rw [x_sub (by omega)]
  (repeat' (with_reducible first | refine And.intro ?_ ?_ | intro _))
  all_goals (try omega)
  all_goals (refine ⟨_, rfl, ?_⟩; (repeat (first | rw [if_pos (by omega)] | rw [if_neg (by omega)])); first | exact ⟨rfl, rfl⟩ | exact ⟨trivial, rfl⟩ | exact ⟨by omega, rfl⟩ | exact ⟨trivial, trivial⟩ | trivial)
theorem c1_appeal {D M : AM} {s k : Int} (hI : Inv D) (hB : B1 D M) : aCi s1_G 8 131 [aP 0, aI s, aI k] M (fun z M' => z = (f_appeal D s k).1 ∧ M' = f1_appeal D M s k) := by
  refine ⟨Nat.le_of_ble_eq_true rfl, fun d hd => ?_⟩
  refine s1_appeal_0 (by omega) ?_
  have h1 := Inv_sn hI
  simp only [a_bl_n, a_bl_z, B1_sn hB]
  rw [x_sub (by omega)]
  unfold f_appeal f1_appeal
  (repeat' (with_reducible first | refine And.intro ?_ ?_ | intro _))
  · refine aKi_of (s1_Suits_undoFrom hB (by omega) (by omega) (by omega)) (by omega) (fun z M' q => ⟨z, rfl, ?_⟩)
    by_cases hn : k ≤ D 45 s
    · rw [if_pos hn] at q
      (repeat (first | rw [if_pos (by omega)] | rw [if_neg (by omega)]))
      exact q
    · rw [if_neg hn] at q
      (repeat (first | rw [if_pos (by omega)] | rw [if_neg (by omega)]))
      exact q
  all_goals (refine ⟨_, rfl, ?_⟩; (repeat (first | rw [if_pos (by omega)] | rw [if_neg (by omega)])); first | exact ⟨rfl, rfl⟩ | exact ⟨trivial, rfl⟩ | exact ⟨by omega, rfl⟩ | exact ⟨trivial, trivial⟩ | trivial)
theorem c2_appeal {M : AM} {s k : Int} (hI : Inv M) : aCi s2_G 8 86 [aP 0, aI s, aI k] M (fun z M' => z = (f_appeal M s k).1 ∧ M' = (f_appeal M s k).2) := by
  refine ⟨Nat.le_of_ble_eq_true rfl, fun d hd => ?_⟩
  refine s2_appeal_0 (by omega) ?_
  have h1 := Inv_sn hI
  simp (decide := true) only [a_bl_n, a_bl_z, x_uc, x_us]
  rw [x_sub (a := M 0 69) (by omega)]
  unfold f_appeal
  (repeat' (with_reducible first | refine And.intro ?_ ?_ | intro _))
  all_goals (try omega)
  all_goals (try rw [x_sub (a := k) (by omega)])
  all_goals (refine ⟨_, rfl, ?_⟩; (repeat (first | rw [if_pos (by omega)] | rw [if_neg (by omega)])); first | exact ⟨rfl, rfl⟩ | exact ⟨trivial, rfl⟩ | exact ⟨by omega, rfl⟩ | exact ⟨trivial, trivial⟩ | trivial)
theorem f_appeal_fr {D : AM} {s k : Int} : fr wdS D (f_appeal D s k).2 := by
  unfold f_appeal
  (repeat' split) <;> first | exact fr_rf | exact fr_up fr_rf rfl
theorem f1_appeal_fr {D M : AM} {s k : Int} : fr wmS M (f1_appeal D M s k) := by
  unfold f1_appeal
  (repeat' split) <;> first | exact fr_rf | exact fr_up fr_rf rfl
theorem f_appeal_B1 {D M : AM} {s k : Int} (hB : B1 D M) : B1 (f_appeal D s k).2 (f1_appeal D M s k) := by
  refine B1_suit hB f_appeal_fr f1_appeal_fr ?_
  unfold f1_appeal
  by_cases h : (0 ≤ s ∧ s < D 0 69) ∧ (1 ≤ k ∧ k ≤ 5) ∧ k ≤ D 45 s
  · unfold f_appeal
    (repeat (first | rw [if_pos (by omega)] | rw [if_neg (by omega)]))
    unfold S1
    simp (decide := true) only [x_uc, x_us, x_uk, x_uu, B1_sn hB, B1_sd hB, B1_ss hB, B1_st hB]
  · rw [if_neg h]
    have e : (f_appeal D s k).2 = D := by
      unfold f_appeal
      (repeat' split) <;> first | rfl | (exfalso; omega)
    rw [e]
    exact B1_S hB
theorem f_appeal_Inv {D : AM} {s k : Int} (hI : Inv D) : Inv (f_appeal D s k).2 := by
  refine Inv_suit hI f_appeal_fr ?_
  unfold f_appeal
  have hsn := Inv_sn hI
  have hss := Inv_ss hI s
  (repeat' split) <;> first | exact Inv_S hI | skip
  unfold InvS
  simp (decide := true) only [x_uc, x_us, x_uk, x_uu]
  refine ⟨Inv_sn hI, Inv_sd hI, up1_rg (Inv_ss hI) (by omega), Inv_st hI, fun i j h4 h5 h6 h7 => ?_⟩
  refine Inv_so hI i j h4 h5 h6 ?_
  by_cases hi : i = s
  · subst hi; rw [up1_s] at h7; omega
  · rw [up1_n hi] at h7; exact h7
