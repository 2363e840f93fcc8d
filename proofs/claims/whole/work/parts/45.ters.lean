/-! TERRIERS: field -/
abbrev wdF : Nat → Int → Bool := wr [47, 48, 49, 50] []
abbrev wmF : Nat → Int → Bool := wr [94, 95, 120, 145] [(93, 6)]
theorem B1_ter {D D' M M' : AM} (hB : B1 D M) (gD : fr wdF D D') (gM : fr wmF M M') (hF : F1 D' M') : B1 D' M' := by
  refine ⟨?_, G1_fw (B1_G hB) gD gM rfl, P1_fw (B1_P hB) gD gM rfl, C1_fw (B1_C hB) gD gM rfl, R1_fw (B1_R hB) gD gM rfl, S1_fw (B1_S hB) gD gM rfl, hF, E1_fw (B1_E hB) gD gM rfl⟩
  rw [gD 0 0 rfl, gM 0 10 rfl]
  exact B1_now hB
theorem Inv_ter {D D' : AM} (hI : Inv D) (gD : fr wdF D D') (hF : InvF D') : Inv D' := by
  refine ⟨?_, InvG_fw (Inv_G hI) gD rfl, InvP_fw (Inv_P hI) gD rfl, InvL_fw (Inv_L hI) gD rfl, InvC_fw (Inv_C hI) gD rfl, InvR_fw (Inv_R hI) gD rfl, InvS_fw (Inv_S hI) gD rfl, hF, InvE_fw (Inv_E hI) gD rfl⟩
  rw [gD 0 0 rfl]
  exact Inv_now hI
def f_field (D : AM) (l y m a x : Int) : Int × AM :=
  if ¬ (0 ≤ l ∧ l < D 0 3) then (-100001, D) else if ¬ ((0 ≤ y ∧ y ≤ 1) ∧ (0 ≤ m ∧ m ≤ 99) ∧ (1 ≤ a ∧ a ≤ 999) ∧ 0 ≤ x ∧ x ≤ 99) then (-100002, D) else
  if D 47 (2 * l + y) = 8 then (-100004, D) else (D 47 (2 * l + y), am_up (am_up (am_up (am_up D 48 (8 * (2 * l + y) + D 47 (2 * l + y)) m) 49 (8 * (2 * l + y) + D 47 (2 * l + y)) a) 50 (8 * (2 * l + y) + D 47 (2 * l + y)) x) 47 (2 * l + y) (D 47 (2 * l + y) + 1))
def f1_field (D M : AM) (l y m a x : Int) : AM :=
  if (0 ≤ l ∧ l < D 0 3) ∧ ((0 ≤ y ∧ y ≤ 1) ∧ (0 ≤ m ∧ m ≤ 99) ∧ (1 ≤ a ∧ a ≤ 999) ∧ 0 ≤ x ∧ x ≤ 99) ∧ D 47 (2 * l + y) ≠ 8 then am_up (am_up (am_up (am_up (am_up M 95 (8 * (2 * l + y) + D 47 (2 * l + y)) m) 120 (8 * (2 * l + y) + D 47 (2 * l + y)) a) 145 (8 * (2 * l + y) + D 47 (2 * l + y)) x) 94 (2 * l + y) (D 47 (2 * l + y) + 1)) 93 6 (-1) else M
theorem s1_Terriers_add {D M : AM} {r m a x : Int} (hI : Inv D) (hB : B1 D M) (h0 : 0 ≤ r) (h1 : r < 24) : aCi s1_G 4 92 [aP 93, aI r, aI m, aI a, aI x] M (fun z M' => if D 47 r = 8 then z = -100004 ∧ M' = M else z = D 47 r ∧ M' = am_up (am_up (am_up (am_up (am_up M 95 (8 * r + D 47 r) m) 120 (8 * r + D 47 r) a) 145 (8 * r + D 47 r) x) 94 r (D 47 r + 1)) 93 6 (-1)) := by
  refine ⟨Nat.le_of_ble_eq_true rfl, fun d hd => ?_⟩
  refine s1_Terriers_add_0 (by omega) ?_
  have hn := Inv_fn hI r
  simp (decide := true) only [x_uc, x_us, B1_fn hB]
  rw [x_add (by omega), show r * 8 + D 47 r = 8 * r + D 47 r by omega]
  (repeat' (with_reducible first | refine And.intro ?_ ?_ | intro _))
  all_goals (try omega)
  all_goals (refine ⟨_, rfl, ?_⟩; (repeat (first | rw [if_pos (by omega)] | rw [if_neg (by omega)])); first | exact ⟨rfl, rfl⟩ | exact ⟨trivial, rfl⟩ | exact ⟨by omega, rfl⟩ | exact ⟨trivial, trivial⟩ | trivial)
theorem c1_field {D M : AM} {l y m a x : Int} (hI : Inv D) (hB : B1 D M) : aCi s1_G 8 134 [aP 0, aI l, aI y, aI m, aI a, aI x] M (fun z M' => z = (f_field D l y m a x).1 ∧ M' = f1_field D M l y m a x) := by
  refine ⟨Nat.le_of_ble_eq_true rfl, fun d hd => ?_⟩
  refine s1_field_0 (by omega) ?_
  have h1 := Inv_nl hI
  simp only [a_bl_n, a_bl_z, B1_nl hB]
  rw [x_sub (by omega)]
  unfold f_field f1_field
  (repeat' (with_reducible first | refine And.intro ?_ ?_ | intro _))
  all_goals first
    | (refine ⟨_, rfl, ?_⟩; (repeat (first | rw [if_pos (by omega)] | rw [if_neg (by omega)])); first | exact ⟨rfl, rfl⟩ | exact ⟨trivial, rfl⟩ | exact ⟨by omega, rfl⟩ | exact ⟨trivial, trivial⟩ | trivial)
    | (rw [x_mul (by omega), x_add (by omega)]
       refine aKi_of (s1_Terriers_add hI hB (by omega) (by omega)) (by omega) (fun z M' q => ⟨z, rfl, ?_⟩)
       by_cases hn : D 47 (2 * l + y) = 8
       · rw [if_pos hn] at q
         (repeat (first | rw [if_pos (by omega)] | rw [if_neg (by omega)]))
         exact q
       · rw [if_neg hn] at q
         (repeat (first | rw [if_pos (by omega)] | rw [if_neg (by omega)]))
         exact q)
set_option maxHeartbeats 4000000 in
theorem c2_field {M : AM} {l y m a x : Int} (hI : Inv M) : aCi s2_G 8 90 [aP 0, aI l, aI y, aI m, aI a, aI x] M (fun z M' => z = (f_field M l y m a x).1 ∧ M' = (f_field M l y m a x).2) := by
  refine ⟨Nat.le_of_ble_eq_true rfl, fun d hd => ?_⟩
  refine s2_field_0 (by omega) ?_
  have h1 := Inv_nl hI
  simp (decide := true) only [a_bl_n, a_bl_z, x_uc, x_us]
  rw [x_sub (a := M 0 3) (by omega)]
  by_cases hr : (0 ≤ l ∧ l < M 0 3) ∧ 0 ≤ y ∧ y ≤ 1
  · have hn := Inv_fn hI (2 * l + y)
    rw [x_mul (a := 2) (by omega), x_add (a := 2 * l) (by omega), x_mul (by omega), x_add (by omega), x_add (by omega), x_sub (by omega)]
    unfold f_field
    (repeat' (with_reducible first | refine And.intro ?_ ?_ | intro _))
    all_goals (try omega)
    all_goals (refine ⟨_, rfl, ?_⟩; (repeat (first | rw [if_pos (by omega)] | rw [if_neg (by omega)])); first | exact ⟨rfl, rfl⟩ | exact ⟨trivial, rfl⟩ | exact ⟨by omega, rfl⟩ | exact ⟨trivial, trivial⟩ | trivial)
  · unfold f_field
    (repeat' (with_reducible first | refine And.intro ?_ ?_ | intro _))
    all_goals (try (exfalso; omega))
    all_goals (refine ⟨_, rfl, ?_⟩; (repeat (first | rw [if_pos (by omega)] | rw [if_neg (by omega)])); first | exact ⟨rfl, rfl⟩ | exact ⟨trivial, rfl⟩ | exact ⟨by omega, rfl⟩ | exact ⟨trivial, trivial⟩ | trivial)
theorem f_field_fr {D : AM} {l y m a x : Int} : fr wdF D (f_field D l y m a x).2 := by
  unfold f_field
  (repeat' split) <;> first | exact fr_rf | exact fr_up (fr_up (fr_up (fr_up fr_rf rfl) rfl) rfl) rfl
theorem f1_field_fr {D M : AM} {l y m a x : Int} : fr wmF M (f1_field D M l y m a x) := by
  unfold f1_field
  (repeat' split) <;> first | exact fr_rf | exact fr_up (fr_up (fr_up (fr_up (fr_up fr_rf rfl) rfl) rfl) rfl) rfl
theorem f_field_B1 {D M : AM} {l y m a x : Int} (hB : B1 D M) : B1 (f_field D l y m a x).2 (f1_field D M l y m a x) := by
  refine B1_ter hB f_field_fr f1_field_fr ?_
  unfold f1_field
  by_cases h : (0 ≤ l ∧ l < D 0 3) ∧ ((0 ≤ y ∧ y ≤ 1) ∧ (0 ≤ m ∧ m ≤ 99) ∧ (1 ≤ a ∧ a ≤ 999) ∧ 0 ≤ x ∧ x ≤ 99) ∧ D 47 (2 * l + y) ≠ 8
  · unfold f_field
    (repeat (first | rw [if_pos (by omega)] | rw [if_neg (by omega)]))
    unfold F1
    simp (decide := true) only [x_uc, x_us, x_uk, x_uu, B1_fn hB, B1_fm hB, B1_fa hB, B1_fx hB]
  · rw [if_neg h]
    have e : (f_field D l y m a x).2 = D := by
      unfold f_field
      (repeat' split) <;> first | rfl | (exfalso; omega)
    rw [e]
    exact B1_F hB
theorem f_field_Inv {D : AM} {l y m a x : Int} (hI : Inv D) : Inv (f_field D l y m a x).2 := by
  refine Inv_ter hI f_field_fr ?_
  unfold f_field
  have hn := Inv_fn hI (2 * l + y)
  (repeat' split) <;> first | exact Inv_F hI | skip
  unfold InvF
  simp (decide := true) only [x_uc, x_us, x_uk, x_uu]
  exact ⟨up1_rg (Inv_fn hI) (by omega), up1_rg (Inv_fm hI) (by omega), up1_rg (Inv_fa hI) (by omega), up1_rg (Inv_fx hI) (by omega)⟩
