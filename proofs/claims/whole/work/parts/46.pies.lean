/-! PIECES: piece, one -/
abbrev wdE : Nat → Int → Bool := wr [52, 53, 54, 55, 56] [(0, 78)]
abbrev wmE : Nat → Int → Bool := wr [182, 183, 184, 185, 186] [(181, 5), (181, 8)]
theorem B1_pie {D D' M M' : AM} (hB : B1 D M) (gD : fr wdE D D') (gM : fr wmE M M') (hE : E1 D' M') : B1 D' M' := by
  refine ⟨?_, G1_fw (B1_G hB) gD gM rfl, P1_fw (B1_P hB) gD gM rfl, C1_fw (B1_C hB) gD gM rfl, R1_fw (B1_R hB) gD gM rfl, S1_fw (B1_S hB) gD gM rfl, F1_fw (B1_F hB) gD gM rfl, hE⟩
  rw [gD 0 0 rfl, gM 0 10 rfl]
  exact B1_now hB
theorem Inv_pie {D D' : AM} (hI : Inv D) (gD : fr wdE D D') (hE : InvE D') : Inv D' := by
  refine ⟨?_, InvG_fw (Inv_G hI) gD rfl, InvP_fw (Inv_P hI) gD rfl, InvL_fw (Inv_L hI) gD rfl, InvC_fw (Inv_C hI) gD rfl, InvR_fw (Inv_R hI) gD rfl, InvS_fw (Inv_S hI) gD rfl, InvF_fw (Inv_F hI) gD rfl, hE⟩
  rw [gD 0 0 rfl]
  exact Inv_now hI
def f_piece (D : AM) (m x y f t : Int) : Int × AM :=
  if ¬ ((0 ≤ m ∧ m ≤ 99) ∧ (-50 ≤ x ∧ x ≤ 50) ∧ (-50 ≤ y ∧ y ≤ 50) ∧ (0 ≤ f ∧ f ≤ 30000) ∧ f ≤ t ∧ t ≤ 30000) then (-100002, D) else
  if D 0 78 = 16 then (-100004, D) else
  (D 0 78, am_up (am_up (am_up (am_up (am_up (am_up D 52 (D 0 78) m) 53 (D 0 78) x) 54 (D 0 78) y) 55 (D 0 78) f) 56 (D 0 78) t) 0 78 (D 0 78 + 1))
def f1_piece (D M : AM) (m x y f t : Int) : AM :=
  if ((0 ≤ m ∧ m ≤ 99) ∧ (-50 ≤ x ∧ x ≤ 50) ∧ (-50 ≤ y ∧ y ≤ 50) ∧ (0 ≤ f ∧ f ≤ 30000) ∧ f ≤ t ∧ t ≤ 30000) ∧ D 0 78 ≠ 16 then
  am_up (am_up (am_up (am_up (am_up (am_up (am_up M 182 (D 0 78) m) 183 (D 0 78) x) 184 (D 0 78) y) 185 (D 0 78) f) 186 (D 0 78) t) 181 8 0) 181 5 (D 0 78 + 1) else M
theorem s1_Lives_add {D M : AM} {m x y f t : Int} (hI : Inv D) (hB : B1 D M) : aCi s1_G 4 20 [aP 181, aI m, aI x, aI y, aI f, aI t] M (fun z M' => if D 0 78 = 16 then z = -100004 ∧ M' = M else z = D 0 78 ∧ M' = am_up (am_up (am_up (am_up (am_up (am_up (am_up M 182 (D 0 78) m) 183 (D 0 78) x) 184 (D 0 78) y) 185 (D 0 78) f) 186 (D 0 78) t) 181 8 0) 181 5 (D 0 78 + 1)) := by
  refine ⟨Nat.le_of_ble_eq_true rfl, fun d hd => ?_⟩
  refine s1_Lives_add_0 (by omega) ?_
  have h1 := Inv_qn hI
  simp (decide := true) only [x_uc, x_us, x_uf, B1_qn hB]
  rw [x_add (by omega)]
  (repeat' (with_reducible first | refine And.intro ?_ ?_ | intro _))
  all_goals (try first | with_reducible rfl | with_reducible exact True.intro | with_reducible exact Or.inl True.intro | with_reducible exact Or.inr True.intro | omega | (exfalso; with_reducible assumption))
  all_goals (refine ⟨_, rfl, ?_⟩; (repeat (first | rw [if_pos (by omega)] | rw [if_neg (by omega)])); first | exact ⟨rfl, rfl⟩ | exact ⟨trivial, rfl⟩ | exact ⟨by omega, rfl⟩ | exact ⟨trivial, trivial⟩ | trivial)
theorem c1_piece {D M : AM} {m x y f t : Int} (hI : Inv D) (hB : B1 D M) : aCi s1_G 8 136 [aP 0, aI m, aI x, aI y, aI f, aI t] M (fun z M' => z = (f_piece D m x y f t).1 ∧ M' = f1_piece D M m x y f t) := by
  refine ⟨Nat.le_of_ble_eq_true rfl, fun d hd => ?_⟩
  refine s1_piece_0 (by omega) ?_
  simp only [a_bl_n, a_bl_z]
  unfold f_piece f1_piece
  (repeat' (with_reducible first | refine And.intro ?_ ?_ | intro _))
  all_goals first
    | (refine ⟨_, rfl, ?_⟩; (repeat (first | rw [if_pos (by omega)] | rw [if_neg (by omega)])); first | exact ⟨rfl, rfl⟩ | exact ⟨trivial, rfl⟩ | exact ⟨by omega, rfl⟩ | exact ⟨trivial, trivial⟩ | trivial)
    | (refine aKi_of (s1_Lives_add hI hB) (by omega) (fun z M' q => ⟨z, rfl, ?_⟩)
       by_cases hn : D 0 78 = 16
       · rw [if_pos hn] at q
         (repeat (first | rw [if_pos (by omega)] | rw [if_neg (by omega)]))
         exact q
       · rw [if_neg hn] at q
         (repeat (first | rw [if_pos (by omega)] | rw [if_neg (by omega)]))
         exact q)
theorem c2_piece {M : AM} {m x y f t : Int} (hI : Inv M) : aCi s2_G 8 95 [aP 0, aI m, aI x, aI y, aI f, aI t] M (fun z M' => z = (f_piece M m x y f t).1 ∧ M' = (f_piece M m x y f t).2) := by
  refine ⟨Nat.le_of_ble_eq_true rfl, fun d hd => ?_⟩
  refine s2_piece_0 (by omega) ?_
  have h1 := Inv_qn hI
  simp (decide := true) only [a_bl_n, a_bl_z, x_uc, x_us, x_uf]
  rw [x_add (by omega), x_sub (by omega)]
  unfold f_piece
  (repeat' (with_reducible first | refine And.intro ?_ ?_ | intro _))
  all_goals (try first | with_reducible rfl | with_reducible exact True.intro | with_reducible exact Or.inl True.intro | with_reducible exact Or.inr True.intro | omega | (exfalso; with_reducible assumption))
  all_goals (refine ⟨_, rfl, ?_⟩; (repeat (first | rw [if_pos (by omega)] | rw [if_neg (by omega)])); first | exact ⟨rfl, rfl⟩ | exact ⟨trivial, rfl⟩ | exact ⟨by omega, rfl⟩ | exact ⟨trivial, trivial⟩ | trivial)
theorem f_piece_fr {D : AM} {m x y f t : Int} : fr wdE D (f_piece D m x y f t).2 := by
  unfold f_piece
  (repeat' split) <;> first | exact fr_rf | exact fr_up (fr_up (fr_up (fr_up (fr_up (fr_up fr_rf rfl) rfl) rfl) rfl) rfl) rfl
theorem f1_piece_fr {D M : AM} {m x y f t : Int} : fr wmE M (f1_piece D M m x y f t) := by
  unfold f1_piece
  (repeat' split) <;> first | exact fr_rf | exact fr_up (fr_up (fr_up (fr_up (fr_up (fr_up (fr_up fr_rf rfl) rfl) rfl) rfl) rfl) rfl) rfl
theorem f_piece_B1 {D M : AM} {m x y f t : Int} (hB : B1 D M) : B1 (f_piece D m x y f t).2 (f1_piece D M m x y f t) := by
  refine B1_pie hB f_piece_fr f1_piece_fr ?_
  unfold f1_piece
  by_cases h : ((0 ≤ m ∧ m ≤ 99) ∧ (-50 ≤ x ∧ x ≤ 50) ∧ (-50 ≤ y ∧ y ≤ 50) ∧ (0 ≤ f ∧ f ≤ 30000) ∧ f ≤ t ∧ t ≤ 30000) ∧ D 0 78 ≠ 16
  · unfold f_piece
    (repeat (first | rw [if_pos (by omega)] | rw [if_neg (by omega)]))
    unfold E1
    simp (decide := true) only [x_uc, x_us, x_uf, x_uk, x_uu, B1_qm hB, B1_qx hB, B1_qy hB, B1_qf hB, B1_qt hB]
  · rw [if_neg h]
    have e : (f_piece D m x y f t).2 = D := by
      unfold f_piece
      (repeat' split) <;> first | rfl | (exfalso; omega)
    rw [e]
    exact B1_E hB
theorem f_piece_Inv {D : AM} {m x y f t : Int} (hI : Inv D) : Inv (f_piece D m x y f t).2 := by
  refine Inv_pie hI f_piece_fr ?_
  unfold f_piece
  have hn := Inv_qn hI
  (repeat' split) <;> first | exact Inv_E hI | skip
  unfold InvE
  simp (decide := true) only [x_uc, x_us, x_uf, x_uk, x_uu]
  refine ⟨by omega, up1_rg (Inv_qm hI) (by omega), up1_rg (Inv_qx hI) (by omega), up1_rg (Inv_qy hI) (by omega), up1_rg (Inv_qf hI) (by omega), up1_rg (Inv_qt hI) (by omega), fun i => ?_⟩
  have := Inv_qo hI i
  unfold up1
  split <;> omega
-- one
def absI (x : Int) : Int := if x < 0 then -x else x
/-- b may come right behind a -/
def mayF (D : AM) (a b : Int) : Prop := (a ≠ b ∧ D 56 a ≤ D 55 b ∧ (¬ (D 55 a = D 56 a ∧ D 55 b = D 56 b ∧ D 55 a = D 55 b) ∨ a < b)) ∧ D 52 a = D 52 b ∧ (absI (D 53 a - D 53 b) + absI (D 54 a - D 54 b) + 19) / 20 ≤ D 55 b - D 56 a
def mayF_dec (D : AM) (a b : Int) : Decidable (mayF D a b) := by unfold mayF; exact inferInstance
def mayB (D : AM) (a b : Int) : Bool := @decide _ (mayF_dec D a b)
theorem mayB_t {D : AM} {a b : Int} : mayB D a b = true ↔ mayF D a b := by unfold mayB; exact @decide_eq_true_iff _ (mayF_dec D a b)
def bI (b : Bool) : Int := cond b 1 0
theorem bI_t {D : AM} {a b : Int} (h : mayF D a b) : bI (mayB D a b) = 1 := by rw [mayB_t.mpr h]; rfl
theorem bI_f {D : AM} {a b : Int} (h : ¬ mayF D a b) : bI (mayB D a b) = 0 := by
  have e : mayB D a b = false := by rw [← Bool.not_eq_true]; exact fun q => h (mayB_t.mp q)
  rw [e]; rfl
theorem absI_rg {x : Int} (h : -100 ≤ x ∧ x ≤ 100) : 0 ≤ absI x ∧ absI x ≤ 100 := by unfold absI; split <;> omega
def aheadP (D : AM) (a b : Int) : Prop := a ≠ b ∧ D 56 a ≤ D 55 b ∧ (¬ (D 55 a = D 56 a ∧ D 55 b = D 56 b ∧ D 55 a = D 55 b) ∨ a < b)
theorem s1_Lives_isAhead {D M : AM} {a b : Int} (hI : Inv D) (hB : B1 D M) (ha : 0 ≤ a ∧ a < 16) (hb : 0 ≤ b ∧ b < 16) : aCi s1_G 4 21 [aP 181, aI a, aI b] M (fun z M' => M' = M ∧ ((z = 1 ∧ aheadP D a b) ∨ (z = 0 ∧ ¬ aheadP D a b))) := by
  refine ⟨Nat.le_of_ble_eq_true rfl, fun d hd => ?_⟩
  refine s1_Lives_isAhead_0 (by omega) ?_
  have h1 := Inv_qo hI a
  have h2 := Inv_qo hI b
  simp only [B1_qf hB, B1_qt hB]
  unfold aheadP
  (repeat' (with_reducible first | refine And.intro ?_ ?_ | intro _))
  all_goals (try first | with_reducible rfl | with_reducible exact True.intro | with_reducible exact Or.inl True.intro | with_reducible exact Or.inr True.intro | omega | (exfalso; with_reducible assumption))
  all_goals first
    | (refine ⟨_, rfl, by trivial, Or.inl ⟨rfl, ?_⟩⟩; by_cases hab : a = b <;> first | (subst hab; exfalso; omega) | (refine ⟨hab, ?_, ?_⟩ <;> omega))
    | (refine ⟨_, rfl, by trivial, Or.inr ⟨rfl, ?_⟩⟩; rintro ⟨hab, q1, q2⟩; omega)
theorem s1_Lives_joins {D M : AM} {a b : Int} (hI : Inv D) (hB : B1 D M) (ha : 0 ≤ a ∧ a < 16) (hb : 0 ≤ b ∧ b < 16) : aCi s1_G 5 22 [aP 181, aI a, aI b] M (fun z M' => M' = M ∧ z = bI (mayB D a b)) := by
  refine ⟨Nat.le_of_ble_eq_true rfl, fun d hd => ?_⟩
  refine s1_Lives_joins_0 (by omega) ?_
  have x1 := Inv_qx hI a
  have x2 := Inv_qx hI b
  have y1 := Inv_qy hI a
  have y2 := Inv_qy hI b
  have t1 := Inv_qt hI a
  have f2 := Inv_qf hI b
  simp only [B1_qx hB, B1_qy hB, B1_qm hB]
  rw [x_sub (a := D 53 a) (by omega), x_sub (a := D 54 a) (by omega), x_neg (by omega), x_neg (by omega)]
  rw [show (if D 53 a - D 53 b < 0 then -(D 53 a - D 53 b) else D 53 a - D 53 b) = absI (D 53 a - D 53 b) from rfl, show (if D 54 a - D 54 b < 0 then -(D 54 a - D 54 b) else D 54 a - D 54 b) = absI (D 54 a - D 54 b) from rfl]
  have u := absI_rg (x := D 53 a - D 53 b) (by omega)
  have v := absI_rg (x := D 54 a - D 54 b) (by omega)
  rw [x_add (a := absI (D 53 a - D 53 b)) (by omega), x_add (by omega), x_sub (by omega), x_div (by omega) (by omega) (by omega) (by omega)]
  rw [show absI (D 53 a - D 53 b) + absI (D 54 a - D 54 b) + 20 - 1 = absI (D 53 a - D 53 b) + absI (D 54 a - D 54 b) + 19 by omega]
  (repeat' (with_reducible first | refine And.intro ?_ ?_ | intro _))
  all_goals (try first | with_reducible rfl | with_reducible exact True.intro | with_reducible exact Or.inl True.intro | with_reducible exact Or.inr True.intro | omega | (exfalso; with_reducible assumption))
  · refine ⟨_, rfl, by trivial, (bI_f ?_).symm⟩
    rintro ⟨q1, q2, q3⟩
    omega
  · refine aKi_of (s1_Lives_isAhead hI hB ha hb) (by omega) (fun z M' q => ?_)
    obtain ⟨rfl, q⟩ := q
    simp only [B1_qf hB, B1_qt hB]
    rw [x_sub (by omega)]
    rcases q with ⟨rfl, q⟩ | ⟨rfl, q⟩
    · (repeat' (with_reducible first | refine And.intro ?_ ?_ | intro _))
      all_goals (try first | with_reducible rfl | with_reducible exact True.intro | with_reducible exact Or.inl True.intro | with_reducible exact Or.inr True.intro | omega | (exfalso; with_reducible assumption))
      · refine ⟨_, rfl, by trivial, (bI_f ?_).symm⟩
        rintro ⟨q1, q2, q3⟩
        omega
      · refine ⟨_, rfl, by trivial, (bI_t ?_).symm⟩
        exact ⟨q, by assumption, by omega⟩
    · (repeat' (with_reducible first | refine And.intro ?_ ?_ | intro _))
      all_goals (try first | with_reducible rfl | with_reducible exact True.intro | with_reducible exact Or.inl True.intro | with_reducible exact Or.inr True.intro | omega | (exfalso; with_reducible assumption))
      refine ⟨_, rfl, by trivial, (bI_f ?_).symm⟩
      rintro ⟨q1, q2, q3⟩
      exact q q1
set_option maxHeartbeats 4000000 in
theorem s2_isAhead {D M : AM} {a b : Int} (hL : eqL D M) (ha : 0 ≤ a ∧ a < 16) (hb : 0 ≤ b ∧ b < 16) : aCi s2_G 4 97 [aP 0, aI a, aI b] M (fun z M' => M' = M ∧ ((z = 1 ∧ aheadP D a b) ∨ (z = 0 ∧ ¬ aheadP D a b))) := by
  refine ⟨Nat.le_of_ble_eq_true rfl, fun d hd => ?_⟩
  refine s2_isAhead_0 (by omega) ?_
  simp only [L_55 hL, L_56 hL]
  unfold aheadP
  (repeat' (with_reducible first | refine And.intro ?_ ?_ | intro _))
  all_goals (try first | with_reducible rfl | with_reducible exact True.intro | with_reducible exact Or.inl True.intro | with_reducible exact Or.inr True.intro | omega | (exfalso; with_reducible assumption))
  all_goals first
    | (refine ⟨_, rfl, by trivial, Or.inl ⟨rfl, ?_⟩⟩; refine ⟨by omega, ?_, ?_⟩ <;> omega)
    | (refine ⟨_, rfl, by trivial, Or.inr ⟨rfl, ?_⟩⟩; rintro ⟨hab, q1, q2⟩; omega)
theorem s2_mayFollow {D M : AM} {a b : Int} (hI : Inv D) (hL : eqL D M) (ha : 0 ≤ a ∧ a < 16) (hb : 0 ≤ b ∧ b < 16) : aCi s2_G 5 98 [aP 0, aI a, aI b] M (fun z M' => M' = M ∧ z = bI (mayB D a b)) := by
  refine ⟨Nat.le_of_ble_eq_true rfl, fun d hd => ?_⟩
  refine s2_mayFollow_0 (by omega) ?_
  have x1 := Inv_qx hI a
  have x2 := Inv_qx hI b
  have y1 := Inv_qy hI a
  have y2 := Inv_qy hI b
  have t1 := Inv_qt hI a
  have f2 := Inv_qf hI b
  simp only [L_53 hL, L_54 hL]
  rw [x_sub (a := D 53 a) (by omega), x_sub (a := D 54 a) (by omega), x_sub (a := 0) (by omega), x_sub (a := 0) (by omega)]
  rw [show (if D 53 a - D 53 b < 0 then 0 - (D 53 a - D 53 b) else D 53 a - D 53 b) = absI (D 53 a - D 53 b) from by unfold absI; split <;> omega, show (if D 54 a - D 54 b < 0 then 0 - (D 54 a - D 54 b) else D 54 a - D 54 b) = absI (D 54 a - D 54 b) from by unfold absI; split <;> omega]
  have u := absI_rg (x := D 53 a - D 53 b) (by omega)
  have v := absI_rg (x := D 54 a - D 54 b) (by omega)
  rw [x_add (a := absI (D 53 a - D 53 b)) (by omega), x_add (by omega), x_div (by omega) (by omega) (by omega) (by omega)]
  (repeat' (with_reducible first | refine And.intro ?_ ?_ | intro _))
  all_goals (try first | with_reducible rfl | with_reducible exact True.intro | with_reducible exact Or.inl True.intro | with_reducible exact Or.inr True.intro | omega | (exfalso; with_reducible assumption))
  refine aKi_of (s2_isAhead hL ha hb) (by omega) (fun z M' q => ?_)
  obtain ⟨rfl, q⟩ := q
  simp only [L_52 hL, L_55 hL, L_56 hL]
  rw [x_sub (by omega)]
  rcases q with ⟨rfl, q⟩ | ⟨rfl, q⟩
  · (repeat' (with_reducible first | refine And.intro ?_ ?_ | intro _))
    all_goals (try first | with_reducible rfl | with_reducible exact True.intro | with_reducible exact Or.inl True.intro | with_reducible exact Or.inr True.intro | omega | (exfalso; with_reducible assumption))
    · refine ⟨_, rfl, by trivial, (bI_f ?_).symm⟩
      rintro ⟨q1, q2, q3⟩
      omega
    · refine ⟨_, rfl, by trivial, (bI_f ?_).symm⟩
      rintro ⟨q1, q2, q3⟩
      omega
    · refine ⟨_, rfl, by trivial, (bI_t ?_).symm⟩
      exact ⟨q, by assumption, by omega⟩
  · (repeat' (with_reducible first | refine And.intro ?_ ?_ | intro _))
    all_goals (try first | with_reducible rfl | with_reducible exact True.intro | with_reducible exact Or.inl True.intro | with_reducible exact Or.inr True.intro | omega | (exfalso; with_reducible assumption))
    refine ⟨_, rfl, by trivial, (bI_f ?_).symm⟩
    rintro ⟨q1, q2, q3⟩
    exact q q1
def f_one (D : AM) (a b : Int) : Int := if ¬ ((0 ≤ a ∧ a < D 0 78) ∧ 0 ≤ b ∧ b < D 0 78) then -100001 else bI (mayB D a b || mayB D b a)
theorem c1_one {D M : AM} {a b : Int} (hI : Inv D) (hB : B1 D M) : aCi s1_G 8 137 [aP 0, aI a, aI b] M (fun z M' => z = f_one D a b ∧ M' = M) := by
  refine ⟨Nat.le_of_ble_eq_true rfl, fun d hd => ?_⟩
  refine s1_one_0 (by omega) ?_
  have h1 := Inv_qn hI
  simp only [a_bl_n, a_bl_z, B1_qn hB]
  rw [x_sub (by omega)]
  unfold f_one
  (repeat' (with_reducible first | refine And.intro ?_ ?_ | intro _))
  · refine ⟨_, rfl, ?_⟩; (repeat (first | rw [if_pos (by omega)] | rw [if_neg (by omega)])); first | exact ⟨rfl, rfl⟩ | exact ⟨trivial, rfl⟩ | exact ⟨by omega, rfl⟩ | exact ⟨trivial, trivial⟩ | trivial
  · refine aKi_of (s1_Lives_joins hI hB (by omega) (by omega)) (by omega) (fun z M' q => ?_)
    obtain ⟨rfl, rfl⟩ := q
    cases e1 : mayB D a b
    · (repeat' (with_reducible first | refine And.intro ?_ ?_ | intro _))
      · rename_i q; exact absurd rfl q
      · refine aKi_of (s1_Lives_joins hI hB (by omega) (by omega)) (by omega) (fun z M' q => ?_)
        obtain ⟨rfl, rfl⟩ := q
        cases e2 : mayB D b a
        · (repeat' (with_reducible first | refine And.intro ?_ ?_ | intro _))
          · refine ⟨_, rfl, ?_⟩; (repeat (first | rw [if_pos (by omega)] | rw [if_neg (by omega)])); exact ⟨rfl, rfl⟩
          · rename_i q; exact absurd rfl q
        · (repeat' (with_reducible first | refine And.intro ?_ ?_ | intro _))
          · rename_i q; exact absurd q (by decide)
          · refine ⟨_, rfl, ?_⟩; (repeat (first | rw [if_pos (by omega)] | rw [if_neg (by omega)])); exact ⟨rfl, rfl⟩
    · (repeat' (with_reducible first | refine And.intro ?_ ?_ | intro _))
      · refine ⟨_, rfl, ?_⟩; (repeat (first | rw [if_pos (by omega)] | rw [if_neg (by omega)])); exact ⟨rfl, rfl⟩
      · rename_i q; exact absurd q (by decide)
  · refine ⟨_, rfl, ?_⟩; (repeat (first | rw [if_pos (by omega)] | rw [if_neg (by omega)])); first | exact ⟨rfl, rfl⟩ | exact ⟨trivial, rfl⟩ | exact ⟨by omega, rfl⟩ | exact ⟨trivial, trivial⟩ | trivial
theorem c2_one {M : AM} {a b : Int} (hI : Inv M) : aCi s2_G 8 99 [aP 0, aI a, aI b] M (fun z M' => z = f_one M a b ∧ M' = M) := by
  refine ⟨Nat.le_of_ble_eq_true rfl, fun d hd => ?_⟩
  refine s2_one_0 (by omega) ?_
  have h1 := Inv_qn hI
  simp only [a_bl_n, a_bl_z]
  rw [x_sub (by omega)]
  unfold f_one
  (repeat' (with_reducible first | refine And.intro ?_ ?_ | intro _))
  · refine ⟨_, rfl, ?_⟩; (repeat (first | rw [if_pos (by omega)] | rw [if_neg (by omega)])); first | exact ⟨rfl, rfl⟩ | exact ⟨trivial, rfl⟩ | exact ⟨by omega, rfl⟩ | exact ⟨trivial, trivial⟩ | trivial
  · refine aKi_of (s2_mayFollow hI eqL_rf (by omega) (by omega)) (by omega) (fun z M' q => ?_)
    obtain ⟨rfl, rfl⟩ := q
    cases e1 : mayB M' a b
    · (repeat' (with_reducible first | refine And.intro ?_ ?_ | intro _))
      · rename_i q; exact absurd rfl q
      · refine aKi_of (s2_mayFollow hI eqL_rf (by omega) (by omega)) (by omega) (fun z M' q => ?_)
        obtain ⟨rfl, rfl⟩ := q
        cases e2 : mayB M' b a
        · (repeat' (with_reducible first | refine And.intro ?_ ?_ | intro _))
          · refine ⟨_, rfl, ?_⟩; (repeat (first | rw [if_pos (by omega)] | rw [if_neg (by omega)])); exact ⟨rfl, rfl⟩
          · rename_i q; exact absurd rfl q
        · (repeat' (with_reducible first | refine And.intro ?_ ?_ | intro _))
          · rename_i q; exact absurd q (by decide)
          · refine ⟨_, rfl, ?_⟩; (repeat (first | rw [if_pos (by omega)] | rw [if_neg (by omega)])); exact ⟨rfl, rfl⟩
    · (repeat' (with_reducible first | refine And.intro ?_ ?_ | intro _))
      · refine ⟨_, rfl, ?_⟩; (repeat (first | rw [if_pos (by omega)] | rw [if_neg (by omega)])); exact ⟨rfl, rfl⟩
      · rename_i q; exact absurd q (by decide)
  · refine ⟨_, rfl, ?_⟩; (repeat (first | rw [if_pos (by omega)] | rw [if_neg (by omega)])); first | exact ⟨rfl, rfl⟩ | exact ⟨trivial, rfl⟩ | exact ⟨by omega, rfl⟩ | exact ⟨trivial, trivial⟩ | trivial
