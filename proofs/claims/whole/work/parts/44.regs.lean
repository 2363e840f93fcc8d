/-! THE REGISTER: go, person, living, set -/
abbrev wdG : Nat → Int → Bool := wr [1, 2, 3, 4] [(0, 0), (0, 1), (0, 3)]
abbrev wmG : Nat → Int → Bool := wr [2, 3, 4, 5] [(0, 10), (1, 4), (1, 5), (37, 11)]
theorem B1_reg {D D' M M' : AM} (hB : B1 D M) (gD : fr wdG D D') (gM : fr wmG M M') (hn : M' 0 10 = D' 0 0) (hG : G1 D' M') : B1 D' M' :=
  ⟨hn, hG, P1_fw (B1_P hB) gD gM rfl, C1_fw (B1_C hB) gD gM rfl, R1_fw (B1_R hB) gD gM rfl, S1_fw (B1_S hB) gD gM rfl, F1_fw (B1_F hB) gD gM rfl, E1_fw (B1_E hB) gD gM rfl⟩
theorem InvL_grow {D D' : AM} (h : InvL D) (gD : fr wdG D D') (h0 : D 0 0 ≤ D' 0 0) (h1 : D 0 1 ≤ D' 0 1) (h3 : D 0 3 ≤ D' 0 3) : InvL D' := by
  have e5 : D' 5 = D 5 := fr_c (rc := [5, 8, 9, 10]) (rf := []) gD rfl rfl
  have e8 : D' 8 = D 8 := fr_c (rc := [5, 8, 9, 10]) (rf := []) gD rfl rfl
  have e9 : D' 9 = D 9 := fr_c (rc := [5, 8, 9, 10]) (rf := []) gD rfl rfl
  have e10 : D' 10 = D 10 := fr_c (rc := [5, 8, 9, 10]) (rf := []) gD rfl rfl
  have e7 : D' 0 7 = D 0 7 := gD 0 7 rfl
  have e77 : D' 7 = D 7 := fr_c (rc := [7]) (rf := []) gD rfl rfl
  unfold InvL at h ⊢
  simp only [e5, e8, e9, e10, e7, e77]
  obtain ⟨a, b, c, e, f⟩ := h
  exact ⟨fun i u v w => by have := a i u v w; omega, fun i u v w => by have := b i u v w; omega, fun i u v w => by have := c i u v w; omega, e, fun i u v => by have := f i u v; omega⟩
theorem Inv_reg {D D' : AM} (hI : Inv D) (gD : fr wdG D D') (hn : 0 ≤ D' 0 0 ∧ D' 0 0 ≤ 30000) (hG : InvG D') (h0 : D 0 0 ≤ D' 0 0) (h1 : D 0 1 ≤ D' 0 1) (h3 : D 0 3 ≤ D' 0 3) : Inv D' :=
  ⟨hn, hG, InvP_fw (Inv_P hI) gD rfl, InvL_grow (Inv_L hI) gD h0 h1 h3, InvC_fw (Inv_C hI) gD rfl, InvR_fw (Inv_R hI) gD rfl, InvS_fw (Inv_S hI) gD rfl, InvF_fw (Inv_F hI) gD rfl, InvE_fw (Inv_E hI) gD rfl⟩
-- go
def g_go (D : AM) (x : Int) : Int × AM := ((f_go (D 0 0) x).1, am_up D 0 0 (f_go (D 0 0) x).2)
theorem c1_go {D M : AM} {x : Int} (hx : aR32 x) (hI : Inv D) (hB : B1 D M) : aCi s1_G 4 107 [aP 0, aI x] M (fun z M' => z = (g_go D x).1 ∧ M' = am_up M 0 10 (f_go (D 0 0) x).2) := by
  have h := s1_go (M := M) hx (by rw [B1_now hB]; exact (Inv_now hI).1) (by rw [B1_now hB]; exact (Inv_now hI).2)
  rw [B1_now hB] at h
  exact h
theorem c2_go {M : AM} {x : Int} (hx : aR32 x) (hI : Inv M) : aCi s2_G 4 7 [aP 0, aI x] M (fun z M' => z = (g_go M x).1 ∧ M' = (g_go M x).2) := s2_go hx (Inv_now hI).1 (Inv_now hI).2
theorem g_go_fr {D : AM} {x : Int} : fr wdG D (g_go D x).2 := fr_up fr_rf rfl
theorem g1_go_fr {M : AM} {y : Int} : fr wmG M (am_up M 0 10 y) := fr_up fr_rf rfl
theorem g_go_B1 {D M : AM} {x : Int} (hB : B1 D M) : B1 (g_go D x).2 (am_up M 0 10 (f_go (D 0 0) x).2) := by
  refine B1_reg hB g_go_fr g1_go_fr (by unfold g_go; dsimp only; rw [x_us, x_us]) ?_
  exact G1_fw (B1_G hB) (fr_up (fr_rf (W := wr [] [(0, 0)])) rfl) (fr_up (fr_rf (W := wr [] [(0, 10)])) rfl) rfl
theorem g_go_Inv {D : AM} {x : Int} (hI : Inv D) : Inv (g_go D x).2 := by
  have hn := Inv_now hI
  have key : D 0 0 ≤ (f_go (D 0 0) x).2 ∧ (f_go (D 0 0) x).2 ≤ 30000 := by
    unfold f_go
    split
    · split <;> (dsimp only; omega)
    · dsimp only; omega
  refine Inv_reg hI g_go_fr ?_ (InvG_fw (Inv_G hI) (fr_up (fr_rf (W := wr [] [(0, 0)])) rfl) rfl) ?_ (Int.le_of_eq (by unfold g_go; dsimp only; rw [x_uf (by decide)])) (Int.le_of_eq (by unfold g_go; dsimp only; rw [x_uf (by decide)]))
  · unfold g_go
    dsimp only
    rw [x_us]
    omega
  · unfold g_go
    dsimp only
    rw [x_us]
    exact key.1
-- person
def g_person (D : AM) (x : Int) : Int × AM := ((f_person (D 0 1) x).1, cond (f_person (D 0 1) x).2 (am_up (am_up D 1 (D 0 1) x) 0 1 (D 0 1 + 1)) D)
def g1_person (D M : AM) (x : Int) : AM := cond (f_person (D 0 1) x).2 (am_up (am_up M 2 (D 0 1) x) 1 4 (D 0 1 + 1)) M
theorem c1_person {D M : AM} {x : Int} (hI : Inv D) (hB : B1 D M) : aCi s1_G 8 108 [aP 0, aI x] M (fun z M' => z = (g_person D x).1 ∧ M' = g1_person D M x) := by
  have h := s1_person (M := M) (x := x) (by rw [B1_np hB]; exact (Inv_np hI).1) (by rw [B1_np hB]; exact (Inv_np hI).2)
  rw [B1_np hB] at h
  exact h
theorem c2_person {M : AM} {x : Int} (hI : Inv M) : aCi s2_G 8 8 [aP 0, aI x] M (fun z M' => z = (g_person M x).1 ∧ M' = (g_person M x).2) := s2_person (Inv_np hI).1 (Inv_np hI).2
theorem g_person_fr {D : AM} {x : Int} : fr wdG D (g_person D x).2 := by
  unfold g_person; dsimp only; cases (f_person (D 0 1) x).2
  · exact fr_rf
  · exact fr_up (fr_up fr_rf rfl) rfl
theorem g1_person_fr {D M : AM} {x : Int} : fr wmG M (g1_person D M x) := by
  unfold g1_person; cases (f_person (D 0 1) x).2
  · exact fr_rf
  · exact fr_up (fr_up fr_rf rfl) rfl
theorem g_person_B1 {D M : AM} {x : Int} (hB : B1 D M) : B1 (g_person D x).2 (g1_person D M x) := by
  refine B1_reg hB g_person_fr g1_person_fr ?_ ?_
  · unfold g_person g1_person; dsimp only; cases (f_person (D 0 1) x).2
    · exact B1_now hB
    · dsimp only [cond]; simp (decide := true) only [x_uc, x_uf, x_us]; exact B1_now hB
  · unfold g_person g1_person; dsimp only; cases (f_person (D 0 1) x).2
    · exact B1_G hB
    · dsimp only [cond]
      unfold G1
      simp (decide := true) only [x_uc, x_us, x_uf, x_uk, x_uu, up1_s, up1_n, B1_np hB, B1_nl hB, B1_est hB, B1_x hB, B1_y hB, B1_wo hB]
theorem g_person_Inv {D : AM} {x : Int} (hI : Inv D) : Inv (g_person D x).2 := by
  have h1 := Inv_np hI
  by_cases hr : (0 ≤ x ∧ x ≤ 9999) ∧ D 0 1 < 40
  · have e : (f_person (D 0 1) x).2 = true := by unfold f_person; rw [if_pos hr.1, if_pos hr.2]
    refine Inv_reg hI g_person_fr ?_ ?_ ?_ ?_ ?_ <;> unfold g_person <;> rw [e] <;> dsimp only [cond]
    · simp (decide := true) only [x_uc, x_uf, x_us]; exact Inv_now hI
    · unfold InvG
      simp (decide := true) only [x_uc, x_us, x_uf, x_uk, x_uu, up1_s, up1_n]
      exact ⟨by omega, Inv_nl hI, up1_rg (Inv_est hI) hr.1, Inv_x hI, Inv_y hI, Inv_wo hI⟩
    · simp (decide := true) only [x_uc, x_uf, x_us]; omega
    · rw [x_us]; omega
    · simp (decide := true) only [x_uc, x_uf, x_us]; omega
  · have e : (f_person (D 0 1) x).2 = false := by
      unfold f_person
      split
      · split
        · exact absurd ⟨by assumption, by assumption⟩ hr
        · rfl
      · rfl
    unfold g_person
    rw [e]
    exact hI
-- living
def g_living (D : AM) (x y w : Int) : Int × AM := ((f_living (D 0 3) x y w).1, cond (f_living (D 0 3) x y w).2 (am_up (am_up (am_up (am_up D 2 (D 0 3) x) 3 (D 0 3) y) 4 (D 0 3) w) 0 3 (D 0 3 + 1)) D)
def g1_living (D M : AM) (x y w : Int) : AM := cond (f_living (D 0 3) x y w).2 (am_up (am_up (am_up (am_up M 3 (D 0 3) x) 4 (D 0 3) y) 5 (D 0 3) w) 1 5 (D 0 3 + 1)) M
theorem c1_living {D M : AM} {x y w : Int} (hI : Inv D) (hB : B1 D M) : aCi s1_G 8 109 [aP 0, aI x, aI y, aI w] M (fun z M' => z = (g_living D x y w).1 ∧ M' = g1_living D M x y w) := by
  have h := s1_living (M := M) (x := x) (y := y) (w := w) (by rw [B1_nl hB]; exact (Inv_nl hI).1) (by rw [B1_nl hB]; exact (Inv_nl hI).2)
  rw [B1_nl hB] at h
  exact h
theorem c2_living {M : AM} {x y w : Int} (hI : Inv M) : aCi s2_G 8 9 [aP 0, aI x, aI y, aI w] M (fun z M' => z = (g_living M x y w).1 ∧ M' = (g_living M x y w).2) := s2_living (Inv_nl hI).1 (Inv_nl hI).2
theorem g_living_fr {D : AM} {x y w : Int} : fr wdG D (g_living D x y w).2 := by
  unfold g_living; dsimp only; cases (f_living (D 0 3) x y w).2
  · exact fr_rf
  · exact fr_up (fr_up (fr_up (fr_up fr_rf rfl) rfl) rfl) rfl
theorem g1_living_fr {D M : AM} {x y w : Int} : fr wmG M (g1_living D M x y w) := by
  unfold g1_living; cases (f_living (D 0 3) x y w).2
  · exact fr_rf
  · exact fr_up (fr_up (fr_up (fr_up fr_rf rfl) rfl) rfl) rfl
theorem g_living_B1 {D M : AM} {x y w : Int} (hB : B1 D M) : B1 (g_living D x y w).2 (g1_living D M x y w) := by
  refine B1_reg hB g_living_fr g1_living_fr ?_ ?_
  · unfold g_living g1_living; dsimp only; cases (f_living (D 0 3) x y w).2
    · exact B1_now hB
    · dsimp only [cond]; simp (decide := true) only [x_uc, x_uf, x_us]; exact B1_now hB
  · unfold g_living g1_living; dsimp only; cases (f_living (D 0 3) x y w).2
    · exact B1_G hB
    · dsimp only [cond]
      unfold G1
      simp (decide := true) only [x_uc, x_us, x_uf, x_uk, x_uu, up1_s, up1_n, B1_np hB, B1_nl hB, B1_est hB, B1_x hB, B1_y hB, B1_wo hB]
theorem g_living_Inv {D : AM} {x y w : Int} (hI : Inv D) : Inv (g_living D x y w).2 := by
  have h1 := Inv_nl hI
  by_cases hr : ((-50 ≤ x ∧ x ≤ 50) ∧ (-50 ≤ y ∧ y ≤ 50)) ∧ (0 ≤ w ∧ w ≤ 999) ∧ D 0 3 < 12
  · have e : (f_living (D 0 3) x y w).2 = true := by unfold f_living; rw [if_pos hr.1, if_pos hr.2.1, if_pos hr.2.2]
    refine Inv_reg hI g_living_fr ?_ ?_ ?_ ?_ ?_ <;> unfold g_living <;> rw [e] <;> dsimp only [cond]
    · simp (decide := true) only [x_uc, x_uf, x_us]; exact Inv_now hI
    · unfold InvG
      simp (decide := true) only [x_uc, x_us, x_uf, x_uk, x_uu, up1_s, up1_n]
      exact ⟨Inv_np hI, by omega, Inv_est hI, up1_rg (Inv_x hI) hr.1.1, up1_rg (Inv_y hI) hr.1.2, up1_rg (Inv_wo hI) hr.2.1⟩
    · simp (decide := true) only [x_uc, x_uf, x_us]; omega
    · simp (decide := true) only [x_uc, x_uf, x_us]; omega
    · rw [x_us]; omega
  · have e : (f_living (D 0 3) x y w).2 = false := by
      unfold f_living
      split
      · split
        · split
          · exact absurd ⟨by assumption, by assumption, by assumption⟩ hr
          · rfl
        · rfl
      · rfl
    unfold g_living
    rw [e]
    exact hI
-- set
def f_set (D : AM) (w i v : Int) : Int × AM :=
  if ¬ (w = 0 ∨ w = 1) then (-100002, D) else if ¬ ((w = 0 ∧ 0 ≤ i ∧ i < D 0 3) ∨ (w = 1 ∧ 0 ≤ i ∧ i < D 0 1)) then (-100001, D) else
  if ¬ ((w = 0 ∧ 0 ≤ v ∧ v ≤ 999) ∨ (w = 1 ∧ 0 ≤ v ∧ v ≤ 9999)) then (-100002, D) else
  if w = 0 then (D 4 i, am_up D 4 i v) else (D 1 i, am_up D 1 i v)
def f1_set (D M : AM) (w i v : Int) : AM :=
  if (w = 0 ∧ 0 ≤ i ∧ i < D 0 3) ∧ 0 ≤ v ∧ v ≤ 999 then am_up (am_up M 5 i v) 37 11 (-1) else if (w = 1 ∧ 0 ≤ i ∧ i < D 0 1) ∧ 0 ≤ v ∧ v ≤ 9999 then am_up M 2 i v else M
theorem s1_Story_forget {M : AM} : aCv s1_G 4 68 [aP 37] M (fun M' => M' = am_up M 37 11 (-1)) := by
  refine ⟨Nat.le_of_ble_eq_true rfl, fun d hd => ?_⟩
  refine s1_Story_forget_0 (by omega) ?_
  exact ⟨rfl, rfl⟩
set_option maxHeartbeats 4000000 in
theorem c1_set {D M : AM} {w i v : Int} (hI : Inv D) (hB : B1 D M) : aCi s1_G 8 110 [aP 0, aI w, aI i, aI v] M (fun z M' => z = (f_set D w i v).1 ∧ M' = f1_set D M w i v) := by
  refine ⟨Nat.le_of_ble_eq_true rfl, fun d hd => ?_⟩
  refine s1_set_0 (by omega) ?_
  have h1 := Inv_np hI
  have h2 := Inv_nl hI
  simp only [a_bl_n, a_bl_z, B1_np hB, B1_nl hB, B1_wo hB, B1_est hB]
  rw [x_sub (by omega), x_sub (by omega)]
  by_cases w0 : w = 0
  · subst w0
    unfold f_set f1_set
    (repeat' (with_reducible first | refine And.intro ?_ ?_ | intro _))
    all_goals (try omega)
    all_goals first
      | (refine ⟨_, rfl, ?_⟩; (repeat (first | rw [if_pos (by omega)] | rw [if_neg (by omega)])); first | exact ⟨rfl, rfl⟩ | exact ⟨trivial, rfl⟩ | exact ⟨by omega, rfl⟩ | exact ⟨trivial, trivial⟩ | trivial)
      | (refine aKv_of s1_Story_forget (by omega) (fun M' q => ⟨_, rfl, ?_⟩)
         (repeat (first | rw [if_pos (by omega)] | rw [if_neg (by omega)]))
         exact ⟨by trivial, q⟩)
  · by_cases w1 : w = 1
    · subst w1
      unfold f_set f1_set
      (repeat' (with_reducible first | refine And.intro ?_ ?_ | intro _))
      all_goals (try omega)
      all_goals (refine ⟨_, rfl, ?_⟩; (repeat (first | rw [if_pos (by omega)] | rw [if_neg (by omega)])); first | exact ⟨rfl, rfl⟩ | exact ⟨trivial, rfl⟩ | exact ⟨by omega, rfl⟩ | exact ⟨trivial, trivial⟩ | trivial)
    · unfold f_set f1_set
      (repeat' (with_reducible first | refine And.intro ?_ ?_ | intro _))
      all_goals (try omega)
      all_goals (refine ⟨_, rfl, ?_⟩; (repeat (first | rw [if_pos (by omega)] | rw [if_neg (by omega)])); first | exact ⟨rfl, rfl⟩ | exact ⟨trivial, rfl⟩ | exact ⟨by omega, rfl⟩ | exact ⟨trivial, trivial⟩ | trivial)
set_option maxHeartbeats 4000000 in
theorem c2_set {M : AM} {w i v : Int} (hI : Inv M) : aCi s2_G 8 11 [aP 0, aI w, aI i, aI v] M (fun z M' => z = (f_set M w i v).1 ∧ M' = (f_set M w i v).2) := by
  refine ⟨Nat.le_of_ble_eq_true rfl, fun d hd => ?_⟩
  refine s2_set_0 (by omega) ?_
  have h1 := Inv_np hI
  have h2 := Inv_nl hI
  simp only [a_bl_n, a_bl_z]
  rw [x_sub (by omega), x_sub (by omega)]
  by_cases w0 : w = 0
  · subst w0
    unfold f_set
    (repeat' (with_reducible first | refine And.intro ?_ ?_ | intro _))
    all_goals (try omega)
    all_goals (refine ⟨_, rfl, ?_⟩; (repeat (first | rw [if_pos (by omega)] | rw [if_neg (by omega)])); first | exact ⟨rfl, rfl⟩ | exact ⟨trivial, rfl⟩ | exact ⟨by omega, rfl⟩ | exact ⟨trivial, trivial⟩ | trivial)
  · by_cases w1 : w = 1
    · subst w1
      unfold f_set
      (repeat' (with_reducible first | refine And.intro ?_ ?_ | intro _))
      all_goals (try omega)
      all_goals (refine ⟨_, rfl, ?_⟩; (repeat (first | rw [if_pos (by omega)] | rw [if_neg (by omega)])); first | exact ⟨rfl, rfl⟩ | exact ⟨trivial, rfl⟩ | exact ⟨by omega, rfl⟩ | exact ⟨trivial, trivial⟩ | trivial)
    · unfold f_set
      (repeat' (with_reducible first | refine And.intro ?_ ?_ | intro _))
      all_goals (try omega)
      all_goals (refine ⟨_, rfl, ?_⟩; (repeat (first | rw [if_pos (by omega)] | rw [if_neg (by omega)])); first | exact ⟨rfl, rfl⟩ | exact ⟨trivial, rfl⟩ | exact ⟨by omega, rfl⟩ | exact ⟨trivial, trivial⟩ | trivial)
theorem f_set_fr {D : AM} {w i v : Int} : fr wdG D (f_set D w i v).2 := by
  unfold f_set
  (repeat' split) <;> first | exact fr_rf | exact fr_up fr_rf rfl
theorem f1_set_fr {D M : AM} {w i v : Int} : fr wmG M (f1_set D M w i v) := by
  unfold f1_set
  (repeat' split) <;> first | exact fr_rf | exact fr_up (fr_up fr_rf rfl) rfl | exact fr_up fr_rf rfl
theorem f_set_B1 {D M : AM} {w i v : Int} (hB : B1 D M) : B1 (f_set D w i v).2 (f1_set D M w i v) := by
  by_cases h0 : (w = 0 ∧ 0 ≤ i ∧ i < D 0 3) ∧ 0 ≤ v ∧ v ≤ 999
  · refine B1_reg hB f_set_fr f1_set_fr ?_ ?_ <;> unfold f_set f1_set <;> (repeat (first | rw [if_pos (by omega)] | rw [if_neg (by omega)]))
    · simp (decide := true) only [x_uc, x_uf, x_us, x_uk]; exact B1_now hB
    · unfold G1
      simp (decide := true) only [x_uc, x_us, x_uf, x_uk, x_uu, up1_s, up1_n, B1_np hB, B1_nl hB, B1_est hB, B1_x hB, B1_y hB, B1_wo hB]
  · by_cases h1 : (w = 1 ∧ 0 ≤ i ∧ i < D 0 1) ∧ 0 ≤ v ∧ v ≤ 9999
    · refine B1_reg hB f_set_fr f1_set_fr ?_ ?_ <;> unfold f_set f1_set <;> (repeat (first | rw [if_pos (by omega)] | rw [if_neg (by omega)]))
      · simp (decide := true) only [x_uc, x_uf, x_us, x_uk]; exact B1_now hB
      · unfold G1
        simp (decide := true) only [x_uc, x_us, x_uf, x_uk, x_uu, up1_s, up1_n, B1_np hB, B1_nl hB, B1_est hB, B1_x hB, B1_y hB, B1_wo hB]
    · have e : (f_set D w i v).2 = D := by
        unfold f_set
        (repeat' split) <;> first | rfl | (exfalso; omega)
      have e1 : f1_set D M w i v = M := by unfold f1_set; rw [if_neg h0, if_neg h1]
      rw [e, e1]
      exact hB
theorem f_set_Inv {D : AM} {w i v : Int} (hI : Inv D) : Inv (f_set D w i v).2 := by
  unfold f_set
  (repeat' split) <;> first | exact hI | skip
  · refine Inv_reg hI (fr_up fr_rf rfl) ?_ ?_ ?_ ?_ ?_
    · simp (decide := true) only [x_uc, x_uf, x_us, x_uk]; exact Inv_now hI
    · unfold InvG
      simp (decide := true) only [x_uc, x_us, x_uf, x_uk, x_uu, up1_s, up1_n]
      exact ⟨Inv_np hI, Inv_nl hI, Inv_est hI, Inv_x hI, Inv_y hI, up1_rg (Inv_wo hI) (by omega)⟩
    · simp (decide := true) only [x_uk, x_uf, x_us]; omega
    · simp (decide := true) only [x_uk, x_uf, x_us]; omega
    · simp (decide := true) only [x_uk, x_uf, x_us]; omega
  · refine Inv_reg hI (fr_up fr_rf rfl) ?_ ?_ ?_ ?_ ?_
    · simp (decide := true) only [x_uc, x_uf, x_us, x_uk]; exact Inv_now hI
    · unfold InvG
      simp (decide := true) only [x_uc, x_us, x_uf, x_uk, x_uu, up1_s, up1_n]
      exact ⟨Inv_np hI, Inv_nl hI, up1_rg (Inv_est hI) (by omega), Inv_x hI, Inv_y hI, Inv_wo hI⟩
    · simp (decide := true) only [x_uk, x_uf, x_us]; omega
    · simp (decide := true) only [x_uk, x_uf, x_us]; omega
    · simp (decide := true) only [x_uk, x_uf, x_us]; omega
