/-! THE RELATION OF THE TWO STORES, module by module; the calls of each module. -/
/-- the day -/
def r_day (M1 M2 : AM) : Prop := M1 0 10 = M2 0 0 ∧ 0 ≤ M2 0 0 ∧ M2 0 0 ≤ 30000
/-- go, read off the reference's store -/
def f_go (now x : Int) : Int × Int := if 0 ≤ x ∧ x ≤ 9999 then (if now + x ≤ 30000 then (now + x, now + x) else (-100003, now)) else (-100002, now)
theorem s1_go {M : AM} {x : Int} (hx : aR32 x) (h0 : 0 ≤ M 0 10) (h1 : M 0 10 ≤ 30000) : aCi s1_G 4 107 [aP 0, aI x] M (fun z M' => z = (f_go (M 0 10) x).1 ∧ M' = am_up M 0 10 (f_go (M 0 10) x).2) := by
  refine ⟨Nat.le_of_ble_eq_true rfl, fun d hd => ?_⟩
  refine s1_go_0 (by omega) ?_
  have up : am_up M 0 10 (M 0 10) = M := by funext k i; simp only [am_up]; split <;> simp_all
  by_cases hr : 0 ≤ x ∧ x ≤ 9999
  · have ea : a_add (M 0 10) x = M 0 10 + x := x_add (by omega)
    rw [ea, a_bl_t hr]
    refine ⟨fun _ => ⟨fun h => ⟨_, rfl, ?_⟩, fun h => ⟨_, rfl, ?_⟩⟩, fun h => absurd h (by decide)⟩
    · unfold f_go; rw [if_pos hr, if_pos h]; exact ⟨x_us, rfl⟩
    · unfold f_go; rw [if_pos hr, if_neg (by omega)]; exact ⟨rfl, up.symm⟩
  · rw [a_bl_f hr]
    refine ⟨fun h => absurd rfl h, fun _ => ⟨_, rfl, ?_⟩⟩
    unfold f_go; rw [if_neg hr]; exact ⟨rfl, up.symm⟩
theorem s2_go {M : AM} {x : Int} (hx : aR32 x) (h0 : 0 ≤ M 0 0) (h1 : M 0 0 ≤ 30000) : aCi s2_G 4 7 [aP 0, aI x] M (fun z M' => z = (f_go (M 0 0) x).1 ∧ M' = am_up M 0 0 (f_go (M 0 0) x).2) := by
  refine ⟨Nat.le_of_ble_eq_true rfl, fun d hd => ?_⟩
  refine s2_go_0 (by omega) ?_
  have up : am_up M 0 0 (M 0 0) = M := by funext k i; simp only [am_up]; split <;> simp_all
  by_cases hr : 0 ≤ x ∧ x ≤ 9999
  · have ea : a_add (M 0 0) x = M 0 0 + x := x_add (by omega)
    rw [ea, a_bl_t hr]
    refine ⟨fun _ => ⟨fun h => ⟨_, rfl, ?_⟩, fun h => ⟨_, rfl, ?_⟩⟩, fun h => absurd h (by decide)⟩
    · unfold f_go; rw [if_pos hr, if_pos h]; exact ⟨x_us, rfl⟩
    · unfold f_go; rw [if_pos hr, if_neg (by omega)]; exact ⟨rfl, up.symm⟩
  · rw [a_bl_f hr]
    refine ⟨fun h => absurd rfl h, fun _ => ⟨_, rfl, ?_⟩⟩
    unfold f_go; rw [if_neg hr]; exact ⟨rfl, up.symm⟩
/-- person: the answer, and whether one is entered -/
def f_person (n x : Int) : Int × Bool := if 0 ≤ x ∧ x ≤ 9999 then (if n < 40 then (n, true) else (-100004, false)) else (-100002, false)
theorem s1_addPerson {M : AM} {x : Int} (h0 : 0 ≤ M 1 4) (h1 : M 1 4 ≤ 40) : aCi s1_G 4 55 [aP 1, aI x] M (fun z M' => if M 1 4 < 40 then z = M 1 4 ∧ M' = am_up (am_up M 2 (M 1 4) x) 1 4 (M 1 4 + 1) else z = -100004 ∧ M' = M) := by
  refine ⟨Nat.le_of_ble_eq_true rfl, fun d hd => ?_⟩
  refine s1_Register_addPerson_0 (by omega) ?_
  have e : (am_up M 2 (M 1 4) x) 1 4 = M 1 4 := x_uc (by decide)
  rw [e, x_add (by omega)]
  refine ⟨fun h => ⟨⟨h0, h⟩, _, rfl, ?_⟩, fun h => ⟨_, rfl, ?_⟩⟩
  · show (if _ then _ else _); rw [if_pos h]; exact ⟨rfl, rfl⟩
  · show (if _ then _ else _); rw [if_neg (by omega)]; exact ⟨rfl, rfl⟩
theorem s1_person {M : AM} {x : Int} (h0 : 0 ≤ M 1 4) (h1 : M 1 4 ≤ 40) : aCi s1_G 8 108 [aP 0, aI x] M (fun z M' => z = (f_person (M 1 4) x).1 ∧ M' = cond (f_person (M 1 4) x).2 (am_up (am_up M 2 (M 1 4) x) 1 4 (M 1 4 + 1)) M) := by
  refine ⟨Nat.le_of_ble_eq_true rfl, fun d hd => ?_⟩
  refine s1_person_0 (by omega) ?_
  unfold f_person
  by_cases hr : 0 ≤ x ∧ x ≤ 9999
  · rw [a_bl_t hr, if_pos hr]
    refine ⟨fun _ => aKi_of (s1_addPerson h0 h1) (by omega) (fun z M' q => ⟨z, rfl, ?_⟩), fun h => absurd h (by decide)⟩
    by_cases hn : M 1 4 < 40
    · rw [if_pos hn] at q ⊢; exact q
    · rw [if_neg hn] at q ⊢; exact q
  · rw [a_bl_f hr, if_neg hr]
    exact ⟨fun h => absurd rfl h, fun _ => ⟨_, rfl, rfl, rfl⟩⟩
theorem s2_person {M : AM} {x : Int} (h0 : 0 ≤ M 0 1) (h1 : M 0 1 ≤ 40) : aCi s2_G 8 8 [aP 0, aI x] M (fun z M' => z = (f_person (M 0 1) x).1 ∧ M' = cond (f_person (M 0 1) x).2 (am_up (am_up M 1 (M 0 1) x) 0 1 (M 0 1 + 1)) M) := by
  refine ⟨Nat.le_of_ble_eq_true rfl, fun d hd => ?_⟩
  refine s2_person_0 (by omega) ?_
  unfold f_person
  have e : (am_up M 1 (M 0 1) x) 0 1 = M 0 1 := x_uc (by decide)
  rw [e, x_us, x_add (by omega), x_sub (by omega)]
  by_cases hr : 0 ≤ x ∧ x ≤ 9999
  · rw [a_bl_t hr, if_pos hr]
    refine ⟨fun _ => ⟨fun hn => ⟨⟨h0, by omega⟩, _, rfl, ?_⟩, fun hn => ⟨_, rfl, ?_⟩⟩, fun h => absurd h (by decide)⟩
    · rw [if_pos (by omega)]; exact ⟨by omega, rfl⟩
    · rw [if_neg (by omega)]; exact ⟨rfl, rfl⟩
  · rw [a_bl_f hr, if_neg hr]
    exact ⟨fun h => absurd rfl h, fun _ => ⟨_, rfl, rfl, rfl⟩⟩
/-- living -/
def f_living (n x y w : Int) : Int × Bool := if (-50 ≤ x ∧ x ≤ 50) ∧ (-50 ≤ y ∧ y ≤ 50) then (if 0 ≤ w ∧ w ≤ 999 then (if n < 12 then (n, true) else (-100004, false)) else (-100002, false)) else (-100002, false)
theorem s1_addLiving {M : AM} {x y w : Int} (h0 : 0 ≤ M 1 5) (h1 : M 1 5 ≤ 12) : aCi s1_G 4 56 [aP 1, aI x, aI y, aI w] M (fun z M' => if M 1 5 < 12 then z = M 1 5 ∧ M' = am_up (am_up (am_up (am_up M 3 (M 1 5) x) 4 (M 1 5) y) 5 (M 1 5) w) 1 5 (M 1 5 + 1) else z = -100004 ∧ M' = M) := by
  refine ⟨Nat.le_of_ble_eq_true rfl, fun d hd => ?_⟩
  refine s1_Register_addLiving_0 (by omega) ?_
  simp (decide := true) only [x_uc, x_us]
  rw [x_add (by omega)]
  refine ⟨fun h => ⟨⟨h0, h⟩, ⟨h0, h⟩, ⟨h0, h⟩, _, rfl, ?_⟩, fun h => ⟨_, rfl, ?_⟩⟩
  · show (if _ then _ else _); rw [if_pos h]; exact ⟨rfl, rfl⟩
  · show (if _ then _ else _); rw [if_neg (by omega)]; first | exact ⟨rfl, rfl⟩ | trivial | exact ⟨trivial, rfl⟩ | exact ⟨rfl, trivial⟩
theorem s1_living {M : AM} {x y w : Int} (h0 : 0 ≤ M 1 5) (h1 : M 1 5 ≤ 12) : aCi s1_G 8 109 [aP 0, aI x, aI y, aI w] M (fun z M' => z = (f_living (M 1 5) x y w).1 ∧ M' = cond (f_living (M 1 5) x y w).2 (am_up (am_up (am_up (am_up M 3 (M 1 5) x) 4 (M 1 5) y) 5 (M 1 5) w) 1 5 (M 1 5 + 1)) M) := by
  refine ⟨Nat.le_of_ble_eq_true rfl, fun d hd => ?_⟩
  refine s1_living_0 (by omega) ?_
  unfold f_living
  by_cases hr : (-50 ≤ x ∧ x ≤ 50) ∧ (-50 ≤ y ∧ y ≤ 50)
  · rw [a_bl_t hr, if_pos hr]
    refine ⟨fun h => absurd h (by decide), fun _ => ?_⟩
    by_cases hw : 0 ≤ w ∧ w ≤ 999
    · rw [a_bl_t hw, if_pos hw]
      refine ⟨fun _ => aKi_of (s1_addLiving h0 h1) (by omega) (fun z M' q => ⟨z, rfl, ?_⟩), fun h => absurd h (by decide)⟩
      by_cases hn : M 1 5 < 12
      · rw [if_pos hn] at q ⊢; exact q
      · rw [if_neg hn] at q ⊢; exact q
    · rw [a_bl_f hw, if_neg hw]
      exact ⟨fun h => absurd rfl h, fun _ => ⟨_, rfl, rfl, rfl⟩⟩
  · rw [a_bl_f hr, if_neg hr]
    exact ⟨fun _ => ⟨_, rfl, rfl, rfl⟩, fun h => absurd rfl h⟩
theorem s2_living {M : AM} {x y w : Int} (h0 : 0 ≤ M 0 3) (h1 : M 0 3 ≤ 12) : aCi s2_G 8 9 [aP 0, aI x, aI y, aI w] M (fun z M' => z = (f_living (M 0 3) x y w).1 ∧ M' = cond (f_living (M 0 3) x y w).2 (am_up (am_up (am_up (am_up M 2 (M 0 3) x) 3 (M 0 3) y) 4 (M 0 3) w) 0 3 (M 0 3 + 1)) M) := by
  refine ⟨Nat.le_of_ble_eq_true rfl, fun d hd => ?_⟩
  refine s2_living_0 (by omega) ?_
  simp (decide := true) only [x_uc, x_us]
  rw [x_add (by omega), x_sub (by omega)]
  unfold f_living
  by_cases hx : -50 ≤ x ∧ x ≤ 50
  · rw [a_bl_t hx]
    refine ⟨fun h => absurd h (by decide), fun _ => ?_⟩
    by_cases hy : -50 ≤ y ∧ y ≤ 50
    · rw [a_bl_t hy, if_pos ⟨hx, hy⟩]
      refine ⟨fun h => absurd h (by decide), fun _ => ?_⟩
      by_cases hw : 0 ≤ w ∧ w ≤ 999
      · rw [a_bl_t hw, if_pos hw]
        refine ⟨fun _ => ⟨fun hn => ⟨⟨h0, by omega⟩, ⟨h0, by omega⟩, ⟨h0, by omega⟩, _, rfl, ?_⟩, fun hn => ⟨_, rfl, ?_⟩⟩, fun h => absurd h (by decide)⟩
        · rw [if_pos (by omega)]; exact ⟨by omega, rfl⟩
        · rw [if_neg (by omega)]; exact ⟨rfl, rfl⟩
      · rw [a_bl_f hw, if_neg hw]
        exact ⟨fun h => absurd rfl h, fun _ => ⟨_, rfl, rfl, rfl⟩⟩
    · rw [a_bl_f hy, if_neg (fun h => hy h.2)]
      exact ⟨fun _ => ⟨_, rfl, rfl, rfl⟩, fun h => absurd rfl h⟩
  · rw [a_bl_f hx, if_neg (fun h => hx h.1)]
    exact ⟨fun _ => ⟨_, rfl, rfl, rfl⟩, fun h => absurd rfl h⟩
