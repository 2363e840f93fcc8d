/-! MATCH: the class -/
abbrev wU3 : Nat → Int → Bool := wr [170, 180] [(93, 6)]
def PairL (D M : AM) (l : Int) : Prop := 0 ≤ l ∧ l < D 0 3 ∧ M 170 0 = cst D l 0 0 ∧ ∀ i : Nat, i < osN D l → M 180 (i : Int) = parN D l i
def PairC (D M : AM) : Prop := M 93 6 = -1 ∨ PairL D M (M 93 6)
theorem s1_Terriers_pairCost {D M : AM} {l : Int} {i j : Nat} (hI : Inv D) (hF : F1 D M) (hl : 0 ≤ l ∧ l < 12) (hi : i < 8) (hj : j < 8) : aCi s1_G 4 98 [aP 93, aI l, aI (i : Int), aI (j : Int)] M (fun z M' => M' = M ∧ z = prcI D (16 * l + (i : Int)) (16 * l + 8 + (j : Int))) := by
  refine ⟨Nat.le_of_ble_eq_true rfl, fun d hd => ?_⟩
  refine s1_Terriers_pairCost_0 (by omega) ?_
  rw [x_mul (a := 2) (by omega), x_add (a := 2 * l) (b := 1) (by omega), show 2 * l * 8 + (i : Int) = 16 * l + i by omega, show (2 * l + 1) * 8 + (j : Int) = 16 * l + 8 + j by omega, F1_fm hF, F1_fa hF, F1_fx hF]
  have h1 := Inv_fa hI (16 * l + (i : Int))
  have h2 := Inv_fa hI (16 * l + 8 + (j : Int))
  rw [x_sub (by omega), x_neg (by omega)]
  have hp : -1000 ≤ (if D 49 (16 * l + (i : Int)) - D 49 (16 * l + 8 + (j : Int)) < 0 then -(D 49 (16 * l + (i : Int)) - D 49 (16 * l + 8 + (j : Int))) else D 49 (16 * l + (i : Int)) - D 49 (16 * l + 8 + (j : Int))) ∧ (if D 49 (16 * l + (i : Int)) - D 49 (16 * l + 8 + (j : Int)) < 0 then -(D 49 (16 * l + (i : Int)) - D 49 (16 * l + 8 + (j : Int))) else D 49 (16 * l + (i : Int)) - D 49 (16 * l + 8 + (j : Int))) ≤ 1000 := by
    split <;> omega
  unfold prcI
  generalize (if D 49 (16 * l + (i : Int)) - D 49 (16 * l + 8 + (j : Int)) < 0 then -(D 49 (16 * l + (i : Int)) - D 49 (16 * l + 8 + (j : Int))) else D 49 (16 * l + (i : Int)) - D 49 (16 * l + 8 + (j : Int))) = A at hp ⊢
  rw [x_add (a := A) (b := 7) (by omega), x_add (a := A) (b := 0) (by omega), x_add (a := A + 7) (b := 3) (by omega), x_add (a := A + 7) (b := 0) (by omega), x_add (a := A + 0) (b := 3) (by omega), x_add (a := A + 0) (b := 0) (by omega)]
  (repeat' (with_reducible first | refine And.intro ?_ ?_ | intro _))
  all_goals (try omega)
  all_goals (refine ⟨_, rfl, rfl, ?_⟩; (repeat (first | rw [if_pos (by omega)] | rw [if_neg (by omega)])))
theorem s1_Terriers_aloneCost {D M : AM} {r k : Int} (hI : Inv D) (hF : F1 D M) (hr : 0 ≤ r ∧ r < 24) (hk : 0 ≤ k ∧ k < 8) : aCi s1_G 4 99 [aP 93, aI r, aI k] M (fun z M' => M' = M ∧ z = aloI D (8 * r + k)) := by
  refine ⟨Nat.le_of_ble_eq_true rfl, fun d hd => ?_⟩
  refine s1_Terriers_aloneCost_0 (by omega) ?_
  have h1 := Inv_fa hI (8 * r + k)
  rw [show r * 8 + k = 8 * r + k by omega, F1_fa hF, x_div (by omega) (by omega) (by omega) (by omega), x_add (by omega)]
  exact ⟨by omega, by omega, by omega, _, rfl, rfl, rfl⟩
theorem s1_Terriers_aloneBehind {D M : AM} {l : Int} {u : Nat} (hI : Inv D) (hF : F1 D M) (hl : 0 ≤ l ∧ l < 12) (hu : u < 256) : aCi s1_G 6 100 [aP 93, aI (2 * l + 1), aI (u : Int)] M (fun z M' => M' = M ∧ z = behF (fun j => aloI D (16 * l + 8 + (j : Int))) u (nsN D l)) := by
  refine ⟨Nat.le_of_ble_eq_true rfl, fun d hd => ?_⟩
  refine s1_Terriers_aloneBehind_0 (by omega) ?_
  obtain ⟨hn, hn8⟩ := nsN_e (l := l) hI
  have key : ∀ (m k : Nat), k + m = nsN D l → aE s1_G d 100 5 [] [some (aP 93), some (aI (2 * l + 1)), some (aI (u : Int)), some (aI (behF (fun j => aloI D (16 * l + 8 + (j : Int))) u k)), some (aI (k : Int))] [] M (fun r M' => ∃ z, r = some (aI z) ∧ M' = M ∧ z = behF (fun j => aloI D (16 * l + 8 + (j : Int))) u (nsN D l)) := by
    intro m
    induction m with
    | zero =>
      intro k hk
      refine s1_Terriers_aloneBehind_5 (by omega) ?_
      rw [F1_fn hF, hn]
      exact ⟨by omega, fun _ => ⟨_, rfl, rfl, by rw [show k = nsN D l by omega]⟩, fun h => absurd h (by omega)⟩
    | succ m ih =>
      intro k hk
      have ih := ih (k + 1) (by omega)
      have hb := behF_bd (a := fun j : Nat => aloI D (16 * l + 8 + (j : Int))) (u := u) (fun j => by have := aloI_bd hI (16 * l + 8 + (j : Int)); exact ⟨by omega, by omega⟩) k
      refine s1_Terriers_aloneBehind_5 (by omega) ?_
      rw [F1_fn hF, hn, n_get (by omega) (by omega), bI_0, bI_n0, x_add (a := (k : Int)) (by omega), show (k : Int) + 1 = ((k + 1 : Nat) : Int) by omega]
      refine ⟨by omega, fun h => absurd h (by omega), fun _ => ⟨fun h => ?_, fun h => ?_⟩⟩
      · rw [x_add (b := 0) (by omega)]
        rw [behF_succ] at ih
        rw [if_pos h] at ih
        exact ih
      · refine aKi_of (s1_Terriers_aloneCost hI hF (by omega) (by omega)) (by omega) (fun z M1 q => ?_)
        obtain ⟨e1, rfl⟩ := q
        have ha := aloI_bd hI (8 * (2 * l + 1) + (k : Int))
        rw [e1, x_add (by omega), show 8 * (2 * l + 1) + (k : Int) = 16 * l + 8 + k by omega]
        rw [behF_succ] at ih
        rw [h, if_neg (by decide)] at ih
        exact ih
  exact key (nsN D l) 0 (by omega)
theorem s1_Terriers_leastFrom {D M : AM} {l : Int} {i u : Nat} (hI : Inv D) (hF : F1 D M) (hl : 0 ≤ l ∧ l < 12) (hi : i < osN D l) (hu : u < 2 ^ nsN D l) (ho : onesN u ≤ i) (hT : ∀ v : Nat, v < 2 ^ nsN D l → onesN v ≤ i + 1 → M 170 (((i + 1 : Nat) : Int) * 256 + (v : Int)) = cst D l (i + 1) v) : aCi s1_G 6 96 [aP 93, aI l, aI (i : Int), aI (u : Int)] M (fun z M' => M' = M ∧ z = cst D l i u) := by
  refine ⟨Nat.le_of_ble_eq_true rfl, fun d hd => ?_⟩
  refine s1_Terriers_leastFrom_0 (by omega) ?_
  obtain ⟨hn, hn8⟩ := nsN_e (l := l) hI
  have ho8 := (osN_e (l := l) hI).2
  have h256 := p_le8 hn8
  rw [x_mul (a := 2) (by omega), x_add (a := (i : Int)) (b := 1) (by omega), show (i : Int) + 1 = ((i + 1 : Nat) : Int) by omega]
  refine aKi_of (s1_Terriers_aloneCost hI hF (by omega) (by omega)) (by omega) (fun z M1 q => ?_)
  obtain ⟨e1, rfl⟩ := q
  have ha := aloI_bd hI (8 * (2 * l) + (i : Int))
  have hc := cst_bd (l := l) hI (i + 1) u
  rw [e1, hT u hu (by omega), x_add (by omega), show 8 * (2 * l) + (i : Int) = 16 * l + i by omega, cst_lt hi]
  rw [show 8 * (2 * l) + (i : Int) = 16 * l + i by omega] at ha
  refine ⟨by omega, by omega, ?_⟩
  have key : ∀ (m k : Nat), k + m = nsN D l → aE s1_G d 96 24 [] [some (aP 93), some (aI l), some (aI (i : Int)), some (aI (u : Int)), some (aI (leaF u (fun j => prcI D (16 * l + (i : Int)) (16 * l + 8 + (j : Int))) (cst D l (i + 1)) (aloI D (16 * l + (i : Int)) + cst D l (i + 1) u) k)), some (aI (k : Int))] [] M (fun r M' => ∃ z, r = some (aI z) ∧ M' = M ∧ z = leaF u (fun j => prcI D (16 * l + (i : Int)) (16 * l + 8 + (j : Int))) (cst D l (i + 1)) (aloI D (16 * l + (i : Int)) + cst D l (i + 1) u) (nsN D l)) := by
    intro m
    induction m with
    | zero =>
      intro k hk
      refine s1_Terriers_leastFrom_24 (by omega) ?_
      rw [x_mul (a := 2) (by omega), x_add (a := 2 * l) (by omega), F1_fn hF, hn]
      exact ⟨by omega, fun _ => ⟨_, rfl, rfl, by rw [show k = nsN D l by omega]⟩, fun h => absurd h (by omega)⟩
    | succ m ih =>
      intro k hk
      have ih := ih (k + 1) (by omega)
      refine s1_Terriers_leastFrom_24 (by omega) ?_
      rw [x_mul (a := 2) (by omega), x_add (a := 2 * l) (by omega), F1_fn hF, hn, n_get (by omega) (by omega), bI_0, bI_n0, x_add (a := (k : Int)) (by omega), show (k : Int) + 1 = ((k + 1 : Nat) : Int) by omega, x_add (a := (i : Int)) (b := 1) (by omega), show (i : Int) + 1 = ((i + 1 : Nat) : Int) by omega]
      refine ⟨by omega, fun h => absurd h (by omega), fun _ => ⟨fun h => ?_, fun h => ?_⟩⟩
      · rw [leaF_succ] at ih
        rw [if_pos h] at ih
        exact ih
      · refine aKi_of (s1_Terriers_pairCost hI hF hl (by omega) (by omega)) (by omega) (fun z M1 q => ?_)
        obtain ⟨e1, rfl⟩ := q
        have hp := prcI_bd hI (16 * l + (i : Int)) (16 * l + 8 + (k : Int))
        have hc2 := cst_bd (l := l) hI (i + 1) (u ||| 2 ^ k)
        have hlt := n_ins_lt hu (show k < nsN D l by omega)
        have h1 := onesN_ins (u := u) (j := k)
        rw [e1, n_ins (by omega) (by omega), hT _ hlt (by omega), x_add (by omega)]
        rw [leaF_succ] at ih
        rw [h, if_neg (by decide)] at ih
        exact ⟨by omega, by omega, ih⟩
  exact key (nsN D l) 0 (by omega)
theorem s1_Terriers_firstPartner {D M : AM} {l : Int} {i u : Nat} (hI : Inv D) (hF : F1 D M) (hl : 0 ≤ l ∧ l < 12) (hi : i < osN D l) (hu : u < 2 ^ nsN D l) (ho : onesN u ≤ i) (hT : ∀ v : Nat, v < 2 ^ nsN D l → onesN v ≤ i + 1 → M 170 (((i + 1 : Nat) : Int) * 256 + (v : Int)) = cst D l (i + 1) v) (hT0 : M 170 ((i : Int) * 256 + (u : Int)) = cst D l i u) : aCi s1_G 6 97 [aP 93, aI l, aI (i : Int), aI (u : Int)] M (fun z M' => M' = M ∧ z = fpN D l i u) := by
  refine ⟨Nat.le_of_ble_eq_true rfl, fun d hd => ?_⟩
  refine s1_Terriers_firstPartner_0 (by omega) ?_
  obtain ⟨hn, hn8⟩ := nsN_e (l := l) hI
  have ho8 := (osN_e (l := l) hI).2
  have h256 := p_le8 hn8
  have key : ∀ (m k : Nat), k + m = nsN D l → (∀ j, j < k → fpB D l i u j = false) → aE s1_G d 97 3 [] [some (aP 93), some (aI l), some (aI (i : Int)), some (aI (u : Int)), some (aI (k : Int))] [] M (fun r M' => ∃ z, r = some (aI z) ∧ M' = M ∧ z = fpN D l i u) := by
    intro m
    induction m with
    | zero =>
      intro k hk hno
      refine s1_Terriers_firstPartner_3 (by omega) ?_
      rw [x_mul (a := 2) (by omega), x_add (a := 2 * l) (by omega), F1_fn hF, hn]
      exact ⟨by omega, fun _ => ⟨_, rfl, rfl, (frsF_no _ (by rw [show nsN D l = k by omega]; exact hno)).symm⟩, fun h => absurd h (by omega)⟩
    | succ m ih =>
      intro k hk hno
      have ih := ih (k + 1) (by omega)
      refine s1_Terriers_firstPartner_3 (by omega) ?_
      rw [x_mul (a := 2) (by omega), x_add (a := 2 * l) (by omega), F1_fn hF, hn, n_get (by omega) (by omega), bI_0, bI_n0, x_add (a := (k : Int)) (by omega), show (k : Int) + 1 = ((k + 1 : Nat) : Int) by omega, x_add (a := (i : Int)) (b := 1) (by omega), show (i : Int) + 1 = ((i + 1 : Nat) : Int) by omega]
      have nxt : fpB D l i u k = false → ∀ j, j < k + 1 → fpB D l i u j = false := fun q j hj => by
        by_cases e : j = k
        · rw [e]; exact q
        · exact hno j (by omega)
      refine ⟨by omega, fun h => absurd h (by omega), fun _ => ⟨fun h => ih (nxt ?_), fun h => ?_⟩⟩
      · unfold fpB; rw [h]; rfl
      · refine aKi_of (s1_Terriers_pairCost hI hF hl (by omega) (by omega)) (by omega) (fun z M1 q => ?_)
        obtain ⟨e1, rfl⟩ := q
        have hp := prcI_bd hI (16 * l + (i : Int)) (16 * l + 8 + (k : Int))
        have hc2 := cst_bd (l := l) hI (i + 1) (u ||| 2 ^ k)
        have hlt := n_ins_lt hu (show k < nsN D l by omega)
        have h1 := onesN_ins (u := u) (j := k)
        rw [e1, n_ins (by omega) (by omega), hT _ hlt (by omega), hT0, x_add (by omega)]
        refine ⟨by omega, by omega, by omega, by omega, fun q => ih (nxt ?_), fun q => ⟨_, rfl, rfl, (frsF_at hno ?_ _ (by omega)).symm⟩⟩
        · unfold fpB; rw [h, decide_eq_false q]; rfl
        · unfold fpB; rw [h, decide_eq_true q]; rfl
  exact key (nsN D l) 0 (by omega) (fun j hj => absurd hj (by omega))
