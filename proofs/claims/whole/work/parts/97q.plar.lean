/-! PLAN: the reference -/
abbrev wU8 : Nat → Int → Bool := wr [63, 64, 65, 66, 67] [(0, 92)]
def QlN (M : AM) (u : Nat) : Prop := M 0 92 = (sPl u : Int) ∧ ∀ k : Nat, k < sPl u → M 63 (k : Int) = snP u k
def QlR (D M : AM) (u : Nat) : Prop := ∀ p : Nat, 1 ≤ p → p < 2 ^ sPl u → M 65 (p : Int) = rdD D u p
def QlX (D M : AM) (u : Nat) (mo : Int) (n : Nat) : Prop := ∀ p : Nat, p < n → M 66 (p : Int) = (dysF (rdD D u) mo p).1 ∧ M 67 (p : Int) = (dysF (rdD D u) mo p).2
theorem mnF_no {P : Nat → Bool} {c : Nat → Int} {b : Int} (h : ∀ j, P j = false) : ∀ n, mnF P c b n = b
  | 0 => rfl
  | n + 1 => by rw [mnF_succ, h n, if_neg (by decide)]; exact mnF_no h n
theorem s2_ones {M : AM} {u : Nat} (hu : u < 2147483648) : aCi s2_G 4 109 [aI (u : Int)] M (fun z M' => M' = M ∧ z = (onesN u : Int)) := by
  refine ⟨Nat.le_of_ble_eq_true rfl, fun d hd => ?_⟩
  refine s2_ones_0 (by omega) ?_
  have key : ∀ (m k : Nat), k + m = 31 → aE s2_G d 109 4 [] [some (aI (u : Int)), some (aI (cntB (fun i => u.testBit i) k : Int)), some (aI (k : Int))] [] M (fun r M' => ∃ z, r = some (aI z) ∧ M' = M ∧ z = (onesN u : Int)) := by
    intro m
    induction m with
    | zero =>
      intro k hk
      refine s2_ones_4 (by omega) ?_
      exact ⟨fun _ => ⟨_, rfl, rfl, by rw [show k = 31 by omega]; rfl⟩, fun h => absurd h (by omega)⟩
    | succ m ih =>
      intro k hk
      have ih := ih (k + 1) (by omega)
      rw [cntB_succ] at ih
      have hc := cntB_le (P := fun i => u.testBit i) k
      refine s2_ones_4 (by omega) ?_
      rw [n_get (by omega) (by omega), x_add (a := (k : Int)) (by omega), show (k : Int) + 1 = ((k + 1 : Nat) : Int) by omega]
      refine ⟨fun h => absurd h (by omega), fun _ => ?_⟩
      cases e : u.testBit k with
      | true =>
        rw [e, if_pos rfl] at ih
        rw [show bI true = 1 from rfl, x_add (by omega)]
        exact ih
      | false =>
        rw [e, if_neg (by decide)] at ih
        rw [show bI false = 0 from rfl, x_add (by omega), Int.add_zero]
        exact ih
  exact key 31 0 (by omega)
theorem s2_fromSee {D M : AM} {u n k : Nat} (hI : Inv D) (hL : eqL D M) (hn : n ≤ 12) (hu : u < 2 ^ n) (hs : sPl u ≤ 8) (hN : QlN M u) (hk : k < sPl u) : aCi s2_G 4 104 [aP 0, aI (k : Int)] M (fun z M' => M' = M ∧ z = frmD D u k) := by
  refine ⟨Nat.le_of_ble_eq_true rfl, fun d hd => ?_⟩
  refine s2_fromSee_0 (by omega) ?_
  have rk := snP_rg hn hu hk
  have x1 := Inv_x hI (snP u k)
  have y1 := Inv_y hI (snP u k)
  rw [hN.2 k hk, L_2 hL, L_3 hL, x_sub (a := 0) (by omega), x_sub (a := 0) (by omega)]
  have ea : ∀ x : Int, (if x < 0 then 0 - x else x) = absI x := fun x => by unfold absI; split <;> omega
  rw [ea, ea]
  have v1 := absI_rg (x := D 2 (snP u k)) (by omega)
  have v2 := absI_rg (x := D 3 (snP u k)) (by omega)
  rw [x_add (by omega)]
  exact ⟨by omega, by omega, by omega, by omega, _, rfl, rfl, rfl⟩
theorem s2_findRounds {D M : AM} {u n : Nat} (hI : Inv D) (hL : eqL D M) (hn : n ≤ 12) (hu : u < 2 ^ n) (hs : sPl u ≤ 8) (hN : QlN M u) : aCv s2_G 6 105 [aP 0] M (fun M' => fr (wr [64, 65] []) M M' ∧ QlR D M' u) := by
  refine ⟨Nat.le_of_ble_eq_true rfl, fun d hd => ?_⟩
  refine s2_findRounds_0 (by omega) ?_
  have h256 := p_le8 hs
  have hG := plG_D (u := u) hI
  have hN' : ∀ M1, fr (wr [64, 65] []) M M1 → QlN M1 u := fun M1 g => ⟨by rw [g 0 92 rfl]; exact hN.1, fun k hk => by rw [g 63 k rfl]; exact hN.2 k hk⟩
  have hL' : ∀ M1, fr (wr [64, 65] []) M M1 → eqL D M1 := fun M1 g => eqL_fw hL g rfl
  have hmb : ∀ p j, 0 ≤ mnF (fun k => p.testBit k) (fun k => wayF (sPl u) (frmD D u) (btwD D u) p k + frmD D u k) 1000000 j ∧ mnF (fun k => p.testBit k) (fun k => wayF (sPl u) (frmD D u) (btwD D u) p k + frmD D u k) 1000000 j ≤ 1000000 := fun p j => ⟨mnF_ge (by omega) _ (fun i hi w => by
    have := wayF_bd (s := sPl u) hG w
    have := PlG_f hG i
    omega), mnF_le _⟩
  have key : ∀ (m p : Nat) (M1 : AM), p + m = 2 ^ sPl u → 1 ≤ p → fr (wr [64, 65] []) M M1 → (∀ q j : Nat, q < p → j < sPl u → q.testBit j = true → M1 64 (8 * (q : Int) + (j : Int)) = wayF (sPl u) (frmD D u) (btwD D u) q j) → (∀ q : Nat, 1 ≤ q → q < p → M1 65 (q : Int) = rdD D u q) → aE s2_G d 105 2 [] [some (aP 0), some (aI (p : Int)), none, none, none, none, none] [] M1 (fun r M' => r = none ∧ fr (wr [64, 65] []) M M' ∧ QlR D M' u) := by
    intro m
    induction m with
    | zero =>
      intro p M1 hp p1 gf hw hr
      refine s2_findRounds_2 (by omega) ?_
      rw [(hN' M1 gf).1, b_one (by omega)]
      exact ⟨fun _ => ⟨rfl, gf, fun q h0 h1 => hr q h0 (by omega)⟩, fun h => absurd h (by omega)⟩
    | succ m ih =>
      intro p M1 hp p1 gf hw hr
      have ih := fun M2 => ih (p + 1) M2 (by omega) (by omega)
      refine s2_findRounds_2 (by omega) ?_
      rw [(hN' M1 gf).1, b_one (by omega)]
      refine ⟨fun h => absurd h (by omega), fun _ => ⟨by omega, ?_⟩⟩
      have key2 : ∀ (m k : Nat) (M1 : AM), k + m = sPl u → fr (wr [64, 65] []) M M1 → (∀ q j : Nat, q < p → j < sPl u → q.testBit j = true → M1 64 (8 * (q : Int) + (j : Int)) = wayF (sPl u) (frmD D u) (btwD D u) q j) → (∀ q : Nat, 1 ≤ q → q < p → M1 65 (q : Int) = rdD D u q) → (∀ j : Nat, j < k → p.testBit j = true → M1 64 (8 * (p : Int) + (j : Int)) = wayF (sPl u) (frmD D u) (btwD D u) p j) → M1 65 (p : Int) = mnF (fun k => p.testBit k) (fun k => wayF (sPl u) (frmD D u) (btwD D u) p k + frmD D u k) 1000000 k → aE s2_G d 105 23 [] [some (aP 0), some (aI (p : Int)), some (aI (k : Int)), none, none, none, none] [] M1 (fun r M' => r = none ∧ fr (wr [64, 65] []) M M' ∧ QlR D M' u) := by
        intro m
        induction m with
        | zero =>
          intro k M1 hk gf hw hr hwp hrp
          refine s2_findRounds_23 (by omega) ?_
          rw [(hN' M1 gf).1, x_add (a := (p : Int)) (by omega), show (p : Int) + 1 = ((p + 1 : Nat) : Int) by omega]
          refine ⟨fun _ => ih M1 gf (fun q j hq hj w => ?_) (fun q h0 h1 => ?_), fun h => absurd h (by omega)⟩
          · by_cases e : q = p
            · subst e; exact hwp j (by omega) w
            · exact hw q j (by omega) hj w
          · by_cases e : q = p
            · subst e; rw [hrp, show k = sPl u by omega]; rfl
            · exact hr q h0 (by omega)
        | succ m ih2 =>
          intro k M1 hk gf hw hr hwp hrp
          have ih2 := fun M2 => ih2 (k + 1) M2 (by omega)
          have rk := snP_rg hn hu (show k < sPl u by omega)
          have hkp : 2 ^ k < 2 ^ sPl u := Nat.pow_lt_pow_right (by decide) (by omega)
          have nokay : p.testBit k = false → ∀ (x3 x4 : Int), aE s2_G d 105 59 [] [some (aP 0), some (aI (p : Int)), some (aI (k : Int)), some (aI x3), some (aI x4), some (aI 0), none] [] M1 (fun r M' => r = none ∧ fr (wr [64, 65] []) M M' ∧ QlR D M' u) := fun w x3 x4 => by
            have nx := ih2 M1 gf hw hr (fun j hj wj => by
              by_cases e : j = k
              · subst e; rw [w] at wj; cases wj
              · exact hwp j (by omega) wj) (by rw [mnF_succ, if_neg (by rw [w]; decide)]; exact hrp)
            refine s2_findRounds_59 (by omega) ?_
            rw [n_get (by omega) (by omega), bI_1, bI_n1, w, x_add (a := (k : Int)) (by omega), show (k : Int) + 1 = ((k + 1 : Nat) : Int) by omega]
            exact ⟨fun _ => ⟨fun _ => nx, fun y => (by cases y)⟩, fun _ => ⟨fun _ => ⟨fun _ => nx, fun y => (by cases y)⟩, fun y => (by cases y)⟩⟩
          have okay : p.testBit k = true → ∀ (m j : Nat), j + m = sPl u → aE s2_G d 105 59 [] [some (aP 0), some (aI (p : Int)), some (aI (k : Int)), some (aI ((p ^^^ 2 ^ k : Nat) : Int)), some (aI (mnF (fun j => (p ^^^ 2 ^ k).testBit j) (fun j => wayF (sPl u) (frmD D u) (btwD D u) (p ^^^ 2 ^ k) j + btwD D u j k) (if p ^^^ 2 ^ k = 0 then frmD D u k else 1000000) j)), some (aI (j : Int)), none] [] M1 (fun r M' => r = none ∧ fr (wr [64, 65] []) M M' ∧ QlR D M' u) := fun w => by
            have hlt := sb_lt (sb_bit w) (Nat.pos_iff_ne_zero.mp (Nat.two_pow_pos k))
            have hfk := PlG_f hG k
            have hb0 : 0 ≤ (if p ^^^ 2 ^ k = 0 then frmD D u k else 1000000) ∧ (if p ^^^ 2 ^ k = 0 then frmD D u k else 1000000) ≤ 1000000 := by split <;> omega
            have hmb2 : ∀ j, 0 ≤ mnF (fun j => (p ^^^ 2 ^ k).testBit j) (fun j => wayF (sPl u) (frmD D u) (btwD D u) (p ^^^ 2 ^ k) j + btwD D u j k) (if p ^^^ 2 ^ k = 0 then frmD D u k else 1000000) j ∧ mnF (fun j => (p ^^^ 2 ^ k).testBit j) (fun j => wayF (sPl u) (frmD D u) (btwD D u) (p ^^^ 2 ^ k) j + btwD D u j k) (if p ^^^ 2 ^ k = 0 then frmD D u k else 1000000) j ≤ 1000000 := fun j => ⟨mnF_ge hb0.1 _ (fun i hi y => by
              have := wayF_bd (s := sPl u) hG y
              have := PlG_w hG i k
              omega), by
              have := mnF_le (P := fun j => (p ^^^ 2 ^ k).testBit j) (c := fun j => wayF (sPl u) (frmD D u) (btwD D u) (p ^^^ 2 ^ k) j + btwD D u j k) (b := if p ^^^ 2 ^ k = 0 then frmD D u k else 1000000) j
              omega⟩
            intro m
            induction m with
            | zero =>
              intro j hj
              have ej : mnF (fun j => (p ^^^ 2 ^ k).testBit j) (fun j => wayF (sPl u) (frmD D u) (btwD D u) (p ^^^ 2 ^ k) j + btwD D u j k) (if p ^^^ 2 ^ k = 0 then frmD D u k else 1000000) j = wayF (sPl u) (frmD D u) (btwD D u) p k := by
                rw [wayF_eq w, show j = sPl u by omega]
                by_cases y : p ^^^ 2 ^ k = 0
                · rw [if_pos y, if_pos y, mnF_no (fun j => by rw [y]; exact Nat.zero_testBit j)]
                · rw [if_neg y, if_neg y]
              rw [ej]
              have hwb := wayF_bd (s := sPl u) hG w
              have hm := hmb p k
              have g2 : fr (wr [64, 65] []) M (am_up M1 64 (8 * (p : Int) + (k : Int)) (wayF (sPl u) (frmD D u) (btwD D u) p k)) := fr_up gf rfl
              refine s2_findRounds_59 (by omega) ?_
              rw [(hN' M1 gf).1, n_get (u := p) (j := k) (by omega) (by omega), bI_1, bI_n1, w, x_mul (a := 8) (b := (p : Int)) (by omega), x_add (a := 8 * (p : Int)) (by omega), x_add (a := (k : Int)) (by omega), show (k : Int) + 1 = ((k + 1 : Nat) : Int) by omega]
              refine ⟨fun _ => ⟨fun y => (by cases y), fun _ => ⟨by omega, ?_⟩⟩, fun h => absurd h (by omega)⟩
              refine aKi_of (s2_fromSee (k := k) hI (hL' _ g2) hn hu hs (hN' _ g2) (by omega)) (by omega) (fun z M2 y => ?_)
              obtain ⟨rfl, rfl⟩ := y
              have e65 : am_up M1 64 (8 * (p : Int) + (k : Int)) (wayF (sPl u) (frmD D u) (btwD D u) p k) 65 (p : Int) = mnF (fun k => p.testBit k) (fun k => wayF (sPl u) (frmD D u) (btwD D u) p k + frmD D u k) 1000000 k := by rw [x_uc (by decide)]; exact hrp
              have fin : ∀ x, x = mnF (fun k => p.testBit k) (fun k => wayF (sPl u) (frmD D u) (btwD D u) p k + frmD D u k) 1000000 (k + 1) → aE s2_G d 105 23 [] [some (aP 0), some (aI (p : Int)), some (aI ((k + 1 : Nat) : Int)), none, none, none, none] [] (am_up (am_up M1 64 (8 * (p : Int) + (k : Int)) (wayF (sPl u) (frmD D u) (btwD D u) p k)) 65 (p : Int) x) (fun r M' => r = none ∧ fr (wr [64, 65] []) M M' ∧ QlR D M' u) := fun x ex => by
                refine ih2 _ (fr_up g2 rfl) (fun q i hq hi wi => ?_) (fun q h0 h1 => ?_) (fun i hi wi => ?_) ?_
                · rw [x_uc (by decide), x_uf (by omega)]; exact hw q i hq hi wi
                · rw [x_uf (by omega), x_uc (by decide)]; exact hr q h0 h1
                · rw [x_uc (by decide)]
                  by_cases e : i = k
                  · subst e; rw [x_us]
                  · rw [x_uf (by omega)]; exact hwp i (by omega) wi
                · rw [x_us]; exact ex
              rw [e65, x_add (a := wayF (sPl u) (frmD D u) (btwD D u) p k) (by omega)]
              refine ⟨by omega, fun y => ⟨by omega, by omega, fin _ ?_⟩, fun y => ?_⟩
              · rw [mnF_succ, if_pos w, if_pos y]
              · refine aKi_of (s2_fromSee (k := k) hI (hL' _ g2) hn hu hs (hN' _ g2) (by omega)) (by omega) (fun z M2 v => ?_)
                obtain ⟨rfl, rfl⟩ := v
                rw [x_add (a := wayF (sPl u) (frmD D u) (btwD D u) p k) (by omega)]
                refine ⟨by omega, fin _ ?_⟩
                rw [mnF_succ, if_pos w, if_neg (by omega)]
            | succ m ih3 =>
              intro j hj
              have ih3 := ih3 (j + 1) (by omega)
              rw [mnF_succ] at ih3
              have rj := snP_rg hn hu (show j < sPl u by omega)
              have hwj := PlG_w hG j k
              have hmj := hmb2 j
              refine s2_findRounds_59 (by omega) ?_
              rw [(hN' M1 gf).1, n_get (u := p) (j := k) (by omega) (by omega), bI_1, bI_n1, w, n_get (by omega) (by omega), bI_0, bI_n0, x_add (a := (j : Int)) (by omega), show (j : Int) + 1 = ((j + 1 : Nat) : Int) by omega, x_mul (a := 8) (b := ((p ^^^ 2 ^ k : Nat) : Int)) (by omega), x_add (a := 8 * ((p ^^^ 2 ^ k : Nat) : Int)) (by omega), (hN' M1 gf).2 j (by omega), (hN' M1 gf).2 k (by omega)]
              refine ⟨fun h => absurd h (by omega), fun _ => ⟨fun y => (by cases y), fun _ => ⟨fun y => ⟨by omega, by omega, by omega, ?_⟩, fun y => ⟨fun _ => ?_, fun v => absurd v (by omega)⟩⟩⟩⟩
              · rw [if_pos y] at ih3
                refine aKi_of (s2_miles hI (hL' M1 gf) (by omega) (by omega)) (by omega) (fun z M2 v => ?_)
                obtain ⟨rfl, rfl⟩ := v
                have hb := wayF_bd (s := sPl u) hG y
                have hwj2 : 0 ≤ mlsD D (snP u j) (snP u k) ∧ mlsD D (snP u j) (snP u k) ≤ 200 := hwj
                rw [hw (p ^^^ 2 ^ k) j hlt (by omega) y, x_add (by omega), show mlsD D (snP u j) (snP u k) = btwD D u j k from rfl]
                refine ⟨fun v => ?_, fun v => ?_⟩
                · rw [if_pos v] at ih3; exact ih3
                · rw [if_neg (Int.not_le.mpr v)] at ih3; exact ih3
              · rw [y, if_neg (by decide)] at ih3; exact ih3
          refine s2_findRounds_23 (by omega) ?_
          rw [(hN' M1 gf).1, b_one (by omega), b_less (by omega) (by omega)]
          refine ⟨fun h => absurd h (by omega), fun _ => ?_⟩
          by_cases w : p.testBit k = true
          · rw [← sb_xor (sb_bit w)]
            have := okay w (sPl u) 0 (by omega)
            refine ⟨fun y => ?_, fun y => ?_⟩
            · rw [if_neg (show ¬ p ^^^ 2 ^ k = 0 by omega)] at this
              exact this
            · refine aKi_of (s2_fromSee (k := k) hI (hL' M1 gf) hn hu hs (hN' M1 gf) (by omega)) (by omega) (fun z M2 v => ?_)
              obtain ⟨rfl, rfl⟩ := v
              rw [if_pos (show p ^^^ 2 ^ k = 0 by omega)] at this
              exact this
          · have w : p.testBit k = false := by
              cases e : p.testBit k with
              | false => rfl
              | true => exact absurd e w
            refine ⟨fun _ => nokay w _ _, fun y => ?_⟩
            refine aKi_of (s2_fromSee (k := k) hI (hL' M1 gf) hn hu hs (hN' M1 gf) (by omega)) (by omega) (fun z M2 v => ?_)
            obtain ⟨rfl, rfl⟩ := v
            exact nokay w _ _
      exact key2 (sPl u) 0 _ (by omega) (fr_up gf rfl) (fun q j hq hj w => by rw [x_uc (by decide)]; exact hw q j hq hj w) (fun q h0 h1 => by rw [x_uf (by omega)]; exact hr q h0 h1) (fun j hj => absurd hj (by omega)) (by rw [x_us]; rfl)
  have hp0 := Nat.two_pow_pos (sPl u)
  exact key (2 ^ sPl u - 1) 1 M (by omega) (by omega) fr_rf (fun q j hq hj w => by
    rw [show q = 0 by omega, Nat.zero_testBit] at w
    cases w) (fun q h0 h1 => absurd h1 (by omega))
theorem dysF_gen {s : Nat} {rd : Nat → Int} {mo : Int} (hs : s ≤ 8) (hm : mo ≤ 999) (hrd : ∀ t, 0 ≤ rd t) : ∀ (u p : Nat), p ≤ u → 0 ≤ (dysF rd mo p).1 ∧ (dysF rd mo p).1 ≤ 1000000 ∧ 0 ≤ (dysF rd mo p).2 ∧ (dysF rd mo p).2 ≤ 1000000 + 1000 * (p : Int) := by
  intro u
  induction u with
  | zero =>
    intro p hu
    rw [show p = 0 by omega, dysF_0]
    exact ⟨by decide, by decide, by decide, by decide⟩
  | succ u ih =>
    intro p hu
    by_cases p0 : p = 0
    · subst p0
      rw [dysF_0]
      exact ⟨by decide, by decide, by decide, by decide⟩
    rw [dysF_eq p0]
    refine itS_inv (fun (x : Int × Int) => 0 ≤ x.1 ∧ x.1 ≤ 1000000 ∧ 0 ≤ x.2 ∧ x.2 ≤ 1000000 + 1000 * (p : Int)) (fun t x h0 ht hx => ?_) _ _ _ (Nat.and_self p) ⟨by decide, by decide, by decide, by dsimp only; omega⟩
    have hlt := sb_lt ht h0
    have r := ih (p ^^^ t) (by omega)
    have h1 := hrd t
    unfold gD
    (repeat' split)
    · exact ⟨by dsimp only; omega, by dsimp only; omega, by dsimp only; omega, by dsimp only; omega⟩
    · exact hx
    · exact hx
