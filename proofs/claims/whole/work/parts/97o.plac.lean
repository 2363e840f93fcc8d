/-! PLAN: the class's tables -/
abbrev wU7 : Nat → Int → Bool := wr [191, 192, 201, 202, 203] [(190, 2), (190, 7), (190, 8), (190, 9), (190, 10)]
theorem B1_w7 {D M M' : AM} (hB : B1 D M) (g : fr wU7 M M') : B1 D M' := by
  refine ⟨?_, G1_fw (B1_G hB) (fr_rf (W := wr [] [])) g rfl, P1_fw (B1_P hB) (fr_rf (W := wr [] [])) g rfl, C1_fw (B1_C hB) (fr_rf (W := wr [] [])) g rfl, R1_fw (B1_R hB) (fr_rf (W := wr [] [])) g rfl, S1_fw (B1_S hB) (fr_rf (W := wr [] [])) g rfl, F1_fw (B1_F hB) (fr_rf (W := wr [] [])) g rfl, E1_fw (B1_E hB) (fr_rf (W := wr [] [])) g rfl⟩
  rw [g 0 10 rfl]
  exact B1_now hB
def PlN (M : AM) (u : Nat) : Prop := M 190 2 = (sPl u : Int) ∧ ∀ k : Nat, k < sPl u → M 191 (k : Int) = snP u k
def PlR (D M : AM) (u : Nat) : Prop := ∀ p : Nat, 1 ≤ p → p < 2 ^ sPl u → M 201 (p : Int) = rdD D u p
def PlV (D : AM) (M : AM) (u : Nat) (mo : Int) : Prop :=
  (okS (sPl u) (rdD D u) mo) ∧
  (M 190 9 = (dysF (rdD D u) mo (2 ^ sPl u - 1)).1) ∧
  (M 190 10 = (dysF (rdD D u) mo (2 ^ sPl u - 1)).2) ∧
  (∀ d : Nat, d < 8 → M 203 (d : Int) = (fdF (rdD D u) mo (lfF (rdD D u) mo (2 ^ sPl u - 1) d) : Nat))
theorem PlV_ok {D : AM} {M : AM} {u : Nat} {mo : Int} (h : PlV D  M  u  mo ) : okS (sPl u) (rdD D u) mo := h.1
theorem PlV_d {D : AM} {M : AM} {u : Nat} {mo : Int} (h : PlV D  M  u  mo ) : M 190 9 = (dysF (rdD D u) mo (2 ^ sPl u - 1)).1 := h.2.1
theorem PlV_m {D : AM} {M : AM} {u : Nat} {mo : Int} (h : PlV D  M  u  mo ) : M 190 10 = (dysF (rdD D u) mo (2 ^ sPl u - 1)).2 := h.2.2.1
theorem PlV_p {D : AM} {M : AM} {u : Nat} {mo : Int} (h : PlV D  M  u  mo ) : ∀ d : Nat, d < 8 → M 203 (d : Int) = (fdF (rdD D u) mo (lfF (rdD D u) mo (2 ^ sPl u - 1) d) : Nat) := h.2.2.2
def PlanC (D M : AM) : Prop := M 190 7 = 0 ∨ ∃ u : Nat, M 190 7 = u ∧ u < 2 ^ (D 0 3).toNat ∧ 1 ≤ sPl u ∧ sPl u ≤ 8 ∧ PlN M u ∧ PlR D M u ∧ (M 190 8 = 0 ∨ (1 ≤ M 190 8 ∧ M 190 8 ≤ 999 ∧ PlV D M u (M 190 8)))
theorem s1_Register_milesFromSee {D M : AM} {a : Int} (hI : Inv D) (hB : B1 D M) (ha : 0 ≤ a ∧ a < 12) : aCi s1_G 4 58 [aP 1, aI a] M (fun z M' => M' = M ∧ z = absI (D 2 a) + absI (D 3 a)) := by
  refine ⟨Nat.le_of_ble_eq_true rfl, fun d hd => ?_⟩
  refine s1_Register_milesFromSee_0 (by omega) ?_
  have x1 := Inv_x hI a
  have y1 := Inv_y hI a
  rw [B1_x hB, B1_y hB, x_neg (by omega), x_neg (by omega)]
  rw [show (if D 2 a < 0 then -(D 2 a) else D 2 a) = absI (D 2 a) from rfl, show (if D 3 a < 0 then -(D 3 a) else D 3 a) = absI (D 3 a) from rfl]
  have u := absI_rg (x := D 2 a) (by omega)
  have v := absI_rg (x := D 3 a) (by omega)
  rw [x_add (by omega)]
  exact ⟨ha, ha, _, rfl, rfl, rfl⟩
theorem s1_wayTo {D M : AM} {u n q k : Nat} (hI : Inv D) (hB : B1 D M) (hn : n ≤ 12) (hu : u < 2 ^ n) (hs : sPl u ≤ 8) (hN : PlN M u) (hq : q < 2 ^ sPl u) (hk : k < sPl u) (hT : ∀ j : Nat, j < sPl u → q.testBit j = true → M 192 ((j : Int) * 256 + (q : Int)) = wayF (sPl u) (frmD D u) (btwD D u) q j) : aCi s1_G 6 103 [aP 190, aI (q : Int), aI (k : Int)] M (fun z M' => M' = M ∧ z = if q = 0 then frmD D u k else mnF (fun j => q.testBit j) (fun j => wayF (sPl u) (frmD D u) (btwD D u) q j + btwD D u j k) 1000000 (sPl u)) := by
  refine ⟨Nat.le_of_ble_eq_true rfl, fun d hd => ?_⟩
  refine s1_Visitation_wayTo_0 (by omega) ?_
  have h256 := p_le8 hs
  have hG := plG_D (u := u) hI
  have rk := snP_rg hn hu hk
  refine ⟨fun q0 => ?_, fun q0 => ⟨by omega, ?_⟩⟩
  · rw [if_neg (by omega)]
    have hmb : ∀ j, 0 ≤ mnF (fun j => q.testBit j) (fun j => wayF (sPl u) (frmD D u) (btwD D u) q j + btwD D u j k) 1000000 j ∧ mnF (fun j => q.testBit j) (fun j => wayF (sPl u) (frmD D u) (btwD D u) q j + btwD D u j k) 1000000 j ≤ 1000000 := fun j => ⟨mnF_ge (by omega) _ (fun i hi w => by
      have := wayF_bd (s := sPl u) hG w
      have := PlG_w hG i k
      omega), mnF_le _⟩
    have key : ∀ (m j : Nat), j + m = sPl u → aE s1_G d 103 24 [] [some (aP 190), some (aI (q : Int)), some (aI (k : Int)), some (aI (mnF (fun j => q.testBit j) (fun j => wayF (sPl u) (frmD D u) (btwD D u) q j + btwD D u j k) 1000000 j)), some (aI (j : Int))] [] M (fun r M' => ∃ z, r = some (aI z) ∧ M' = M ∧ z = mnF (fun j => q.testBit j) (fun j => wayF (sPl u) (frmD D u) (btwD D u) q j + btwD D u j k) 1000000 (sPl u)) := by
      intro m
      induction m with
      | zero =>
        intro j hj
        refine s1_Visitation_wayTo_24 (by omega) ?_
        rw [hN.1]
        exact ⟨fun _ => ⟨_, rfl, rfl, by rw [show j = sPl u by omega]⟩, fun h => absurd h (by omega)⟩
      | succ m ih =>
        intro j hj
        have ih := ih (j + 1) (by omega)
        rw [mnF_succ] at ih
        have rj := snP_rg hn hu (show j < sPl u by omega)
        have hw := PlG_w hG j k
        refine s1_Visitation_wayTo_24 (by omega) ?_
        rw [hN.1, n_get (by omega) (by omega), bI_1, bI_n1, x_add (a := (j : Int)) (by omega), show (j : Int) + 1 = ((j + 1 : Nat) : Int) by omega, hN.2 j (by omega), hN.2 k hk]
        refine ⟨fun h => absurd h (by omega), fun _ => ⟨fun w => ?_, fun w => ⟨by omega, by omega, by omega, by omega, ?_⟩⟩⟩
        · rw [if_neg (by rw [w]; decide)] at ih
          exact ih
        · rw [if_pos w] at ih
          refine aKi_of (s1_Register_milesBetween hI hB (by omega) (by omega)) (by omega) (fun z M2 y => ?_)
          obtain ⟨rfl, rfl⟩ := y
          have hb := wayF_bd (s := sPl u) hG w
          have hw : 0 ≤ mlsD D (snP u j) (snP u k) ∧ mlsD D (snP u j) (snP u k) ≤ 200 := hw
          rw [hT j (by omega) w, x_add (by omega)]
          exact ih
    exact key (sPl u) 0 (by omega)
  · have q0 : q = 0 := by omega
    rw [if_pos q0, hN.2 k hk]
    refine aKi_of (s1_Register_milesFromSee hI hB (by omega)) (by omega) (fun z M2 y => ?_)
    obtain ⟨rfl, rfl⟩ := y
    exact ⟨_, rfl, rfl, rfl⟩
theorem s1_measure {D M : AM} {u n : Nat} (hI : Inv D) (hB : B1 D M) (hn : n ≤ 12) (hu : u < 2 ^ n) (hs : sPl u ≤ 8) (hN : PlN M u) : aCv s1_G 8 102 [aP 190] M (fun M' => fr (wr [192, 201] []) M M' ∧ PlR D M' u) := by
  refine ⟨Nat.le_of_ble_eq_true rfl, fun d hd => ?_⟩
  refine s1_Visitation_measure_0 (by omega) ?_
  have h256 := p_le8 hs
  have hG := plG_D (u := u) hI
  have hN' : ∀ M1, fr (wr [192, 201] []) M M1 → PlN M1 u := fun M1 g => ⟨by rw [g 190 2 rfl]; exact hN.1, fun k hk => by rw [g 191 k rfl]; exact hN.2 k hk⟩
  have hB' : ∀ M1, fr (wr [192, 201] []) M M1 → B1 D M1 := fun M1 g => B1_w7 hB (fr_mo g rfl)
  have hmb : ∀ p j, 0 ≤ mnF (fun k => p.testBit k) (fun k => wayF (sPl u) (frmD D u) (btwD D u) p k + frmD D u k) 1000000 j ∧ mnF (fun k => p.testBit k) (fun k => wayF (sPl u) (frmD D u) (btwD D u) p k + frmD D u k) 1000000 j ≤ 1000000 := fun p j => ⟨mnF_ge (by omega) _ (fun i hi w => by
    have := wayF_bd (s := sPl u) hG w
    have := PlG_f hG i
    omega), mnF_le _⟩
  have key : ∀ (m p : Nat) (M1 : AM), p + m = 2 ^ sPl u → 1 ≤ p → fr (wr [192, 201] []) M M1 → (∀ q j : Nat, q < p → j < sPl u → q.testBit j = true → M1 192 ((j : Int) * 256 + (q : Int)) = wayF (sPl u) (frmD D u) (btwD D u) q j) → (∀ q : Nat, 1 ≤ q → q < p → M1 201 (q : Int) = rdD D u q) → aE s1_G d 102 2 [] [some (aP 190), some (aI (p : Int)), none] [] M1 (fun r M' => r = none ∧ fr (wr [192, 201] []) M M' ∧ PlR D M' u) := by
    intro m
    induction m with
    | zero =>
      intro p M1 hp p1 gf hw hr
      refine s1_Visitation_measure_2 (by omega) ?_
      rw [(hN' M1 gf).1, b_one (by omega)]
      exact ⟨fun _ => ⟨rfl, gf, fun q h0 h1 => hr q h0 (by omega)⟩, fun h => absurd h (by omega)⟩
    | succ m ih =>
      intro p M1 hp p1 gf hw hr
      have ih := fun M2 => ih (p + 1) M2 (by omega) (by omega)
      refine s1_Visitation_measure_2 (by omega) ?_
      rw [(hN' M1 gf).1, b_one (by omega)]
      refine ⟨fun h => absurd h (by omega), fun _ => ⟨by omega, ?_⟩⟩
      have key2 : ∀ (m k : Nat) (M1 : AM), k + m = sPl u → fr (wr [192, 201] []) M M1 → (∀ q j : Nat, q < p → j < sPl u → q.testBit j = true → M1 192 ((j : Int) * 256 + (q : Int)) = wayF (sPl u) (frmD D u) (btwD D u) q j) → (∀ q : Nat, 1 ≤ q → q < p → M1 201 (q : Int) = rdD D u q) → (∀ j : Nat, j < k → p.testBit j = true → M1 192 ((j : Int) * 256 + (p : Int)) = wayF (sPl u) (frmD D u) (btwD D u) p j) → M1 201 (p : Int) = mnF (fun k => p.testBit k) (fun k => wayF (sPl u) (frmD D u) (btwD D u) p k + frmD D u k) 1000000 k → aE s1_G d 102 22 [] [some (aP 190), some (aI (p : Int)), some (aI (k : Int))] [] M1 (fun r M' => r = none ∧ fr (wr [192, 201] []) M M' ∧ PlR D M' u) := by
        intro m
        induction m with
        | zero =>
          intro k M1 hk gf hw hr hwp hrp
          refine s1_Visitation_measure_22 (by omega) ?_
          rw [(hN' M1 gf).1, x_add (a := (p : Int)) (by omega), show (p : Int) + 1 = ((p + 1 : Nat) : Int) by omega]
          refine ⟨fun _ => ih M1 gf (fun q j hq hj w => ?_) (fun q h0 h1 => ?_), fun h => absurd h (by omega)⟩
          · by_cases e : q = p
            · subst e; exact hwp j (by omega) w
            · exact hw q j (by omega) hj w
          · by_cases e : q = p
            · subst e; rw [hrp, show k = sPl u by omega]; rfl
            · exact hr q h0 (by omega)
        | succ m ih2 =>
          intro k M1 hk gf hw hr hwp hrp
          have ih2 := fun M2 => ih2 (k + 1) M2 (by omega)
          have rk := snP_rg hn hu (show k < sPl u by omega)
          have hkp : 2 ^ k < 2 ^ sPl u := Nat.pow_lt_pow_right (by decide) (by omega)
          refine s1_Visitation_measure_22 (by omega) ?_
          rw [(hN' M1 gf).1, n_get (by omega) (by omega), bI_1, bI_n1, x_add (a := (k : Int)) (by omega), show (k : Int) + 1 = ((k + 1 : Nat) : Int) by omega, b_one (by omega), b_xor (by omega) (by omega)]
          refine ⟨fun h => absurd h (by omega), fun _ => ⟨fun w => ih2 M1 gf hw hr (fun j hj wj => ?_) ?_, fun w => ⟨by omega, ?_⟩⟩⟩
          · by_cases e : j = k
            · subst e; rw [w] at wj; cases wj
            · exact hwp j (by omega) wj
          · rw [mnF_succ, if_neg (by rw [w]; decide)]; exact hrp
          · have hlt := sb_lt (sb_bit w) (Nat.pos_iff_ne_zero.mp (Nat.two_pow_pos k))
            refine aKi_of (s1_wayTo (q := p ^^^ 2 ^ k) (k := k) hI (hB' M1 gf) hn hu hs (hN' M1 gf) (by omega) (by omega) (fun j hj wj => hw _ j hlt hj wj)) (by omega) (fun z M2 y => ?_)
            obtain ⟨rfl, ez⟩ := y
            rw [← wayF_eq w] at ez
            have g2 : fr (wr [192, 201] []) M (am_up M2 192 ((k : Int) * 256 + (p : Int)) z) := fr_up gf rfl
            have hwb := wayF_bd (s := sPl u) hG w
            have hfb := PlG_f hG k
            have hm := hmb p k
            refine ⟨by omega, by omega, by omega, by omega, by omega, ?_⟩
            rw [x_uc (k := 192) (k' := 191) (by decide), (hN' M2 gf).2 k (by omega)]
            refine aKi_of (s1_Register_milesFromSee hI (hB' _ g2) (by omega)) (by omega) (fun z4 M3 y => ?_)
            obtain ⟨rfl, e4⟩ := y
            have e4 : z4 = frmD D u k := e4
            rw [x_us, x_uc (k := 192) (k' := 201) (by decide), hrp, e4, ez, x_add (a := wayF (sPl u) (frmD D u) (btwD D u) p k) (by omega)]
            rw [ez] at g2
            refine ⟨by omega, ih2 _ (fr_up g2 rfl) (fun q j hq hj wj => ?_) (fun q h0 h1 => ?_) (fun j hj wj => ?_) ?_⟩
            · rw [x_uc (by decide), x_uf (by omega)]; exact hw q j hq hj wj
            · rw [x_uf (by omega), x_uc (by decide)]; exact hr q h0 h1
            · rw [x_uc (by decide)]
              by_cases e : j = k
              · subst e; rw [x_us]
              · rw [x_uf (by omega)]; exact hwp j (by omega) wj
            · rw [x_us, mnF_succ, if_pos w]
      exact key2 (sPl u) 0 _ (by omega) (fr_up gf rfl) (fun q j hq hj w => by rw [x_uc (by decide)]; exact hw q j hq hj w) (fun q h0 h1 => by rw [x_uf (by omega)]; exact hr q h0 h1) (fun j hj => absurd hj (by omega)) (by rw [x_us]; rfl)
  have hp0 := Nat.two_pow_pos (sPl u)
  exact key (2 ^ sPl u - 1) 1 M (by omega) (by omega) fr_rf (fun q j hq hj w => by
    rw [show q = 0 by omega, Nat.zero_testBit] at w
    cases w) (fun q h0 h1 => absurd h1 (by omega))
