/-! PLAN: the class's call -/
def PlW (D M : AM) (u : Nat) (mo : Int) (n : Nat) : Prop := ∀ p : Nat, p < n → M 202 (p : Int) = 10000 * (dysF (rdD D u) mo p).1 + (dysF (rdD D u) mo p).2
def wtR (w : Int) (x : Int × Int) : Prop := (x = (1000000, 1000000) ∧ w = 1000000) ∨ ((1 ≤ x.1 ∧ x.1 ≤ 9 ∧ 0 ≤ x.2 ∧ x.2 ≤ 999 * x.1) ∧ w = 10000 * x.1 + x.2)
theorem dysD_ok {D : AM} {u : Nat} {mo : Int} (hI : Inv D) (hs : sPl u ≤ 8) (hm : mo ≤ 999) (ok : okS (sPl u) (rdD D u) mo) {p : Nat} (hp : p < 2 ^ sPl u) : 0 ≤ (dysF (rdD D u) mo p).1 ∧ (dysF (rdD D u) mo p).1 ≤ 8 ∧ 0 ≤ (dysF (rdD D u) mo p).2 ∧ (dysF (rdD D u) mo p).2 ≤ 999 * (dysF (rdD D u) mo p).1 ∧ (p ≠ 0 → 1 ≤ (dysF (rdD D u) mo p).1) := by
  have r := dysF_ok hs hm (fun t => (rdD_bd (u := u) (p := t) hI).1) ok p p (Nat.le_refl p) hp
  have := cntB_le (P := fun i => p.testBit i) (sPl u)
  exact ⟨r.1, by omega, r.2.2.1, r.2.2.2.1, r.2.2.2.2⟩
theorem fdB_f1 {rd : Nat → Int} {mo : Int} {p t : Nat} (h : ¬ (t &&& p = t)) : fdB rd mo p t = false := by unfold fdB; rw [decide_eq_false h]; simp
theorem fdB_f2 {rd : Nat → Int} {mo : Int} {p t : Nat} (h : ¬ (rd t ≤ mo)) : fdB rd mo p t = false := by unfold fdB; rw [decide_eq_false h]; simp
theorem fdB_f3 {rd : Nat → Int} {mo : Int} {p t : Nat} (h : ¬ ((dysF rd mo (p ^^^ t)).1 + 1 = (dysF rd mo p).1 ∧ (dysF rd mo (p ^^^ t)).2 + rd t = (dysF rd mo p).2)) : fdB rd mo p t = false := by
  unfold fdB
  by_cases a : (dysF rd mo (p ^^^ t)).1 + 1 = (dysF rd mo p).1
  · rw [decide_eq_false (fun b => h ⟨a, b⟩)]; simp
  · rw [decide_eq_false a]; simp
theorem fdB_t {rd : Nat → Int} {mo : Int} {p t : Nat} (h0 : 1 ≤ t) (h1 : t &&& p = t) (h2 : rd t ≤ mo) (h3 : (dysF rd mo (p ^^^ t)).1 + 1 = (dysF rd mo p).1 ∧ (dysF rd mo (p ^^^ t)).2 + rd t = (dysF rd mo p).2) : fdB rd mo p t = true := by
  unfold fdB
  rw [decide_eq_true h0, decide_eq_true h1, decide_eq_true h2, decide_eq_true h3.1, decide_eq_true h3.2]
  rfl
theorem s1_leastFirst {D M : AM} {u p : Nat} {mo : Int} (hI : Inv D) (hs : sPl u ≤ 8) (hm : mo ≤ 999) (ok : okS (sPl u) (rdD D u) mo) (hR : PlR D M u) (hW : PlW D M u mo (2 ^ sPl u)) (hp : p < 2 ^ sPl u) : aCi s1_G 4 105 [aP 190, aI (p : Int), aI mo] M (fun z M' => M' = M ∧ z = (fdF (rdD D u) mo p : Nat)) := by
  refine ⟨Nat.le_of_ble_eq_true rfl, fun d hd => ?_⟩
  refine s1_Visitation_leastFirst_0 (by omega) ?_
  have h256 := p_le8 hs
  have hdp := dysD_ok hI hs hm ok hp
  have key : ∀ (m t : Nat), t + m = p + 1 → 1 ≤ t → (∀ j, j < t → fdB (rdD D u) mo p j = false) → aE s1_G d 105 2 [] [some (aP 190), some (aI (p : Int)), some (aI mo), some (aI (t : Int))] [] M (fun r M' => ∃ z, r = some (aI z) ∧ M' = M ∧ z = (fdF (rdD D u) mo p : Nat)) := by
    intro m
    induction m with
    | zero =>
      intro t ht t1 hno
      refine s1_Visitation_leastFirst_2 (by omega) ?_
      refine ⟨fun _ => ⟨_, rfl, rfl, ?_⟩, fun h => absurd h (by omega)⟩
      unfold fdF
      rw [frsF_no _ (fun j hj => hno j (by omega))]
      rfl
    | succ m ih =>
      intro t ht t1 hno
      have nxt : fdB (rdD D u) mo p t = false → aE s1_G d 105 2 [] [some (aP 190), some (aI (p : Int)), some (aI mo), some (aI ((t + 1 : Nat) : Int))] [] M (fun r M' => ∃ z, r = some (aI z) ∧ M' = M ∧ z = (fdF (rdD D u) mo p : Nat)) := fun q => ih (t + 1) (by omega) (by omega) (fun j hj => by
        by_cases e : j = t
        · subst e; exact q
        · exact hno j (by omega))
      have hrd := rdD_bd (u := u) (p := t) hI
      refine s1_Visitation_leastFirst_2 (by omega) ?_
      rw [b_and (by omega) (by omega), b_xor (by omega) (by omega), x_add (a := (t : Int)) (by omega), show (t : Int) + 1 = ((t + 1 : Nat) : Int) by omega, hR t t1 (by omega)]
      refine ⟨fun h => absurd h (by omega), fun _ => ⟨fun w => nxt (fdB_f1 (by omega)), fun w => ⟨by omega, fun y => nxt (fdB_f2 (by omega)), fun y => ?_⟩⟩⟩
      have w : t &&& p = t := by omega
      have hlt := sb_lt w (by omega)
      have hdx := dysD_ok hI hs hm ok (show p ^^^ t < 2 ^ sPl u by omega)
      rw [hW _ (show p ^^^ t < 2 ^ sPl u by omega), hW p hp, x_add (a := 10000) (by omega), x_add (by omega)]
      refine ⟨by omega, by omega, by omega, fun v => nxt (fdB_f3 (by omega)), fun v => ⟨_, rfl, rfl, ?_⟩⟩
      rw [fdF_is hno (by omega) (fdB_t t1 w y (by omega))]
  exact key p 1 (by omega) (by omega) (fun j hj => by
    rw [show j = 0 by omega]
    rfl)
theorem s1_choose {D M : AM} {u : Nat} {mo : Int} (hI : Inv D) (hs : sPl u ≤ 8) (hm : mo ≤ 999) (ok : okS (sPl u) (rdD D u) mo) (hN : PlN M u) (hR : PlR D M u) : aCv s1_G 6 104 [aP 190, aI mo] M (fun M' => fr (wr [202, 203] [(190, 9), (190, 10)]) M M' ∧ PlV D M' u mo) := by
  refine ⟨Nat.le_of_ble_eq_true rfl, fun d hd => ?_⟩
  refine s1_Visitation_choose_0 (by omega) ?_
  have h256 := p_le8 hs
  have hp0 := Nat.two_pow_pos (sPl u)
  have hR' : ∀ M1, fr (wr [202, 203] [(190, 9), (190, 10)]) M M1 → PlR D M1 u := fun M1 g p h0 h1 => by rw [g 201 p rfl]; exact hR p h0 h1
  rw [hN.1, b_one (by omega), x_sub (by omega), show ((2 ^ sPl u : Nat) : Int) - 1 = ((2 ^ sPl u - 1 : Nat) : Int) by omega]
  have hall : 2 ^ sPl u - 1 < 2 ^ sPl u := by omega
  have k136 : ∀ (m k : Nat) (M1 : AM), k + m = 8 → fr (wr [202, 203] [(190, 9), (190, 10)]) M M1 → PlW D M1 u mo (2 ^ sPl u) → M1 190 9 = (dysF (rdD D u) mo (2 ^ sPl u - 1)).1 → M1 190 10 = (dysF (rdD D u) mo (2 ^ sPl u - 1)).2 → (∀ i : Nat, i < k → M1 203 (i : Int) = (fdF (rdD D u) mo (lfF (rdD D u) mo (2 ^ sPl u - 1) i) : Nat)) → aE s1_G d 104 136 [] [some (aP 190), some (aI mo), none, some (aI (lfF (rdD D u) mo (2 ^ sPl u - 1) k : Nat)), some (aI (k : Int))] [] M1 (fun r M' => r = none ∧ fr (wr [202, 203] [(190, 9), (190, 10)]) M M' ∧ PlV D M' u mo) := by
    intro m
    induction m with
    | zero =>
      intro k M1 hk gf hW h9 h10 hp
      refine s1_Visitation_choose_136 (by omega) ?_
      exact ⟨fun _ => ⟨rfl, gf, ok, h9, h10, fun i hi => hp i (by omega)⟩, fun h => absurd h (by omega)⟩
    | succ m ih =>
      intro k M1 hk gf hW h9 h10 hp
      refine s1_Visitation_choose_136 (by omega) ?_
      refine ⟨fun h => absurd h (by omega), fun _ => ?_⟩
      have hl := lfF_lt (rd := rdD D u) (mo := mo) hall k
      refine aKi_of (s1_leastFirst hI hs hm ok (hR' M1 gf) hW hl) (by omega) (fun z M2 q => ?_)
      obtain ⟨rfl, rfl⟩ := q
      have hf : fdF (rdD D u) mo (lfF (rdD D u) mo (2 ^ sPl u - 1) k) ≤ lfF (rdD D u) mo (2 ^ sPl u - 1) k := by
        rw [← fdF_sub]; exact Nat.and_le_right
      rw [x_us, b_xor (by omega) (by omega), x_add (a := (k : Int)) (by omega), show (k : Int) + 1 = ((k + 1 : Nat) : Int) by omega]
      refine ⟨by omega, by omega, ih (k + 1) _ (by omega) (fr_up gf rfl) (fun p hp => by rw [x_uc (by decide)]; exact hW p hp) (by rw [x_uc (by decide)]; exact h9) (by rw [x_uc (by decide)]; exact h10) (fun i hi => ?_)⟩
      by_cases e : i = k
      · subst e; rw [x_us]
      · rw [x_uf (by omega)]; exact hp i (by omega)
  have k18 : ∀ (m p : Nat) (M1 : AM), p + m = 2 ^ sPl u → 1 ≤ p → fr (wr [202, 203] [(190, 9), (190, 10)]) M M1 → PlW D M1 u mo p → aE s1_G d 104 18 [] [some (aP 190), some (aI mo), some (aI ((2 ^ sPl u - 1 : Nat) : Int)), some (aI (p : Int)), none] [] M1 (fun r M' => r = none ∧ fr (wr [202, 203] [(190, 9), (190, 10)]) M M' ∧ PlV D M' u mo) := by
    intro m
    induction m with
    | zero =>
      intro p M1 hp p1 gf hW
      have hp : p = 2 ^ sPl u := by omega
      rw [hp] at hW
      have hda := dysD_ok hI hs hm ok hall
      refine s1_Visitation_choose_18 (by omega) ?_
      refine ⟨fun _ => ?_, fun h => absurd h (by omega)⟩
      rw [x_uc (k := 190) (k' := 202) (by decide), hW _ hall, x_div (by omega) (by omega) (by omega) (by omega), x_rem (by omega) (by omega) (by omega) (by omega)]
      refine ⟨by omega, by omega, by omega, by omega, ?_⟩
      exact k136 8 0 _ (by omega) (fr_up (fr_up gf rfl) rfl) (fun q hq => by rw [x_uc (by decide), x_uc (by decide)]; exact hW q hq) (by rw [x_uf (by decide), x_us]; omega) (by rw [x_us]; omega) (fun i hi => absurd hi (by omega))
    | succ m ih =>
      intro p M1 hp p1 gf hW
      have ih := fun M2 => ih (p + 1) M2 (by omega) (by omega)
      have hpl : p < 2 ^ sPl u := by omega
      have hdp := dysD_ok hI hs hm ok hpl
      refine s1_Visitation_choose_18 (by omega) ?_
      refine ⟨fun h => absurd h (by omega), fun _ => ⟨by omega, ?_⟩⟩
      have done : ∀ (M1 : AM), fr (wr [202, 203] [(190, 9), (190, 10)]) M M1 → PlW D M1 u mo p → wtR (M1 202 (p : Int)) (dysF (rdD D u) mo p) → aE s1_G d 104 34 [] [some (aP 190), some (aI mo), some (aI ((2 ^ sPl u - 1 : Nat) : Int)), some (aI (p : Int)), some (aI ((0 : Nat) : Int))] [] M1 (fun r M' => r = none ∧ fr (wr [202, 203] [(190, 9), (190, 10)]) M M' ∧ PlV D M' u mo) := fun M1 gf hW hx => by
        refine s1_Visitation_choose_34 (by omega) ?_
        rw [x_add (a := (p : Int)) (by omega), show (p : Int) + 1 = ((p + 1 : Nat) : Int) by omega]
        refine ⟨fun _ => ih M1 gf (fun q hq => ?_), fun h => absurd h (by omega)⟩
        by_cases e : q = p
        · subst e
          rcases hx with ⟨e1, -⟩ | ⟨-, e2⟩
          · rw [e1] at hdp
            dsimp only at hdp
            omega
          · exact e2
        · exact hW q (by omega)
      have k34 : ∀ (k t : Nat) (x : Int × Int) (M1 : AM), t ≤ k → t &&& p = t → itS p (gD (rdD D u) mo (dysF (rdD D u) mo) p) k t x = dysF (rdD D u) mo p → fr (wr [202, 203] [(190, 9), (190, 10)]) M M1 → PlW D M1 u mo p → wtR (M1 202 (p : Int)) x → aE s1_G d 104 34 [] [some (aP 190), some (aI mo), some (aI ((2 ^ sPl u - 1 : Nat) : Int)), some (aI (p : Int)), some (aI (t : Int))] [] M1 (fun r M' => r = none ∧ fr (wr [202, 203] [(190, 9), (190, 10)]) M M' ∧ PlV D M' u mo) := by
        intro k
        induction k with
        | zero =>
          intro t x M1 htk ht hi gf hW hx
          have t0 : t = 0 := by omega
          subst t0
          have hi : x = dysF (rdD D u) mo p := hi
          subst hi
          exact done M1 gf hW hx
        | succ k ihk =>
          intro t x M1 htk ht hi gf hW hx
          unfold itS at hi
          by_cases t0 : t = 0
          · rw [if_pos t0] at hi
            subst hi
            subst t0
            exact done M1 gf hW hx
          · rw [if_neg t0] at hi
            have htp : t ≤ p := by rw [← ht]; exact Nat.and_le_right
            have hle : (t - 1) &&& p ≤ t - 1 := Nat.and_le_left
            have ihk := fun M2 => ihk ((t - 1) &&& p) _ M2 (by omega) (by rw [Nat.and_assoc, Nat.and_self]) hi
            have hrd := rdD_bd (u := u) (p := t) hI
            have hlt := sb_lt ht t0
            have hdx := dysD_ok hI hs hm ok (show p ^^^ t < 2 ^ sPl u by omega)
            refine s1_Visitation_choose_34 (by omega) ?_
            rw [hR' M1 gf t (by omega) (by omega), x_sub (a := (t : Int)) (by omega), show (t : Int) - 1 = ((t - 1 : Nat) : Int) by omega, b_and (by omega) (by omega), b_xor (by omega) (by omega)]
            refine ⟨fun h => absurd h (by omega), fun _ => ⟨by omega, fun y => ihk M1 gf hW ?_, fun y => ⟨by omega, by omega, by omega, by omega, ?_⟩⟩⟩
            · unfold gD
              rw [if_neg (by omega)]
              exact hx
            · rw [hW _ hlt, x_add (a := 10000) (by omega), x_add (by omega)]
              refine ihk _ (fr_up gf rfl) (fun q hq => by rw [x_uf (by omega)]; exact hW q hq) ?_
              rw [x_us]
              unfold gD
              rw [if_pos y]
              rcases hx with ⟨e1, e2⟩ | ⟨e1, e2⟩
              · subst e1
                rw [e2, if_neg (by omega), if_pos (by dsimp only; omega)]
                exact Or.inr ⟨⟨by dsimp only; omega, by dsimp only; omega, by dsimp only; omega, by dsimp only; omega⟩, by dsimp only; omega⟩
              · rw [e2]
                split
                · rw [if_neg (by omega)]
                  exact Or.inr ⟨e1, rfl⟩
                · rw [if_pos (by omega)]
                  exact Or.inr ⟨⟨by dsimp only; omega, by dsimp only; omega, by dsimp only; omega, by dsimp only; omega⟩, by dsimp only; omega⟩
      refine k34 p p (1000000, 1000000) _ (Nat.le_refl p) (Nat.and_self p) (dysF_eq (by omega)).symm (fr_up gf rfl) (fun q hq => by rw [x_uf (by omega)]; exact hW q hq) ?_
      rw [x_us]
      exact Or.inl ⟨rfl, rfl⟩
  refine ⟨by omega, k18 (2 ^ sPl u - 1) 1 _ (by omega) (by omega) (fr_up fr_rf rfl) (fun p hp => ?_)⟩
  rw [show p = 0 by omega]
  exact x_us
def PlB (D M : AM) (u : Nat) : Prop := M 190 7 = (u : Int) ∧ PlN M u ∧ PlR D M u ∧ (M 190 8 = 0 ∨ (1 ≤ M 190 8 ∧ M 190 8 ≤ 999 ∧ PlV D M u (M 190 8)))
theorem PlB_C {D M : AM} {u : Nat} (h : PlB D M u) (hu : u < 2 ^ (D 0 3).toNat) (h1 : 1 ≤ sPl u) (hs : sPl u ≤ 8) : PlanC D M := Or.inr ⟨u, h.1, hu, h1, hs, h.2.1, h.2.2.1, h.2.2.2⟩
theorem s1_prepare {D M : AM} {u : Nat} {mo : Int} (hI : Inv D) (hB : B1 D M) (hC : PlanC D M) (hu : u < 2 ^ (D 0 3).toNat) (h1 : 1 ≤ sPl u) (hs : sPl u ≤ 8) (hm : 1 ≤ mo ∧ mo ≤ 999) : aCi s1_G 12 101 [aP 190, aI (u : Int), aI mo] M (fun z M' => fr wU7 M M' ∧ PlanC D M' ∧ ((z = 1 ∧ PlN M' u ∧ PlV D M' u mo) ∨ (z = 0 ∧ ¬ okS (sPl u) (rdD D u) mo))) := by
  refine ⟨Nat.le_of_ble_eq_true rfl, fun d hd => ?_⟩
  refine s1_Visitation_prepare_0 (by omega) ?_
  have hnl := Inv_nl hI
  have h256 := p_le8 hs
  have hn12 : (D 0 3).toNat ≤ 12 := by omega
  have h4096 : 2 ^ (D 0 3).toNat ≤ 2 ^ 12 := Nat.pow_le_pow_right (by decide) hn12
  have k86 : ∀ (m k : Nat) (M1 : AM), k + m = sPl u → fr wU7 M M1 → PlB D M1 u → (∀ i, i < k → rdD D u (2 ^ i) ≤ mo) → aE s1_G d 101 86 [] [some (aP 190), none, some (aI mo), some (aI (k : Int))] [] M1 (fun r M' => ∃ z, r = some (aI z) ∧ fr wU7 M M' ∧ PlanC D M' ∧ ((z = 1 ∧ PlN M' u ∧ PlV D M' u mo) ∨ (z = 0 ∧ ¬ okS (sPl u) (rdD D u) mo))) := by
    intro m
    induction m with
    | zero =>
      intro k M1 hk gf hb hok
      have ok : okS (sPl u) (rdD D u) mo := fun i hi => hok i (by omega)
      refine s1_Visitation_prepare_86 (by omega) ?_
      rw [hb.2.1.1]
      refine ⟨fun _ => ⟨fun e => ⟨Or.inr rfl, _, rfl, gf, PlB_C hb hu h1 hs, Or.inl ⟨rfl, hb.2.1, ?_⟩⟩, fun e => ?_⟩, fun h => absurd h (by omega)⟩
      · rcases hb.2.2.2 with q | ⟨q1, q2, q3⟩
        · omega
        · rw [e] at q3; exact q3
      · have hN : PlN (am_up M1 190 8 mo) u := ⟨by rw [x_uf (by decide)]; exact hb.2.1.1, fun i hi => by rw [x_uc (by decide)]; exact hb.2.1.2 i hi⟩
        have hR : PlR D (am_up M1 190 8 mo) u := fun p p0 p1 => by rw [x_uc (by decide)]; exact hb.2.2.1 p p0 p1
        refine aKv_of (s1_choose hI hs hm.2 ok hN hR) (by omega) (fun M2 q => ?_)
        obtain ⟨g2, v⟩ := q
        have hN2 : PlN M2 u := ⟨by rw [g2 190 2 rfl]; exact hN.1, fun i hi => by rw [g2 191 i rfl]; exact hN.2 i hi⟩
        have e8 : M2 190 8 = mo := by rw [g2 190 8 rfl, x_us]
        have hB2 : PlB D M2 u := ⟨by rw [g2 190 7 rfl, x_uf (by decide)]; exact hb.1, hN2, fun p p0 p1 => by rw [g2 201 p rfl]; exact hR p p0 p1, Or.inr ⟨by omega, by omega, by rw [e8]; exact v⟩⟩
        exact ⟨Or.inr rfl, _, rfl, fr_tr (fr_up gf rfl) (fr_mo g2 rfl), PlB_C hB2 hu h1 hs, Or.inl ⟨rfl, hN2, v⟩⟩
    | succ m ih =>
      intro k M1 hk gf hb hok
      have hkp : 2 ^ k < 2 ^ sPl u := Nat.pow_lt_pow_right (by decide) (by omega)
      have hk1 := Nat.two_pow_pos k
      refine s1_Visitation_prepare_86 (by omega) ?_
      rw [hb.2.1.1, b_one (by omega), hb.2.2.1 (2 ^ k) (by omega) hkp, x_add (a := (k : Int)) (by omega), show (k : Int) + 1 = ((k + 1 : Nat) : Int) by omega]
      refine ⟨fun h => absurd h (by omega), fun _ => ⟨by omega, fun w => ih (k + 1) M1 (by omega) gf hb (fun i hi => ?_), fun w => ⟨Or.inl rfl, _, rfl, gf, PlB_C hb hu h1 hs, Or.inr ⟨rfl, fun ok => ?_⟩⟩⟩⟩
      · by_cases e : i = k
        · subst e; exact w
        · exact hok i (by omega)
      · have := ok k (by omega)
        omega
  refine ⟨fun e => ?_, fun e => ?_⟩
  · rcases hC with q | ⟨u', q1, q2, q3, q4, q5⟩
    · have u0 : u = 0 := by omega
      subst u0
      exact absurd h1 (by decide)
    · have eu : u' = u := by omega
      subst eu
      exact k86 (sPl u') 0 M (by omega) fr_rf ⟨q1, q5⟩ (fun i hi => absurd hi (by omega))
  · have fin : ∀ (M1 : AM), fr wU7 M M1 → M1 190 7 = (u : Int) → M1 190 8 = 0 → PlN M1 u → aKv s1_G d 102 [aP 190] M1 (fun M1 => aE s1_G d 101 86 [] [some (aP 190), none, some (aI mo), some (aI 0)] [] M1 (fun r M' => ∃ z, r = some (aI z) ∧ fr wU7 M M' ∧ PlanC D M' ∧ ((z = 1 ∧ PlN M' u ∧ PlV D M' u mo) ∨ (z = 0 ∧ ¬ okS (sPl u) (rdD D u) mo)))) := fun M1 gf e7 e8 hN => by
      refine aKv_of (s1_measure hI (B1_w7 hB gf) hn12 hu hs hN) (by omega) (fun M2 q => ?_)
      obtain ⟨g2, r⟩ := q
      exact k86 (sPl u) 0 M2 (by omega) (fr_tr gf (fr_mo g2 rfl)) ⟨by rw [g2 190 7 rfl]; exact e7, ⟨by rw [g2 190 2 rfl]; exact hN.1, fun i hi => by rw [g2 191 i rfl]; exact hN.2 i hi⟩, r, Or.inl (by rw [g2 190 8 rfl]; exact e8)⟩ (fun i hi => absurd hi (by omega))
    have k25 : ∀ (m l : Nat) (M1 : AM), l + m = (D 0 3).toNat → fr wU7 M M1 → M1 190 7 = (u : Int) → M1 190 8 = 0 → M1 190 2 = (cntB (fun i => u.testBit i) l : Int) → (∀ k : Nat, k < cntB (fun i => u.testBit i) l → M1 191 (k : Int) = snP u k) → aE s1_G d 101 25 [] [some (aP 190), some (aI (u : Int)), some (aI mo), some (aI (l : Int))] [] M1 (fun r M' => ∃ z, r = some (aI z) ∧ fr wU7 M M' ∧ PlanC D M' ∧ ((z = 1 ∧ PlN M' u ∧ PlV D M' u mo) ∨ (z = 0 ∧ ¬ okS (sPl u) (rdD D u) mo))) := by
      intro m
      induction m with
      | zero =>
        intro l M1 hl gf e7 e8 e2 hk
        refine s1_Visitation_prepare_25 (by omega) ?_
        rw [B1_nl (B1_w7 hB gf)]
        have := sPl_n hn12 hu
        rw [← hl, Nat.add_zero] at this
        rw [this] at e2 hk
        exact ⟨fun _ => fin M1 gf e7 e8 ⟨e2, hk⟩, fun h => absurd h (by omega)⟩
      | succ m ih =>
        intro l M1 hl gf e7 e8 e2 hk
        have ih := fun M2 => ih (l + 1) M2 (by omega)
        have hc := sPl_n hn12 hu
        have hmono : cntB (fun i => u.testBit i) l ≤ sPl u := by
          rw [← hc]
          have key : ∀ n, cntB (fun i => u.testBit i) l ≤ cntB (fun i => u.testBit i) (l + n) := by
            intro n
            induction n with
            | zero => exact Nat.le_refl _
            | succ n ihn => rw [show l + (n + 1) = (l + n) + 1 by omega, cntB_succ]; omega
          have := key (m + 1)
          rw [hl] at this
          exact this
        refine s1_Visitation_prepare_25 (by omega) ?_
        rw [B1_nl (B1_w7 hB gf), x_uc (k := 191) (k' := 190) (by decide), e2, n_get (by omega) (by omega), bI_1, bI_n1, x_add (a := (l : Int)) (by omega), show (l : Int) + 1 = ((l + 1 : Nat) : Int) by omega]
        rw [cntB_succ] at ih
        refine ⟨fun h => absurd h (by omega), fun _ => ⟨fun w => ?_, fun w => ⟨fun y => ?_, fun y => ⟨by omega, ?_⟩⟩⟩⟩
        · have es : cntB (fun i => u.testBit i) l = sPl u := by omega
          rw [es] at e2 hk
          exact fin M1 gf e7 e8 ⟨e2, hk⟩
        · rw [if_neg (by rw [y]; decide)] at ih
          exact ih M1 gf e7 e8 e2 hk
        · rw [if_pos y] at ih
          rw [x_add (by omega)]
          refine ih _ (fr_up (fr_up gf rfl) rfl) (by rw [x_uf (by decide), x_uc (by decide)]; exact e7) (by rw [x_uf (by decide), x_uc (by decide)]; exact e8) (by rw [x_us]; omega) (fun k hk2 => ?_)
          rw [x_uc (by decide)]
          by_cases e : k = cntB (fun i => u.testBit i) l
          · subst e; rw [x_us, snP_at (by omega) y]
          · rw [x_uf (by omega)]; exact hk k (by omega)
    exact k25 (D 0 3).toNat 0 _ (by omega) (fr_up (fr_up (fr_up fr_rf rfl) rfl) rfl) (by rw [x_uf (by decide), x_uf (by decide), x_us]) (by rw [x_uf (by decide), x_us]) (by rw [x_us]; rfl) (fun k hk => absurd hk (by simp [cntB]))
theorem s1_setOf {D M : AM} {u n : Nat} {mo day : Int} (hI : Inv D) (hn : n ≤ 12) (hu : u < 2 ^ n) (hs : sPl u ≤ 8) (hm : mo ≤ 999) (hN : PlN M u) (hV : PlV D M u mo) (hd0 : 0 ≤ day) : aCi s1_G 4 106 [aP 190, aI day] M (fun z M' => M' = M ∧ z = (sprF u (fdF (rdD D u) mo (lfF (rdD D u) mo (2 ^ sPl u - 1) day.toNat)) (sPl u) : Nat)) := by
  refine ⟨Nat.le_of_ble_eq_true rfl, fun d hd => ?_⟩
  refine s1_Visitation_setOf_0 (by omega) ?_
  have h256 := p_le8 hs
  have hp0 := Nat.two_pow_pos (sPl u)
  have hall : 2 ^ sPl u - 1 < 2 ^ sPl u := by omega
  obtain ⟨t, et⟩ : ∃ t, t = fdF (rdD D u) mo (lfF (rdD D u) mo (2 ^ sPl u - 1) day.toNat) := ⟨_, rfl⟩
  have ht : t < 2 ^ sPl u := by
    have h1 := lfF_lt (rd := rdD D u) (mo := mo) hall day.toNat
    have h2 : t ≤ lfF (rdD D u) mo (2 ^ sPl u - 1) day.toNat := by
      rw [et, ← fdF_sub]; exact Nat.and_le_right
    omega
  rw [← et]
  have key : ∀ (m k : Nat), k + m = sPl u → (8 ≤ day → k = 0) → aE s1_G d 106 4 [] [some (aP 190), some (aI day), some (aI (sprF u t k : Int)), some (aI (k : Int))] [] M (fun r M' => ∃ z, r = some (aI z) ∧ M' = M ∧ z = (sprF u t (sPl u) : Nat)) := by
    intro m
    induction m with
    | zero =>
      intro k hk _
      refine s1_Visitation_setOf_4 (by omega) ?_
      rw [hN.1]
      exact ⟨fun _ => ⟨_, rfl, rfl, by rw [show k = sPl u by omega]⟩, fun h => absurd h (by omega)⟩
    | succ m ih =>
      intro k hk h8
      refine s1_Visitation_setOf_4 (by omega) ?_
      rw [hN.1, hN.2 k (by omega), x_add (a := (k : Int)) (by omega), show (k : Int) + 1 = ((k + 1 : Nat) : Int) by omega]
      refine ⟨fun h => absurd h (by omega), fun _ => ⟨fun w => ⟨_, rfl, rfl, ?_⟩, fun w => ⟨by omega, by omega, ?_⟩⟩⟩
      · have e0 : t = 0 := by
          rw [et, lfF_end hs hm (fun t => (rdD_bd (u := u) (p := t) hI).1) (PlV_ok hV) hall (by omega), fdF_0]
        rw [e0, sprF_0, sprF_0]
      · have e3 := PlV_p hV day.toNat (by omega)
        rw [← et, show ((day.toNat : Nat) : Int) = day by omega] at e3
        rw [e3, n_get (by omega) (by omega), spr_or hn hu (by omega)]
        exact ih (k + 1) (by omega) (fun w => absurd w (by omega))
  exact key (sPl u) 0 (by omega) (fun _ => rfl)
theorem c1_plan {D M : AM} {w mo day : Int} (hw : aR32 w) (hI : Inv D) (hB : B1 D M) (hC : PlanC D M) : aCi s1_G 16 139 [aP 0, aI w, aI mo, aI day] M (fun z M' => z = f_plan D w mo day ∧ fr wU7 M M' ∧ PlanC D M') := by
  refine ⟨Nat.le_of_ble_eq_true rfl, fun d hd => ?_⟩
  refine s1_plan_0 (by omega) ?_
  have hnl := Inv_nl hI
  have hw : -2147483648 ≤ w ∧ w < 2147483648 := hw
  have hn12 : (D 0 3).toNat ≤ 12 := by omega
  have h4096 : 2 ^ (D 0 3).toNat ≤ 2 ^ 12 := Nat.pow_le_pow_right (by decide) hn12
  rw [B1_nl hB]
  obtain ⟨n, en⟩ : ∃ n : Nat, D 0 3 = n := ⟨(D 0 3).toNat, by omega⟩
  have hnn : (D 0 3).toNat = n := by omega
  rw [en]
  unfold f_plan
  rw [hnn] at hn12 h4096 ⊢
  by_cases h0 : 0 ≤ w
  · obtain ⟨u, rfl⟩ : ∃ u : Nat, w = u := ⟨w.toNat, by omega⟩
    rw [show ((u : Int)).toNat = u by omega, b_ushr (by omega) (by omega)]
    refine ⟨fun e => ?_, fun e => ⟨_, rfl, ?_, fr_rf, hC⟩⟩
    · have hu : u < 2 ^ n := sr_0.mp (by omega)
      rw [if_neg (by omega)]
      refine aKi_of (s1_Integer_bitCount (by omega)) (by omega) (fun z M1 q => ?_)
      obtain ⟨rfl, rfl⟩ := q
      rw [sPl_ones (by omega)]
      simp only [a_bl_n, a_bl_z]
      refine ⟨fun q => ⟨_, rfl, by rw [if_pos (by omega)], fr_rf, hC⟩, fun q => ⟨fun q2 => ⟨_, rfl, by rw [if_pos (by omega)], fr_rf, hC⟩, fun q2 => ⟨fun q3 => ?_, fun q3 => ⟨_, rfl, by rw [if_pos (by omega)], fr_rf, hC⟩⟩⟩⟩
      rw [if_neg (by omega)]
      have hs : sPl u ≤ 8 := by omega
      have h256 := p_le8 hs
      have hp0 := Nat.two_pow_pos (sPl u)
      have hall : 2 ^ sPl u - 1 < 2 ^ sPl u := by omega
      refine aKi_of (s1_prepare hI hB hC (by rw [hnn]; exact hu) (by omega) hs q2) (by omega) (fun z M2 y => ?_)
      obtain ⟨g2, c2, y⟩ := y
      rcases y with ⟨rfl, hN, hV⟩ | ⟨rfl, nok⟩
      · have hda := dysD_ok hI hs q2.2 (PlV_ok hV) hall
        rw [if_neg (by omega)]
        refine ⟨fun _ => ⟨fun e1 => ⟨fun e2 => ?_, fun e2 => ⟨_, rfl, ?_, g2, c2⟩⟩, fun e1 => ⟨_, rfl, ?_, g2, c2⟩⟩, fun h => absurd h (by decide)⟩
        · refine aKi_of (s1_setOf hI hn12 hu hs q2.2 hN hV (by omega)) (by omega) (fun z M3 x => ?_)
          obtain ⟨rfl, rfl⟩ := x
          exact ⟨_, rfl, by rw [if_neg e1, if_neg e2], g2, c2⟩
        · rw [if_neg e1, if_pos e2]; exact PlV_m hV
        · rw [if_pos e1]; exact PlV_d hV
      · refine ⟨fun h => absurd rfl h, fun _ => ⟨_, rfl, ?_, g2, c2⟩⟩
        have : ∃ k, k < sPl u ∧ mo < rdD D u (2 ^ k) := by
          apply Classical.byContradiction
          intro x
          exact nok (fun k hk => by
            by_cases y : rdD D u (2 ^ k) ≤ mo
            · exact y
            · exact absurd ⟨k, hk, by omega⟩ x)
        obtain ⟨k, hk, hx⟩ := this
        rw [dysF_far hx (fun p hp q => rideF_ge (plG_D hI) hk q) _ _ (Nat.le_refl _) hall (by rw [Nat.testBit_two_pow_sub_one]; exact decide_eq_true hk), if_pos (by decide)]
    · rw [if_pos (fun x => e (by
        have : u >>> n = 0 := sr_0.mpr (by omega)
        omega))]
  · refine ⟨fun e => absurd e (u_neg (by omega) (by omega) hn12), fun _ => ⟨_, rfl, ?_, fr_rf, hC⟩⟩
    rw [if_pos (fun x => h0 x.1)]
