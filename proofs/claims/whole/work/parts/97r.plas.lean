/-! PLAN: the reference's call -/
theorem s2_findDays {D M : AM} {u : Nat} {mo : Int} (hI : Inv D) (hs : sPl u ≤ 8) (hm : mo ≤ 999) (hN : QlN M u) (hR : QlR D M u) : aCv s2_G 6 106 [aP 0, aI mo] M (fun M' => fr (wr [66, 67] []) M M' ∧ QlX D M' u mo (2 ^ sPl u)) := by
  refine ⟨Nat.le_of_ble_eq_true rfl, fun d hd => ?_⟩
  refine s2_findDays_0 (by omega) ?_
  have h256 := p_le8 hs
  have hp0 := Nat.two_pow_pos (sPl u)
  have hN' : ∀ M1, fr (wr [66, 67] []) M M1 → M1 0 92 = (sPl u : Int) := fun M1 g => by rw [g 0 92 rfl]; exact hN.1
  have hR' : ∀ M1, fr (wr [66, 67] []) M M1 → QlR D M1 u := fun M1 g p h0 h1 => by rw [g 65 p rfl]; exact hR p h0 h1
  have gen : ∀ p, 0 ≤ (dysF (rdD D u) mo p).1 ∧ (dysF (rdD D u) mo p).1 ≤ 1000000 ∧ 0 ≤ (dysF (rdD D u) mo p).2 ∧ (dysF (rdD D u) mo p).2 ≤ 1000000 + 1000 * (p : Int) := fun p => dysF_gen hs hm (fun t => (rdD_bd (u := u) (p := t) hI).1) p p (Nat.le_refl p)
  have k16 : ∀ (m p : Nat) (M1 : AM), p + m = 2 ^ sPl u → 1 ≤ p → fr (wr [66, 67] []) M M1 → QlX D M1 u mo p → aE s2_G d 106 16 [] [some (aP 0), some (aI mo), some (aI (p : Int)), none, none, none, none] [] M1 (fun r M' => r = none ∧ fr (wr [66, 67] []) M M' ∧ QlX D M' u mo (2 ^ sPl u)) := by
    intro m
    induction m with
    | zero =>
      intro p M1 hp p1 gf hX
      have hp : p = 2 ^ sPl u := by omega
      rw [hp] at hX
      refine s2_findDays_16 (by omega) ?_
      rw [hN' M1 gf, b_one (by omega)]
      exact ⟨fun _ => ⟨rfl, gf, hX⟩, fun h => absurd h (by omega)⟩
    | succ m ih =>
      intro p M1 hp p1 gf hX
      have ih := fun M2 => ih (p + 1) M2 (by omega) (by omega)
      refine s2_findDays_16 (by omega) ?_
      rw [hN' M1 gf, b_one (by omega)]
      refine ⟨fun h => absurd h (by omega), fun _ => ⟨by omega, by omega, ?_⟩⟩
      have done : ∀ (M1 : AM), fr (wr [66, 67] []) M M1 → QlX D M1 u mo p → M1 66 (p : Int) = (dysF (rdD D u) mo p).1 → M1 67 (p : Int) = (dysF (rdD D u) mo p).2 → aE s2_G d 106 46 [] [some (aP 0), some (aI mo), some (aI (p : Int)), some (aI ((0 : Nat) : Int)), none, none, none] [] M1 (fun r M' => r = none ∧ fr (wr [66, 67] []) M M' ∧ QlX D M' u mo (2 ^ sPl u)) := fun M1 gf hX e1 e2 => by
        refine s2_findDays_46 (by omega) ?_
        rw [x_add (a := (p : Int)) (by omega), show (p : Int) + 1 = ((p + 1 : Nat) : Int) by omega]
        refine ⟨fun _ => ih M1 gf (fun q hq => ?_), fun h => absurd h (by omega)⟩
        by_cases e : q = p
        · subst e; exact ⟨e1, e2⟩
        · exact hX q (by omega)
      have k46 : ∀ (k t : Nat) (x : Int × Int) (M1 : AM), t ≤ k → t &&& p = t → itS p (gD (rdD D u) mo (dysF (rdD D u) mo) p) k t x = dysF (rdD D u) mo p → fr (wr [66, 67] []) M M1 → QlX D M1 u mo p → M1 66 (p : Int) = x.1 → M1 67 (p : Int) = x.2 → aE s2_G d 106 46 [] [some (aP 0), some (aI mo), some (aI (p : Int)), some (aI (t : Int)), none, none, none] [] M1 (fun r M' => r = none ∧ fr (wr [66, 67] []) M M' ∧ QlX D M' u mo (2 ^ sPl u)) := by
        intro k
        induction k with
        | zero =>
          intro t x M1 htk ht hi gf hX e1 e2
          have t0 : t = 0 := by omega
          subst t0
          have hi : x = dysF (rdD D u) mo p := hi
          subst hi
          exact done M1 gf hX e1 e2
        | succ k ihk =>
          intro t x M1 htk ht hi gf hX e1 e2
          unfold itS at hi
          by_cases t0 : t = 0
          · rw [if_pos t0] at hi
            subst hi
            subst t0
            exact done M1 gf hX e1 e2
          · rw [if_neg t0] at hi
            have htp : t ≤ p := by rw [← ht]; exact Nat.and_le_right
            have hle : (t - 1) &&& p ≤ t - 1 := Nat.and_le_left
            have ihk := fun M2 => ihk ((t - 1) &&& p) _ M2 (by omega) (by rw [Nat.and_assoc, Nat.and_self]) hi
            have hrd := rdD_bd (u := u) (p := t) hI
            have hlt := sb_lt ht t0
            have hg := gen (p ^^^ t)
            refine s2_findDays_46 (by omega) ?_
            rw [hR' M1 gf t (by omega) (by omega), x_sub (a := (t : Int)) (by omega), show (t : Int) - 1 = ((t - 1 : Nat) : Int) by omega, b_and (by omega) (by omega), b_less (by omega) (by omega), ← sb_xor ht, (hX _ hlt).1, (hX _ hlt).2, e1, e2, x_add (a := (dysF (rdD D u) mo (p ^^^ t)).1) (by omega)]
            have up : ∀ a b : Int, (am_up (am_up M1 66 (p : Int) a) 67 (p : Int) b) 66 (p : Int) = a ∧ (am_up (am_up M1 66 (p : Int) a) 67 (p : Int) b) 67 (p : Int) = b ∧ QlX D (am_up (am_up M1 66 (p : Int) a) 67 (p : Int) b) u mo p := fun a b => ⟨by rw [x_uc (by decide), x_us], x_us, fun q hq => by rw [x_uc (k := 67) (k' := 66) (by decide), x_uf (k := 66) (by omega), x_uf (k := 67) (by omega), x_uc (k := 66) (k' := 67) (by decide)]; exact hX q hq⟩
            refine ⟨fun h => absurd h (by omega), fun _ => ⟨by omega, by omega, by omega, by omega, fun y => ihk M1 gf hX ?_ ?_, fun y => ⟨by omega, ?_⟩⟩⟩
            · unfold gD; rw [if_neg (by omega)]; exact e1
            · unfold gD; rw [if_neg (by omega)]; exact e2
            · rw [x_add (a := (dysF (rdD D u) mo (p ^^^ t)).2) (by omega)]
              refine ⟨fun v => ⟨by omega, by omega, ?_⟩, fun v => ⟨by omega, fun v2 => ihk M1 gf hX ?_ ?_, fun v2 => ⟨by omega, fun v3 => ihk M1 gf hX ?_ ?_, fun v3 => ⟨by omega, by omega, ?_⟩⟩⟩⟩
              · refine ihk _ (fr_up (fr_up gf rfl) rfl) (up _ _).2.2 ?_ ?_
                · rw [(up _ _).1]; unfold gD; rw [if_pos y, if_pos (by omega)]
                · rw [(up _ _).2.1]; unfold gD; rw [if_pos y, if_pos (by omega)]
              · unfold gD; rw [if_pos y, if_neg (by omega)]; exact e1
              · unfold gD; rw [if_pos y, if_neg (by omega)]; exact e2
              · unfold gD; rw [if_pos y, if_neg (by omega)]; exact e1
              · unfold gD; rw [if_pos y, if_neg (by omega)]; exact e2
              · refine ihk _ (fr_up (fr_up gf rfl) rfl) (up _ _).2.2 ?_ ?_
                · rw [(up _ _).1]; unfold gD; rw [if_pos y, if_pos (by omega)]
                · rw [(up _ _).2.1]; unfold gD; rw [if_pos y, if_pos (by omega)]
      refine k46 p p (1000000, 1000000) _ (Nat.le_refl p) (Nat.and_self p) (dysF_eq (by omega)).symm (fr_up (fr_up gf rfl) rfl) (fun q hq => ?_) ?_ ?_
      · rw [x_uc (k := 67) (k' := 66) (by decide), x_uf (k := 66) (by omega), x_uf (k := 67) (by omega), x_uc (k := 66) (k' := 67) (by decide)]; exact hX q hq
      · rw [x_uc (by decide), x_us]
      · rw [x_us]
  refine ⟨by omega, by omega, k16 (2 ^ sPl u - 1) 1 _ (by omega) (by omega) (fr_up (fr_up fr_rf rfl) rfl) (fun p hp => ?_)⟩
  rw [show p = 0 by omega]
  exact ⟨by rw [x_uc (by decide)]; exact x_us, x_us⟩
theorem s2_firstDay {D M : AM} {u p : Nat} {mo : Int} (hI : Inv D) (hs : sPl u ≤ 8) (hm : mo ≤ 999) (ok : okS (sPl u) (rdD D u) mo) (hR : QlR D M u) (hX : QlX D M u mo (2 ^ sPl u)) (hp : p < 2 ^ sPl u) (p0 : p ≠ 0) : aCi s2_G 4 108 [aP 0, aI (p : Int), aI mo] M (fun z M' => M' = M ∧ z = (fdF (rdD D u) mo p : Nat)) := by
  refine ⟨Nat.le_of_ble_eq_true rfl, fun d hd => ?_⟩
  refine s2_firstDay_0 (by omega) ?_
  have h256 := p_le8 hs
  have hdp := dysD_ok hI hs hm ok hp
  obtain ⟨t0, ht0, et0⟩ := fdB_ex hs hm (fun t => (rdD_bd (u := u) (p := t) hI).1) ok hp p0
  have key : ∀ (m t : Nat), t0 ≤ t + m → 1 ≤ t → (∀ j, j < t → fdB (rdD D u) mo p j = false) → aE s2_G d 108 2 [] [some (aP 0), some (aI (p : Int)), some (aI mo), some (aI (t : Int))] [] M (fun r M' => ∃ z, r = some (aI z) ∧ M' = M ∧ z = (fdF (rdD D u) mo p : Nat)) := by
    intro m
    induction m with
    | zero =>
      intro t ht t1 hno
      have htt : t ≤ t0 := by
        by_cases q : t0 < t
        · rw [hno t0 q] at et0; cases et0
        · omega
      have et : t = t0 := by omega
      subst et
      have q := et0
      unfold fdB at q
      simp only [Bool.and_eq_true, decide_eq_true_eq] at q
      obtain ⟨-, w1, w2, w3, w4⟩ := q
      have hrd := rdD_bd (u := u) (p := t) hI
      have hlt := sb_lt w1 (by omega)
      have hdx := dysD_ok hI hs hm ok (show p ^^^ t < 2 ^ sPl u by omega)
      refine s2_firstDay_2 (by omega) ?_
      rw [b_less (a := t) (by omega) (by omega), b_less (a := p) (by omega) (by omega), w1, Nat.xor_self, ← sb_xor w1, hR t t1 (by omega), (hX _ (show p ^^^ t < 2 ^ sPl u by omega)).1, (hX _ (show p ^^^ t < 2 ^ sPl u by omega)).2, (hX p hp).1, (hX p hp).2, x_add (a := (dysF (rdD D u) mo (p ^^^ t)).1) (by omega)]
      refine ⟨fun h => absurd rfl h, fun _ => ⟨by omega, fun y => absurd y (by omega), fun _ => ⟨by omega, by omega, fun y => absurd w3 y, fun _ => ⟨by omega, by omega, by omega, ?_⟩⟩⟩⟩
      rw [x_add (by omega)]
      exact ⟨fun _ => ⟨_, rfl, rfl, by rw [fdF_is hno (by omega) et0]⟩, fun y => absurd w4 y⟩
    | succ m ih =>
      intro t ht t1 hno
      have htt : t ≤ t0 := by
        by_cases q : t0 < t
        · rw [hno t0 q] at et0; cases et0
        · omega
      have nxt : fdB (rdD D u) mo p t = false → aE s2_G d 108 2 [] [some (aP 0), some (aI (p : Int)), some (aI mo), some (aI ((t + 1 : Nat) : Int))] [] M (fun r M' => ∃ z, r = some (aI z) ∧ M' = M ∧ z = (fdF (rdD D u) mo p : Nat)) := fun q => ih (t + 1) (by omega) (by omega) (fun j hj => by
        by_cases e : j = t
        · subst e; exact q
        · exact hno j (by omega))
      have hrd := rdD_bd (u := u) (p := t) hI
      refine s2_firstDay_2 (by omega) ?_
      rw [b_less (a := t) (by omega) (by omega), b_less (a := p) (by omega) (by omega), x_add (a := (t : Int)) (by omega), show (t : Int) + 1 = ((t + 1 : Nat) : Int) by omega, hR t t1 (by omega)]
      by_cases w1 : t &&& p = t
      · have hlt := sb_lt w1 (by omega)
        have hdx := dysD_ok hI hs hm ok (show p ^^^ t < 2 ^ sPl u by omega)
        rw [w1, Nat.xor_self, ← sb_xor w1, (hX _ (show p ^^^ t < 2 ^ sPl u by omega)).1, (hX _ (show p ^^^ t < 2 ^ sPl u by omega)).2, (hX p hp).1, (hX p hp).2, x_add (a := (dysF (rdD D u) mo (p ^^^ t)).1) (by omega)]
        refine ⟨fun h => absurd rfl h, fun _ => ⟨by omega, fun y => nxt (fdB_f2 (by omega)), fun y => ⟨by omega, by omega, fun v => nxt (fdB_f3 (fun x => v x.1)), fun v => ⟨by omega, by omega, by omega, ?_⟩⟩⟩⟩
        rw [x_add (by omega)]
        exact ⟨fun v2 => ⟨_, rfl, rfl, by rw [fdF_is hno (by omega) (fdB_t t1 w1 y ⟨v, v2⟩)]⟩, fun v2 => nxt (fdB_f3 (fun x => v2 x.2))⟩
      · have ne : t ^^^ (t &&& p) ≠ 0 := fun e => w1 (by
          have : t ^^^ (t ^^^ (t &&& p)) = t &&& p := by rw [← Nat.xor_assoc, Nat.xor_self, Nat.zero_xor]
          rw [e, Nat.xor_zero] at this
          exact this.symm)
        exact ⟨fun _ => nxt (fdB_f1 w1), fun h => absurd h (by omega)⟩
  exact key t0 1 (by omega) (by omega) (fun j hj => by
    rw [show j = 0 by omega]
    rfl)
theorem s2_spread {M : AM} {u n t : Nat} (hn : n ≤ 12) (hu : u < 2 ^ n) (hs : sPl u ≤ 8) (hN : QlN M u) (ht : t < 2 ^ sPl u) : aCi s2_G 4 107 [aP 0, aI (t : Int)] M (fun z M' => M' = M ∧ z = (sprF u t (sPl u) : Nat)) := by
  refine ⟨Nat.le_of_ble_eq_true rfl, fun d hd => ?_⟩
  refine s2_spread_0 (by omega) ?_
  have h256 := p_le8 hs
  have key : ∀ (m k : Nat), k + m = sPl u → aE s2_G d 107 4 [] [some (aP 0), some (aI (t : Int)), some (aI (sprF u t k : Int)), some (aI (k : Int))] [] M (fun r M' => ∃ z, r = some (aI z) ∧ M' = M ∧ z = (sprF u t (sPl u) : Nat)) := by
    intro m
    induction m with
    | zero =>
      intro k hk
      refine s2_spread_4 (by omega) ?_
      rw [hN.1]
      exact ⟨fun _ => ⟨_, rfl, rfl, by rw [show k = sPl u by omega]⟩, fun h => absurd h (by omega)⟩
    | succ m ih =>
      intro k hk
      refine s2_spread_4 (by omega) ?_
      rw [hN.1, hN.2 k (by omega), x_add (a := (k : Int)) (by omega), show (k : Int) + 1 = ((k + 1 : Nat) : Int) by omega, n_get (by omega) (by omega), spr_or hn hu (by omega)]
      exact ⟨fun h => absurd h (by omega), fun _ => ⟨by omega, ih (k + 1) (by omega)⟩⟩
  exact key (sPl u) 0 (by omega)
theorem c2_plan {M : AM} {w mo day : Int} (hw : aR32 w) (hday : aR32 day) (hI : Inv M) : aCi s2_G 12 110 [aP 0, aI w, aI mo, aI day] M (fun z M' => z = f_plan M w mo day ∧ fr wU8 M M') := by
  refine ⟨Nat.le_of_ble_eq_true rfl, fun d hd => ?_⟩
  refine s2_plan_0 (by omega) ?_
  have hnl := Inv_nl hI
  have hw : -2147483648 ≤ w ∧ w < 2147483648 := hw
  have hday : -2147483648 ≤ day ∧ day < 2147483648 := hday
  have hn12 : (M 0 3).toNat ≤ 12 := by omega
  have h4096 : 2 ^ (M 0 3).toNat ≤ 2 ^ 12 := Nat.pow_le_pow_right (by decide) hn12
  obtain ⟨n, en⟩ : ∃ n : Nat, M 0 3 = n := ⟨(M 0 3).toNat, by omega⟩
  have hnn : (M 0 3).toNat = n := by omega
  rw [en]
  unfold f_plan
  rw [hnn] at hn12 h4096 ⊢
  refine ⟨fun h0 => ⟨_, rfl, by rw [if_pos (by omega)], fr_rf⟩, fun h0 => ?_⟩
  obtain ⟨u, rfl⟩ : ∃ u : Nat, w = u := ⟨w.toNat, by omega⟩
  rw [show ((u : Int)).toNat = u by omega, b_shr (by omega) (by omega)]
  refine ⟨fun e => ?_, fun e => ⟨_, rfl, ?_, fr_rf⟩⟩
  · have hu : u < 2 ^ n := sr_0.mp (by omega)
    rw [if_neg (by omega)]
    refine aKi_of (s2_ones (by omega)) (by omega) (fun z M1 q => ?_)
    obtain ⟨rfl, rfl⟩ := q
    rw [sPl_ones (by omega)]
    simp only [a_bl_n, a_bl_z]
    refine ⟨fun q => ⟨_, rfl, by rw [if_pos (by omega)], fr_rf⟩, fun q => ⟨fun q2 => ⟨_, rfl, by rw [if_pos (by omega)], fr_rf⟩, fun q2 => ⟨fun q3 => ?_, fun q3 => ⟨_, rfl, by rw [if_pos (by omega)], fr_rf⟩⟩⟩⟩
    rw [if_neg (by omega)]
    have hs : sPl u ≤ 8 := by omega
    have h256 := p_le8 hs
    have hp0 := Nat.two_pow_pos (sPl u)
    have hall : 2 ^ sPl u - 1 < 2 ^ sPl u := by omega
    obtain ⟨R, eR⟩ : ∃ R : Int, R = (if 1000000 ≤ (dysF (rdD M1 u) mo (2 ^ sPl u - 1)).1 then -100003 else if day = -1 then (dysF (rdD M1 u) mo (2 ^ sPl u - 1)).1 else if day = -2 then (dysF (rdD M1 u) mo (2 ^ sPl u - 1)).2 else (sprF u (fdF (rdD M1 u) mo (lfF (rdD M1 u) mo (2 ^ sPl u - 1) day.toNat)) (sPl u) : Nat)) := ⟨_, rfl⟩
    rw [← eR]
    have k175 : ∀ (M2 : AM), fr wU8 M1 M2 → QlN M2 u → QlR M1 M2 u → QlX M1 M2 u mo (2 ^ sPl u) → okS (sPl u) (rdD M1 u) mo → R = (sprF u (fdF (rdD M1 u) mo (lfF (rdD M1 u) mo (2 ^ sPl u - 1) day.toNat)) (sPl u) : Nat) → ∀ (m k : Nat), (k : Int) + m = day → aE s2_G d 110 175 [] [some (aP 0), none, some (aI mo), some (aI day), none, some (aI (lfF (rdD M1 u) mo (2 ^ sPl u - 1) k : Nat)), some (aI (k : Int))] [] M2 (fun r M' => ∃ z, r = some (aI z) ∧ z = R ∧ fr wU8 M1 M') := by
      intro M2 gf hN hR hX ok eR2 m
      have nul : ∀ k : Nat, (k : Int) ≤ day → lfF (rdD M1 u) mo (2 ^ sPl u - 1) k = 0 → R = 0 := fun k hk q => by
        have e := lfF_0 q (day.toNat - k)
        rw [show k + (day.toNat - k) = day.toNat by omega] at e
        rw [eR2, e, fdF_0, sprF_0]
        rfl
      induction m with
      | zero =>
        intro k hk
        have hl := lfF_lt (rd := rdD M1 u) (mo := mo) hall k
        refine s2_plan_175 (by omega) ?_
        refine ⟨fun _ => ⟨fun y => ?_, fun y => ⟨_, rfl, (nul k (by omega) (by omega)).symm, gf⟩⟩, fun h => absurd h (by omega)⟩
        refine aKi_of (s2_firstDay hI hs q2.2 ok hR hX hl (by omega)) (by omega) (fun z M3 v => ?_)
        obtain ⟨e1, rfl⟩ := v
        subst e1
        have hf : fdF (rdD M1 u) mo (lfF (rdD M1 u) mo (2 ^ sPl u - 1) k) ≤ lfF (rdD M1 u) mo (2 ^ sPl u - 1) k := by
          rw [← fdF_sub]; exact Nat.and_le_right
        refine aKi_of (s2_spread hn12 hu hs hN (show fdF (rdD M1 u) mo (lfF (rdD M1 u) mo (2 ^ sPl u - 1) k) < 2 ^ sPl u by omega)) (by omega) (fun z M4 v => ?_)
        obtain ⟨e1, rfl⟩ := v
        subst e1
        refine ⟨_, rfl, ?_, gf⟩
        rw [eR2, show day.toNat = k by omega]
      | succ m ih =>
        intro k hk
        have ih := ih (k + 1) (by omega)
        have hl := lfF_lt (rd := rdD M1 u) (mo := mo) hall k
        refine s2_plan_175 (by omega) ?_
        refine ⟨fun h => absurd h (by omega), fun _ => ⟨fun y => ⟨fun v => absurd y v, fun _ => ⟨_, rfl, (nul k (by omega) (by omega)).symm, gf⟩⟩, fun y => ?_⟩⟩
        refine aKi_of (s2_firstDay hI hs q2.2 ok hR hX hl (by omega)) (by omega) (fun z M3 v => ?_)
        obtain ⟨e1, rfl⟩ := v
        subst e1
        have hf : fdF (rdD M1 u) mo (lfF (rdD M1 u) mo (2 ^ sPl u - 1) k) ≤ lfF (rdD M1 u) mo (2 ^ sPl u - 1) k := by
          rw [← fdF_sub]; exact Nat.and_le_right
        rw [b_less (by omega) (by omega), ← sb_xor fdF_sub, x_add (a := (k : Int)) (by omega), show (k : Int) + 1 = ((k + 1 : Nat) : Int) by omega]
        exact ih
    have k60 : ∀ (m l : Nat) (M2 : AM), l + m = n → fr wU8 M1 M2 → M2 0 92 = (cntB (fun i => u.testBit i) l : Int) → (∀ k : Nat, k < cntB (fun i => u.testBit i) l → M2 63 (k : Int) = snP u k) → aE s2_G d 110 60 [] [some (aP 0), some (aI (u : Int)), some (aI mo), some (aI day), some (aI (l : Int)), none, none] [] M2 (fun r M' => ∃ z, r = some (aI z) ∧ z = R ∧ fr wU8 M1 M') := by
      intro m
      induction m with
      | zero =>
        intro l M2 hl gf e92 hk
        refine s2_plan_60 (by omega) ?_
        rw [gf 0 3 rfl, en]
        refine ⟨fun _ => ?_, fun h => absurd h (by omega)⟩
        have hc := sPl_n hn12 hu
        rw [show l = n by omega, hc] at e92 hk
        have hN : QlN M2 u := ⟨e92, hk⟩
        refine aKv_of (s2_findRounds hI (eqL_fw eqL_rf gf rfl) hn12 hu hs hN) (by omega) (fun M3 v => ?_)
        obtain ⟨g3, hR⟩ := v
        have hN3 : QlN M3 u := ⟨by rw [g3 0 92 rfl]; exact hN.1, fun i hi => by rw [g3 63 i rfl]; exact hN.2 i hi⟩
        refine aKv_of (s2_findDays hI hs q2.2 hN3 hR) (by omega) (fun M4 v => ?_)
        obtain ⟨g4, hX⟩ := v
        have hN4 : QlN M4 u := ⟨by rw [g4 0 92 rfl]; exact hN3.1, fun i hi => by rw [g4 63 i rfl]; exact hN3.2 i hi⟩
        have hR4 : QlR M1 M4 u := fun p h0 h1 => by rw [g4 65 p rfl]; exact hR p h0 h1
        have f4 : fr wU8 M1 M4 := fr_tr gf (fr_tr (fr_mo g3 rfl) (fr_mo g4 rfl))
        rw [hN4.1, b_one (by omega), x_sub (by omega), show ((2 ^ sPl u : Nat) : Int) - 1 = ((2 ^ sPl u - 1 : Nat) : Int) by omega, (hX _ hall).1, (hX _ hall).2]
        refine ⟨by omega, fun y => ?_, fun y => ⟨_, rfl, by rw [eR, if_pos y], f4⟩⟩
        rw [if_neg (by omega)] at eR
        refine ⟨fun d0 => ?_, fun d0 => ⟨fun v => ⟨by omega, _, rfl, ?_, f4⟩, fun v => ⟨by omega, _, rfl, ?_, f4⟩⟩⟩
        · have ok : okS (sPl u) (rdD M1 u) mo := fun k hk => by
            by_cases x : rdD M1 u (2 ^ k) ≤ mo
            · exact x
            · have := dysF_far (s := sPl u) (rd := rdD M1 u) (mo := mo) (k := k) (by omega) (fun p hp q => rideF_ge (plG_D hI) hk q) _ _ (Nat.le_refl _) hall (by rw [Nat.testBit_two_pow_sub_one]; exact decide_eq_true hk)
              rw [this] at y
              exact absurd y (by decide)
          rw [if_neg (by omega), if_neg (by omega)] at eR
          exact k175 M4 f4 hN4 hR4 hX ok eR day.toNat 0 (by omega)
        · rw [eR, if_neg v, if_pos (by omega)]
        · rw [eR, if_pos v]
      | succ m ih =>
        intro l M2 hl gf e92 hk
        have ih := fun M3 => ih (l + 1) M3 (by omega)
        have hc := sPl_n hn12 hu
        rw [cntB_succ] at ih
        refine s2_plan_60 (by omega) ?_
        rw [gf 0 3 rfl, en, x_uc (k := 63) (k' := 0) (by decide), e92, n_get (by omega) (by omega), bI_1, bI_n1, x_add (a := (l : Int)) (by omega), show (l : Int) + 1 = ((l + 1 : Nat) : Int) by omega]
        refine ⟨fun h => absurd h (by omega), fun _ => ⟨fun y => ?_, fun y => ?_⟩⟩
        · rw [if_neg (by rw [y]; decide)] at ih
          exact ih M2 gf e92 hk
        · rw [if_pos y] at ih
          have hlt := cntB_lt (P := fun i => u.testBit i) y n (by omega)
          rw [hc] at hlt
          rw [x_add (by omega)]
          refine ⟨by omega, ih _ (fr_up (fr_up gf rfl) rfl) (by rw [x_us]; omega) (fun k hk2 => ?_)⟩
          rw [x_uc (by decide)]
          by_cases e : k = cntB (fun i => u.testBit i) l
          · subst e; rw [x_us, snP_at (by omega) y]
          · rw [x_uf (by omega)]; exact hk k (by omega)
    exact k60 n 0 _ (by omega) (fr_up fr_rf rfl) (by rw [x_us]; rfl) (fun k hk => absurd hk (by simp [cntB]))
  · rw [if_pos (fun x => e (by
      have : u >>> n = 0 := sr_0.mpr (by omega)
      omega))]
