/-! MATCH: the class's call -/
def TabM (D M : AM) (l : Int) (i : Nat) : Prop := ∀ v : Nat, v < 2 ^ nsN D l → onesN v ≤ i → M 170 ((i : Int) * 256 + (v : Int)) = cst D l i v
theorem s1_Terriers_pair {D M : AM} {l : Int} (hI : Inv D) (hF : F1 D M) (hl : 0 ≤ l ∧ l < D 0 3) (hP : PairC D M) : aCv s1_G 8 95 [aP 93, aI l] M (fun M' => fr wU3 M M' ∧ M' 93 6 = l ∧ PairL D M' l) := by
  refine ⟨Nat.le_of_ble_eq_true rfl, fun d hd => ?_⟩
  refine s1_Terriers_pair_0 (by omega) ?_
  have hnl := Inv_nl hI
  obtain ⟨hn, hn8⟩ := nsN_e (l := l) hI
  obtain ⟨ho, ho8⟩ := osN_e (l := l) hI
  have h256 := p_le8 hn8
  have h12 : 0 ≤ l ∧ l < 12 := by omega
  have hF' : ∀ M1, fr wU3 M M1 → F1 D M1 := fun M1 g => F1_fw hF (fr_rf (W := wr [] [])) g rfl
  have key4 : ∀ (m k : Nat) (M1 : AM) (x2 : Option AV), k + m = osN D l → fr wU3 M M1 → M1 93 6 = l → (∀ i, i ≤ osN D l → TabM D M1 l i) → (∀ i : Nat, i < k → M1 180 (i : Int) = parN D l i) → aE s1_G d 95 137 [] [some (aP 93), some (aI l), some (aI (osN D l : Int)), none, some (aI (usdN D l k : Int)), some (aI (k : Int))] [] M1 (fun r M' => r = none ∧ fr wU3 M M' ∧ M' 93 6 = l ∧ PairL D M' l) := by
    intro m
    induction m with
    | zero =>
      intro k M1 _ hk g h6 hT hp
      refine s1_Terriers_pair_137 (by omega) ?_
      refine ⟨fun _ => ⟨rfl, g, h6, hl.1, hl.2, ?_, fun i hi => hp i (by omega)⟩, fun h => absurd h (by omega)⟩
      have := hT 0 (by omega) 0 (Nat.two_pow_pos _) (by rw [onesN_0]; exact Nat.le_refl 0)
      rw [show ((0 : Nat) : Int) * 256 + ((0 : Nat) : Int) = 0 from rfl] at this
      exact this
    | succ m ih =>
      intro k M1 x2 hk g h6 hT hp
      have ih := fun M2 => ih (k + 1) M2 x2 (by omega)
      refine s1_Terriers_pair_137 (by omega) ?_
      refine ⟨fun h => absurd h (by omega), fun _ => ?_⟩
      have hu := usdN_bd (D := D) (l := l) k
      refine aKi_of (s1_Terriers_firstPartner hI (hF' M1 g) h12 (by omega) hu.1 hu.2 (hT (k + 1) (by omega)) (hT k (by omega) _ hu.1 hu.2)) (by omega) (fun z M2 q => ?_)
      obtain ⟨rfl, rfl⟩ := q
      have g2 : fr wU3 M (am_up M2 180 (k : Int) (fpN D l k (usdN D l k))) := fr_up g rfl
      have h62 : am_up M2 180 (k : Int) (fpN D l k (usdN D l k)) 93 6 = l := by rw [x_uc (by decide)]; exact h6
      have hT2 : ∀ i, i ≤ osN D l → TabM D (am_up M2 180 (k : Int) (fpN D l k (usdN D l k))) l i := fun i hi v h1 h2 => by rw [x_uc (by decide)]; exact hT i hi v h1 h2
      have hp2 : ∀ i : Nat, i < k + 1 → am_up M2 180 (k : Int) (fpN D l k (usdN D l k)) 180 (i : Int) = parN D l i := fun i hi => by
        by_cases e : i = k
        · subst e; rw [x_us]; rfl
        · rw [x_uf (by omega)]; exact hp i (by omega)
      have ih := ih _ g2 h62 hT2 hp2
      rw [x_us, x_add (a := (k : Int)) (by omega), show (k : Int) + 1 = ((k + 1 : Nat) : Int) by omega]
      refine ⟨by omega, by omega, fun q => ⟨by omega, ?_⟩, fun q => ?_⟩
      · rcases frsF_rg (P := fpB D l k (usdN D l k)) (nsN D l) with e | ⟨j, h1, h2, h3⟩
        · exact absurd e q
        · have e : fpN D l k (usdN D l k) = j := h2
          rw [e, n_ins (by omega) (by omega), ← e]
          have e2 : usdN D l (k + 1) = usdN D l k ||| 2 ^ j := by
            show (if fpN D l k (usdN D l k) = -1 then usdN D l k else usdN D l k ||| 2 ^ (fpN D l k (usdN D l k)).toNat) = _
            rw [if_neg q, e]
            rfl
          rw [e2] at ih
          exact ih
      · have e2 : usdN D l (k + 1) = usdN D l k := by
          show (if fpN D l k (usdN D l k) = -1 then usdN D l k else usdN D l k ||| 2 ^ (fpN D l k (usdN D l k)).toNat) = _
          rw [if_pos q]
        rw [e2] at ih
        have e3 : a_or (usdN D l k : Int) 0 = (usdN D l k : Int) := by
          have := b_or (n := usdN D l k) (m := 0) (by omega) (by omega)
          rw [Nat.or_zero] at this
          exact this
        rw [e3]
        exact ih
  have key2 : ∀ (i : Nat) (M1 : AM), i ≤ osN D l → fr wU3 M M1 → M1 93 6 = l → (∀ i', i ≤ i' → i' ≤ osN D l → TabM D M1 l i') → aE s1_G d 95 76 [] [some (aP 93), some (aI l), some (aI (osN D l : Int)), some (aI ((2 ^ nsN D l : Nat) : Int)), some (aI ((i : Int) - 1)), none] [] M1 (fun r M' => r = none ∧ fr wU3 M M' ∧ M' 93 6 = l ∧ PairL D M' l) := by
    intro i
    induction i with
    | zero =>
      intro M1 hi g h6 hT
      refine s1_Terriers_pair_76 (by omega) ?_
      exact ⟨fun _ => key4 (osN D l) 0 M1 none (by omega) g h6 (fun i' h' => hT i' (by omega) h') (fun i' h' => absurd h' (by omega)), fun h => absurd h (by omega)⟩
    | succ i ih =>
      intro M1 hi g h6 hT
      refine s1_Terriers_pair_76 (by omega) ?_
      rw [show ((i + 1 : Nat) : Int) - 1 = (i : Int) by omega]
      refine ⟨fun h => absurd h (by omega), fun _ => ?_⟩
      have key3 : ∀ (m u : Nat) (M1 : AM), u + m = 2 ^ nsN D l → fr wU3 M M1 → M1 93 6 = l → (∀ i', i + 1 ≤ i' → i' ≤ osN D l → TabM D M1 l i') → (∀ v : Nat, v < u → onesN v ≤ i → M1 170 ((i : Int) * 256 + (v : Int)) = cst D l i v) → aE s1_G d 95 84 [] [some (aP 93), some (aI l), some (aI (osN D l : Int)), some (aI ((2 ^ nsN D l : Nat) : Int)), some (aI (i : Int)), some (aI (u : Int))] [] M1 (fun r M' => r = none ∧ fr wU3 M M' ∧ M' 93 6 = l ∧ PairL D M' l) := by
        intro m
        induction m with
        | zero =>
          intro u M1 hu g h6 hT hc
          refine s1_Terriers_pair_84 (by omega) ?_
          rw [x_add (a := (i : Int)) (by omega), show (i : Int) + -1 = (i : Int) - 1 by omega]
          refine ⟨fun _ => ih M1 (by omega) g h6 (fun i' h1 h2 => ?_), fun h => absurd h (by omega)⟩
          by_cases e : i' = i
          · subst e; exact fun v hv hv2 => hc v (by omega) hv2
          · exact hT i' (by omega) h2
        | succ m ih3 =>
          intro u M1 hu g h6 hT hc
          have ih3 := fun M2 => ih3 (u + 1) M2 (by omega)
          refine s1_Terriers_pair_84 (by omega) ?_
          rw [x_add (a := (u : Int)) (by omega), show (u : Int) + 1 = ((u + 1 : Nat) : Int) by omega]
          refine ⟨fun h => absurd h (by omega), fun _ => ?_⟩
          refine aKi_of (s1_Integer_bitCount (by omega)) (by omega) (fun z M2 q => ?_)
          obtain ⟨rfl, rfl⟩ := q
          refine ⟨fun h => ih3 M2 g h6 hT (fun v hv hv2 => ?_), fun h => ⟨by omega, ?_⟩⟩
          · by_cases e : v = u
            · subst e; exact absurd hv2 (by omega)
            · exact hc v (by omega) hv2
          · refine aKi_of (s1_Terriers_leastFrom (u := u) hI (hF' M2 g) h12 (by omega) (by omega) (by omega) (hT (i + 1) (by omega) (by omega))) (by omega) (fun z M3 q => ?_)
            obtain ⟨rfl, rfl⟩ := q
            refine ⟨by omega, ih3 _ (fr_up g rfl) (by rw [x_uc (by decide)]; exact h6) (fun i' h1 h2 v hv hv2 => ?_) (fun v hv hv2 => ?_)⟩
            · rw [x_uf (by omega)]; exact hT i' h1 h2 v hv hv2
            · by_cases e : v = u
              · subst e; rw [x_us]
              · rw [x_uf (by omega)]; exact hc v (by omega) hv2
      exact key3 (2 ^ nsN D l) 0 M1 (by omega) g h6 hT (fun v hv => absurd hv (by omega))
  have key1 : ∀ (m u : Nat) (M1 : AM), u + m = 2 ^ nsN D l → fr wU3 M M1 → M1 93 6 = l → (∀ v : Nat, v < u → M1 170 ((osN D l : Int) * 256 + (v : Int)) = cst D l (osN D l) v) → aE s1_G d 95 39 [] [some (aP 93), some (aI l), some (aI (osN D l : Int)), some (aI ((2 ^ nsN D l : Nat) : Int)), some (aI (u : Int)), none] [] M1 (fun r M' => r = none ∧ fr wU3 M M' ∧ M' 93 6 = l ∧ PairL D M' l) := by
    intro m
    induction m with
    | zero =>
      intro u M1 hu g h6 hT
      refine s1_Terriers_pair_39 (by omega) ?_
      rw [x_sub (by omega)]
      refine ⟨fun _ => key2 (osN D l) M1 (Nat.le_refl _) g h6 (fun i' h1 h2 v hv hv2 => ?_), fun h => absurd h (by omega)⟩
      rw [show i' = osN D l by omega]
      exact hT v (by omega)
    | succ m ih =>
      intro u M1 hu g h6 hT
      refine s1_Terriers_pair_39 (by omega) ?_
      rw [x_add (a := (u : Int)) (by omega), show (u : Int) + 1 = ((u + 1 : Nat) : Int) by omega, x_mul (a := 2) (by omega), x_add (a := 2 * l) (by omega)]
      refine ⟨fun h => absurd h (by omega), fun _ => ⟨by omega, ?_⟩⟩
      refine aKi_of (s1_Terriers_aloneBehind (u := u) hI (hF' M1 g) h12 (by omega)) (by omega) (fun z M2 q => ?_)
      obtain ⟨rfl, rfl⟩ := q
      refine ⟨by omega, ih (u + 1) _ (by omega) (fr_up g rfl) (by rw [x_uc (by decide)]; exact h6) (fun v hv => ?_)⟩
      by_cases e : v = u
      · subst e; rw [x_us, cst_os]
      · rw [x_uf (by omega)]; exact hT v (by omega)
  have g0 : fr wU3 M (am_up M 93 6 l) := fr_up fr_rf rfl
  rw [x_mul (a := 2) (by omega), x_add (a := 2 * l) (by omega), F1_fn (hF' _ g0), ho, hn, b_one (by omega)]
  refine ⟨fun _ => ⟨by omega, by omega, key1 (2 ^ nsN D l) 0 _ (by omega) g0 x_us (fun v hv => absurd hv (by omega))⟩, fun h => ⟨rfl, fr_rf, h, ?_⟩⟩
  rcases hP with e | e
  · omega
  · rw [h] at e; exact e
theorem c1_match {D M : AM} {l i : Int} (hI : Inv D) (hB : B1 D M) (hP : PairC D M) : aCi s1_G 10 135 [aP 0, aI l, aI i] M (fun z M' => z = f_match D l i ∧ fr wU3 M M' ∧ PairC D M') := by
  refine ⟨Nat.le_of_ble_eq_true rfl, fun d hd => ?_⟩
  refine s1_match_0 (by omega) ?_
  have hnl := Inv_nl hI
  obtain ⟨ho, ho8⟩ := osN_e (l := l) hI
  rw [B1_nl hB, x_sub (a := D 0 3) (by omega)]
  simp only [a_bl_n, a_bl_z]
  unfold f_match
  refine ⟨fun h => ?_, fun h => ⟨_, rfl, by rw [if_neg (by omega)], fr_rf, hP⟩⟩
  rw [if_pos (by omega)]
  refine aKv_of (s1_Terriers_pair hI (B1_F hB) (by omega) hP) (by omega) (fun M1 q => ?_)
  obtain ⟨g, h6, hL⟩ := q
  have hPC : PairC D M1 := Or.inr (by rw [h6]; exact hL)
  have hF1 : F1 D M1 := F1_fw (B1_F hB) (fr_rf (W := wr [] [])) g rfl
  refine ⟨fun e => ?_, fun e => ?_⟩
  · rw [if_neg e]
    have hpar : aCi s1_G 4 94 [aP 93, aI l, aI i] M1 (fun z M' => M' = M1 ∧ z = if 0 ≤ i ∧ i < D 47 (2 * l) then parN D l i.toNat else -1) := by
      refine ⟨Nat.le_of_ble_eq_true rfl, fun d hd => ?_⟩
      refine s1_Terriers_partner_0 (by omega) ?_
      rw [x_mul (a := 2) (by omega), F1_fn hF1, ho, x_sub (by omega)]
      simp only [a_bl_n, a_bl_z]
      refine ⟨by omega, fun q => ⟨_, rfl, by trivial, by rw [if_neg (by omega)]⟩, fun q => ⟨by omega, _, rfl, by trivial, ?_⟩⟩
      rw [if_pos (by omega)]
      have := hL.2.2.2 i.toNat (by omega)
      rw [show ((i.toNat : Nat) : Int) = i by omega] at this
      exact this
    refine aKi_of hpar (by omega) (fun z M2 q => ?_)
    obtain ⟨rfl, rfl⟩ := q
    exact ⟨_, rfl, rfl, g, hPC⟩
  · rw [if_pos e]
    have hlc : aCi s1_G 4 93 [aP 93] M1 (fun z M' => M' = M1 ∧ z = cst D l 0 0) := by
      refine ⟨Nat.le_of_ble_eq_true rfl, fun d hd => ?_⟩
      refine s1_Terriers_leastCost_0 (by omega) ?_
      exact ⟨by omega, by omega, _, rfl, rfl, hL.2.2.1⟩
    refine aKi_of hlc (by omega) (fun z M2 q => ?_)
    obtain ⟨rfl, rfl⟩ := q
    exact ⟨_, rfl, rfl, g, hPC⟩
