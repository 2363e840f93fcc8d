/-! MATCH: the reference -/
abbrev wU4 : Nat → Int → Bool := wr [51] []
theorem s2_alone {D M : AM} {k : Int} (hI : Inv D) (hL : eqL D M) (hk : 0 ≤ k ∧ k < 192) : aCi s2_G 4 91 [aP 0, aI k] M (fun z M' => M' = M ∧ z = aloI D k) := by
  refine ⟨Nat.le_of_ble_eq_true rfl, fun d hd => ?_⟩
  refine s2_alone_0 (by omega) ?_
  have h1 := Inv_fa hI k
  rw [L_49 hL, x_div (by omega) (by omega) (by omega) (by omega), x_add (by omega)]
  exact ⟨by omega, by omega, _, rfl, rfl, rfl⟩
theorem s2_pairCost {D M : AM} {f g : Int} (hI : Inv D) (hL : eqL D M) (hf : 0 ≤ f ∧ f < 192) (hg : 0 ≤ g ∧ g < 192) : aCi s2_G 4 92 [aP 0, aI f, aI g] M (fun z M' => M' = M ∧ z = prcI D f g) := by
  refine ⟨Nat.le_of_ble_eq_true rfl, fun d hd => ?_⟩
  refine s2_pairCost_0 (by omega) ?_
  have h1 := Inv_fa hI f
  have h2 := Inv_fa hI g
  rw [L_48 hL, L_49 hL, L_50 hL, x_sub (a := D 49 f) (by omega), x_sub (a := 0) (by omega), show a_bl ((0 : Int) ≠ 0) = 0 from rfl, show a_bl ((1 : Int) ≠ 0) = 1 from rfl, show a_mul 7 0 = 0 from rfl, show a_mul 7 1 = 7 from rfl, show a_mul 3 0 = 0 from rfl, show a_mul 3 1 = 3 from rfl]
  have e0 : (if D 49 f - D 49 g < 0 then 0 - (D 49 f - D 49 g) else D 49 f - D 49 g) = (if D 49 f - D 49 g < 0 then -(D 49 f - D 49 g) else D 49 f - D 49 g) := by split <;> omega
  rw [e0]
  have hp : -1000 ≤ (if D 49 f - D 49 g < 0 then -(D 49 f - D 49 g) else D 49 f - D 49 g) ∧ (if D 49 f - D 49 g < 0 then -(D 49 f - D 49 g) else D 49 f - D 49 g) ≤ 1000 := by
    split <;> omega
  unfold prcI
  generalize (if D 49 f - D 49 g < 0 then -(D 49 f - D 49 g) else D 49 f - D 49 g) = A at hp ⊢
  rw [x_add (a := A) (b := 7) (by omega), x_add (a := A) (b := 0) (by omega), x_add (a := A + 7) (b := 3) (by omega), x_add (a := A + 7) (b := 0) (by omega), x_add (a := A + 0) (b := 3) (by omega), x_add (a := A + 0) (b := 0) (by omega)]
  (repeat' (with_reducible first | refine And.intro ?_ ?_ | intro _))
  all_goals (try omega)
  all_goals (refine ⟨_, rfl, rfl, ?_⟩; (repeat (first | rw [if_pos (by omega)] | rw [if_neg (by omega)])))
def TabR (D M : AM) (l : Int) (i : Nat) : Prop := ∀ v : Nat, v < 2 ^ nsN D l → M 51 (256 * (i : Int) + (v : Int)) = cst D l i v
theorem s2_findMatch {D M : AM} {l : Int} (hI : Inv D) (hL : eqL D M) (hl : 0 ≤ l ∧ l < D 0 3) : aCv s2_G 6 93 [aP 0, aI l] M (fun M' => fr wU4 M M' ∧ ∀ i, i ≤ osN D l → TabR D M' l i) := by
  refine ⟨Nat.le_of_ble_eq_true rfl, fun d hd => ?_⟩
  refine s2_findMatch_0 (by omega) ?_
  have hnl := Inv_nl hI
  obtain ⟨hn, hn8⟩ := nsN_e (l := l) hI
  obtain ⟨ho, ho8⟩ := osN_e (l := l) hI
  have h256 := p_le8 hn8
  have h12 : 0 ≤ l ∧ l < 12 := by omega
  have hL' : ∀ M1, fr wU4 M M1 → eqL D M1 := fun M1 g => eqL_fw hL g rfl
  have key2 : ∀ (i : Nat) (M1 : AM), i ≤ osN D l → fr wU4 M M1 → (∀ i', i ≤ i' → i' ≤ osN D l → TabR D M1 l i') → aE s2_G d 93 112 [] [some (aP 0), none, none, some (aI (nsN D l : Int)), some (aI (16 * l)), some (aI ((i : Int) - 1)), none, none, none, none] [] M1 (fun r M' => r = none ∧ fr wU4 M M' ∧ ∀ i, i ≤ osN D l → TabR D M' l i) := by
    intro i
    induction i with
    | zero =>
      intro M1 hi g hT
      refine s2_findMatch_112 (by omega) ?_
      exact ⟨fun _ => ⟨rfl, g, fun i' h' => hT i' (by omega) h'⟩, fun h => absurd h (by omega)⟩
    | succ i ih =>
      intro M1 hi g hT
      refine s2_findMatch_112 (by omega) ?_
      rw [show ((i + 1 : Nat) : Int) - 1 = (i : Int) by omega]
      refine ⟨fun h => absurd h (by omega), fun _ => ?_⟩
      have key3 : ∀ (m u : Nat) (M1 : AM), u + m = 2 ^ nsN D l → fr wU4 M M1 → (∀ i', i + 1 ≤ i' → i' ≤ osN D l → TabR D M1 l i') → (∀ v : Nat, v < u → M1 51 (256 * (i : Int) + (v : Int)) = cst D l i v) → aE s2_G d 93 120 [] [some (aP 0), none, none, some (aI (nsN D l : Int)), some (aI (16 * l)), some (aI (i : Int)), some (aI (u : Int)), none, none, none] [] M1 (fun r M' => r = none ∧ fr wU4 M M' ∧ ∀ i, i ≤ osN D l → TabR D M' l i) := by
        intro m
        induction m with
        | zero =>
          intro u M1 hu g hT hc
          refine s2_findMatch_120 (by omega) ?_
          rw [b_one (by omega), x_add (a := (i : Int)) (by omega), show (i : Int) + -1 = (i : Int) - 1 by omega]
          refine ⟨fun _ => ih M1 (by omega) g (fun i' h1 h2 => ?_), fun h => absurd h (by omega)⟩
          by_cases e : i' = i
          · subst e; exact fun v hv => hc v (by omega)
          · exact hT i' (by omega) h2
        | succ m ih3 =>
          intro u M1 hu g hT hc
          have ih3 := fun M2 => ih3 (u + 1) M2 (by omega)
          refine s2_findMatch_120 (by omega) ?_
          rw [b_one (by omega), x_add (a := (i : Int)) (b := 1) (by omega), show (i : Int) + 1 = ((i + 1 : Nat) : Int) by omega, x_mul (by omega), x_add (a := 256 * ((i + 1 : Nat) : Int)) (by omega), x_add (a := 16 * l) (by omega)]
          refine ⟨fun h => absurd h (by omega), fun _ => ?_⟩
          refine aKi_of (s2_alone hI (hL' M1 g) (by omega)) (by omega) (fun z M2 q => ?_)
          obtain ⟨rfl, rfl⟩ := q
          have ha := aloI_bd hI (16 * l + (i : Int))
          have hc0 := cst_bd (l := l) hI (i + 1) u
          rw [hT (i + 1) (by omega) (by omega) u (by omega), x_add (by omega)]
          refine ⟨by omega, ?_⟩
          have hlb : ∀ k, 0 ≤ leaF u (fun j => prcI D (16 * l + (i : Int)) (16 * l + 8 + (j : Int))) (cst D l (i + 1)) (aloI D (16 * l + (i : Int)) + cst D l (i + 1) u) k ∧ leaF u (fun j => prcI D (16 * l + (i : Int)) (16 * l + 8 + (j : Int))) (cst D l (i + 1)) (aloI D (16 * l + (i : Int)) + cst D l (i + 1) u) k ≤ 3000 := fun k => leaF_bd ⟨by omega, by omega⟩ (fun j => (prcI_bd hI _ _).1) (fun v => (cst_bd hI _ v).1) k
          have key5 : ∀ (m k : Nat), k + m = nsN D l → aE s2_G d 93 159 [] [some (aP 0), none, none, some (aI (nsN D l : Int)), some (aI (16 * l)), some (aI (i : Int)), some (aI (u : Int)), some (aI (leaF u (fun j => prcI D (16 * l + (i : Int)) (16 * l + 8 + (j : Int))) (cst D l (i + 1)) (aloI D (16 * l + (i : Int)) + cst D l (i + 1) u) k)), some (aI (k : Int)), none] [] M2 (fun r M' => r = none ∧ fr wU4 M M' ∧ ∀ i, i ≤ osN D l → TabR D M' l i) := by
            intro m
            induction m with
            | zero =>
              intro k hk
              refine s2_findMatch_159 (by omega) ?_
              rw [x_mul (a := 256) (b := (i : Int)) (by omega), x_add (a := 256 * (i : Int)) (by omega), x_add (a := (u : Int)) (by omega), show (u : Int) + 1 = ((u + 1 : Nat) : Int) by omega]
              refine ⟨fun _ => ⟨by omega, ih3 _ (fr_up g rfl) (fun i' h1 h2 v hv => ?_) (fun v hv => ?_)⟩, fun h => absurd h (by omega)⟩
              · rw [x_uf (by omega)]; exact hT i' h1 h2 v hv
              · by_cases e : v = u
                · subst e; rw [x_us, cst_lt (i := i) (show i < osN D l by omega), show k = nsN D l by omega]
                · rw [x_uf (by omega)]; exact hc v (by omega)
            | succ m ih5 =>
              intro k hk
              have ih5 := ih5 (k + 1) (by omega)
              have hk0 := hlb k
              refine s2_findMatch_159 (by omega) ?_
              rw [n_get (by omega) (by omega), bI_1, bI_n1, x_add (a := (k : Int)) (by omega), show (k : Int) + 1 = ((k + 1 : Nat) : Int) by omega, x_add (a := 16 * l) (b := (i : Int)) (by omega), x_add (a := 16 * l) (b := 8) (by omega), x_add (a := 16 * l + 8) (by omega), x_add (a := (i : Int)) (b := 1) (by omega), show (i : Int) + 1 = ((i + 1 : Nat) : Int) by omega, x_mul (a := 256) (b := ((i + 1 : Nat) : Int)) (by omega)]
              refine ⟨fun h => absurd h (by omega), fun _ => ⟨fun h => ?_, fun h => ⟨fun _ => ?_, fun h => absurd h (by omega)⟩⟩⟩
              · refine aKi_of (s2_pairCost hI (hL' M2 g) (by omega) (by omega)) (by omega) (fun z M3 q => ?_)
                obtain ⟨e1, rfl⟩ := q
                have hp := prcI_bd hI (16 * l + (i : Int)) (16 * l + 8 + (k : Int))
                have hc2 := cst_bd (l := l) hI (i + 1) (u ||| 2 ^ k)
                have hlt := n_ins_lt (show u < 2 ^ nsN D l by omega) (show k < nsN D l by omega)
                rw [e1, n_ins (by omega) (by omega), x_add (a := 256 * ((i + 1 : Nat) : Int)) (by omega), hT (i + 1) (by omega) (by omega) _ hlt, x_add (by omega)]
                rw [leaF_succ] at ih5
                rw [h, if_neg (by decide)] at ih5
                refine ⟨by omega, fun q => ?_, fun q => ?_⟩
                · rw [if_pos q] at ih5; exact ih5
                · rw [if_neg (by omega)] at ih5; exact ih5
              · rw [leaF_succ] at ih5
                rw [if_pos h] at ih5
                exact ih5
          exact key5 (nsN D l) 0 (by omega)
      exact key3 (2 ^ nsN D l) 0 M1 (by omega) g hT (fun v hv => absurd hv (by omega))
  have key1 : ∀ (m u : Nat) (M1 : AM), u + m = 2 ^ nsN D l → fr wU4 M M1 → (∀ v : Nat, v < u → M1 51 (256 * (osN D l : Int) + (v : Int)) = cst D l (osN D l) v) → aE s2_G d 93 29 [] [some (aP 0), none, some (aI (osN D l : Int)), some (aI (nsN D l : Int)), some (aI (16 * l)), some (aI (u : Int)), none, none, none, none] [] M1 (fun r M' => r = none ∧ fr wU4 M M' ∧ ∀ i, i ≤ osN D l → TabR D M' l i) := by
    intro m
    induction m with
    | zero =>
      intro u M1 hu g hT
      refine s2_findMatch_29 (by omega) ?_
      rw [b_one (by omega), x_sub (by omega)]
      refine ⟨fun _ => key2 (osN D l) M1 (Nat.le_refl _) g (fun i' h1 h2 v hv => ?_), fun h => absurd h (by omega)⟩
      rw [show i' = osN D l by omega]
      exact hT v (by omega)
    | succ m ih =>
      intro u M1 hu g hT
      have ih := fun M2 => ih (u + 1) M2 (by omega)
      refine s2_findMatch_29 (by omega) ?_
      rw [b_one (by omega)]
      refine ⟨fun h => absurd h (by omega), fun _ => ?_⟩
      have key6 : ∀ (m k : Nat), k + m = nsN D l → aE s2_G d 93 43 [] [some (aP 0), none, some (aI (osN D l : Int)), some (aI (nsN D l : Int)), some (aI (16 * l)), some (aI (u : Int)), some (aI (behF (fun j => aloI D (16 * l + 8 + (j : Int))) u k)), some (aI (k : Int)), none, none] [] M1 (fun r M' => r = none ∧ fr wU4 M M' ∧ ∀ i, i ≤ osN D l → TabR D M' l i) := by
        intro m
        induction m with
        | zero =>
          intro k hk
          refine s2_findMatch_43 (by omega) ?_
          rw [x_mul (a := 256) (by omega), x_add (a := 256 * (osN D l : Int)) (by omega), x_add (a := (u : Int)) (by omega), show (u : Int) + 1 = ((u + 1 : Nat) : Int) by omega]
          refine ⟨fun _ => ⟨by omega, ih _ (fr_up g rfl) (fun v hv => ?_)⟩, fun h => absurd h (by omega)⟩
          by_cases e : v = u
          · subst e; rw [x_us, cst_os, show k = nsN D l by omega]
          · rw [x_uf (by omega)]; exact hT v (by omega)
        | succ m ih6 =>
          intro k hk
          have ih6 := ih6 (k + 1) (by omega)
          have hb := behF_bd (a := fun j : Nat => aloI D (16 * l + 8 + (j : Int))) (u := u) (fun j => by have := aloI_bd hI (16 * l + 8 + (j : Int)); exact ⟨by omega, by omega⟩) k
          refine s2_findMatch_43 (by omega) ?_
          rw [n_get (by omega) (by omega), bI_0, bI_n0, x_add (a := (k : Int)) (by omega), show (k : Int) + 1 = ((k + 1 : Nat) : Int) by omega, x_add (a := 16 * l) (b := 8) (by omega), x_add (a := 16 * l + 8) (by omega)]
          refine ⟨fun h => absurd h (by omega), fun _ => ⟨fun h => ?_, fun h => ?_⟩⟩
          · rw [x_add (b := 0) (by omega)]
            rw [behF_succ] at ih6
            rw [if_pos h] at ih6
            exact ih6
          · refine aKi_of (s2_alone hI (hL' M1 g) (by omega)) (by omega) (fun z M2 q => ?_)
            obtain ⟨e1, rfl⟩ := q
            have ha := aloI_bd hI (16 * l + 8 + (k : Int))
            rw [e1, x_add (by omega)]
            rw [behF_succ] at ih6
            rw [h, if_neg (by decide)] at ih6
            exact ih6
      exact key6 (nsN D l) 0 (by omega)
  rw [x_mul (a := 2) (by omega), x_add (a := 2 * l) (by omega), x_mul (a := 16) (by omega), L_47 hL, ho, hn]
  exact ⟨by omega, by omega, key1 (2 ^ nsN D l) 0 M (by omega) fr_rf (fun v hv => absurd hv (by omega))⟩
theorem c2_match {M : AM} {l i : Int} (hI : Inv M) : aCi s2_G 10 94 [aP 0, aI l, aI i] M (fun z M' => z = f_match M l i ∧ fr wU4 M M') := by
  refine ⟨Nat.le_of_ble_eq_true rfl, fun d hd => ?_⟩
  refine s2_match_0 (by omega) ?_
  have hnl := Inv_nl hI
  obtain ⟨ho, ho8⟩ := osN_e (l := l) hI
  obtain ⟨hn, hn8⟩ := nsN_e (l := l) hI
  have h256 := p_le8 hn8
  rw [x_sub (a := M 0 3) (by omega)]
  simp only [a_bl_n, a_bl_z, Decidable.not_not]
  unfold f_match
  refine ⟨fun h => ?_, fun h => ⟨_, rfl, by rw [if_neg (by omega)], fr_rf⟩⟩
  rw [if_pos (by omega)]
  refine aKv_of (s2_findMatch hI eqL_rf (by omega)) (by omega) (fun M1 q => ?_)
  obtain ⟨g, hT⟩ := q
  have hL1 : eqL M M1 := eqL_fw eqL_rf g rfl
  have e47 : M1 47 = M 47 := L_47 hL1
  refine ⟨fun e => ?_, fun e => ?_⟩
  · rw [if_neg e, x_mul (a := 2) (by omega), x_add (a := 2 * l) (by omega), e47, ho, hn, x_sub (by omega)]
    refine ⟨by omega, fun q => ⟨by omega, ?_⟩, fun q => ⟨_, rfl, by rw [if_neg (by omega)], g⟩⟩
    rw [if_pos (by omega)]
    obtain ⟨i, rfl⟩ : ∃ n : Nat, i = n := ⟨i.toNat, by omega⟩
    rw [show ((i : Int)).toNat = i by omega, x_mul (a := 16) (by omega)]
    have key : ∀ (m k : Nat) (got : Int), k + m = i + 1 → (k = i + 1 → got = parN M l i) → aE s2_G d 94 76 [] [some (aP 0), none, some (aI (i : Int)), some (aI (16 * l)), some (aI (nsN M l : Int)), some (aI (usdN M l k : Int)), some (aI got), some (aI (k : Int)), none] [] M1 (fun r M' => ∃ z, r = some (aI z) ∧ z = parN M l i ∧ fr wU4 M M') := by
      intro m
      induction m with
      | zero =>
        intro k got hk hg
        refine s2_match_76 (by omega) ?_
        exact ⟨fun _ => ⟨_, rfl, hg (by omega), g⟩, fun h => absurd h (by omega)⟩
      | succ m ih =>
        intro k got hk hg
        have ih := fun got => ih (k + 1) got (by omega)
        have hu := usdN_bd (D := M) (l := l) k
        refine s2_match_76 (by omega) ?_
        refine ⟨fun h => absurd h (by omega), fun _ => ?_⟩
        have hpk : k + 1 = i + 1 → fpN M l k (usdN M l k) = parN M l i := fun e => by rw [show i = k by omega]; rfl
        have key7 : ∀ (m j : Nat), j + m = nsN M l → (∀ j', j' < j → fpB M l k (usdN M l k) j' = false) → aE s2_G d 94 85 [] [some (aP 0), none, some (aI (i : Int)), some (aI (16 * l)), some (aI (nsN M l : Int)), some (aI (usdN M l k : Int)), none, some (aI (k : Int)), some (aI (j : Int))] [] M1 (fun r M' => ∃ z, r = some (aI z) ∧ z = parN M l i ∧ fr wU4 M M') := by
          intro m
          induction m with
          | zero =>
            intro j hj hno
            have e0 : fpN M l k (usdN M l k) = -1 := frsF_no _ (by rw [show nsN M l = j by omega]; exact hno)
            have e2 : usdN M l (k + 1) = usdN M l k := by
              show (if fpN M l k (usdN M l k) = -1 then usdN M l k else usdN M l k ||| 2 ^ (fpN M l k (usdN M l k)).toNat) = _
              rw [if_pos e0]
            have e3 : a_or (usdN M l k : Int) 0 = (usdN M l k : Int) := by
              have := b_or (n := usdN M l k) (m := 0) (by omega) (by omega)
              rw [Nat.or_zero] at this
              exact this
            have ih := ih (-1) (fun e => by rw [← hpk e, e0])
            rw [e2] at ih
            refine s2_match_85 (by omega) ?_
            rw [e3, x_add (a := (k : Int)) (by omega), show (k : Int) + 1 = ((k + 1 : Nat) : Int) by omega]
            exact ⟨fun _ => ⟨fun _ => ⟨fun _ => ih, fun h => absurd h (by omega)⟩, fun h => absurd h (by omega)⟩, fun h => absurd h (by omega)⟩
          | succ m ih7 =>
            intro j hj hno
            have ih7 := ih7 (j + 1) (by omega)
            have nxt : fpB M l k (usdN M l k) j = false → ∀ j', j' < j + 1 → fpB M l k (usdN M l k) j' = false := fun q j' hj => by
              by_cases e : j' = j
              · rw [e]; exact q
              · exact hno j' (by omega)
            refine s2_match_85 (by omega) ?_
            rw [n_get (by omega) (by omega), bI_1, bI_n1, x_add (a := (j : Int)) (by omega), show (j : Int) + 1 = ((j + 1 : Nat) : Int) by omega, x_add (a := (k : Int)) (by omega), show (k : Int) + 1 = ((k + 1 : Nat) : Int) by omega, x_add (a := 16 * l) (b := (k : Int)) (by omega), x_add (a := 16 * l) (b := 8) (by omega), x_add (a := 16 * l + 8) (by omega), x_mul (a := 256) (b := ((k + 1 : Nat) : Int)) (by omega), x_mul (a := 256) (b := (k : Int)) (by omega), n_ins (by omega) (by omega), x_add (a := 256 * (k : Int)) (by omega)]
            refine ⟨fun h => absurd h (by omega), fun _ => ⟨fun h => ih7 (nxt ?_), fun h => ?_⟩⟩
            · unfold fpB; rw [h]; rfl
            · refine aKi_of (s2_pairCost hI hL1 (by omega) (by omega)) (by omega) (fun z M2 q => ?_)
              obtain ⟨e1, rfl⟩ := q
              have hp := prcI_bd hI (16 * l + (k : Int)) (16 * l + 8 + (j : Int))
              have hc2 := cst_bd (l := l) hI (k + 1) (usdN M l k ||| 2 ^ j)
              have hlt := n_ins_lt hu.1 (show j < nsN M l by omega)
              rw [e1, x_add (a := 256 * ((k + 1 : Nat) : Int)) (by omega), hT (k + 1) (by omega) _ hlt, hT k (by omega) _ hu.1, x_add (by omega)]
              refine ⟨by omega, by omega, fun q => ?_, fun q => ih7 (nxt ?_)⟩
              · have e0 : fpN M l k (usdN M l k) = j := frsF_at hno (by unfold fpB; rw [h, decide_eq_true q]; rfl) _ (by omega)
                have e2 : usdN M l (k + 1) = usdN M l k ||| 2 ^ j := by
                  show (if fpN M l k (usdN M l k) = -1 then usdN M l k else usdN M l k ||| 2 ^ (fpN M l k (usdN M l k)).toNat) = _
                  rw [e0, if_neg (by omega)]
                  rfl
                have ih := ih (j : Int) (fun e => by rw [← hpk e, e0])
                rw [e2] at ih
                exact ⟨fun h => absurd h (by omega), fun _ => ⟨fun h => absurd h (by omega), fun _ => ih⟩⟩
              · unfold fpB; rw [h, decide_eq_false q]; rfl
        exact key7 (nsN M l) 0 (by omega) (fun j' hj => absurd hj (by omega))
    exact key (i + 1) 0 (-1) (by omega) (fun h => absurd h (by omega))
  · rw [if_pos e]
    have := hT 0 (by omega) 0 (Nat.two_pow_pos _)
    rw [show 256 * ((0 : Nat) : Int) + ((0 : Nat) : Int) = 0 from rfl] at this
    rw [this]
    exact ⟨by omega, _, rfl, rfl, g⟩
