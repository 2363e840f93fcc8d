/-! THE STORY in the second system: bars, patrons, lapses -/
theorem eqL_K {D M : AM} {w i wl wp wn : Int} {ph : Int → Int} {s : Sg} {day : Int} (hT : T2 D w s i wl wp wn ph M) {M' : AM} (g : fr wK M M') : T2 D w s i wl wp wn ph M' := T2_q hT (fr_mo g rfl)
theorem s2_bf_in {D M : AM} {Q : Option AV → AM → Prop} {d : Nat} {w i wl wp wn p l day j x : Int} {ph : Int → Int} {s : Sg} (hd : 9 ≤ d) (hI : Inv D) (hS : SI D i s) (hl : 0 ≤ l ∧ l < D 0 3) (hday : 0 ≤ day ∧ day ≤ 30000) (hj : 0 ≤ j ∧ j < D 0 18) (hx : 0 ≤ x ∧ x < 10)
    (K1 : ∀ z M', fr (wr [42] [(0, 66)]) M M' → brF D (cmpv (factS D (bk D w) s p l day)) j 0 (D 15 j).toNat = some z → Q (some (aI z)) M')
    (K2 : ∀ M', fr (wr [42] [(0, 66)]) M M' → brF D (cmpv (factS D (bk D w) s p l day)) j 0 (D 15 j).toNat = none → aE s2_G d 62 8 [] [some (aP 0), some (aI p), some (aI l), some (aI day), some (aI (x + 1)), none, none, none] [] M' Q) :
    ∀ (m n : Nat) (M1 : AM), (n : Int) + m = D 15 j → fr (wr [42] [(0, 66)]) M M1 → T2 D w s i wl wp wn ph M1 → brF D (cmpv (factS D (bk D w) s p l day)) j 0 (D 15 j).toNat = brF D (cmpv (factS D (bk D w) s p l day)) j n m → aE s2_G d 62 29 [] [some (aP 0), some (aI p), some (aI l), some (aI day), some (aI x), some (aI j), some (aI n), none] [] M1 Q
  | 0, n, M1, hm, hf, hT, he => by
    have hn := Inv_cn hI
    refine s2_barFor_29 (by omega) ?_
    rw [L_15 hT.1, x_add (a := x) (by omega)]
    exact ⟨by omega, fun _ => K2 M1 hf he, fun h => absurd h (by omega)⟩
  | m + 1, n, M1, hm, hf, hT, he => by
    have hn := Inv_cn hI
    have hcl := Inv_cl hI j hj.1 hj.2
    have hok := Inv_cc hI j hj.1 hj.2 n (by omega) (by omega)
    have ih := s2_bf_in (w := w) (wl := wl) (wp := wp) (wn := wn) (ph := ph) hd hI hS hl hday hj hx K1 K2 m (n + 1)
    rw [show brF D (cmpv (factS D (bk D w) s p l day)) j n (m + 1) = if brC D (cmpv (factS D (bk D w) s p l day)) j (12 * j + n) then some (100 * j + n) else brF D (cmpv (factS D (bk D w) s p l day)) j (n + 1) m from rfl] at he
    refine s2_barFor_29 (by omega) ?_
    rw [L_15 hT.1, L_16 hT.1, L_19 hT.1, L_20 hT.1, x_add (a := x) (by omega), x_mul (a := 12) (by omega), x_add (a := 12 * j) (by omega), x_add (a := (n : Int)) (by omega), x_mul (a := 100) (by omega), x_add (a := 100 * j) (by omega)]
    rw [show (n : Int) + 1 = ((n + 1 : Nat) : Int) by omega]
    have hrow : 0 ≤ 12 * j + (n : Int) ∧ 12 * j + (n : Int) < 120 := by omega
    refine ⟨by omega, fun h => absurd h (by omega), fun _ => ⟨hrow, fun hk => ?_, fun hk => ⟨hrow, hrow, ?_⟩⟩⟩
    · have e : brC D (cmpv (factS D (bk D w) s p l day)) j (12 * j + n) = false := by
        unfold brC
        rw [show decide (D 16 (12 * j + (n : Int)) = 1) = false by simp; omega]
        rfl
      rw [e, if_neg (by decide)] at he
      exact ih M1 (by omega) hf hT he
    · unfold clOk at hok
      rcases hok with ⟨a, _⟩ | ⟨a, _⟩ | ⟨_, r, t1, t2⟩
      · omega
      · omega
      · refine aKi_of (s2_isMet (j := j) (p := p) hI hS hT (by omega) (by omega) t1 hl hday) (by omega) (fun z M2 q => ?_)
        obtain ⟨f2, rfl⟩ := q
        have hT2 : T2 D w s i wl wp wn ph M2 := T2_q hT (fr_mo f2 rfl)
        rw [L_21 hT2.1, L_20 hT2.1]
        cases e1 : metS D j (D 19 (12 * j + n)) (D 20 (12 * j + n)) (cmpv (factS D (bk D w) s p l day))
        · refine ⟨fun _ => ?_, fun h => absurd rfl h⟩
          have e : brC D (cmpv (factS D (bk D w) s p l day)) j (12 * j + n) = false := by
            unfold brC
            rw [e1, Bool.and_false, Bool.false_and]
          rw [e, if_neg (by decide)] at he
          exact ih M2 (by omega) (fr_tr hf f2) hT2 he
        · refine ⟨fun h => absurd h (by decide), fun _ => ⟨hrow, hrow, fun hle => ?_, fun hlt => ⟨hrow, hrow, ?_⟩⟩⟩
          · have e : brC D (cmpv (factS D (bk D w) s p l day)) j (12 * j + n) = true := by
              unfold brC
              rw [e1, show decide (D 16 (12 * j + (n : Int)) = 1) = true by simp; omega, show decide (D 21 (12 * j + (n : Int)) = D 20 (12 * j + n)) = true by simp; exact hle]
              rfl
            rw [e, if_pos rfl] at he
            exact K1 _ M2 (fr_tr hf f2) he
          · refine aKi_of (s2_isMet (j := j) (p := p) hI hS hT2 (by omega) (by omega) (t2 (by omega)) hl hday) (by omega) (fun z M3 q => ?_)
            obtain ⟨f3, rfl⟩ := q
            have hT3 : T2 D w s i wl wp wn ph M3 := T2_q hT2 (fr_mo f3 rfl)
            have hne : decide (D 21 (12 * j + (n : Int)) = D 20 (12 * j + n)) = false := by simpa using hlt
            cases e2 : metS D j (D 20 (12 * j + n)) (D 21 (12 * j + n)) (cmpv (factS D (bk D w) s p l day))
            · have e : brC D (cmpv (factS D (bk D w) s p l day)) j (12 * j + n) = true := by
                unfold brC
                rw [e1, e2, show decide (D 16 (12 * j + (n : Int)) = 1) = true by simp; omega, hne]
                rfl
              rw [e, if_pos rfl] at he
              exact ⟨fun h => absurd rfl h, fun _ => K1 _ M3 (fr_tr hf (fr_tr f2 f3)) he⟩
            · have e : brC D (cmpv (factS D (bk D w) s p l day)) j (12 * j + n) = false := by
                unfold brC
                rw [e2, hne]
                simp
              rw [e, if_neg (by decide)] at he
              exact ⟨fun _ => ih M3 (by omega) (fr_tr hf (fr_tr f2 f3)) hT3 he, fun h => absurd h (by decide)⟩
theorem s2_barFor {D M : AM} {w i wl wp wn p l day : Int} {ph : Int → Int} {s : Sg} (hI : Inv D) (hS : SI D i s) (hT : T2 D w s i wl wp wn ph M) (hl : 0 ≤ l ∧ l < D 0 3) (hday : 0 ≤ day ∧ day ≤ 30000) : aCi s2_G 9 62 [aP 0, aI p, aI l, aI day] M (fun z M' => fr wQ2 M M' ∧ z = barS D (bk D w) s p l day) := by
  refine ⟨Nat.le_of_ble_eq_true rfl, fun d hd => ?_⟩
  refine s2_barFor_0 (by omega) ?_
  have hn := Inv_cn hI
  refine aKv_of (s2_findCanons (day := day) hI hT.1) (by omega) (fun M1 q => ?_)
  obtain ⟨f1, h25, hb⟩ := q
  have hT1 : T2 D w s i wl wp wn ph M1 := T2_q hT (fr_mo f1 rfl)
  have hlen := cord_len (D := D) (day := day) hn.1
  have key : ∀ (suf pre : List Int) (M2 : AM), cord D day = pre ++ suf → fr (wr [42] [(0, 66)]) M1 M2 → aE s2_G d 62 8 [] [some (aP 0), some (aI p), some (aI l), some (aI day), some (aI pre.length), none, none, none] [] M2 (fun r M' => ∃ z, r = some (aI z) ∧ fr wQ2 M M' ∧ z = brL D (cmpv (factS D (bk D w) s p l day)) suf) := by
    intro suf
    induction suf with
    | nil =>
      intro pre M2 e hf
      have hl2 : (cord D day).length = pre.length := by rw [e]; simp
      refine s2_barFor_8 (by omega) ?_
      rw [hf 0 41 rfl, hb.1]
      exact ⟨fun _ => ⟨_, rfl, fr_tr (fr_mo f1 rfl) (fr_mo hf rfl), rfl⟩, fun h => absurd h (by omega)⟩
    | cons j suf ih =>
      intro pre M2 e hf
      have hl2 : (cord D day).length = pre.length + 1 + suf.length := by rw [e]; simp; omega
      have hj := (cord_mem (D := D) (day := day) (i := j) (by rw [e]; simp)).1
      have ej : M2 26 pre.length = j := by rw [hf 26 _ rfl]; exact isL_mid (by rw [← e]; exact hb.2)
      have hcl := Inv_cl hI j hj.1 hj.2
      have hT2 : T2 D w s i wl wp wn ph M2 := T2_q hT1 (fr_mo hf rfl)
      refine s2_barFor_8 (by omega) ?_
      rw [hf 0 41 rfl, hb.1, ej]
      refine ⟨fun h => absurd h (by omega), fun _ => ⟨by omega, ?_⟩⟩
      have hbl : brL D (cmpv (factS D (bk D w) s p l day)) (j :: suf) = match brF D (cmpv (factS D (bk D w) s p l day)) j 0 (D 15 j).toNat with
        | some z => z
        | none => brL D (cmpv (factS D (bk D w) s p l day)) suf := rfl
      refine s2_bf_in (w := w) (i := i) (wl := wl) (wp := wp) (wn := wn) (ph := ph) (by omega) hI hS hl hday hj (by omega) (fun z M3 f3 hz => ⟨z, rfl, fr_tr (fr_mo f1 rfl) (fr_tr (fr_mo hf rfl) (fr_mo f3 rfl)), by rw [hbl, hz]⟩) (fun M3 f3 hz => ?_) (D 15 j).toNat 0 M2 (by omega) fr_rf hT2 rfl
      have ih := ih (pre ++ [j]) M3 (by rw [e]; simp) (fr_tr hf f3)
      rw [List.length_append] at ih
      rw [hbl, hz]
      exact ih
  exact key (cord D day) [] M1 rfl fr_rf
theorem s2_turnOf {D M : AM} {i wl wp wn l : Int} {ph : Int → Int} {s : Sg} (hI : Inv D) (hQ : Q2 D s i wl wp wn ph M) (hl : 0 ≤ l ∧ l < D 0 3) : aCi s2_G 4 55 [aP 0, aI l] M (fun z M' => M' = M ∧ z = turnS s l) := by
  refine ⟨Nat.le_of_ble_eq_true rfl, fun d hd => ?_⟩
  refine s2_turnOf_0 (by omega) ?_
  have hnl := Inv_nl hI
  rw [Q2_tn hQ l hl.1 hl.2, Q2_ra hQ l hl.1 hl.2, Q2_rb hQ l hl.1 hl.2]
  unfold turnS
  refine ⟨by omega, fun h => ⟨by omega, _, rfl, rfl, by rw [if_neg h]⟩, fun h => ⟨by omega, _, rfl, rfl, by rw [if_pos h]⟩⟩
theorem s2_soldTurn {D M : AM} {i wl wp wn l : Int} {ph : Int → Int} {s : Sg} (hI : Inv D) (hS : SI D i s) (hi : i ≤ 150) (hQ : Q2 D s i wl wp wn ph M) (hl : 0 ≤ l ∧ l < D 0 3) : aCi s2_G 5 54 [aP 0, aI l] M (fun z M' => M' = M ∧ z = match sldF D l (turnS s l) s.so 0 with | some (k, _) => (k : Int) | none => -1) := by
  refine ⟨Nat.le_of_ble_eq_true rfl, fun d hd => ?_⟩
  refine s2_soldTurn_0 (by omega) ?_
  have hlen := SI_so hS
  refine aKi_of (s2_turnOf hI hQ hl) (by omega) (fun z M1 q => ?_)
  obtain ⟨rfl, rfl⟩ := q
  have key : ∀ (suf pre : List (Int × Int)), s.so = pre ++ suf → aE s2_G d 54 8 [] [some (aP 0), some (aI l), some (aI (turnS s l)), some (aI pre.length)] [] M1 (fun r M' => ∃ z, r = some (aI z) ∧ M' = M1 ∧ z = match sldF D l (turnS s l) suf pre.length with | some (k, _) => (k : Int) | none => -1) := by
    intro suf
    induction suf with
    | nil =>
      intro pre e
      have hl : s.so.length = pre.length := by rw [e]; simp
      refine s2_soldTurn_8 (by omega) ?_
      rw [Q2_sn hQ]
      exact ⟨fun _ => ⟨_, rfl, rfl, rfl⟩, fun h => absurd h (by omega)⟩
    | cons x suf ih =>
      intro pre e
      have hl : s.so.length = pre.length + 1 + suf.length := by rw [e]; simp; omega
      have hk := Q2_so hQ pre.length (by omega)
      have ex : s.so[pre.length]'(by omega) = x := by simp [e]
      rw [ex] at hk
      have ih := ih (pre ++ [x]) (by rw [e]; simp)
      rw [List.length_append] at ih
      refine s2_soldTurn_8 (by omega) ?_
      rw [Q2_sn hQ, hk.1, hk.2.1, hk.2.2.2, x_add (by omega)]
      unfold sldF
      refine ⟨fun h => absurd h (by omega), fun _ => ⟨by omega, fun h1 => ?_, fun h1 => ⟨by omega, fun h2 => ?_, fun h2 => ⟨by omega, fun h3 => ?_, fun h3 => ?_⟩⟩⟩⟩
      · rw [if_neg (by omega)]; exact ih
      · rw [if_neg (by omega)]; exact ih
      · rw [if_neg (by omega)]; exact ih
      · rw [if_pos ⟨h1, h2, h3⟩]; exact ⟨_, rfl, rfl, rfl⟩
  exact key s.so [] rfl
theorem wkH_rg {D : AM} {B : List Int} {day : Int} (hI : Inv D) (hm : ∀ i ∈ B, 0 ≤ i ∧ i < D 0 7) : ∀ (n : Nat) (p : Int), (0 ≤ p ∧ p < D 0 1) → wkH D B day n p = -4 ∨ 0 ≤ wkH D B day n p
  | 0, p, hp => by unfold wkH; split <;> omega
  | n + 1, p, hp => by
    unfold wkH
    split
    · split
      · exact Or.inl rfl
      next h =>
        have := heirL_rg hI hm p day
        exact wkH_rg hI hm n _ (by omega)
    · omega
theorem s2_patronOf {D M : AM} {w i wl wp wn l day : Int} {ph : Int → Int} {s : Sg} (hI : Inv D) (hS : SI D i s) (hi : i ≤ 150) (hT : T2 D w s i wl wp wn ph M) (hl : 0 ≤ l ∧ l < D 0 3) : aCi s2_G 7 56 [aP 0, aI l, aI day] M (fun z M' => M' = M ∧ z = patS D (bk D w) s l day) := by
  refine ⟨Nat.le_of_ble_eq_true rfl, fun d hd => ?_⟩
  refine s2_patronOf_0 (by omega) ?_
  obtain ⟨hL, hb, hQ⟩ := hT
  have hnl := Inv_nl hI
  have hpn := Inv_pn hI
  have hso := SI_so hS
  have hra := SI_ra hS l
  have ht := turnS_rg (l := l) hS
  have hbl := bk_len (D := D) (w := w) hpn.1
  rw [Q2_ra hQ l hl.1 hl.2]
  unfold patS
  refine ⟨by omega, fun h => ?_, fun h => ⟨_, rfl, rfl, by rw [if_pos (ht.2.mpr (by omega))]⟩⟩
  have hne : turnS s l ≠ -1 := fun q => by have := ht.2.mp q; omega
  rw [if_neg hne]
  have hbuy := buyS_rg hI hS hne
  have key : ∀ (m : Nat) (x p : Int), x + m = 12 → 0 ≤ x → (0 ≤ p ∧ p < D 0 1) → aE s2_G d 56 41 [] [some (aP 0), none, some (aI day), none, some (aI p), some (aI x)] [] M (fun r M' => ∃ z, r = some (aI z) ∧ M' = M ∧ z = wkH D (bk D w) day m p) := by
    intro m
    induction m with
    | zero =>
      intro x p hx h0 hp
      refine s2_patronOf_41 (by omega) ⟨fun h => absurd h (by omega), fun _ => ?_⟩
      refine aKi_of (s2_isDead (p := p) (t := day) hI hL hb (fun i hi => bk_mem hi) (by omega)) (by omega) (fun z M1 q => ?_)
      obtain ⟨rfl, rfl⟩ := q
      unfold wkH
      cases hadB D (bk D w) 1 p day
      · exact ⟨fun _ => ⟨fun _ => ⟨_, rfl, rfl, rfl⟩, fun h => absurd h (by omega)⟩, fun h => absurd rfl h⟩
      · refine ⟨fun h => absurd h (by decide), fun _ => ⟨fun h => absurd (show x = 12 by omega) h, fun _ => ?_⟩⟩
        exact s2_patronOf_41 (by omega) ⟨fun _ => ⟨fun h => absurd h (by decide), fun _ => ⟨_, rfl, rfl, rfl⟩⟩, fun h => absurd h (by decide)⟩
    | succ m ih =>
      intro x p hx h0 hp
      refine s2_patronOf_41 (by omega) ⟨fun h => absurd h (by omega), fun _ => ?_⟩
      refine aKi_of (s2_isDead (p := p) (t := day) hI hL hb (fun i hi => bk_mem hi) (by omega)) (by omega) (fun z M1 q => ?_)
      obtain ⟨rfl, rfl⟩ := q
      unfold wkH
      cases hadB D (bk D w) 1 p day
      · exact ⟨fun _ => ⟨fun _ => ⟨_, rfl, rfl, rfl⟩, fun h => absurd h (by omega)⟩, fun h => absurd rfl h⟩
      · refine ⟨fun h => absurd h (by decide), fun _ => ⟨fun _ => ?_, fun h => absurd h (by omega)⟩⟩
        refine aKi_of (s2_heirOf (p := p) (t := day) hI hL hb (fun i hi => bk_mem hi) (by omega)) (by omega) (fun z M2 q => ?_)
        obtain ⟨rfl, rfl⟩ := q
        have hr := heirL_rg hI (l := bk D w) (fun i hi => bk_mem hi) p day
        rw [if_pos rfl, x_add (by omega)]
        by_cases he : heirL D (bk D w) p day = -1
        · rw [if_pos he, he]
          exact s2_patronOf_41 (by omega) ⟨fun _ => ⟨fun h => absurd h (by decide), fun _ => ⟨_, rfl, rfl, rfl⟩⟩, fun h => absurd h (by decide)⟩
        · rw [if_neg he]
          exact ih (x + 1) _ (by omega) (by omega) (by omega)
  refine aKi_of (s2_soldTurn hI hS hi hQ hl) (by omega) (fun z M1 q => ?_)
  obtain ⟨rfl, rfl⟩ := q
  unfold buyS at hbuy ⊢
  match e : sldF D l (turnS s l) s.so 0 with
  | some (k, n) =>
    rw [e] at hbuy
    obtain ⟨-, hk, e1, -⟩ := sldF_at _ _ _ _ e
    have hk' : k < s.so.length := by simpa using hk
    have hq := (Q2_so hQ k hk').2.2.1
    simp only [Nat.sub_zero] at e1
    rw [e1] at hq
    dsimp only at hbuy ⊢
    refine ⟨fun _ => ⟨by omega, ?_⟩, fun h => absurd h (by omega)⟩
    rw [hq]
    exact key 12 0 _ (by omega) (by omega) hbuy
  | none =>
    dsimp only
    refine ⟨fun h => absurd h (by decide), fun _ => ?_⟩
    refine aKi_of (s2_turnOf hI hQ hl) (by omega) (fun z M2 q => ?_)
    obtain ⟨rfl, rfl⟩ := q
    exact key 12 0 _ (by omega) (by omega) (by omega)
theorem s2_countFrom {D M : AM} {w i wl wp wn l : Int} {ph : Int → Int} {s : Sg} (hI : Inv D) (hT : T2 D w s i wl wp wn ph M) (hl : 0 ≤ l ∧ l < D 0 3) : aCi s2_G 4 57 [aP 0, aI l] M (fun z M' => M' = M ∧ z = frS D (bk D w) s l) := by
  refine ⟨Nat.le_of_ble_eq_true rfl, fun d hd => ?_⟩
  refine s2_countFrom_0 (by omega) ?_
  obtain ⟨hL, hb, hQ⟩ := hT
  have hnl := Inv_nl hI
  have hpn := Inv_pn hI
  have hbl := bk_len (D := D) (w := w) hpn.1
  rw [Q2_eb hQ l hl.1 hl.2, Q2_ef hQ l hl.1 hl.2]
  unfold frS
  refine ⟨by omega, fun h => ?_, fun h => ⟨by omega, _, rfl, rfl, by rw [if_neg h]⟩⟩
  rw [if_pos h]
  have key : ∀ (suf pre : List Int), bk D w = pre ++ suf → aE s2_G d 57 19 [] [some (aP 0), some (aI l), some (aI pre.length), none] [] M (fun r M' => ∃ z, r = some (aI z) ∧ M' = M ∧ z = notL D suf l (s.ef l)) := by
    intro suf
    induction suf with
    | nil =>
      intro pre e
      have hl2 : (bk D w).length = pre.length := by rw [e]; simp
      refine s2_countFrom_19 (by omega) ?_
      rw [hb.1]
      exact ⟨fun _ => ⟨_, rfl, rfl, rfl⟩, fun h => absurd h (by omega)⟩
    | cons a suf ih =>
      intro pre e
      have hl2 : (bk D w).length = pre.length + 1 + suf.length := by rw [e]; simp; omega
      have ha : M 13 pre.length = a := isL_mid (by rw [← e]; exact hb.2)
      have har := bk_mem (D := D) (w := w) (i := a) (by rw [e]; simp)
      have ih := ih (pre ++ [a]) (by rw [e]; simp)
      rw [List.length_append] at ih
      have hr : 0 ≤ a ∧ a < 150 := by omega
      refine s2_countFrom_19 (by omega) ?_
      rw [hb.1, ha, L_5 hL, L_8 hL, L_6 hL, Q2_ef hQ l hl.1 hl.2, x_add (by omega)]
      unfold notL at ih ⊢
      refine ⟨fun h => absurd h (by omega), fun _ => ⟨by omega, hr, fun h1 => ?_, fun h1 => ⟨hr, fun h2 => ?_, fun h2 => ⟨hr, by omega, fun h3 => ?_, fun h3 => ⟨hr, ?_⟩⟩⟩⟩⟩
      · rw [List.find?_cons_of_neg (by simp; omega)]; exact ih
      · rw [List.find?_cons_of_neg (by simp; omega)]; exact ih
      · rw [List.find?_cons_of_neg (by simp; omega)]; exact ih
      · rw [List.find?_cons_of_pos (by simp; omega)]; exact ⟨_, rfl, rfl, rfl⟩
  exact key (bk D w) [] rfl
theorem s2_lapses {D M : AM} {w i wl wp wn l day : Int} {ph : Int → Int} {s : Sg} (hI : Inv D) (hS : SI D i s) (hT : T2 D w s i wl wp wn ph M) (hl : 0 ≤ l ∧ l < D 0 3) (hday : 0 ≤ day ∧ day ≤ 30000) : aCi s2_G 6 58 [aP 0, aI l, aI day] M (fun z M' => fr wF M M' ∧ z = lapS D (bk D w) s l day) := by
  refine ⟨Nat.le_of_ble_eq_true rfl, fun d hd => ?_⟩
  refine s2_lapses_0 (by omega) ?_
  have hnl := Inv_nl hI
  have hef := SI_ef hS l
  refine aKi_of (s2_countFrom hI hT hl) (by omega) (fun z M1 q => ?_)
  obtain ⟨rfl, rfl⟩ := q
  obtain ⟨hL, hb, hQ⟩ := id hT
  rw [Q2_ef hQ l hl.1 hl.2]
  refine ⟨by omega, ?_⟩
  refine aKi_of (s2_forceOf (name := 0) (day := s.ef l) hI hL) (by omega) (fun z M2 q => ?_)
  obtain ⟨q1, rfl, -⟩ := q
  have hr := (force_rg hI (s.ef l) 0).1
  have hf : -1 ≤ frS D (bk D w) s l ∧ frS D (bk D w) s l ≤ 30000 := by
    unfold frS
    split
    · exact notL_rg hI _ _ _
    · exact hef
  rw [x_mul (by omega)]
  unfold lapS
  refine ⟨fun h => ⟨_, rfl, q1, by rw [if_pos (by omega)]⟩, fun h => ⟨fun g => ⟨_, rfl, q1, by rw [if_pos (by omega)]⟩, fun g => ⟨fun k => ⟨by omega, ?_⟩, fun k => ⟨_, rfl, q1, by rw [if_pos (by omega)]⟩⟩⟩⟩
  rw [x_sub (by omega), x_div (by omega) (by omega) (by omega) (by omega), if_neg (by omega)]
  refine ⟨fun c => ⟨_, rfl, q1, ?_⟩, fun c => ⟨_, rfl, q1, ?_⟩⟩ <;> omega
theorem h_emp {s : Sg} {l : Int} : s.h l = [] ↔ (s.h l).length = 0 := List.length_eq_zero_iff.symm
theorem s2_whoMay {D M : AM} {w i wl wp wn l day : Int} {ph : Int → Int} {s : Sg} (hI : Inv D) (hS : SI D i s) (hi : i ≤ 150) (hT : T2 D w s i wl wp wn ph M) (hl : 0 ≤ l ∧ l < D 0 3) (hday : 0 ≤ day ∧ day ≤ 30000) : aCi s2_G 8 59 [aP 0, aI l, aI day] M (fun z M' => fr wF M M' ∧ z = mayS D (bk D w) s l day) := by
  refine ⟨Nat.le_of_ble_eq_true rfl, fun d hd => ?_⟩
  refine s2_whoMay_0 (by omega) ?_
  have hnl := Inv_nl hI
  rw [Q2_hn hT.2.2 l hl.1 hl.2]
  unfold mayS
  refine ⟨by omega, fun h => ?_, fun h => ⟨_, rfl, fr_rf, ?_⟩⟩
  · have he : s.h l = [] := h_emp.mpr (by omega)
    rw [if_neg (by simpa using he)]
    refine aKi_of (s2_lapses hI hS hT hl hday) (by omega) (fun z M1 q => ?_)
    obtain ⟨q1, rfl⟩ := q
    refine ⟨fun a => ⟨fun b => ⟨fun c => ⟨_, rfl, q1, by (repeat (first | rw [if_pos (by omega)] | rw [if_neg (by omega)]))⟩, fun c => ⟨_, rfl, q1, by (repeat (first | rw [if_pos (by omega)] | rw [if_neg (by omega)]))⟩⟩, fun b => ⟨_, rfl, q1, by (repeat (first | rw [if_pos (by omega)] | rw [if_neg (by omega)]))⟩⟩, fun a => ?_⟩
    refine aKi_of (s2_patronOf (day := day) hI hS hi (T2_f hT q1) hl) (by omega) (fun z M2 q => ?_)
    obtain ⟨rfl, rfl⟩ := q
    exact ⟨_, rfl, q1, by rw [if_pos a]⟩
  · rw [if_pos (fun e => by rw [e] at h; simp at h)]
