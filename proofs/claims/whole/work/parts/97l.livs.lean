/-! LIVES: the reference's call -/
theorem maxM_ex {E : Int → Nat → Bool} {n : Nat} {f k : Int} {T : Nat → Bool} : ∃ r, maxM E n f k T r := by
  have key : ∀ j, (∀ g, mtch E n f k T g → szM n g ≤ j) → ∃ r, maxM E n f k T r := by
    intro j
    induction j with
    | zero => exact fun h => ⟨0, ⟨fun _ => -1, ⟨fun b _ q => absurd rfl q, fun b c _ _ q => absurd rfl q⟩, szM_0 (fun _ _ => rfl)⟩, h⟩
    | succ j ih =>
      intro h
      by_cases ex : ∃ g, mtch E n f k T g ∧ szM n g = j + 1
      · obtain ⟨g, h1, h2⟩ := ex
        exact ⟨j + 1, ⟨g, h1, h2⟩, h⟩
      · exact ih (fun g hg => by
          have h1 := h g hg
          have h2 : szM n g ≠ j + 1 := fun e => ex ⟨g, hg, e⟩
          omega)
  exact key n (fun g _ => szM_le)
theorem lv_ch {E : Int → Nat → Bool} {n a : Nat} : chL E n a = -1 ∨ ∃ j : Nat, j < n ∧ chL E n a = (j : Int) ∧ E a j = true ∧ (lvS E n a).1 j = false ∧ ((mmx E n ((a : Int) + 1) (addT (lvS E n a).1 j) : Nat) : Int) = (lvS E n a).2 - 1 := by
  rcases frsF_rg (P := fun b => E a b && (!(lvS E n a).1 b && decide (((mmx E n ((a : Int) + 1) (addT (lvS E n a).1 b) : Nat) : Int) = (lvS E n a).2 - 1))) n with r | ⟨j, hj, ej, pj⟩
  · exact Or.inl r
  · simp only [Bool.and_eq_true, decide_eq_true_eq, Bool.not_eq_true'] at pj
    exact Or.inr ⟨j, hj, ej, pj.1, pj.2.1, pj.2.2⟩
theorem lv_s {E : Int → Nat → Bool} {n a : Nat} : lvS E n (a + 1) = if chL E n a = -1 then lvS E n a else (addT (lvS E n a).1 (chL E n a).toNat, (lvS E n a).2 - 1) := rfl
theorem lv_T {E : Int → Nat → Bool} {n : Nat} : ∀ a b, (lvS E n a).1 b = true ↔ ∃ c, c < a ∧ chL E n c = (b : Int)
  | 0, b => ⟨fun h => (by cases h), fun ⟨c, h, _⟩ => absurd h (by omega)⟩
  | a + 1, b => by
    have ih := lv_T (E := E) (n := n) a b
    rw [lv_s]
    rcases lv_ch (E := E) (n := n) (a := a) with e | ⟨j, hj, e, -⟩
    · rw [if_pos e, ih]
      refine ⟨fun ⟨c, h, w⟩ => ⟨c, by omega, w⟩, fun ⟨c, h, w⟩ => ⟨c, ?_, w⟩⟩
      by_cases q : c = a
      · subst q; omega
      · omega
    · rw [e, if_neg (by omega), show ((j : Int)).toNat = j by omega]
      show addT _ j b = true ↔ _
      rw [addT_t, ih]
      refine ⟨fun h => ?_, fun ⟨c, h, w⟩ => ?_⟩
      · rcases h with ⟨c, h, w⟩ | h
        · exact ⟨c, by omega, w⟩
        · exact ⟨a, by omega, by rw [e, h]⟩
      · by_cases q : c = a
        · subst q; exact Or.inr (by omega)
        · exact Or.inl ⟨c, by omega, w⟩
theorem lv_L {E : Int → Nat → Bool} {n : Nat} : ∀ a, (lvS E n a).2 = (mmx E n 0 (fun _ => false) : Nat) - (cntB (fun c => decide (chL E n c ≠ -1)) a : Int)
  | 0 => by show ((mmx E n 0 (fun _ => false) : Nat) : Int) = _; simp [cntB]
  | a + 1 => by
    have ih := lv_L (E := E) (n := n) a
    rw [lv_s, cntB_succ]
    by_cases e : chL E n a = -1
    · rw [if_pos e, if_neg (by simp [e]), ih]
      simp
    · rw [if_neg e, if_pos (decide_eq_true e)]
      show (lvS E n a).2 - 1 = _
      omega
theorem lv_inj {E : Int → Nat → Bool} {n c d : Nat} (h : c < d) (q : chL E n c ≠ -1) : chL E n d ≠ chL E n c := fun e => by
  rcases lv_ch (E := E) (n := n) (a := d) with w | ⟨j, hj, w, -, t, -⟩
  · exact q (by rw [← e, w])
  · have := (lv_T (E := E) (n := n) d j).mpr ⟨c, h, by rw [← e, w]⟩
    rw [t] at this
    cases this
theorem s2_mostPairs {D M : AM} {f : Nat} {T : Nat → Bool} {ch : Nat → Int} (hI : Inv D) (hL : eqL D M) (hf : f ≤ nPc D) (hM : ∀ c : Nat, c < f → M 57 (c : Int) = ch c) (hT : ∀ b, b < nPc D → (T b = true ↔ ∃ c, c < f ∧ ch c = (b : Int))) (hr : ∀ c, c < f → ch c = -1 ∨ (0 ≤ ch c ∧ ch c < nPc D)) (hi : ∀ c d, c < d → d < f → ch c ≠ -1 → ch d ≠ ch c) : aCi s2_G 10 101 [aP 0, aI (f : Int)] M (fun z M' => fr wOm M M' ∧ ∃ r : Nat, z = (cntB (fun c => decide (ch c ≠ -1)) f : Int) + r ∧ maxM (ePc D) (nPc D) f (nPc D : Int) T r) := by
  refine ⟨Nat.le_of_ble_eq_true rfl, fun d hd => ?_⟩
  refine s2_mostPairs_0 (by omega) ?_
  obtain ⟨hn, hn16⟩ := nPc_e hI
  have hq : ∀ M1, fr wOm M M1 → M1 0 78 = (nPc D : Int) := fun M1 g => by rw [g 0 78 rfl, L0_78 hL, hn]
  have hc16 : ∀ k, cntB (fun c => decide (ch c ≠ -1)) k ≤ k := fun k => cntB_le k
  have k76 : ∀ (j a : Nat) (M1 : AM) (G : Nat → Int), a + j = nPc D → f ≤ a → fr wOm M M1 → OmP D M1 f a T G → aE s2_G d 101 76 [] [some (aP 0), some (aI (f : Int)), some (aI ((cntB (fun c => decide (ch c ≠ -1)) f : Int) + (szM (nPc D) (gpM f G) : Int))), some (aI (a : Int))] [] M1 (fun r M' => ∃ z, r = some (aI z) ∧ fr wOm M M' ∧ ∃ r : Nat, z = (cntB (fun c => decide (ch c ≠ -1)) f : Int) + r ∧ maxM (ePc D) (nPc D) f (nPc D : Int) T r) := by
    intro j
    induction j with
    | zero =>
      intro a M1 G hj hfa gf hP
      refine s2_mostPairs_76 (by omega) ?_
      rw [hq M1 gf]
      refine ⟨fun _ => ⟨_, rfl, gf, _, rfl, ?_⟩, fun h => absurd h (by omega)⟩
      have := OmP_c hP
      rw [show a = nPc D by omega] at this
      exact curM_max this
    | succ j ih =>
      intro a M1 G hj hfa gf hP
      refine s2_mostPairs_76 (by omega) ?_
      rw [hq M1 gf]
      refine ⟨fun h => absurd h (by omega), fun _ => ?_⟩
      have h1 := hc16 f
      have h2 := szM_le (n := nPc D) (g := gpM f G)
      refine aKi_of (s2_oneMore hI (eqL_fw hL gf rfl) (by omega) (by omega) (by omega) hP) (by omega) (fun z M2 q => ?_)
      obtain ⟨g2, G2, P2, hz⟩ := q
      rw [show ((a : Int) + 1) = ((a + 1 : Nat) : Int) by omega] at P2
      have ih := ih (a + 1) M2 G2 (by omega) (by omega) (fr_tr gf g2) P2
      rw [x_add (a := (a : Int)) (by omega), show ((a : Int) + 1) = ((a + 1 : Nat) : Int) by omega]
      rcases hz with ⟨rfl, hz⟩ | ⟨rfl, hz⟩
      · rw [show a_bl ((1 : Int) ≠ 0) = 1 from rfl, x_add (by omega)]
        rw [hz, show ((szM (nPc D) (gpM f G) + 1 : Nat) : Int) = (szM (nPc D) (gpM f G) : Int) + 1 by omega, ← Int.add_assoc] at ih
        exact ih
      · rw [show a_bl ((0 : Int) ≠ 0) = 0 from rfl, x_add (b := 0) (by omega), Int.add_zero]
        rw [hz] at ih
        exact ih
  have k39 : ∀ (j k : Nat) (M1 : AM), k + j = f → fr wOm M M1 → (∀ c : Nat, c < f → M1 57 (c : Int) = ch c) → (∀ b : Nat, b < nPc D → (M1 58 (b : Int) = -1 ∧ ∀ c, c < k → ch c ≠ (b : Int)) ∨ ∃ c : Nat, c < k ∧ ch c = (b : Int) ∧ M1 58 (b : Int) = (c : Int)) → aE s2_G d 101 39 [] [some (aP 0), some (aI (f : Int)), some (aI (cntB (fun c => decide (ch c ≠ -1)) k : Int)), some (aI (k : Int))] [] M1 (fun r M' => ∃ z, r = some (aI z) ∧ fr wOm M M' ∧ ∃ r : Nat, z = (cntB (fun c => decide (ch c ≠ -1)) f : Int) + r ∧ maxM (ePc D) (nPc D) f (nPc D : Int) T r) := by
    intro j
    induction j with
    | zero =>
      intro k M1 hk gf h57 h58
      have ek : k = f := by omega
      subst ek
      refine s2_mostPairs_39 (by omega) ?_
      refine ⟨fun _ => ?_, fun h => absurd h (by omega)⟩
      obtain ⟨G, eG⟩ : ∃ G : Nat → Int, ∀ b : Nat, M1 58 (b : Int) = G b := ⟨fun b => M1 58 (b : Int), fun _ => rfl⟩
      have h58 : ∀ b : Nat, b < nPc D → (G b = -1 ∧ ∀ c, c < k → ch c ≠ (b : Int)) ∨ ∃ c : Nat, c < k ∧ ch c = (b : Int) ∧ G b = (c : Int) := fun b hb => by
        have := h58 b hb
        rw [eG b] at this
        exact this
      have g0 : ∀ b, b < nPc D → gpM (k : Int) G b = -1 := fun b hb => by
        unfold gpM
        rw [if_neg]
        rcases h58 b hb with w | ⟨c, w1, -, w2⟩
        · omega
        · omega
      have := k76 (nPc D - k) k M1 G (by omega) (Nat.le_refl _) gf ⟨fun b hb => eG b, fun b hb => ?_, fun b hb q => ?_, fun b hb => ?_, curM_0 g0⟩
      · rw [szM_0 g0] at this
        rw [show (cntB (fun c => decide (ch c ≠ -1)) k : Int) + ((0 : Nat) : Int) = (cntB (fun c => decide (ch c ≠ -1)) k : Int) by omega] at this
        exact this
      · rcases h58 b hb with w | ⟨c, w1, w2, w3⟩
        · have : T b = false := by
            cases e : T b with
            | false => rfl
            | true =>
              obtain ⟨c, hc, ec⟩ := (hT b hb).mp e
              exact absurd ec (w.2 c hc)
          rw [this]
          exact (decide_eq_false (by omega)).symm
        · rw [(hT b hb).mpr ⟨c, w1, w2⟩]
          exact (decide_eq_true (by omega)).symm
      · rcases h58 b hb with w | ⟨c, w1, w2, w3⟩
        · omega
        · omega
      · rcases h58 b hb with w | ⟨c, w1, w2, w3⟩
        · exact Or.inl w.1
        · omega
    | succ j ih =>
      intro k M1 hk gf h57 h58
      have h1 := hc16 k
      refine s2_mostPairs_39 (by omega) ?_
      rw [h57 k (by omega), x_add (a := (k : Int)) (by omega), show ((k : Int) + 1) = ((k + 1 : Nat) : Int) by omega, x_add (a := (cntB (fun c => decide (ch c ≠ -1)) k : Int)) (by omega)]
      have hrk := hr k (by omega)
      have ih := fun M2 => ih (k + 1) M2 (by omega)
      rw [cntB_succ] at ih
      refine ⟨fun h => absurd h (by omega), fun _ => ⟨by omega, fun w => ?_, fun w => ⟨by omega, by omega, ?_⟩⟩⟩
      · have e : ch k = -1 := by omega
        rw [if_neg (by simp [e]), Nat.add_zero] at ih
        refine ih M1 gf h57 (fun b hb => ?_)
        rcases h58 b hb with w | ⟨c, w1, w2, w3⟩
        · refine Or.inl ⟨w.1, fun c hc => ?_⟩
          by_cases q : c = k
          · subst q; omega
          · exact w.2 c (by omega)
        · exact Or.inr ⟨c, by omega, w2, w3⟩
      · have e : ch k ≠ -1 := by omega
        rw [if_pos (decide_eq_true e), show ((cntB (fun c => decide (ch c ≠ -1)) k + 1 : Nat) : Int) = (cntB (fun c => decide (ch c ≠ -1)) k : Int) + 1 by omega] at ih
        refine ih _ (fr_up gf rfl) (fun c hc => by rw [x_uc (by decide)]; exact h57 c hc) (fun b hb => ?_)
        by_cases q : (b : Int) = ch k
        · exact Or.inr ⟨k, by omega, q.symm, by rw [q, x_us]⟩
        · rw [x_uf q]
          rcases h58 b hb with w | ⟨c, w1, w2, w3⟩
          · refine Or.inl ⟨w.1, fun c hc => ?_⟩
            by_cases y : c = k
            · subst y; exact fun z => q z.symm
            · exact w.2 c (by omega)
          · exact Or.inr ⟨c, by omega, w2, w3⟩
  have k4 : ∀ (j k : Nat) (M1 : AM), k + j = nPc D → fr wOm M M1 → (∀ c : Nat, c < f → M1 57 (c : Int) = ch c) → (∀ b : Nat, b < k → M1 58 (b : Int) = -1) → aE s2_G d 101 4 [] [some (aP 0), some (aI (f : Int)), some (aI 0), some (aI (k : Int))] [] M1 (fun r M' => ∃ z, r = some (aI z) ∧ fr wOm M M' ∧ ∃ r : Nat, z = (cntB (fun c => decide (ch c ≠ -1)) f : Int) + r ∧ maxM (ePc D) (nPc D) f (nPc D : Int) T r) := by
    intro j
    induction j with
    | zero =>
      intro k M1 hk gf h57 h58
      refine s2_mostPairs_4 (by omega) ?_
      rw [hq M1 gf]
      exact ⟨fun _ => k39 f 0 M1 (by omega) gf h57 (fun b hb => Or.inl ⟨h58 b (by omega), fun c hc => absurd hc (by omega)⟩), fun h => absurd h (by omega)⟩
    | succ j ih =>
      intro k M1 hk gf h57 h58
      refine s2_mostPairs_4 (by omega) ?_
      rw [hq M1 gf, x_add (a := (k : Int)) (by omega), show ((k : Int) + 1) = ((k + 1 : Nat) : Int) by omega]
      have up : ∀ M2 : AM, (∀ b : Nat, b < k → M2 58 (b : Int) = -1) → ∀ b : Nat, b < k + 1 → am_up M2 58 (k : Int) (-1) 58 (b : Int) = -1 := fun M2 h b hb => by
        by_cases q : b = k
        · subst q; rw [x_us]
        · rw [x_uf (by omega)]; exact h b (by omega)
      refine ⟨fun h => absurd h (by omega), fun _ => ⟨fun w => ⟨by omega, ih (k + 1) _ (by omega) (fr_up gf rfl) (fun c hc => by rw [x_uc (by decide)]; exact h57 c hc) (up M1 h58)⟩, fun w => ⟨by omega, by omega, ih (k + 1) _ (by omega) (fr_up (fr_up gf rfl) rfl) (fun c hc => by rw [x_uc (by decide), x_uf (by omega)]; exact h57 c hc) (up _ (fun b hb => by rw [x_uc (by decide)]; exact h58 b hb))⟩⟩⟩
  exact k4 (nPc D) 0 M (by omega) fr_rf hM (fun b hb => absurd hb (by omega))
abbrev wU6 : Nat → Int → Bool := wr [57, 58, 59, 60, 61, 62] [(0, 89)]
theorem s2_findLives {D M : AM} (hI : Inv D) (hL : eqL D M) : aCv s2_G 12 102 [aP 0] M (fun M' => fr wU6 M M' ∧ M' 0 89 = ((mmx (ePc D) (nPc D) 0 (fun _ => false) : Nat) : Int) ∧ ∀ c : Nat, c < nPc D → M' 62 (c : Int) = chL (ePc D) (nPc D) c) := by
  refine ⟨Nat.le_of_ble_eq_true rfl, fun d hd => ?_⟩
  refine s2_findLives_0 (by omega) ?_
  obtain ⟨hn, hn16⟩ := nPc_e hI
  have hq : ∀ M1, fr wU6 M M1 → M1 0 78 = (nPc D : Int) := fun M1 g => by rw [g 0 78 rfl, L0_78 hL, hn]
  obtain ⟨E, eE⟩ : ∃ E, E = ePc D := ⟨_, rfl⟩
  obtain ⟨n, en⟩ : ∃ n, n = nPc D := ⟨_, rfl⟩
  rw [← en] at hn hn16 hq ⊢
  rw [← eE]
  have k11 : ∀ (j a : Nat) (M1 : AM), a + j = n → fr wU6 M M1 → M1 0 89 = ((mmx E n 0 (fun _ => false) : Nat) : Int) → (∀ c : Nat, c < a → M1 62 (c : Int) = chL E n c) → aE s2_G d 102 11 [] [some (aP 0), some (aI (a : Int)), none, none, none, none] [] M1 (fun r M' => r = none ∧ fr wU6 M M' ∧ M' 0 89 = ((mmx E n 0 (fun _ => false) : Nat) : Int) ∧ ∀ c : Nat, c < n → M' 62 (c : Int) = chL E n c) := by
    intro j
    induction j with
    | zero =>
      intro a M1 ha gf h89 h62
      refine s2_findLives_11 (by omega) ?_
      rw [hq M1 gf]
      exact ⟨fun _ => ⟨rfl, gf, h89, fun c hc => h62 c (by omega)⟩, fun h => absurd h (by omega)⟩
    | succ j ih =>
      intro a M1 ha gf h89 h62
      have ih := fun M2 => ih (a + 1) M2 (by omega)
      have done : ∀ (M2 : AM) (b x2 : Int) , fr wU6 M M2 → M2 0 89 = ((mmx E n 0 (fun _ => false) : Nat) : Int) → (∀ c : Nat, c < a + 1 → M2 62 (c : Int) = chL E n c) → n ≤ b ∨ x2 ≠ 0 → aE s2_G d 102 30 [] [some (aP 0), some (aI (a : Int)), some (aI x2), some (aI b), none, none] [] M2 (fun r M' => r = none ∧ fr wU6 M M' ∧ M' 0 89 = ((mmx E n 0 (fun _ => false) : Nat) : Int) ∧ ∀ c : Nat, c < n → M' 62 (c : Int) = chL E n c) := fun M2 b x2 gf h89 h62 hx => by
        refine s2_findLives_30 (by omega) ?_
        rw [hq M2 gf, x_add (a := (a : Int)) (by omega), show ((a : Int) + 1) = ((a + 1 : Nat) : Int) by omega]
        refine ⟨fun _ => ih M2 gf h89 h62, fun h => ⟨fun _ => ih M2 gf h89 h62, fun e => absurd e (by omega)⟩⟩
      refine s2_findLives_11 (by omega) ?_
      rw [hq M1 gf]
      refine ⟨fun h => absurd h (by omega), fun _ => ⟨by omega, ?_⟩⟩
      have k30 : ∀ (j b : Nat) (M2 : AM), b + j = n → fr wU6 M M2 → M2 0 89 = ((mmx E n 0 (fun _ => false) : Nat) : Int) → (∀ c : Nat, c < a → M2 62 (c : Int) = chL E n c) → M2 62 (a : Int) = -1 → (∀ c, c < b → (E a c && (!(lvS E n a).1 c && decide (((mmx E n ((a : Int) + 1) (addT (lvS E n a).1 c) : Nat) : Int) = (lvS E n a).2 - 1))) = false) → aE s2_G d 102 30 [] [some (aP 0), some (aI (a : Int)), some (aI 0), some (aI (b : Int)), none, none] [] M2 (fun r M' => r = none ∧ fr wU6 M M' ∧ M' 0 89 = ((mmx E n 0 (fun _ => false) : Nat) : Int) ∧ ∀ c : Nat, c < n → M' 62 (c : Int) = chL E n c) := by
        intro j
        induction j with
        | zero =>
          intro b M2 hb gf h89 h62 h62a hno
          refine done M2 b 0 gf h89 (fun c hc => ?_) (Or.inl (by omega))
          by_cases q : c = a
          · subst q
            rw [h62a]
            exact (frsF_no _ (fun i hi => hno i (by omega))).symm
          · exact h62 c (by omega)
        | succ j ih30 =>
          intro b M2 hb gf h89 h62 h62a hno
          have hb3 : b < n := by omega
          have hlt := lv_L (E := E) (n := n) a
          have next : ∀ M3, fr wU6 M M3 → M3 0 89 = ((mmx E n 0 (fun _ => false) : Nat) : Int) → (∀ c : Nat, c < a → M3 62 (c : Int) = chL E n c) → M3 62 (a : Int) = -1 → (E a b && (!(lvS E n a).1 b && decide (((mmx E n ((a : Int) + 1) (addT (lvS E n a).1 b) : Nat) : Int) = (lvS E n a).2 - 1))) = false → aE s2_G d 102 30 [] [some (aP 0), some (aI (a : Int)), some (aI 0), some (aI ((b + 1 : Nat) : Int)), none, none] [] M3 (fun r M' => r = none ∧ fr wU6 M M' ∧ M' 0 89 = ((mmx E n 0 (fun _ => false) : Nat) : Int) ∧ ∀ c : Nat, c < n → M' 62 (c : Int) = chL E n c) := fun M3 g3 h3 h4 h5 q => ih30 (b + 1) M3 (by omega) g3 h3 h4 h5 (fun c hc => by
            by_cases w : c = b
            · subst w; exact q
            · exact hno c (by omega))
          refine s2_findLives_30 (by omega) ?_
          rw [hq M2 gf]
          refine ⟨fun h => absurd h (by omega), fun _ => ⟨fun h => absurd rfl h, fun _ => ?_⟩⟩
          refine aKi_of (s2_mayFollow hI (eqL_fw hL gf rfl) (show 0 ≤ (a : Int) ∧ (a : Int) < 16 by omega) (show 0 ≤ (b : Int) ∧ (b : Int) < 16 by omega)) (by omega) (fun z M3 q => ?_)
          obtain ⟨rfl, rfl⟩ := q
          have eEb : mayB D a (b : Int) = E a b := by rw [eE]; rfl
          rw [eEb]
          have k96 : ∀ (j c : Nat) (M4 : AM), c + j = a → fr wU6 M M4 → M4 0 89 = ((mmx E n 0 (fun _ => false) : Nat) : Int) → (∀ c : Nat, c < a → M4 62 (c : Int) = chL E n c) → M4 62 (a : Int) = -1 → (∀ i : Nat, i < c → M4 57 (i : Int) = chL E n i) → E a b = true → (lvS E n a).1 b = false → aE s2_G d 102 96 [] [some (aP 0), some (aI (a : Int)), none, some (aI (b : Int)), none, some (aI (c : Int))] [] M4 (fun r M' => r = none ∧ fr wU6 M M' ∧ M' 0 89 = ((mmx E n 0 (fun _ => false) : Nat) : Int) ∧ ∀ c : Nat, c < n → M' 62 (c : Int) = chL E n c) := by
            intro j
            induction j with
            | zero =>
              intro c M4 hc gf h89 h62 h62a h57 hEb hTb
              have ec : c = a := by omega
              subst ec
              refine s2_findLives_96 (by omega) ?_
              refine ⟨fun _ => ⟨by omega, ?_⟩, fun h => absurd h (by omega)⟩
              have g4 : fr wU6 M (am_up M4 57 (c : Int) (b : Int)) := fr_up gf rfl
              have chv : ∀ i, i < c → (if i = c then (b : Int) else chL E n i) = chL E n i := fun i hi => if_neg (by omega)
              have hmp := s2_mostPairs (D := D) (M := am_up M4 57 (c : Int) (b : Int)) (f := c + 1) (T := addT (lvS E n c).1 b) (ch := fun i => if i = c then (b : Int) else chL E n i) hI (eqL_fw hL g4 rfl) (by omega) (fun i hi => by
                by_cases w : i = c
                · subst w; rw [x_us, if_pos rfl]
                · rw [x_uf (by omega), if_neg w]; exact h57 i (by omega)) (fun i hi => by
                rw [addT_t, lv_T]
                refine ⟨fun w => ?_, fun ⟨k, hk, ek⟩ => ?_⟩
                · rcases w with ⟨k, hk, ek⟩ | w
                  · exact ⟨k, by omega, by rw [chv k hk]; exact ek⟩
                  · exact ⟨c, by omega, by rw [if_pos rfl, w]⟩
                · by_cases w : k = c
                  · rw [if_pos w] at ek; exact Or.inr (by omega)
                  · rw [if_neg w] at ek; exact Or.inl ⟨k, by omega, ek⟩) (fun i hi => by
                by_cases w : i = c
                · rw [if_pos w]; exact Or.inr (by omega)
                · rw [if_neg w]
                  rcases lv_ch (E := E) (n := n) (a := i) with y | ⟨k, hk, y, -⟩
                  · exact Or.inl y
                  · exact Or.inr (by omega)) (fun i k hik hk q => by
                rw [chv i (by omega)] at q ⊢
                by_cases w : k = c
                · rw [if_pos w]
                  intro y
                  have := (lv_T (E := E) (n := n) c b).mpr ⟨i, by omega, y.symm⟩
                  rw [hTb] at this
                  cases this
                · rw [if_neg w]; exact lv_inj hik q)
              have hcnt : cntB (fun i => decide ((if i = c then (b : Int) else chL E n i) ≠ -1)) (c + 1) = cntB (fun i => decide (chL E n i ≠ -1)) c + 1 := by
                rw [cntB_succ, if_pos (decide_eq_true (by rw [if_pos rfl]; omega))]
                rw [cntB_cg (fun i hi => by rw [show decide ((if i = c then (b : Int) else chL E n i) ≠ -1) = decide (chL E n i ≠ -1) by rw [decide_eq_decide, chv i hi]])]
              rw [hcnt] at hmp
              rw [x_add (a := (c : Int)) (by omega), x_add (a := (b : Int)) (by omega), show ((c : Int) + 1) = ((c + 1 : Nat) : Int) by omega, show ((b : Int) + 1) = ((b + 1 : Nat) : Int) by omega]
              refine aKi_of hmp (by omega) (fun z M5 q => ?_)
              obtain ⟨g5, r, ez, hr⟩ := q
              rw [← en, ← eE] at hr
              have hm := mmx_eq hr
              rw [show ((c + 1 : Nat) : Int) = (c : Int) + 1 by omega] at hm
              have f5 : fr wU6 M M5 := fr_tr g4 (fr_mo g5 rfl)
              have e89 : M5 0 89 = ((mmx E n 0 (fun _ => false) : Nat) : Int) := by rw [g5 0 89 rfl, x_uc (by decide)]; exact h89
              have e62 : ∀ i : Int, M5 62 i = M4 62 i := fun i => by rw [g5 62 i rfl, x_uc (by decide)]
              rw [e89]
              refine ⟨fun w => ⟨fun _ => ⟨by omega, ?_⟩, fun y => absurd rfl y⟩, fun w => ⟨fun y => absurd y (by decide), fun _ => ⟨by omega, ?_⟩⟩⟩
              · refine next _ (fr_up f5 rfl) (by rw [x_uc (by decide)]; exact e89) (fun i hi => by rw [x_uf (by omega), e62]; exact h62 i hi) x_us ?_
                rw [hEb, hTb, hm, decide_eq_false (by omega)]
                rfl
              · refine done _ _ 1 (fr_up f5 rfl) (by rw [x_uc (by decide)]; exact e89) (fun i hi => ?_) (Or.inr (by decide))
                by_cases y : i = c
                · subst y
                  rw [x_us]
                  exact (frsF_at (P := fun b => E i b && (!(lvS E n i).1 b && decide (((mmx E n ((i : Int) + 1) (addT (lvS E n i).1 b) : Nat) : Int) = (lvS E n i).2 - 1))) hno (by rw [hEb, hTb, hm, decide_eq_true (by omega)]; rfl) n hb3).symm
                · rw [x_uf (by omega), e62]; exact h62 i (by omega)
            | succ j ih96 =>
              intro c M4 hc gf h89 h62 h62a h57 hEb hTb
              refine s2_findLives_96 (by omega) ?_
              rw [h62 c (by omega), x_add (a := (c : Int)) (by omega), show ((c : Int) + 1) = ((c + 1 : Nat) : Int) by omega]
              refine ⟨fun h => absurd h (by omega), fun _ => ⟨by omega, by omega, ih96 (c + 1) _ (by omega) (fr_up gf rfl) (by rw [x_uc (by decide)]; exact h89) (fun i hi => by rw [x_uc (by decide)]; exact h62 i hi) (by rw [x_uc (by decide)]; exact h62a) (fun i hi => ?_) hEb hTb⟩⟩
              by_cases w : i = c
              · subst w; rw [x_us]
              · rw [x_uf (by omega)]; exact h57 i (by omega)
          have k53 : ∀ (j c : Nat) (x : Bool), c + j = a → (x = true ↔ E a b = true ∧ ∀ i, i < c → chL E n i ≠ (b : Int)) → aE s2_G d 102 53 [] [some (aP 0), some (aI (a : Int)), some (aI 0), some (aI (b : Int)), some (aI (bI x)), some (aI (c : Int))] [] M3 (fun r M' => r = none ∧ fr wU6 M M' ∧ M' 0 89 = ((mmx E n 0 (fun _ => false) : Nat) : Int) ∧ ∀ c : Nat, c < n → M' 62 (c : Int) = chL E n c) := by
            intro j
            induction j with
            | zero =>
              intro c x hc hx
              have ec : c = a := by omega
              subst ec
              refine s2_findLives_53 (by omega) ?_
              rw [bI_0, bI_n0, x_add (a := (b : Int)) (by omega), show ((b : Int) + 1) = ((b + 1 : Nat) : Int) by omega]
              have hTb : (lvS E n c).1 b = false ↔ ∀ i, i < c → chL E n i ≠ (b : Int) := by
                have := lv_T (E := E) (n := n) c b
                constructor
                · intro w i hi e
                  rw [this.mpr ⟨i, hi, e⟩] at w
                  cases w
                · intro w
                  cases e : (lvS E n c).1 b with
                  | false => rfl
                  | true =>
                    obtain ⟨i, hi, ei⟩ := this.mp e
                    exact absurd ei (w i hi)
              refine ⟨fun _ => ⟨fun w => next M3 gf h89 h62 h62a ?_, fun w => ?_⟩, fun h => absurd h (by omega)⟩
              · cases e1 : E c b with
                | false => rfl
                | true =>
                  cases e2 : (lvS E n c).1 b with
                  | true => rfl
                  | false =>
                    rw [hx.mpr ⟨e1, hTb.mp e2⟩] at w
                    cases w
              · obtain ⟨w1, w2⟩ := hx.mp w
                exact k96 c 0 M3 (by omega) gf h89 h62 h62a (fun i hi => absurd hi (by omega)) w1 (hTb.mpr w2)
            | succ j ih53 =>
              intro c x hc hx
              refine s2_findLives_53 (by omega) ?_
              rw [bI_0, bI_n0, h62 c (by omega), x_add (a := (c : Int)) (by omega), show ((c : Int) + 1) = ((c + 1 : Nat) : Int) by omega]
              refine ⟨fun h => absurd h (by omega), fun _ => ⟨fun w => ih53 (c + 1) false (by omega) ⟨fun y => (by cases y), fun y => ?_⟩, fun w => ⟨by omega, fun v => ih53 (c + 1) false (by omega) ⟨fun y => (by cases y), fun y => absurd v (y.2 c (by omega))⟩, fun v => ih53 (c + 1) true (by omega) ⟨fun _ => ⟨(hx.mp w).1, fun i hi => ?_⟩, fun _ => rfl⟩⟩⟩⟩
              · rw [hx.mpr ⟨y.1, fun i hi => y.2 i (by omega)⟩] at w
                cases w
              · by_cases y : i = c
                · subst y; exact v
                · exact (hx.mp w).2 i (by omega)
          exact k53 a 0 (E a b) (by omega) ⟨fun w => ⟨w, fun i hi => absurd hi (by omega)⟩, fun w => w.1⟩
      exact k30 n 0 _ (by omega) (fr_up gf rfl) (by rw [x_uc (by decide)]; exact h89) (fun c hc => by rw [x_uf (by omega)]; exact h62 c hc) x_us (fun c hc => absurd hc (by omega))
  have hmp := s2_mostPairs (D := D) (M := M) (f := 0) (T := fun _ => false) (ch := fun _ => -1) hI hL (by omega) (fun i hi => absurd hi (by omega)) (fun i hi => ⟨fun w => (by cases w), fun ⟨k, hk, _⟩ => absurd hk (by omega)⟩) (fun i hi => absurd hi (by omega)) (fun i k hik hk => absurd hk (by omega))
  refine aKi_of hmp (by omega) (fun z M5 q => ?_)
  obtain ⟨g5, r, ez, hr⟩ := q
  rw [← en, ← eE] at hr
  have hm := mmx_eq hr
  have ez2 : z = ((mmx E n 0 (fun _ => false) : Nat) : Int) := by
    rw [ez, show cntB (fun _ => decide ((-1 : Int) ≠ -1)) 0 = 0 from rfl, show mmx E n 0 (fun _ => false) = r from hm]
    omega
  rw [ez2]
  exact k11 n 0 _ (by omega) (fr_up (fr_mo g5 rfl) rfl) x_us (fun c hc => absurd hc (by omega))
theorem c2_lives {M : AM} {i : Int} (hI : Inv M) : aCi s2_G 20 103 [aP 0, aI i] M (fun z M' => z = f_lives M i ∧ fr wU6 M M') := by
  refine ⟨Nat.le_of_ble_eq_true rfl, fun d hd => ?_⟩
  refine s2_lives_0 (by omega) ?_
  obtain ⟨hn, hn16⟩ := nPc_e hI
  rw [x_sub (a := M 0 78) (by omega)]
  simp only [a_bl_n, a_bl_z, Decidable.not_not]
  unfold f_lives
  refine ⟨fun e => ?_, fun e => ⟨fun h => ?_, fun h => ⟨_, rfl, by rw [if_neg e, if_neg (by omega)], fr_rf⟩⟩⟩
  · refine aKv_of (s2_findLives hI eqL_rf) (by omega) (fun M1 q => ?_)
    obtain ⟨g, v1, v2⟩ := q
    refine ⟨fun h => absurd e h, fun _ => ⟨_, rfl, ?_, g⟩⟩
    obtain ⟨r, hr⟩ := maxM_ex (E := ePc M) (n := nPc M) (f := 0) (k := (nPc M : Int)) (T := fun _ => false)
    have := maxM_le hr
    have := mmx_eq hr
    rw [if_pos e, v1, g 0 78 rfl, x_sub (by omega)]
  · refine aKv_of (s2_findLives hI eqL_rf) (by omega) (fun M1 q => ?_)
    obtain ⟨g, v1, v2⟩ := q
    refine ⟨fun h => ⟨by omega, _, rfl, ?_, g⟩, fun h => absurd h e⟩
    rw [if_neg e, if_pos (by omega)]
    have := v2 i.toNat (by omega)
    rw [show ((i.toNat : Nat) : Int) = i by omega] at this
    exact this
