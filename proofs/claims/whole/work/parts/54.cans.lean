/-! CANONS: what counts on a day, what they let; both systems -/
def strkN (D : AM) (j : Int) (r : Nat) (c : Int) : Bool := (List.range r).any (fun i : Nat => decide (D 16 (12 * j + i) = 2 ∧ D 17 (12 * j + i) = c))
theorem strkN_all (D : AM) (j c : Int) : strkN D j (D 15 j).toNat c = strk D j c := rfl
theorem strkN_succ {D : AM} {j : Int} {r : Nat} {c : Int} : strkN D j (r + 1) c = (strkN D j r c || decide (D 16 (12 * j + r) = 2 ∧ D 17 (12 * j + r) = c)) := by
  unfold strkN
  rw [List.range_succ, List.any_append]
  simp
theorem clk {D : AM} (hI : Inv D) {j c : Int} (h0 : 0 ≤ j) (h1 : j < D 0 18) (h2 : 0 ≤ c) (h3 : c < D 15 j) : (D 16 (12 * j + c) = 0 → (0 ≤ D 17 (12 * j + c) ∧ D 17 (12 * j + c) < 8) ∧ 0 ≤ D 18 (12 * j + c) ∧ D 18 (12 * j + c) ≤ 999) ∧ (D 16 (12 * j + c) = 2 → 0 ≤ D 17 (12 * j + c) ∧ D 17 (12 * j + c) < j) := by
  have h := Inv_cc hI j h0 h1 c h2 h3
  unfold clOk at h
  rcases h with ⟨a, b, e⟩ | ⟨a, b, e⟩ | ⟨a, b, e⟩
  · exact ⟨fun _ => ⟨b, e⟩, fun q => by omega⟩
  · exact ⟨fun q => by omega, fun _ => ⟨b, e⟩⟩
  · exact ⟨fun q => by omega, fun q => by omega⟩
/-- a canon strikes earlier ones alone -/
theorem strk_lt {D : AM} (hI : Inv D) {j c : Int} (h0 : 0 ≤ j) (h1 : j < D 0 18) (h : strk D j c = true) : c < j := by
  unfold strk at h
  obtain ⟨i, hi, e⟩ := List.any_eq_true.mp h
  rw [decide_eq_true_eq] at e
  have hl := Inv_cl hI j h0 h1
  have := (clk hI h0 h1 (c := i) (by omega) (by have := List.mem_range.mp hi; omega)).2 e.1
  omega
theorem onmk_stab {D : AM} (hI : Inv D) (day : Int) {c : Int} (h0 : 0 ≤ c) (h1 : c < D 0 18) : ∀ m : Nat, D 0 18 - 1 - c ≤ m → (m : Int) ≤ D 0 18 → onmk D day m c = onmk D day (D 0 18 - 1 - c).toNat c
  | 0, h, _ => by
    have : (D 0 18 - 1 - c).toNat = 0 := by omega
    rw [this]
  | m + 1, h, hm => by
    by_cases e : (D 0 18 - 1 - c) = (m + 1 : Nat)
    · rw [show (D 0 18 - 1 - c).toNat = m + 1 by omega]
    · rw [← onmk_stab hI day h0 h1 m (by omega) (by omega)]
      have hs : strk D (D 0 18 - m - 1) c = false := by
        rw [← Bool.not_eq_true]
        intro q
        have := strk_lt hI (by omega) (by omega) q
        omega
      rw [show onmk D day (m + 1) c = (onmk D day m c && !(decide (D 14 (D 0 18 - m - 1) ≤ day) && onmk D day m (D 0 18 - m - 1) && strk D (D 0 18 - m - 1) c)) from rfl, hs]
      simp
/-- what stays of the canons while a day is settled -/
def CB (D : AM) (M : AM) : Prop :=
  (M 24 0 = D 0 18) ∧
  (M 26 = D 14) ∧
  (isL (M 27) (srt (D 14) (D 0 18).toNat)) ∧
  (can1 D (M 25) (M 28) (M 29) (M 30) (M 31) (M 32))
theorem CB_cn {D : AM} {M : AM} (h : CB D  M ) : M 24 0 = D 0 18 := h.1
theorem CB_cf {D : AM} {M : AM} (h : CB D  M ) : M 26 = D 14 := h.2.1
theorem CB_cb {D : AM} {M : AM} (h : CB D  M ) : isL (M 27) (srt (D 14) (D 0 18).toNat) := h.2.2.1
theorem CB_ca {D : AM} {M : AM} (h : CB D  M ) : can1 D (M 25) (M 28) (M 29) (M 30) (M 31) (M 32) := h.2.2.2
theorem CB_of {D M : AM} (h : B1 D M) : CB D M := ⟨B1_cn h, B1_cf h, B1_cb h, B1_ca h⟩
theorem CB_fw {D M M' : AM} {cs : List Nat} {fs : List (Nat × Int)} (h : CB D M) (g : fr (wr cs fs) M M') (e : sepL [25, 26, 27, 28, 29, 30, 31, 32] [(24, 0)] cs fs = true) : CB D M' := by
  have m25 : M' 25 = M 25 := fr_c g e rfl
  have m26 : M' 26 = M 26 := fr_c g e rfl
  have m27 : M' 27 = M 27 := fr_c g e rfl
  have m28 : M' 28 = M 28 := fr_c g e rfl
  have m29 : M' 29 = M 29 := fr_c g e rfl
  have m30 : M' 30 = M 30 := fr_c g e rfl
  have m31 : M' 31 = M 31 := fr_c g e rfl
  have m32 : M' 32 = M 32 := fr_c g e rfl
  have m0 : M' 24 0 = M 24 0 := fr_f g e rfl
  unfold CB at h ⊢
  simp only [m25, m26, m27, m28, m29, m30, m31, m32, m0]
  exact h
theorem CB_row {D M : AM} (h : CB D M) {j c : Int} (h0 : 0 ≤ j) (h1 : j < D 0 18) (h2 : 0 ≤ c) (h3 : c < D 15 j) : M 28 (12 * j + c) = D 16 (12 * j + c) ∧ (D 16 (12 * j + c) = 0 → M 29 (12 * j + c) = D 17 (12 * j + c) ∧ M 30 (12 * j + c) = D 18 (12 * j + c)) ∧ (D 16 (12 * j + c) = 2 → M 29 (12 * j + c) = D 17 (12 * j + c)) := by
  have hc := (CB_ca h j h0 h1).2 c h2 h3
  obtain ⟨a, b, e, -⟩ := hc
  exact ⟨a, fun q => b (by omega), fun q => e (by omega)⟩
theorem s1_Canons_struckBy {D M : AM} {j : Int} (hI : Inv D) (hC : CB D M) (h0 : 0 ≤ j) (h1 : j < D 0 18) : aCi s1_G 4 8 [aP 24, aI j] M (fun z M' => M' = M ∧ bset z 10 (fun i => strk D j i)) := by
  refine ⟨Nat.le_of_ble_eq_true rfl, fun d hd => ?_⟩
  refine s1_Canons_struckBy_0 (by omega) ?_
  have hn := Inv_cn hI
  have hl := Inv_cl hI j h0 h1
  have e25 := (CB_ca hC j h0 h1).1
  have key : ∀ (m r : Nat) (x : Int), (r : Int) + m = D 15 j → bset x 10 (fun i => strkN D j r i) → aE s1_G d 8 7 [] [some (aP 24), some (aI j), some (aI x), some (aI (12 * j + r))] [] M (fun q M' => ∃ z, q = some (aI z) ∧ M' = M ∧ bset z 10 (fun i => strk D j i)) := by
    intro m
    induction m with
    | zero =>
      intro r x hm hx
      refine s1_Canons_struckBy_7 (by omega) ?_
      rw [e25, x_mul (by omega), x_add (a := j * 12) (by omega)]
      (repeat' (with_reducible first | refine And.intro ?_ ?_ | intro _))
      all_goals (try first | with_reducible rfl | with_reducible exact True.intro | with_reducible exact Or.inl True.intro | with_reducible exact Or.inr True.intro | omega | (exfalso; with_reducible assumption))
      refine ⟨_, rfl, by trivial, ?_⟩
      rw [show r = (D 15 j).toNat by omega] at hx
      exact hx
    | succ m ih =>
      intro r x hm hx
      obtain ⟨r1, r2, r3⟩ := CB_row hC h0 h1 (c := r) (by omega) (by omega)
      obtain ⟨-, k2⟩ := clk hI h0 h1 (c := r) (by omega) (by omega)
      refine s1_Canons_struckBy_7 (by omega) ?_
      rw [e25, x_mul (by omega), x_add (a := j * 12) (by omega), x_add (a := 12 * j + r) (by omega), r1]
      have ih := fun x => ih (r + 1) x (by omega)
      rw [show ((12 * j + (r + 1 : Nat) : Int)) = 12 * j + r + 1 by omega] at ih
      (repeat' (with_reducible first | refine And.intro ?_ ?_ | intro _))
      all_goals (try first | with_reducible rfl | with_reducible exact True.intro | with_reducible exact Or.inl True.intro | with_reducible exact Or.inr True.intro | omega | (exfalso; with_reducible assumption))
      · refine ih x (bset_cg hx (fun i _ => ?_))
        rw [strkN_succ]
        rw [show decide (D 16 (12 * j + r) = 2 ∧ D 17 (12 * j + r) = i) = false by simp; omega]
        simp
      · rename_i hk
        have k2 := k2 hk
        rw [r3 hk]
        obtain ⟨b, hb⟩ : ∃ b : Nat, D 17 (12 * j + r) = b := ⟨(D 17 (12 * j + r)).toNat, by omega⟩
        rw [hb]
        refine ih _ (bset_cg (bset_or hx (bset_one (by omega) (by decide)) (by decide)) (fun i _ => ?_))
        rw [strkN_succ, hk, hb]
        congr 1
        by_cases e : i = b
        · simp [e]
        · have : ¬ ((b : Int) = i) := by omega
          simp [e, this]
  have h := key (D 15 j).toNat 0 0 (by omega) (bset_cg bset_0 (fun i _ => rfl))
  rw [x_mul (by omega), show j * 12 = 12 * j + (0 : Nat) by omega]
  exact h
/-- what a canon lets, clause by clause -/
def letN (D : AM) (name j : Int) (r : Nat) (a : Int × Int) : Int × Int := (List.range r).foldl (letIn D name j) a
theorem letN_succ {D : AM} {name j : Int} {r : Nat} {a : Int × Int} : letN D name j (r + 1) a = letIn D name j (letN D name j r a) r := by
  unfold letN
  rw [List.range_succ, List.foldl_append]
  rfl
theorem s1_Canons_letAll {D M : AM} {j : Int} (hI : Inv D) (hC : CB D M) (h0 : 0 ≤ j) (h1 : j < D 0 18) : aCv s1_G 4 9 [aP 24, aI j] M (fun M' => fr (wr [33, 34] []) M M' ∧ ∀ k, 0 ≤ k → k < 8 → (M' 33 k, M' 34 k) = letN D k j (D 15 j).toNat (M 33 k, M 34 k)) := by
  refine ⟨Nat.le_of_ble_eq_true rfl, fun d hd => ?_⟩
  refine s1_Canons_letAll_0 (by omega) ?_
  have hn := Inv_cn hI
  have hl := Inv_cl hI j h0 h1
  have key : ∀ (m r : Nat) (M1 : AM), (r : Int) + m = D 15 j → fr (wr [33, 34] []) M M1 → (∀ k, 0 ≤ k → k < 8 → (M1 33 k, M1 34 k) = letN D k j r (M 33 k, M 34 k)) → aE s1_G d 9 5 [] [some (aP 24), some (aI j), some (aI (12 * j + r))] [] M1 (fun q M' => q = none ∧ fr (wr [33, 34] []) M M' ∧ ∀ k, 0 ≤ k → k < 8 → (M' 33 k, M' 34 k) = letN D k j (D 15 j).toNat (M 33 k, M 34 k)) := by
    intro m
    induction m with
    | zero =>
      intro r M1 hm hf hx
      have hC1 := CB_fw hC hf rfl
      have e25 := (CB_ca hC1 j h0 h1).1
      refine s1_Canons_letAll_5 (by omega) ?_
      rw [e25, x_mul (by omega), x_add (a := j * 12) (by omega)]
      refine ⟨by omega, fun _ => ⟨rfl, hf, ?_⟩, fun h => absurd h (by omega)⟩
      rw [show r = (D 15 j).toNat by omega] at hx
      exact hx
    | succ m ih =>
      intro r M1 hm hf hx
      have hC1 := CB_fw hC hf rfl
      have e25 := (CB_ca hC1 j h0 h1).1
      obtain ⟨r1, r2, r3⟩ := CB_row hC1 h0 h1 (c := r) (by omega) (by omega)
      obtain ⟨k1, -⟩ := clk hI h0 h1 (c := r) (by omega) (by omega)
      refine s1_Canons_letAll_5 (by omega) ?_
      simp (decide := true) only [x_uc]
      rw [e25, x_mul (by omega), x_add (a := j * 12) (by omega), x_add (a := 12 * j + r) (by omega), r1]
      have ih := fun M1 => ih (r + 1) M1 (by omega)
      rw [show ((12 * j + (r + 1 : Nat) : Int)) = 12 * j + r + 1 by omega] at ih
      refine ⟨by omega, fun h => absurd h (by omega), fun _ => ⟨by omega, fun hk => ?_, fun hk => ?_⟩⟩
      · refine ih M1 hf (fun k a b => ?_)
        rw [letN_succ, ← hx k a b]
        unfold letIn
        rw [if_neg (by omega)]
      · have k1 := k1 hk
        rw [(r2 hk).1, (r2 hk).2]
        refine ⟨by omega, by omega, by omega, by omega, by omega, ?_⟩
        refine ih _ (fr_up (fr_up hf rfl) rfl) (fun k a b => ?_)
        rw [letN_succ, ← hx k a b]
        unfold letIn
        simp (decide := true) only [x_uk, x_uu]
        by_cases e : D 17 (12 * j + r) = k
        · rw [if_pos ⟨hk, e⟩, e, up1_s, up1_s]
        · rw [if_neg (by omega), up1_n (by omega), up1_n (by omega)]
  have h := key (D 15 j).toNat 0 M (by omega) fr_rf (fun k _ _ => rfl)
  rw [x_mul (by omega), show j * 12 = 12 * j + (0 : Nat) by omega]
  exact h
/-- what the canons of a row let -/
def forceL (D : AM) (l : List Int) (name : Int) : Int × Int := l.foldl (fun a j => letN D name j (D 15 j).toNat a) (at0 name, -1)
theorem force_L (D : AM) (day name : Int) : force D day name = forceL D (cord D day) name := rfl
theorem forceL_snoc {D : AM} {l : List Int} {j name : Int} : forceL D (l ++ [j]) name = letN D name j (D 15 j).toNat (forceL D l name) := by unfold forceL; rw [List.foldl_append]; rfl
abbrev wC : Nat → Int → Bool := wr [33, 34] [(24, 10), (24, 11)]
theorem s1_se_mark {D M : AM} {Q : Option AV → AM → Prop} {d : Nat} {day : Int} (hd : 5 ≤ d) (hI : Inv D) (hC : CB D M)
    (K : ∀ M', fr (wr [] [(24, 11)]) M M' → bset (M' 24 11) 10 (fun i => decide ((i : Int) < D 0 18) && isOn D day i) → aE s1_G d 7 78 [] [some (aP 24), none, none, some (aI 0)] [] M' Q) :
    ∀ (k m : Nat) (x : Int) (M1 : AM), (k : Int) + m = D 0 18 → fr (wr [] [(24, 11)]) M M1 → bset x 10 (fun i => !onmk D day m i) → bset (M1 24 11) 10 (fun i => decide (k ≤ i ∧ (i : Int) < D 0 18) && isOn D day i) → aE s1_G d 7 28 [] [some (aP 24), some (aI day), some (aI x), some (aI (k - 1))] [] M1 Q
  | 0, m, x, M1, hm, hf, hx, hc => by
    refine s1_Canons_settle_28 (by omega) ?_
    refine ⟨fun _ => K M1 hf (bset_cg hc (fun i _ => by simp)), fun h => absurd h (by omega)⟩
  | k + 1, m, x, M1, hm, hf, hx, hc => by
    have hn := Inv_cn hI
    have hC1 := CB_fw hC hf rfl
    have ih := fun x M1 => s1_se_mark hd hI hC K k (m + 1) x M1 (by omega)
    have ec : (D 0 18 - m - 1) = (k : Int) := by omega
    have hg := bset_get (c := k) hx (by omega) (by decide)
    have hst : onmk D day (D 0 18).toNat k = onmk D day m k := by
      rw [onmk_stab hI day (c := k) (by omega) (by omega) (D 0 18).toNat (by omega) (by omega), show (D 0 18 - 1 - (k : Int)).toNat = m by omega]
    have hcnt : ∀ b : Bool, isOn D day k = b → ∀ i : Nat, (decide (k + 1 ≤ i ∧ (i : Int) < D 0 18) && isOn D day i || (decide (i = k) && b)) = (decide (k ≤ i ∧ (i : Int) < D 0 18) && isOn D day i) := by
      intro b hb i
      by_cases e : i = k
      · subst e
        have h1 : ((i : Int) < D 0 18) := by omega
        simp [h1, hb]
      · by_cases h : k + 1 ≤ i
        · have h2 : k ≤ i := by omega
          simp [h, h2, e]
        · have h2 : ¬ k ≤ i := by omega
          simp [h, h2, e]
    refine s1_Canons_settle_28 (by omega) ?_
    rw [show ((k + 1 : Nat) : Int) - 1 = (k : Int) by omega, CB_cf hC1, x_add (by omega), show (k : Int) + -1 = k - 1 by omega, hg]
    refine ⟨fun h => absurd h (by omega), fun _ => ⟨by omega, fun hday => ?_, fun hday => ⟨fun hs => ?_, fun hs => ?_⟩⟩⟩
    · have ho : isOn D day k = false := by unfold isOn; rw [show decide (D 14 k ≤ day) = false by simp; omega]; rfl
      refine ih x M1 hf (bset_cg hx (fun i _ => ?_)) (bset_cg hc (fun i _ => ?_))
      · show (!onmk D day m i) = !(onmk D day m i && _)
        rw [ec, show decide (D 14 k ≤ day) = false by simp; omega]
        simp
      · have := hcnt false ho i
        rw [← this]
        simp
    · have hs : onmk D day m k = false := by
        cases e : onmk D day m k
        · rfl
        · rw [e] at hs; exact absurd rfl hs
      have ho : isOn D day k = false := by unfold isOn; rw [hst, hs]; simp
      refine ih x M1 hf (bset_cg hx (fun i _ => ?_)) (bset_cg hc (fun i _ => ?_))
      · show (!onmk D day m i) = !(onmk D day m i && _)
        rw [ec, hs]
        simp
      · have := hcnt false ho i
        rw [← this]
        simp
    · have hs : onmk D day m k = true := by
        cases e : onmk D day m k
        · rw [e] at hs; exact absurd hs (by decide)
        · rfl
      have ho : isOn D day k = true := by unfold isOn; rw [hst, hs]; simp; omega
      have f2 : fr (wr [] [(24, 11)]) M1 (am_up M1 24 11 (a_or (M1 24 11) (a_shl 1 k))) := fr_up fr_rf rfl
      refine aKi_of (s1_Canons_struckBy hI (CB_fw hC1 f2 rfl) (j := k) (by omega) (by omega)) (by omega) (fun z M2 q => ?_)
      obtain ⟨rfl, hz⟩ := q
      refine ih _ _ (fr_tr hf f2) (bset_cg (bset_or hx hz (by decide)) (fun i _ => ?_)) ?_
      · show (!onmk D day m i || strk D k i) = !(onmk D day m i && _)
        rw [ec, hs, show decide (D 14 k ≤ day) = true by simp; omega]
        simp
      · rw [x_us]
        refine bset_cg (bset_or hc (bset_one (c := k) (by omega) (by decide)) (by decide)) (fun i _ => ?_)
        have := hcnt true ho i
        rw [← this]
        simp
theorem s1_se_first {M : AM} {Q : Option AV → AM → Prop} {d : Nat} (hd : 5 ≤ d)
    (K : ∀ M', fr (wr [33, 34] []) M M' → (∀ k, 0 ≤ k → k < 8 → (M' 33 k, M' 34 k) = (at0 k, -1)) → aE s1_G d 7 110 [] [some (aP 24), none, none, some (aI 0)] [] M' Q) :
    ∀ (m : Nat) (x : Int) (M1 : AM), 0 ≤ x → x + m = 8 → fr (wr [33, 34] []) M M1 → (∀ k, 0 ≤ k → k < x → (M1 33 k, M1 34 k) = (at0 k, -1)) → aE s1_G d 7 78 [] [some (aP 24), none, none, some (aI x)] [] M1 Q
  | 0, x, M1, h0, hm, hf, hz => by
    refine s1_Canons_settle_78 (by omega) ⟨fun _ => K M1 hf (fun k a b => hz k a (by omega)), fun h => absurd h (by omega)⟩
  | m + 1, x, M1, h0, hm, hf, hz => by
    refine s1_Canons_settle_78 (by omega) ⟨fun h => absurd h (by omega), fun _ => ⟨by omega, by omega, by omega, ?_⟩⟩
    rw [x_add (by omega)]
    refine s1_se_first hd K m (x + 1) _ (by omega) (by omega) (fr_up (fr_up hf rfl) rfl) (fun k a b => ?_)
    simp (decide := true) only [x_uk, x_uu]
    by_cases e : k = x
    · subst e
      rw [up1_s, up1_s]
      have hc : k = 0 ∨ k = 1 ∨ k = 2 ∨ k = 3 ∨ k = 4 ∨ k = 5 ∨ k = 6 ∨ k = 7 := by omega
      rcases hc with rfl | rfl | rfl | rfl | rfl | rfl | rfl | rfl <;> rfl
    · rw [up1_n e, up1_n e]; exact hz k a (by omega)
theorem s1_Canons_isCounting {D M : AM} {day : Int} {c : Int} (hc : bset (M 24 11) 10 (fun i => decide ((i : Int) < D 0 18) && isOn D day i)) (h0 : 0 ≤ c) (h1 : c < D 0 18) (hn : D 0 18 ≤ 10) : aCi s1_G 4 5 [aP 24, aI c] M (fun z M' => M' = M ∧ z = bI (isOn D day c)) := by
  refine ⟨Nat.le_of_ble_eq_true rfl, fun d hd => ?_⟩
  refine s1_Canons_isCounting_0 (by omega) ?_
  obtain ⟨b, rfl⟩ := Int.eq_ofNat_of_zero_le h0
  have hg := bset_get (c := b) hc (by omega) (by decide)
  rw [show decide ((b : Int) < D 0 18) = true by simpa using h1, Bool.true_and] at hg
  rw [hg]
  cases e : isOn D day b
  · exact ⟨fun _ => ⟨Or.inl rfl, _, rfl, rfl, rfl⟩, fun h => absurd h (by decide)⟩
  · exact ⟨fun h => absurd rfl h, fun _ => ⟨Or.inr rfl, _, rfl, rfl, rfl⟩⟩
theorem s1_se_let {D M : AM} {d : Nat} {day : Int} (hd : 5 ≤ d) (hI : Inv D) (hC : CB D M) (hc : bset (M 24 11) 10 (fun i => decide ((i : Int) < D 0 18) && isOn D day i)) :
    ∀ (suf pre : List Int) (M1 : AM), srt (D 14) (D 0 18).toNat = pre ++ suf → fr (wr [33, 34] []) M M1 → (∀ k, 0 ≤ k → k < 8 → (M1 33 k, M1 34 k) = forceL D (pre.filter (isOn D day)) k) →
      aE s1_G d 7 110 [] [some (aP 24), none, none, some (aI pre.length)] [] M1 (fun r M' => r = none ∧ fr (wr [33, 34] []) M M' ∧ ∀ k, 0 ≤ k → k < 8 → (M' 33 k, M' 34 k) = force D day k) := by
  intro suf
  have hn := Inv_cn hI
  have hlen0 : (srt (D 14) (D 0 18).toNat).length = (D 0 18).toNat := srt_len _
  induction suf with
  | nil =>
    intro pre M1 e hf hg
    rw [List.append_nil] at e
    have hl : (pre.length : Int) = D 0 18 := by rw [← e, hlen0]; omega
    refine s1_Canons_settle_110 (by omega) ?_
    rw [CB_cn (CB_fw hC hf rfl)]
    refine ⟨fun _ => ⟨rfl, hf, ?_⟩, fun h => absurd h (by omega)⟩
    rw [← e] at hg
    exact hg
  | cons a suf ih =>
    intro pre M1 e hf hg
    have hl : (pre.length : Int) + 1 + suf.length = D 0 18 := by
      have := congrArg List.length e
      rw [hlen0, List.length_append, List.length_cons] at this
      omega
    have hC1 := CB_fw hC hf rfl
    have hby := CB_cb hC1
    rw [e] at hby
    have ha : M1 27 pre.length = a := isL_mid hby
    have har : 0 ≤ a ∧ a < D 0 18 := by
      have := (srt_mem (d := D 14) (D 0 18).toNat a).mp (by rw [e]; simp)
      omega
    have ih := ih (pre ++ [a])
    rw [List.length_append, List.filter_append] at ih
    refine s1_Canons_settle_110 (by omega) ?_
    rw [CB_cn hC1, ha, x_add (by omega)]
    refine ⟨fun h => absurd h (by omega), fun _ => ⟨by omega, ?_⟩⟩
    refine aKi_of (s1_Canons_isCounting (D := D) (day := day) (c := a) (by rw [hf 24 11 rfl]; exact hc) har.1 har.2 hn.2) (by omega) (fun z M2 q => ?_)
    obtain ⟨rfl, rfl⟩ := q
    cases eb : isOn D day a
    · refine ⟨fun _ => ?_, fun h => absurd rfl h⟩
      have e2 : List.filter (isOn D day) [a] = [] := by simp [eb]
      rw [e2, List.append_nil] at ih
      exact ih M2 (by rw [e]; simp) hf hg
    · refine ⟨fun h => absurd h (by decide), fun _ => ⟨by omega, ?_⟩⟩
      have e2 : List.filter (isOn D day) [a] = [a] := by simp [eb]
      rw [e2] at ih
      rw [ha]
      refine aKv_of (s1_Canons_letAll hI hC1 har.1 har.2) (by omega) (fun M3 q => ?_)
      obtain ⟨f3, h3⟩ := q
      refine ih M3 (by rw [e]; simp) (fr_tr hf f3) (fun k k0 k1 => ?_)
      rw [h3 k k0 k1, forceL_snoc, hg k k0 k1]
theorem B1_settle {D M M' : AM} (hB : B1 D M) (g : fr wC M M') (hS : SetC D (M' 24 10) (M' 24 11) (M' 33) (M' 34)) : B1 D M' := by
  have gD : fr (wr [] []) D D := fr_rf
  refine ⟨?_, G1_fw (B1_G hB) gD g rfl, P1_fw (B1_P hB) gD g rfl, ?_, R1_fw (B1_R hB) gD g rfl, S1_fw (B1_S hB) gD g rfl, F1_fw (B1_F hB) gD g rfl, E1_fw (B1_E hB) gD g rfl⟩
  · rw [g 0 10 rfl]; exact B1_now hB
  · obtain ⟨h1, h2, h3, h4⟩ := CB_fw (CB_of hB) g rfl
    exact ⟨h1, h2, h3, h4, hS⟩
theorem s1_Canons_settle {D M : AM} {day : Int} (hI : Inv D) (hB : B1 D M) (hd0 : 0 ≤ day) : aCv s1_G 6 7 [aP 24, aI day] M (fun M' => fr wC M M' ∧ B1 D M' ∧ M' 24 10 = day) := by
  refine ⟨Nat.le_of_ble_eq_true rfl, fun d hd => ?_⟩
  refine s1_Canons_settle_0 (by omega) ?_
  have hn := Inv_cn hI
  refine ⟨fun _ => ?_, fun h => ⟨rfl, fr_rf, hB, h⟩⟩
  have f0 : fr (wr [] [(24, 10), (24, 11)]) M (am_up (am_up M 24 10 day) 24 11 0) := fr_up (fr_up fr_rf rfl) rfl
  have hC0 := CB_fw (CB_of hB) f0 rfl
  rw [CB_cn hC0, x_sub (by omega)]
  have h := s1_se_mark (M := am_up (am_up M 24 10 day) 24 11 0) (Q := fun r M' => r = none ∧ fr wC M M' ∧ B1 D M' ∧ M' 24 10 = day) (d := d) (day := day) (by omega) hI hC0 (fun M1 f1 hc => ?_) (D 0 18).toNat 0 0 _ (by omega) fr_rf (bset_cg bset_0 (fun i _ => rfl)) (by
    rw [x_us]
    refine bset_cg bset_0 (fun i _ => ?_)
    rw [show decide ((D 0 18).toNat ≤ i ∧ (i : Int) < D 0 18) = false by simp <;> omega]
    rfl)
  · rw [show (((D 0 18).toNat : Nat) : Int) = D 0 18 by omega] at h
    exact h
  · refine s1_se_first (M := M1) (by omega) (fun M2 f2 hz => ?_) 8 0 M1 (by omega) (by omega) fr_rf (fun k a b => by omega)
    have hC2 := CB_fw (CB_fw hC0 f1 rfl) f2 rfl
    have hc2 : bset (M2 24 11) 10 (fun i => decide ((i : Int) < D 0 18) && isOn D day i) := by rw [f2 24 11 rfl]; exact hc
    have h := s1_se_let (d := d) (day := day) (by omega) hI hC2 hc2 (srt (D 14) (D 0 18).toNat) [] M2 rfl fr_rf (fun k a b => hz k a b)
    refine aE_mono _ _ _ _ _ _ _ _ _ (fun r M' q => ?_) h
    obtain ⟨q1, f3, hg⟩ := q
    have g : fr wC M M' := fr_tr (fr_mo f0 rfl) (fr_tr (fr_mo f1 rfl) (fr_tr (fr_mo f2 rfl) (fr_mo f3 rfl)))
    have e10 : M' 24 10 = day := by rw [f3 24 10 rfl, f2 24 10 rfl, f1 24 10 rfl, x_uf (by decide), x_us]
    have e11 : M' 24 11 = M2 24 11 := f3 24 11 rfl
    refine ⟨q1, g, B1_settle hB g ?_, e10⟩
    rw [e10, e11]
    refine Or.inr ⟨hd0, ⟨hc2.1, by have := hc2.2.1; omega, fun c hcn => ?_⟩, fun k a b => ?_⟩
    · rw [hc2.2.2 c (by omega)]
      simp [hcn]
    · have := hg k a b
      exact ⟨congrArg Prod.fst this, congrArg Prod.snd this⟩
theorem B1_set {D M : AM} {day : Int} (hB : B1 D M) (hw : M 24 10 = day) (h0 : 0 ≤ day) : (∀ c : Int, 0 ≤ c → c < D 0 18 → (M 24 11).toNat.testBit c.toNat = isOn D day c) ∧ (0 ≤ M 24 11 ∧ M 24 11 < 1024) ∧ ∀ k, 0 ≤ k → k < 8 → M 33 k = (force D day k).1 ∧ M 34 k = (force D day k).2 := by
  rcases B1_se hB with h | ⟨-, ⟨h1, h2, h3⟩, h4⟩
  · omega
  · rw [hw] at h3 h4
    refine ⟨fun c c0 c1 => ?_, ⟨h1, h2⟩, h4⟩
    have := h3 c.toNat (by omega)
    rw [show ((c.toNat : Nat) : Int) = c by omega] at this
    exact this
theorem s1_Canons_numberOn {D M : AM} {name day : Int} (hI : Inv D) (hB : B1 D M) (hd0 : 0 ≤ day) (hk : 0 ≤ name ∧ name < 8) : aCi s1_G 7 6 [aP 24, aI name, aI day] M (fun z M' => fr wC M M' ∧ B1 D M' ∧ M' 24 10 = day ∧ z = (force D day name).1) := by
  refine ⟨Nat.le_of_ble_eq_true rfl, fun d hd => ?_⟩
  refine s1_Canons_numberOn_0 (by omega) ?_
  refine aKv_of (s1_Canons_settle hI hB hd0) (by omega) (fun M1 q => ?_)
  obtain ⟨q1, q2, q3⟩ := q
  exact ⟨hk, _, rfl, q1, q2, q3, ((B1_set q2 q3 hd0).2.2 name hk.1 hk.2).1⟩
