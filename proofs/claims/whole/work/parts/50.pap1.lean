/-! THE BOOK in the first system -/
abbrev wO : Nat → Int → Bool := wr [15, 16, 17] [(6, 9), (6, 12)]
/-- what of the papers stays while a book is looked up -/
def PB (D : AM) (M : AM) : Prop :=
  (M 6 7 = D 0 7) ∧
  (M 7 = D 5) ∧
  (M 8 = D 6) ∧
  (M 9 = D 7) ∧
  (M 10 = D 8) ∧
  (M 11 = D 9) ∧
  (M 12 = D 10) ∧
  (M 13 = D 11) ∧
  (isL (M 14) (srt (D 6) (D 0 7).toNat))
theorem PB_pn {D : AM} {M : AM} (h : PB D  M ) : M 6 7 = D 0 7 := h.1
theorem PB_pk {D : AM} {M : AM} (h : PB D  M ) : M 7 = D 5 := h.2.1
theorem PB_pd {D : AM} {M : AM} (h : PB D  M ) : M 8 = D 6 := h.2.2.1
theorem PB_pt {D : AM} {M : AM} (h : PB D  M ) : M 9 = D 7 := h.2.2.2.1
theorem PB_pl {D : AM} {M : AM} (h : PB D  M ) : M 10 = D 8 := h.2.2.2.2.1
theorem PB_pp {D : AM} {M : AM} (h : PB D  M ) : M 11 = D 9 := h.2.2.2.2.2.1
theorem PB_pq {D : AM} {M : AM} (h : PB D  M ) : M 12 = D 10 := h.2.2.2.2.2.2.1
theorem PB_pv {D : AM} {M : AM} (h : PB D  M ) : M 13 = D 11 := h.2.2.2.2.2.2.2.1
theorem PB_by {D : AM} {M : AM} (h : PB D  M ) : isL (M 14) (srt (D 6) (D 0 7).toNat) := h.2.2.2.2.2.2.2.2
theorem PB_of {D M : AM} (h : B1 D M) : PB D M := ⟨B1_pn h, B1_pk h, B1_pd h, B1_pt h, B1_pl h, B1_pp h, B1_pq h, B1_pv h, B1_by h⟩
theorem PB_fw {D M M' : AM} {cs : List Nat} {fs : List (Nat × Int)} (h : PB D M) (g : fr (wr cs fs) M M') (e : sepL [7, 8, 9, 10, 11, 12, 13, 14] [(6, 7)] cs fs = true) : PB D M' := by
  have m7 : M' 7 = M 7 := fr_c g e rfl
  have m8 : M' 8 = M 8 := fr_c g e rfl
  have m9 : M' 9 = M 9 := fr_c g e rfl
  have m10 : M' 10 = M 10 := fr_c g e rfl
  have m11 : M' 11 = M 11 := fr_c g e rfl
  have m12 : M' 12 = M 12 := fr_c g e rfl
  have m13 : M' 13 = M 13 := fr_c g e rfl
  have m14 : M' 14 = M 14 := fr_c g e rfl
  have m6 : M' 6 7 = M 6 7 := fr_f g e rfl
  unfold PB at h ⊢
  simp only [m7, m8, m9, m10, m11, m12, m13, m14, m6]
  exact h
theorem s1_mv_zero {D M : AM} {Q : Option AV → AM → Prop} {d : Nat} {w : Int} (hd : 4 ≤ d) (hI : Inv D) (hP : PB D M)
    (K : ∀ M', fr (wr [15] []) M M' → (∀ i, 0 ≤ i → i < D 0 7 → M' 15 i = 0) → aE s1_G d 32 30 [] [some (aP 6), some (aI w), some (aI (D 0 7 - 1))] [] M' Q) :
    ∀ (m : Nat) (x : Int) (M1 : AM), 0 ≤ x → x + m = D 0 7 → fr (wr [15] []) M M1 → (∀ i, 0 ≤ i → i < x → M1 15 i = 0) → aE s1_G d 32 2 [] [some (aP 6), some (aI w), some (aI x)] [] M1 Q
  | 0, x, M1, h0, hm, hf, hz => by
    have hn := Inv_pn hI
    refine s1_Papers_markVoid_2 (by omega) ?_
    rw [PB_pn (PB_fw hP hf rfl), x_sub (by omega)]
    (repeat' (with_reducible first | refine And.intro ?_ ?_ | intro _))
    all_goals (try first | with_reducible rfl | with_reducible exact True.intro | with_reducible exact Or.inl True.intro | with_reducible exact Or.inr True.intro | omega | (exfalso; with_reducible assumption))
    exact K M1 hf (fun i a b => hz i a (by omega))
  | m + 1, x, M1, h0, hm, hf, hz => by
    have hn := Inv_pn hI
    refine s1_Papers_markVoid_2 (by omega) ?_
    rw [PB_pn (PB_fw hP hf rfl), x_add (by omega)]
    (repeat' (with_reducible first | refine And.intro ?_ ?_ | intro _))
    all_goals (try first | with_reducible rfl | with_reducible exact True.intro | with_reducible exact Or.inl True.intro | with_reducible exact Or.inr True.intro | omega | (exfalso; with_reducible assumption))
    refine s1_mv_zero hd hI hP K m (x + 1) _ (by omega) (by omega) (fr_up hf rfl) (fun i a b => ?_)
    rw [x_uu]
    by_cases e : i = x
    · subst e; exact up1_s
    · rw [up1_n e]; exact hz i a (by omega)
theorem s1_mv_mark {D M : AM} {d : Nat} {w : Int} (hd : 4 ≤ d) (hI : Inv D) (hP : PB D M) :
    ∀ (m : Nat) (M1 : AM), (m : Int) ≤ D 0 7 → fr (wr [15] []) M M1 → vmk (D 7) (D 5) (D 11) w m (M1 15) = vmk (D 7) (D 5) (D 11) w (D 0 7).toNat (M 15) → aE s1_G d 32 30 [] [some (aP 6), some (aI w), some (aI (m - 1))] [] M1 (fun r M' => r = none ∧ fr (wr [15] []) M M' ∧ M' 15 = vmk (D 7) (D 5) (D 11) w (D 0 7).toNat (M 15))
  | 0, M1, hm, hf, hv => by
    refine s1_Papers_markVoid_30 (by omega) ?_
    (repeat' (with_reducible first | refine And.intro ?_ ?_ | intro _))
    all_goals (try first | with_reducible rfl | with_reducible exact True.intro | with_reducible exact Or.inl True.intro | with_reducible exact Or.inr True.intro | omega | (exfalso; with_reducible assumption))
    all_goals first | exact hf | exact hv
  | m + 1, M1, hm, hf, hv => by
    have hn := Inv_pn hI
    have hP1 := PB_fw hP hf rfl
    refine s1_Papers_markVoid_30 (by omega) ?_
    rw [x_add (by omega), PB_pt hP1, PB_pk hP1, PB_pv hP1]
    rw [show ((m + 1 : Nat) : Int) - 1 + -1 = (m : Int) - 1 by omega, show ((m + 1 : Nat) : Int) - 1 = (m : Int) by omega]
    have hV := Inv_hV hI m (by omega) (by omega)
    rw [show vmk (D 7) (D 5) (D 11) w (m + 1) (M1 15) = vmk (D 7) (D 5) (D 11) w m (vstep (D 7) (D 5) (D 11) w m (M1 15)) from rfl] at hv
    unfold vstep at hv
    (repeat' (with_reducible first | refine And.intro ?_ ?_ | intro _))
    all_goals (try first | with_reducible rfl | with_reducible exact True.intro | with_reducible exact Or.inl True.intro | with_reducible exact Or.inr True.intro | omega | (exfalso; with_reducible assumption))
    · rw [if_neg (by omega)] at hv
      exact s1_mv_mark hd hI hP m M1 (by omega) hf hv
    · rw [if_neg (by omega)] at hv
      exact s1_mv_mark hd hI hP m M1 (by omega) hf hv
    · rw [if_neg (by omega)] at hv
      exact s1_mv_mark hd hI hP m M1 (by omega) hf hv
    · rw [if_pos (by omega)] at hv
      refine s1_mv_mark hd hI hP m _ (by omega) (fr_up hf rfl) ?_
      rw [x_uu]
      exact hv
theorem s1_Papers_markVoid {D M : AM} {w : Int} (hI : Inv D) (hP : PB D M) : aCv s1_G 4 32 [aP 6, aI w] M (fun M' => fr (wr [15] []) M M' ∧ ∀ i, 0 ≤ i → i < D 0 7 → M' 15 i = vd D w i) := by
  refine ⟨Nat.le_of_ble_eq_true rfl, fun d hd => ?_⟩
  refine s1_Papers_markVoid_0 (by omega) ?_
  have hn := Inv_pn hI
  refine s1_mv_zero hd hI hP (fun M1 hf1 hz => ?_) (D 0 7).toNat 0 M (by omega) (by omega) fr_rf (fun i a b => by omega)
  have h := s1_mv_mark (w := w) hd hI (PB_fw hP hf1 rfl) (D 0 7).toNat M1 (by omega) fr_rf rfl
  rw [show (((D 0 7).toNat : Nat) : Int) = D 0 7 by omega] at h
  refine aE_mono _ _ _ _ _ _ _ _ _ (fun r M' q => ?_) h
  obtain ⟨q1, q2, q3⟩ := q
  refine ⟨q1, fr_tr hf1 q2, fun i a b => ?_⟩
  rw [q3]
  exact vmk_cg (D 0 7) _ _ _ (by omega) (fun i a b => hz i a b) i a b
theorem s1_Papers_isInBook {D M : AM} {w i : Int} (hP : PB D M) (hw : M 6 9 = w) (hV : ∀ i, 0 ≤ i → i < D 0 7 → M 15 i = vd D w i) (hi : 0 ≤ i ∧ i < D 0 7) (hn : D 0 7 ≤ 150) : aCi s1_G 4 34 [aP 6, aI i] M (fun z M' => M' = M ∧ z = bI (inB D w i)) := by
  refine ⟨Nat.le_of_ble_eq_true rfl, fun d hd => ?_⟩
  refine s1_Papers_isInBook_0 (by omega) ?_
  rw [hw, PB_pt hP, hV i hi.1 hi.2]
  unfold inB
  (repeat' (with_reducible first | refine And.intro ?_ ?_ | intro _))
  all_goals (try first | with_reducible rfl | with_reducible exact True.intro | with_reducible exact Or.inl True.intro | with_reducible exact Or.inr True.intro | omega | (exfalso; with_reducible assumption))
  · refine ⟨_, rfl, by trivial, ?_⟩; rw [show decide (D 7 i ≤ w ∧ vd D w i = 0) = false by simp; omega]; rfl
  · refine ⟨_, rfl, by trivial, ?_⟩; rw [show decide (D 7 i ≤ w ∧ vd D w i = 0) = false by simp; omega]; rfl
  · refine ⟨_, rfl, by trivial, ?_⟩; rw [show decide (D 7 i ≤ w ∧ vd D w i = 0) = true by simp; omega]; rfl
theorem s1_op_in {M : AM} {Q : Option AV → AM → Prop} {d : Nat} {k : Int} (hd : 4 ≤ d) (hk : 0 ≤ k ∧ k < 6)
    (K : ∀ M', fr (wr [17] []) M M' → (∀ j, 0 ≤ j → j < (k + 1) * 40 → M' 17 j = -1) → aE s1_G d 31 21 [] [some (aP 6), none, some (aI (k + 1)), none] [] M' Q) :
    ∀ (m : Nat) (p : Int) (M1 : AM), 0 ≤ p → p + m = 40 → fr (wr [17] []) M M1 → (∀ j, 0 ≤ j → j < k * 40 + p → M1 17 j = -1) → aE s1_G d 31 28 [] [some (aP 6), none, some (aI k), some (aI p)] [] M1 Q
  | 0, p, M1, h0, hm, hf, hz => by
    refine s1_Papers_open_28 (by omega) ?_
    rw [x_add (by omega)]
    (repeat' (with_reducible first | refine And.intro ?_ ?_ | intro _))
    all_goals (try first | with_reducible rfl | with_reducible exact True.intro | with_reducible exact Or.inl True.intro | with_reducible exact Or.inr True.intro | omega | (exfalso; with_reducible assumption))
    exact K M1 hf (fun j a b => hz j a (by omega))
  | m + 1, p, M1, h0, hm, hf, hz => by
    refine s1_Papers_open_28 (by omega) ?_
    rw [x_add (a := p) (by omega)]
    (repeat' (with_reducible first | refine And.intro ?_ ?_ | intro _))
    all_goals (try first | with_reducible rfl | with_reducible exact True.intro | with_reducible exact Or.inl True.intro | with_reducible exact Or.inr True.intro | omega | (exfalso; with_reducible assumption))
    refine s1_op_in hd hk K m (p + 1) _ (by omega) (by omega) (fr_up hf rfl) (fun j a b => ?_)
    rw [x_uu]
    by_cases e : j = k * 40 + p
    · subst e; exact up1_s
    · rw [up1_n e]; exact hz j a (by omega)
theorem s1_op_out {M : AM} {Q : Option AV → AM → Prop} {d : Nat} (hd : 4 ≤ d)
    (K : ∀ M', fr (wr [17] [(6, 12)]) M M' → M' 6 12 = 0 → (∀ j, 0 ≤ j → j < 240 → M' 17 j = -1) → aE s1_G d 31 62 [] [some (aP 6), none, some (aI 0), none] [] M' Q) :
    ∀ (m : Nat) (k : Int) (M1 : AM), 0 ≤ k → k + m = 6 → fr (wr [17] []) M M1 → (∀ j, 0 ≤ j → j < k * 40 → M1 17 j = -1) → aE s1_G d 31 21 [] [some (aP 6), none, some (aI k), none] [] M1 Q
  | 0, k, M1, h0, hm, hf, hz => by
    refine s1_Papers_open_21 (by omega) ?_
    (repeat' (with_reducible first | refine And.intro ?_ ?_ | intro _))
    all_goals (try first | with_reducible rfl | with_reducible exact True.intro | with_reducible exact Or.inl True.intro | with_reducible exact Or.inr True.intro | omega | (exfalso; with_reducible assumption))
    exact K _ (fr_up (fr_mo hf rfl) rfl) x_us (fun j a b => by rw [x_uk (by decide)]; exact hz j a (by omega))
  | m + 1, k, M1, h0, hm, hf, hz => by
    refine s1_Papers_open_21 (by omega) ?_
    (repeat' (with_reducible first | refine And.intro ?_ ?_ | intro _))
    all_goals (try first | with_reducible rfl | with_reducible exact True.intro | with_reducible exact Or.inl True.intro | with_reducible exact Or.inr True.intro | omega | (exfalso; with_reducible assumption))
    refine s1_op_in hd (by omega) (fun M' hf' hz' => ?_) 40 0 M1 (by omega) (by omega) fr_rf (fun j a b => hz j a (by omega))
    exact s1_op_out hd K m (k + 1) M' (by omega) (by omega) (fr_tr hf hf') hz'
/-- the looked-up page, as far as it is filled -/
def pgF (D : AM) (l : List Int) (first : Int → Int) : Prop := ∀ k p, 0 ≤ k → k < 6 → 0 ≤ p → p < 40 → first (k * 40 + p) = dayOn D l k p
theorem s1_op_loop {D M : AM} {d : Nat} {w : Int} (hd : 5 ≤ d) (hI : Inv D) (hP : PB D M) (hw : M 6 9 = w) (hV : ∀ i, 0 ≤ i → i < D 0 7 → M 15 i = vd D w i) :
    ∀ (suf pre : List Int) (M1 : AM), srt (D 6) (D 0 7).toNat = pre ++ suf → fr (wr [16, 17] [(6, 12)]) M M1 → isB (M1 6 12) (M1 16) (pre.filter (inB D w)) → pgF D (pre.filter (inB D w)) (M1 17) →
      aE s1_G d 31 62 [] [some (aP 6), none, some (aI pre.length), none] [] M1 (fun r M' => r = none ∧ fr (wr [16, 17] [(6, 12)]) M M' ∧ isB (M' 6 12) (M' 16) (bk D w) ∧ pgF D (bk D w) (M' 17)) := by
  intro suf
  have hn := Inv_pn hI
  have hlen0 : (srt (D 6) (D 0 7).toNat).length = (D 0 7).toNat := srt_len _
  induction suf with
  | nil =>
    intro pre M1 e hf hb hg
    rw [List.append_nil] at e
    have hl : (pre.length : Int) = D 0 7 := by rw [← e, hlen0]; omega
    refine s1_Papers_open_62 (by omega) ?_
    rw [PB_pn (PB_fw hP hf rfl)]
    refine ⟨fun _ => ⟨rfl, hf, ?_, ?_⟩, fun h => absurd h (by omega)⟩
    · unfold bk; rw [e]; exact hb
    · unfold bk; rw [e]; exact hg
  | cons a suf ih =>
    intro pre M1 e hf hb hg
    have hl : (pre.length : Int) + 1 + suf.length = D 0 7 := by
      have := congrArg List.length e
      rw [hlen0, List.length_append, List.length_cons] at this
      omega
    have hP1 := PB_fw hP hf rfl
    have hby := PB_by hP1
    rw [e] at hby
    have ha : M1 14 pre.length = a := isL_mid hby
    have har : 0 ≤ a ∧ a < D 0 7 := by
      have := (srt_mem (d := D 6) (D 0 7).toNat a).mp (by rw [e]; simp)
      omega
    have hfl : ((pre.filter (inB D w)).length : Int) ≤ pre.length := by
      have := List.length_filter_le (inB D w) pre
      omega
    have ih := ih (pre ++ [a])
    rw [List.length_append, List.filter_append] at ih
    refine s1_Papers_open_62 (by omega) ?_
    rw [PB_pn hP1, ha, x_add (a := (pre.length : Int)) (by omega)]
    refine ⟨fun h => absurd h (by omega), fun _ => ⟨by omega, ?_⟩⟩
    refine aKi_of (s1_Papers_isInBook (w := w) hP1 (by rw [hf 6 9 rfl]; exact hw) (fun i x y => by rw [hf 15 i rfl]; exact hV i x y) har hn.2) (by omega) (fun z M2 q => ?_)
    obtain ⟨rfl, rfl⟩ := q
    cases eb : inB D w a
    · refine ⟨fun _ => ?_, fun h => absurd rfl h⟩
      have e2 : List.filter (inB D w) [a] = [] := by simp [eb]
      rw [e2, List.append_nil] at ih
      exact ih M2 (by rw [e]; simp) hf hb hg
    · refine ⟨fun h => absurd h (by decide), fun _ => ?_⟩
      have e2 : List.filter (inB D w) [a] = [a] := by simp [eb]
      rw [e2] at ih
      simp (decide := true) only [x_uc, x_us, x_uf]
      rw [hb.1, PB_pk hP1, PB_pp hP1, PB_pd hP1, x_add (by omega)]
      have hk := Inv_pk hI a
      have hPp := Inv_hP hI a har.1 har.2
      have hnp := Inv_np hI
      have hb' : isB ((pre.filter (inB D w)).length + 1) (up1 (M2 16) ((pre.filter (inB D w)).length) a) (pre.filter (inB D w) ++ [a]) := ⟨by simp, isL_snoc hb.2 rfl⟩
      (repeat' (with_reducible first | refine And.intro ?_ ?_ | intro _))
      all_goals (try first | with_reducible rfl | with_reducible exact True.intro | with_reducible exact Or.inl True.intro | with_reducible exact Or.inr True.intro | omega | (exfalso; with_reducible assumption))
      · refine ih _ (by rw [e]; simp) (fr_up (fr_up hf rfl) rfl) ?_ ?_
        · simp (decide := true) only [x_us, x_uk, x_uu]; exact hb'
        · simp (decide := true) only [x_us, x_uk, x_uu]
          intro k p k0 k1 p0 p1
          rw [dayOn_snoc3 (by omega)]
          exact hg k p k0 k1 p0 p1
      · refine ih _ (by rw [e]; simp) (fr_up (fr_up hf rfl) rfl) ?_ ?_
        · simp (decide := true) only [x_us, x_uk, x_uu]; exact hb'
        · simp (decide := true) only [x_us, x_uk, x_uu]
          intro k p k0 k1 p0 p1
          have hgk := hg k p k0 k1 p0 p1
          by_cases hc : D 5 a = k ∧ D 9 a = p
          · rw [dayOn_snoc2 (by rw [← hgk, ← hc.1, ← hc.2]; assumption)]
            exact hgk
          · rw [dayOn_snoc3 hc]; exact hgk
      · refine ih _ (by rw [e]; simp) (fr_up (fr_up (fr_up hf rfl) rfl) rfl) ?_ ?_
        · simp (decide := true) only [x_us, x_uk, x_uu, x_uc]; exact hb'
        · simp (decide := true) only [x_us, x_uk, x_uu, x_uc]
          intro k p k0 k1 p0 p1
          have hgk := hg k p k0 k1 p0 p1
          by_cases hc : D 5 a = k ∧ D 9 a = p
          · rw [← hc.1, ← hc.2, up1_s, dayOn_snoc (by
              rw [← hg (D 5 a) (D 9 a) (by omega) (by omega) (by omega) (by omega)]
              assumption) (fun i _ => (Inv_pd hI i).1), if_pos ⟨rfl, rfl⟩]
          · rw [up1_n (by omega), dayOn_snoc3 hc]; exact hgk
theorem B1_open {D M M' : AM} (hB : B1 D M) (g : fr wO M M') (hO : OpenC D (M' 6 9) (M' 6 12) (M' 15) (M' 16) (M' 17)) : B1 D M' := by
  have gD : fr (wr [] []) D D := fr_rf
  refine ⟨?_, G1_fw (B1_G hB) gD g rfl, ?_, C1_fw (B1_C hB) gD g rfl, R1_fw (B1_R hB) gD g rfl, S1_fw (B1_S hB) gD g rfl, F1_fw (B1_F hB) gD g rfl, E1_fw (B1_E hB) gD g rfl⟩
  · rw [g 0 10 rfl]; exact B1_now hB
  · obtain ⟨h1, h2, h3, h4, h5, h6, h7, h8, h9⟩ := PB_fw (PB_of hB) g rfl
    exact ⟨h1, h2, h3, h4, h5, h6, h7, h8, h9, hO⟩
theorem s1_Papers_open {D M : AM} {w : Int} (hI : Inv D) (hB : B1 D M) (hw : 0 ≤ w) : aCv s1_G 6 31 [aP 6, aI w] M (fun M' => fr wO M M' ∧ B1 D M' ∧ M' 6 9 = w) := by
  refine ⟨Nat.le_of_ble_eq_true rfl, fun d hd => ?_⟩
  refine s1_Papers_open_0 (by omega) ?_
  have hn := Inv_pn hI
  refine ⟨fun _ => ?_, fun h => ⟨rfl, fr_rf, hB, h⟩⟩
  have f0 : fr (wr [] [(6, 9)]) M (am_up M 6 9 w) := fr_up fr_rf rfl
  refine aKv_of (s1_Papers_markVoid hI (PB_fw (PB_of hB) f0 rfl)) (by omega) (fun M1 q => ?_)
  obtain ⟨f1, hV⟩ := q
  refine s1_op_out (M := M1) (by omega) (fun M2 f2 h0 hz => ?_) 6 0 M1 (by omega) (by omega) fr_rf (fun j a b => by omega)
  have hP2 : PB D M2 := PB_fw (PB_fw (PB_fw (PB_of hB) f0 rfl) f1 rfl) f2 rfl
  have hw2 : M2 6 9 = w := by rw [f2 6 9 rfl, f1 6 9 rfl, x_us]
  have hV2 : ∀ i, 0 ≤ i → i < D 0 7 → M2 15 i = vd D w i := fun i a b => by rw [f2 15 i rfl]; exact hV i a b
  have h := s1_op_loop (d := d) (w := w) (by omega) hI hP2 hw2 hV2 (srt (D 6) (D 0 7).toNat) [] M2 rfl fr_rf ⟨h0, isL_nil⟩ (fun k p k0 k1 p0 p1 => hz _ (by omega) (by omega))
  refine aE_mono _ _ _ _ _ _ _ _ _ (fun r M' q => ?_) h
  obtain ⟨q1, f3, hb, hg⟩ := q
  have g : fr wO M M' := fr_tr (fr_mo f0 rfl) (fr_tr (fr_mo f1 rfl) (fr_tr (fr_mo f2 rfl) (fr_mo f3 rfl)))
  have hw3 : M' 6 9 = w := by rw [f3 6 9 rfl]; exact hw2
  refine ⟨q1, g, B1_open hB g ?_, hw3⟩
  rw [hw3]
  exact Or.inr ⟨hw, fun i a b => by rw [f3 15 i rfl]; exact hV2 i a b, hb.1, hb.2, hg⟩
/-- what an opened page shows -/
theorem B1_page {D M : AM} {w : Int} (hB : B1 D M) (hw : M 6 9 = w) (h0 : 0 ≤ w) : (∀ i, 0 ≤ i → i < D 0 7 → M 15 i = vd D w i) ∧ isB (M 6 12) (M 16) (bk D w) ∧ pgF D (bk D w) (M 17) := by
  rcases B1_op hB with h | ⟨-, h1, h2, h3, h4⟩
  · omega
  · rw [hw] at h1 h2 h3 h4
    exact ⟨h1, ⟨h2, h3⟩, h4⟩
theorem s1_Papers_hadBy {D M : AM} {l : List Int} {k p t : Int} (hI : Inv D) (hg : pgF D l (M 17)) (hk : 0 ≤ k ∧ k < 6) (hp : 0 ≤ p ∧ p < 40) : aCi s1_G 4 33 [aP 6, aI k, aI p, aI t] M (fun z M' => M' = M ∧ z = bI (hadB D l k p t)) := by
  refine ⟨Nat.le_of_ble_eq_true rfl, fun d hd => ?_⟩
  refine s1_Papers_hadBy_0 (by omega) ?_
  rw [hg k p hk.1 hk.2 hp.1 hp.2]
  have hr := dayOn_rg hI l k p
  unfold hadB
  (repeat' (with_reducible first | refine And.intro ?_ ?_ | intro _))
  all_goals (try first | with_reducible rfl | with_reducible exact True.intro | with_reducible exact Or.inl True.intro | with_reducible exact Or.inr True.intro | omega | (exfalso; with_reducible assumption))
  · refine ⟨_, rfl, by trivial, ?_⟩; rw [show decide (0 ≤ dayOn D l k p) = false by simp; omega]; rfl
  · refine ⟨_, rfl, by trivial, ?_⟩; rw [show decide (dayOn D l k p ≤ t) = false by simp; omega, Bool.and_false]; rfl
  · refine ⟨_, rfl, by trivial, ?_⟩; rw [show decide (0 ≤ dayOn D l k p) = true by simp; omega, show decide (dayOn D l k p ≤ t) = true by simp; omega]; rfl
theorem s1_Papers_heirBy {D M : AM} {l : List Int} {p t : Int} (hI : Inv D) (hP : PB D M) (hb : isB (M 6 12) (M 16) l) (hm : ∀ i ∈ l, 0 ≤ i ∧ i < D 0 7) (hlen : l.length ≤ 150) : aCi s1_G 4 35 [aP 6, aI p, aI t] M (fun z M' => M' = M ∧ z = heirL D l p t) := by
  refine ⟨Nat.le_of_ble_eq_true rfl, fun d hd => ?_⟩
  refine s1_Papers_heirBy_0 (by omega) ?_
  have hpn := Inv_pn hI
  rw [hb.1, x_sub (by omega)]
  have key : ∀ (n : Nat) (pre suf : List Int), pre.length = n → l = pre ++ suf → aE s1_G d 35 7 [] [some (aP 6), some (aI p), some (aI t), some (aI (n - 1)), none] [] M (fun r M' => ∃ z, r = some (aI z) ∧ M' = M ∧ z = heirL D pre p t) := by
    intro n
    induction n with
    | zero =>
      intro pre suf hn e
      have hpre : pre = [] := List.length_eq_zero_iff.mp hn
      subst hpre
      refine s1_Papers_heirBy_7 (by omega) ?_
      (repeat' (with_reducible first | refine And.intro ?_ ?_ | intro _))
      all_goals (try first | with_reducible rfl | with_reducible exact True.intro | with_reducible exact Or.inl True.intro | with_reducible exact Or.inr True.intro | omega | (exfalso; with_reducible assumption))
      exact ⟨_, rfl, by trivial, rfl⟩
    | succ n ih =>
      intro pre suf hn e
      obtain ⟨pre', y, rfl⟩ : ∃ A' y, pre = A' ++ [y] := by
        rcases List.eq_nil_or_concat pre with rfl | ⟨A', y, rfl⟩
        · cases hn
        · exact ⟨A', y, by simp⟩
      have hn' : pre'.length = n := by simpa using hn
      have ih := ih pre' (y :: suf) hn' (by rw [e]; simp)
      have hl : l.length = n + 1 + suf.length := by rw [e]; simp; omega
      have hy : M 16 n = y := by rw [← hn']; exact isL_mid (suf := suf) (by have := hb.2; rw [e] at this; simpa using this)
      have hyr := hm y (by rw [e]; simp)
      refine s1_Papers_heirBy_7 (by omega) ?_
      rw [show ((n + 1 : Nat) : Int) - 1 = (n : Int) by omega, hy, PB_pk hP, PB_pp hP, PB_pd hP, PB_pq hP, x_add (by omega), show (n : Int) + -1 = n - 1 by omega]
      have eh : heirL D (pre' ++ [y]) p t = hrs D p t (heirL D pre' p t) y := by unfold heirL; rw [List.foldl_append]; rfl
      rw [eh]
      (repeat' (with_reducible first | refine And.intro ?_ ?_ | intro _))
      all_goals (try first | with_reducible rfl | with_reducible exact True.intro | with_reducible exact Or.inl True.intro | with_reducible exact Or.inr True.intro | omega | (exfalso; with_reducible assumption))
      · rw [show hrs D p t (heirL D pre' p t) y = heirL D pre' p t by unfold hrs; rw [if_neg (by omega)]]; exact ih
      · rw [show hrs D p t (heirL D pre' p t) y = heirL D pre' p t by unfold hrs; rw [if_neg (by omega)]]; exact ih
      · rw [show hrs D p t (heirL D pre' p t) y = heirL D pre' p t by unfold hrs; rw [if_neg (by omega)]]; exact ih
      · rw [show hrs D p t (heirL D pre' p t) y = D 10 y by unfold hrs; rw [if_pos (by omega)]]; exact ⟨_, rfl, by trivial, rfl⟩
  have h := key l.length l [] rfl (by simp)
  exact h
theorem s1_Papers_firstNotice {D M : AM} {l : List Int} {lv t : Int} (hI : Inv D) (hP : PB D M) (hb : isB (M 6 12) (M 16) l) (hm : ∀ i ∈ l, 0 ≤ i ∧ i < D 0 7) (hlen : l.length ≤ 150) : aCi s1_G 4 36 [aP 6, aI lv, aI t] M (fun z M' => M' = M ∧ z = notL D l lv t) := by
  refine ⟨Nat.le_of_ble_eq_true rfl, fun d hd => ?_⟩
  refine s1_Papers_firstNotice_0 (by omega) ?_
  have hpn := Inv_pn hI
  have key : ∀ (suf pre : List Int), l = pre ++ suf → aE s1_G d 36 2 [] [some (aP 6), some (aI lv), some (aI t), some (aI pre.length), none] [] M (fun r M' => ∃ z, r = some (aI z) ∧ M' = M ∧ z = notL D suf lv t) := by
    intro suf
    induction suf with
    | nil =>
      intro pre e
      have hl : l.length = pre.length := by rw [e]; simp
      refine s1_Papers_firstNotice_2 (by omega) ?_
      rw [hb.1]
      (repeat' (with_reducible first | refine And.intro ?_ ?_ | intro _))
      all_goals (try first | with_reducible rfl | with_reducible exact True.intro | with_reducible exact Or.inl True.intro | with_reducible exact Or.inr True.intro | omega | (exfalso; with_reducible assumption))
      exact ⟨_, rfl, by trivial, rfl⟩
    | cons a suf ih =>
      intro pre e
      have hl : l.length = pre.length + 1 + suf.length := by rw [e]; simp; omega
      have ha : M 16 pre.length = a := isL_mid (by rw [← e]; exact hb.2)
      have har := hm a (by rw [e]; simp)
      have ih := ih (pre ++ [a]) (by rw [e]; simp)
      rw [List.length_append] at ih
      refine s1_Papers_firstNotice_2 (by omega) ?_
      rw [hb.1, ha, PB_pk hP, PB_pl hP, PB_pd hP, x_add (by omega)]
      unfold notL at ih ⊢
      (repeat' (with_reducible first | refine And.intro ?_ ?_ | intro _))
      all_goals (try first | with_reducible rfl | with_reducible exact True.intro | with_reducible exact Or.inl True.intro | with_reducible exact Or.inr True.intro | omega | (exfalso; with_reducible assumption))
      · rw [List.find?_cons_of_neg (by simp; omega)]; exact ih
      · rw [List.find?_cons_of_neg (by simp; omega)]; exact ih
      · rw [List.find?_cons_of_neg (by simp; omega)]; exact ih
      · rw [List.find?_cons_of_pos (by simp; omega)]; exact ⟨_, rfl, by trivial, rfl⟩
  exact key l [] rfl
