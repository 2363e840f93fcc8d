/-! CANONS in the second system; force, counts, suit -/
abbrev wK : Nat → Int → Bool := wr [25, 26] [(0, 41)]
theorem s2_fc_first {D M : AM} {Q : Option AV → AM → Prop} {d : Nat} {day : Int} (hd : 4 ≤ d) (hI : Inv D) (hL : eqL D M)
    (K : ∀ M', fr (wr [25] []) M M' → (∀ i, 0 ≤ i → i < D 0 18 → M' 25 i = bI (decide (D 14 i ≤ day))) → aE s2_G d 46 44 [] [some (aP 0), none, some (aI (D 0 18 - 1)), none] [] M' Q) :
    ∀ (m : Nat) (x : Int) (M1 : AM), 0 ≤ x → x + m = D 0 18 → fr (wr [25] []) M M1 → (∀ i, 0 ≤ i → i < x → M1 25 i = bI (decide (D 14 i ≤ day))) → aE s2_G d 46 2 [] [some (aP 0), some (aI day), some (aI x), none] [] M1 Q
  | 0, x, M1, h0, hm, hf, hz => by
    have hn := Inv_cn hI
    have hL1 := eqL_fw hL hf rfl
    refine s2_findCanons_2 (by omega) ?_
    rw [L0_18 hL1, x_sub (by omega)]
    exact ⟨fun _ => K M1 hf (fun i a b => hz i a (by omega)), fun h => absurd h (by omega)⟩
  | m + 1, x, M1, h0, hm, hf, hz => by
    have hn := Inv_cn hI
    have hL1 := eqL_fw hL hf rfl
    refine s2_findCanons_2 (by omega) ?_
    rw [L0_18 hL1, L_14 hL1, x_add (by omega)]
    refine ⟨fun h => absurd h (by omega), fun _ => ⟨by omega, fun h => ⟨by omega, by omega, ?_⟩, fun h => ⟨by omega, by omega, ?_⟩⟩⟩
    · refine s2_fc_first hd hI hL K m (x + 1) _ (by omega) (by omega) (fr_up hf rfl) (fun i a b => ?_)
      rw [x_uu]
      by_cases e : i = x
      · subst e; rw [up1_s, show decide (D 14 i ≤ day) = false by simp; omega]; rfl
      · rw [up1_n e]; exact hz i a (by omega)
    · refine s2_fc_first hd hI hL K m (x + 1) _ (by omega) (by omega) (fr_up hf rfl) (fun i a b => ?_)
      rw [x_uu]
      by_cases e : i = x
      · subst e; rw [up1_s, show decide (D 14 i ≤ day) = true by simp; omega]; rfl
      · rw [up1_n e]; exact hz i a (by omega)
/-- what is on, the m last looked at, r clauses of the next too -/
def onst (D : AM) (day : Int) (m r : Nat) (i : Int) : Bool := decide (D 14 i ≤ day) && (onmk D day m i && !(decide (D 14 (D 0 18 - m - 1) ≤ day) && onmk D day m (D 0 18 - m - 1) && strkN D (D 0 18 - m - 1) r i))
theorem onst_0 {D : AM} {day : Int} {m : Nat} {i : Int} : onst D day m 0 i = (decide (D 14 i ≤ day) && onmk D day m i) := by
  unfold onst
  rw [show strkN D (D 0 18 - m - 1) 0 i = false from rfl]
  simp
theorem onst_n {D : AM} {day : Int} {m : Nat} {i : Int} : onst D day m (D 15 (D 0 18 - m - 1)).toNat i = (decide (D 14 i ≤ day) && onmk D day (m + 1) i) := rfl
theorem s2_fc_in {D M : AM} {Q : Option AV → AM → Prop} {d : Nat} {day : Int} (hd : 4 ≤ d) (hI : Inv D) (hL : eqL D M) {k m : Nat} (hk : (k : Int) + 1 + m = D 0 18)
    (K : ∀ M', fr (wr [25] []) M M' → (∀ i, 0 ≤ i → i < D 0 18 → M' 25 i = bI (decide (D 14 i ≤ day) && onmk D day (m + 1) i)) → aE s2_G d 46 44 [] [some (aP 0), none, some (aI ((k : Int) - 1)), none] [] M' Q) :
    ∀ (g r : Nat) (M1 : AM), (r : Int) + g = D 15 k → fr (wr [25] []) M M1 → (∀ i, 0 ≤ i → i < D 0 18 → M1 25 i = bI (onst D day m r i)) → aE s2_G d 46 50 [] [some (aP 0), none, some (aI (k : Int)), some (aI r)] [] M1 Q
  | 0, r, M1, hm, hf, hz => by
    have hn := Inv_cn hI
    have hL1 := eqL_fw hL hf rfl
    refine s2_findCanons_50 (by omega) ?_
    rw [L_15 hL1, x_add (a := (k : Int)) (by omega), show (k : Int) + -1 = k - 1 by omega]
    refine ⟨by omega, fun _ => K M1 hf (fun i a b => ?_), fun h => absurd h (by omega)⟩
    rw [hz i a b, ← onst_n, show D 0 18 - m - 1 = (k : Int) by omega, show r = (D 15 k).toNat by omega]
  | g + 1, r, M1, hm, hf, hz => by
    have hn := Inv_cn hI
    have hl := Inv_cl hI k (by omega) (by omega)
    have hL1 := eqL_fw hL hf rfl
    have ek : D 0 18 - m - 1 = (k : Int) := by omega
    obtain ⟨-, k2⟩ := clk hI (j := k) (c := r) (by omega) (by omega) (by omega) (by omega)
    have hkk := hz k (by omega) (by omega)
    have hsk : strkN D k r k = false := by
      rw [← Bool.not_eq_true]
      intro q
      unfold strkN at q
      obtain ⟨i, hi, e⟩ := List.any_eq_true.mp q
      rw [decide_eq_true_eq] at e
      have := (clk hI (j := k) (c := i) (by omega) (by omega) (by omega) (by have := List.mem_range.mp hi; omega)).2 e.1
      omega
    have hon : onst D day m r k = (decide (D 14 k ≤ day) && onmk D day m k) := by
      unfold onst
      rw [ek, hsk]
      simp
    refine s2_findCanons_50 (by omega) ?_
    rw [L_15 hL1, L_16 hL1, L_17 hL1, x_add (a := (k : Int)) (by omega), show (k : Int) + -1 = k - 1 by omega, x_mul (by omega), x_add (a := 12 * (k : Int)) (by omega), x_add (a := (r : Int)) (by omega), hkk, hon]
    refine ⟨by omega, fun h => absurd h (by omega), fun _ => ⟨by omega, fun h => K M1 hf (fun i a b => ?_), fun h => ⟨by omega, fun h2 => ?_, fun h2 => ?_⟩⟩⟩
    · rw [hz i a b]
      have hf : (decide (D 14 k ≤ day) && onmk D day m k) = false := by
        cases e : (decide (D 14 k ≤ day) && onmk D day m k)
        · rfl
        · rw [e] at h; exact absurd h (by decide)
      rw [← onst_n]
      unfold onst
      rw [ek, hf]
      rfl
    · refine s2_fc_in hd hI hL hk K g (r + 1) M1 (by omega) hf (fun i a b => ?_)
      rw [hz i a b]
      unfold onst
      rw [ek, strkN_succ, show decide (D 16 (12 * (k : Int) + r) = 2 ∧ D 17 (12 * (k : Int) + r) = i) = false by simp; omega, Bool.or_false]
    · have k2 := k2 h2
      have ht : (decide (D 14 k ≤ day) && onmk D day m k) = true := by
        cases e : (decide (D 14 k ≤ day) && onmk D day m k)
        · rw [e] at h; exact absurd rfl h
        · rfl
      refine ⟨by omega, by omega, by omega, ?_⟩
      refine s2_fc_in hd hI hL hk K g (r + 1) _ (by omega) (fr_up hf rfl) (fun i a b => ?_)
      rw [x_uu]
      by_cases e : i = D 17 (12 * k + r)
      · subst e
        rw [up1_s]
        unfold onst
        rw [ek, strkN_succ, h2, ht]
        simp
        rfl
      · rw [up1_n e, hz i a b]
        unfold onst
        rw [ek, strkN_succ, show decide (D 16 (12 * (k : Int) + r) = 2 ∧ D 17 (12 * (k : Int) + r) = i) = false by simp; omega, Bool.or_false]
theorem s2_fc_mark {D M : AM} {Q : Option AV → AM → Prop} {d : Nat} {day : Int} (hd : 4 ≤ d) (hI : Inv D) (hL : eqL D M)
    (K : ∀ M', fr (wr [25] [(0, 41)]) M M' → M' 0 41 = 0 → (∀ i, 0 ≤ i → i < D 0 18 → M' 25 i = bI (isOn D day i)) → aE s2_G d 46 120 [] [some (aP 0), none, some (aI 0), none] [] M' Q) :
    ∀ (k m : Nat) (M1 : AM), (k : Int) + m = D 0 18 → fr (wr [25] []) M M1 → (∀ i, 0 ≤ i → i < D 0 18 → M1 25 i = bI (decide (D 14 i ≤ day) && onmk D day m i)) → aE s2_G d 46 44 [] [some (aP 0), none, some (aI ((k : Int) - 1)), none] [] M1 Q
  | 0, m, M1, hm, hf, hz => by
    refine s2_findCanons_44 (by omega) ⟨fun _ => K _ (fr_up (fr_mo hf rfl) rfl) x_us (fun i a b => ?_), fun h => absurd h (by omega)⟩
    rw [x_uk (by decide), hz i a b]
    unfold isOn
    rw [show (D 0 18).toNat = m by omega]
  | k + 1, m, M1, hm, hf, hz => by
    have hl := Inv_cl hI k (by omega) (by omega)
    refine s2_findCanons_44 (by omega) ⟨fun h => absurd h (by omega), fun _ => ?_⟩
    rw [show ((k + 1 : Nat) : Int) - 1 = (k : Int) by omega]
    refine s2_fc_in (m := m) hd hI (eqL_fw hL hf rfl) (by omega) (fun M' f' hz' => ?_) (D 15 k).toNat 0 M1 (by omega) fr_rf (fun i a b => by rw [hz i a b, onst_0])
    exact s2_fc_mark hd hI hL K k (m + 1) M' (by omega) (fr_tr hf f') hz'
theorem s2_fc_shift {D M : AM} {Q : Option AV → AM → Prop} {d : Nat} {x : Int} {L : List Int} (hd : 4 ≤ d) (hI : Inv D) (hL : eqL D M) (hx : 0 ≤ x ∧ x < D 0 18) (hs : Srt (D 14) L) (hm : ∀ i ∈ L, 0 ≤ i ∧ i < D 0 18) (hlen : (L.length : Int) ≤ x) (hsz : M 0 41 = L.length)
    (K : ∀ M', fr (wr [26] [(0, 41)]) M M' → isL (M' 26) (ins (D 14) x L) → M' 0 41 = L.length + 1 → aE s2_G d 46 120 [] [some (aP 0), none, some (aI (x + 1)), none] [] M' Q) :
    ∀ (n : Nat) (A B : List Int) (M1 : AM), A.length = n → L = A ++ B → (∀ b ∈ B, D 14 x < D 14 b) → fr (wr [26] []) M M1 → hole (M1 26) A B → aE s2_G d 46 142 [] [some (aP 0), none, some (aI x), some (aI n)] [] M1 Q
  | 0, A, B, M1, hn, hAB, hB, hf, hh => by
    have hpn := Inv_cn hI
    have hA : A = [] := List.length_eq_zero_iff.mp hn
    subst hA
    refine s2_findCanons_142 (by omega) ?_
    simp (decide := true) only [x_uc]
    have e17 : M1 0 41 = L.length := (hf 0 41 rfl).trans hsz
    rw [e17, x_add (a := (L.length : Int)) (by omega), x_add (a := x) (by omega)]
    (repeat' (with_reducible first | refine And.intro ?_ ?_ | intro _))
    all_goals (try first | with_reducible rfl | with_reducible exact True.intro | with_reducible exact Or.inl True.intro | with_reducible exact Or.inr True.intro | omega | (exfalso; with_reducible assumption))
    refine K _ (fr_up (fr_up (fr_mo hf rfl) rfl) rfl) ?_ (by rw [x_us])
    simp (decide := true) only [x_uk, x_uu]
    rw [hAB, ins_split (A := []) (B := B) (fun a h => by cases h) hB]
    exact hole_end hh rfl
  | n + 1, A, B, M1, hn, hAB, hB, hf, hh => by
    have hpn := Inv_cn hI
    obtain ⟨A', y, rfl⟩ : ∃ A' y, A = A' ++ [y] := by
      rcases List.eq_nil_or_concat A with rfl | ⟨A', y, rfl⟩
      · cases hn
      · exact ⟨A', y, by simp⟩
    have hA' : A'.length = n := by simpa using hn
    have hy : M1 26 n = y := by rw [← hA']; exact hole_top hh
    have hyL : y ∈ L := by rw [hAB]; simp
    have hyr := hm y hyL
    have hlen2 : L.length = n + 1 + B.length := by rw [hAB]; simp; omega
    have hL1 := eqL_fw hL hf rfl
    refine s2_findCanons_142 (by omega) ?_
    have e17 : M1 0 41 = L.length := (hf 0 41 rfl).trans hsz
    rw [x_sub (by omega), show ((n + 1 : Nat) : Int) - 1 = n by omega, hy, L_14 hL1]
    rw [x_add (a := ((n + 1 : Nat) : Int)) (by omega), show ((n + 1 : Nat) : Int) + -1 = n by omega]
    simp (decide := true) only [x_uc]
    rw [e17, x_add (a := (L.length : Int)) (by omega), x_add (a := x) (by omega)]
    (repeat' (with_reducible first | refine And.intro ?_ ?_ | intro _))
    all_goals (try first | with_reducible rfl | with_reducible exact True.intro | with_reducible exact Or.inl True.intro | with_reducible exact Or.inr True.intro | omega | (exfalso; with_reducible assumption))
    · refine K _ (fr_up (fr_up (fr_mo hf rfl) rfl) rfl) ?_ (by rw [x_us])
      simp (decide := true) only [x_uk, x_uu]
      rw [hAB, ins_split (fun a ha => srt_last (by rw [hAB] at hs; exact (List.pairwise_append.mp hs).1) (by assumption) a ha) hB]
      exact hole_end hh (by simp; omega)
    · refine s2_fc_shift hd hI hL hx hs hm hlen hsz K n A' (y :: B) _ hA' (by rw [hAB]; simp) (fun b hb => ?_) (fr_up hf rfl) ?_
      · rcases List.mem_cons.mp hb with rfl | hb
        · assumption
        · exact hB b hb
      · rw [x_uu]
        exact hole_step hh (by omega)
def cordN (D : AM) (day : Int) (n : Nat) : List Int := (srt (D 14) n).filter (isOn D day)
theorem cordN_succ {D : AM} {day : Int} (n : Nat) : cordN D day (n + 1) = if isOn D day n then ins (D 14) n (cordN D day n) else cordN D day n := by
  unfold cordN
  rw [show srt (D 14) (n + 1) = ins (D 14) n (srt (D 14) n) from rfl]
  cases e : isOn D day n
  · rw [ins_filter_f (srt_sorted n) e]; rfl
  · rw [ins_filter_t e]; rfl
theorem cordN_mem {D : AM} {day : Int} {n : Nat} {i : Int} (h : i ∈ cordN D day n) : 0 ≤ i ∧ i < n := (srt_mem n i).mp (List.mem_filter.mp h).1
theorem cordN_len {D : AM} {day : Int} (n : Nat) : (cordN D day n).length ≤ n := by
  have := List.length_filter_le (isOn D day) (srt (D 14) n)
  rw [srt_len] at this
  exact this
theorem cord_mem {D : AM} {day i : Int} (h : i ∈ cord D day) : (0 ≤ i ∧ i < D 0 18) ∧ isOn D day i = true := by
  have := cordN_mem (n := (D 0 18).toNat) h
  exact ⟨by omega, (List.mem_filter.mp h).2⟩
theorem cord_len {D : AM} {day : Int} (hn : 0 ≤ D 0 18) : ((cord D day).length : Int) ≤ D 0 18 := by
  have := cordN_len (D := D) (day := day) (D 0 18).toNat
  show ((cordN D day (D 0 18).toNat).length : Int) ≤ _
  omega
theorem s2_fc_loop {D M : AM} {d : Nat} {day : Int} (hd : 4 ≤ d) (hI : Inv D) (hL : eqL D M) (hV : ∀ i, 0 ≤ i → i < D 0 18 → M 25 i = bI (isOn D day i)) :
    ∀ (m x : Nat) (M1 : AM), (x : Int) + m = D 0 18 → fr (wr [26] [(0, 41)]) M M1 → isB (M1 0 41) (M1 26) (cordN D day x) → aE s2_G d 46 120 [] [some (aP 0), none, some (aI x), none] [] M1 (fun r M' => r = none ∧ fr (wr [26] [(0, 41)]) M M' ∧ isB (M' 0 41) (M' 26) (cord D day))
  | 0, x, M1, hm, hf, hb => by
    have hL1 := eqL_fw hL hf rfl
    refine s2_findCanons_120 (by omega) ?_
    rw [L0_18 hL1]
    refine ⟨fun _ => ⟨rfl, hf, ?_⟩, fun h => absurd h (by omega)⟩
    rw [show x = (D 0 18).toNat by omega] at hb
    exact hb
  | m + 1, x, M1, hm, hf, hb => by
    have hpn := Inv_cn hI
    have hL1 := eqL_fw hL hf rfl
    have ih := s2_fc_loop hd hI hL hV m (x + 1)
    rw [cordN_succ] at ih
    have hv : M1 25 x = bI (isOn D day x) := by rw [hf 25 x rfl]; exact hV x (by omega) (by omega)
    refine s2_findCanons_120 (by omega) ?_
    rw [L0_18 hL1, hv, x_add (by omega)]
    cases e : isOn D day x
    · rw [e] at ih
      exact ⟨fun h => absurd h (by omega), fun _ => ⟨by omega, fun _ => ih M1 (by omega) hf hb, fun h => absurd rfl h⟩⟩
    · rw [e] at ih
      refine ⟨fun h => absurd h (by omega), fun _ => ⟨by omega, fun h => absurd h (by decide), fun _ => ?_⟩⟩
      have hlen := cordN_len (D := D) (day := day) x
      rw [hb.1]
      refine s2_fc_shift (L := cordN D day x) hd hI hL1 (by omega) ((srt_sorted x).filter _) (fun i hi => by have := cordN_mem hi; omega) (by omega) hb.1 (fun M' hf' hl hn => ?_) (cordN D day x).length (cordN D day x) [] M1 rfl (by simp) (fun b hb => by cases hb) fr_rf (hole_init hb.2)
      exact ih M' (by omega) (fr_tr hf hf') ⟨by rw [hn, if_pos rfl, ins_len]; omega, by rw [if_pos rfl]; exact hl⟩
theorem s2_findCanons {D M : AM} {day : Int} (hI : Inv D) (hL : eqL D M) : aCv s2_G 4 46 [aP 0, aI day] M (fun M' => fr wK M M' ∧ (∀ i, 0 ≤ i → i < D 0 18 → M' 25 i = bI (isOn D day i)) ∧ isB (M' 0 41) (M' 26) (cord D day)) := by
  refine ⟨Nat.le_of_ble_eq_true rfl, fun d hd => ?_⟩
  refine s2_findCanons_0 (by omega) ?_
  have hn := Inv_cn hI
  refine s2_fc_first hd hI hL (fun M1 f1 h1 => ?_) (D 0 18).toNat 0 M (by omega) (by omega) fr_rf (fun i a b => by omega)
  have hL1 := eqL_fw hL f1 rfl
  have h := s2_fc_mark (M := M1) (day := day) (Q := fun r M' => r = none ∧ fr wK M M' ∧ (∀ i, 0 ≤ i → i < D 0 18 → M' 25 i = bI (isOn D day i)) ∧ isB (M' 0 41) (M' 26) (cord D day)) hd hI hL1 (fun M2 f2 h20 h2 => ?_) (D 0 18).toNat 0 M1 (by omega) fr_rf (fun i a b => by rw [h1 i a b, show onmk D day 0 i = true from rfl, Bool.and_true])
  · rw [show (((D 0 18).toNat : Nat) : Int) = D 0 18 by omega] at h
    exact h
  · have h := s2_fc_loop hd hI (eqL_fw hL1 f2 rfl) h2 (D 0 18).toNat 0 M2 (by omega) fr_rf ⟨h20, isL_nil⟩
    refine aE_mono _ _ _ _ _ _ _ _ _ (fun r M' q => ?_) h
    obtain ⟨q1, q2, q3⟩ := q
    exact ⟨q1, fr_tr (fr_mo f1 rfl) (fr_tr (fr_mo f2 rfl) (fr_mo q2 rfl)), fun i a b => by rw [q2 25 i rfl]; exact h2 i a b, q3⟩
theorem s2_atFirst {M : AM} {k : Int} : aCi s2_G 4 36 [aI k] M (fun z M' => M' = M ∧ z = at0 k) := by
  refine ⟨Nat.le_of_ble_eq_true rfl, fun d hd => ?_⟩
  refine s2_atFirst_0 (by omega) ?_
  unfold at0
  (repeat' (with_reducible first | refine And.intro ?_ ?_ | intro _))
  all_goals (try first | with_reducible rfl | with_reducible exact True.intro | with_reducible exact Or.inl True.intro | with_reducible exact Or.inr True.intro | omega | (exfalso; with_reducible assumption))
  all_goals (refine ⟨_, rfl, rfl, ?_⟩; (repeat (first | rw [if_pos (by omega)] | rw [if_neg (by omega)])))
theorem s2_fo_in {D M : AM} {Q : Option AV → AM → Prop} {d : Nat} {name j i : Int} {a0 : Int × Int} (hd : 5 ≤ d) (hI : Inv D) (hL : eqL D M) (h0 : 0 ≤ j) (h1 : j < D 0 18) (hi : 0 ≤ i ∧ i < 10)
    (K : ∀ M', fr (wr [] [(0, 42)]) M M' → M' 0 42 = (letN D name j (D 15 j).toNat a0).2 → aE s2_G d 47 18 [] [some (aP 0), some (aI name), none, some (aI (letN D name j (D 15 j).toNat a0).1), some (aI (i + 1)), none, none] [] M' Q) :
    ∀ (g r : Nat) (M1 : AM), (r : Int) + g = D 15 j → fr (wr [] [(0, 42)]) M M1 → M1 0 42 = (letN D name j r a0).2 → aE s2_G d 47 43 [] [some (aP 0), some (aI name), none, some (aI (letN D name j r a0).1), some (aI i), some (aI j), some (aI (12 * j + r))] [] M1 Q
  | 0, r, M1, hm, hf, hz => by
    have hn := Inv_cn hI
    have hl := Inv_cl hI j h0 h1
    have hL1 := eqL_fw hL hf rfl
    refine s2_forceOf_43 (by omega) ?_
    rw [L_15 hL1, x_add (a := i) (by omega), x_mul (by omega), x_add (a := 12 * j) (by omega)]
    rw [show r = (D 15 j).toNat by omega] at hz ⊢
    exact ⟨by omega, fun _ => K M1 hf hz, fun h => absurd h (by omega)⟩
  | g + 1, r, M1, hm, hf, hz => by
    have hn := Inv_cn hI
    have hl := Inv_cl hI j h0 h1
    have hL1 := eqL_fw hL hf rfl
    have ih := s2_fo_in hd hI hL h0 h1 hi K g (r + 1)
    rw [letN_succ, show ((12 * j + (r + 1 : Nat) : Int)) = 12 * j + r + 1 by omega] at ih
    unfold letIn at ih
    refine s2_forceOf_43 (by omega) ?_
    rw [L_15 hL1, L_16 hL1, L_17 hL1, L_18 hL1, x_add (a := i) (by omega), x_mul (by omega), x_add (a := 12 * j) (by omega), x_add (a := 12 * j + r) (by omega)]
    refine ⟨by omega, fun h => absurd h (by omega), fun _ => ⟨by omega, fun h2 => ?_, fun h2 => ⟨by omega, fun h3 => ?_, fun h3 => ⟨by omega, ?_⟩⟩⟩⟩
    · rw [if_neg (by omega)] at ih
      exact ih M1 (by omega) hf hz
    · rw [if_neg (by omega)] at ih
      exact ih M1 (by omega) hf hz
    · rw [if_pos ⟨h2, h3⟩] at ih
      exact ih _ (by omega) (fr_up hf rfl) x_us
theorem s2_fo_loop {D M : AM} {d : Nat} {name day : Int} {l : List Int} (hd : 5 ≤ d) (hI : Inv D) (hL : eqL D M) (hb : isB (M 0 41) (M 26) l) (hm : ∀ i ∈ l, 0 ≤ i ∧ i < D 0 18) (hlen : l.length ≤ 10) :
    ∀ (suf pre : List Int) (M1 : AM), l = pre ++ suf → fr (wr [] [(0, 42)]) M M1 → M1 0 42 = (forceL D pre name).2 → aE s2_G d 47 18 [] [some (aP 0), some (aI name), none, some (aI (forceL D pre name).1), some (aI pre.length), none, none] [] M1 (fun r M' => ∃ z, r = some (aI z) ∧ fr (wr [] [(0, 42)]) M M' ∧ z = (forceL D l name).1 ∧ M' 0 42 = (forceL D l name).2)
  | [], pre, M1, e, hf, hz => by
    have e1 : M1 0 41 = l.length := (hf 0 41 rfl).trans hb.1
    rw [List.append_nil] at e
    subst e
    refine s2_forceOf_18 (by omega) ?_
    rw [e1]
    exact ⟨fun _ => ⟨_, rfl, hf, rfl, hz⟩, fun h => absurd h (by omega)⟩
  | a :: suf, pre, M1, e, hf, hz => by
    have hn := Inv_cn hI
    have e1 : M1 0 41 = l.length := (hf 0 41 rfl).trans hb.1
    have hl : l.length = pre.length + 1 + suf.length := by rw [e]; simp; omega
    have e26 : M1 26 = M 26 := funext fun i => hf 26 i rfl
    have ha : M1 26 pre.length = a := by rw [e26]; exact isL_mid (by rw [← e]; exact hb.2)
    have har := hm a (by rw [e]; simp)
    have hl15 := Inv_cl hI a har.1 har.2
    have ih := s2_fo_loop (name := name) (day := day) hd hI hL hb hm hlen suf (pre ++ [a])
    rw [List.length_append, forceL_snoc] at ih
    refine s2_forceOf_18 (by omega) ?_
    rw [e1, ha, x_mul (by omega)]
    refine ⟨fun h => absurd h (by omega), fun _ => ⟨by omega, ?_⟩⟩
    have h := s2_fo_in (M := M1) (name := name) (a0 := forceL D pre name) (i := pre.length) hd hI (eqL_fw hL hf rfl) har.1 har.2 (by omega) (fun M' f' hz' => ih M' (by rw [e]; simp) (fr_tr hf f') hz') (D 15 a).toNat 0 M1 (by omega) fr_rf hz
    rw [show 12 * a + ((0 : Nat) : Int) = 12 * a by omega] at h
    exact h
abbrev wF : Nat → Int → Bool := wr [25, 26] [(0, 41), (0, 42)]
theorem s2_forceOf {D M : AM} {name day : Int} (hI : Inv D) (hL : eqL D M) : aCi s2_G 5 47 [aP 0, aI name, aI day] M (fun z M' => fr wF M M' ∧ z = (force D day name).1 ∧ M' 0 42 = (force D day name).2) := by
  refine ⟨Nat.le_of_ble_eq_true rfl, fun d hd => ?_⟩
  refine s2_forceOf_0 (by omega) ?_
  have hn := Inv_cn hI
  refine aKv_of (s2_findCanons (day := day) hI hL) (by omega) (fun M1 q => ?_)
  obtain ⟨f1, h1, hb⟩ := q
  refine aKi_of s2_atFirst (by omega) (fun z M2 q => ?_)
  obtain ⟨rfl, rfl⟩ := q
  have f2 : fr (wr [] [(0, 42)]) M2 (am_up M2 0 42 (-1)) := fr_up fr_rf rfl
  have hl := cord_len (D := D) (day := day) hn.1
  have hL2 := eqL_fw (eqL_fw hL f1 rfl) f2 rfl
  have hb2 : isB ((am_up M2 0 42 (-1)) 0 41) ((am_up M2 0 42 (-1)) 26) (cord D day) := by simp (decide := true) only [x_uf, x_uk]; exact hb
  have h := s2_fo_loop (name := name) (day := day) hd hI hL2 hb2 (fun i hi => (cord_mem hi).1) (by omega) (cord D day) [] _ rfl fr_rf x_us
  refine aE_mono _ _ _ _ _ _ _ _ _ (fun r M' q => ?_) h
  obtain ⟨z, q1, q2, q3, q4⟩ := q
  exact ⟨z, q1, fr_tr (fr_mo f1 rfl) (fr_tr (fr_mo f2 rfl) (fr_mo q2 rfl)), q3, q4⟩
-- force
def f_force (D : AM) (name day x : Int) : Int := if ¬ ((0 ≤ name ∧ name ≤ 7) ∧ (0 ≤ day ∧ day ≤ 30000) ∧ 0 ≤ x ∧ x ≤ 1) then -100002 else if x = 0 then (force D day name).1 else (force D day name).2
theorem c1_force {D M : AM} {name day x : Int} (hI : Inv D) (hB : B1 D M) : aCi s1_G 8 119 [aP 0, aI name, aI day, aI x] M (fun z M' => z = f_force D name day x ∧ fr wC M M' ∧ B1 D M') := by
  refine ⟨Nat.le_of_ble_eq_true rfl, fun d hd => ?_⟩
  refine s1_force_0 (by omega) ?_
  simp only [a_bl_n, a_bl_z]
  unfold f_force
  refine ⟨fun h => ⟨_, rfl, by (repeat (first | rw [if_pos (by omega)] | rw [if_neg (by omega)])), fr_rf, hB⟩, fun h1 => ⟨fun h => ⟨_, rfl, by (repeat (first | rw [if_pos (by omega)] | rw [if_neg (by omega)])), fr_rf, hB⟩, fun h2 => ⟨fun h3 => ?_, fun h => ⟨_, rfl, by (repeat (first | rw [if_pos (by omega)] | rw [if_neg (by omega)])), fr_rf, hB⟩⟩⟩⟩
  refine aKv_of (s1_Canons_settle hI hB h2.1) (by omega) (fun M1 q => ?_)
  obtain ⟨q1, q2, q3⟩ := q
  have hp := (B1_set q2 q3 h2.1).2.2 name (by omega) (by omega)
  refine ⟨fun e => ⟨by omega, _, rfl, ?_, q1, q2⟩, fun e => ⟨by omega, _, rfl, ?_, q1, q2⟩⟩
  · (repeat (first | rw [if_pos (by omega)] | rw [if_neg (by omega)]))
    exact hp.2
  · (repeat (first | rw [if_pos (by omega)] | rw [if_neg (by omega)]))
    exact hp.1
theorem c2_force {M : AM} {name day x : Int} (hI : Inv M) : aCi s2_G 8 48 [aP 0, aI name, aI day, aI x] M (fun z M' => z = f_force M name day x ∧ fr wF M M') := by
  refine ⟨Nat.le_of_ble_eq_true rfl, fun d hd => ?_⟩
  refine s2_force_0 (by omega) ?_
  simp only [a_bl_n, a_bl_z]
  unfold f_force
  refine ⟨fun h => ⟨_, rfl, by (repeat (first | rw [if_pos (by omega)] | rw [if_neg (by omega)])), fr_rf⟩, fun h1 => ⟨fun h => ⟨_, rfl, by (repeat (first | rw [if_pos (by omega)] | rw [if_neg (by omega)])), fr_rf⟩, fun h2 => ⟨fun h3 => ?_, fun h => ⟨_, rfl, by (repeat (first | rw [if_pos (by omega)] | rw [if_neg (by omega)])), fr_rf⟩⟩⟩⟩
  refine aKi_of (s2_forceOf (name := name) (day := day) hI eqL_rf) (by omega) (fun z M1 q => ?_)
  obtain ⟨q1, q2, q3⟩ := q
  refine ⟨fun e => ⟨_, rfl, ?_, q1⟩, fun e => ⟨_, rfl, ?_, q1⟩⟩
  · (repeat (first | rw [if_pos (by omega)] | rw [if_neg (by omega)]))
    exact q3
  · (repeat (first | rw [if_pos (by omega)] | rw [if_neg (by omega)]))
    exact q2
-- counts
def f_counts (D : AM) (c day : Int) : Int := if ¬ (0 ≤ c ∧ c < D 0 18) then -100001 else if ¬ (0 ≤ day ∧ day ≤ 30000) then -100002 else cond (isOn D day c) (D 15 c) 0
theorem c1_counts {D M : AM} {c day : Int} (hI : Inv D) (hB : B1 D M) : aCi s1_G 8 120 [aP 0, aI c, aI day] M (fun z M' => z = f_counts D c day ∧ fr wC M M' ∧ B1 D M') := by
  refine ⟨Nat.le_of_ble_eq_true rfl, fun d hd => ?_⟩
  refine s1_counts_0 (by omega) ?_
  have hn := Inv_cn hI
  simp only [a_bl_n, a_bl_z, B1_cn hB]
  rw [x_sub (by omega)]
  unfold f_counts
  refine ⟨fun h1 => ⟨fun h2 => ?_, fun h => ⟨_, rfl, by (repeat (first | rw [if_pos (by omega)] | rw [if_neg (by omega)])), fr_rf, hB⟩⟩, fun h => ⟨_, rfl, by (repeat (first | rw [if_pos (by omega)] | rw [if_neg (by omega)])), fr_rf, hB⟩⟩
  refine aKv_of (s1_Canons_settle hI hB h2.1) (by omega) (fun M1 q => ?_)
  obtain ⟨q1, q2, q3⟩ := q
  obtain ⟨p1, p2, -⟩ := B1_set q2 q3 h2.1
  have hc : bset (M1 24 11) 10 (fun i => cond (decide ((i : Int) < D 0 18)) (isOn D day i) ((M1 24 11).toNat.testBit i)) := by
    refine ⟨p2.1, by have := p2.2; omega, fun i _ => ?_⟩
    dsimp only
    by_cases hi : (i : Int) < D 0 18
    · rw [show decide ((i : Int) < D 0 18) = true by simpa using hi]
      have := p1 i (by omega) hi
      rw [show ((i : Int)).toNat = i by omega] at this
      exact this
    · rw [show decide ((i : Int) < D 0 18) = false by simpa using hi]
      rfl
  have hcc : aCi s1_G 4 5 [aP 24, aI c] M1 (fun z M' => M' = M1 ∧ z = bI (isOn D day c)) := by
    refine ⟨Nat.le_of_ble_eq_true rfl, fun d hd => ?_⟩
    refine s1_Canons_isCounting_0 (by omega) ?_
    obtain ⟨b, rfl⟩ : ∃ b : Nat, c = b := ⟨c.toNat, by omega⟩
    have hg : a_and (a_shr (M1 24 11) b) 1 = bI (isOn D day b) := by
      have hg := bset_get (c := b) hc (by omega) (by decide)
      rw [show decide ((b : Int) < D 0 18) = true by simp; omega] at hg
      exact hg
    rw [hg]
    show (bI (isOn D day b) ≠ 1 → _) ∧ _
    cases e : isOn D day b
    · exact ⟨fun _ => ⟨Or.inl rfl, _, rfl, rfl, rfl⟩, fun h => absurd h (by decide)⟩
    · exact ⟨fun h => absurd rfl h, fun _ => ⟨Or.inr rfl, _, rfl, rfl, rfl⟩⟩
  refine aKi_of hcc (by omega) (fun z M2 q => ?_)
  obtain ⟨rfl, rfl⟩ := q
  have e25 := (B1_ca q2 c h1.1 (by omega)).1
  cases e : isOn D day c
  · refine ⟨fun _ => ⟨_, rfl, ?_, q1, q2⟩, fun h => absurd rfl h⟩
    (repeat (first | rw [if_pos (by omega)] | rw [if_neg (by omega)]))
    rfl
  · refine ⟨fun h => absurd h (by decide), fun _ => ⟨by omega, _, rfl, ?_, q1, q2⟩⟩
    (repeat (first | rw [if_pos (by omega)] | rw [if_neg (by omega)]))
    exact e25
theorem c2_counts {M : AM} {c day : Int} (hI : Inv M) : aCi s2_G 8 49 [aP 0, aI c, aI day] M (fun z M' => z = f_counts M c day ∧ fr wK M M') := by
  refine ⟨Nat.le_of_ble_eq_true rfl, fun d hd => ?_⟩
  refine s2_counts_0 (by omega) ?_
  have hn := Inv_cn hI
  simp only [a_bl_n, a_bl_z]
  rw [x_sub (by omega)]
  unfold f_counts
  refine ⟨fun h1 => ⟨fun h2 => ?_, fun h => ⟨_, rfl, by (repeat (first | rw [if_pos (by omega)] | rw [if_neg (by omega)])), fr_rf⟩⟩, fun h => ⟨_, rfl, by (repeat (first | rw [if_pos (by omega)] | rw [if_neg (by omega)])), fr_rf⟩⟩
  refine aKv_of (s2_findCanons (day := day) hI eqL_rf) (by omega) (fun M1 q => ?_)
  obtain ⟨q1, q2, q3⟩ := q
  have hL := eqL_fw eqL_rf q1 rfl
  rw [q2 c (by omega) (by omega), L_15 hL]
  cases e : isOn M day c
  · refine ⟨by omega, fun _ => ⟨_, rfl, ?_, q1⟩, fun h => absurd rfl h⟩
    (repeat (first | rw [if_pos (by omega)] | rw [if_neg (by omega)]))
    rfl
  · refine ⟨by omega, fun h => absurd h (by decide), fun _ => ⟨by omega, _, rfl, ?_, q1⟩⟩
    (repeat (first | rw [if_pos (by omega)] | rw [if_neg (by omega)]))
    rfl
-- suit
theorem letN_rg {D : AM} (hI : Inv D) {name j : Int} (h0 : 0 ≤ j) (h1 : j < D 0 18) {a : Int × Int} (ha : (0 ≤ a.1 ∧ a.1 ≤ 999) ∧ -1 ≤ a.2 ∧ a.2 ≤ 9) : ∀ r : Nat, (r : Int) ≤ D 15 j → (0 ≤ (letN D name j r a).1 ∧ (letN D name j r a).1 ≤ 999) ∧ -1 ≤ (letN D name j r a).2 ∧ (letN D name j r a).2 ≤ 9
  | 0, _ => ha
  | r + 1, hr => by
    have hn := Inv_cn hI
    rw [letN_succ]
    unfold letIn
    split
    next h =>
      have := (clk hI h0 h1 (c := r) (by omega) (by omega)).1 h.1
      dsimp only
      omega
    · exact letN_rg hI h0 h1 ha r (by omega)
theorem forceL_rg {D : AM} (hI : Inv D) {name : Int} {l : List Int} (hm : ∀ i ∈ l, 0 ≤ i ∧ i < D 0 18) : (0 ≤ (forceL D l name).1 ∧ (forceL D l name).1 ≤ 999) ∧ -1 ≤ (forceL D l name).2 ∧ (forceL D l name).2 ≤ 9 := by
  have key : ∀ (l : List Int) (a : Int × Int), ((0 ≤ a.1 ∧ a.1 ≤ 999) ∧ -1 ≤ a.2 ∧ a.2 ≤ 9) → (∀ i ∈ l, 0 ≤ i ∧ i < D 0 18) → (0 ≤ (l.foldl (fun a j => letN D name j (D 15 j).toNat a) a).1 ∧ (l.foldl (fun a j => letN D name j (D 15 j).toNat a) a).1 ≤ 999) ∧ -1 ≤ (l.foldl (fun a j => letN D name j (D 15 j).toNat a) a).2 ∧ (l.foldl (fun a j => letN D name j (D 15 j).toNat a) a).2 ≤ 9 := by
    intro l
    induction l with
    | nil => intro a ha _; exact ha
    | cons j l ih =>
      intro a ha hm
      have hj := hm j (by simp)
      have hl := Inv_cl hI j hj.1 hj.2
      exact ih _ (letN_rg hI hj.1 hj.2 ha _ (by omega)) (fun i hi => hm i (by simp [hi]))
  refine key l _ ?_ hm
  unfold at0
  dsimp only
  refine ⟨?_, by omega⟩
  split
  · omega
  · split
    · omega
    · split <;> omega
theorem force_rg {D : AM} (hI : Inv D) (day name : Int) : (0 ≤ (force D day name).1 ∧ (force D day name).1 ≤ 999) ∧ -1 ≤ (force D day name).2 ∧ (force D day name).2 ≤ 9 := forceL_rg hI (fun i hi => (cord_mem hi).1)
def cntN (D : AM) (s day : Int) : Nat → Int
  | 0 => 0
  | r + 1 => cntN D s day r + (if D 46 (5 * s + r) ≤ day then 1 else 0)
def lasN (D : AM) (s day : Int) : Nat → Int
  | 0 => if D 44 s ≤ day then D 44 s else -1
  | r + 1 => if D 46 (5 * s + r) ≤ day then D 46 (5 * s + r) else lasN D s day r
def feeN (D : AM) (s : Int) : Nat → Int
  | 0 => 0
  | r + 1 => feeN D s r + (force D (D 46 (5 * s + r)) 7).1
def f_suit (D : AM) (s day x : Int) : Int :=
  if ¬ (0 ≤ s ∧ s < D 0 69) then -100001 else if ¬ (0 ≤ day ∧ day ≤ 30000) then -100002 else if ¬ (0 ≤ x ∧ x ≤ 3) then -100002 else
  if x = 0 then cntN D s day (D 45 s).toNat else if x = 1 then lasN D s day (D 45 s).toNat else
  if x = 2 then (if 0 ≤ lasN D s day (D 45 s).toNat ∧ cntN D s day (D 45 s).toNat < 5 ∧ 0 < (force D day 6).1 ∧ (force D day 6).1 < day - lasN D s day (D 45 s).toNat then 1 else 0) else feeN D s (D 45 s).toNat
theorem isBy_cnt {D : AM} (hI : Inv D) {s day z : Int} (h0 : 0 ≤ s) (h1 : s < D 0 69) (h : isBy D s day z) : ∀ r : Nat, (r : Int) ≤ D 45 s → cntN D s day r = min (r : Int) z ∧ lasN D s day r = (if min (r : Int) z = 0 then (if D 44 s ≤ day then D 44 s else -1) else D 46 (5 * s + min (r : Int) z - 1))
  | 0, _ => by
    have := h.1
    have e : min ((0 : Nat) : Int) z = 0 := by omega
    rw [e, if_pos rfl]
    exact ⟨rfl, rfl⟩
  | r + 1, hr => by
    obtain ⟨ih1, ih2⟩ := isBy_cnt hI h0 h1 h r (by omega)
    obtain ⟨z0, z1, z2, z3⟩ := h
    unfold cntN lasN
    by_cases hrz : (r : Int) < z
    · have hle := z2 r (by omega) hrz
      rw [if_pos hle, if_pos hle, ih1]
      have e1 : min (r : Int) z = r := by omega
      have e2 : min ((r + 1 : Nat) : Int) z = r + 1 := by omega
      rw [e1, e2, if_neg (by omega), show 5 * s + ((r : Int) + 1) - 1 = 5 * s + r by omega]
      exact ⟨rfl, rfl⟩
    · have hlt := z3 (by omega)
      have hso := (Inv_so hI s r h0 h1 (by omega) (by omega)).2 z z0 (by omega)
      rw [if_neg (by omega), if_neg (by omega), ih1, ih2]
      have e1 : min (r : Int) z = z := by omega
      have e2 : min ((r + 1 : Nat) : Int) z = z := by omega
      rw [e1, e2]
      exact ⟨by omega, rfl⟩
theorem isBy_cl {D : AM} (hI : Inv D) {s day z : Int} (h0 : 0 ≤ s) (h1 : s < D 0 69) (h : isBy D s day z) : cntN D s day (D 45 s).toNat = z ∧ lasN D s day (D 45 s).toNat = (if z = 0 then (if D 44 s ≤ day then D 44 s else -1) else D 46 (5 * s + z - 1)) := by
  have hs := Inv_ss hI s
  obtain ⟨a, b⟩ := isBy_cnt hI h0 h1 h (D 45 s).toNat (by omega)
  have e : min (((D 45 s).toNat : Nat) : Int) z = z := by have := h.2.1; omega
  rw [e] at a b
  exact ⟨a, b⟩
theorem lasN_rg {D : AM} (hI : Inv D) (s day : Int) : ∀ r : Nat, -1 ≤ lasN D s day r ∧ lasN D s day r ≤ 30000
  | 0 => by unfold lasN; have := Inv_sd hI s; split <;> omega
  | r + 1 => by unfold lasN; have := Inv_st hI (5 * s + r); have := lasN_rg hI s day r; split <;> omega
theorem cntN_rg {D : AM} (s day : Int) : ∀ r : Nat, 0 ≤ cntN D s day r ∧ cntN D s day r ≤ r
  | 0 => by unfold cntN; omega
  | r + 1 => by unfold cntN; have := cntN_rg (D := D) s day r; split <;> omega
theorem feeN_rg {D : AM} (hI : Inv D) (s : Int) : ∀ r : Nat, 0 ≤ feeN D s r ∧ feeN D s r ≤ 999 * r
  | 0 => by unfold feeN; omega
  | r + 1 => by unfold feeN; have := feeN_rg hI s r; have := (force_rg hI (D 46 (5 * s + r)) 7).1; omega
theorem s1_Suits_fees {D M : AM} {s : Int} (hI : Inv D) (hB : B1 D M) (h0 : 0 ≤ s) (h1 : s < 20) : aCi s1_G 8 91 [aP 69, aI s] M (fun z M' => fr wC M M' ∧ B1 D M' ∧ z = feeN D s (D 45 s).toNat) := by
  refine ⟨Nat.le_of_ble_eq_true rfl, fun d hd => ?_⟩
  refine s1_Suits_fees_0 (by omega) ?_
  have hs := Inv_ss hI s
  have key : ∀ (g r : Nat) (M1 : AM), (r : Int) + g = D 45 s → fr wC M M1 → B1 D M1 → aE s1_G d 91 4 [] [some (aP 69), some (aI s), some (aI (feeN D s r)), some (aI r)] [] M1 (fun q M' => ∃ z, q = some (aI z) ∧ fr wC M M' ∧ B1 D M' ∧ z = feeN D s (D 45 s).toNat) := by
    intro g
    induction g with
    | zero =>
      intro r M1 hm hf hB1
      refine s1_Suits_fees_4 (by omega) ?_
      rw [B1_ss hB1]
      refine ⟨by omega, fun _ => ⟨_, rfl, hf, hB1, ?_⟩, fun h => absurd h (by omega)⟩
      rw [show r = (D 45 s).toNat by omega]
    | succ g ih =>
      intro r M1 hm hf hB1
      refine s1_Suits_fees_4 (by omega) ?_
      rw [B1_ss hB1, B1_st hB1, show s * 5 + r = 5 * s + r by omega, x_add (a := (r : Int)) (by omega)]
      have ht := Inv_st hI (5 * s + r)
      have hg := feeN_rg hI s r
      refine ⟨by omega, fun h => absurd h (by omega), fun _ => ⟨by omega, by omega, ?_⟩⟩
      refine aKi_of (s1_Canons_numberOn (name := 7) hI hB1 ht.1 (by omega)) (by omega) (fun z M2 q => ?_)
      obtain ⟨q1, q2, q3, q4⟩ := q
      have hr := (force_rg hI (D 46 (5 * s + r)) 7).1
      rw [q4, x_add (by omega)]
      exact ih (r + 1) M2 (by omega) (fr_tr hf q1) q2
  exact key (D 45 s).toNat 0 M (by omega) fr_rf hB
theorem s1_Suits_sleeps {D M : AM} {s day : Int} (hI : Inv D) (hB : B1 D M) (h0 : 0 ≤ s) (h1 : s < D 0 69) (hd0 : 0 ≤ day ∧ day ≤ 30000) : aCi s1_G 8 90 [aP 69, aI s, aI day] M (fun z M' => fr wC M M' ∧ B1 D M' ∧ z = (if 0 ≤ lasN D s day (D 45 s).toNat ∧ cntN D s day (D 45 s).toNat < 5 ∧ 0 < (force D day 6).1 ∧ (force D day 6).1 < day - lasN D s day (D 45 s).toNat then 1 else 0)) := by
  refine ⟨Nat.le_of_ble_eq_true rfl, fun d hd => ?_⟩
  refine s1_Suits_sleeps_0 (by omega) ?_
  have hn := Inv_sn hI
  refine aKi_of (s1_Suits_lastDay hI hB h0 (by omega)) (by omega) (fun z M1 q => ?_)
  obtain ⟨rfl, y, hy, hz⟩ := q
  obtain ⟨e1, e2⟩ := isBy_cl hI h0 h1 hy
  rw [← e2] at hz
  subst hz
  have hl := lasN_rg hI s day (D 45 s).toNat
  refine aKi_of (s1_Canons_numberOn (name := 6) hI hB hd0.1 (by omega)) (by omega) (fun z M2 q => ?_)
  obtain ⟨q1, q2, q3, q4⟩ := q
  have hr := (force_rg hI day 6).1
  rw [q4]
  refine ⟨fun h => ⟨Or.inl rfl, _, rfl, q1, q2, ?_⟩, fun h => ⟨fun g => ⟨Or.inl rfl, _, rfl, q1, q2, ?_⟩, fun g => ?_⟩⟩
  · (repeat (first | rw [if_pos (by omega)] | rw [if_neg (by omega)]))
  · (repeat (first | rw [if_pos (by omega)] | rw [if_neg (by omega)]))
  · refine aKi_of (s1_Suits_stepsBy hI q2 h0 (by omega)) (by omega) (fun z M3 q => ?_)
    obtain ⟨rfl, hy2⟩ := q
    obtain ⟨e3, -⟩ := isBy_cl hI h0 h1 hy2
    subst e3
    rw [x_sub (by omega)]
    refine ⟨fun a => ⟨Or.inl rfl, _, rfl, q1, q2, ?_⟩, fun a => ⟨fun b => ⟨Or.inl rfl, _, rfl, q1, q2, ?_⟩, fun b => ⟨Or.inr rfl, _, rfl, q1, q2, ?_⟩⟩⟩
    · (repeat (first | rw [if_pos (by omega)] | rw [if_neg (by omega)]))
    · (repeat (first | rw [if_pos (by omega)] | rw [if_neg (by omega)]))
    · (repeat (first | rw [if_pos (by omega)] | rw [if_neg (by omega)]))
theorem c1_suit {D M : AM} {s day x : Int} (hI : Inv D) (hB : B1 D M) : aCi s1_G 12 132 [aP 0, aI s, aI day, aI x] M (fun z M' => z = f_suit D s day x ∧ fr wC M M' ∧ B1 D M') := by
  refine ⟨Nat.le_of_ble_eq_true rfl, fun d hd => ?_⟩
  refine s1_suit_0 (by omega) ?_
  have hn := Inv_sn hI
  simp only [a_bl_n, a_bl_z, B1_sn hB]
  rw [x_sub (by omega)]
  unfold f_suit
  refine ⟨fun h1 => ⟨fun h2 => ⟨⟨fun e => ?_, fun e => ?_, fun e => ?_, fun e => ?_, trivial⟩, fun e => ⟨_, rfl, by (repeat (first | rw [if_pos (by omega)] | rw [if_neg (by omega)])), fr_rf, hB⟩⟩, fun h => ⟨_, rfl, by (repeat (first | rw [if_pos (by omega)] | rw [if_neg (by omega)])), fr_rf, hB⟩⟩, fun h => ⟨_, rfl, by (repeat (first | rw [if_pos (by omega)] | rw [if_neg (by omega)])), fr_rf, hB⟩⟩
  · refine aKi_of (s1_Suits_stepsBy hI hB h1.1 (by omega)) (by omega) (fun z M1 q => ?_)
    obtain ⟨rfl, hy⟩ := q
    refine ⟨_, rfl, ?_, fr_rf, hB⟩
    (repeat (first | rw [if_pos (by omega)] | rw [if_neg (by omega)]))
    exact (isBy_cl hI h1.1 (by omega) hy).1.symm
  · refine aKi_of (s1_Suits_lastDay hI hB h1.1 (by omega)) (by omega) (fun z M1 q => ?_)
    obtain ⟨rfl, y, hy, hz⟩ := q
    refine ⟨_, rfl, ?_, fr_rf, hB⟩
    rw [hz, ← (isBy_cl hI h1.1 (by omega) hy).2]
    (repeat (first | rw [if_pos (by omega)] | rw [if_neg (by omega)]))
  · refine aKi_of (s1_Suits_sleeps hI hB h1.1 (by omega) h2) (by omega) (fun z M1 q => ?_)
    obtain ⟨q1, q2, q3⟩ := q
    have e1 : (if ¬ (0 ≤ s ∧ s < D 0 69) then -100001 else if ¬ (0 ≤ day ∧ day ≤ 30000) then -100002 else if ¬ (0 ≤ x ∧ x ≤ 3) then -100002 else if x = 0 then cntN D s day (D 45 s).toNat else if x = 1 then lasN D s day (D 45 s).toNat else if x = 2 then z else feeN D s (D 45 s).toNat) = z := by
      rw [if_neg (by omega), if_neg (by omega), if_neg (by omega), if_neg (by omega), if_neg (by omega), if_pos e]
    have e2 : a_bl (z ≠ 0) = z := by rw [q3]; split <;> rfl
    rw [← q3]
    exact ⟨_, rfl, e2.trans e1.symm, q1, q2⟩
  · refine aKi_of (s1_Suits_fees hI hB h1.1 (by omega)) (by omega) (fun z M1 q => ?_)
    obtain ⟨q1, q2, q3⟩ := q
    refine ⟨_, rfl, ?_, q1, q2⟩
    (repeat (first | rw [if_pos (by omega)] | rw [if_neg (by omega)]))
    exact q3
theorem s2_suit_loop {D M : AM} {d : Nat} {s day x : Int} (hd : 7 ≤ d) (hI : Inv D) (hL : eqL D M) (h0 : 0 ≤ s) (h1 : s < D 0 69) (hday : 0 ≤ day ∧ day ≤ 30000) (hx : 0 ≤ x ∧ x ≤ 3) : ∀ (g r : Nat) (M1 : AM), (r : Int) + g = D 45 s → fr wF M M1 → aE s2_G d 87 64 [] [some (aP 0), some (aI s), some (aI day), some (aI x), some (aI (cntN D s day r)), some (aI (lasN D s day r)), some (aI (feeN D s r)), some (aI r), none] [] M1 (fun q M' => ∃ z, q = some (aI z) ∧ z = f_suit D s day x ∧ fr wF M M')
  | 0, r, M1, hm, hf => by
    have hn := Inv_sn hI
    have hL1 := eqL_fw hL hf rfl
    have hs := Inv_ss hI s
    refine s2_suit_64 (by omega) ?_
    rw [L_45 hL1]
    refine ⟨by omega, fun _ => ?_, fun h => absurd h (by omega)⟩
    refine aKi_of (s2_forceOf (name := 6) (day := day) hI hL1) (by omega) (fun z M2 q => ?_)
    obtain ⟨q1, q2, q3⟩ := q
    have hr := (force_rg hI day 6).1
    have hl := lasN_rg hI s day r
    have ef := fr_tr hf q1
    rw [q2, x_sub (by omega)]
    unfold f_suit
    rw [if_neg (by omega), if_neg (by omega), if_neg (by omega), show (D 45 s).toNat = r by omega]
    have b0 : a_bl ((0 : Int) ≠ 0) = 0 := rfl
    have b1 : a_bl ((1 : Int) ≠ 0) = 1 := rfl
    rw [b0, b1]
    refine ⟨fun a => ⟨fun b => ⟨fun c => ⟨_, rfl, by (repeat (first | rw [if_pos (by omega)] | rw [if_neg (by omega)])), ef⟩, fun c => ⟨fun e1 => ⟨_, rfl, by (repeat (first | rw [if_pos (by omega)] | rw [if_neg (by omega)])), ef⟩, fun e1 => ⟨fun e2 => ⟨_, rfl, by (repeat (first | rw [if_pos (by omega)] | rw [if_neg (by omega)])), ef⟩, fun e2 => ⟨fun e3 => ⟨_, rfl, by (repeat (first | rw [if_pos (by omega)] | rw [if_neg (by omega)])), ef⟩, fun e3 => ⟨fun e4 => ⟨_, rfl, by (repeat (first | rw [if_pos (by omega)] | rw [if_neg (by omega)])), ef⟩, fun e4 => ⟨_, rfl, by (repeat (first | rw [if_pos (by omega)] | rw [if_neg (by omega)])), ef⟩⟩⟩⟩⟩⟩, fun b => ⟨_, rfl, by (repeat (first | rw [if_pos (by omega)] | rw [if_neg (by omega)])), ef⟩⟩, fun a => ⟨_, rfl, by (repeat (first | rw [if_pos (by omega)] | rw [if_neg (by omega)])), ef⟩⟩
  | g + 1, r, M1, hm, hf => by
    have hn := Inv_sn hI
    have hL1 := eqL_fw hL hf rfl
    have hs := Inv_ss hI s
    have ih := s2_suit_loop (x := x) hd hI hL h0 h1 hday hx g (r + 1)
    have hc := cntN_rg (D := D) s day r
    have hfe := feeN_rg hI s r
    unfold cntN lasN feeN at ih
    refine s2_suit_64 (by omega) ?_
    rw [L_45 hL1, L_46 hL1, x_mul (by omega), x_add (a := 5 * s) (by omega), x_add (a := (r : Int)) (by omega)]
    refine ⟨by omega, fun h => absurd h (by omega), fun _ => ⟨by omega, ?_⟩⟩
    refine aKi_of (s2_forceOf (name := 7) (day := D 46 (5 * s + r)) hI hL1) (by omega) (fun z M2 q => ?_)
    obtain ⟨q1, q2, q3⟩ := q
    have hr := (force_rg hI (D 46 (5 * s + r)) 7).1
    have b0 : a_bl ((0 : Int) ≠ 0) = 0 := rfl
    have b1 : a_bl ((1 : Int) ≠ 0) = 1 := rfl
    rw [q2, b0, b1, x_add (a := feeN D s r) (by omega), x_add (a := cntN D s day r) (by omega), x_add (a := cntN D s day r) (by omega)]
    refine ⟨fun a => ⟨fun _ => ?_, fun b => absurd a (by omega)⟩, fun a => ⟨fun b => absurd a (by omega), fun _ => ?_⟩⟩
    · rw [if_neg (by omega), if_neg (by omega)] at ih
      exact ih M2 (by omega) (fr_tr hf q1)
    · rw [if_pos a, if_pos a] at ih
      exact ih M2 (by omega) (fr_tr hf q1)
theorem c2_suit {M : AM} {s day x : Int} (hI : Inv M) : aCi s2_G 8 87 [aP 0, aI s, aI day, aI x] M (fun z M' => z = f_suit M s day x ∧ fr wF M M') := by
  refine ⟨Nat.le_of_ble_eq_true rfl, fun d hd => ?_⟩
  refine s2_suit_0 (by omega) ?_
  have hn := Inv_sn hI
  simp only [a_bl_n, a_bl_z]
  rw [x_sub (by omega)]
  refine ⟨fun h1 => ⟨fun h => ⟨_, rfl, by unfold f_suit; (repeat (first | rw [if_pos (by omega)] | rw [if_neg (by omega)])), fr_rf⟩, fun h2 => ⟨fun h3 => ?_, fun h => ⟨_, rfl, by unfold f_suit; (repeat (first | rw [if_pos (by omega)] | rw [if_neg (by omega)])), fr_rf⟩⟩⟩, fun h => ⟨_, rfl, by unfold f_suit; (repeat (first | rw [if_pos (by omega)] | rw [if_neg (by omega)])), fr_rf⟩⟩
  have hs := Inv_ss hI s
  have h := s2_suit_loop (d := d) (M := M) (x := x) (by omega) hI eqL_rf (s := s) (day := day) (by omega) (by omega) h2 h3 (M 45 s).toNat 0 M (by omega) fr_rf
  unfold lasN at h
  refine ⟨by omega, fun a => ?_, fun a => ⟨by omega, ?_⟩⟩
  · rw [if_neg (by omega)] at h; exact h
  · rw [if_pos a] at h; exact h
