/-! THE BOOK: how each system finds it; what is looked up in it -/
-- the second system
theorem s2_fv_zero {D M : AM} {Q : Option AV → AM → Prop} {d : Nat} {w x2 : Int} (hd : 4 ≤ d) (hI : Inv D) (hL : eqL D M)
    (K : ∀ M', fr (wr [12] []) M M' → (∀ i, 0 ≤ i → i < D 0 7 → M' 12 i = 0) → aE s2_G d 17 32 [] [some (aP 0), some (aI w), some (aI x2), some (aI (D 0 7 - 1))] [] M' Q) :
    ∀ (m : Nat) (x : Int) (M1 : AM), 0 ≤ x → x + m = D 0 7 → fr (wr [12] []) M M1 → (∀ i, 0 ≤ i → i < x → M1 12 i = 0) → aE s2_G d 17 4 [] [some (aP 0), some (aI w), some (aI x2), some (aI x)] [] M1 Q
  | 0, x, M1, h0, hm, hf, hz => by
    have hn := Inv_pn hI
    refine s2_findVoid_4 (by omega) ?_
    have e7 : M1 0 7 = D 0 7 := (hf 0 7 rfl).trans (L0_7 hL)
    rw [e7, x_sub (by omega)]
    (repeat' (with_reducible first | refine And.intro ?_ ?_ | intro _))
    all_goals (try first | with_reducible rfl | with_reducible exact True.intro | with_reducible exact Or.inl True.intro | with_reducible exact Or.inr True.intro | omega | (exfalso; with_reducible assumption))
    exact K M1 hf (fun i a b => hz i a (by omega))
  | m + 1, x, M1, h0, hm, hf, hz => by
    have hn := Inv_pn hI
    refine s2_findVoid_4 (by omega) ?_
    have e7 : M1 0 7 = D 0 7 := (hf 0 7 rfl).trans (L0_7 hL)
    rw [e7, x_add (by omega)]
    (repeat' (with_reducible first | refine And.intro ?_ ?_ | intro _))
    all_goals (try first | with_reducible rfl | with_reducible exact True.intro | with_reducible exact Or.inl True.intro | with_reducible exact Or.inr True.intro | omega | (exfalso; with_reducible assumption))
    refine s2_fv_zero hd hI hL K m (x + 1) _ (by omega) (by omega) (fr_up hf rfl) (fun i a b => ?_)
    rw [x_uu]
    by_cases e : i = x
    · subst e; exact up1_s
    · rw [up1_n e]; exact hz i a (by omega)
theorem s2_fv_mark {D M : AM} {Q : Option AV → AM → Prop} {d : Nat} {w x2 : Int} (hd : 4 ≤ d) (hI : Inv D) (hL : eqL D M)
    (K : ∀ M', fr (wr [12] []) M M' → M' 12 = vmk (D 7) (D 5) (D 11) w (D 0 7).toNat (M 12) → aE s2_G d 17 86 [] [some (aP 0), none, some (aI x2), some (aI 0)] [] M' Q) :
    ∀ (m : Nat) (M1 : AM), (m : Int) ≤ D 0 7 → fr (wr [12] []) M M1 → vmk (D 7) (D 5) (D 11) w m (M1 12) = vmk (D 7) (D 5) (D 11) w (D 0 7).toNat (M 12) → aE s2_G d 17 32 [] [some (aP 0), some (aI w), some (aI x2), some (aI (m - 1))] [] M1 Q
  | 0, M1, hm, hf, hv => by
    refine s2_findVoid_32 (by omega) ?_
    (repeat' (with_reducible first | refine And.intro ?_ ?_ | intro _))
    all_goals (try first | with_reducible rfl | with_reducible exact True.intro | with_reducible exact Or.inl True.intro | with_reducible exact Or.inr True.intro | omega | (exfalso; with_reducible assumption))
    exact K M1 hf hv
  | m + 1, M1, hm, hf, hv => by
    have hn := Inv_pn hI
    refine s2_findVoid_32 (by omega) ?_
    have hL1 := eqL_fw hL hf rfl
    rw [x_add (by omega), L_7 hL1, L_5 hL1, L_11 hL1]
    rw [show ((m + 1 : Nat) : Int) - 1 + -1 = (m : Int) - 1 by omega, show ((m + 1 : Nat) : Int) - 1 = (m : Int) by omega]
    have hV := Inv_hV hI m (by omega) (by omega)
    rw [show vmk (D 7) (D 5) (D 11) w (m + 1) (M1 12) = vmk (D 7) (D 5) (D 11) w m (vstep (D 7) (D 5) (D 11) w m (M1 12)) from rfl] at hv
    unfold vstep at hv
    (repeat' (with_reducible first | refine And.intro ?_ ?_ | intro _))
    all_goals (try first | with_reducible rfl | with_reducible exact True.intro | with_reducible exact Or.inl True.intro | with_reducible exact Or.inr True.intro | omega | (exfalso; with_reducible assumption))
    · rw [if_neg (by omega)] at hv
      exact s2_fv_mark hd hI hL K m M1 (by omega) hf hv
    · rw [if_neg (by omega)] at hv
      exact s2_fv_mark hd hI hL K m M1 (by omega) hf hv
    · rw [if_neg (by omega)] at hv
      exact s2_fv_mark hd hI hL K m M1 (by omega) hf hv
    · rw [if_pos (by omega)] at hv
      refine s2_fv_mark hd hI hL K m _ (by omega) (fr_up hf rfl) ?_
      rw [x_uu]
      exact hv
theorem s2_fv_count {D M : AM} {d : Nat} {w : Int} (hd : 4 ≤ d) (hI : Inv D) (hL : eqL D M) (hV : ∀ i, 0 ≤ i → i < D 0 7 → M 12 i = vd D w i) :
    ∀ (m x : Nat), (x : Int) + m = D 0 7 → aE s2_G d 17 86 [] [some (aP 0), none, some (aI (nvd D w x)), some (aI x)] [] M (fun r M' => ∃ z, r = some (aI z) ∧ z = nvd D w (D 0 7).toNat ∧ M' = M)
  | 0, x, hm => by
    refine s2_findVoid_86 (by omega) ?_
    rw [L0_7 hL]
    (repeat' (with_reducible first | refine And.intro ?_ ?_ | intro _))
    all_goals (try first | with_reducible rfl | with_reducible exact True.intro | with_reducible exact Or.inl True.intro | with_reducible exact Or.inr True.intro | omega | (exfalso; with_reducible assumption))
    refine ⟨_, rfl, ?_, by trivial⟩
    rw [show x = (D 0 7).toNat by omega]
  | m + 1, x, hm => by
    have hn := Inv_pn hI
    refine s2_findVoid_86 (by omega) ?_
    have hc : nvd D w x ≤ x := by
      have := List.countP_le_length (p := fun i : Nat => decide (vd D w i ≠ 0)) (l := List.range x)
      rw [List.length_range] at this
      exact this
    rw [L0_7 hL, x_add (a := (x : Int)) (by omega)]
    (repeat' (with_reducible first | refine And.intro ?_ ?_ | intro _))
    all_goals (try first | with_reducible rfl | with_reducible exact True.intro | with_reducible exact Or.inl True.intro | with_reducible exact Or.inr True.intro | omega | (exfalso; with_reducible assumption))
    have ih := s2_fv_count hd hI hL hV m (x + 1) (by omega)
    rw [nvd_succ] at ih
    rw [hV x (by omega) (by omega)]
    have e : a_add (nvd D w x) (a_bl (vd D w x ≠ 0)) = ((nvd D w x + if vd D w x ≠ 0 then 1 else 0 : Nat) : Int) := by
      unfold a_bl
      split
      · rw [x_add (by omega)]; rfl
      · rw [x_add (by omega)]; rfl
    rw [e]
    exact ih
theorem s2_findVoid {D M : AM} {w : Int} (hI : Inv D) (hL : eqL D M) : aCi s2_G 4 17 [aP 0, aI w] M (fun z M' => z = nvd D w (D 0 7).toNat ∧ fr (wr [12] []) M M' ∧ ∀ i, 0 ≤ i → i < D 0 7 → M' 12 i = vd D w i) := by
  refine ⟨Nat.le_of_ble_eq_true rfl, fun d hd => ?_⟩
  refine s2_findVoid_0 (by omega) ?_
  have hn := Inv_pn hI
  refine s2_fv_zero hd hI hL (fun M1 hf1 hz => ?_) (D 0 7).toNat 0 M (by omega) (by omega) fr_rf (fun i a b => by omega)
  have hL1 := eqL_fw hL hf1 rfl
  have hk := s2_fv_mark (M := M1) (w := w) (x2 := 0) (Q := fun r M' => ∃ z, r = some (aI z) ∧ z = nvd D w (D 0 7).toNat ∧ fr (wr [12] []) M M' ∧ ∀ i, 0 ≤ i → i < D 0 7 → M' 12 i = vd D w i) hd hI hL1 (fun M2 hf2 hv => ?_) (D 0 7).toNat M1 (by omega) fr_rf rfl
  · rw [show (((D 0 7).toNat : Nat) : Int) = D 0 7 by omega] at hk
    exact hk
  · have hV : ∀ i, 0 ≤ i → i < D 0 7 → M2 12 i = vd D w i := fun i a b => by
      rw [hv]
      exact vmk_cg (D 0 7) _ _ _ (by omega) (fun i a b => hz i a b) i a b
    have h := s2_fv_count hd hI (eqL_fw hL1 hf2 rfl) hV (D 0 7).toNat 0 (by omega)
    refine aE_mono _ _ _ _ _ _ _ _ _ (fun r M' q => ?_) h
    obtain ⟨z, q1, q2, q3⟩ := q
    subst q3
    exact ⟨z, q1, q2, fr_tr hf1 hf2, hV⟩
theorem s2_fb_shift {D M : AM} {Q : Option AV → AM → Prop} {d : Nat} {w x : Int} {L : List Int} (hd : 4 ≤ d) (hI : Inv D) (hL : eqL D M) (hx : 0 ≤ x ∧ x < D 0 7) (hs : Srt (D 6) L) (hm : ∀ i ∈ L, 0 ≤ i ∧ i < D 0 7) (hlen : (L.length : Int) ≤ x) (hsz : M 0 17 = L.length)
    (K : ∀ M', fr (wr [13] [(0, 17)]) M M' → isL (M' 13) (ins (D 6) x L) → M' 0 17 = L.length + 1 → aE s2_G d 18 13 [] [some (aP 0), some (aI w), none, some (aI (x + 1)), none] [] M' Q) :
    ∀ (n : Nat) (A B : List Int) (M1 : AM), A.length = n → L = A ++ B → (∀ b ∈ B, D 6 x < D 6 b) → fr (wr [13] []) M M1 → hole (M1 13) A B → aE s2_G d 18 46 [] [some (aP 0), some (aI w), none, some (aI x), some (aI n)] [] M1 Q
  | 0, A, B, M1, hn, hAB, hB, hf, hh => by
    have hpn := Inv_pn hI
    have hA : A = [] := List.length_eq_zero_iff.mp hn
    subst hA
    refine s2_findBook_46 (by omega) ?_
    simp (decide := true) only [x_uc]
    have e17 : M1 0 17 = L.length := (hf 0 17 rfl).trans hsz
    rw [e17, x_add (a := (L.length : Int)) (by omega), x_add (a := x) (by omega)]
    (repeat' (with_reducible first | refine And.intro ?_ ?_ | intro _))
    all_goals (try first | with_reducible rfl | with_reducible exact True.intro | with_reducible exact Or.inl True.intro | with_reducible exact Or.inr True.intro | omega | (exfalso; with_reducible assumption))
    refine K _ (fr_up (fr_up (fr_mo hf rfl) rfl) rfl) ?_ (by rw [x_us])
    simp (decide := true) only [x_uk, x_uu]
    rw [hAB, ins_split (A := []) (B := B) (fun a h => by cases h) hB]
    exact hole_end hh rfl
  | n + 1, A, B, M1, hn, hAB, hB, hf, hh => by
    have hpn := Inv_pn hI
    obtain ⟨A', y, rfl⟩ : ∃ A' y, A = A' ++ [y] := by
      rcases List.eq_nil_or_concat A with rfl | ⟨A', y, rfl⟩
      · cases hn
      · exact ⟨A', y, by simp⟩
    have hA' : A'.length = n := by simpa using hn
    have hy : M1 13 n = y := by rw [← hA']; exact hole_top hh
    have hyL : y ∈ L := by rw [hAB]; simp
    have hyr := hm y hyL
    have hlen2 : L.length = n + 1 + B.length := by rw [hAB]; simp; omega
    have hL1 := eqL_fw hL hf rfl
    refine s2_findBook_46 (by omega) ?_
    have e17 : M1 0 17 = L.length := (hf 0 17 rfl).trans hsz
    rw [x_sub (by omega), show ((n + 1 : Nat) : Int) - 1 = n by omega, hy, L_6 hL1]
    rw [x_add (a := ((n + 1 : Nat) : Int)) (by omega), show ((n + 1 : Nat) : Int) + -1 = n by omega]
    simp (decide := true) only [x_uc]
    rw [e17, x_add (a := (L.length : Int)) (by omega), x_add (a := x) (by omega)]
    (repeat' (with_reducible first | refine And.intro ?_ ?_ | intro _))
    all_goals (try first | with_reducible rfl | with_reducible exact True.intro | with_reducible exact Or.inl True.intro | with_reducible exact Or.inr True.intro | omega | (exfalso; with_reducible assumption))
    · refine K _ (fr_up (fr_up (fr_mo hf rfl) rfl) rfl) ?_ (by rw [x_us])
      simp (decide := true) only [x_uk, x_uu]
      rw [hAB, ins_split (fun a ha => srt_last (by rw [hAB] at hs; exact (List.pairwise_append.mp hs).1) (by assumption) a ha) hB]
      exact hole_end hh (by simp; omega)
    · refine s2_fb_shift hd hI hL hx hs hm hlen hsz K n A' (y :: B) _ hA' (by rw [hAB]; simp) (fun b hb => ?_) (fr_up hf rfl) ?_
      · rcases List.mem_cons.mp hb with rfl | hb
        · assumption
        · exact hB b hb
      · rw [x_uu]
        exact hole_step hh (by omega)
/-- the book lies in a row -/
def isB (n : Int) (f : Int → Int) (l : List Int) : Prop := n = l.length ∧ isL f l
theorem s2_fb_loop {D M : AM} {d : Nat} {w : Int} (hd : 4 ≤ d) (hI : Inv D) (hL : eqL D M) (hV : ∀ i, 0 ≤ i → i < D 0 7 → M 12 i = vd D w i) :
    ∀ (m x : Nat) (M1 : AM), (x : Int) + m = D 0 7 → fr (wr [13] [(0, 17)]) M M1 → isB (M1 0 17) (M1 13) (bkN D w x) → aE s2_G d 18 13 [] [some (aP 0), some (aI w), none, some (aI x), none] [] M1 (fun r M' => r = none ∧ fr (wr [13] [(0, 17)]) M M' ∧ isB (M' 0 17) (M' 13) (bk D w))
  | 0, x, M1, hm, hf, hb => by
    have hL1 := eqL_fw hL hf rfl
    have hb' : isB (M1 0 17) (M1 13) (bk D w) := by
      rw [show x = (D 0 7).toNat by omega] at hb
      exact hb
    refine s2_findBook_13 (by omega) ?_
    rw [L0_7 hL1]
    (repeat' (with_reducible first | refine And.intro ?_ ?_ | intro _))
    all_goals (try first | with_reducible rfl | with_reducible exact True.intro | with_reducible exact Or.inl True.intro | with_reducible exact Or.inr True.intro | omega | (exfalso; with_reducible assumption))
    all_goals first | rfl | exact hf | exact hb'
  | m + 1, x, M1, hm, hf, hb => by
    have hpn := Inv_pn hI
    have hL1 := eqL_fw hL hf rfl
    have ih := s2_fb_loop hd hI hL hV m (x + 1)
    rw [bkN_succ] at ih
    have hv : M1 12 x = vd D w x := by rw [hf 12 x rfl]; exact hV x (by omega) (by omega)
    refine s2_findBook_13 (by omega) ?_
    rw [L0_7 hL1, L_7 hL1, hv, x_add (by omega)]
    (repeat' (with_reducible first | refine And.intro ?_ ?_ | intro _))
    all_goals (try first | with_reducible rfl | with_reducible exact True.intro | with_reducible exact Or.inl True.intro | with_reducible exact Or.inr True.intro | omega | (exfalso; with_reducible assumption))
    · have e : inB D w x = false := by unfold inB; simp; omega
      rw [e] at ih
      exact ih M1 (by omega) hf hb
    · have e : inB D w x = false := by unfold inB; simp; omega
      rw [e] at ih
      exact ih M1 (by omega) hf hb
    · have e : inB D w x = true := by unfold inB; simp; omega
      rw [e] at ih
      have hlen := bkN_len (D := D) (w := w) x
      rw [hb.1]
      refine s2_fb_shift hd hI hL1 (by omega) (bkN_sorted x) (fun i hi => by have := bkN_mem hi; omega) (by omega) hb.1 (fun M' hf' hl hn => ?_) (bkN D w x).length (bkN D w x) [] M1 rfl (by simp) (fun b hb => by cases hb) fr_rf (hole_init hb.2)
      exact ih M' (by omega) (fr_tr hf hf') ⟨by rw [hn, if_pos rfl, ins_len]; omega, by rw [if_pos rfl]; exact hl⟩
theorem s2_findBook {D M : AM} {w : Int} (hI : Inv D) (hL : eqL D M) : aCv s2_G 5 18 [aP 0, aI w] M (fun M' => fr (wr [12, 13] [(0, 17)]) M M' ∧ isB (M' 0 17) (M' 13) (bk D w)) := by
  refine ⟨Nat.le_of_ble_eq_true rfl, fun d hd => ?_⟩
  refine s2_findBook_0 (by omega) ?_
  refine aKi_of (s2_findVoid hI hL) (by omega) (fun z M1 q => ?_)
  obtain ⟨-, hf, hV⟩ := q
  have hpn := Inv_pn hI
  have hL1 := eqL_fw hL hf rfl
  have h := s2_fb_loop (d := d) (w := w) (M := am_up M1 0 17 0) (by omega) hI (eqL_fw hL1 (fr_up (fr_rf (W := wr [] [(0, 17)])) rfl) rfl) (fun i a b => by rw [x_uk (by decide)]; exact hV i a b) (D 0 7).toNat 0 (am_up M1 0 17 0) (by omega) fr_rf ⟨by rw [x_us]; rfl, isL_nil⟩
  refine aE_mono _ _ _ _ _ _ _ _ _ (fun r M' q => ?_) h
  obtain ⟨q1, q2, q3⟩ := q
  exact ⟨q1, fr_tr (fr_tr (fr_mo hf rfl) (fr_up fr_rf rfl)) (fr_mo q2 rfl), q3⟩
-- what is looked up
theorem s2_firstOf {D M : AM} {k p : Int} {l : List Int} (hI : Inv D) (hL : eqL D M) (hb : isB (M 0 17) (M 13) l) (hm : ∀ i ∈ l, 0 ≤ i ∧ i < D 0 7) (hlen : l.length ≤ 150) : aCi s2_G 4 21 [aP 0, aI k, aI p] M (fun z M' => M' = M ∧ z = match fsP D l k p with | some i => i | none => -1) := by
  refine ⟨Nat.le_of_ble_eq_true rfl, fun d hd => ?_⟩
  refine s2_firstOf_0 (by omega) ?_
  have hpn := Inv_pn hI
  have key : ∀ (suf pre : List Int), l = pre ++ suf → aE s2_G d 21 2 [] [some (aP 0), some (aI k), some (aI p), some (aI pre.length)] [] M (fun r M' => ∃ z, r = some (aI z) ∧ M' = M ∧ z = match fsP D suf k p with | some i => i | none => -1) := by
    intro suf
    induction suf with
    | nil =>
      intro pre e
      have hl : l.length = pre.length := by rw [e]; simp
      refine s2_firstOf_2 (by omega) ?_
      rw [hb.1]
      (repeat' (with_reducible first | refine And.intro ?_ ?_ | intro _))
      all_goals (try first | with_reducible rfl | with_reducible exact True.intro | with_reducible exact Or.inl True.intro | with_reducible exact Or.inr True.intro | omega | (exfalso; with_reducible assumption))
      exact ⟨_, rfl, by trivial, rfl⟩
    | cons a suf ih =>
      intro pre e
      have hl : l.length = pre.length + 1 + suf.length := by rw [e]; simp; omega
      have ha : M 13 pre.length = a := isL_mid (by rw [← e]; exact hb.2)
      have har := hm a (by rw [e]; simp)
      have ih := ih (pre ++ [a]) (by rw [e]; simp)
      rw [List.length_append] at ih
      refine s2_firstOf_2 (by omega) ?_
      rw [hb.1, ha, L_5 hL, L_9 hL, x_add (by omega)]
      unfold fsP at ih ⊢
      (repeat' (with_reducible first | refine And.intro ?_ ?_ | intro _))
      all_goals (try first | with_reducible rfl | with_reducible exact True.intro | with_reducible exact Or.inl True.intro | with_reducible exact Or.inr True.intro | omega | (exfalso; with_reducible assumption))
      · rw [List.find?_cons_of_neg (by simp; omega)]; exact ih
      · rw [List.find?_cons_of_neg (by simp; omega)]; exact ih
      · rw [List.find?_cons_of_pos (by simp; omega)]; exact ⟨_, rfl, by trivial, rfl⟩
  exact key l [] rfl
theorem s2_dayOn {D M : AM} {k p : Int} {l : List Int} (hI : Inv D) (hL : eqL D M) (hb : isB (M 0 17) (M 13) l) (hm : ∀ i ∈ l, 0 ≤ i ∧ i < D 0 7) (hlen : l.length ≤ 150) : aCi s2_G 5 22 [aP 0, aI k, aI p] M (fun z M' => M' = M ∧ z = dayOn D l k p) := by
  refine ⟨Nat.le_of_ble_eq_true rfl, fun d hd => ?_⟩
  refine s2_dayOn_0 (by omega) ?_
  have hpn := Inv_pn hI
  refine aKi_of (s2_firstOf hI hL hb hm hlen) (by omega) (fun z M1 q => ?_)
  obtain ⟨rfl, rfl⟩ := q
  rw [L_6 hL]
  unfold dayOn
  cases e : fsP D l k p with
  | none =>
    dsimp only
    (repeat' (with_reducible first | refine And.intro ?_ ?_ | intro _))
    all_goals (try first | with_reducible rfl | with_reducible exact True.intro | with_reducible exact Or.inl True.intro | with_reducible exact Or.inr True.intro | omega | (exfalso; with_reducible assumption))
    exact ⟨_, rfl, by trivial, rfl⟩
  | some i =>
    have hi := hm i (List.mem_of_find?_eq_some e)
    dsimp only
    (repeat' (with_reducible first | refine And.intro ?_ ?_ | intro _))
    all_goals (try first | with_reducible rfl | with_reducible exact True.intro | with_reducible exact Or.inl True.intro | with_reducible exact Or.inr True.intro | omega | (exfalso; with_reducible assumption))
    exact ⟨_, rfl, by trivial, rfl⟩
/-- whether a person has had something by a day -/
def hadP (D : AM) (l : List Int) (k p t : Int) : Prop := 0 ≤ dayOn D l k p ∧ dayOn D l k p ≤ t
def hadB (D : AM) (l : List Int) (k p t : Int) : Bool := decide (0 ≤ dayOn D l k p) && decide (dayOn D l k p ≤ t)
theorem s2_isDead {D M : AM} {p t : Int} {l : List Int} (hI : Inv D) (hL : eqL D M) (hb : isB (M 0 17) (M 13) l) (hm : ∀ i ∈ l, 0 ≤ i ∧ i < D 0 7) (hlen : l.length ≤ 150) : aCi s2_G 6 23 [aP 0, aI p, aI t] M (fun z M' => M' = M ∧ z = bI (hadB D l 1 p t)) := by
  refine ⟨Nat.le_of_ble_eq_true rfl, fun d hd => ?_⟩
  refine s2_isDead_0 (by omega) ?_
  refine aKi_of (s2_dayOn hI hL hb hm hlen) (by omega) (fun z M1 q => ?_)
  obtain ⟨rfl, rfl⟩ := q
  unfold hadB
  (repeat' (with_reducible first | refine And.intro ?_ ?_ | intro _))
  all_goals (try first | with_reducible rfl | with_reducible exact True.intro | with_reducible exact Or.inl True.intro | with_reducible exact Or.inr True.intro | omega | (exfalso; with_reducible assumption))
  · refine ⟨_, rfl, by trivial, ?_⟩; rw [show decide (0 ≤ dayOn D l 1 p) = false by simp; omega]; rfl
  · refine ⟨_, rfl, by trivial, ?_⟩; rw [show decide (dayOn D l 1 p ≤ t) = false by simp; omega, Bool.and_false]; rfl
  · refine ⟨_, rfl, by trivial, ?_⟩; rw [show decide (0 ≤ dayOn D l 1 p) = true by simp; omega, show decide (dayOn D l 1 p ≤ t) = true by simp; omega]; rfl
theorem s2_hasLeave {D M : AM} {p t : Int} {l : List Int} (hI : Inv D) (hL : eqL D M) (hb : isB (M 0 17) (M 13) l) (hm : ∀ i ∈ l, 0 ≤ i ∧ i < D 0 7) (hlen : l.length ≤ 150) : aCi s2_G 6 24 [aP 0, aI p, aI t] M (fun z M' => M' = M ∧ z = bI (hadB D l 5 p t)) := by
  refine ⟨Nat.le_of_ble_eq_true rfl, fun d hd => ?_⟩
  refine s2_hasLeave_0 (by omega) ?_
  refine aKi_of (s2_dayOn hI hL hb hm hlen) (by omega) (fun z M1 q => ?_)
  obtain ⟨rfl, rfl⟩ := q
  unfold hadB
  (repeat' (with_reducible first | refine And.intro ?_ ?_ | intro _))
  all_goals (try first | with_reducible rfl | with_reducible exact True.intro | with_reducible exact Or.inl True.intro | with_reducible exact Or.inr True.intro | omega | (exfalso; with_reducible assumption))
  · refine ⟨_, rfl, by trivial, ?_⟩; rw [show decide (0 ≤ dayOn D l 5 p) = false by simp; omega]; rfl
  · refine ⟨_, rfl, by trivial, ?_⟩; rw [show decide (dayOn D l 5 p ≤ t) = false by simp; omega, Bool.and_false]; rfl
  · refine ⟨_, rfl, by trivial, ?_⟩; rw [show decide (0 ≤ dayOn D l 5 p) = true by simp; omega, show decide (dayOn D l 5 p ≤ t) = true by simp; omega]; rfl
theorem s2_heirOf {D M : AM} {p t : Int} {l : List Int} (hI : Inv D) (hL : eqL D M) (hb : isB (M 0 17) (M 13) l) (hm : ∀ i ∈ l, 0 ≤ i ∧ i < D 0 7) (hlen : l.length ≤ 150) : aCi s2_G 4 25 [aP 0, aI p, aI t] M (fun z M' => M' = M ∧ z = heirL D l p t) := by
  refine ⟨Nat.le_of_ble_eq_true rfl, fun d hd => ?_⟩
  refine s2_heirOf_0 (by omega) ?_
  have hpn := Inv_pn hI
  have key : ∀ (suf pre : List Int) (h : Int), l = pre ++ suf → aE s2_G d 25 5 [] [some (aP 0), some (aI p), some (aI t), some (aI h), some (aI pre.length), none] [] M (fun r M' => ∃ z, r = some (aI z) ∧ M' = M ∧ z = suf.foldl (hrs D p t) h) := by
    intro suf
    induction suf with
    | nil =>
      intro pre h e
      have hl : l.length = pre.length := by rw [e]; simp
      refine s2_heirOf_5 (by omega) ?_
      rw [hb.1]
      (repeat' (with_reducible first | refine And.intro ?_ ?_ | intro _))
      all_goals (try first | with_reducible rfl | with_reducible exact True.intro | with_reducible exact Or.inl True.intro | with_reducible exact Or.inr True.intro | omega | (exfalso; with_reducible assumption))
      exact ⟨_, rfl, by trivial, rfl⟩
    | cons a suf ih =>
      intro pre h e
      have hl : l.length = pre.length + 1 + suf.length := by rw [e]; simp; omega
      have ha : M 13 pre.length = a := isL_mid (by rw [← e]; exact hb.2)
      have har := hm a (by rw [e]; simp)
      have ih := fun h => ih (pre ++ [a]) h (by rw [e]; simp)
      rw [List.length_append] at ih
      refine s2_heirOf_5 (by omega) ?_
      rw [hb.1, ha, L_5 hL, L_9 hL, L_6 hL, L_10 hL, x_add (by omega)]
      rw [List.foldl_cons]
      (repeat' (with_reducible first | refine And.intro ?_ ?_ | intro _))
      all_goals (try first | with_reducible rfl | with_reducible exact True.intro | with_reducible exact Or.inl True.intro | with_reducible exact Or.inr True.intro | omega | (exfalso; with_reducible assumption))
      · rw [show hrs D p t h a = h by unfold hrs; rw [if_neg (by omega)]]; exact ih h
      · rw [show hrs D p t h a = h by unfold hrs; rw [if_neg (by omega)]]; exact ih h
      · rw [show hrs D p t h a = h by unfold hrs; rw [if_neg (by omega)]]; exact ih h
      · rw [show hrs D p t h a = D 10 a by unfold hrs; rw [if_pos (by omega)]]; exact ih _
  exact key l [] (-1) rfl
