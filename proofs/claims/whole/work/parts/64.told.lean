/-! THE STORY in the first system: the whole told, and kept -/
abbrev wT : Nat → Int → Bool := wr [15, 16, 17, 33, 34, 38, 39, 52, 53, 54, 55, 57, 58, 59, 60, 61, 63, 64, 65, 66, 67, 68] [(6, 9), (6, 12), (24, 10), (24, 11), (37, 11), (37, 12), (56, 5), (62, 6)]
theorem s1_Rights_grant {M : AM} {l a b : Int} (hl : 0 ≤ l ∧ l < 12) : aCv s1_G 4 60 [aP 56, aI l, aI a, aI b] M (fun M' => M' = am_up (am_up (am_up M 57 l a) 58 l b) 59 l 0) := by
  refine ⟨Nat.le_of_ble_eq_true rfl, fun d hd => ?_⟩
  refine s1_Rights_grant_0 (by omega) ?_
  exact ⟨hl, hl, hl, Or.inl rfl, rfl, rfl⟩
theorem T1_lay {D M : AM} {w l a b : Int} {s : Sg} (hT : T1 D w s M) : T1 D w (layS s l a b) (am_up (am_up (am_up M 57 l a) 58 l b) 59 l 0) := by
  obtain ⟨hB, hw, hQ⟩ := hT
  have g : fr (wr [57, 58, 59] []) M (am_up (am_up (am_up M 57 l a) 58 l b) 59 l 0) := fr_up (fr_up (fr_up fr_rf rfl) rfl) rfl
  refine ⟨B1_wE0 hB g rfl, (g 6 9 rfl).trans hw, ?_⟩
  refine ⟨fun x x0 x1 => ?_, fun x p c x0 x1 hm => ?_, fun x x0 x1 => ?_, fun x x0 x1 => ?_, fun x x0 x1 => ?_, fun x x0 x1 => ?_, fun x x0 x1 => ?_, ?_, fun k hk => ?_, ?_, fun k hk => ?_, fun m hm => ?_⟩
  · rw [g 38 x rfl]; exact Q1_h (s := s) hQ x x0 x1
  · rw [g 39 _ rfl]; exact Q1_c (s := s) hQ x p c x0 x1 hm
  · rw [g 52 x rfl]; exact Q1_ef (s := s) hQ x x0 x1
  · rw [g 53 x rfl]; exact Q1_eb (s := s) hQ x x0 x1
  · simp (decide := true) only [x_uk, x_uu]
    show _ = up1 s.ra l a x
    unfold up1
    split
    · rfl
    · exact Q1_ra hQ x x0 x1
  · simp (decide := true) only [x_uk, x_uu]
    show _ = up1 s.rb l b x
    unfold up1
    split
    · rfl
    · exact Q1_rb hQ x x0 x1
  · simp (decide := true) only [x_uk, x_uu]
    show _ = up1 s.tn l 0 x
    unfold up1
    split
    · rfl
    · exact Q1_tn hQ x x0 x1
  · rw [g 56 5 rfl]; exact Q1_sn (s := s) hQ
  · rw [g 60 k rfl, g 61 k rfl]; exact Q1_so (s := s) hQ k hk
  · rw [g 62 6 rfl]; exact Q1_ln (s := s) hQ
  · rw [g 66 k rfl, g 67 k rfl, g 68 k rfl, g 64 k rfl, g 65 k rfl, g 63 k rfl]; exact Q1_lg (s := s) hQ k hk
  · rw [g 54 m rfl]; exact Q1_rs (s := s) hQ m hm
theorem so_snoc {f g : Int → Int} {so : List (Int × Int)} {n : Int} (h : ∀ (k : Nat) (hk : k < so.length), f k = so[k].1 ∧ g k = so[k].2) : ∀ (k : Nat) (hk : k < (so ++ [(n, 0)]).length), up1 f so.length n k = (so ++ [(n, 0)])[k].1 ∧ up1 g so.length 0 k = (so ++ [(n, 0)])[k].2 := by
  intro k hk
  by_cases e : k = so.length
  · subst e
    rw [up1_s, up1_s]
    simp
  · have hk2 : k < so.length := by rw [List.length_append] at hk; simp at hk; omega
    rw [up1_n (by omega), up1_n (by omega), List.getElem_append_left hk2]
    exact h k hk2
theorem s1_Rights_sell {D M : AM} {w n i : Int} {s : Sg} (hS : SI D i s) (hi : i + 1 ≤ 150) (hT : T1 D w s M) : aCv s1_G 4 61 [aP 56, aI n] M (fun M' => fr wE M M' ∧ T1 D w (selS s n) M') := by
  refine ⟨Nat.le_of_ble_eq_true rfl, fun d hd => ?_⟩
  refine s1_Rights_sell_0 (by omega) ?_
  obtain ⟨hB, hw, hQ⟩ := hT
  have hso := SI_so hS
  have hsn := Q1_sn hQ
  simp (decide := true) only [x_uc]
  rw [hsn, x_add (by omega)]
  have g : fr (wr [60, 61] [(56, 5)]) M (am_up (am_up (am_up M 60 s.so.length n) 61 s.so.length 0) 56 5 (s.so.length + 1)) := fr_up (fr_up (fr_up fr_rf rfl) rfl) rfl
  refine ⟨fun h => absurd h (by omega), fun _ => ⟨by omega, by omega, (by first | exact True.intro | exact Or.inl True.intro | exact Or.inr True.intro | omega), by trivial, fr_mo g rfl, B1_wE0 hB g rfl, (g 6 9 rfl).trans hw, ?_⟩⟩
  refine ⟨fun x x0 x1 => ?_, fun x p c x0 x1 hm => ?_, fun x x0 x1 => ?_, fun x x0 x1 => ?_, fun x x0 x1 => ?_, fun x x0 x1 => ?_, fun x x0 x1 => ?_, ?_, fun k hk => ?_, ?_, fun k hk => ?_, fun m hm => ?_⟩
  · rw [g 38 x rfl]; exact Q1_h (s := s) hQ x x0 x1
  · rw [g 39 _ rfl]; exact Q1_c (s := s) hQ x p c x0 x1 hm
  · rw [g 52 x rfl]; exact Q1_ef (s := s) hQ x x0 x1
  · rw [g 53 x rfl]; exact Q1_eb (s := s) hQ x x0 x1
  · rw [g 57 x rfl]; exact Q1_ra (s := s) hQ x x0 x1
  · rw [g 58 x rfl]; exact Q1_rb (s := s) hQ x x0 x1
  · rw [g 59 x rfl]; exact Q1_tn (s := s) hQ x x0 x1
  · rw [x_us]
    show _ = (((s.so ++ [(n, 0)]).length : Nat) : Int)
    simp
  · have e60 : (am_up (am_up (am_up M 60 s.so.length n) 61 s.so.length 0) 56 5 (s.so.length + 1)) 60 = up1 (M 60) s.so.length n := by simp (decide := true) only [x_uk, x_uu]
    have e61 : (am_up (am_up (am_up M 60 s.so.length n) 61 s.so.length 0) 56 5 (s.so.length + 1)) 61 = up1 (M 61) s.so.length 0 := by simp (decide := true) only [x_uk, x_uu]
    rw [e60, e61]
    exact so_snoc (fun k hk => Q1_so hQ k hk) k hk
  · rw [g 62 6 rfl]; exact Q1_ln (s := s) hQ
  · rw [g 66 k rfl, g 67 k rfl, g 68 k rfl, g 64 k rfl, g 65 k rfl, g 63 k rfl]; exact Q1_lg (s := s) hQ k hk
  · rw [g 54 m rfl]; exact Q1_rs (s := s) hQ m hm
theorem s1_Rights_clearAll {M : AM} : aCv s1_G 5 59 [aP 56] M (fun M' => fr (wr [57, 58, 59] [(56, 5)]) M M' ∧ M' 56 5 = 0 ∧ ∀ x, 0 ≤ x → x < 12 → M' 57 x = -1 ∧ M' 58 x = -1 ∧ M' 59 x = 0) := by
  refine ⟨Nat.le_of_ble_eq_true rfl, fun d hd => ?_⟩
  refine s1_Rights_clearAll_0 (by omega) ?_
  have key : ∀ (m : Nat) (k : Int) (M1 : AM), 0 ≤ k → k + m = 12 → fr (wr [57, 58, 59] []) M M1 → (∀ x, 0 ≤ x → x < k → M1 57 x = -1 ∧ M1 58 x = -1 ∧ M1 59 x = 0) → aE s1_G d 59 2 [] [some (aP 56), some (aI k)] [] M1 (fun r M' => r = none ∧ fr (wr [57, 58, 59] [(56, 5)]) M M' ∧ M' 56 5 = 0 ∧ ∀ x, 0 ≤ x → x < 12 → M' 57 x = -1 ∧ M' 58 x = -1 ∧ M' 59 x = 0) := by
    intro m
    induction m with
    | zero =>
      intro k M1 h0 hk hf hz
      refine s1_Rights_clearAll_2 (by omega) ⟨fun _ => ⟨rfl, fr_up (fr_mo hf rfl) rfl, x_us, fun x x0 x1 => ?_⟩, fun h => absurd h (by omega)⟩
      simp (decide := true) only [x_uk]
      exact hz x x0 (by omega)
    | succ m ih =>
      intro k M1 h0 hk hf hz
      refine s1_Rights_clearAll_2 (by omega) ⟨fun h => absurd h (by omega), fun _ => ?_⟩
      refine aKv_of (s1_Rights_grant (by omega)) (by omega) (fun M2 q => ?_)
      subst q
      rw [x_add (by omega)]
      refine ih (k + 1) _ (by omega) (by omega) (fr_up (fr_up (fr_up hf rfl) rfl) rfl) (fun x x0 x1 => ?_)
      simp (decide := true) only [x_uk, x_uu]
      by_cases e : x = k
      · subst e; rw [up1_s, up1_s, up1_s]; exact ⟨rfl, rfl, rfl⟩
      · rw [up1_n e, up1_n e, up1_n e]; exact hz x x0 (by omega)
  exact key 12 0 M (by omega) (by omega) fr_rf (fun x x0 x1 => by omega)
theorem s1_Story_clearAll {D M : AM} {w : Int} (hB : B1 D M) (hw : M 6 9 = w) : aCv s1_G 6 70 [aP 37] M (fun M' => fr wE M M' ∧ T1 D w s0S M') := by
  refine ⟨Nat.le_of_ble_eq_true rfl, fun d hd => ?_⟩
  refine s1_Story_clearAll_0 (by omega) ?_
  have key : ∀ (m : Nat) (k : Int) (M1 : AM), 0 ≤ k → k + m = 12 → fr (wr [38, 52, 53] []) M M1 → (∀ x, 0 ≤ x → x < k → M1 38 x = 0 ∧ M1 52 x = 0 ∧ M1 53 x = 0) → aE s1_G d 70 2 [] [some (aP 37), some (aI k)] [] M1 (fun r M' => r = none ∧ fr wE M M' ∧ T1 D w s0S M') := by
    intro m
    induction m with
    | zero =>
      intro k M1 h0 hk hf hz
      refine s1_Story_clearAll_2 (by omega) ⟨fun _ => ?_, fun h => absurd h (by omega)⟩
      refine aKv_of s1_Rights_clearAll (by omega) (fun M2 q => ?_)
      obtain ⟨f2, h5, hr⟩ := q
      have hch : aCv s1_G 4 14 [aP 62] M2 (fun M' => M' = am_up M2 62 6 0) := ⟨Nat.le_of_ble_eq_true rfl, fun d hd => s1_Changes_clearAll_0 (by omega) ⟨rfl, rfl⟩⟩
      refine aKv_of hch (by omega) (fun M3 q => ?_)
      subst q
      have g : fr (wr [38, 52, 53, 57, 58, 59] [(56, 5), (62, 6)]) M (am_up M2 62 6 0) := fr_up (fr_tr (fr_mo hf rfl) (fr_mo f2 rfl)) rfl
      refine ⟨rfl, fr_mo g rfl, B1_wE0 hB g rfl, (g 6 9 rfl).trans hw, ?_⟩
      refine ⟨fun x x0 x1 => ?_, fun x p c x0 x1 hm => (by cases hm), fun x x0 x1 => ?_, fun x x0 x1 => ?_, fun x x0 x1 => ?_, fun x x0 x1 => ?_, fun x x0 x1 => ?_, ?_, fun k hk => (by cases hk), ?_, fun k hk => (by cases hk), fun m hm => absurd rfl hm⟩
      · rw [x_uk (by decide), f2 38 x rfl, (hz x x0 (by omega)).1]; exact lset_cg lset_0 (fun i _ => rfl)
      · rw [x_uk (by decide), f2 52 x rfl, (hz x x0 (by omega)).2.1]; rfl
      · rw [x_uk (by decide), f2 53 x rfl, (hz x x0 (by omega)).2.2]; rfl
      · rw [x_uk (by decide), (hr x x0 x1).1]; rfl
      · rw [x_uk (by decide), (hr x x0 x1).2.1]; rfl
      · rw [x_uk (by decide), (hr x x0 x1).2.2]; rfl
      · rw [x_uc (by decide), h5]; rfl
      · rw [x_us]; rfl
    | succ m ih =>
      intro k M1 h0 hk hf hz
      refine s1_Story_clearAll_2 (by omega) ⟨fun h => absurd h (by omega), fun _ => ⟨by omega, by omega, by omega, ?_⟩⟩
      rw [x_add (by omega)]
      refine ih (k + 1) _ (by omega) (by omega) (fr_up (fr_up (fr_up hf rfl) rfl) rfl) (fun x x0 x1 => ?_)
      simp (decide := true) only [x_uk, x_uu]
      by_cases e : x = k
      · subst e; rw [up1_s, up1_s, up1_s]; exact ⟨rfl, rfl, rfl⟩
      · rw [up1_n e, up1_n e, up1_n e]; exact hz x x0 (by omega)
  exact key 12 0 M (by omega) (by omega) fr_rf (fun x x0 x1 => by omega)
theorem s1_te_loop {D M : AM} {w u : Int} {d : Nat} (hd : 12 ≤ d) (hI : Inv D) (hw0 : 0 ≤ w) :
    ∀ (suf pre : List Int) (s : Sg) (M1 : AM), bk D w = pre ++ suf → fr wE M M1 → SI D pre.length s → SL D pre.length s → T1 D w s M1 →
      aE s1_G d 69 41 [] [some (aP 37), none, some (aI u), some (aI pre.length), none, none, none] [] M1 (fun r M' => r = none ∧ fr wE M M' ∧ T1 D w (runS D (bk D w) u suf pre.length s) M') := by
  intro suf
  have hpn := Inv_pn hI
  have hnp := Inv_np hI
  have hnl := Inv_nl hI
  have hbl := bk_len (D := D) (w := w) hpn.1
  induction suf with
  | nil =>
    intro pre s M1 e hf hS hL hT
    have hb := (B1_page hT.1 hT.2.1 hw0).2.1
    have hl : (bk D w).length = pre.length := by rw [e]; simp
    refine s1_Story_tell_41 (by omega) ?_
    rw [hb.1]
    exact ⟨fun _ => ⟨rfl, hf, hT⟩, fun h => absurd h (by omega)⟩
  | cons n suf ih =>
    intro pre s M1 e hf hS hL hT
    have hB := hT.1
    have hb := (B1_page hT.1 hT.2.1 hw0).2.1
    have hl : (bk D w).length = pre.length + 1 + suf.length := by rw [e]; simp; omega
    have hn : M1 16 pre.length = n := isL_mid (by rw [← e]; exact hb.2)
    have hnr := bk_mem (D := D) (w := w) (i := n) (by rw [e]; simp)
    have hk5 := Inv_pk hI n
    have hrun : runS D (bk D w) u (n :: suf) pre.length s = if D 6 n ≤ u then runS D (bk D w) u suf (pre.length + 1) (stpS D (bk D w) s n pre.length) else s := rfl
    have hS' := SI_stp (B := bk D w) hI hS (by omega) hnr
    have hL' := SL_stp (B := bk D w) hI hS hL (by omega) hnr
    have ih := ih (pre ++ [n]) (stpS D (bk D w) s n pre.length)
    rw [List.length_append, List.length_singleton] at ih
    rw [show ((pre.length + 1 : Nat) : Int) = pre.length + 1 by omega] at ih
    have go : ∀ M2, fr wE M M2 → T1 D w (stpS D (bk D w) s n pre.length) M2 → D 6 n ≤ u → aE s1_G d 69 41 [] [some (aP 37), none, some (aI u), some (aI (pre.length + 1)), none, none, none] [] M2 (fun r M' => r = none ∧ fr wE M M' ∧ T1 D w (runS D (bk D w) u (n :: suf) pre.length s) M') := by
      intro M2 f2 t2 hu
      rw [hrun, if_pos hu]
      exact ih M2 (by rw [e]; simp) f2 hS' hL' t2
    refine s1_Story_tell_41 (by omega) ?_
    rw [hb.1, hn, B1_pd hB, B1_pk hB, B1_pl hB, B1_pp hB, B1_pq hB, x_add (by omega)]
    have hr : 0 ≤ n ∧ n < 150 := by omega
    refine ⟨fun h => absurd h (by omega), fun _ => ⟨by omega, hr, fun hu => ⟨rfl, hf, by rw [hrun, if_neg (by omega)]; exact hT⟩, fun hu => ⟨by omega, hr, hr, hr, ⟨fun k => ?_, fun k => ?_, fun k => ?_, fun k => ?_, fun k => ?_, fun k => ?_, fun k => ⟨hr, ?_⟩, fun k => ?_, fun k => ?_, trivial⟩, fun k => ?_⟩⟩⟩
    · have hst : stpS D (bk D w) s n pre.length = fallN D (-1) (-1) n 1 12 s := by
        unfold stpS; rw [if_neg (by omega), if_neg (by omega), if_pos k]
      have hp := Inv_hP hI n hnr.1 hnr.2 (by omega)
      have hR : rm D (-1) (-1) n 1 s := fun m hm => SL_mono (SL_fallN (i := pre.length + 1) hI (by omega) hnr m s hm hS (SL_mono hL (by omega)) (fun x _ => by have := SL_liv hL x; omega)) (by omega)
      refine aKv_of (s1_Story_fallFromAllBut hI hS hR hT hnr hp (by omega)) (by omega) (fun M2 q => ?_)
      exact go M2 (fr_tr hf q.1) (by rw [hst]; exact q.2) hu
    · exact go M1 hf (by unfold stpS; rw [if_neg (by omega), if_neg (by omega), if_neg (by omega), if_neg (by omega), if_neg (by omega), if_neg (by omega)]; exact hT) hu
    · have hl := Inv_hL hI n hnr.1 hnr.2 (Or.inl k)
      have hp := Inv_hP hI n hnr.1 hnr.2 (by omega)
      refine aKv_of (s1_Story_takeIn hI ⟨hw0, by omega, by omega, hnr, hl, hp⟩ hS hL hT) (by omega) (fun M2 q => ?_)
      exact go M2 (fr_tr hf q.1) (by unfold stpS; rw [if_pos k]; exact q.2) hu
    · have hl := Inv_hL hI n hnr.1 hnr.2 (Or.inr (Or.inl k))
      have hp := Inv_hP hI n hnr.1 hnr.2 (by omega)
      refine aKv_of (s1_Story_fall (why := 2) hI hS (SL_mono hL (by omega)) hT (l := D 8 n) (by omega) hnr hp) (by omega) (fun M2 q => ?_)
      exact go M2 (fr_tr hf q.1) (by unfold stpS; rw [if_neg (by omega), if_pos k]; exact q.2) hu
    · exact go M1 hf (by unfold stpS; rw [if_neg (by omega), if_neg (by omega), if_neg (by omega), if_neg (by omega), if_neg (by omega), if_neg (by omega)]; exact hT) hu
    · exact go M1 hf (by unfold stpS; rw [if_neg (by omega), if_neg (by omega), if_neg (by omega), if_neg (by omega), if_neg (by omega), if_neg (by omega)]; exact hT) hu
    · have hl := Inv_hL hI n hnr.1 hnr.2 (Or.inr (Or.inr (by omega)))
      refine aKv_of (s1_Rights_grant (by omega)) (by omega) (fun M2 q => ?_)
      subst q
      exact go _ (fr_tr hf (fr_up (fr_up (fr_up fr_rf rfl) rfl) rfl)) (by unfold stpS; rw [if_neg (by omega), if_neg (by omega), if_neg (by omega), if_pos k]; exact T1_lay hT) hu
    · have hl := Inv_hL hI n hnr.1 hnr.2 (Or.inr (Or.inr (by omega)))
      refine aKv_of (s1_Rights_grant (by omega)) (by omega) (fun M2 q => ?_)
      subst q
      exact go _ (fr_tr hf (fr_up (fr_up (fr_up fr_rf rfl) rfl) rfl)) (by unfold stpS; rw [if_neg (by omega), if_neg (by omega), if_neg (by omega), if_neg (by omega), if_pos k]; exact T1_lay hT) hu
    · refine aKv_of (s1_Rights_sell hS (by omega) hT) (by omega) (fun M2 q => ?_)
      exact go M2 (fr_tr hf q.1) (by unfold stpS; rw [if_neg (by omega), if_neg (by omega), if_neg (by omega), if_neg (by omega), if_neg (by omega), if_pos k]; exact q.2) hu
    · exact go M1 hf (by unfold stpS; rw [if_neg (by omega), if_neg (by omega), if_neg (by omega), if_neg (by omega), if_neg (by omega), if_neg (by omega)]; exact hT) hu
/-- what is kept of the last story told -/
def StoC (D M : AM) : Prop := M 37 11 = -1 ∨ Q1 D (story D (M 37 11) (M 37 12)) M
theorem s1_Story_tell {D M : AM} {w u : Int} (hI : Inv D) (hB : B1 D M) (hC : StoC D M) (hw0 : 0 ≤ w) : aCv s1_G 13 69 [aP 37, aI w, aI u] M (fun M' => fr wT M M' ∧ T1 D w (story D w u) M' ∧ M' 37 11 = w ∧ M' 37 12 = u) := by
  refine ⟨Nat.le_of_ble_eq_true rfl, fun d hd => ?_⟩
  refine s1_Story_tell_0 (by omega) ?_
  refine aKv_of (s1_Papers_open hI hB hw0) (by omega) (fun M1 q => ?_)
  obtain ⟨f1, hB1, hw1⟩ := q
  have g : fr (wr [] [(37, 11), (37, 12)]) M1 (am_up (am_up M1 37 11 w) 37 12 u) := fr_up (fr_up fr_rf rfl) rfl
  have hB2 : B1 D (am_up (am_up M1 37 11 w) 37 12 u) := by
    have gD : fr (wr [] []) D D := fr_rf
    refine ⟨?_, G1_fw (B1_G hB1) gD g rfl, P1_fw (B1_P hB1) gD g rfl, C1_fw (B1_C hB1) gD g rfl, R1_fw (B1_R hB1) gD g rfl, S1_fw (B1_S hB1) gD g rfl, F1_fw (B1_F hB1) gD g rfl, E1_fw (B1_E hB1) gD g rfl⟩
    rw [g 0 10 rfl]; exact B1_now hB1
  have fresh : aKv s1_G d 70 [aP 37] (am_up (am_up M1 37 11 w) 37 12 u) (fun M2 => aE s1_G d 69 41 [] [some (aP 37), none, some (aI u), some (aI 0), none, none, none] [] M2 (fun r M' => r = none ∧ fr wT M M' ∧ T1 D w (story D w u) M' ∧ M' 37 11 = w ∧ M' 37 12 = u)) := by
    refine aKv_of (s1_Story_clearAll hB2 ((g 6 9 rfl).trans hw1)) (by omega) (fun M2 q => ?_)
    refine aE_mono _ _ _ _ _ _ _ _ _ (fun r M' q' => ?_) (s1_te_loop (M := M2) (u := u) (by omega) hI hw0 (bk D w) [] s0S M2 rfl fr_rf (SI_0 hI) SL_0 q.2)
    obtain ⟨q1, q2, q3⟩ := q'
    have ef : fr wE (am_up (am_up M1 37 11 w) 37 12 u) M' := fr_tr q.1 q2
    refine ⟨q1, fr_tr (fr_mo f1 rfl) (fr_tr (fr_mo g rfl) (fr_mo ef rfl)), q3, ?_, ?_⟩
    · rw [ef 37 11 rfl, x_uf (by decide), x_us]
    · rw [ef 37 12 rfl, x_us]
  refine ⟨fun _ => fresh, fun h1 => ⟨fun _ => fresh, fun h2 => ⟨rfl, fr_mo f1 rfl, ⟨hB1, hw1, ?_⟩, h1, h2⟩⟩⟩
  rw [f1 37 11 rfl] at h1
  rw [f1 37 12 rfl] at h2
  rcases hC with hC | hC
  · omega
  · rw [h1, h2] at hC
    exact Q1_fw hC f1 rfl
