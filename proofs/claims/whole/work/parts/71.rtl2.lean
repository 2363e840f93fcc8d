/-! THE STORY in the second system: what befalls, paper by paper -/
theorem s2_lay {M : AM} {l a b : Int} (hl : 0 ≤ l ∧ l < 12) : aCv s2_G 4 67 [aP 0, aI l, aI a, aI b] M (fun M' => M' = am_up (am_up (am_up M 31 l a) 32 l b) 33 l 0) := by
  refine ⟨Nat.le_of_ble_eq_true rfl, fun d hd => ?_⟩
  refine s2_lay_0 (by omega) ?_
  exact ⟨hl, hl, hl, rfl, rfl⟩
theorem T2_lay {D M : AM} {w i wl wp wn l a b : Int} {ph : Int → Int} {s : Sg} (hT : T2 D w s i wl wp wn ph M) : T2 D w (layS s l a b) i wl wp wn ph (am_up (am_up (am_up M 31 l a) 32 l b) 33 l 0) := by
  obtain ⟨hLq, hb, hQ⟩ := hT
  have f : fr (wr [31, 32, 33] []) M (am_up (am_up (am_up M 31 l a) 32 l b) 33 l 0) := fr_up (fr_up (fr_up fr_rf rfl) rfl) rfl
  refine ⟨eqL_fw hLq f rfl, by rw [f 0 17 rfl, show (am_up (am_up (am_up M 31 l a) 32 l b) 33 l 0) 13 = M 13 from funext fun x => f 13 x rfl]; exact hb, ?_⟩
  refine ⟨fun x x0 x1 => ?_, fun x x0 x1 k hk => ?_, Q2_fm (s := s) hQ, fun y p c h1 => ?_, ?_, fun x x0 x1 => ?_, fun x x0 x1 => ?_, fun x x0 x1 => ?_, fun x x0 x1 => ?_, fun x x0 x1 => ?_, ?_, fun k hk => ?_, ?_, ?_, ?_, ?_, fun k hk => ?_, ?_, ?_⟩
  · rw [f 27 x rfl]; exact Q2_hn (s := s) hQ x x0 x1
  · rw [f 28 _ rfl, f 34 _ rfl]; exact Q2_hp (s := s) hQ x x0 x1 k hk
  · rw [f 0 51 rfl]; exact Q2_fb (s := s) hQ y p c h1
  · rw [f 0 51 rfl]; exact Q2_cm (s := s) hQ
  · rw [f 29 x rfl]; exact Q2_ef (s := s) hQ x x0 x1
  · rw [f 30 x rfl]; exact Q2_eb (s := s) hQ x x0 x1
  · simp (decide := true) only [x_uk, x_uu]
    show _ = up1 s.ra l a x
    unfold up1
    split
    · rfl
    · exact Q2_ra (s := s) hQ x x0 x1
  · simp (decide := true) only [x_uk, x_uu]
    show _ = up1 s.rb l b x
    unfold up1
    split
    · rfl
    · exact Q2_rb (s := s) hQ x x0 x1
  · simp (decide := true) only [x_uk, x_uu]
    show _ = up1 s.tn l 0 x
    unfold up1
    split
    · rfl
    · exact Q2_tn (s := s) hQ x x0 x1
  · rw [f 0 52 rfl]; exact Q2_sn (s := s) hQ
  · rw [f 35 k rfl, f 36 k rfl, f 37 k rfl, f 38 k rfl]; exact Q2_so (s := s) hQ k hk
  · rw [f 0 57 rfl]; exact Q2_w1 (s := s) hQ
  · rw [f 0 64 rfl]; exact Q2_w2 (s := s) hQ
  · rw [f 0 62 rfl]; exact Q2_w3 (s := s) hQ
  · rw [f 0 58 rfl]; exact Q2_cn (s := s) hQ
  · rw [f 39 k rfl, f 40 k rfl, f 41 k rfl]; exact Q2_cg (s := s) hQ k hk
  · rw [f 0 63 rfl]; exact Q2_wy (s := s) hQ
  · rw [f 0 65 rfl]; exact Q2_fe (s := s) hQ
theorem T2_sel {D M : AM} {w i wl wp wn n : Int} {ph : Int → Int} {s : Sg} (M' : AM) (hT : T2 D w s i wl wp wn ph M) (hM : M' = am_up (am_up (am_up (am_up (am_up M 35 s.so.length (D 8 n)) 36 s.so.length (D 9 n)) 37 s.so.length (D 10 n)) 38 s.so.length 0) 0 52 (s.so.length + 1)) : fr wE2 M M' ∧ T2 D w (selS s n) i wl wp wn ph M' := by
  obtain ⟨hLq, hb, hQ⟩ := hT
  have f : fr (wr [35, 36, 37, 38] [(0, 52)]) M M' := by
    rw [hM]
    exact fr_up (fr_up (fr_up (fr_up (fr_up fr_rf rfl) rfl) rfl) rfl) rfl
  refine ⟨fr_mo f rfl, eqL_fw hLq f rfl, by rw [f 0 17 rfl, show M' 13 = M 13 from funext fun x => f 13 x rfl]; exact hb, ?_⟩
  refine ⟨fun x x0 x1 => ?_, fun x x0 x1 k hk => ?_, Q2_fm (s := s) hQ, fun y p c h1 => ?_, ?_, fun x x0 x1 => ?_, fun x x0 x1 => ?_, fun x x0 x1 => ?_, fun x x0 x1 => ?_, fun x x0 x1 => ?_, ?_, fun k hk => ?_, ?_, ?_, ?_, ?_, fun k hk => ?_, ?_, ?_⟩
  · rw [f 27 x rfl]; exact Q2_hn (s := s) hQ x x0 x1
  · rw [f 28 _ rfl, f 34 _ rfl]; exact Q2_hp (s := s) hQ x x0 x1 k hk
  · rw [f 0 51 rfl]; exact Q2_fb (s := s) hQ y p c h1
  · rw [f 0 51 rfl]; exact Q2_cm (s := s) hQ
  · rw [f 29 x rfl]; exact Q2_ef (s := s) hQ x x0 x1
  · rw [f 30 x rfl]; exact Q2_eb (s := s) hQ x x0 x1
  · rw [f 31 x rfl]; exact Q2_ra (s := s) hQ x x0 x1
  · rw [f 32 x rfl]; exact Q2_rb (s := s) hQ x x0 x1
  · rw [f 33 x rfl]; exact Q2_tn (s := s) hQ x x0 x1
  · rw [hM, x_us]
    show _ = (((s.so ++ [(n, 0)]).length : Nat) : Int)
    simp
  · rw [hM]
    simp (decide := true) only [x_uk, x_uu]
    have hk' : k < (s.so ++ [(n, (0 : Int))]).length := hk
    show _ = D 8 (s.so ++ [(n, (0 : Int))])[k].1 ∧ _ = D 9 (s.so ++ [(n, (0 : Int))])[k].1 ∧ _ = D 10 (s.so ++ [(n, (0 : Int))])[k].1 ∧ _ = (s.so ++ [(n, (0 : Int))])[k].2
    by_cases e : k = s.so.length
    · subst e
      rw [up1_s, up1_s, up1_s, up1_s, List.getElem_append_right (Nat.le_refl _)]
      simp
    · have hk2 : k < s.so.length := by simp at hk'; omega
      rw [up1_n (by omega), up1_n (by omega), up1_n (by omega), up1_n (by omega), List.getElem_append_left hk2]
      exact Q2_so hQ k hk2
  · rw [f 0 57 rfl]; exact Q2_w1 (s := s) hQ
  · rw [f 0 64 rfl]; exact Q2_w2 (s := s) hQ
  · rw [f 0 62 rfl]; exact Q2_w3 (s := s) hQ
  · rw [f 0 58 rfl]; exact Q2_cn (s := s) hQ
  · rw [f 39 k rfl, f 40 k rfl, f 41 k rfl]; exact Q2_cg (s := s) hQ k hk
  · rw [f 0 63 rfl]; exact Q2_wy (s := s) hQ
  · rw [f 0 65 rfl]; exact Q2_fe (s := s) hQ
theorem s2_befall {D M : AM} {w i wl wp wn n : Int} {ph : Int → Int} {s : Sg} (hI : Inv D) (hw0 : 0 ≤ w) (hS : SI D i s) (hL : SL D i s) (hT : T2 D w s i wl wp wn ph M) (hi : 0 ≤ i ∧ i + 1 ≤ 150) (hn : 0 ≤ n ∧ n < D 0 7) : aCv s2_G 11 68 [aP 0, aI n] M (fun M' => fr wE2 M M' ∧ ∃ ph', T2 D w (stpS D (bk D w) s n i) (i + 1) wl wp wn ph' M') := by
  refine ⟨Nat.le_of_ble_eq_true rfl, fun d hd => ?_⟩
  refine s2_befall_0 (by omega) ?_
  have hpn := Inv_pn hI
  have hnl := Inv_nl hI
  have hk5 := Inv_pk hI n
  have hsl := SI_so hS
  have hr : 0 ≤ n ∧ n < 150 := by omega
  obtain ⟨hLq, hb, hQ⟩ := id hT
  simp (decide := true) only [x_uc, x_uk]
  rw [L_5 hLq, L_8 hLq, L_9 hLq, L_10 hLq, Q2_sn hQ, x_add (by omega)]
  have same : ¬ D 5 n = 3 → ¬ D 5 n = 4 → ¬ D 5 n = 1 → ¬ D 5 n = 7 → ¬ D 5 n = 8 → ¬ D 5 n = 9 → fr wE2 M M ∧ ∃ ph', T2 D w (stpS D (bk D w) s n i) (i + 1) wl wp wn ph' M := fun h3 h4 h1 h7 h8 h9 => by
    refine ⟨fr_rf, ph, ?_⟩
    unfold stpS
    rw [if_neg h3, if_neg h4, if_neg h1, if_neg h7, if_neg h8, if_neg h9]
    exact T2_mo hT (by omega)
  have sel : D 5 n = 9 → ∀ M', M' = am_up (am_up (am_up (am_up (am_up M 35 s.so.length (D 8 n)) 36 s.so.length (D 9 n)) 37 s.so.length (D 10 n)) 38 s.so.length 0) 0 52 (s.so.length + 1) → fr wE2 M M' ∧ ∃ ph', T2 D w (stpS D (bk D w) s n i) (i + 1) wl wp wn ph' M' := fun k M' e => by
    obtain ⟨g1, g2⟩ := T2_sel (n := n) M' hT e
    refine ⟨g1, ph, ?_⟩
    unfold stpS
    rw [if_neg (by omega), if_neg (by omega), if_neg (by omega), if_neg (by omega), if_neg (by omega), if_pos k]
    exact T2_mo g2 (by omega)
  refine ⟨hr, ⟨fun k => ?_, fun k => ?_, fun k => ?_, fun k => ⟨hr, hr, ?_⟩, fun k => ?_, fun k => ?_, fun k => ⟨hr, hr, hr, ?_⟩, fun k => ⟨hr, hr, ?_⟩, fun k => ⟨hr, by omega, hr, by omega, hr, by omega, by omega, (by first | exact True.intro | exact Or.inl True.intro | exact Or.inr True.intro | omega), by trivial, sel k _ rfl⟩, trivial⟩, fun k => ⟨by trivial, same (by omega) (by omega) (by omega) (by omega) (by omega) (by omega)⟩⟩
  · have hR : rm D (-1) (-1) n 1 s := fun m hm => SL_mono (SL_fallN (i := i + 1) hI (by omega) hn m s hm hS (SL_mono hL (by omega)) (fun x _ => by have := SL_liv hL x; omega)) (by omega)
    refine aKv_of (s2_die hI hS hR hT hn) (by omega) (fun M2 q => ⟨by trivial, q.1, ph, ?_⟩)
    unfold stpS
    rw [if_neg (by omega), if_neg (by omega), if_pos k]
    exact T2_mo q.2 (by omega)
  · exact ⟨by trivial, same (by omega) (by omega) (by omega) (by omega) (by omega) (by omega)⟩
  · have hl := Inv_hL hI n hn.1 hn.2 (Or.inl k)
    have hp := Inv_hP hI n hn.1 hn.2 (by omega)
    refine aKv_of (s2_goIn hI ⟨hw0, hi.1, hi.2, hn, hl, hp⟩ hS hL hT) (by omega) (fun M2 q => ⟨by trivial, q.1, ?_⟩)
    unfold stpS
    rw [if_pos k]
    exact q.2
  · have hl := Inv_hL hI n hn.1 hn.2 (Or.inr (Or.inl k))
    refine aKv_of (s2_leave hI hS (SL_mono hL (by omega)) hT hl hn) (by omega) (fun M2 q => ⟨by trivial, q.1, ph, ?_⟩)
    unfold stpS
    rw [if_neg (by omega), if_pos k]
    exact T2_mo q.2 (by omega)
  · exact ⟨by trivial, same (by omega) (by omega) (by omega) (by omega) (by omega) (by omega)⟩
  · exact ⟨by trivial, same (by omega) (by omega) (by omega) (by omega) (by omega) (by omega)⟩
  · have hl := Inv_hL hI n hn.1 hn.2 (Or.inr (Or.inr (by omega)))
    refine aKv_of (s2_lay (by omega)) (by omega) (fun M2 q => ⟨by trivial, ?_⟩)
    rw [q]
    refine ⟨fr_up (fr_up (fr_up fr_rf rfl) rfl) rfl, ph, ?_⟩
    unfold stpS
    rw [if_neg (by omega), if_neg (by omega), if_neg (by omega), if_pos k]
    exact T2_mo (T2_lay hT) (by omega)
  · have hl := Inv_hL hI n hn.1 hn.2 (Or.inr (Or.inr (by omega)))
    refine aKv_of (s2_lay (by omega)) (by omega) (fun M2 q => ⟨by trivial, ?_⟩)
    rw [q]
    refine ⟨fr_up (fr_up (fr_up fr_rf rfl) rfl) rfl, ph, ?_⟩
    unfold stpS
    rw [if_neg (by omega), if_neg (by omega), if_neg (by omega), if_neg (by omega), if_pos k]
    exact T2_mo (T2_lay hT) (by omega)
def W2 (M : AM) (wl wp wn : Int) : Prop := M 0 57 = wl ∧ M 0 64 = wp ∧ M 0 62 = wn ∧ M 0 58 = 0 ∧ M 0 63 = -1 ∧ M 0 65 = -1
theorem s2_watch {M : AM} {a b c : Int} : aCv s2_G 4 69 [aP 0, aI a, aI b, aI c] M (fun M' => fr (wr [] [(0, 57), (0, 58), (0, 62), (0, 63), (0, 64), (0, 65)]) M M' ∧ W2 M' a b c) := by
  refine ⟨Nat.le_of_ble_eq_true rfl, fun d hd => ?_⟩
  refine s2_watch_0 (by omega) ?_
  refine ⟨by trivial, fr_up (fr_up (fr_up (fr_up (fr_up (fr_up fr_rf rfl) rfl) rfl) rfl) rfl) rfl, ?_⟩
  unfold W2
  simp (decide := true) [am_up]
abbrev wT2 : Nat → Int → Bool := wr [12, 13, 25, 26, 27, 28, 29, 30, 31, 32, 33, 34, 35, 36, 37, 38, 39, 40, 41, 42] [(0, 17), (0, 41), (0, 42), (0, 51), (0, 52), (0, 58), (0, 63), (0, 65), (0, 66)]
theorem s2_te_61 {D M : AM} {w u wl wp wn : Int} {d : Nat} (hd : 12 ≤ d) (hI : Inv D) (hw0 : 0 ≤ w) :
    ∀ (suf pre : List Int) (s : Sg) (ph : Int → Int) (M1 : AM), bk D w = pre ++ suf → fr wT2 M M1 → SI D pre.length s → SL D pre.length s → T2 D w s pre.length wl wp wn ph M1 →
      aE s2_G d 70 61 [] [some (aP 0), none, some (aI u), some (aI pre.length)] [] M1 (fun r M' => r = none ∧ fr wT2 M M' ∧ ∃ ph', T2 D w (runS D (bk D w) u suf pre.length s) 150 wl wp wn ph' M') := by
  intro suf
  have hpn := Inv_pn hI
  have hbl := bk_len (D := D) (w := w) hpn.1
  induction suf with
  | nil =>
    intro pre s ph M1 e hf hS hL hT
    have hl : (bk D w).length = pre.length := by rw [e]; simp
    refine s2_tell_61 (by omega) ?_
    rw [hT.2.1.1]
    exact ⟨fun _ => ⟨rfl, hf, ph, T2_mo hT (by omega)⟩, fun h => absurd h (by omega)⟩
  | cons n suf ih =>
    intro pre s ph M1 e hf hS hL hT
    have hl : (bk D w).length = pre.length + 1 + suf.length := by rw [e]; simp; omega
    have hn : M1 13 pre.length = n := isL_mid (by rw [← e]; exact hT.2.1.2)
    have hnr := bk_mem (D := D) (w := w) (i := n) (by rw [e]; simp)
    have hrun : runS D (bk D w) u (n :: suf) pre.length s = if D 6 n ≤ u then runS D (bk D w) u suf (pre.length + 1) (stpS D (bk D w) s n pre.length) else s := rfl
    have hS' := SI_stp (B := bk D w) hI hS (by omega) hnr
    have hL' := SL_stp (B := bk D w) hI hS hL (by omega) hnr
    have ih := ih (pre ++ [n]) (stpS D (bk D w) s n pre.length)
    rw [List.length_append, List.length_singleton] at ih
    rw [show ((pre.length + 1 : Nat) : Int) = pre.length + 1 by omega] at ih
    refine s2_tell_61 (by omega) ?_
    rw [hT.2.1.1, hn, L_6 hT.1, x_add (by omega)]
    refine ⟨fun h => absurd h (by omega), fun _ => ⟨by omega, by omega, fun hu => ⟨rfl, hf, ph, by rw [hrun, if_neg (by omega)]; exact T2_mo hT (by omega)⟩, fun hu => ⟨by omega, ?_⟩⟩⟩
    refine aKv_of (s2_befall hI hw0 hS hL hT (by omega) hnr) (by omega) (fun M2 q => ?_)
    obtain ⟨f2, ph', hT2⟩ := q
    rw [hrun, if_pos hu]
    exact ih ph' M2 (by rw [e]; simp) (fr_tr hf (fr_mo f2 rfl)) hS' hL' hT2
theorem s2_tell {D M : AM} {w u wl wp wn : Int} (hI : Inv D) (hL : eqL D M) (hw0 : 0 ≤ w) (hW : W2 M wl wp wn) : aCv s2_G 12 70 [aP 0, aI w, aI u] M (fun M' => fr wT2 M M' ∧ ∃ ph, T2 D w (story D w u) 150 wl wp wn ph M') := by
  refine ⟨Nat.le_of_ble_eq_true rfl, fun d hd => ?_⟩
  refine s2_tell_0 (by omega) ?_
  have hnl := Inv_nl hI
  refine aKv_of (s2_findBook (w := w) hI hL) (by omega) (fun M1 q => ?_)
  obtain ⟨f1, hb⟩ := q
  have hL1 := eqL_fw hL f1 rfl
  obtain ⟨w1, w2, w3, w4, w5, w6⟩ := hW
  have key : ∀ (m : Nat) (k : Int) (M2 : AM), 0 ≤ k → k + m = D 0 3 → fr (wr [27, 29, 30, 31, 32, 33] []) M1 M2 → (∀ x, 0 ≤ x → x < k → M2 27 x = 0 ∧ M2 29 x = 0 ∧ M2 30 x = 0 ∧ M2 31 x = -1 ∧ M2 32 x = -1 ∧ M2 33 x = 0) → aE s2_G d 70 7 [] [some (aP 0), none, some (aI u), some (aI k)] [] M2 (fun r M' => r = none ∧ fr wT2 M M' ∧ ∃ ph, T2 D w (story D w u) 150 wl wp wn ph M') := by
    intro m
    induction m with
    | zero =>
      intro k M2 h0 hk hf hz
      refine s2_tell_7 (by omega) ?_
      rw [hf 0 3 rfl, L0_3 hL1]
      refine ⟨fun _ => ?_, fun h => absurd h (by omega)⟩
      have g : fr (wr [12, 13, 27, 29, 30, 31, 32, 33] [(0, 17), (0, 51), (0, 52)]) M (am_up (am_up M2 0 52 0) 0 51 0) := fr_up (fr_up (fr_tr (fr_mo f1 rfl) (fr_mo hf rfl)) rfl) rfl
      have e1 : ∀ x, (am_up (am_up M2 0 52 0) 0 51 0) 0 x = if x = 51 then 0 else if x = 52 then 0 else M2 0 x := fun x => by simp [am_up]
      refine s2_te_61 (w := w) (u := u) hd hI hw0 (bk D w) [] s0S (fun _ => 0) _ rfl (fr_mo g rfl) (SI_0 hI) SL_0 ?_
      refine ⟨eqL_fw hL g rfl, ?_, ?_⟩
      · rw [e1, if_neg (by decide), if_neg (by decide), hf 0 17 rfl, show (am_up (am_up M2 0 52 0) 0 51 0) 13 = M1 13 from funext fun x => by rw [x_uc (by decide), x_uc (by decide)]; exact hf 13 x rfl]
        exact hb
      · simp (decide := true) only [List.length_nil]
        refine ⟨fun x x0 x1 => ?_, fun x x0 x1 k hk => (by cases hk), fun y m p q c c' h1 => (by cases h1), fun y p c h1 => (by cases h1), ?_, fun x x0 x1 => ?_, fun x x0 x1 => ?_, fun x x0 x1 => ?_, fun x x0 x1 => ?_, fun x x0 x1 => ?_, ?_, fun k hk => (by cases hk), ?_, ?_, ?_, ?_, fun k hk => (by cases hk), ?_, ?_⟩
        · simp (decide := true) only [x_uc]; rw [(hz x x0 (by omega)).1]; rfl
        · rw [e1, if_pos rfl]; decide
        · simp (decide := true) only [x_uc]; rw [(hz x x0 (by omega)).2.1]; rfl
        · simp (decide := true) only [x_uc]; rw [(hz x x0 (by omega)).2.2.1]; rfl
        · simp (decide := true) only [x_uc]; rw [(hz x x0 (by omega)).2.2.2.1]; rfl
        · simp (decide := true) only [x_uc]; rw [(hz x x0 (by omega)).2.2.2.2.1]; rfl
        · simp (decide := true) only [x_uc]; rw [(hz x x0 (by omega)).2.2.2.2.2]; rfl
        · rw [e1, if_neg (by decide), if_pos rfl]; rfl
        · rw [g 0 57 rfl]; exact w1
        · rw [g 0 64 rfl]; exact w2
        · rw [g 0 62 rfl]; exact w3
        · rw [g 0 58 rfl]; exact w4
        · rw [g 0 63 rfl]; exact w5
        · rw [g 0 65 rfl]; exact w6
    | succ m ih =>
      intro k M2 h0 hk hf hz
      refine s2_tell_7 (by omega) ?_
      rw [hf 0 3 rfl, L0_3 hL1, x_add (by omega)]
      refine ⟨fun h => absurd h (by omega), fun _ => ⟨by omega, by omega, by omega, ?_⟩⟩
      refine aKv_of (s2_lay (by omega)) (by omega) (fun M3 q => ?_)
      subst q
      refine ih (k + 1) _ (by omega) (by omega) (fr_up (fr_up (fr_up (fr_up (fr_up (fr_up hf rfl) rfl) rfl) rfl) rfl) rfl) (fun x x0 x1 => ?_)
      simp (decide := true) only [x_uk, x_uu]
      by_cases e : x = k
      · subst e
        rw [up1_s, up1_s, up1_s, up1_s, up1_s, up1_s]
        exact ⟨rfl, rfl, rfl, rfl, rfl, rfl⟩
      · rw [up1_n e, up1_n e, up1_n e, up1_n e, up1_n e, up1_n e]
        exact hz x x0 (by omega)
  exact key (D 0 3).toNat 0 M1 (by omega) (by omega) fr_rf (fun x x0 x1 => by omega)
