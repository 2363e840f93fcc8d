/-! PAPERS: paper in the first system; told, book, about -/
def ppQ1 (f : Int × AM) (M : AM) (r : Option AV) (M' : AM) : Prop := ∃ z, r = some (aI z) ∧ z = f.1 ∧ fr wmP M M' ∧ B1 f.2 M' ∧ ((M' = M ∧ f.1 < 0) ∨ M' 37 11 = -1)
theorem s1_pp_156 {D M : AM} {d : Nat} {k t l p q v : Int} (hd : 7 ≤ d) (hI : Inv D) (hB : B1 D M) (hk : 0 ≤ k ∧ k ≤ 12) (hU : ¬ ppU D k l p q v) (hO : ¬ ppO D k t p q v) : aE s1_G d 111 156 [] [some (aP 0), some (aI k), some (aI t), some (aI l), some (aI p), some (aI q), some (aI v), none] [] M (ppQ1 (f_paper D k t l p q v) M) := by
  have hn := Inv_pn hI
  refine s1_paper_156 (by omega) ?_
  unfold f_paper
  rw [if_neg (by omega), if_neg hU, if_neg hO, B1_pn hB]
  refine ⟨fun h => ?_, fun h => ?_⟩
  · rw [if_neg (by omega)]
    refine aKv_of s1_Story_forget (by omega) (fun M1 e => ?_)
    subst e
    have e0 : (am_up M 37 11 (-1)) 0 10 = D 0 0 := by rw [x_uc (by decide)]; exact B1_now hB
    rw [e0]
    refine aKi_of (s1_Papers_add hI hB (fr_up fr_rf rfl) h) (by omega) (fun z M' qq => ?_)
    obtain ⟨q1, q2, q3, q4⟩ := qq
    refine ⟨z, rfl, q1, q2, ?_, Or.inr (by rw [q4, x_us])⟩
    by_cases h9 : k ≤ 9
    · rw [if_pos h9]; rw [if_pos (show 0 ≤ k ∧ k ≤ 9 by omega)] at q3; exact q3
    · rw [if_neg h9]; rw [if_neg (show ¬ (0 ≤ k ∧ k ≤ 9) by omega)] at q3; exact q3
  · rw [if_pos (by omega)]
    exact ⟨_, rfl, rfl, fr_rf, hB, Or.inl ⟨rfl, (by dsimp only; omega)⟩⟩
theorem s1_pp_153 {D M : AM} {d : Nat} {k t l p q v : Int} (hd : 7 ≤ d) (hB : B1 D M) (hr : ¬ (0 ≤ k ∧ k ≤ 12) ∨ (¬ ppU D k l p q v ∧ ppO D k t p q v)) : aE s1_G d 111 153 [] [none, none, none, none, none, none, none, none] [] M (ppQ1 (f_paper D k t l p q v) M) := by
  refine s1_paper_153 (by omega) ?_
  unfold f_paper
  by_cases hk : 0 ≤ k ∧ k ≤ 12
  · rcases hr with hr | ⟨h1, h2⟩
    · exact absurd hk hr
    · rw [if_neg (by omega), if_neg h1, if_pos h2]
      exact ⟨_, rfl, rfl, fr_rf, hB, Or.inl ⟨rfl, (by dsimp only; omega)⟩⟩
  · rw [if_pos hk]
    exact ⟨_, rfl, rfl, fr_rf, hB, Or.inl ⟨rfl, (by dsimp only; omega)⟩⟩
theorem s1_pp_91 {D M : AM} {d : Nat} {k t l p q v : Int} (hd : 7 ≤ d) (hB : B1 D M) (hk : 0 ≤ k ∧ k ≤ 12) (hU : ppU D k l p q v) : aE s1_G d 111 91 [] [none, none, none, none, none, none, none, none] [] M (ppQ1 (f_paper D k t l p q v) M) := by
  refine s1_paper_91 (by omega) ?_
  unfold f_paper
  rw [if_neg (by omega), if_pos hU]
  exact ⟨_, rfl, rfl, fr_rf, hB, Or.inl ⟨rfl, (by dsimp only; omega)⟩⟩
theorem s1_pp_94 {D M : AM} {d : Nat} {k t l p q v : Int} (hd : 7 ≤ d) (hI : Inv D) (hB : B1 D M) (hU : (0 ≤ k ∧ k ≤ 12) → ¬ ppU D k l p q v) : aE s1_G d 111 94 [] [some (aP 0), some (aI k), some (aI t), some (aI l), some (aI p), some (aI q), some (aI v), none] [] M (ppQ1 (f_paper D k t l p q v) M) := by
  refine s1_paper_94 (by omega) ?_
  simp only [a_bl_n, a_bl_z, B1_now hB]
  refine ⟨fun h => s1_pp_153 hd hB (Or.inl h), fun hk => ?_⟩
  have hU := hU hk
  have h146 : ¬ (¬ (0 ≤ t ∧ t ≤ D 0 0) ∨ (k = 11 ∧ ¬ (0 ≤ v ∧ v ≤ 9999))) → (k = 6 ∨ k = 7) → aE s1_G d 111 146 [] [some (aP 0), some (aI k), some (aI t), some (aI l), some (aI p), some (aI q), some (aI v), none] [] M (ppQ1 (f_paper D k t l p q v) M) := by
    intro h1 h2
    refine s1_paper_146 (by omega) ⟨fun h => s1_pp_156 hd hI hB hk hU ?_, fun h => s1_pp_153 hd hB (Or.inr ⟨hU, ?_⟩)⟩
    · rintro (a | a | a)
      · exact h1 (Or.inl a)
      · exact h1 (Or.inr a)
      · exact h a.2
    · exact Or.inr (Or.inr ⟨h2, h⟩)
  have h134 : ¬ (¬ (0 ≤ t ∧ t ≤ D 0 0) ∨ (k = 11 ∧ ¬ (0 ≤ v ∧ v ≤ 9999))) → aE s1_G d 111 134 [] [some (aP 0), some (aI k), some (aI t), some (aI l), some (aI p), some (aI q), some (aI v), none] [] M (ppQ1 (f_paper D k t l p q v) M) := by
    intro h1
    refine s1_paper_134 (by omega) ⟨fun h => h146 h1 (Or.inl h), fun h => ⟨fun h' => s1_pp_156 hd hI hB hk hU ?_, fun h' => h146 h1 (Or.inr h')⟩⟩
    rintro (a | a | a)
    · exact h1 (Or.inl a)
    · exact h1 (Or.inr a)
    · exact a.1.elim h h'
  refine ⟨fun h => s1_pp_153 hd hB (Or.inr ⟨hU, Or.inl h⟩), fun h => ⟨fun h' => h134 (by omega), fun h' => ⟨fun g => s1_pp_153 hd hB (Or.inr ⟨hU, Or.inr (Or.inl ⟨h', g⟩)⟩), fun g => h134 (by omega)⟩⟩⟩
theorem s1_pp_76 {D M : AM} {d : Nat} {k t l p q v : Int} (hd : 7 ≤ d) (hI : Inv D) (hB : B1 D M) (h1 : ¬ (hLP k ∧ ¬ (0 ≤ l ∧ l < D 0 3))) (h2 : ¬ ((0 ≤ k ∧ k ≤ 9) ∧ ¬ (0 ≤ p ∧ p < D 0 1))) (h3 : ¬ (hQP k ∧ ¬ (0 ≤ q ∧ q < D 0 1) ∧ ¬ (k = 3 ∧ -4 ≤ q ∧ q ≤ -2))) : aE s1_G d 111 76 [] [some (aP 0), some (aI k), some (aI t), some (aI l), some (aI p), some (aI q), some (aI v), none] [] M (ppQ1 (f_paper D k t l p q v) M) := by
  have hn := Inv_pn hI
  refine s1_paper_76 (by omega) ?_
  simp only [a_bl_n, a_bl_z, B1_pn hB]
  rw [x_sub (by omega)]
  have hU : ∀ h4 : ¬ (k = 12 ∧ ¬ (0 ≤ v ∧ v < D 0 7)), (0 ≤ k ∧ k ≤ 12) → ¬ ppU D k l p q v := by
    intro h4 hk
    rintro (a | a | a | a)
    · exact h1 a
    · exact h2 ⟨⟨hk.1, a.1⟩, a.2⟩
    · exact h3 a
    · exact h4 a
  refine ⟨fun h => s1_pp_94 hd hI hB (hU (by omega)), fun h => ⟨fun g => s1_pp_94 hd hI hB (hU (by omega)), fun g => s1_pp_91 hd hB (by omega) (Or.inr (Or.inr (Or.inr ⟨h, by omega⟩)))⟩⟩
theorem s1_pp_64 {D M : AM} {d : Nat} {k t l p q v t0 : Int} (hd : 7 ≤ d) (hI : Inv D) (hB : B1 D M) (h0 : (t0 = 0 ∧ ¬ (0 ≤ q ∧ q < D 0 1) ∧ ¬ (k = 3 ∧ -4 ≤ q ∧ q ≤ -2)) ∨ (t0 = 1 ∧ ((0 ≤ q ∧ q < D 0 1) ∨ (k = 3 ∧ -4 ≤ q ∧ q ≤ -2)))) (h1 : ¬ (hLP k ∧ ¬ (0 ≤ l ∧ l < D 0 3))) (h2 : ¬ ((0 ≤ k ∧ k ≤ 9) ∧ ¬ (0 ≤ p ∧ p < D 0 1))) : aE s1_G d 111 64 [] [some (aP 0), some (aI k), some (aI t), some (aI l), some (aI p), some (aI q), some (aI v), some (aI t0)] [] M (ppQ1 (f_paper D k t l p q v) M) := by
  refine s1_paper_64 (by omega) ?_
  refine aKi_of s1_Papers_hasOther (by omega) (fun z M1 qq => ?_)
  obtain ⟨rfl, ⟨rfl, qq⟩ | ⟨rfl, qq⟩⟩ := qq
  · refine ⟨fun h => absurd h (by decide), fun _ => ⟨fun h => s1_pp_91 hd hB (by omega) (Or.inr (Or.inr (Or.inl ⟨qq, by omega, by omega⟩))), fun h => s1_pp_76 hd hI hB h1 h2 (by omega)⟩⟩
  · refine ⟨fun _ => s1_pp_76 hd hI hB h1 h2 (fun a => qq a.1), fun h => absurd rfl h⟩
theorem s1_pp_48 {D M : AM} {d : Nat} {k t l p q v t0 : Int} (hd : 7 ≤ d) (hI : Inv D) (hB : B1 D M) (h0 : (t0 = 0 ∧ ¬ (0 ≤ q ∧ q < D 0 1) ∧ ¬ (k = 3 ∧ -4 ≤ q ∧ q ≤ -2)) ∨ (t0 = 1 ∧ ((0 ≤ q ∧ q < D 0 1) ∨ (k = 3 ∧ -4 ≤ q ∧ q ≤ -2)))) (h1 : ¬ (hLP k ∧ ¬ (0 ≤ l ∧ l < D 0 3))) : aE s1_G d 111 48 [] [some (aP 0), some (aI k), some (aI t), some (aI l), some (aI p), some (aI q), some (aI v), some (aI t0)] [] M (ppQ1 (f_paper D k t l p q v) M) := by
  have hn := Inv_np hI
  refine s1_paper_48 (by omega) ?_
  refine aKi_of s1_Papers_hasPerson (by omega) (fun z M1 qq => ?_)
  obtain ⟨rfl, ⟨rfl, qq⟩ | ⟨rfl, qq⟩⟩ := qq
  · simp only [a_bl_n, a_bl_z, B1_np hB]
    rw [x_sub (by omega)]
    refine ⟨fun h => absurd h (by decide), fun _ => ⟨fun h => s1_pp_91 hd hB (by omega) (Or.inr (Or.inl ⟨qq.2, by omega⟩)), fun h => s1_pp_64 hd hI hB h0 h1 (by omega)⟩⟩
  · refine ⟨fun _ => s1_pp_64 hd hI hB h0 h1 (fun a => qq a.1), fun h => absurd rfl h⟩
theorem s1_pp_31 {D M : AM} {d : Nat} {k t l p q v t0 : Int} (hd : 7 ≤ d) (hI : Inv D) (hB : B1 D M) (h0 : (t0 = 0 ∧ ¬ (0 ≤ q ∧ q < D 0 1) ∧ ¬ (k = 3 ∧ -4 ≤ q ∧ q ≤ -2)) ∨ (t0 = 1 ∧ ((0 ≤ q ∧ q < D 0 1) ∨ (k = 3 ∧ -4 ≤ q ∧ q ≤ -2)))) : aE s1_G d 111 31 [] [some (aP 0), some (aI k), some (aI t), some (aI l), some (aI p), some (aI q), some (aI v), none] [aI t0] M (ppQ1 (f_paper D k t l p q v) M) := by
  have hn := Inv_nl hI
  refine s1_paper_31 (by omega) ?_
  refine aKi_of s1_Papers_hasLiving (by omega) (fun z M1 qq => ?_)
  obtain ⟨rfl, ⟨rfl, qq⟩ | ⟨rfl, qq⟩⟩ := qq
  · simp only [a_bl_n, a_bl_z, B1_nl hB]
    rw [x_sub (by omega)]
    refine ⟨fun h => absurd h (by decide), fun _ => ⟨fun h => s1_pp_91 hd hB (by omega) (Or.inl ⟨qq, by omega⟩), fun h => s1_pp_48 hd hI hB h0 (by omega)⟩⟩
  · refine ⟨fun _ => s1_pp_48 hd hI hB h0 (fun a => qq a.1), fun h => absurd rfl h⟩
theorem c1_paper {D M : AM} {k t l p q v : Int} (hI : Inv D) (hB : B1 D M) : aCi s1_G 8 111 [aP 0, aI k, aI t, aI l, aI p, aI q, aI v] M (fun z M' => z = (f_paper D k t l p q v).1 ∧ fr wmP M M' ∧ B1 (f_paper D k t l p q v).2 M' ∧ ((M' = M ∧ (f_paper D k t l p q v).1 < 0) ∨ M' 37 11 = -1)) := by
  refine ⟨Nat.le_of_ble_eq_true rfl, fun d hd => ?_⟩
  have hn := Inv_np hI
  refine s1_paper_0 (by omega) ?_
  simp only [a_bl_n, a_bl_z, B1_np hB]
  rw [x_sub (by omega)]
  have h26 : ((0 ≤ q ∧ q < D 0 1) ∨ (k = 3 ∧ -4 ≤ q ∧ q ≤ -2)) → aE s1_G d 111 26 [] [some (aP 0), some (aI k), some (aI t), some (aI l), some (aI p), some (aI q), some (aI v), none] [] M (ppQ1 (f_paper D k t l p q v) M) := fun h => s1_paper_26 (by omega) (s1_pp_31 (by omega) hI hB (Or.inr ⟨rfl, h⟩))
  have h30 : (¬ (0 ≤ q ∧ q < D 0 1) ∧ ¬ (k = 3 ∧ -4 ≤ q ∧ q ≤ -2)) → aE s1_G d 111 30 [] [some (aP 0), some (aI k), some (aI t), some (aI l), some (aI p), some (aI q), some (aI v), none] [] M (ppQ1 (f_paper D k t l p q v) M) := fun h => s1_paper_30 (by omega) (s1_pp_31 (by omega) hI hB (Or.inl ⟨rfl, h⟩))
  refine ⟨fun h => h26 (by omega), fun h => ⟨fun g => h30 (by omega), fun g => ⟨fun g2 => h30 (by omega), fun g2 => h26 (by omega)⟩⟩⟩
theorem f_paper_fr {D : AM} {k t l p q v : Int} : fr wdP D (f_paper D k t l p q v).2 := by
  unfold f_paper
  (repeat' split) <;> first | exact fr_rf | exact padd_fr
theorem f_paper_Inv {D : AM} {k t l p q v : Int} (hI : Inv D) : Inv (f_paper D k t l p q v).2 := by
  unfold f_paper
  by_cases hk : 0 ≤ k ∧ k ≤ 12
  · by_cases hU : ppU D k l p q v
    · rw [if_neg (by omega), if_pos hU]; exact hI
    · by_cases hO : ppO D k t p q v
      · rw [if_neg (by omega), if_neg hU, if_pos hO]; exact hI
      · by_cases hf : D 0 7 = 150
        · rw [if_neg (by omega), if_neg hU, if_neg hO, if_pos hf]; exact hI
        · rw [if_neg (by omega), if_neg hU, if_neg hO, if_neg hf]
          have hn := Inv_pn hI
          have hnp := Inv_np hI
          have hnl := Inv_nl hI
          have hnow := Inv_now hI
          obtain ⟨L, eL⟩ : ∃ L, L = if hLP k then l else -1 := ⟨_, rfl⟩
          obtain ⟨P, eP⟩ : ∃ P, P = if k ≤ 9 then p else -1 := ⟨_, rfl⟩
          obtain ⟨Q, eQ⟩ : ∃ Q, Q = if hQP k then q else -1 := ⟨_, rfl⟩
          obtain ⟨V, eV⟩ : ∃ V, V = if hVP k then v else -1 := ⟨_, rfl⟩
          rw [← eL, ← eP, ← eQ, ← eV]
          have fL : (hLP k → 0 ≤ L ∧ L < D 0 3) ∧ (¬ hLP k → L = -1) := ⟨fun h => by rw [eL, if_pos h]; omega, fun h => by rw [eL, if_neg h]⟩
          have fP : (k ≤ 9 → 0 ≤ P ∧ P < D 0 1) ∧ (¬ k ≤ 9 → P = -1) := ⟨fun h => by rw [eP, if_pos h]; omega, fun h => by rw [eP, if_neg h]⟩
          have fQ : (hQP k → -4 ≤ Q ∧ Q < D 0 1 ∧ (k ≠ 3 → 0 ≤ Q)) ∧ (¬ hQP k → Q = -1) := ⟨fun h => by rw [eQ, if_pos h]; omega, fun h => by rw [eQ, if_neg h]⟩
          have fV : (k = 11 → 0 ≤ V ∧ V ≤ 9999) ∧ (k = 12 → 0 ≤ V ∧ V < D 0 7) ∧ (¬ hVP k → V = -1) := ⟨fun h => by rw [eV, if_pos (Or.inl h)]; omega, fun h => by rw [eV, if_pos (Or.inr h)]; omega, fun h => by rw [eV, if_neg h]⟩
          have rL : -1 ≤ L ∧ L ≤ 11 := by by_cases h : hLP k; have := fL.1 h; omega; have := fL.2 h; omega
          have rP : -1 ≤ P ∧ P ≤ 39 := by by_cases h : k ≤ 9; have := fP.1 h; omega; have := fP.2 h; omega
          have rQ : -4 ≤ Q ∧ Q ≤ 39 := by by_cases h : hQP k; have := fQ.1 h; omega; have := fQ.2 h; omega
          have rV : -1 ≤ V ∧ V ≤ 9999 := by
            by_cases h : hVP k
            · rcases h with h | h
              · have := fV.1 h; omega
              · have := fV.2.1 h; omega
            · have := fV.2.2 h; omega
          have g : fr wdP D (padd D (D 0 7) (D 0 0) k t L P Q V) := padd_fr
          show Inv (padd D (D 0 7) (D 0 0) k t L P Q V)
          refine ⟨by rw [g 0 0 rfl]; exact hnow, InvG_fw (Inv_G hI) g rfl, ?_, ?_, InvC_fw (Inv_C hI) g rfl, InvR_fw (Inv_R hI) g rfl, InvS_fw (Inv_S hI) g rfl, InvF_fw (Inv_F hI) g rfl, InvE_fw (Inv_E hI) g rfl⟩
          · unfold InvP padd
            simp (decide := true) only [x_uc, x_us, x_uf, x_uk, x_uu, up1_s, up1_n]
            refine ⟨by omega, up1_rg (Inv_pk hI) hk, up1_rg (Inv_pd hI) (by omega), up1_rg (Inv_pt hI) hnow, up1_rg (Inv_pl hI) rL, up1_rg (Inv_pp hI) rP, up1_rg (Inv_pq hI) rQ, up1_rg (Inv_pv hI) rV, fun i h0 h1 h2 => ?_⟩
            unfold up1 at h2 ⊢
            by_cases e : i = D 0 7
            · rw [if_pos e] at h2 ⊢; have := fV.2.1 h2; omega
            · rw [if_neg e] at h2 ⊢; exact Inv_hV hI i h0 (by omega) h2
          · unfold InvL padd
            simp (decide := true) only [x_uc, x_us, x_uf, x_uk, x_uu, up1_s, up1_n]
            unfold up1
            refine ⟨fun i h0 h1 => ?_, fun i h0 h1 => ?_, fun i h0 h1 => ?_, fun i h0 h1 => ?_, fun i h0 h1 => ?_⟩
            · by_cases e : i = D 0 7
              · simp only [if_pos e]; exact fL.1
              · simp only [if_neg e]; exact Inv_hL hI i h0 (by omega)
            · by_cases e : i = D 0 7
              · simp only [if_pos e]; exact fP.1
              · simp only [if_neg e]; exact Inv_hP hI i h0 (by omega)
            · by_cases e : i = D 0 7
              · simp only [if_pos e]; intro h; have := fQ.1 (by omega); omega
              · simp only [if_neg e]; exact Inv_hQ hI i h0 (by omega)
            · by_cases e : i = D 0 7
              · simp only [if_pos e]; exact fL.2
              · simp only [if_neg e]; exact Inv_hN hI i h0 (by omega)
            · by_cases e : i = D 0 7
              · simp only [if_pos e]; omega
              · simp only [if_neg e]; exact Inv_hT hI i h0 (by omega)
  · rw [if_pos hk]; exact hI
-- told
def f_told (D : AM) (i w : Int) : Int :=
  if ¬ (0 ≤ i ∧ i < D 0 7) then -100001 else if w = 0 then D 5 i else if w = 1 then D 6 i else if w = 2 then D 7 i else if w = 3 then D 8 i else if w = 4 then D 9 i else if w = 5 then D 10 i else if w = 6 then D 11 i else if w = 7 then vd D (D 0 0) i else -100002
theorem a_bl_vd {D : AM} {w i z : Int} (h : z = vd D w i) : a_bl (z ≠ 0) = vd D w i := by
  subst h
  unfold a_bl
  rcases vd_01 D w i with e | e <;> rw [e] <;> rfl
theorem c1_told {D M : AM} {i w : Int} (hI : Inv D) (hB : B1 D M) : aCi s1_G 8 112 [aP 0, aI i, aI w] M (fun z M' => z = f_told D i w ∧ fr wO M M' ∧ B1 D M') := by
  refine ⟨Nat.le_of_ble_eq_true rfl, fun d hd => ?_⟩
  refine s1_told_0 (by omega) ?_
  have hn := Inv_pn hI
  have hnow := Inv_now hI
  simp only [a_bl_n, a_bl_z, B1_pn hB, B1_pk hB, B1_pd hB, B1_pt hB, B1_pl hB, B1_pp hB, B1_pq hB, B1_pv hB, B1_now hB]
  rw [x_sub (by omega)]
  unfold f_told
  (repeat' (with_reducible first | refine And.intro ?_ ?_ | intro _))
  all_goals (try first | with_reducible rfl | with_reducible exact True.intro | with_reducible exact Or.inl True.intro | with_reducible exact Or.inr True.intro | omega | (exfalso; with_reducible assumption))
  all_goals first
    | (refine ⟨_, rfl, ?_, fr_rf, hB⟩; (repeat (first | rw [if_pos (by omega)] | rw [if_neg (by omega)])); done)
    | (refine aKv_of (s1_Papers_open hI hB hnow.1) (by omega) (fun M1 q => ?_)
       obtain ⟨q1, q2, q3⟩ := q
       have hp := (B1_page q2 q3 hnow.1).1 i (by omega) (by omega)
       refine ⟨by omega, _, rfl, ?_, q1, q2⟩
       (repeat (first | rw [if_pos (by omega)] | rw [if_neg (by omega)]))
       exact a_bl_vd hp)
abbrev wB : Nat → Int → Bool := wr [12, 13] [(0, 17)]
theorem c2_told {M : AM} {i w : Int} (hI : Inv M) : aCi s2_G 8 19 [aP 0, aI i, aI w] M (fun z M' => z = f_told M i w ∧ fr wB M M') := by
  refine ⟨Nat.le_of_ble_eq_true rfl, fun d hd => ?_⟩
  refine s2_told_0 (by omega) ?_
  have hn := Inv_pn hI
  simp only [a_bl_n, a_bl_z]
  rw [x_sub (by omega)]
  unfold f_told
  (repeat' (with_reducible first | refine And.intro ?_ ?_ | intro _))
  all_goals (try first | with_reducible rfl | with_reducible exact True.intro | with_reducible exact Or.inl True.intro | with_reducible exact Or.inr True.intro | omega | (exfalso; with_reducible assumption))
  all_goals first
    | (refine ⟨_, rfl, ?_, fr_rf⟩; (repeat (first | rw [if_pos (by omega)] | rw [if_neg (by omega)])); done)
    | (refine aKi_of (s2_findVoid hI eqL_rf) (by omega) (fun z M1 q => ?_)
       obtain ⟨-, q1, q2⟩ := q
       have hp := q2 i (by omega) (by omega)
       refine ⟨by omega, _, rfl, ?_, fr_mo q1 rfl⟩
       (repeat (first | rw [if_pos (by omega)] | rw [if_neg (by omega)]))
       exact a_bl_vd hp)
-- book
def f_book (D : AM) (w i : Int) : Int := if ¬ (0 ≤ w ∧ w ≤ D 0 0) then -100002 else if 0 ≤ i ∧ i < (bk D w).length then (bk D w).getD i.toNat 0 else -1
theorem isB_get {n : Int} {f : Int → Int} {l : List Int} (h : isB n f l) {i : Int} (h0 : 0 ≤ i) (h1 : i < l.length) : f i = l.getD i.toNat 0 := by
  have e : l[i.toNat]? = some (l[i.toNat]'(by omega)) := List.getElem?_eq_getElem (by omega)
  rw [isL_get h.2 h0 h1, List.getD_eq_getElem?_getD, e]
  rfl
theorem c1_book {D M : AM} {w i : Int} (hI : Inv D) (hB : B1 D M) : aCi s1_G 8 113 [aP 0, aI w, aI i] M (fun z M' => z = f_book D w i ∧ fr wO M M' ∧ B1 D M') := by
  refine ⟨Nat.le_of_ble_eq_true rfl, fun d hd => ?_⟩
  refine s1_book_0 (by omega) ?_
  have hn := Inv_pn hI
  simp only [a_bl_n, a_bl_z, B1_now hB]
  unfold f_book
  refine ⟨fun hw => ?_, fun hw => ⟨_, rfl, by rw [if_pos hw], fr_rf, hB⟩⟩
  refine aKv_of (s1_Papers_open hI hB hw.1) (by omega) (fun M1 q => ?_)
  obtain ⟨q1, q2, q3⟩ := q
  have hp := (B1_page q2 q3 hw.1).2.1
  have hl := bk_len (w := w) hn.1
  rw [hp.1, x_sub (by omega)]
  refine ⟨fun h => ⟨_, rfl, ?_, q1, q2⟩, fun h => ⟨by omega, _, rfl, ?_, q1, q2⟩⟩
  · (repeat (first | rw [if_pos (by omega)] | rw [if_neg (by omega)]))
  · (repeat (first | rw [if_pos (by omega)] | rw [if_neg (by omega)]))
    exact isB_get hp (by omega) (by omega)
theorem c2_book {M : AM} {w i : Int} (hI : Inv M) : aCi s2_G 8 20 [aP 0, aI w, aI i] M (fun z M' => z = f_book M w i ∧ fr wB M M') := by
  refine ⟨Nat.le_of_ble_eq_true rfl, fun d hd => ?_⟩
  refine s2_book_0 (by omega) ?_
  have hn := Inv_pn hI
  simp only [a_bl_n, a_bl_z]
  unfold f_book
  refine ⟨fun hw => ?_, fun hw => ⟨_, rfl, by rw [if_pos hw], fr_rf⟩⟩
  refine aKv_of (s2_findBook hI eqL_rf) (by omega) (fun M1 q => ?_)
  obtain ⟨q1, hp⟩ := q
  have hl := bk_len (w := w) hn.1
  rw [hp.1, x_sub (by omega)]
  refine ⟨fun h => ⟨_, rfl, ?_, q1⟩, fun h => ⟨by omega, _, rfl, ?_, q1⟩⟩
  · (repeat (first | rw [if_pos (by omega)] | rw [if_neg (by omega)]))
  · (repeat (first | rw [if_pos (by omega)] | rw [if_neg (by omega)]))
    exact isB_get hp (by omega) (by omega)
-- about
def f_about (D : AM) (p w x : Int) : Int := if ¬ (0 ≤ p ∧ p < D 0 1) then -100001 else if ¬ (0 ≤ w ∧ w ≤ D 0 0) then -100002 else if ¬ (0 ≤ x ∧ x ≤ 4) then -100002 else if x = 3 then heirL D (bk D w) p 30000 else if x = 4 then bI (hadB D (bk D w) 5 p 30000) else dayOn D (bk D w) x p
theorem a_bl_bI {b : Bool} : a_bl (bI b ≠ 0) = bI b := by cases b <;> rfl
theorem c1_about {D M : AM} {p w x : Int} (hI : Inv D) (hB : B1 D M) : aCi s1_G 8 114 [aP 0, aI p, aI w, aI x] M (fun z M' => z = f_about D p w x ∧ fr wO M M' ∧ B1 D M') := by
  refine ⟨Nat.le_of_ble_eq_true rfl, fun d hd => ?_⟩
  refine s1_about_0 (by omega) ?_
  have hn := Inv_pn hI
  have hnp := Inv_np hI
  simp only [a_bl_n, a_bl_z, B1_now hB, B1_np hB]
  rw [x_sub (by omega)]
  unfold f_about
  refine ⟨fun hp => ⟨fun hw => ⟨_, rfl, ?_, fr_rf, hB⟩, fun hw => ⟨fun hx => ?_, fun hx => ⟨_, rfl, ?_, fr_rf, hB⟩⟩⟩, fun hp => ⟨_, rfl, ?_, fr_rf, hB⟩⟩
  · (repeat (first | rw [if_pos (by omega)] | rw [if_neg (by omega)]))
  · refine aKv_of (s1_Papers_open hI hB hw.1) (by omega) (fun M1 q => ?_)
    obtain ⟨q1, q2, q3⟩ := q
    obtain ⟨-, hb, hg⟩ := B1_page q2 q3 hw.1
    have hl := bk_len (D := D) (w := w) hn.1
    refine ⟨⟨fun e => ?_, fun e => ?_, fun e => ?_, fun e => ?_, trivial⟩, fun e => ?_⟩
    · subst e
      refine ⟨by omega, by omega, _, rfl, ?_, q1, q2⟩
      (repeat (first | rw [if_pos (by omega)] | rw [if_neg (by omega)]))
      exact hg 0 p (by omega) (by omega) (by omega) (by omega)
    · subst e
      refine ⟨by omega, by omega, _, rfl, ?_, q1, q2⟩
      (repeat (first | rw [if_pos (by omega)] | rw [if_neg (by omega)]))
      exact hg 1 p (by omega) (by omega) (by omega) (by omega)
    · subst e
      refine ⟨by omega, by omega, _, rfl, ?_, q1, q2⟩
      (repeat (first | rw [if_pos (by omega)] | rw [if_neg (by omega)]))
      exact hg 2 p (by omega) (by omega) (by omega) (by omega)
    · subst e
      refine aKi_of (s1_Papers_heirBy hI (PB_of q2) hb (fun i hi => bk_mem hi) (by omega)) (by omega) (fun z M2 q => ?_)
      obtain ⟨rfl, q⟩ := q
      refine ⟨_, rfl, ?_, q1, q2⟩
      (repeat (first | rw [if_pos (by omega)] | rw [if_neg (by omega)]))
      exact q
    · refine aKi_of (s1_Papers_hadBy (l := bk D w) hI hg (by omega) (by omega)) (by omega) (fun z M2 q => ?_)
      obtain ⟨rfl, q⟩ := q
      refine ⟨_, rfl, ?_, q1, q2⟩
      (repeat (first | rw [if_pos (by omega)] | rw [if_neg (by omega)]))
      rw [q]
      exact a_bl_bI
  · (repeat (first | rw [if_pos (by omega)] | rw [if_neg (by omega)]))
  · (repeat (first | rw [if_pos (by omega)] | rw [if_neg (by omega)]))
theorem c2_about {M : AM} {p w x : Int} (hI : Inv M) : aCi s2_G 8 26 [aP 0, aI p, aI w, aI x] M (fun z M' => z = f_about M p w x ∧ fr wB M M') := by
  refine ⟨Nat.le_of_ble_eq_true rfl, fun d hd => ?_⟩
  refine s2_about_0 (by omega) ?_
  have hn := Inv_pn hI
  have hnp := Inv_np hI
  simp only [a_bl_n, a_bl_z]
  rw [x_sub (by omega)]
  unfold f_about
  refine ⟨fun hp => ⟨fun hw => ⟨_, rfl, ?_, fr_rf⟩, fun hw => ⟨fun hx => ?_, fun hx => ⟨_, rfl, ?_, fr_rf⟩⟩⟩, fun hp => ⟨_, rfl, ?_, fr_rf⟩⟩
  · (repeat (first | rw [if_pos (by omega)] | rw [if_neg (by omega)]))
  · refine aKv_of (s2_findBook hI eqL_rf) (by omega) (fun M1 q => ?_)
    obtain ⟨q1, hb⟩ := q
    have hL := eqL_fw eqL_rf q1 rfl
    have hl := bk_len (D := M) (w := w) hn.1
    refine ⟨fun e => ⟨fun e3 => ?_, fun e3 => ?_⟩, fun e => ?_⟩
    · refine aKi_of (s2_hasLeave hI hL hb (fun i hi => bk_mem hi) (by omega)) (by omega) (fun z M2 q => ?_)
      obtain ⟨rfl, q⟩ := q
      refine ⟨_, rfl, ?_, q1⟩
      (repeat (first | rw [if_pos (by omega)] | rw [if_neg (by omega)]))
      rw [q]
      exact a_bl_bI
    · refine aKi_of (s2_heirOf hI hL hb (fun i hi => bk_mem hi) (by omega)) (by omega) (fun z M2 q => ?_)
      obtain ⟨rfl, q⟩ := q
      refine ⟨_, rfl, ?_, q1⟩
      (repeat (first | rw [if_pos (by omega)] | rw [if_neg (by omega)]))
      exact q
    · refine aKi_of (s2_dayOn hI hL hb (fun i hi => bk_mem hi) (by omega)) (by omega) (fun z M2 q => ?_)
      obtain ⟨rfl, q⟩ := q
      refine ⟨_, rfl, ?_, q1⟩
      (repeat (first | rw [if_pos (by omega)] | rw [if_neg (by omega)]))
      exact q
  · (repeat (first | rw [if_pos (by omega)] | rw [if_neg (by omega)]))
  · (repeat (first | rw [if_pos (by omega)] | rw [if_neg (by omega)]))
