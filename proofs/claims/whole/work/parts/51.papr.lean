/-! PAPERS: paper -/
abbrev hLP (k : Int) : Prop := k = 3 ∨ k = 4 ∨ (7 ≤ k ∧ k ≤ 11)
abbrev hQP (k : Int) : Prop := k = 3 ∨ k = 6 ∨ k = 7 ∨ k = 9
abbrev hVP (k : Int) : Prop := k = 11 ∨ k = 12
abbrev ppU (D : AM) (k l p q v : Int) : Prop := (hLP k ∧ ¬ (0 ≤ l ∧ l < D 0 3)) ∨ (k ≤ 9 ∧ ¬ (0 ≤ p ∧ p < D 0 1)) ∨ (hQP k ∧ ¬ (0 ≤ q ∧ q < D 0 1) ∧ ¬ (k = 3 ∧ -4 ≤ q ∧ q ≤ -2)) ∨ (k = 12 ∧ ¬ (0 ≤ v ∧ v < D 0 7))
abbrev ppO (D : AM) (k t p q v : Int) : Prop := ¬ (0 ≤ t ∧ t ≤ D 0 0) ∨ (k = 11 ∧ ¬ (0 ≤ v ∧ v ≤ 9999)) ∨ ((k = 6 ∨ k = 7) ∧ p = q)
def padd (D : AM) (n now k t l p q v : Int) : AM := am_up (am_up (am_up (am_up (am_up (am_up (am_up (am_up D 5 n k) 6 n t) 7 n now) 8 n l) 9 n p) 10 n q) 11 n v) 0 7 (n + 1)
def pad1 (M : AM) (n now k t l p q v : Int) : AM := am_up (am_up (am_up (am_up (am_up (am_up (am_up M 7 n k) 8 n t) 9 n now) 10 n l) 11 n p) 12 n q) 13 n v
def f_paper (D : AM) (k t l p q v : Int) : Int × AM :=
  if ¬ (0 ≤ k ∧ k ≤ 12) then (-100002, D) else if ppU D k l p q v then (-100001, D) else if ppO D k t p q v then (-100002, D) else
  if D 0 7 = 150 then (-100004, D) else (D 0 7, padd D (D 0 7) (D 0 0) k t (if hLP k then l else -1) (if k ≤ 9 then p else -1) (if hQP k then q else -1) (if hVP k then v else -1))
-- the second system
theorem s2_hasL {M : AM} {k : Int} : aCi s2_G 4 12 [aI k] M (fun z M' => M' = M ∧ ((z = 1 ∧ hLP k) ∨ (z = 0 ∧ ¬ hLP k))) := by
  refine ⟨Nat.le_of_ble_eq_true rfl, fun d hd => ?_⟩
  refine s2_hasL_0 (by omega) ?_
  (repeat' (with_reducible first | refine And.intro ?_ ?_ | intro _))
  all_goals (try first | with_reducible rfl | with_reducible exact True.intro | with_reducible exact Or.inl True.intro | with_reducible exact Or.inr True.intro | omega | (exfalso; with_reducible assumption))
  all_goals first | exact ⟨_, rfl, rfl, Or.inl ⟨rfl, by omega⟩⟩ | exact ⟨_, rfl, rfl, Or.inr ⟨rfl, by omega⟩⟩
theorem s2_hasP {M : AM} {k : Int} : aCi s2_G 4 13 [aI k] M (fun z M' => M' = M ∧ ((z = 1 ∧ k ≤ 9) ∨ (z = 0 ∧ ¬ k ≤ 9))) := by
  refine ⟨Nat.le_of_ble_eq_true rfl, fun d hd => ?_⟩
  refine s2_hasP_0 (by omega) ?_
  (repeat' (with_reducible first | refine And.intro ?_ ?_ | intro _))
  all_goals (try first | with_reducible rfl | with_reducible exact True.intro | with_reducible exact Or.inl True.intro | with_reducible exact Or.inr True.intro | omega | (exfalso; with_reducible assumption))
  all_goals first | exact ⟨_, rfl, rfl, Or.inl ⟨rfl, by omega⟩⟩ | exact ⟨_, rfl, rfl, Or.inr ⟨rfl, by omega⟩⟩
theorem s2_hasQ {M : AM} {k : Int} : aCi s2_G 4 14 [aI k] M (fun z M' => M' = M ∧ ((z = 1 ∧ hQP k) ∨ (z = 0 ∧ ¬ hQP k))) := by
  refine ⟨Nat.le_of_ble_eq_true rfl, fun d hd => ?_⟩
  refine s2_hasQ_0 (by omega) ?_
  (repeat' (with_reducible first | refine And.intro ?_ ?_ | intro _))
  all_goals (try first | with_reducible rfl | with_reducible exact True.intro | with_reducible exact Or.inl True.intro | with_reducible exact Or.inr True.intro | omega | (exfalso; with_reducible assumption))
  all_goals first | exact ⟨_, rfl, rfl, Or.inl ⟨rfl, by omega⟩⟩ | exact ⟨_, rfl, rfl, Or.inr ⟨rfl, by omega⟩⟩
theorem s2_hasV {M : AM} {k : Int} : aCi s2_G 4 15 [aI k] M (fun z M' => M' = M ∧ ((z = 1 ∧ hVP k) ∨ (z = 0 ∧ ¬ hVP k))) := by
  refine ⟨Nat.le_of_ble_eq_true rfl, fun d hd => ?_⟩
  refine s2_hasV_0 (by omega) ?_
  (repeat' (with_reducible first | refine And.intro ?_ ?_ | intro _))
  all_goals (try first | with_reducible rfl | with_reducible exact True.intro | with_reducible exact Or.inl True.intro | with_reducible exact Or.inr True.intro | omega | (exfalso; with_reducible assumption))
  all_goals first | exact ⟨_, rfl, rfl, Or.inl ⟨rfl, by omega⟩⟩ | exact ⟨_, rfl, rfl, Or.inr ⟨rfl, by omega⟩⟩
/-- the end of paper: the answer and the store -/
def ppQ (f : Int × AM) (r : Option AV) (M' : AM) : Prop := ∃ z, r = some (aI z) ∧ z = f.1 ∧ M' = f.2
theorem s2_pp_301 {M : AM} {d : Nat} {n t0 : Int} (hd : 5 ≤ d) (hn : 0 ≤ n ∧ n < 150) (h7 : M 0 7 = n) : aE s2_G d 16 301 [] [some (aP 0), none, none, none, none, none, none, none] [aI t0, aI n, aP 11] M (ppQ (n, am_up (am_up M 11 n t0) 0 7 (n + 1))) := by
  refine s2_paper_301 (by omega) ?_
  simp (decide := true) only [x_uc, x_us]
  rw [h7, x_add (by omega), x_sub (by omega)]
  (repeat' (with_reducible first | refine And.intro ?_ ?_ | intro _))
  all_goals (try first | with_reducible rfl | with_reducible exact True.intro | with_reducible exact Or.inl True.intro | with_reducible exact Or.inr True.intro | omega | (exfalso; with_reducible assumption))
  exact ⟨_, rfl, by dsimp only; omega, rfl⟩
theorem s2_pp_279 {M : AM} {d : Nat} {n t0 k v : Int} (hd : 5 ≤ d) (hn : 0 ≤ n ∧ n < 150) (h7 : M 0 7 = n) : aE s2_G d 16 279 [] [some (aP 0), some (aI k), none, none, none, none, some (aI v), none] [aI t0, aI n, aP 10] M (ppQ (n, am_up (am_up (am_up M 10 n t0) 11 n (if hVP k then v else -1)) 0 7 (n + 1))) := by
  refine s2_paper_279 (by omega) ⟨hn, ?_⟩
  have e : (am_up M 10 n t0) 0 7 = n := by rw [x_uc (by decide)]; exact h7
  rw [e]
  refine aKi_of s2_hasV (by omega) (fun z M1 q => ?_)
  obtain ⟨rfl, ⟨rfl, q⟩ | ⟨rfl, q⟩⟩ := q
  · rw [if_pos q]
    exact ⟨fun h => absurd h (by decide), fun _ => s2_pp_301 hd hn e⟩
  · rw [if_neg q]
    exact ⟨fun _ => s2_pp_301 hd hn e, fun h => absurd rfl h⟩
theorem s2_pp_257 {M : AM} {d : Nat} {n t0 k q v : Int} (hd : 5 ≤ d) (hn : 0 ≤ n ∧ n < 150) (h7 : M 0 7 = n) : aE s2_G d 16 257 [] [some (aP 0), some (aI k), none, none, none, some (aI q), some (aI v), none] [aI t0, aI n, aP 9] M (ppQ (n, am_up (am_up (am_up (am_up M 9 n t0) 10 n (if hQP k then q else -1)) 11 n (if hVP k then v else -1)) 0 7 (n + 1))) := by
  refine s2_paper_257 (by omega) ⟨hn, ?_⟩
  have e : (am_up M 9 n t0) 0 7 = n := by rw [x_uc (by decide)]; exact h7
  rw [e]
  refine aKi_of s2_hasQ (by omega) (fun z M1 q => ?_)
  obtain ⟨rfl, ⟨rfl, q⟩ | ⟨rfl, q⟩⟩ := q
  · rw [if_pos q]
    exact ⟨fun h => absurd h (by decide), fun _ => s2_pp_279 hd hn e⟩
  · rw [if_neg q]
    exact ⟨fun _ => s2_pp_279 hd hn e, fun h => absurd rfl h⟩
theorem s2_pp_235 {M : AM} {d : Nat} {n t0 k p q v : Int} (hd : 5 ≤ d) (hn : 0 ≤ n ∧ n < 150) (h7 : M 0 7 = n) : aE s2_G d 16 235 [] [some (aP 0), some (aI k), none, none, some (aI p), some (aI q), some (aI v), none] [aI t0, aI n, aP 8] M (ppQ (n, am_up (am_up (am_up (am_up (am_up M 8 n t0) 9 n (if k ≤ 9 then p else -1)) 10 n (if hQP k then q else -1)) 11 n (if hVP k then v else -1)) 0 7 (n + 1))) := by
  refine s2_paper_235 (by omega) ⟨hn, ?_⟩
  have e : (am_up M 8 n t0) 0 7 = n := by rw [x_uc (by decide)]; exact h7
  rw [e]
  refine aKi_of s2_hasP (by omega) (fun z M1 q => ?_)
  obtain ⟨rfl, ⟨rfl, q⟩ | ⟨rfl, q⟩⟩ := q
  · rw [if_pos q]
    exact ⟨fun h => absurd h (by decide), fun _ => s2_pp_257 hd hn e⟩
  · rw [if_neg q]
    exact ⟨fun _ => s2_pp_257 hd hn e, fun h => absurd rfl h⟩
theorem s2_pp_169 {M : AM} {d : Nat} {k t l p q v : Int} (hd : 5 ≤ d) (hI : Inv M) (hk : 0 ≤ k ∧ k ≤ 12) (hU : ¬ ppU M k l p q v) (hO : ¬ ppO M k t p q v) : aE s2_G d 16 169 [] [some (aP 0), some (aI k), some (aI t), some (aI l), some (aI p), some (aI q), some (aI v), none] [] M (ppQ (f_paper M k t l p q v)) := by
  have hn := Inv_pn hI
  refine s2_paper_169 (by omega) ?_
  simp (decide := true) only [x_uc, x_us]
  unfold f_paper
  rw [if_neg (by omega), if_neg hU, if_neg hO]
  refine ⟨fun h => ?_, fun h => ?_⟩
  · rw [if_neg h]
    have hr : 0 ≤ M 0 7 ∧ M 0 7 < 150 := by omega
    refine ⟨hr, hr, hr, ?_⟩
    refine aKi_of s2_hasL (by omega) (fun z M1 q => ?_)
    obtain ⟨rfl, ⟨rfl, q⟩ | ⟨rfl, q⟩⟩ := q
    · rw [if_pos q]
      exact ⟨fun h => absurd h (by decide), fun _ => s2_pp_235 hd hr (by simp (decide := true) only [x_uc])⟩
    · rw [if_neg q]
      exact ⟨fun _ => s2_pp_235 hd hr (by simp (decide := true) only [x_uc]), fun h => absurd rfl h⟩
  · rw [if_pos h]
    exact ⟨_, rfl, rfl, rfl⟩
theorem s2_pp_166 {M : AM} {d : Nat} {k t l p q v : Int} (hd : 5 ≤ d) (hk : 0 ≤ k ∧ k ≤ 12) (hU : ¬ ppU M k l p q v) (hO : ppO M k t p q v) : aE s2_G d 16 166 [] [none, none, none, none, none, none, none, none] [] M (ppQ (f_paper M k t l p q v)) := by
  refine s2_paper_166 (by omega) ?_
  unfold f_paper
  rw [if_neg (by omega), if_neg hU, if_pos hO]
  exact ⟨_, rfl, rfl, rfl⟩
theorem s2_pp_117 {M : AM} {d : Nat} {k t l p q v : Int} (hd : 5 ≤ d) (hk : 0 ≤ k ∧ k ≤ 12) (hU : ppU M k l p q v) : aE s2_G d 16 117 [] [none, none, none, none, none, none, none, none] [] M (ppQ (f_paper M k t l p q v)) := by
  refine s2_paper_117 (by omega) ?_
  unfold f_paper
  rw [if_neg (by omega), if_pos hU]
  exact ⟨_, rfl, rfl, rfl⟩
theorem s2_pp_120 {M : AM} {d : Nat} {k t l p q v : Int} (hd : 5 ≤ d) (hI : Inv M) (hk : 0 ≤ k ∧ k ≤ 12) (hU : ¬ ppU M k l p q v) : aE s2_G d 16 120 [] [some (aP 0), some (aI k), some (aI t), some (aI l), some (aI p), some (aI q), some (aI v), none] [] M (ppQ (f_paper M k t l p q v)) := by
  have h159 : ¬ (¬ (0 ≤ t ∧ t ≤ M 0 0) ∨ (k = 11 ∧ ¬ (0 ≤ v ∧ v ≤ 9999))) → (k = 6 ∨ k = 7) → aE s2_G d 16 159 [] [some (aP 0), some (aI k), some (aI t), some (aI l), some (aI p), some (aI q), some (aI v), none] [] M (ppQ (f_paper M k t l p q v)) := by
    intro h1 h2
    refine s2_paper_159 (by omega) ⟨fun h => s2_pp_169 hd hI hk hU ?_, fun h => s2_pp_166 hd hk hU ?_⟩
    · rintro (a | a | a)
      · exact h1 (Or.inl a)
      · exact h1 (Or.inr a)
      · exact h a.2
    · exact Or.inr (Or.inr ⟨h2, h⟩)
  have h147 : ¬ (¬ (0 ≤ t ∧ t ≤ M 0 0) ∨ (k = 11 ∧ ¬ (0 ≤ v ∧ v ≤ 9999))) → aE s2_G d 16 147 [] [some (aP 0), some (aI k), some (aI t), some (aI l), some (aI p), some (aI q), some (aI v), none] [] M (ppQ (f_paper M k t l p q v)) := by
    intro h1
    refine s2_paper_147 (by omega) ⟨fun h => h159 h1 (Or.inl h), fun h => ⟨fun h' => s2_pp_169 hd hI hk hU ?_, fun h' => h159 h1 (Or.inr h')⟩⟩
    rintro (a | a | a)
    · exact h1 (Or.inl a)
    · exact h1 (Or.inr a)
    · exact a.1.elim h h'
  refine s2_paper_120 (by omega) ?_
  simp only [a_bl_n, a_bl_z]
  refine ⟨fun h => s2_pp_166 hd hk hU (Or.inl h), fun h => ⟨fun h' => h147 (by omega), fun h' => ⟨fun g => s2_pp_166 hd hk hU (Or.inr (Or.inl ⟨h', g⟩)), fun g => h147 (by omega)⟩⟩⟩
theorem s2_pp_94 {M : AM} {d : Nat} {k t l p q v : Int} (hd : 5 ≤ d) (hI : Inv M) (hk : 0 ≤ k ∧ k ≤ 12) (h1 : ¬ (hLP k ∧ ¬ (0 ≤ l ∧ l < M 0 3))) (h2 : ¬ (k ≤ 9 ∧ ¬ (0 ≤ p ∧ p < M 0 1))) (h3 : ¬ (hQP k ∧ ¬ (0 ≤ q ∧ q < M 0 1) ∧ ¬ (k = 3 ∧ -4 ≤ q ∧ q ≤ -2))) : aE s2_G d 16 94 [] [some (aP 0), some (aI k), some (aI t), some (aI l), some (aI p), some (aI q), some (aI v), none] [] M (ppQ (f_paper M k t l p q v)) := by
  have hn := Inv_pn hI
  refine s2_paper_94 (by omega) ?_
  simp only [a_bl_n, a_bl_z]
  rw [x_sub (by omega)]
  have hU : ∀ h4 : ¬ (k = 12 ∧ ¬ (0 ≤ v ∧ v < M 0 7)), ¬ ppU M k l p q v := by
    intro h4
    rintro (a | a | a | a)
    · exact h1 a
    · exact h2 a
    · exact h3 a
    · exact h4 a
  refine ⟨fun h => s2_pp_120 hd hI hk (hU (by omega)), fun h => ⟨fun g => s2_pp_120 hd hI hk (hU (by omega)), fun g => s2_pp_117 hd hk (Or.inr (Or.inr (Or.inr ⟨h, by omega⟩)))⟩⟩
theorem s2_pp_73 {M : AM} {d : Nat} {k t l p q v t0 : Int} (hd : 5 ≤ d) (hI : Inv M) (hk : 0 ≤ k ∧ k ≤ 12) (h0 : (t0 = 0 ∧ ¬ (k = 3 ∧ -4 ≤ q ∧ q ≤ -2)) ∨ (t0 = 1 ∧ k = 3 ∧ -4 ≤ q ∧ q ≤ -2)) (h1 : ¬ (hLP k ∧ ¬ (0 ≤ l ∧ l < M 0 3))) (h2 : ¬ (k ≤ 9 ∧ ¬ (0 ≤ p ∧ p < M 0 1))) : aE s2_G d 16 73 [] [some (aP 0), some (aI k), some (aI t), some (aI l), some (aI p), some (aI q), some (aI v), some (aI t0)] [] M (ppQ (f_paper M k t l p q v)) := by
  have hn := Inv_np hI
  refine s2_paper_73 (by omega) ?_
  refine aKi_of s2_hasQ (by omega) (fun z M1 qq => ?_)
  obtain ⟨rfl, ⟨rfl, qq⟩ | ⟨rfl, qq⟩⟩ := qq
  · simp only [a_bl_n, a_bl_z]
    rw [x_sub (by omega)]
    refine ⟨fun h => absurd h (by decide), fun _ => ⟨fun h => s2_pp_94 hd hI hk h1 h2 (by omega), fun h => ⟨fun g => s2_pp_117 hd hk (Or.inr (Or.inr (Or.inl ⟨qq, by omega, by omega⟩))), fun g => s2_pp_94 hd hI hk h1 h2 (by omega)⟩⟩⟩
  · refine ⟨fun _ => s2_pp_94 hd hI hk h1 h2 (fun a => qq a.1), fun h => absurd rfl h⟩
theorem s2_pp_57 {M : AM} {d : Nat} {k t l p q v t0 : Int} (hd : 5 ≤ d) (hI : Inv M) (hk : 0 ≤ k ∧ k ≤ 12) (h0 : (t0 = 0 ∧ ¬ (k = 3 ∧ -4 ≤ q ∧ q ≤ -2)) ∨ (t0 = 1 ∧ k = 3 ∧ -4 ≤ q ∧ q ≤ -2)) (h1 : ¬ (hLP k ∧ ¬ (0 ≤ l ∧ l < M 0 3))) : aE s2_G d 16 57 [] [some (aP 0), some (aI k), some (aI t), some (aI l), some (aI p), some (aI q), some (aI v), some (aI t0)] [] M (ppQ (f_paper M k t l p q v)) := by
  have hn := Inv_np hI
  refine s2_paper_57 (by omega) ?_
  refine aKi_of s2_hasP (by omega) (fun z M1 qq => ?_)
  obtain ⟨rfl, ⟨rfl, qq⟩ | ⟨rfl, qq⟩⟩ := qq
  · simp only [a_bl_n, a_bl_z]
    rw [x_sub (by omega)]
    refine ⟨fun h => absurd h (by decide), fun _ => ⟨fun h => s2_pp_117 hd hk (Or.inr (Or.inl ⟨qq, by omega⟩)), fun h => s2_pp_73 hd hI hk h0 h1 (by omega)⟩⟩
  · refine ⟨fun _ => s2_pp_73 hd hI hk h0 h1 (fun a => qq a.1), fun h => absurd rfl h⟩
theorem s2_pp_40 {M : AM} {d : Nat} {k t l p q v t0 : Int} (hd : 5 ≤ d) (hI : Inv M) (hk : 0 ≤ k ∧ k ≤ 12) (h0 : (t0 = 0 ∧ ¬ (k = 3 ∧ -4 ≤ q ∧ q ≤ -2)) ∨ (t0 = 1 ∧ k = 3 ∧ -4 ≤ q ∧ q ≤ -2)) : aE s2_G d 16 40 [] [some (aP 0), some (aI k), some (aI t), some (aI l), some (aI p), some (aI q), some (aI v), none] [aI t0] M (ppQ (f_paper M k t l p q v)) := by
  have hn := Inv_nl hI
  refine s2_paper_40 (by omega) ?_
  refine aKi_of s2_hasL (by omega) (fun z M1 qq => ?_)
  obtain ⟨rfl, ⟨rfl, qq⟩ | ⟨rfl, qq⟩⟩ := qq
  · simp only [a_bl_n, a_bl_z]
    rw [x_sub (by omega)]
    refine ⟨fun h => absurd h (by decide), fun _ => ⟨fun h => s2_pp_117 hd hk (Or.inl ⟨qq, by omega⟩), fun h => s2_pp_57 hd hI hk h0 (by omega)⟩⟩
  · refine ⟨fun _ => s2_pp_57 hd hI hk h0 (fun a => qq a.1), fun h => absurd rfl h⟩
theorem c2_paper {M : AM} {k t l p q v : Int} (hI : Inv M) : aCi s2_G 8 16 [aP 0, aI k, aI t, aI l, aI p, aI q, aI v] M (fun z M' => z = (f_paper M k t l p q v).1 ∧ M' = (f_paper M k t l p q v).2) := by
  refine ⟨Nat.le_of_ble_eq_true rfl, fun d hd => ?_⟩
  refine s2_paper_0 (by omega) ?_
  simp only [a_bl_n, a_bl_z]
  refine ⟨fun hk => ⟨fun h => ?_, fun h => ⟨fun g => ?_, fun g => ?_⟩⟩, fun hk => ?_⟩
  · exact s2_paper_39 (by omega) (s2_pp_40 (by omega) hI hk (Or.inl ⟨rfl, by omega⟩))
  · exact s2_paper_39 (by omega) (s2_pp_40 (by omega) hI hk (Or.inl ⟨rfl, by omega⟩))
  · exact s2_pp_40 (by omega) hI hk (Or.inr ⟨rfl, h, g⟩)
  · refine ⟨_, rfl, ?_⟩
    unfold f_paper
    rw [if_pos hk]
    exact ⟨rfl, rfl⟩
-- the first system
theorem and1_cases {k : Int} (h : 0 ≤ k ∧ k ≤ 12) : (a_and (a_shr 3992 k) 1 = 1 ↔ hLP k) ∧ (a_and (a_shr 712 k) 1 = 1 ↔ hQP k) := by
  have hc : k = 0 ∨ k = 1 ∨ k = 2 ∨ k = 3 ∨ k = 4 ∨ k = 5 ∨ k = 6 ∨ k = 7 ∨ k = 8 ∨ k = 9 ∨ k = 10 ∨ k = 11 ∨ k = 12 := by omega
  rcases hc with rfl | rfl | rfl | rfl | rfl | rfl | rfl | rfl | rfl | rfl | rfl | rfl | rfl <;> decide +kernel
theorem s1_Papers_hasLiving {M : AM} {k : Int} : aCi s1_G 4 27 [aI k] M (fun z M' => M' = M ∧ ((z = 1 ∧ hLP k) ∨ (z = 0 ∧ ¬ hLP k))) := by
  refine ⟨Nat.le_of_ble_eq_true rfl, fun d hd => ?_⟩
  refine s1_Papers_hasLiving_0 (by omega) ?_
  simp only [a_bl_n, a_bl_z]
  by_cases hk : 0 ≤ k ∧ k ≤ 12
  · have hc := (and1_cases hk).1
    refine ⟨fun h => absurd hk h, fun _ => ⟨fun h => ⟨by first | exact Or.inl True.intro | exact Or.inr True.intro | exact True.intro | omega, _, rfl, by trivial, Or.inr ⟨rfl, fun g => h (hc.mpr g)⟩⟩, fun h => ⟨by first | exact Or.inl True.intro | exact Or.inr True.intro | exact True.intro | omega, _, rfl, by trivial, Or.inl ⟨rfl, hc.mp h⟩⟩⟩⟩
  · exact ⟨fun h => ⟨by first | exact Or.inl True.intro | exact Or.inr True.intro | exact True.intro | omega, _, rfl, by trivial, Or.inr ⟨rfl, by omega⟩⟩, fun h => absurd h hk⟩
theorem s1_Papers_hasOther {M : AM} {k : Int} : aCi s1_G 4 29 [aI k] M (fun z M' => M' = M ∧ ((z = 1 ∧ hQP k) ∨ (z = 0 ∧ ¬ hQP k))) := by
  refine ⟨Nat.le_of_ble_eq_true rfl, fun d hd => ?_⟩
  refine s1_Papers_hasOther_0 (by omega) ?_
  simp only [a_bl_n, a_bl_z]
  by_cases hk : 0 ≤ k ∧ k ≤ 12
  · have hc := (and1_cases hk).2
    refine ⟨fun h => absurd hk h, fun _ => ⟨fun h => ⟨by first | exact Or.inl True.intro | exact Or.inr True.intro | exact True.intro | omega, _, rfl, by trivial, Or.inr ⟨rfl, fun g => h (hc.mpr g)⟩⟩, fun h => ⟨by first | exact Or.inl True.intro | exact Or.inr True.intro | exact True.intro | omega, _, rfl, by trivial, Or.inl ⟨rfl, hc.mp h⟩⟩⟩⟩
  · exact ⟨fun h => ⟨by first | exact Or.inl True.intro | exact Or.inr True.intro | exact True.intro | omega, _, rfl, by trivial, Or.inr ⟨rfl, by omega⟩⟩, fun h => absurd h hk⟩
theorem s1_Papers_hasPerson {M : AM} {k : Int} : aCi s1_G 4 28 [aI k] M (fun z M' => M' = M ∧ ((z = 1 ∧ (0 ≤ k ∧ k ≤ 9)) ∨ (z = 0 ∧ ¬ (0 ≤ k ∧ k ≤ 9)))) := by
  refine ⟨Nat.le_of_ble_eq_true rfl, fun d hd => ?_⟩
  refine s1_Papers_hasPerson_0 (by omega) ?_
  refine ⟨a_bl01, _, rfl, rfl, ?_⟩
  by_cases h : 0 ≤ k ∧ k ≤ 9
  · exact Or.inl ⟨a_bl1.mpr h, h⟩
  · exact Or.inr ⟨a_bl0.mpr h, h⟩
theorem srt_cg {d d' : Int → Int} : ∀ n : Nat, (∀ i : Int, 0 ≤ i → i < n → d i = d' i) → srt d n = srt d' n
  | 0, _ => rfl
  | n + 1, h => by
    have ih := srt_cg n (fun i a b => h i a (by omega))
    unfold srt
    rw [ih]
    unfold ins
    have e1 : (srt d' n).filter (fun y => decide (d y ≤ d n)) = (srt d' n).filter (fun y => decide (d' y ≤ d' n)) := List.filter_congr (fun a ha => by
      have := (srt_mem n a).mp ha
      rw [h a this.1 (by omega), h n (by omega) (by omega)])
    have e2 : (srt d' n).filter (fun y => decide (d n < d y)) = (srt d' n).filter (fun y => decide (d' n < d' y)) := List.filter_congr (fun a ha => by
      have := (srt_mem n a).mp ha
      rw [h a this.1 (by omega), h n (by omega) (by omega)])
    rw [e1, e2]
theorem s1_pa_shift {M : AM} {d : Nat} {x t : Int} {dd : Int → Int} {L : List Int} (hd : 4 ≤ d) (hx : 0 ≤ x ∧ x < 150) (h8 : M 8 = dd) (ht : dd x = t) (hs : Srt dd L) (hm : ∀ i ∈ L, 0 ≤ i ∧ i < x) (hsz : M 6 7 = x) (hlen : (L.length : Int) = x) :
    ∀ (n : Nat) (A B : List Int) (M1 : AM), A.length = n → L = A ++ B → (∀ b ∈ B, dd x < dd b) → fr (wr [14] []) M M1 → hole (M1 14) A B →
    aE s1_G d 30 119 [] [some (aP 6), none, some (aI t), none, none, none, none, none, some (aI x), some (aI n)] [] M1 (fun r M' => ∃ z, r = some (aI z) ∧ z = x ∧ fr (wr [14] [(6, 7), (6, 9)]) M M' ∧ isL (M' 14) (ins dd x L) ∧ M' 6 7 = x + 1 ∧ M' 6 9 = -1)
  | 0, A, B, M1, hn, hAB, hB, hf, hh => by
    have hA : A = [] := List.length_eq_zero_iff.mp hn
    subst hA
    refine s1_Papers_add_119 (by omega) ?_
    simp (decide := true) only [x_uc]
    have e7 : M1 6 7 = x := (hf 6 7 rfl).trans hsz
    rw [e7, x_add (a := x) (by omega)]
    (repeat' (with_reducible first | refine And.intro ?_ ?_ | intro _))
    all_goals (try first | with_reducible rfl | with_reducible exact True.intro | with_reducible exact Or.inl True.intro | with_reducible exact Or.inr True.intro | omega | (exfalso; with_reducible assumption))
    refine ⟨_, rfl, rfl, fr_up (fr_up (fr_up (fr_mo hf rfl) rfl) rfl) rfl, ?_, ?_, x_us⟩
    · simp (decide := true) only [x_uk, x_uu]
      rw [hAB, ins_split (A := []) (B := B) (fun a h => by cases h) hB]
      exact hole_end hh rfl
    · rw [x_uf (by decide), x_us]
  | n + 1, A, B, M1, hn, hAB, hB, hf, hh => by
    obtain ⟨A', y, rfl⟩ : ∃ A' y, A = A' ++ [y] := by
      rcases List.eq_nil_or_concat A with rfl | ⟨A', y, rfl⟩
      · cases hn
      · exact ⟨A', y, by simp⟩
    have hA' : A'.length = n := by simpa using hn
    have hy : M1 14 n = y := by rw [← hA']; exact hole_top hh
    have hyr := hm y (by rw [hAB]; simp)
    have hlen2 : L.length = n + 1 + B.length := by rw [hAB]; simp; omega
    have e8 : M1 8 = dd := by rw [← h8]; funext i; exact hf 8 i rfl
    refine s1_Papers_add_119 (by omega) ?_
    simp (decide := true) only [x_uc]
    have e7 : M1 6 7 = x := (hf 6 7 rfl).trans hsz
    rw [e7, x_add (a := x) (by omega), x_sub (by omega), show ((n + 1 : Nat) : Int) - 1 = n by omega, hy, e8]
    rw [x_add (a := ((n + 1 : Nat) : Int)) (by omega), show ((n + 1 : Nat) : Int) + -1 = n by omega]
    (repeat' (with_reducible first | refine And.intro ?_ ?_ | intro _))
    all_goals (try first | with_reducible rfl | with_reducible exact True.intro | with_reducible exact Or.inl True.intro | with_reducible exact Or.inr True.intro | omega | (exfalso; with_reducible assumption))
    · refine ⟨_, rfl, rfl, fr_up (fr_up (fr_up (fr_mo hf rfl) rfl) rfl) rfl, ?_, ?_, x_us⟩
      · simp (decide := true) only [x_uk, x_uu]
        rw [hAB, ins_split (fun a ha => srt_last (by rw [hAB] at hs; exact (List.pairwise_append.mp hs).1) (by omega) a ha) hB]
        exact hole_end hh (by simp; omega)
      · rw [x_uf (by decide), x_us]
    · refine s1_pa_shift hd hx h8 ht hs hm hsz hlen n A' (y :: B) _ hA' (by rw [hAB]; simp) (fun b hb => ?_) (fr_up hf rfl) ?_
      · rcases List.mem_cons.mp hb with rfl | hb
        · omega
        · exact hB b hb
      · rw [x_uu]
        exact hole_step hh (by omega)
abbrev wdP : Nat → Int → Bool := wr [5, 6, 7, 8, 9, 10, 11] [(0, 7)]
abbrev wmP : Nat → Int → Bool := wr [7, 8, 9, 10, 11, 12, 13, 14] [(6, 7), (6, 9), (37, 11)]
theorem padd_fr {D : AM} {n now k t l p q v : Int} : fr wdP D (padd D n now k t l p q v) := fr_up (fr_up (fr_up (fr_up (fr_up (fr_up (fr_up (fr_up fr_rf rfl) rfl) rfl) rfl) rfl) rfl) rfl) rfl
theorem pad1_fr {M : AM} {n now k t l p q v : Int} : fr (wr [7, 8, 9, 10, 11, 12, 13] []) M (pad1 M n now k t l p q v) := fr_up (fr_up (fr_up (fr_up (fr_up (fr_up (fr_up fr_rf rfl) rfl) rfl) rfl) rfl) rfl) rfl
theorem B1_padd {D M M' : AM} {k t l p q v : Int} (hI : Inv D) (hB : B1 D M) (g : fr wmP M M') (hn : D 0 7 < 150)
    (e : pad1 M (D 0 7) (D 0 0) k t l p q v 7 = M' 7 ∧ pad1 M (D 0 7) (D 0 0) k t l p q v 8 = M' 8 ∧ pad1 M (D 0 7) (D 0 0) k t l p q v 9 = M' 9 ∧ pad1 M (D 0 7) (D 0 0) k t l p q v 10 = M' 10 ∧ pad1 M (D 0 7) (D 0 0) k t l p q v 11 = M' 11 ∧ pad1 M (D 0 7) (D 0 0) k t l p q v 12 = M' 12 ∧ pad1 M (D 0 7) (D 0 0) k t l p q v 13 = M' 13)
    (hb : isL (M' 14) (ins (up1 (D 6) (D 0 7) t) (D 0 7) (srt (D 6) (D 0 7).toNat))) (h7 : M' 6 7 = D 0 7 + 1) (h9 : M' 6 9 = -1) : B1 (padd D (D 0 7) (D 0 0) k t l p q v) M' := by
  have hp := Inv_pn hI
  refine ⟨?_, G1_fw (B1_G hB) padd_fr g rfl, ?_, C1_fw (B1_C hB) padd_fr g rfl, R1_fw (B1_R hB) padd_fr g rfl, S1_fw (B1_S hB) padd_fr g rfl, F1_fw (B1_F hB) padd_fr g rfl, E1_fw (B1_E hB) padd_fr g rfl⟩
  · rw [g 0 10 rfl, padd_fr 0 0 rfl]; exact B1_now hB
  · obtain ⟨e7, e8, e9, e10, e11, e12, e13⟩ := e
    unfold P1
    rw [← e7, ← e8, ← e9, ← e10, ← e11, ← e12, ← e13, h7, h9]
    unfold padd pad1
    simp (decide := true) only [x_uc, x_us, x_uf, x_uk, x_uu, up1_s, up1_n, B1_pk hB, B1_pd hB, B1_pt hB, B1_pl hB, B1_pp hB, B1_pq hB, B1_pv hB]
    refine ⟨trivial, trivial, trivial, trivial, trivial, trivial, trivial, trivial, ?_, Or.inl rfl⟩
    rw [show (D 0 7 + 1).toNat = (D 0 7).toNat + 1 by omega]
    unfold srt
    rw [srt_cg (d := up1 (D 6) (D 0 7) t) (d' := D 6) (D 0 7).toNat (fun i a b => up1_n (by omega)), show (((D 0 7).toNat : Nat) : Int) = D 0 7 by omega]
    exact hb
theorem s1_Papers_add {D M M0 : AM} {k t l p q v : Int} (hI : Inv D) (hB : B1 D M0) (h0 : fr (wr [] [(37, 11)]) M0 M) (hn : D 0 7 < 150) : aCi s1_G 5 30 [aP 6, aI k, aI t, aI (D 0 0), aI l, aI p, aI q, aI v] M (fun z M' => z = D 0 7 ∧ fr wmP M0 M' ∧ B1 (padd D (D 0 7) (D 0 0) k t (if hLP k then l else -1) (if 0 ≤ k ∧ k ≤ 9 then p else -1) (if hQP k then q else -1) (if hVP k then v else -1)) M' ∧ M' 37 11 = M 37 11) := by
  refine ⟨Nat.le_of_ble_eq_true rfl, fun d hd => ?_⟩
  have hp := Inv_pn hI
  refine s1_Papers_add_0 (by omega) ?_
  have e67 : M 6 7 = D 0 7 := (h0 6 7 rfl).trans (B1_pn hB)
  have e14 : M 14 = M0 14 := funext fun i => h0 14 i rfl
  have e8 : M 8 = D 6 := by rw [← B1_pd hB]; exact funext fun i => h0 8 i rfl
  rw [e67]
  have hr : 0 ≤ D 0 7 ∧ D 0 7 < 150 := ⟨hp.1, hn⟩
  have key : ∀ (L P Q V : Int), aE s1_G d 30 119 [] [some (aP 6), none, some (aI t), none, none, none, none, none, some (aI (D 0 7)), some (aI (D 0 7))] [] (pad1 M (D 0 7) (D 0 0) k t L P Q V) (fun r M' => ∃ z, r = some (aI z) ∧ z = D 0 7 ∧ fr wmP M0 M' ∧ B1 (padd D (D 0 7) (D 0 0) k t L P Q V) M' ∧ M' 37 11 = M 37 11) := by
    intro L P Q V
    have hlen : ((srt (D 6) (D 0 7).toNat).length : Int) = D 0 7 := by rw [srt_len]; omega
    have g1 : fr (wr [7, 8, 9, 10, 11, 12, 13] []) M (pad1 M (D 0 7) (D 0 0) k t L P Q V) := pad1_fr
    have hsh : hole ((pad1 M (D 0 7) (D 0 0) k t L P Q V) 14) (srt (D 6) (D 0 7).toNat) [] := by
      have e : (pad1 M (D 0 7) (D 0 0) k t L P Q V) 14 = M0 14 := by rw [← e14]; exact funext fun i => g1 14 i rfl
      rw [e]
      exact hole_init (B1_by hB)
    have hsrt : Srt (up1 (D 6) (D 0 7) t) (srt (D 6) (D 0 7).toNat) := by
      rw [srt_cg (d := D 6) (d' := up1 (D 6) (D 0 7) t) (D 0 7).toNat (fun i a b => (up1_n (by omega)).symm)]
      exact srt_sorted _
    have h := s1_pa_shift (M := pad1 M (D 0 7) (D 0 0) k t L P Q V) (d := d) (x := D 0 7) (t := t) (dd := up1 (D 6) (D 0 7) t) (L := srt (D 6) (D 0 7).toNat) (by omega) hr (by unfold pad1; simp (decide := true) only [x_uk, x_uu]; rw [e8]) up1_s hsrt (fun i hi => by have := (srt_mem _ i).mp hi; omega) (by rw [g1 6 7 rfl]; exact e67) hlen (srt (D 6) (D 0 7).toNat).length (srt (D 6) (D 0 7).toNat) [] _ rfl (by simp) (fun b hb => by cases hb) fr_rf hsh
    rw [hlen] at h
    refine aE_mono _ _ _ _ _ _ _ _ _ (fun r M' qq => ?_) h
    obtain ⟨z, q1, q2, q3, q4, q5, q6⟩ := qq
    have g : fr wmP M0 M' := fr_tr (fr_mo h0 rfl) (fr_tr (fr_mo g1 rfl) (fr_mo q3 rfl))
    refine ⟨z, q1, q2, g, B1_padd hI hB g hn ?_ q4 q5 q6, by rw [q3 37 11 rfl, g1 37 11 rfl]⟩
    have ee : ∀ c, c = 7 ∨ c = 8 ∨ c = 9 ∨ c = 10 ∨ c = 11 ∨ c = 12 ∨ c = 13 → pad1 M0 (D 0 7) (D 0 0) k t L P Q V c = M' c := by
      intro c hc
      have e1 : M c = M0 c := by rcases hc with rfl | rfl | rfl | rfl | rfl | rfl | rfl <;> exact funext fun i => h0 _ i rfl
      have e2 : pad1 M (D 0 7) (D 0 0) k t L P Q V c = pad1 M0 (D 0 7) (D 0 0) k t L P Q V c := by
        rcases hc with rfl | rfl | rfl | rfl | rfl | rfl | rfl <;> (unfold pad1; simp (decide := true) only [x_uk, x_uu]; rw [e1])
      rw [← e2]
      rcases hc with rfl | rfl | rfl | rfl | rfl | rfl | rfl <;> exact (funext fun i => q3 _ i rfl).symm
    exact ⟨ee 7 (by simp), ee 8 (by simp), ee 9 (by simp), ee 10 (by simp), ee 11 (by simp), ee 12 (by simp), ee 13 (by simp)⟩
  refine ⟨hr, hr, hr, ?_⟩
  refine aKi_of s1_Papers_hasLiving (by omega) (fun z M1 qq => ?_)
  obtain ⟨rfl, ⟨rfl, qL⟩ | ⟨rfl, qL⟩⟩ := qq
  all_goals
    first | rw [if_pos qL] | rw [if_neg qL]
    first | refine ⟨fun h => absurd h (by decide), fun _ => ⟨hr, ?_⟩⟩ | refine ⟨fun _ => ⟨hr, ?_⟩, fun h => absurd rfl h⟩
    refine aKi_of s1_Papers_hasPerson (by omega) (fun z M1 qq => ?_)
    obtain ⟨rfl, ⟨rfl, qP⟩ | ⟨rfl, qP⟩⟩ := qq
  all_goals
    first | rw [if_pos qP] | rw [if_neg qP]
    first | refine ⟨fun h => absurd h (by decide), fun _ => ⟨hr, ?_⟩⟩ | refine ⟨fun _ => ⟨hr, ?_⟩, fun h => absurd rfl h⟩
    refine aKi_of s1_Papers_hasOther (by omega) (fun z M1 qq => ?_)
    obtain ⟨rfl, ⟨rfl, qQ⟩ | ⟨rfl, qQ⟩⟩ := qq
  all_goals
    first | rw [if_pos qQ] | rw [if_neg qQ]
    first | refine ⟨fun h => absurd h (by decide), fun _ => ⟨hr, ?_⟩⟩ | refine ⟨fun _ => ⟨hr, ?_⟩, fun h => absurd rfl h⟩
    refine ⟨fun h => ⟨hr, ?_⟩, fun h => ⟨fun g => ⟨hr, ?_⟩, fun g => ⟨hr, ?_⟩⟩⟩
    · rw [if_pos (show hVP k from Or.inl h)]; exact key _ _ _ _
    · rw [if_neg (show ¬ hVP k by omega)]; exact key _ _ _ _
    · rw [if_pos (show hVP k from Or.inr g)]; exact key _ _ _ _
