/-! THE STORY in the first system: bars, patrons, lapses -/
def T1 (D : AM) (w : Int) (s : Sg) (M : AM) : Prop := B1 D M ∧ M 6 9 = w ∧ Q1 D s M
theorem T1_q {D M M' : AM} {w : Int} {s : Sg} (h : T1 D w s M) (g : fr wQ M M') (hB' : B1 D M') : T1 D w s M' := ⟨hB', (g 6 9 rfl).trans h.2.1, Q1_fw h.2.2 g rfl⟩
theorem T1_c {D M M' : AM} {w : Int} {s : Sg} (h : T1 D w s M) (g : fr wC M M') (hB' : B1 D M') : T1 D w s M' := T1_q h (fr_mo g rfl) hB'
theorem SI_out {D : AM} {i : Int} {s : Sg} (h : SI D i s) : ∀ m, D 0 3 ≤ m → s.h m = [] := fun m hm => by
  match e : s.h m with
  | [] => rfl
  | (p, c) :: r => have := (SI_hp h m p c (by rw [e]; simp)).1; omega
theorem cmpv_cg {F G : Int → Int} {v : Int} (h : F (v / 30000) = G (v / 30000)) : cmpv F v = cmpv G v := by unfold cmpv; rw [h]
theorem evL_cg {g g' : Int → Bool} : ∀ (l : List Int) (st : List Bool), (∀ v ∈ l, v = -3 ∨ v = -1 ∨ v = -2 ∨ ((0 ≤ v ∧ v < 180000) ∧ g v = g' v)) → evL g st l = evL g' st l
  | [], _, _ => rfl
  | v :: l, st, h => by
    have e : evC g st v = evC g' st v := by
      rcases h v (by simp) with q | q | q | ⟨q, q2⟩
      · subst q; rfl
      · subst q; rfl
      · subst q; rfl
      · rw [evC_c q.1, evC_c q.1, q2]
    show evL g (evC g st v) l = evL g' (evC g' st v) l
    rw [e]
    exact evL_cg l _ (fun x hx => h x (by simp [hx]))
theorem tOk_codes {l : List Int} (h : tOk l) : ∀ v ∈ l, v = -3 ∨ v = -1 ∨ v = -2 ∨ (0 ≤ v ∧ v < 180000) := by
  intro v hv
  obtain ⟨pre, suf, e⟩ := List.append_of_mem hv
  subst e
  exact (tOk_at (fun _ => false) h).2.1
theorem metS_cg {D : AM} {j a b : Int} {g g' : Int → Bool} (ht : tOk (tstD D j a b)) (h : ∀ v, 0 ≤ v → v < 180000 → g v = g' v) : metS D j a b g = metS D j a b g' := by
  unfold metS
  rw [evL_cg (g := g) (g' := g') _ _ (fun v hv => by
    rcases tOk_codes ht v hv with q | q | q | q
    · exact Or.inl q
    · exact Or.inr (Or.inl q)
    · exact Or.inr (Or.inr (Or.inl q))
    · exact Or.inr (Or.inr (Or.inr ⟨q, h v q.1 q.2⟩)))]
theorem brC_cg {D : AM} {j c : Int} {g g' : Int → Bool} (hc : clOk D j c) (h : ∀ v, 0 ≤ v → v < 180000 → g v = g' v) : brC D g j c = brC D g' j c := by
  unfold brC
  by_cases hk : D 16 c = 1
  · unfold clOk at hc
    rcases hc with ⟨a, _⟩ | ⟨a, _⟩ | ⟨_, r, t1, t2⟩
    · omega
    · omega
    · rw [metS_cg (g := g) (g' := g') t1 h]
      by_cases e : D 21 c = D 20 c
      · simp [e]
      · rw [metS_cg (g := g) (g' := g') (t2 (by omega)) h]
  · rw [show decide (D 16 c = 1) = false by simpa using hk]
    rfl
theorem brF_cg {D : AM} {j : Int} {g g' : Int → Bool} (hI : Inv D) (hj : 0 ≤ j ∧ j < D 0 18) (h : ∀ v, 0 ≤ v → v < 180000 → g v = g' v) : ∀ (m n : Nat), (n : Int) + m ≤ D 15 j → brF D g j n m = brF D g' j n m
  | 0, _, _ => rfl
  | m + 1, n, hm => by
    unfold brF
    rw [brC_cg (g := g) (g' := g') (Inv_cc hI j hj.1 hj.2 n (by omega) (by omega)) h, brF_cg hI hj h m (n + 1) (by omega)]
theorem brL_cg {D : AM} {g g' : Int → Bool} (hI : Inv D) (h : ∀ v, 0 ≤ v → v < 180000 → g v = g' v) : ∀ l : List Int, (∀ j ∈ l, 0 ≤ j ∧ j < D 0 18) → brL D g l = brL D g' l
  | [], _ => rfl
  | j :: l, hm => by
    have hj := hm j (by simp)
    have hl := Inv_cl hI j hj.1 hj.2
    unfold brL
    rw [brF_cg (g := g) (g' := g') hI hj h (D 15 j).toNat 0 (by omega), brL_cg hI h l (fun i hi => hm i (by simp [hi]))]
theorem s1_bo_loop {D M : AM} {w : Int} {s : Sg} {d : Nat} {p l day i : Int} (hd : 8 ≤ d) (hI : Inv D) (hS : SI D i s) (hw0 : 0 ≤ w) (hp : 0 ≤ p ∧ p < D 0 1) (hl : 0 ≤ l ∧ l < D 0 3) (hday : 0 ≤ day ∧ day ≤ 30000) :
    ∀ (m k : Nat) (M1 : AM), (k : Int) + m = D 0 3 → fr wQ M M1 → T1 D w s M1 → M1 55 0 = factS D (bk D w) s p l day 0 → M1 55 1 = factS D (bk D w) s p l day 1 → M1 55 2 = mnyN s p l k → M1 55 3 = farN D s p l k →
      aE s1_G d 82 101 [] [some (aP 37), some (aI p), some (aI l), some (aI day), none, none, some (aI k)] [] M1 (fun r M' => ∃ z, r = some (aI z) ∧ fr wQ M M' ∧ B1 D M' ∧ z = barS D (bk D w) s p l day)
  | 0, k, M1, hm, hf, hT, f0, f1, f2, f3 => by
    have hnp := Inv_np hI
    have hnl := Inv_nl hI
    obtain ⟨hB, hw, hQ⟩ := id hT
    obtain ⟨-, -, hg⟩ := B1_page hB hw hw0
    have hso := SI_out hS
    refine s1_Story_barOf_101 (by omega) ?_
    rw [B1_nl hB, B1_wo hB]
    refine ⟨fun _ => ⟨by omega, by omega, ?_⟩, fun h => absurd h (by omega)⟩
    refine aKi_of (s1_Papers_hadBy (l := bk D w) (k := 5) hI (M := am_up M1 55 4 (D 4 l)) (by rw [x_uk (by decide)]; exact hg) (by omega) (by omega)) (by omega) (fun z M2 q => ?_)
    obtain ⟨rfl, rfl⟩ := q
    rw [a_bl_bI]
    refine ⟨by omega, ?_⟩
    have g1 : fr (wr [55] []) M1 (am_up (am_up M1 55 4 (D 4 l)) 55 5 (bI (hadB D (bk D w) 5 p day))) := fr_up (fr_up fr_rf rfl) rfl
    have hB2 := B1_f55 hB g1
    refine aKi_of (s1_Canons_firstBar hI hB2 hday.1 rfl) (by omega) (fun z M3 q => ?_)
    obtain ⟨q1, q2, q3⟩ := q
    refine ⟨z, rfl, fr_tr hf (fr_tr (fr_mo g1 rfl) (fr_mo q1 rfl)), q2, ?_⟩
    rw [q3]
    unfold barS
    have e3 : mnyN s p l 12 = mnyN s p l k := by
      have := mnyN_out (n := k) (fun m hm => hso m (by omega)) p l (12 - k)
      rw [show k + (12 - k) = 12 by omega] at this
      exact this
    have e4 : farN D s p l 12 = farN D s p l k := by
      have := farN_out (D := D) (n := k) (fun m hm => hso m (by omega)) p l (12 - k)
      rw [show k + (12 - k) = 12 by omega] at this
      exact this
    have ef : ∀ f, 0 ≤ f → f < 6 → (am_up (am_up M1 55 4 (D 4 l)) 55 5 (bI (hadB D (bk D w) 5 p day))) 55 f = factS D (bk D w) s p l day f := by
      intro f a b
      have hc : f = 0 ∨ f = 1 ∨ f = 2 ∨ f = 3 ∨ f = 4 ∨ f = 5 := by omega
      rcases hc with rfl | rfl | rfl | rfl | rfl | rfl
      · rw [x_uf (by decide), x_uf (by decide), f0]
      · rw [x_uf (by decide), x_uf (by decide), f1]
      · rw [x_uf (by decide), x_uf (by decide), f2, ← e3]; rfl
      · rw [x_uf (by decide), x_uf (by decide), f3, ← e4]; rfl
      · rw [x_uf (by decide), x_us]; rfl
      · rw [x_us]; rfl
    exact brL_cg hI (fun v v0 v1 => cmpv_cg (ef _ (by omega) (by omega))) _ (fun j hj => (cord_mem hj).1)
  | m + 1, k, M1, hm, hf, hT, f0, f1, f2, f3 => by
    have hnp := Inv_np hI
    have hnl := Inv_nl hI
    obtain ⟨hB, hw, hQ⟩ := id hT
    have hmr := mnyN_rg s p l k
    have ih := s1_bo_loop (M := M) hd hI hS hw0 hp hl hday m (k + 1)
    refine s1_Story_barOf_101 (by omega) ?_
    rw [B1_nl hB, x_add (a := (k : Int)) (by omega), show (k : Int) + 1 = ((k + 1 : Nat) : Int) by omega]
    have en : ¬ ((k : Int) ≠ l ∧ hasH (s.h k) p = true) → mnyN s p l (k + 1) = mnyN s p l k ∧ farN D s p l (k + 1) = farN D s p l k := by
      intro h
      constructor
      · show mnyN s p l k + _ = _
        rw [if_neg h]; omega
      · show (if _ then _ else _) = _
        rw [if_neg h]
    refine ⟨fun h => absurd h (by omega), fun _ => ⟨fun e => ?_, fun e => ?_⟩⟩
    · obtain ⟨e1, e2⟩ := en (fun q => q.1 e)
      rw [e1, e2] at ih
      exact ih M1 (by omega) hf hT f0 f1 f2 f3
    · refine aKi_of (s1_Story_isHolder hQ (by omega) (by omega)) (by omega) (fun z M2 q => ?_)
      obtain ⟨rfl, rfl⟩ := q
      cases eh : hasH (s.h k) p
      · obtain ⟨e1, e2⟩ := en (fun q => by rw [eh] at q; cases q.2)
        rw [e1, e2] at ih
        exact ⟨fun _ => ih M2 (by omega) hf hT f0 f1 f2 f3, fun h => absurd rfl h⟩
      · refine ⟨fun h => absurd h (by decide), fun _ => ⟨by omega, by omega, by omega, ?_⟩⟩
        have e1 : mnyN s p l (k + 1) = mnyN s p l k + 1 := by
          show mnyN s p l k + _ = _
          rw [if_pos ⟨e, eh⟩]
        have e2 : farN D s p l (k + 1) = max (farN D s p l k) (mlsD D k l) := by
          show (if _ then _ else _) = _
          rw [if_pos ⟨e, eh⟩]
        rw [e1, e2] at ih
        rw [f2, x_add (by omega)]
        have g1 : fr (wr [55] []) M2 (am_up M2 55 2 (mnyN s p l k + 1)) := fr_up fr_rf rfl
        refine aKi_of (s1_Register_milesBetween (a := (k : Int)) (b := l) hI (B1_f55 hB g1) (by omega) (by omega)) (by omega) (fun z M3 q => ?_)
        obtain ⟨rfl, rfl⟩ := q
        refine ⟨by omega, ?_⟩
        simp (decide := true) only [x_uf]
        rw [f3]
        have g2 : fr (wr [55] []) M2 (am_up (am_up M2 55 2 (mnyN s p l k + 1)) 55 3 (if mlsD D k l ≤ farN D s p l k then farN D s p l k else mlsD D k l)) := fr_up g1 rfl
        refine ih _ (by omega) (fr_tr hf (fr_mo g2 rfl)) (T1_q hT (fr_mo g2 rfl) (B1_f55 hB g2)) ?_ ?_ ?_ ?_
        · rw [x_uf (by decide), x_uf (by decide)]; exact f0
        · rw [x_uf (by decide), x_uf (by decide)]; exact f1
        · rw [x_uf (by decide), x_us]
        · rw [x_us]
          split <;> omega
theorem dayOn_had {D : AM} {l : List Int} {k p t : Int} : hadB D l k p t = true ↔ 0 ≤ dayOn D l k p ∧ dayOn D l k p ≤ t := by unfold hadB; simp
theorem s1_Story_barOf {D M : AM} {w : Int} {s : Sg} {p l day i : Int} (hI : Inv D) (hS : SI D i s) (hw0 : 0 ≤ w) (hT : T1 D w s M) (hp : 0 ≤ p ∧ p < D 0 1) (hl : 0 ≤ l ∧ l < D 0 3) (hday : 0 ≤ day ∧ day ≤ 30000) : aCi s1_G 8 82 [aP 37, aI p, aI l, aI day] M (fun z M' => fr wQ M M' ∧ B1 D M' ∧ z = barS D (bk D w) s p l day) := by
  refine ⟨Nat.le_of_ble_eq_true rfl, fun d hd => ?_⟩
  refine s1_Story_barOf_0 (by omega) ?_
  have hnp := Inv_np hI
  have hnl := Inv_nl hI
  obtain ⟨hB, hw, hQ⟩ := id hT
  obtain ⟨-, -, hg⟩ := B1_page hB hw hw0
  have d0 := hg 0 p (by omega) (by omega) (by omega) (by omega)
  have d2 := hg 2 p (by omega) (by omega) (by omega) (by omega)
  rw [d0, d2]
  have r0 := dayOn_rg hI (bk D w) 0 p
  have r2 := dayOn_rg hI (bk D w) 2 p
  rw [x_sub (by omega), x_sub (by omega)]
  refine ⟨by omega, by omega, by omega, by omega, ?_⟩
  have fin : ∀ (A B : Int), A = factS D (bk D w) s p l day 0 → B = factS D (bk D w) s p l day 1 → aE s1_G d 82 101 [] [some (aP 37), some (aI p), some (aI l), some (aI day), none, none, some (aI 0)] [] (am_up (am_up (am_up (am_up M 55 0 A) 55 1 B) 55 2 0) 55 3 0) (fun r M' => ∃ z, r = some (aI z) ∧ fr wQ M M' ∧ B1 D M' ∧ z = barS D (bk D w) s p l day) := by
    intro A B hA hB'
    have g : fr (wr [55] []) M (am_up (am_up (am_up (am_up M 55 0 A) 55 1 B) 55 2 0) 55 3 0) := fr_up (fr_up (fr_up (fr_up fr_rf rfl) rfl) rfl) rfl
    refine s1_bo_loop (d := d) hd hI hS hw0 hp hl hday (D 0 3).toNat 0 _ (by omega) (fr_mo g rfl) (T1_q hT (fr_mo g rfl) (B1_f55 hB g)) ?_ ?_ ?_ ?_
    · simp (decide := true) only [x_uf, x_us]; exact hA
    · simp (decide := true) only [x_uf, x_us]; exact hB'
    · simp (decide := true) only [x_uf, x_us]; rfl
    · simp (decide := true) only [x_uf, x_us]; rfl
  have second : ∀ (A : Int), A = factS D (bk D w) s p l day 0 → aKi s1_G d 33 [aP 6, aI 2, aI p, aI day] (am_up M 55 0 A) (fun z4 M3 => (z4 = 0 → (0 ≤ (1 : Int) ∧ (1 : Int) < 6) ∧ ((0 ≤ (2 : Int) ∧ (2 : Int) < 6) ∧ ((0 ≤ (3 : Int) ∧ (3 : Int) < 6) ∧ (aE s1_G d 82 101 [] [some (aP 37), some (aI p), some (aI l), some (aI day), none, none, some (aI 0)] [] (am_up (am_up (am_up M3 55 1 (-1)) 55 2 0) 55 3 0) (fun r M' => ∃ z, r = some (aI z) ∧ fr wQ M M' ∧ B1 D M' ∧ z = barS D (bk D w) s p l day))))) ∧ (z4 ≠ 0 → (0 ≤ (1 : Int) ∧ (1 : Int) < 6) ∧ ((0 ≤ (2 : Int) ∧ (2 : Int) < 6) ∧ ((0 ≤ (3 : Int) ∧ (3 : Int) < 6) ∧ (aE s1_G d 82 101 [] [some (aP 37), some (aI p), some (aI l), some (aI day), none, none, some (aI 0)] [] (am_up (am_up (am_up M3 55 1 (day - dayOn D (bk D w) 2 p)) 55 2 0) 55 3 0) (fun r M' => ∃ z, r = some (aI z) ∧ fr wQ M M' ∧ B1 D M' ∧ z = barS D (bk D w) s p l day)))))) := by
    intro A hA
    refine aKi_of (s1_Papers_hadBy (l := bk D w) (k := 2) hI (M := am_up M 55 0 A) (by rw [x_uk (by decide)]; exact hg) (by omega) (by omega)) (by omega) (fun z M2 q => ?_)
    obtain ⟨rfl, rfl⟩ := q
    cases eh : hadB D (bk D w) 2 p day
    · refine ⟨fun _ => ⟨by omega, by omega, by omega, fin _ _ hA ?_⟩, fun h => absurd rfl h⟩
      show _ = (if hadB D (bk D w) 2 p day = true then _ else _)
      rw [eh]
      rfl
    · refine ⟨fun h => absurd h (by decide), fun _ => ⟨by omega, by omega, by omega, fin _ _ hA ?_⟩⟩
      show _ = (if hadB D (bk D w) 2 p day = true then _ else _)
      rw [eh]
      rfl
  refine aKi_of (s1_Papers_hadBy (l := bk D w) (k := 0) hI hg (by omega) (by omega)) (by omega) (fun z M2 q => ?_)
  obtain ⟨rfl, rfl⟩ := q
  cases eh : hadB D (bk D w) 0 p day
  · refine ⟨fun _ => ⟨by omega, second _ ?_⟩, fun h => absurd rfl h⟩
    show _ = (if hadB D (bk D w) 0 p day = true then _ else _)
    rw [eh]
    rfl
  · refine ⟨fun h => absurd h (by decide), fun _ => ⟨by decide, by omega, ?_⟩⟩
    have hh := dayOn_had.mp eh
    rw [x_div (by omega) (by omega) (by omega) (by omega)]
    refine second _ ?_
    show _ = (if hadB D (bk D w) 0 p day = true then _ else _)
    rw [eh]
    rfl
theorem s1_Rights_turnOf {D M : AM} {s : Sg} {l : Int} (hQ : Q1 D s M) (hl : 0 ≤ l ∧ l < 12) : aCi s1_G 4 62 [aP 56, aI l] M (fun z M' => M' = M ∧ z = turnS s l) := by
  refine ⟨Nat.le_of_ble_eq_true rfl, fun d hd => ?_⟩
  refine s1_Rights_turnOf_0 (by omega) ?_
  rw [Q1_tn hQ l hl.1 hl.2, Q1_ra hQ l hl.1 hl.2, Q1_rb hQ l hl.1 hl.2]
  unfold turnS
  refine ⟨hl, fun h => ⟨hl, _, rfl, rfl, by rw [if_pos h]⟩, fun h => ⟨hl, _, rfl, rfl, by rw [if_neg h]⟩⟩
theorem sldF_at {D : AM} {l p : Int} : ∀ (r : List (Int × Int)) (i k : Nat) (n : Int), sldF D l p r i = some (k, n) → i ≤ k ∧ ∃ h : k - i < r.length, r[k - i].1 = n ∧ D 8 n = l ∧ D 9 n = p ∧ r[k - i].2 = 0
  | [], i, k, n, h => by cases h
  | e :: r, i, k, n, h => by
    unfold sldF at h
    split at h
    next hc =>
      cases h
      refine ⟨Nat.le_refl _, ?_⟩
      simp only [Nat.sub_self]
      exact ⟨by simp, rfl, hc⟩
    · obtain ⟨h1, h2, h3⟩ := sldF_at r (i + 1) k n h
      refine ⟨by omega, ?_⟩
      obtain ⟨m, hm⟩ : ∃ m, k - i = m + 1 := ⟨k - i - 1, by omega⟩
      have hm2 : k - (i + 1) = m := by omega
      simp only [hm2] at h2 h3
      simp only [hm]
      exact ⟨by simp; omega, by simpa using h3⟩
theorem s1_Rights_firstSold {D M : AM} {s : Sg} {l p i : Int} (hI : Inv D) (hP : PB D M) (hQ : Q1 D s M) (hS : SI D i s) (hi : i ≤ 150) : aCi s1_G 4 64 [aP 56, aI l, aI p] M (fun z M' => M' = M ∧ z = match sldF D l p s.so 0 with | some (k, _) => (k : Int) | none => -1) := by
  refine ⟨Nat.le_of_ble_eq_true rfl, fun d hd => ?_⟩
  refine s1_Rights_firstSold_0 (by omega) ?_
  have hn := Inv_pn hI
  have hlen := SI_so hS
  have key : ∀ (suf pre : List (Int × Int)), s.so = pre ++ suf → aE s1_G d 64 2 [] [some (aP 56), some (aI l), some (aI p), some (aI pre.length)] [] M (fun r M' => ∃ z, r = some (aI z) ∧ M' = M ∧ z = match sldF D l p suf pre.length with | some (k, _) => (k : Int) | none => -1) := by
    intro suf
    induction suf with
    | nil =>
      intro pre e
      have hl : s.so.length = pre.length := by rw [e]; simp
      refine s1_Rights_firstSold_2 (by omega) ?_
      rw [Q1_sn hQ]
      exact ⟨fun _ => ⟨_, rfl, rfl, rfl⟩, fun h => absurd h (by omega)⟩
    | cons x suf ih =>
      intro pre e
      have hl : s.so.length = pre.length + 1 + suf.length := by rw [e]; simp; omega
      have hk := Q1_so hQ pre.length (by omega)
      have ex : s.so[pre.length]'(by omega) = x := by simp [e]
      rw [ex] at hk
      have hx := SI_sv hS x (by rw [e]; simp)
      have ih := ih (pre ++ [x]) (by rw [e]; simp)
      rw [List.length_append] at ih
      refine s1_Rights_firstSold_2 (by omega) ?_
      rw [Q1_sn hQ, hk.1, hk.2, PB_pl hP, PB_pp hP, x_add (by omega)]
      unfold sldF
      refine ⟨fun h => absurd h (by omega), fun _ => ⟨by omega, by omega, fun h1 => ?_, fun h1 => ⟨by omega, by omega, fun h2 => ?_, fun h2 => ⟨by omega, fun h3 => ?_, fun h3 => ?_⟩⟩⟩⟩
      · rw [if_neg (by omega)]; exact ih
      · rw [if_neg (by omega)]; exact ih
      · rw [if_neg (by omega)]; exact ih
      · rw [if_pos ⟨h1, h2, h3⟩]; exact ⟨_, rfl, rfl, rfl⟩
  exact key s.so [] rfl
theorem heirL_rg {D : AM} (hI : Inv D) {l : List Int} (hm : ∀ i ∈ l, 0 ≤ i ∧ i < D 0 7) (p t : Int) : heirL D l p t = -1 ∨ (0 ≤ heirL D l p t ∧ heirL D l p t < D 0 1) := by
  have key : ∀ (l : List Int) (h : Int), (∀ i ∈ l, 0 ≤ i ∧ i < D 0 7) → (h = -1 ∨ (0 ≤ h ∧ h < D 0 1)) → (l.foldl (hrs D p t) h = -1 ∨ (0 ≤ l.foldl (hrs D p t) h ∧ l.foldl (hrs D p t) h < D 0 1)) := by
    intro l
    induction l with
    | nil => intro h _ hh; exact hh
    | cons a l ih =>
      intro h hm hh
      refine ih _ (fun i hi => hm i (by simp [hi])) ?_
      unfold hrs
      split
      next hc =>
        have := hm a (by simp)
        exact Or.inr (Inv_hQ hI a this.1 this.2 (Or.inl hc.1))
      · exact hh
  exact key l (-1) hm (Or.inl rfl)
theorem notL_rg {D : AM} (hI : Inv D) (l : List Int) (lv t : Int) : -1 ≤ notL D l lv t ∧ notL D l lv t ≤ 30000 := by
  unfold notL
  split
  next i _ => have := Inv_pd hI i; omega
  · omega
theorem s1_Rights_livingHeir {D M : AM} {w p day : Int} (hI : Inv D) (hB : B1 D M) (hw : M 6 9 = w) (hw0 : 0 ≤ w) (hp : 0 ≤ p ∧ p < D 0 1) : aCi s1_G 5 66 [aP 56, aI p, aI day] M (fun z M' => M' = M ∧ z = wkH D (bk D w) day 12 p) := by
  refine ⟨Nat.le_of_ble_eq_true rfl, fun d hd => ?_⟩
  refine s1_Rights_livingHeir_0 (by omega) ?_
  have hn := Inv_pn hI
  have hnp := Inv_np hI
  obtain ⟨-, hb, hg⟩ := B1_page hB hw hw0
  have hbl := bk_len (D := D) (w := w) hn.1
  have key : ∀ (m : Nat) (x p : Int), x + m = 12 → 0 ≤ x → (0 ≤ p ∧ p < D 0 1) → aE s1_G d 66 5 [] [some (aP 56), none, some (aI day), some (aI p), some (aI x)] [] M (fun r M' => ∃ z, r = some (aI z) ∧ M' = M ∧ z = wkH D (bk D w) day m p) := by
    intro m
    induction m with
    | zero =>
      intro x p hx h0 hp
      refine s1_Rights_livingHeir_5 (by omega) ?_
      refine ⟨fun _ => ?_, fun h => absurd h (by omega)⟩
      refine aKi_of (s1_Papers_hadBy (l := bk D w) (k := 1) hI hg (by omega) (by omega)) (by omega) (fun z M2 q => ?_)
      obtain ⟨rfl, rfl⟩ := q
      unfold wkH
      cases hadB D (bk D w) 1 p day
      · exact ⟨fun _ => ⟨_, rfl, rfl, rfl⟩, fun h => absurd rfl h⟩
      · exact ⟨fun h => absurd h (by decide), fun _ => ⟨_, rfl, rfl, rfl⟩⟩
    | succ m ih =>
      intro x p hx h0 hp
      refine s1_Rights_livingHeir_5 (by omega) ?_
      rw [x_add (by omega)]
      refine ⟨fun h => absurd h (by omega), fun _ => ?_⟩
      refine aKi_of (s1_Papers_hadBy (l := bk D w) (k := 1) hI hg (by omega) (by omega)) (by omega) (fun z M2 q => ?_)
      obtain ⟨rfl, rfl⟩ := q
      unfold wkH
      cases eh : hadB D (bk D w) 1 p day
      · refine ⟨fun _ => ?_, fun h => absurd rfl h⟩
        refine aKi_of (s1_Papers_hadBy (l := bk D w) (k := 1) hI hg (by omega) (by omega)) (by omega) (fun z M2 q => ?_)
        obtain ⟨rfl, rfl⟩ := q
        rw [eh]
        exact ⟨fun _ => ⟨_, rfl, rfl, rfl⟩, fun h => absurd rfl h⟩
      · refine ⟨fun h => absurd h (by decide), fun _ => ?_⟩
        refine aKi_of (s1_Papers_heirBy (p := p) (t := day) hI (PB_of hB) hb (fun i hi => bk_mem hi) (by omega)) (by omega) (fun z M2 q => ?_)
        obtain ⟨rfl, rfl⟩ := q
        have hr := heirL_rg hI (l := bk D w) (fun i hi => bk_mem hi) p day
        rw [if_pos rfl]
        refine ⟨fun h => ?_, fun h => ⟨_, rfl, rfl, by rw [if_pos h]⟩⟩
        rw [if_neg h]
        exact ih (x + 1) _ (by omega) (by omega) (by omega)
  exact key 12 0 p (by omega) (by omega) hp
theorem turnS_rg {D : AM} {i l : Int} {s : Sg} (hS : SI D i s) : (turnS s l = -1 ∨ (0 ≤ turnS s l ∧ turnS s l < D 0 1)) ∧ (turnS s l = -1 ↔ s.ra l = -1) := by
  have h1 := SI_ra hS l
  have h2 := SI_rb hS l
  have h3 := SI_tn hS l
  unfold turnS
  split <;> omega
theorem buyS_rg {D : AM} {i l : Int} {s : Sg} (hI : Inv D) (hS : SI D i s) (h : turnS s l ≠ -1) : 0 ≤ buyS D s l ∧ buyS D s l < D 0 1 := by
  unfold buyS
  split
  next k n e =>
    obtain ⟨-, hk, e1, -⟩ := sldF_at _ _ _ _ e
    have := (SI_sv hS _ (List.getElem_mem hk)).1
    rw [e1] at this
    exact Inv_hQ hI n this.1.1 this.1.2 (Or.inr (Or.inr this.2))
  · have := (turnS_rg (l := l) hS).1
    omega
theorem s1_Rights_patronOn {D M : AM} {w l day i : Int} {s : Sg} (hI : Inv D) (hS : SI D i s) (hi : i ≤ 150) (hw0 : 0 ≤ w) (hT : T1 D w s M) (hl : 0 ≤ l ∧ l < 12) : aCi s1_G 6 65 [aP 56, aI l, aI day] M (fun z M' => M' = M ∧ z = patS D (bk D w) s l day) := by
  refine ⟨Nat.le_of_ble_eq_true rfl, fun d hd => ?_⟩
  refine s1_Rights_patronOn_0 (by omega) ?_
  obtain ⟨hB, hw, hQ⟩ := hT
  have hn := Inv_pn hI
  have hso := SI_so hS
  refine aKi_of (s1_Rights_turnOf hQ hl) (by omega) (fun z M1 q => ?_)
  obtain ⟨rfl, rfl⟩ := q
  unfold patS
  refine ⟨fun h => ?_, fun h => ⟨_, rfl, rfl, by rw [if_pos h]⟩⟩
  rw [if_neg h]
  have hb := buyS_rg hI hS h
  have ht := (turnS_rg (l := l) hS).1
  refine aKi_of (s1_Rights_firstSold (l := l) (p := turnS s l) hI (PB_of hB) hQ hS hi) (by omega) (fun z M1 q => ?_)
  obtain ⟨rfl, rfl⟩ := q
  unfold buyS at hb ⊢
  match e : sldF D l (turnS s l) s.so 0 with
  | some (k, n) =>
    rw [e] at hb
    obtain ⟨-, hk, e1, -⟩ := sldF_at _ _ _ _ e
    have hk' : k < s.so.length := by simpa using hk
    have hq := (Q1_so hQ k hk').1
    simp only [Nat.sub_zero] at e1
    rw [e1] at hq
    have hv := (SI_sv hS _ (List.getElem_mem hk')).1.1
    rw [e1] at hv
    dsimp only at hb ⊢
    refine ⟨fun _ => ⟨by omega, by rw [hq]; omega, ?_⟩, fun h => absurd h (by omega)⟩
    rw [hq, B1_pq hB]
    refine aKi_of (s1_Rights_livingHeir (day := day) hI hB hw hw0 hb) (by omega) (fun z M2 q => ?_)
    obtain ⟨rfl, rfl⟩ := q
    exact ⟨_, rfl, rfl, rfl⟩
  | none =>
    dsimp only
    refine ⟨fun h => absurd rfl h, fun _ => ?_⟩
    refine aKi_of (s1_Rights_livingHeir (day := day) hI hB hw hw0 (by omega)) (by omega) (fun z M2 q => ?_)
    obtain ⟨rfl, rfl⟩ := q
    exact ⟨_, rfl, rfl, rfl⟩
theorem s1_Story_lapsedTo {D M : AM} {w l day i : Int} {s : Sg} (hI : Inv D) (hS : SI D i s) (hw0 : 0 ≤ w) (hT : T1 D w s M) (hl : 0 ≤ l ∧ l < 12) (he : 0 ≤ s.ef l) (hday : 0 ≤ day ∧ day ≤ 30000) : aCi s1_G 8 81 [aP 37, aI l, aI day] M (fun z M' => fr wC M M' ∧ B1 D M' ∧ z = lapS D (bk D w) s l day) := by
  refine ⟨Nat.le_of_ble_eq_true rfl, fun d hd => ?_⟩
  refine s1_Story_lapsedTo_0 (by omega) ?_
  obtain ⟨hB, hw, hQ⟩ := id hT
  have hn := Inv_pn hI
  have hef := SI_ef hS l
  have hbl := bk_len (D := D) (w := w) hn.1
  rw [Q1_ef hQ l hl.1 hl.2]
  refine ⟨hl, ?_⟩
  refine aKi_of (s1_Canons_numberOn (name := 0) hI hB he (by omega)) (by omega) (fun z M1 q => ?_)
  obtain ⟨q1, q2, q3, q4⟩ := q
  have hT1 := T1_c hT q1 q2
  obtain ⟨-, hw1, hQ1⟩ := id hT1
  have hr := (force_rg hI (s.ef l) 0).1
  rw [q4, Q1_ef hQ1 l hl.1 hl.2, Q1_eb hQ1 l hl.1 hl.2, x_mul (by omega)]
  have fin : ∀ (f : Int), f = frS D (bk D w) s l → (-1 ≤ f ∧ f ≤ 30000) → ((30 * (force D (s.ef l) 0).1 ≤ 0 → ∃ z, some (aI 0) = some (aI z) ∧ fr wC M M1 ∧ B1 D M1 ∧ z = lapS D (bk D w) s l day) ∧ (0 < 30 * (force D (s.ef l) 0).1 → (f = -1 → ∃ z, some (aI 0) = some (aI z) ∧ fr wC M M1 ∧ B1 D M1 ∧ z = lapS D (bk D w) s l day) ∧ (f ≠ -1 → (f ≤ day → 30 * (force D (s.ef l) 0).1 ≠ 0 ∧ ∃ z, some (aI (if a_div (a_sub day f) (30 * (force D (s.ef l) 0).1) ≤ 3 then a_div (a_sub day f) (30 * (force D (s.ef l) 0).1) else 3)) = some (aI z) ∧ fr wC M M1 ∧ B1 D M1 ∧ z = lapS D (bk D w) s l day) ∧ (day < f → ∃ z, some (aI 0) = some (aI z) ∧ fr wC M M1 ∧ B1 D M1 ∧ z = lapS D (bk D w) s l day)))) := by
    intro f hf hfr
    unfold lapS
    rw [← hf]
    refine ⟨fun h => ⟨_, rfl, q1, q2, by rw [if_pos (by omega)]⟩, fun h => ⟨fun g => ⟨_, rfl, q1, q2, by rw [if_pos (by omega)]⟩, fun g => ⟨fun k => ⟨by omega, _, rfl, q1, q2, ?_⟩, fun k => ⟨_, rfl, q1, q2, by rw [if_pos (by omega)]⟩⟩⟩⟩
    rw [x_sub (by omega), x_div (by omega) (by omega) (by omega) (by omega)]
    have e : (if f < 0 ∨ (force D (s.ef l) 0).1 = 0 ∨ day < f then (0 : Int) else min ((day - f) / (30 * (force D (s.ef l) 0).1)) 3) = min ((day - f) / (30 * (force D (s.ef l) 0).1)) 3 := if_neg (by omega)
    rw [e]
    split <;> omega
  refine ⟨hl, fun h => ⟨hl, ?_⟩, fun h => ⟨hl, ?_⟩⟩
  · exact fin (s.ef l) (by unfold frS; rw [if_neg h]) hef
  · obtain ⟨-, hb, -⟩ := B1_page q2 hw1 hw0
    refine aKi_of (s1_Papers_firstNotice (lv := l) (t := s.ef l) hI (PB_of q2) hb (fun i hi => bk_mem hi) (by omega)) (by omega) (fun z M2 q => ?_)
    obtain ⟨rfl, rfl⟩ := q
    exact fin _ (by unfold frS; rw [if_pos h]) (notL_rg hI _ _ _)
theorem lapS_rg {D : AM} {B : List Int} {s : Sg} {l day : Int} (hI : Inv D) : 0 ≤ lapS D B s l day ∧ lapS D B s l day ≤ 3 := by
  have hr := (force_rg hI (s.ef l) 0).1
  unfold lapS
  split
  · omega
  · have : 0 ≤ (day - frS D B s l) / (30 * (force D (s.ef l) 0).1) := Int.ediv_nonneg (by omega) (by omega)
    omega
theorem Q1_emp {D M : AM} {s : Sg} {l : Int} (hQ : Q1 D s M) (hl : 0 ≤ l ∧ l < 12) {i : Int} (hS : SI D i s) (hI : Inv D) : M 38 l = 0 ↔ s.h l = [] := by
  have hnp := Inv_np hI
  rw [lset_zero (Q1_h hQ l hl.1 hl.2)]
  constructor
  · intro h
    match e : s.h l with
    | [] => rfl
    | (p, c) :: r =>
      have hp := (SI_hp hS l p c (by rw [e]; simp)).2.1
      have := h p.toNat (by omega)
      rw [show ((p.toNat : Nat) : Int) = p by omega, ← Bool.not_eq_true, hasH_t] at this
      exact absurd ⟨c, by rw [e]; simp⟩ this
  · intro e j hj
    rw [e]
    rfl
theorem s1_Story_presenter {D M : AM} {w l day i : Int} {s : Sg} (hI : Inv D) (hS : SI D i s) (hi : i ≤ 150) (hw0 : 0 ≤ w) (hT : T1 D w s M) (hl : 0 ≤ l ∧ l < 12) (hday : 0 ≤ day ∧ day ≤ 30000) : aCi s1_G 9 80 [aP 37, aI l, aI day] M (fun z M' => fr wC M M' ∧ B1 D M' ∧ z = mayS D (bk D w) s l day) := by
  refine ⟨Nat.le_of_ble_eq_true rfl, fun d hd => ?_⟩
  refine s1_Story_presenter_0 (by omega) ?_
  obtain ⟨hB, hw, hQ⟩ := id hT
  have hem := Q1_emp hQ hl hS hI
  unfold mayS
  refine ⟨hl, fun h => ?_, fun h => ⟨_, rfl, fr_rf, hB, ?_⟩⟩
  · have he := hem.mp (cmp0.mp h)
    rw [if_neg (by simpa using he)]
    refine aKi_of (s1_Story_lapsedTo hI hS hw0 hT hl (SI_e0 hS l he) hday) (by omega) (fun z M1 q => ?_)
    obtain ⟨q1, q2, q3⟩ := q
    have hr := lapS_rg (B := bk D w) (s := s) (l := l) (day := day) hI
    subst q3
    refine ⟨⟨fun e => ?_, fun e => ⟨_, rfl, q1, q2, by (repeat (first | rw [if_pos (by omega)] | rw [if_neg (by omega)]))⟩, fun e => ⟨_, rfl, q1, q2, by (repeat (first | rw [if_pos (by omega)] | rw [if_neg (by omega)]))⟩, trivial⟩, fun e => ⟨_, rfl, q1, q2, by (repeat (first | rw [if_pos (by omega)] | rw [if_neg (by omega)]))⟩⟩
    refine aKi_of (s1_Rights_patronOn (day := day) hI hS hi hw0 (T1_c hT q1 q2) hl) (by omega) (fun z M2 q => ?_)
    obtain ⟨rfl, rfl⟩ := q
    exact ⟨_, rfl, q1, q2, by rw [if_pos e]⟩
  · rw [if_pos (fun e => h (cmp0.mpr (hem.mpr e)))]
