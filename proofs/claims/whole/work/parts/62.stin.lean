/-! THE STORY in the first system: a man taken in; the whole told -/
theorem comC_in {L : List (Int × Int)} {p : Int} (h : hasH L p = true) : (p, comC L p) ∈ L := by
  unfold comC
  split
  next x e =>
    have h1 := List.find?_some e
    have h2 := List.mem_of_find?_eq_some e
    rw [decide_eq_true_eq] at h1
    subst h1
    exact h2
  next e =>
    rw [List.find?_eq_none] at e
    obtain ⟨c, hc⟩ := hasH_t.mp h
    exact absurd (by simp) (e _ hc)
theorem comC_out {L : List (Int × Int)} {p : Int} (h : hasH L p = false) : comC L p = -1 := by
  unfold comC
  split
  next x e =>
    have h1 := List.find?_some e
    have h2 := List.mem_of_find?_eq_some e
    rw [decide_eq_true_eq] at h1
    have : hasH L p = true := hasH_t.mpr ⟨x.2, by rw [← h1]; exact h2⟩
    rw [this] at h
    cases h
  · rfl
theorem lasS_inv {D : AM} {i l p : Int} {s : Sg} (hS : SI D i s) : ∀ m : Nat, ((lasS s l p m).1 = -1 ∧ (lasS s l p m).2 = -1) ∨ ((0 ≤ (lasS s l p m).1 ∧ (lasS s l p m).1 < m) ∧ hasH (s.h (lasS s l p m).1) p = true ∧ (lasS s l p m).2 = comC (s.h (lasS s l p m).1) p ∧ (lasS s l p m).1 ≠ l)
  | 0 => Or.inl ⟨rfl, rfl⟩
  | m + 1 => by
    have ih := lasS_inv (l := l) (p := p) hS m
    unfold lasS
    split
    next h =>
      refine Or.inr ⟨⟨by dsimp only; omega, by dsimp only; omega⟩, ?_, rfl, h.1⟩
      dsimp only
      cases e : hasH (s.h m) p
      · have hc := comC_out e
        rcases ih with ⟨_, h2⟩ | ⟨_, h2, h3, _⟩
        · omega
        · have := (SI_hp hS _ _ _ (comC_in h2)).2.2
          omega
      · rfl
    · rcases ih with ih | ⟨h1, h2, h3, h4⟩
      · exact Or.inl ih
      · exact Or.inr ⟨by omega, h2, h3, h4⟩
theorem lasS_out {D : AM} {i l p : Int} {s : Sg} (hS : SI D i s) {k : Nat} (hk : D 0 3 ≤ k) : ∀ m : Nat, lasS s l p (k + m) = lasS s l p k
  | 0 => rfl
  | m + 1 => by
    rw [← Nat.add_assoc]
    have ih := lasS_out (l := l) (p := p) hS hk m
    have hi := lasS_inv (l := l) (p := p) hS (k + m)
    show (if _ then _ else _) = _
    have e : comC (s.h ((k + m : Nat) : Int)) p = -1 := comC_out (hasH_out (SI_out hS) p (by omega))
    rw [e, if_neg, ih]
    rintro ⟨-, h⟩
    rcases hi with ⟨h1, h2⟩ | ⟨h1, h2, h3, h4⟩
    · omega
    · have := (SI_hp hS _ _ _ (comC_in h2)).2.2
      omega
theorem s1_Story_mayHoldBoth {D M : AM} {w a b p day : Int} (hI : Inv D) (hB : B1 D M) (hw : M 6 9 = w) (hw0 : 0 ≤ w) (ha : 0 ≤ a ∧ a < 12) (hb : 0 ≤ b ∧ b < 12) (hp : 0 ≤ p ∧ p < 40) (hday : 0 ≤ day ∧ day ≤ 30000) : aCi s1_G 8 73 [aP 37, aI a, aI b, aI p, aI day] M (fun z M' => fr wC M M' ∧ B1 D M' ∧ ((z = 1 ∧ hadB D (bk D w) 5 p day = true ∧ mlsD D a b ≤ (force D day 1).1 ∧ D 4 a ≤ (force D day 2).1 ∧ D 4 b ≤ (force D day 2).1) ∨ (z = 0 ∧ ¬ (hadB D (bk D w) 5 p day = true ∧ mlsD D a b ≤ (force D day 1).1 ∧ D 4 a ≤ (force D day 2).1 ∧ D 4 b ≤ (force D day 2).1)))) := by
  refine ⟨Nat.le_of_ble_eq_true rfl, fun d hd => ?_⟩
  refine s1_Story_mayHoldBoth_0 (by omega) ?_
  refine aKi_of (s1_Canons_numberOn (name := 2) hI hB hday.1 (by omega)) (by omega) (fun z M1 q => ?_)
  obtain ⟨q1, q2, q3, rfl⟩ := q
  obtain ⟨-, -, hg⟩ := B1_page q2 ((q1 6 9 rfl).trans hw) hw0
  refine aKi_of (s1_Papers_hadBy (l := bk D w) (k := 5) hI hg (by omega) hp) (by omega) (fun z M2 q => ?_)
  obtain ⟨rfl, rfl⟩ := q
  refine ⟨fun h => ⟨Or.inl rfl, _, rfl, q1, q2, Or.inr ⟨rfl, fun g => ?_⟩⟩, fun h => ?_⟩
  · rw [g.1] at h; cases h
  · have hh : hadB D (bk D w) 5 p day = true := by
      cases e : hadB D (bk D w) 5 p day
      · rw [e] at h; exact absurd rfl h
      · rfl
    refine aKi_of (s1_Register_milesBetween (a := a) (b := b) hI q2 ha hb) (by omega) (fun z M3 q => ?_)
    obtain ⟨rfl, rfl⟩ := q
    refine aKi_of (s1_Canons_numberOn (name := 1) hI q2 hday.1 (by omega)) (by omega) (fun z M4 q => ?_)
    obtain ⟨p1, p2, p3, rfl⟩ := q
    have ef := fr_tr q1 p1
    rw [B1_wo p2]
    refine ⟨fun g => ⟨Or.inl rfl, _, rfl, ef, p2, Or.inr ⟨rfl, by omega⟩⟩, fun g1 => ⟨ha, fun g => ⟨Or.inl rfl, _, rfl, ef, p2, Or.inr ⟨rfl, by omega⟩⟩, fun g2 => ⟨hb, fun g => ⟨Or.inl rfl, _, rfl, ef, p2, Or.inr ⟨rfl, by omega⟩⟩, fun g3 => ⟨Or.inr rfl, _, rfl, ef, p2, Or.inl ⟨rfl, hh, g1, g2, g3⟩⟩⟩⟩⟩
theorem s1_Story_otherToKeep {D M : AM} {w l p day i : Int} {s : Sg} (hI : Inv D) (hS : SI D i s) (hw0 : 0 ≤ w) (hT : T1 D w s M) (hl : 0 ≤ l ∧ l < 12) (hp : 0 ≤ p ∧ p < D 0 1) (hday : 0 ≤ day ∧ day ≤ 30000) : aCi s1_G 9 72 [aP 37, aI l, aI p, aI day] M (fun z M' => fr wC M M' ∧ B1 D M' ∧ z = kepS D (bk D w) s l p day) := by
  refine ⟨Nat.le_of_ble_eq_true rfl, fun d hd => ?_⟩
  refine s1_Story_otherToKeep_0 (by omega) ?_
  obtain ⟨hB, hw, hQ⟩ := id hT
  have hnl := Inv_nl hI
  have hnp := Inv_np hI
  have key : ∀ (m k : Nat), (k : Int) + m = D 0 3 → aE s1_G d 72 6 [] [some (aP 37), some (aI l), some (aI p), some (aI day), some (aI (lasS s l p k).1), some (aI k)] [] M (fun r M' => ∃ z, r = some (aI z) ∧ fr wC M M' ∧ B1 D M' ∧ z = kepS D (bk D w) s l p day) := by
    intro m
    induction m with
    | zero =>
      intro k hk
      refine s1_Story_otherToKeep_6 (by omega) ?_
      rw [B1_nl hB]
      have e12 : lasS s l p 12 = lasS s l p k := by
        have := lasS_out (l := l) (p := p) (k := k) hS (by omega) (12 - k)
        rw [show k + (12 - k) = 12 by omega] at this
        exact this
      have hi := lasS_inv (l := l) (p := p) hS k
      unfold kepS
      rw [e12]
      refine ⟨fun _ => ⟨fun h => ⟨_, rfl, fr_rf, hB, ?_⟩, fun h => ?_⟩, fun h => absurd h (by omega)⟩
      · rw [if_neg (fun q => q.1 h)]
      · have hr : 0 ≤ (lasS s l p k).1 ∧ (lasS s l p k).1 < 12 := by
          rcases hi with ⟨h1, _⟩ | ⟨h1, _⟩
          · exact absurd h1 h
          · omega
        refine aKi_of (s1_Story_mayHoldBoth hI hB hw hw0 hl hr (by omega) hday) (by omega) (fun z M1 q => ?_)
        obtain ⟨q1, q2, ⟨rfl, q3⟩ | ⟨rfl, q3⟩⟩ := q
        · exact ⟨fun h => absurd h (by decide), fun _ => ⟨_, rfl, q1, q2, by rw [if_pos ⟨h, q3⟩]⟩⟩
        · exact ⟨fun _ => ⟨_, rfl, q1, q2, by rw [if_neg (fun q => q3 q.2)]⟩, fun h => absurd rfl h⟩
    | succ m ih =>
      intro k hk
      have ih := ih (k + 1) (by omega)
      have hi := lasS_inv (l := l) (p := p) hS k
      have hstep : lasS s l p (k + 1) = if (k : Int) ≠ l ∧ (lasS s l p k).2 < comC (s.h k) p then ((k : Int), comC (s.h k) p) else lasS s l p k := rfl
      refine s1_Story_otherToKeep_6 (by omega) ?_
      rw [B1_nl hB, x_add (by omega), show (k : Int) + 1 = ((k + 1 : Nat) : Int) by omega]
      refine ⟨fun h => absurd h (by omega), fun _ => ⟨fun e => ?_, fun e => ?_⟩⟩
      · rw [hstep, if_neg (fun q => q.1 e)] at ih
        exact ih
      · refine aKi_of (s1_Story_isHolder hQ (by omega) (by omega)) (by omega) (fun z M1 q => ?_)
        obtain ⟨rfl, rfl⟩ := q
        cases eh : hasH (s.h k) p
        · have hc := comC_out eh
          refine ⟨fun _ => ?_, fun h => absurd rfl h⟩
          rw [hstep, if_neg] at ih
          · exact ih
          · rintro ⟨-, q⟩
            rcases hi with ⟨_, h2⟩ | ⟨h1, h2, h3, h4⟩
            · omega
            · have := (SI_hp hS _ _ _ (comC_in h2)).2.2
              omega
        · have hc := comC_in eh
          have hcr := (SI_hp hS _ _ _ hc).2.2
          have hm := Q1_c hQ k p _ (by omega) (by omega) hc
          refine ⟨fun h => absurd h (by decide), fun _ => ⟨fun g => ?_, fun g => ?_⟩⟩
          · have h2 : (lasS s l p k).2 = -1 := by
              rcases hi with ⟨_, h2⟩ | ⟨h1, _⟩
              · exact h2
              · omega
            rw [hstep, if_pos ⟨e, by omega⟩] at ih
            exact ih
          · rcases hi with ⟨h1, _⟩ | ⟨h1, h2, h3, h4⟩
            · exact absurd h1 g
            · have hm2 := Q1_c hQ _ p _ h1.1 (by omega) (comC_in h2)
              rw [hm, hm2]
              refine ⟨by omega, by omega, by omega, by omega, fun c => ?_, fun c => ?_⟩
              · rw [hstep, if_neg (by omega)] at ih
                exact ih
              · rw [hstep, if_pos ⟨e, by omega⟩] at ih
                exact ih
  exact key (D 0 3).toNat 0 (by omega)
abbrev wU : Nat → Int → Bool := wr [57, 58, 59, 60, 61] [(56, 5)]
theorem s1_Rights_useTurn {D M : AM} {w l i : Int} {s : Sg} (hI : Inv D) (hS : SI D i s) (hi : i ≤ 150) (hT : T1 D w s M) (hl : 0 ≤ l ∧ l < 12) : aCv s1_G 5 67 [aP 56, aI l] M (fun M' => fr wU M M' ∧ T1 D w (useS D s l) M') := by
  refine ⟨Nat.le_of_ble_eq_true rfl, fun d hd => ?_⟩
  refine s1_Rights_useTurn_0 (by omega) ?_
  obtain ⟨hB, hw, hQ⟩ := id hT
  have hso := SI_so hS
  refine aKi_of (s1_Rights_turnOf hQ hl) (by omega) (fun z M1 q => ?_)
  obtain ⟨rfl, rfl⟩ := q
  unfold useS
  refine ⟨fun h => ?_, fun h => ⟨rfl, fr_rf, by rw [if_pos h]; exact hT⟩⟩
  rw [if_neg h]
  have fin : ∀ (M2 : AM) (so' : List (Int × Int)) (tn' : Int → Int), fr (wr [59, 61] []) M1 M2 → so'.length = s.so.length → (∀ (k : Nat) (hk : k < so'.length), M1 60 k = so'[k].1 ∧ M2 61 k = so'[k].2) → (∀ x, 0 ≤ x → x < 12 → M2 59 x = tn' x) → fr wU M1 M2 ∧ T1 D w (s.h, s.ef, s.eb, s.ra, s.rb, tn', so', s.lg, s.rs) M2 := by
    intro M2 so' tn' f hlen h61 h59
    refine ⟨fr_mo f rfl, B1_wE0 hB f rfl, (f 6 9 rfl).trans hw, ?_⟩
    refine ⟨fun x x0 x1 => ?_, fun x p c x0 x1 hm => ?_, fun x x0 x1 => ?_, fun x x0 x1 => ?_, fun x x0 x1 => ?_, fun x x0 x1 => ?_, h59, ?_, fun k hk => ?_, ?_, fun k hk => ?_, fun m hm => ?_⟩
    · rw [f 38 x rfl]; exact Q1_h (s := s) hQ x x0 x1
    · rw [f 39 _ rfl]; exact Q1_c (s := s) hQ x p c x0 x1 hm
    · rw [f 52 x rfl]; exact Q1_ef (s := s) hQ x x0 x1
    · rw [f 53 x rfl]; exact Q1_eb (s := s) hQ x x0 x1
    · rw [f 57 x rfl]; exact Q1_ra (s := s) hQ x x0 x1
    · rw [f 58 x rfl]; exact Q1_rb (s := s) hQ x x0 x1
    · rw [f 56 5 rfl, Q1_sn hQ]; dsimp only [Sg.so]; rw [hlen]
    · rw [f 60 k rfl]; exact h61 k hk
    · rw [f 62 6 rfl]; exact Q1_ln (s := s) hQ
    · rw [f 66 k rfl, f 67 k rfl, f 68 k rfl, f 64 k rfl, f 65 k rfl, f 63 k rfl]; exact Q1_lg (s := s) hQ k hk
    · rw [f 54 m rfl]; exact Q1_rs (s := s) hQ m hm
  refine aKi_of (s1_Rights_firstSold (l := l) (p := turnS s l) hI (PB_of hB) hQ hS hi) (by omega) (fun z M1 q => ?_)
  obtain ⟨rfl, rfl⟩ := q
  match e : sldF D l (turnS s l) s.so 0 with
  | none =>
    dsimp only
    refine ⟨fun _ => ⟨hl, fun hb => ?_, fun hb => ⟨hl, fun ht => ⟨hl, by omega, ?_⟩, fun ht => ⟨hl, by omega, ?_⟩⟩⟩, fun h => absurd rfl h⟩
    · rw [Q1_rb hQ l hl.1 hl.2] at hb
      rw [if_pos hb]
      exact ⟨rfl, fin M1 s.so s.tn fr_rf rfl (fun k hk => Q1_so hQ k hk) (fun x x0 x1 => Q1_tn hQ x x0 x1)⟩
    · rw [Q1_rb hQ l hl.1 hl.2] at hb
      rw [Q1_tn hQ l hl.1 hl.2] at ht
      rw [if_neg hb]
      refine ⟨rfl, fin _ s.so _ (fr_up fr_rf rfl) rfl (fun k hk => by rw [x_uk (by decide)]; exact Q1_so hQ k hk) (fun x x0 x1 => ?_)⟩
      rw [x_uu]
      unfold up1
      split
      · have := SI_tn hS l; omega
      · exact Q1_tn hQ x x0 x1
    · rw [Q1_rb hQ l hl.1 hl.2] at hb
      rw [Q1_tn hQ l hl.1 hl.2] at ht
      rw [if_neg hb]
      refine ⟨rfl, fin _ s.so _ (fr_up fr_rf rfl) rfl (fun k hk => by rw [x_uk (by decide)]; exact Q1_so hQ k hk) (fun x x0 x1 => ?_)⟩
      rw [x_uu]
      unfold up1
      split
      · omega
      · exact Q1_tn hQ x x0 x1
  | some (k, n) =>
    dsimp only
    obtain ⟨-, hk, e1, -⟩ := sldF_at _ _ _ _ e
    have hk' : k < s.so.length := by simpa using hk
    simp only [Nat.sub_zero] at e1
    have h61 : ∀ (j : Nat) (hj : j < (s.so.set k (n, 1)).length), M1 60 j = (s.so.set k (n, 1))[j].1 ∧ up1 (M1 61) k 1 j = (s.so.set k (n, 1))[j].2 := by
      intro j hj
      have hj' : j < s.so.length := by simpa using hj
      rw [List.getElem_set]
      have hq := Q1_so hQ j hj'
      by_cases ej : k = j
      · subst ej
        rw [if_pos rfl, up1_s, hq.1, e1]
        exact ⟨rfl, rfl⟩
      · rw [if_neg ej, up1_n (by omega)]
        exact hq
    refine ⟨fun h => absurd h (by omega), fun _ => ⟨by omega, by omega, hl, ?_⟩⟩
    simp (decide := true) only [x_uk]
    refine ⟨fun hb => ?_, fun hb => ⟨hl, fun ht => ⟨hl, (by first | exact True.intro | exact Or.inl True.intro | exact Or.inr True.intro | omega), ?_⟩, fun ht => ⟨hl, (by first | exact True.intro | exact Or.inl True.intro | exact Or.inr True.intro | omega), ?_⟩⟩⟩
    · rw [Q1_rb hQ l hl.1 hl.2] at hb
      rw [if_pos hb]
      exact ⟨by trivial, fin _ _ s.tn (fr_up fr_rf rfl) (by simp) (fun j hj => by rw [x_uu]; exact h61 j hj) (fun x x0 x1 => by rw [x_uk (by decide)]; exact Q1_tn hQ x x0 x1)⟩
    · rw [Q1_rb hQ l hl.1 hl.2] at hb
      rw [Q1_tn hQ l hl.1 hl.2] at ht
      rw [if_neg hb]
      refine ⟨by trivial, fin _ _ _ (fr_up (fr_up fr_rf rfl) rfl) (by simp) (fun j hj => by simp (decide := true) only [x_uk, x_uu]; exact h61 j hj) (fun x x0 x1 => ?_)⟩
      simp (decide := true) only [x_uk, x_uu]
      unfold up1
      split
      · have := SI_tn hS l; omega
      · exact Q1_tn hQ x x0 x1
    · rw [Q1_rb hQ l hl.1 hl.2] at hb
      rw [Q1_tn hQ l hl.1 hl.2] at ht
      rw [if_neg hb]
      refine ⟨by trivial, fin _ _ _ (fr_up (fr_up fr_rf rfl) rfl) (by simp) (fun j hj => by simp (decide := true) only [x_uk, x_uu]; exact h61 j hj) (fun x x0 x1 => ?_)⟩
      simp (decide := true) only [x_uk, x_uu]
      unfold up1
      split
      · omega
      · exact Q1_tn hQ x x0 x1
