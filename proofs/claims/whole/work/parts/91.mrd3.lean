/-! THE READER in the second system: one operand -/
def Fb2 (X : List Int) (cn : Int) (M0 M : AM) (f p : Int) : Prop := f ≠ 0 ∧ ∃ s C K dp, St2 X cn M0 M f p s C K dp
def QOne (X : List Int) (cn : Int) (M0 : AM) (s C K : List Int) (dp : Int) (z : Int) (M' : AM) : Prop :=
  (z = 0 ∧ wd (sk s) = wNOT ∧ St2 X cn M0 M' 0 (-1) (we (sk s)) C (-3 :: K) dp) ∨
  (z = 0 ∧ wd (sk s) ≠ wNOT ∧ (tSg 40 s).1 = true ∧ dp < 8 ∧ St2 X cn M0 M' 0 (-1) (tSg 40 s).2 C (40 :: K) (dp + 1)) ∨
  (z = 0 ∧ wd (sk s) ≠ wNOT ∧ (tSg 40 s).1 = true ∧ 8 ≤ dp ∧ Fb2 X cn M0 M' 5 (X.length - (sk s).length)) ∨
  (z = 1 ∧ wd (sk s) ≠ wNOT ∧ (tSg 40 s).1 = false ∧ (((cmpT s).1 = 0 ∧ St2 X cn M0 M' 0 (-1) (cmpT s).2.2.1 (C ++ [(cmpT s).2.2.2] ++ (letR (-3) K).1) (letR (-3) K).2 dp) ∨ ((cmpT s).1 ≠ 0 ∧ Fb2 X cn M0 M' (cmpT s).1 (X.length - (cmpT s).2.1.length))))
theorem letR_len (x : Int) : ∀ K : List Int, (letR x K).1.length + (letR x K).2.length = K.length
  | [] => rfl
  | t :: r => by
    unfold letR
    split
    · have := letR_len x r
      simp only [List.length_cons]
      omega
    · simp
theorem s2_readOne {X s C K : List Int} {cn dp : Int} {M0 M : AM} (h : St2 X cn M0 M 0 (-1) s C K dp) (hl : C.length + K.length ≤ 130) (hdp : 0 ≤ dp ∧ dp ≤ 100) : aCi s2_G 6 40 [aP 0] M (QOne X cn M0 s C K dp) := by
  refine ⟨Nat.le_of_ble_eq_true rfl, fun d hd => ?_⟩
  refine s2_readOne_0 (by omega) ?_
  have hX := (St2_tx h).2.2.1
  refine k2_here (by omega) h (fun a ha h1 => ?_)
  obtain ⟨u, eu⟩ : ∃ u, u = sk s := ⟨_, rfl⟩
  have hpl := Sfx_pl ha
  have hrg := Sfx_rg ha
  rw [← eu] at ha h1 hpl hrg ⊢
  have husk : sk u = u := by rw [eu]; exact sk_sk s
  have h40 : hdZ u = 40 ↔ (tSg 40 s).1 = true := by
    constructor
    · intro q
      match hu : u with
      | [] => exact absurd q (by decide)
      | c :: r =>
        have : c = 40 := q
        rw [tSg_c eu.symm, if_pos this]
    · intro q
      have := tSg_t q
      rw [← eu] at this
      rw [this]
      rfl
  refine ⟨fun g => ?_, fun g => ?_⟩
  · have g40 : (tSg 40 s).1 = false := by
      cases e : (tSg 40 s).1
      · rfl
      · exact absurd (h40.mpr e) g
    refine aKv_of (s2_takeWord h1) (by omega) (fun M3 q => ?_)
    rw [husk] at q
    obtain ⟨h3, w3, n3⟩ := q
    refine k2_is wNOT (by omega) (St2_tx h3) w3 n3 ⟨rfl, by decide, by decide⟩ (fun y => ⟨fun q => absurd q (by decide), fun _ => ?_⟩) (fun y => ⟨fun _ => ?_, fun q => absurd rfl q⟩)
    · exact k2_push (by omega) h3 (by omega) (fun M4 h4 => ⟨Or.inl rfl, _, rfl, Or.inl ⟨rfl, by rw [← eu]; exact y, by rw [← eu]; exact h4⟩⟩)
    -- a comparison
    have b1 := fcZ_rg (wd u)
    refine aKi_of (s2_factOf (St2_tx h3) w3 n3) (by omega) (fun z M4 q => ?_)
    obtain ⟨e4, rfl⟩ := q
    rw [e4]
    have pw : M3 0 33 = X.length - u.length := Sfx_pl w3
    have yn : wd (sk s) ≠ wNOT := by rw [← eu]; exact y
    have hcmp : cmpT s = (if fcZ (wd u) = -1 then (1, u, u, 0) else if sgZ (sk (we u)) = -1 then (1, sk (we u), sk (we u), 0) else (nmF 9999 (dgs (sk (sk (we u)).tail)), sk (sk (we u)).tail, dge (sk (sk (we u)).tail), (fcZ (wd u) * 3 + sgZ (sk (we u))) * 10000 + numV ((dgs (sk (sk (we u)).tail)).take 4))) := by unfold cmpT; rw [← eu]
    refine ⟨fun g7 => ?_, fun g7 => ?_⟩
    · -- no fact
      rw [if_pos (by omega)] at hcmp
      refine k2_want (by omega) (by decide) h3 (fun _ q => absurd rfl q) (fun M5 _ h5 _ => ⟨fun q => absurd rfl q, fun _ => ⟨Or.inr rfl, _, rfl, Or.inr (Or.inr (Or.inr ⟨rfl, yn, g40, Or.inr ?_⟩))⟩⟩)
      rw [if_pos rfl, if_pos rfl, pw] at h5
      rw [hcmp]
      exact ⟨by show (1 : Int) ≠ 0; decide, by show (1 : Int) ≠ 0; decide, _, _, _, _, h5⟩
    · rw [if_neg (by omega)] at hcmp
      refine k2_want (by omega) (by decide) h3 (fun _ _ => ⟨fun _ => ?_, fun q => absurd q (by decide)⟩) (fun _ _ _ q => by rcases q with q | q <;> exact absurd q (by decide))
      obtain ⟨v, ev⟩ : ∃ v, v = sk (we u) := ⟨_, rfl⟩
      rw [← ev] at hcmp
      refine k2_here (by omega) h3 (fun a5 ha5 h5 => ?_)
      rw [← ev] at ha5 h5 ⊢
      have hpl5 := Sfx_pl ha5
      rw [x_us]
      -- the code and what is behind
      have tl : ∀ (sg : Int) (Mx : AM) (zx : Int) (f p : Int) (s' : List Int) (Q : AM → Prop), 0 ≤ sg ∧ sg ≤ 2 → (0 ≤ zx ∧ zx ≤ 99999) → St2 X cn M0 Mx f p s' C K dp → (∀ M', St2 X cn M0 M' f p s' (C ++ [(fcZ (wd u) * 3 + sg) * 10000 + zx] ++ (letR (-3) K).1) (letR (-3) K).2 dp → Q M') → aKv s2_G d 37 [aP 0, aI (a_add (a_add (a_mul 30000 (fcZ (wd u))) (a_mul 10000 sg)) zx)] Mx (fun M16 => aKv s2_G d 39 [aP 0, aI (-3)] M16 Q) := by
        intro sg Mx zx f p s' Q hsg hzx hst hQ
        rw [x_mul (a := 30000) (by omega), x_mul (a := 10000) (by omega), x_add (a := 30000 * fcZ (wd u)) (by omega), x_add (by omega), show 30000 * fcZ (wd u) + 10000 * sg + zx = (fcZ (wd u) * 3 + sg) * 10000 + zx by omega]
        refine k2_emit (by omega) hst (by omega) (fun M16 h16 => ?_)
        exact aKv_of (s2_letOut K _ _ _ h16 (by rw [List.length_append]; simp; omega)) (by omega) (fun M17 q => hQ M17 q)
      -- the number
      have num : ∀ (c : Int) (r : List Int) (sg : Int), v = c :: r → sgZ v = sg → 0 ≤ sg ∧ sg ≤ 2 → ∀ (TL : Int → AM → Prop), (∀ zx Mx f p s', (0 ≤ zx ∧ zx ≤ 99999) → St2 X cn M0 Mx f p s' C K dp → (∀ M', St2 X cn M0 M' f p s' (C ++ [(fcZ (wd u) * 3 + sg) * 10000 + zx] ++ (letR (-3) K).1) (letR (-3) K).2 dp → QOne X cn M0 s C K dp 1 M') → TL zx Mx) → aKi s2_G d 32 [aP 0, aI 9999] (am_up (am_up M3 0 30 a5) 0 30 (a_add a5 1)) TL := by
        intro c r sg e5 esg hsg TL hTL
        rw [if_neg (by rw [esg]; omega), e5] at hcmp
        simp only [List.tail_cons] at hcmp
        rw [← e5, esg] at hcmp
        rw [e5] at ha5 h5
        have hr5 := Sfx_rg ha5
        simp only [List.length_cons] at hr5
        rw [x_add (by omega)]
        have h6 : St2 X cn M0 (am_up (am_up M3 0 30 a5) 0 30 (a5 + 1)) 0 (-1) r C K dp := by
          refine St2_mv h5 (fr_up fr_rf rfl) (by rw [x_us]; exact Sfx_nx ha5) ((x_uf (by decide)).trans (St2_f h5)) ((x_uf (by decide)).trans (St2_p h5)) ((x_uf (by decide)).trans (St2_dp h5))
        have b4 := numV_4 (s := sk r)
        refine aKi_of (s2_takeNumber h6 (by decide)) (by omega) (fun zx Mx q => ?_)
        obtain ⟨-, ⟨q1, rfl, q2⟩ | ⟨q1, q2, s', q3⟩⟩ := q
        · refine hTL _ Mx 0 (-1) _ (by omega) q2 (fun M' h' => Or.inr (Or.inr (Or.inr ⟨rfl, yn, g40, Or.inl ⟨by rw [hcmp]; exact q1, ?_⟩⟩)))
          rw [hcmp]
          exact h'
        · refine hTL _ Mx _ _ _ q2 q3 (fun M' h' => Or.inr (Or.inr (Or.inr ⟨rfl, yn, g40, Or.inr ⟨by rw [hcmp]; exact q1, ?_⟩⟩)))
          rw [hcmp]
          exact ⟨q1, _, _, _, _, h'⟩
      have wt : ∀ (Qx : Int → AM → Prop), Qx 1 (am_up M3 0 30 a5) → aKi s2_G d 29 [aP 0, aI 1, aI 1, aI a5] (am_up M3 0 30 a5) Qx := fun Qx hq => k2_want (by omega) (by decide) h5 (fun _ _ => hq) (fun _ _ _ q => by rcases q with q | q <;> exact absurd q (by decide))
      have dn : ∀ M', QOne X cn M0 s C K dp 1 M' → ((1 : Int) = 0 ∨ (1 : Int) = 1) ∧ ∃ z, (some (aI 1) : Option AV) = some (aI z) ∧ QOne X cn M0 s C K dp z M' := fun M' q => ⟨Or.inr rfl, _, rfl, q⟩
      by_cases c60 : hdZ v = 60
      · obtain ⟨r, e5⟩ : ∃ r, v = 60 :: r := by
          match v, c60 with
          | [], q => exact absurd q (by decide)
          | c :: r, q => exact ⟨r, by rw [show c = 60 from q]⟩
        rw [c60]
        refine ⟨fun _ => wt _ ⟨fun _ => ?_, fun q => absurd q (by decide)⟩, fun q => absurd rfl q⟩
        rw [x_us]
        refine num 60 r 0 e5 (by rw [e5]; rfl) (by decide) _ (fun zx Mx f p s' hzx hst hK => ⟨fun q => absurd rfl q, fun _ => tl 0 Mx zx f p s' _ (by decide) hzx hst (fun M' h' => dn M' (hK M' h'))⟩)
      · refine ⟨fun q => absurd q c60, fun _ => ?_⟩
        by_cases c62 : hdZ v = 62
        · obtain ⟨r, e5⟩ : ∃ r, v = 62 :: r := by
            match v, c62 with
            | [], q => exact absurd q (by decide)
            | c :: r, q => exact ⟨r, by rw [show c = 62 from q]⟩
          rw [c62]
          refine ⟨fun _ => wt _ ⟨fun _ => ?_, fun q => absurd q (by decide)⟩, fun q => absurd rfl q⟩
          rw [x_us]
          refine num 62 r 1 e5 (by rw [e5]; rfl) (by decide) _ (fun zx Mx f p s' hzx hst hK => ⟨fun _ => ⟨fun q => absurd rfl q, fun _ => tl 1 Mx zx f p s' _ (by decide) hzx hst (fun M' h' => dn M' (hK M' h'))⟩, fun q => absurd q (by decide)⟩)
        · refine ⟨fun q => absurd q c62, fun _ => ?_⟩
          by_cases c61 : hdZ v = 61
          · obtain ⟨r, e5⟩ : ∃ r, v = 61 :: r := by
              match v, c61 with
              | [], q => exact absurd q (by decide)
              | c :: r, q => exact ⟨r, by rw [show c = 61 from q]⟩
            rw [c61]
            refine ⟨fun q => absurd rfl q, fun _ => wt _ ⟨fun _ => ?_, fun q => absurd q (by decide)⟩⟩
            rw [x_us]
            refine num 61 r 2 e5 (by rw [e5]; rfl) (by decide) _ (fun zx Mx f p s' hzx hst hK => ⟨fun _ => ⟨fun _ => tl 2 Mx zx f p s' _ (by decide) hzx hst (fun M' h' => dn M' (hK M' h')), fun q => absurd q (by decide)⟩, fun q => absurd q (by decide)⟩)
          · have hsg : sgZ v = -1 := by
              match v, c60, c62, c61 with
              | [], _, _, _ => rfl
              | c :: r, q0, q1, q2 =>
                show (if c = 60 then (0 : Int) else if c = 62 then 1 else if c = 61 then 2 else -1) = -1
                rw [if_neg (show ¬ c = 60 from q0), if_neg (show ¬ c = 62 from q1), if_neg (show ¬ c = 61 from q2)]
            rw [if_pos hsg] at hcmp
            refine ⟨fun _ => k2_want (by omega) (by decide) h5 (fun _ q => absurd rfl q) (fun M5 _ h5' _ => ⟨fun q => absurd rfl q, fun _ => ⟨Or.inr rfl, _, rfl, Or.inr (Or.inr (Or.inr ⟨rfl, yn, g40, Or.inr ?_⟩))⟩⟩), fun q => absurd q c61⟩
            rw [if_pos rfl, if_pos rfl, hpl5] at h5'
            rw [hcmp]
            exact ⟨by show (1 : Int) ≠ 0; decide, by show (1 : Int) ≠ 0; decide, _, _, _, _, h5'⟩
  · -- a bracket
    have e40 := h40.mp g
    have et := tSg_t e40
    rw [← eu] at et
    have yn : wd (sk s) ≠ wNOT := by
      rw [← eu, et]
      show ([] : List Int) ≠ wNOT
      decide
    rw [et] at ha h1 hpl hrg
    simp only [List.length_cons] at hpl hrg
    rw [St2_dp h1, x_us]
    have up : ∀ (f p : Int) (M' : AM), St2 X cn M0 M' f p (40 :: (tSg 40 s).2) C (40 :: K) dp → St2 X cn M0 (am_up (am_up M' 0 38 (a_add (M' 0 38) 1)) 0 30 (a_add ((am_up M' 0 38 (a_add (M' 0 38) 1)) 0 30) 1)) f p (tSg 40 s).2 C (40 :: K) (dp + 1) := by
      intro f p M' h'
      have ha' := St2_at h'
      have hr' := Sfx_rg ha'
      rw [St2_dp h', x_add (by omega), x_uf (by decide), x_add (by omega)]
      refine St2_mv h' (fr_up (fr_up fr_rf rfl) rfl) ?_ ?_ ?_ ?_
      · rw [x_us]; exact Sfx_nx ha'
      · rw [x_uf (by decide), x_uf (by decide)]; exact St2_f h'
      · rw [x_uf (by decide), x_uf (by decide)]; exact St2_p h'
      · rw [x_uf (by decide), x_us]
    refine ⟨fun g8 => ?_, fun g8 => ?_⟩
    · refine k2_want (by omega) (by decide) h1 (fun _ q => absurd rfl q) (fun M5 _ h5 _ => ?_)
      rw [if_pos rfl, if_pos rfl] at h5
      refine k2_push (by omega) h5 (by omega) (fun M6 h6 => ⟨Or.inl rfl, _, rfl, Or.inr (Or.inr (Or.inl ⟨rfl, yn, e40, g8, ?_⟩))⟩)
      have h7 := up 5 _ M6 h6
      have hul : (u.length : Int) = (tSg 40 s).2.length + 1 := by rw [et]; simp
      refine ⟨by decide, (tSg 40 s).2, C, 40 :: K, dp + 1, ?_⟩
      rw [← eu, show (X.length : Int) - (u.length : Int) = a by omega]
      exact h7
    · refine k2_want (by omega) (by decide) h1 (fun _ _ => ?_) (fun _ _ _ q => by rcases q with q | q <;> exact absurd q (by decide))
      exact k2_push (by omega) h1 (by omega) (fun M6 h6 => ⟨Or.inl rfl, _, rfl, Or.inr (Or.inl ⟨rfl, yn, e40, g8, up 0 _ M6 h6⟩)⟩)
