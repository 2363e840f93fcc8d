/-! THE READER in the first system: each clause -/
theorem s1_Reader_readLet {X s C : List Int} {cn k : Int} {M : AM} (h : St1 X cn M M 0 (-1) s C) (hk : M 25 cn = k) (hk0 : 0 ≤ k ∧ k < 12) : aCv s1_G 7 41 [aP 35] M (RC X cn M C k (pLet s)) := by
  refine ⟨Nat.le_of_ble_eq_true rfl, fun d hd => ?_⟩
  refine s1_Reader_readLet_0 (by omega) ?_
  have hc := (St1_cn h).2
  have b1 := nmZ_rg (wd (sk s))
  refine aKi_of (s1_Reader_nameWord (St1_tx h) (St1_at h)) (by omega) (fun z M1 q => ?_)
  obtain ⟨rfl, a, rfl, ha⟩ := q
  have h1 := St1_go h ha
  unfold pLet
  by_cases e1 : nmZ (wd (sk s)) = -1
  · rw [if_pos e1] at ha h1
    have hpl := Sfx_pl ha
    rw [if_pos e1, x_us]
    refine ⟨fun g => absurd e1 g, fun _ => k1_fail (by omega) h1 (fun M' h' => ⟨rfl, Or.inr ⟨by show (1 : Int) ≠ 0; decide, M', ⟨by show (1 : Int) ≠ 0; decide, sk s, C, ?_⟩, Or.inl rfl⟩⟩)⟩
    rw [if_pos rfl, if_pos rfl, hpl] at h'
    exact h'
  rw [if_neg e1] at ha h1 ⊢
  refine ⟨fun _ => ⟨by omega, ?_⟩, fun g => absurd g e1⟩
  refine aKi_of (s1_Reader_readNumber (s := we (sk s)) (most := bnd (nmZ (wd (sk s)))) (St1_tx h1) (St1_at h1) (St1_f h1)) (by omega) (fun z M2 q => ?_)
  obtain ⟨rfl, a2, ha2, rfl⟩ := q
  have h2 := St1_go h1 ha2
  unfold flt1
  by_cases e2 : nmF (bnd (nmZ (wd (sk s)))) (dgs (sk (we (sk s)))) = 0
  · rw [if_pos e2, if_neg (fun q => q e2)]
    refine aKv_of (s1_Reader_expect h2) (by omega) (fun M3 q => ?_)
    unfold endC
    rcases q with ⟨e3, q⟩ | ⟨e3, q⟩
    · rw [if_pos e3]
      refine k1_clause (X := X) (by omega) hk hk0 (St1_fr q) (St1_cn q) ⟨rfl, Or.inl ⟨rfl, M3, ?_, _, _, _, rfl, fun _ => ⟨rfl, rfl⟩, fun g => absurd g (by show ¬ (0 : Int) = 2; decide), fun g => absurd g (by show ¬ (0 : Int) = 1; decide)⟩⟩
      show St1 X cn M M3 0 (-1) _ (C ++ [] ++ [])
      rw [List.append_nil, List.append_nil]
      exact q
    · rw [if_neg (by rw [e3]; decide)]
      rw [if_pos rfl, if_pos rfl] at q
      exact kb_clause (r := (1, sk (dge (sk (we (sk s)))), sk (dge (sk (we (sk s)))), _)) (by omega) hk hk0 hc ⟨by show (1 : Int) ≠ 0; decide, _, _, q⟩ (fun M' q => ⟨rfl, q⟩)
  · rw [if_neg e2, if_pos e2]
    have hb : Fb X cn M (am_up (am_up (am_up (am_up M 35 5 a) 35 5 a2) 35 4 (nmF (bnd (nmZ (wd (sk s)))) (dgs (sk (we (sk s)))))) 35 3 (X.length - (sk (we (sk s))).length)) (nmF (bnd (nmZ (wd (sk s)))) (dgs (sk (we (sk s))))) (X.length - (sk (we (sk s))).length) := ⟨e2, _, _, St1_fl h2⟩
    exact kb_exp (by omega) hb (fun M3 h3 => kb_clause (r := (nmF (bnd (nmZ (wd (sk s)))) (dgs (sk (we (sk s)))), sk (we (sk s)), dge (sk (we (sk s))), cl0)) (by omega) hk hk0 hc h3 (fun M' q => ⟨rfl, q⟩))
theorem s1_Reader_readStrike {X s C : List Int} {cn k : Int} {M : AM} (h : St1 X cn M M 0 (-1) s C) (hk : M 25 cn = k) (hk0 : 0 ≤ k ∧ k < 12) : aCv s1_G 7 42 [aP 35] M (RC X cn M C k (pStr cn s)) := by
  refine ⟨Nat.le_of_ble_eq_true rfl, fun d hd => ?_⟩
  refine s1_Reader_readStrike_0 (by omega) ?_
  have hc := (St1_cn h).2
  refine aKv_of (s1_Reader_skipBlanks s M (St1_tx h) (St1_at h)) (by omega) (fun M1 q => ?_)
  obtain ⟨a, rfl, ha⟩ := q
  have h1 := St1_go h ha
  have hpl := Sfx_pl ha
  rw [x_us]
  refine aKi_of (s1_Reader_readNumber (s := sk s) (most := 9999) (St1_tx h1) (St1_at h1) (St1_f h1)) (by omega) (fun z M2 q => ?_)
  obtain ⟨rfl, a2, ha2, rfl⟩ := q
  rw [sk_sk] at ha2 ⊢
  have h2 := St1_go h1 ha2
  unfold flt1 pStr
  by_cases e2 : nmF 9999 (dgs (sk s)) = 0
  · rw [if_pos e2, if_neg (fun q => q e2), (St1_cn h2).1]
    refine ⟨fun g => ?_, fun g => ?_⟩
    · rw [if_neg (by omega)]
      refine aKv_of (s1_Reader_expect h2) (by omega) (fun M3 q => ?_)
      unfold endC
      rcases q with ⟨e3, q⟩ | ⟨e3, q⟩
      · rw [if_pos e3]
        refine k1_clause (X := X) (by omega) hk hk0 (St1_fr q) (St1_cn q) ⟨rfl, Or.inl ⟨rfl, M3, ?_, _, _, _, rfl, fun g => absurd g (by show ¬ (2 : Int) = 0; decide), fun _ => rfl, fun g => absurd g (by show ¬ (2 : Int) = 1; decide)⟩⟩
        show St1 X cn M M3 0 (-1) _ (C ++ [] ++ [])
        rw [List.append_nil, List.append_nil]
        exact q
      · rw [if_neg (by rw [e3]; decide)]
        rw [if_pos rfl, if_pos rfl] at q
        exact kb_clause (r := (1, sk (dge (sk s)), sk (dge (sk s)), _)) (by omega) hk hk0 hc ⟨by show (1 : Int) ≠ 0; decide, _, _, q⟩ (fun M' q => ⟨rfl, q⟩)
    · rw [if_pos g]
      refine k1_fail (by omega) h2 (fun M3 h3 => ?_)
      rw [if_pos rfl, if_pos rfl, hpl] at h3
      have hb : Fb X cn M M3 3 (X.length - (sk s).length) := ⟨by decide, _, _, h3⟩
      exact kb_exp (by omega) hb (fun M4 h4 => kb_clause (r := (3, sk s, dge (sk s), cl0)) (by omega) hk hk0 hc h4 (fun M' q => ⟨rfl, q⟩))
  · rw [if_neg e2, if_pos e2]
    have h3 := St1_fl (f' := nmF 9999 (dgs (sk s))) (p' := X.length - (sk s).length) h2
    have go : ∀ M3, Fb X cn M M3 (nmF 9999 (dgs (sk s))) (X.length - (sk s).length) → aKv s1_G d 47 [aP 35, aI 59] M3 (fun M4 => aKv s1_G d 1 [aP 24, aI 2, aI (numV ((dgs (sk s)).take 4)), aI 0, aI 0] M4 (fun M5 => (none : Option AV) = none ∧ RC X cn M C k (nmF 9999 (dgs (sk s)), sk s, dge (sk s), cl0) M5)) := fun M3 hb => kb_exp (by omega) hb (fun M4 h4 => kb_clause (r := (nmF 9999 (dgs (sk s)), sk s, dge (sk s), cl0)) (by omega) hk hk0 hc h4 (fun M' q => ⟨rfl, q⟩))
    refine ⟨fun _ => go _ ⟨e2, _, _, h3⟩, fun _ => k1_fail (by omega) h3 (fun M4 h4 => ?_)⟩
    rw [if_neg e2, if_neg e2] at h4
    exact go M4 ⟨e2, _, _, h4⟩
theorem s1_Canons_codePlace {M : AM} : aCi s1_G 4 3 [aP 24] M (fun z M' => M' = M ∧ z = M 24 9) := ⟨Nat.le_of_ble_eq_true rfl, fun d hd => s1_Canons_codePlace_0 (by omega) ⟨_, rfl, rfl, rfl⟩⟩
theorem s1_Reader_readBar {X s C : List Int} {cn k : Int} {M : AM} (h : St1 X cn M M 0 (-1) s C) (hm : 2 * C.length + s.length ≤ 200) (hk : M 25 cn = k) (hk0 : 0 ≤ k ∧ k < 12) : aCv s1_G 17 43 [aP 35] M (RC X cn M C k (pBar s)) := by
  refine ⟨Nat.le_of_ble_eq_true rfl, fun d hd => ?_⟩
  refine s1_Reader_readBar_0 (by omega) ?_
  have hc := (St1_cn h).2
  have hX := (St1_tx h).2.2
  have hs := Sfx_rg (St1_at h)
  refine aKi_of s1_Canons_codePlace (by omega) (fun z M1 q => ?_)
  obtain ⟨e0, rfl⟩ := q
  rw [e0, St1_n h]
  have h' : St1 X cn M M 0 (-1) s (C ++ []) := by rw [List.append_nil]; exact h
  refine aKv_of (s1_Reader_readTest 8 0 rfl (rs := []) 201 h' (by omega) (by rw [List.length_nil]; omega)) (by omega) (fun M2 q => ?_)
  have hl := rT_len 201 0 false false 0 s [] []
  unfold pBar tst0
  obtain ⟨R, eR⟩ : ∃ R, R = rT 201 0 false false 0 s [] [] := ⟨_, rfl⟩
  rw [← eR] at q hl ⊢
  refine aKi_of s1_Canons_codePlace (by omega) (fun z M3 w => ?_)
  obtain ⟨e3, rfl⟩ := w
  rw [e3]
  rcases q with ⟨q1, q2⟩ | ⟨q1, q2⟩
  · have hl := hl q1
    unfold rLen at hl
    simp only [List.length_nil, show bN false = 0 from rfl] at hl
    rw [if_neg (fun w => w q1), St1_n q2]
    have a3 := sk_len R.s
    have a4 := we_len (sk R.s)
    -- the end
    have fin : ∀ (c2 r2 u : List Int) (M4 : AM), St1 X cn M M4 0 (-1) u (C ++ R.cs ++ c2) → aKv s1_G d 47 [aP 35, aI 59] M4 (fun M5 => aKi s1_G d 3 [aP 24] M5 (fun z M6 => aKv s1_G d 1 [aP 24, aI 1, aI (200 * cn + C.length), aI (200 * cn + (C ++ R.cs).length), aI z] M6 (fun M7 => (none : Option AV) = none ∧ RC X cn M C k (endC u (1, 0, 0, R.cs, R.rs, c2, r2)) M7))) := by
      intro c2 r2 u M4 h4
      refine aKv_of (s1_Reader_expect h4) (by omega) (fun M5 q => ?_)
      refine aKi_of s1_Canons_codePlace (by omega) (fun z M6 w => ?_)
      obtain ⟨e6, rfl⟩ := w
      rw [e6]
      unfold endC
      rcases q with ⟨e3, q⟩ | ⟨e3, q⟩
      · rw [if_pos e3, St1_n q]
        refine k1_clause (X := X) (by omega) hk hk0 (St1_fr q) (St1_cn q) ⟨rfl, Or.inl ⟨rfl, M5, q, _, _, _, rfl, fun g => absurd g (by show ¬ (1 : Int) = 0; decide), fun g => absurd g (by show ¬ (1 : Int) = 2; decide), fun _ => ⟨rfl, ?_, ?_⟩⟩⟩
        · show (200 * cn + ((C ++ R.cs).length : Int)) = 200 * cn + C.length + R.cs.length
          rw [List.length_append]; omega
        · show (200 * cn + ((C ++ R.cs ++ c2).length : Int)) = 200 * cn + C.length + R.cs.length + c2.length
          rw [List.length_append, List.length_append]; omega
      · rw [if_neg (by rw [e3]; decide)]
        rw [if_pos rfl, if_pos rfl] at q
        exact kb_clause (r := (1, sk u, sk u, _)) (by omega) hk hk0 hc ⟨by show (1 : Int) ≠ 0; decide, _, _, q⟩ (fun M' q => ⟨rfl, q⟩)
    refine k1_tw wUNL rfl (by omega) (St1_tx q2) (St1_at q2) (fun e a ha => ?_) (fun e a ha => ?_)
    · have h4 := St1_go q2 ha
      rw [if_pos e]
      refine ⟨fun g => absurd g (by decide), fun _ => ?_⟩
      have h4' : St1 X cn M (am_up M2 35 5 a) 0 (-1) (we (sk R.s)) (C ++ R.cs ++ []) := by rw [List.append_nil]; exact h4
      refine aKv_of (s1_Reader_readTest 8 0 rfl (rs := []) 201 h4' (by omega) (by rw [List.length_nil, List.length_append]; omega)) (by omega) (fun M5 q => ?_)
      obtain ⟨R2, eR2⟩ : ∃ R2, R2 = rT 201 0 false false 0 (we (sk R.s)) [] [] := ⟨_, rfl⟩
      rw [← eR2] at q ⊢
      rcases q with ⟨p1, p2⟩ | ⟨p1, p2⟩
      · rw [if_neg (fun w => w p1)]
        exact fin R2.cs R2.rs R2.s M5 p2
      · rw [if_pos p1]
        refine kb_exp (by omega) p2 (fun M6 h6 => ?_)
        refine aKi_of s1_Canons_codePlace (by omega) (fun z M7 w => ?_)
        obtain ⟨e7, rfl⟩ := w
        rw [e7]
        exact kb_clause (r := (R2.f, R2.q, R2.s, cl0)) (by omega) hk hk0 hc h6 (fun M' q => ⟨rfl, q⟩)
    · have h4 := St1_go q2 ha
      rw [if_neg e]
      refine ⟨fun _ => ?_, fun g => absurd rfl g⟩
      have := fin [] [] (sk R.s) (am_up M2 35 5 a) (by rw [List.append_nil]; exact h4)
      rw [show sk R.s = R.s from hl.2.2.2.1] at this
      exact this
  · rw [if_pos q1]
    have en : ∀ (M4 : AM) (z7 : Int), Fb X cn M M4 R.f (X.length - R.q.length) → aKv s1_G d 47 [aP 35, aI 59] M4 (fun M5 => aKi s1_G d 3 [aP 24] M5 (fun z M6 => aKv s1_G d 1 [aP 24, aI 1, aI (200 * cn + C.length), aI z7, aI z] M6 (fun M7 => (none : Option AV) = none ∧ RC X cn M C k (R.f, R.q, R.s, cl0) M7))) := by
      intro M4 z7 h4
      refine kb_exp (by omega) h4 (fun M6 h6 => ?_)
      refine aKi_of s1_Canons_codePlace (by omega) (fun z M7 w => ?_)
      obtain ⟨e7, rfl⟩ := w
      rw [e7]
      exact kb_clause (r := (R.f, R.q, R.s, cl0)) (by omega) hk hk0 hc h6 (fun M' q => ⟨rfl, q⟩)
    refine kb_tw (by omega) q2 (fun M4 b h4 => ⟨fun _ => en M4 _ h4, fun _ => ?_⟩)
    exact kb_rt (o := 0) (by omega) h4 (fun M5 h5 => en M5 _ h5)
