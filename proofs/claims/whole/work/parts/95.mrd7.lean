/-! THE READER in the second system: the whole text; a canon -/
def rowQ (C : List Int) (M : AM) (row : Int) (c : CL) : Prop := M 16 row = c.k ∧ (c.k = 0 → M 17 row = c.a ∧ M 18 row = c.b) ∧ (c.k = 2 → M 17 row = c.a) ∧ (c.k = 1 → ∃ A B, C = A ++ c.r1 ++ c.r2 ++ B ∧ M 19 row = A.length ∧ M 20 row = A.length + c.r1.length ∧ M 21 row = A.length + c.r1.length + c.r2.length)
def oldD (cn : Int) (Mb M : AM) : Prop := (∀ i, i < 140 * cn → M 22 i = Mb 22 i) ∧ (∀ i, i < 12 * cn → M 16 i = Mb 16 i ∧ M 17 i = Mb 17 i ∧ M 18 i = Mb 18 i ∧ M 19 i = Mb 19 i ∧ M 20 i = Mb 20 i ∧ M 21 i = Mb 21 i)
def StD (X : List Int) (cn : Int) (Mb : AM) (M : AM) (acc : List CL) (s : List Int) (C : List Int) (K : List Int) (dp : Int) : Prop :=
  (St2 X cn M M 0 (-1) s C K dp) ∧
  (fr wRw Mb M) ∧
  (oldD cn Mb M) ∧
  (∀ (i : Nat) (hi : i < acc.length), rowQ C M (12 * cn + i) acc[i]) ∧
  (2 * C.length + s.length ≤ 200)
theorem StD_st {X : List Int} {cn : Int} {Mb : AM} {M : AM} {acc : List CL} {s : List Int} {C : List Int} {K : List Int} {dp : Int} (h : StD X  cn  Mb  M  acc  s  C  K  dp ) : St2 X cn M M 0 (-1) s C K dp := h.1
theorem StD_fr {X : List Int} {cn : Int} {Mb : AM} {M : AM} {acc : List CL} {s : List Int} {C : List Int} {K : List Int} {dp : Int} (h : StD X  cn  Mb  M  acc  s  C  K  dp ) : fr wRw Mb M := h.2.1
theorem StD_old {X : List Int} {cn : Int} {Mb : AM} {M : AM} {acc : List CL} {s : List Int} {C : List Int} {K : List Int} {dp : Int} (h : StD X  cn  Mb  M  acc  s  C  K  dp ) : oldD cn Mb M := h.2.2.1
theorem StD_rows {X : List Int} {cn : Int} {Mb : AM} {M : AM} {acc : List CL} {s : List Int} {C : List Int} {K : List Int} {dp : Int} (h : StD X  cn  Mb  M  acc  s  C  K  dp ) : ∀ (i : Nat) (hi : i < acc.length), rowQ C M (12 * cn + i) acc[i] := h.2.2.2.1
theorem StD_me {X : List Int} {cn : Int} {Mb : AM} {M : AM} {acc : List CL} {s : List Int} {C : List Int} {K : List Int} {dp : Int} (h : StD X  cn  Mb  M  acc  s  C  K  dp ) : 2 * C.length + s.length ≤ 200 := h.2.2.2.2
theorem rowQ_mo {row : Int} {C C' : List Int} {M M' : AM} {c : CL} (h : rowQ C M row c) (hC : ∃ N, C' = C ++ N) (e16 : M' 16 row = M 16 row) (e17 : M' 17 row = M 17 row) (e18 : M' 18 row = M 18 row) (e19 : M' 19 row = M 19 row) (e20 : M' 20 row = M 20 row) (e21 : M' 21 row = M 21 row) : rowQ C' M' row c := by
  obtain ⟨N, rfl⟩ := hC
  unfold rowQ at h ⊢
  rw [e16, e17, e18, e19, e20, e21]
  obtain ⟨h1, h2, h3, h4⟩ := h
  refine ⟨h1, h2, h3, fun g => ?_⟩
  obtain ⟨A, B, e, r⟩ := h4 g
  exact ⟨A, B ++ N, by rw [e]; simp only [List.append_assoc], r⟩
/-- the text read -/
def TXQ (X : List Int) (cn : Int) (Mb M' : AM) (R : Int × List Int × List CL) : Prop := fr wRw Mb M' ∧ oldD cn Mb M' ∧ 0 ≤ M' 0 37 ∧ M' 0 31 = R.1 ∧ M' 0 32 = (if R.1 = 0 then (-1 : Int) else (X.length : Int) - R.2.1.length) ∧ (R.1 = 0 → ∃ C : List Int, C.length ≤ 140 ∧ (∀ (k : Nat) (hk : k < C.length), M' 22 (140 * cn + k) = C[k]) ∧ ∀ (i : Nat) (hi : i < R.2.2.length), rowQ C M' (12 * cn + i) R.2.2[i])
theorem s2_ra_loop {X : List Int} {cn : Int} {Mb : AM} {d : Nat} (hd : 9 ≤ d) : ∀ (m : Nat) (s : List Int) (acc : List CL) (C K : List Int) (dp : Int) (M : AM), acc.length + m = 13 → (acc.length = 13 → sk s = []) → StD X cn Mb M acc s C K dp → aE s2_G d 43 2 [] [some (aP 0), some (aI acc.length), none] [] M (fun r M' => ∃ z, r = some (aI z) ∧ ((pAll cn m s acc).1 = 0 → z = (pAll cn m s acc).2.2.length) ∧ TXQ X cn Mb M' (pAll cn m s acc)) := by
  intro m
  have ended : ∀ (s : List Int) (acc : List CL) (C K : List Int) (dp : Int) (M M' : AM), StD X cn Mb M acc s C K dp → fr (wr [] [(0, 30)]) M M' → TXQ X cn Mb M' (0, [], acc) := by
    intro s acc C K dp M M' h g
    have hst := StD_st h
    obtain ⟨o1, o2⟩ := StD_old h
    have hme := StD_me h
    refine ⟨fr_tr (StD_fr h) (fr_mo g rfl), ⟨fun i hi => ?_, fun i hi => ?_⟩, ?_, (g 0 31 rfl).trans (St2_f hst), (g 0 32 rfl).trans (St2_p hst), fun _ => ⟨C, by omega, fun k hk => ?_, fun i hi => ?_⟩⟩
    · rw [g 22 i rfl]; exact o1 i hi
    · rw [g 16 i rfl, g 17 i rfl, g 18 i rfl, g 19 i rfl, g 20 i rfl, g 21 i rfl]; exact o2 i hi
    · rw [g 0 37 rfl, (St2_K hst).1]; omega
    · rw [g 22 _ rfl]; exact St2_hi hst k hk
    · exact rowQ_mo (StD_rows h i hi) ⟨[], by rw [List.append_nil]⟩ (g 16 _ rfl) (g 17 _ rfl) (g 18 _ rfl) (g 19 _ rfl) (g 20 _ rfl) (g 21 _ rfl)
  induction m with
  | zero =>
    intro s acc C K dp M hk hsk h
    have hst := StD_st h
    have e0 := hsk (by omega)
    refine s2_readAll_2 (by omega) ?_
    rw [St2_f hst]
    refine ⟨fun q => absurd rfl q, fun _ => ?_⟩
    refine k2_here (by omega) hst (fun a ha h1 => ?_)
    rw [e0]
    exact ⟨fun _ => ⟨_, rfl, fun _ => rfl, ended s acc C K dp M _ h (fr_up fr_rf rfl)⟩, fun q => absurd q (by decide)⟩
  | succ m ih =>
    intro s acc C K dp M hk hsk h
    have hst := StD_st h
    have hX := (St2_tx hst).2.2.1
    have hX0 := (St2_tx hst).2.2.2
    have hme := StD_me h
    have hcn := (St2_cn hst).2
    refine s2_readAll_2 (by omega) ?_
    rw [St2_f hst]
    refine ⟨fun q => absurd rfl q, fun _ => ?_⟩
    refine k2_here (by omega) hst (fun a ha h1 => ?_)
    unfold pAll
    by_cases e0 : sk s = []
    · rw [if_pos e0, e0]
      exact ⟨fun _ => ⟨_, rfl, fun _ => rfl, ended s acc C K dp M _ h (fr_up fr_rf rfl)⟩, fun q => absurd q (by decide)⟩
    rw [if_neg e0]
    have hpl := Sfx_pl ha
    have hh : 0 ≤ hdZ (sk s) := by
      match hs : sk s, e0 with
      | [], q => exact absurd rfl q
      | c :: r, _ =>
        obtain ⟨p, ep, _⟩ := ha
        exact hX0 c (by rw [ep, hs]; simp)
    refine ⟨fun q => absurd q (by omega), fun _ => ?_⟩
    refine aKv_of (s2_takeWord (St2_self h1)) (by omega) (fun M3 q => ?_)
    rw [sk_sk] at q
    obtain ⟨h3, w3, n3⟩ := q
    have pw : M3 0 33 = X.length - (sk s).length := Sfx_pl w3
    have ga : fr wR2 M M3 := fr_tr (St2_fr h1) (St2_fr h3)
    have h3' : St2 X cn M M3 0 (-1) (we (sk s)) C K dp := by
      refine ⟨St2_tx h3, ga, St2_at h3, St2_f h3, St2_p h3, St2_cn h3, St2_n h3, fun i hi => ?_, St2_hi h3, St2_K h3, St2_dp h3⟩
      rw [St2_lo h3 i hi, x_uc (by decide)]
    have hsl := sk_len s
    have hwl := we_len (sk s)
    have hD : StD X cn Mb M3 acc (we (sk s)) C K dp := by
      obtain ⟨o1, o2⟩ := StD_old h
      refine ⟨St2_self h3', fr_tr (StD_fr h) (fr_mo ga rfl), ⟨fun i hi => ?_, fun i hi => ?_⟩, fun i hi => ?_, by omega⟩
      · rw [St2_lo h3' i hi]; exact o1 i hi
      · rw [ga 16 i rfl, ga 17 i rfl, ga 18 i rfl, ga 19 i rfl, ga 20 i rfl, ga 21 i rfl]; exact o2 i hi
      · exact rowQ_mo (StD_rows h i hi) ⟨[], by rw [List.append_nil]⟩ (ga 16 _ rfl) (ga 17 _ rfl) (ga 18 _ rfl) (ga 19 _ rfl) (ga 20 _ rfl) (ga 21 _ rfl)
    -- after a fault
    have bad : ∀ (M4 : AM) (f : Int) (qf : List Int) (k' : Int), f ≠ 0 → M4 0 31 = f → M4 0 32 = X.length - qf.length → fr wRw Mb M4 → oldD cn Mb M4 → 0 ≤ M4 0 37 → aE s2_G d 43 2 [] [some (aP 0), some (aI k'), none] [] M4 (fun r M' => ∃ z, r = some (aI z) ∧ (f = 0 → z = (acc.length : Int)) ∧ TXQ X cn Mb M' (f, qf, acc)) := by
      intro M4 f qf k' hf e4 e3 hfr hold h37
      refine s2_readAll_2 (by omega) ?_
      rw [e4]
      refine ⟨fun _ => ⟨_, rfl, fun q => absurd q hf, hfr, hold, h37, e4, ?_, fun q => absurd q hf⟩, fun q => absurd q hf⟩
      rw [if_neg hf]
      exact e3
    have badw : ∀ (M4 : AM) (f : Int) (k' : Int), f ≠ 0 → St2 X cn M3 M4 f (X.length - (sk s).length) (we (sk s)) C K dp → aE s2_G d 43 2 [] [some (aP 0), some (aI k'), none] [] M4 (fun r M' => ∃ z, r = some (aI z) ∧ (f = 0 → z = (acc.length : Int)) ∧ TXQ X cn Mb M' (f, sk s, acc)) := by
      intro M4 f k' hf h4
      have g4 := St2_fr h4
      obtain ⟨o1, o2⟩ := StD_old hD
      refine bad M4 f (sk s) k' hf (St2_f h4) (St2_p h4) (fr_tr (StD_fr hD) (fr_mo g4 rfl)) ⟨fun i hi => ?_, fun i hi => ?_⟩ (by rw [(St2_K h4).1]; omega)
      · rw [St2_lo h4 i hi]; exact o1 i hi
      · rw [g4 16 i rfl, g4 17 i rfl, g4 18 i rfl, g4 19 i rfl, g4 20 i rfl, g4 21 i rfl]; exact o2 i hi
    have b1 := clZ_rg (wd (sk s))
    -- a clause
    have cl : ∀ k : Int, clZ (wd (sk s)) = k → 0 ≤ k → ((12 ≤ (acc.length : Int) → aKi s2_G d 29 [aP 0, aI 0, aI 4, aI (M3 0 33)] M3 (fun z13 M12 => (z13 = 0 → aE s2_G d 43 2 [] [some (aP 0), some (aI (acc.length : Int)), none] [] M12 (fun r M' => ∃ z, r = some (aI z) ∧ ((if 12 ≤ acc.length then (4, sk s, acc) else if (pCl k cn (we (sk s))).f ≠ 0 then ((pCl k cn (we (sk s))).f, (pCl k cn (we (sk s))).q, acc) else pAll cn m (pCl k cn (we (sk s))).s (acc ++ [(pCl k cn (we (sk s))).c])).1 = 0 → z = ((if 12 ≤ acc.length then (4, sk s, acc) else if (pCl k cn (we (sk s))).f ≠ 0 then ((pCl k cn (we (sk s))).f, (pCl k cn (we (sk s))).q, acc) else pAll cn m (pCl k cn (we (sk s))).s (acc ++ [(pCl k cn (we (sk s))).c])).2.2.length : Int)) ∧ TXQ X cn Mb M' (if 12 ≤ acc.length then (4, sk s, acc) else if (pCl k cn (we (sk s))).f ≠ 0 then ((pCl k cn (we (sk s))).f, (pCl k cn (we (sk s))).q, acc) else pAll cn m (pCl k cn (we (sk s))).s (acc ++ [(pCl k cn (we (sk s))).c])))) ∧ (z13 ≠ 0 → aKv s2_G d 42 [aP 0, aI k, aI (a_add (a_mul 12 (M12 0 18)) (acc.length : Int))] M12 (fun M14 => aE s2_G d 43 2 [] [some (aP 0), some (aI (a_add (acc.length : Int) 1)), none] [] M14 (fun r M' => ∃ z, r = some (aI z) ∧ ((if 12 ≤ acc.length then (4, sk s, acc) else if (pCl k cn (we (sk s))).f ≠ 0 then ((pCl k cn (we (sk s))).f, (pCl k cn (we (sk s))).q, acc) else pAll cn m (pCl k cn (we (sk s))).s (acc ++ [(pCl k cn (we (sk s))).c])).1 = 0 → z = ((if 12 ≤ acc.length then (4, sk s, acc) else if (pCl k cn (we (sk s))).f ≠ 0 then ((pCl k cn (we (sk s))).f, (pCl k cn (we (sk s))).q, acc) else pAll cn m (pCl k cn (we (sk s))).s (acc ++ [(pCl k cn (we (sk s))).c])).2.2.length : Int)) ∧ TXQ X cn Mb M' (if 12 ≤ acc.length then (4, sk s, acc) else if (pCl k cn (we (sk s))).f ≠ 0 then ((pCl k cn (we (sk s))).f, (pCl k cn (we (sk s))).q, acc) else pAll cn m (pCl k cn (we (sk s))).s (acc ++ [(pCl k cn (we (sk s))).c]))))))) ∧ ((acc.length : Int) < 12 → aKi s2_G d 29 [aP 0, aI 1, aI 4, aI (M3 0 33)] M3 (fun z13 M12 => (z13 = 0 → aE s2_G d 43 2 [] [some (aP 0), some (aI (acc.length : Int)), none] [] M12 (fun r M' => ∃ z, r = some (aI z) ∧ ((if 12 ≤ acc.length then (4, sk s, acc) else if (pCl k cn (we (sk s))).f ≠ 0 then ((pCl k cn (we (sk s))).f, (pCl k cn (we (sk s))).q, acc) else pAll cn m (pCl k cn (we (sk s))).s (acc ++ [(pCl k cn (we (sk s))).c])).1 = 0 → z = ((if 12 ≤ acc.length then (4, sk s, acc) else if (pCl k cn (we (sk s))).f ≠ 0 then ((pCl k cn (we (sk s))).f, (pCl k cn (we (sk s))).q, acc) else pAll cn m (pCl k cn (we (sk s))).s (acc ++ [(pCl k cn (we (sk s))).c])).2.2.length : Int)) ∧ TXQ X cn Mb M' (if 12 ≤ acc.length then (4, sk s, acc) else if (pCl k cn (we (sk s))).f ≠ 0 then ((pCl k cn (we (sk s))).f, (pCl k cn (we (sk s))).q, acc) else pAll cn m (pCl k cn (we (sk s))).s (acc ++ [(pCl k cn (we (sk s))).c])))) ∧ (z13 ≠ 0 → aKv s2_G d 42 [aP 0, aI k, aI (a_add (a_mul 12 (M12 0 18)) (acc.length : Int))] M12 (fun M14 => aE s2_G d 43 2 [] [some (aP 0), some (aI (a_add (acc.length : Int) 1)), none] [] M14 (fun r M' => ∃ z, r = some (aI z) ∧ ((if 12 ≤ acc.length then (4, sk s, acc) else if (pCl k cn (we (sk s))).f ≠ 0 then ((pCl k cn (we (sk s))).f, (pCl k cn (we (sk s))).q, acc) else pAll cn m (pCl k cn (we (sk s))).s (acc ++ [(pCl k cn (we (sk s))).c])).1 = 0 → z = ((if 12 ≤ acc.length then (4, sk s, acc) else if (pCl k cn (we (sk s))).f ≠ 0 then ((pCl k cn (we (sk s))).f, (pCl k cn (we (sk s))).q, acc) else pAll cn m (pCl k cn (we (sk s))).s (acc ++ [(pCl k cn (we (sk s))).c])).2.2.length : Int)) ∧ TXQ X cn Mb M' (if 12 ≤ acc.length then (4, sk s, acc) else if (pCl k cn (we (sk s))).f ≠ 0 then ((pCl k cn (we (sk s))).f, (pCl k cn (we (sk s))).q, acc) else pAll cn m (pCl k cn (we (sk s))).s (acc ++ [(pCl k cn (we (sk s))).c])))))))) := by
      intro k hck hk0
      rw [pw]
      by_cases e12 : 12 ≤ acc.length
      · simp only [if_pos e12]
        refine ⟨fun _ => ?_, fun q => absurd q (by omega)⟩
        refine k2_want (by omega) (by decide) (St2_self h3') (fun _ q => absurd rfl q) (fun M4 _ h4 _ => ⟨fun _ => ?_, fun q => absurd rfl q⟩)
        rw [if_pos rfl, if_pos rfl] at h4
        exact badw M4 4 _ (by decide) h4
      · simp only [if_neg e12]
        refine ⟨fun q => absurd q (by omega), fun _ => ?_⟩
        refine k2_want (by omega) (by decide) (St2_self h3') (fun _ _ => ⟨fun q => absurd q (by decide), fun _ => ?_⟩) (fun _ _ _ w => by rcases w with w | w <;> exact absurd w (by decide))
        rw [(St2_cn h3').1, x_mul (by omega), x_add (a := 12 * cn) (by omega), x_add (a := (acc.length : Int)) (by omega)]
        have hok := pCl_ok (k := k) (cn := cn) (s := we (sk s)) (by omega)
        refine aKv_of (s2_readClause (StD_st hD) (row := 12 * cn + acc.length) (by omega) (by omega) (StD_me hD)) (by omega) (fun M4 q => ?_)
        generalize pCl k cn (we (sk s)) = r at q hok ⊢
        have oldr : ∀ f p s' C' K' dp', Sg2 X cn (12 * cn + acc.length) M3 M4 f p s' C' K' dp' → oldD cn Mb M4 ∧ fr wRw Mb M4 := by
          intro f p s' C' K' dp' g
          obtain ⟨o1, o2⟩ := StD_old hD
          refine ⟨⟨fun i hi => (Sg2_lo g i hi).trans (o1 i hi), fun i hi => ?_⟩, fr_tr (StD_fr hD) (Sg2_fr g)⟩
          obtain ⟨w1, w2, w3, w4, w5, w6⟩ := Sg2_ot g i (by omega)
          rw [w1, w2, w3, w4, w5, w6]
          exact o2 i hi
        rcases q with ⟨q0, K', dp', q1, q2, q3, q4, q5⟩ | ⟨q0, _, s', C', K', dp', q1⟩
        · simp only [if_neg (fun w : r.f ≠ 0 => w q0)]
          obtain ⟨o1, o2, o3, o4⟩ := hok q0
          obtain ⟨u1, u2⟩ := oldr _ _ _ _ _ _ q1
          have hD2 : StD X cn Mb M4 (acc ++ [r.c]) r.s (C ++ r.c.r1 ++ r.c.r2) K' dp' := by
            refine ⟨Sg2_st q1, u2, u1, fun i hi => ?_, ?_⟩
            · by_cases ei : i = acc.length
              · subst ei
                rw [List.getElem_append_right (Nat.le_refl _)]
                simp only [Nat.sub_self, List.getElem_cons_zero]
                refine ⟨q2, q3, q4, fun g => ?_⟩
                obtain ⟨t1, t2, t3⟩ := q5 g
                exact ⟨C, [], by rw [List.append_nil], t1, t2, t3⟩
              · have hi2 : i < acc.length := by rw [List.length_append] at hi; simp at hi; omega
                rw [List.getElem_append_left hi2]
                obtain ⟨w1, w2, w3, w4, w5, w6⟩ := Sg2_ot q1 (12 * cn + i) (by omega)
                exact rowQ_mo (StD_rows hD i hi2) ⟨r.c.r1 ++ r.c.r2, by rw [List.append_assoc]⟩ w1 w2 w3 w4 w5 w6
            · have := StD_me hD
              rw [List.length_append, List.length_append]; omega
          have := ih r.s (acc ++ [r.c]) (C ++ r.c.r1 ++ r.c.r2) K' dp' M4 (by rw [List.length_append]; simp; omega) ?_ hD2
          · rw [List.length_append] at this
            exact this
          · intro q
            rw [List.length_append] at q
            simp only [List.length_cons, List.length_nil] at q
            omega
        · simp only [if_pos q0]
          obtain ⟨u1, u2⟩ := oldr _ _ _ _ _ _ q1
          exact bad M4 r.f r.q _ q0 (St2_f (Sg2_st q1)) (St2_p (Sg2_st q1)) u2 u1 (by rw [(St2_K (Sg2_st q1)).1]; omega)
    have wt : ∀ (Qx : Int → AM → Prop), Qx 1 M3 → aKi s2_G d 29 [aP 0, aI 1, aI 1, aI (M3 0 33)] M3 Qx := fun Qx hq => k2_want (by omega) (by decide) (St2_self h3') (fun _ _ => hq) (fun _ _ _ w => by rcases w with w | w <;> exact absurd w (by decide))
    refine k2_is [108, 101, 116] (by omega) (St2_tx h3) w3 n3 ⟨rfl, by decide, by decide⟩ (fun y => ⟨fun q => absurd q (by decide), fun _ => ⟨fun q => absurd q (by decide), fun _ => wt _ ⟨fun q => absurd q (by decide), fun _ => ?_⟩⟩⟩) (fun n0 => ⟨fun _ => ?_, fun q => absurd rfl q⟩)
    · have ek : clZ (wd (sk s)) = 0 := by unfold clZ; rw [if_pos y]
      rw [ek]
      exact cl 0 ek (by decide)
    refine k2_is [98, 97, 114] (by omega) (St2_tx h3) w3 n3 ⟨rfl, by decide, by decide⟩ (fun y => ⟨fun q => absurd q (by decide), fun _ => ⟨fun q => absurd q (by decide), fun _ => wt _ ⟨fun q => absurd q (by decide), fun _ => ?_⟩⟩⟩) (fun n1 => ⟨fun _ => ?_, fun q => absurd rfl q⟩)
    · have ek : clZ (wd (sk s)) = 1 := by unfold clZ; rw [if_neg n0, if_pos y]
      rw [ek]
      exact cl 1 ek (by decide)
    refine k2_is [115, 116, 114, 105, 107, 101] (by omega) (St2_tx h3) w3 n3 ⟨rfl, by decide, by decide⟩ (fun y => ⟨fun q => absurd q (by decide), fun _ => ⟨fun q => absurd q (by decide), fun _ => wt _ ⟨fun q => absurd q (by decide), fun _ => ?_⟩⟩⟩) (fun n2 => ⟨fun _ => ⟨fun _ => ?_, fun q => absurd q (by decide)⟩, fun q => absurd rfl q⟩)
    · have ek : clZ (wd (sk s)) = 2 := by unfold clZ; rw [if_neg n0, if_neg n1, if_pos y]
      rw [ek]
      exact cl 2 ek (by decide)
    · have ek : clZ (wd (sk s)) = -1 := by unfold clZ; rw [if_neg n0, if_neg n1, if_neg n2]
      rw [if_pos ek, pw]
      refine k2_want (by omega) (by decide) (St2_self h3') (fun _ q => absurd rfl q) (fun M4 _ h4 _ => ⟨fun _ => ?_, fun q => absurd rfl q⟩)
      rw [if_pos rfl, if_pos rfl] at h4
      exact badw M4 1 _ (by decide) h4
