/-! THE READER in the first system: the whole text -/
abbrev wRc : Nat → Int → Bool := wr [25, 28, 29, 30, 31, 32] [(24, 9), (35, 3), (35, 4), (35, 5)]
def rowP (cn : Int) (C : List Int) (M : AM) (row : Int) (c : CL) : Prop := M 28 row = c.k ∧ (c.k = 0 → M 29 row = c.a ∧ M 30 row = c.b) ∧ (c.k = 2 → M 29 row = c.a) ∧ (c.k = 1 → ∃ A B, C = A ++ c.c1 ++ c.c2 ++ B ∧ M 29 row = 200 * cn + A.length ∧ M 30 row = 200 * cn + A.length + c.c1.length ∧ M 31 row = 200 * cn + A.length + c.c1.length + c.c2.length)
/-- what of a draft may not change -/
def oldC (cn : Int) (Mb M : AM) : Prop := (∀ i, i < 200 * cn → M 32 i = Mb 32 i) ∧ (∀ i, i < 12 * cn → M 28 i = Mb 28 i ∧ M 29 i = Mb 29 i ∧ M 30 i = Mb 30 i ∧ M 31 i = Mb 31 i) ∧ (∀ j, j ≠ cn → M 25 j = Mb 25 j)
def StC (X : List Int) (cn : Int) (Mb : AM) (M : AM) (acc : List CL) (s : List Int) (C : List Int) : Prop :=
  (St1 X cn M M 0 (-1) s C) ∧
  (fr wRc Mb M) ∧
  (oldC cn Mb M) ∧
  (M 25 cn = acc.length) ∧
  (∀ (i : Nat) (hi : i < acc.length), rowP cn C M (12 * cn + i) acc[i]) ∧
  (2 * C.length + s.length ≤ 200) ∧
  (∀ c ∈ acc, clG cn c)
theorem StC_st {X : List Int} {cn : Int} {Mb : AM} {M : AM} {acc : List CL} {s : List Int} {C : List Int} (h : StC X  cn  Mb  M  acc  s  C ) : St1 X cn M M 0 (-1) s C := h.1
theorem StC_fr {X : List Int} {cn : Int} {Mb : AM} {M : AM} {acc : List CL} {s : List Int} {C : List Int} (h : StC X  cn  Mb  M  acc  s  C ) : fr wRc Mb M := h.2.1
theorem StC_old {X : List Int} {cn : Int} {Mb : AM} {M : AM} {acc : List CL} {s : List Int} {C : List Int} (h : StC X  cn  Mb  M  acc  s  C ) : oldC cn Mb M := h.2.2.1
theorem StC_k {X : List Int} {cn : Int} {Mb : AM} {M : AM} {acc : List CL} {s : List Int} {C : List Int} (h : StC X  cn  Mb  M  acc  s  C ) : M 25 cn = acc.length := h.2.2.2.1
theorem StC_rows {X : List Int} {cn : Int} {Mb : AM} {M : AM} {acc : List CL} {s : List Int} {C : List Int} (h : StC X  cn  Mb  M  acc  s  C ) : ∀ (i : Nat) (hi : i < acc.length), rowP cn C M (12 * cn + i) acc[i] := h.2.2.2.2.1
theorem StC_me {X : List Int} {cn : Int} {Mb : AM} {M : AM} {acc : List CL} {s : List Int} {C : List Int} (h : StC X  cn  Mb  M  acc  s  C ) : 2 * C.length + s.length ≤ 200 := h.2.2.2.2.2.1
theorem StC_g {X : List Int} {cn : Int} {Mb : AM} {M : AM} {acc : List CL} {s : List Int} {C : List Int} (h : StC X  cn  Mb  M  acc  s  C ) : ∀ c ∈ acc, clG cn c := h.2.2.2.2.2.2
theorem St1_adr {X s C : List Int} {cn f p row k a b c e : Int} {M1 M2 : AM} (h : St1 X cn M1 M2 f p s C) : St1 X cn (adr M2 row cn k a b c e) (adr M2 row cn k a b c e) f p s C := by
  have g : fr (wr [25, 28, 29, 30, 31] []) M2 (adr M2 row cn k a b c e) := fr_up (fr_up (fr_up (fr_up (fr_up fr_rf rfl) rfl) rfl) rfl) rfl
  obtain ⟨t1, t2, t3⟩ := St1_tx h
  refine ⟨⟨(g 35 2 rfl).trans t1, by rw [show (adr M2 row cn k a b c e) 36 = M2 36 from funext fun x => g 36 x rfl]; exact t2, t3⟩, fr_rf, by rw [g 35 5 rfl]; exact St1_at h, (g 35 4 rfl).trans (St1_f h), (g 35 3 rfl).trans (St1_p h), ?_, (g 24 9 rfl).trans (St1_n h), St1_le h, fun i _ => rfl, fun k hk => ?_⟩
  · rw [g 24 0 rfl]; exact St1_cn h
  · rw [g 32 _ rfl]; exact St1_hi h k hk
theorem St1_self {X s C : List Int} {cn f p : Int} {M1 M2 : AM} (h : St1 X cn M1 M2 f p s C) : St1 X cn M2 M2 f p s C := ⟨St1_tx h, fr_rf, St1_at h, St1_f h, St1_p h, St1_cn h, St1_n h, St1_le h, fun _ _ => rfl, St1_hi h⟩
theorem oldC_st {X s C : List Int} {cn f p : Int} {Mb M M2 : AM} (h : oldC cn Mb M) (g : St1 X cn M M2 f p s C) : oldC cn Mb M2 := by
  have hf := St1_fr g
  refine ⟨fun i hi => (St1_lo g i hi).trans (h.1 i hi), fun i hi => ?_, fun j hj => ?_⟩
  · rw [hf 28 i rfl, hf 29 i rfl, hf 30 i rfl, hf 31 i rfl]; exact h.2.1 i hi
  · rw [hf 25 j rfl]; exact h.2.2 j hj
theorem oldC_adr {cn k a b c e : Int} {Mb M2 : AM} (h : oldC cn Mb M2) (hk : 0 ≤ k) : oldC cn Mb (adr M2 (12 * cn + k) cn k a b c e) := by
  refine ⟨fun i hi => ?_, fun i hi => ?_, fun j hj => ?_⟩
  · unfold adr
    simp (decide := true) only [x_uk]
    exact h.1 i hi
  · unfold adr
    simp (decide := true) only [x_uk, x_uu]
    rw [up1_n (by omega), up1_n (by omega), up1_n (by omega), up1_n (by omega)]
    exact h.2.1 i hi
  · unfold adr
    simp (decide := true) only [x_uk, x_uu]
    rw [up1_n hj]
    exact h.2.2 j hj
theorem rowP_mo {cn row : Int} {C C' : List Int} {M M' : AM} {c : CL} (h : rowP cn C M row c) (hC : ∃ N, C' = C ++ N) (e28 : M' 28 row = M 28 row) (e29 : M' 29 row = M 29 row) (e30 : M' 30 row = M 30 row) (e31 : M' 31 row = M 31 row) : rowP cn C' M' row c := by
  obtain ⟨N, rfl⟩ := hC
  unfold rowP at h ⊢
  rw [e28, e29, e30, e31]
  obtain ⟨h1, h2, h3, h4⟩ := h
  refine ⟨h1, h2, h3, fun g => ?_⟩
  obtain ⟨A, B, e, r⟩ := h4 g
  exact ⟨A, B ++ N, by rw [e]; simp only [List.append_assoc], r⟩
/-- one clause more -/
theorem StC_more {X s C : List Int} {cn : Int} {Mb M M1 : AM} {acc : List CL} {r : PR} {x y e : Int} (h : StC X cn Mb M acc s C) (h1 : St1 X cn M M1 0 (-1) r.s (C ++ r.c.c1 ++ r.c.c2)) (e0 : r.c.k = 0 → x = r.c.a ∧ y = r.c.b) (e2 : r.c.k = 2 → x = r.c.a) (e1 : r.c.k = 1 → x = 200 * cn + C.length ∧ y = 200 * cn + C.length + r.c.c1.length ∧ e = 200 * cn + C.length + r.c.c1.length + r.c.c2.length) (hg : clG cn r.c) (hm : 2 * (r.c.c1.length + r.c.c2.length) + r.s.length ≤ s.length) : StC X cn Mb (adr M1 (12 * cn + acc.length) cn acc.length r.c.k x y e) (acc ++ [r.c]) r.s (C ++ r.c.c1 ++ r.c.c2) := by
  have hf := St1_fr h1
  have hme := StC_me h
  have g : fr (wr [25, 28, 29, 30, 31] []) M1 (adr M1 (12 * cn + acc.length) cn acc.length r.c.k x y e) := fr_up (fr_up (fr_up (fr_up (fr_up fr_rf rfl) rfl) rfl) rfl) rfl
  refine ⟨St1_adr h1, fr_tr (StC_fr h) (fr_tr (fr_mo hf rfl) (fr_mo g rfl)), oldC_adr (oldC_st (StC_old h) h1) (by omega), ?_, fun i hi => ?_, ?_, fun c hc => ?_⟩
  · unfold adr
    rw [x_us, List.length_append]
    simp
  · have a28 : (adr M1 (12 * cn + acc.length) cn acc.length r.c.k x y e) 28 = up1 (M1 28) (12 * cn + acc.length) r.c.k := by unfold adr; simp (decide := true) only [x_uk, x_uu]
    have a29 : (adr M1 (12 * cn + acc.length) cn acc.length r.c.k x y e) 29 = up1 (M1 29) (12 * cn + acc.length) x := by unfold adr; simp (decide := true) only [x_uk, x_uu]
    have a30 : (adr M1 (12 * cn + acc.length) cn acc.length r.c.k x y e) 30 = up1 (M1 30) (12 * cn + acc.length) y := by unfold adr; simp (decide := true) only [x_uk, x_uu]
    have a31 : (adr M1 (12 * cn + acc.length) cn acc.length r.c.k x y e) 31 = up1 (M1 31) (12 * cn + acc.length) e := by unfold adr; simp (decide := true) only [x_uk, x_uu]
    by_cases ei : i = acc.length
    · subst ei
      rw [List.getElem_append_right (Nat.le_refl _)]
      simp only [Nat.sub_self, List.getElem_cons_zero]
      unfold rowP
      rw [a28, a29, a30, a31, up1_s, up1_s, up1_s, up1_s]
      refine ⟨rfl, e0, e2, fun q => ⟨C, [], by rw [List.append_nil], e1 q⟩⟩
    · have hi2 : i < acc.length := by rw [List.length_append] at hi; simp at hi; omega
      rw [List.getElem_append_left hi2]
      refine rowP_mo (StC_rows h i hi2) ⟨r.c.c1 ++ r.c.c2, by rw [List.append_assoc]⟩ ?_ ?_ ?_ ?_
      · rw [a28, up1_n (by omega), hf 28 _ rfl]
      · rw [a29, up1_n (by omega), hf 29 _ rfl]
      · rw [a30, up1_n (by omega), hf 30 _ rfl]
      · rw [a31, up1_n (by omega), hf 31 _ rfl]
  · rw [List.length_append, List.length_append]
    omega
  · rcases List.mem_append.mp hc with hc | hc
    · exact StC_g h c hc
    · simp at hc; rw [hc]; exact hg
/-- the text read -/
def TXT (X : List Int) (cn : Int) (Mb M' : AM) (R : Int × List Int × List CL) : Prop := fr (wr [25, 28, 29, 30, 31, 32] [(24, 9), (35, 2), (35, 3), (35, 4), (35, 5)]) Mb M' ∧ M' 35 2 = 0 ∧ oldC cn Mb M' ∧ M' 35 3 = (if R.1 = 0 then (-1 : Int) else (X.length : Int) - R.2.1.length) ∧ (R.1 = 0 → ∃ C : List Int, C.length ≤ 200 ∧ M' 25 cn = R.2.2.length ∧ (∀ (k : Nat) (hk : k < C.length), M' 32 (200 * cn + k) = C[k]) ∧ (∀ (i : Nat) (hi : i < R.2.2.length), rowP cn C M' (12 * cn + i) R.2.2[i]) ∧ ∀ c ∈ R.2.2, clG cn c)
theorem s1_rt_loop {X : List Int} {cn : Int} {Mb : AM} {d : Nat} (hd : 18 ≤ d) : ∀ (m : Nat) (s : List Int) (acc : List CL) (C : List Int) (M : AM), acc.length + m = 13 → StC X cn Mb M acc s C → aE s1_G d 38 24 [] [some (aP 35), some (aI acc.length), none, none] [] M (fun r M' => ∃ z, r = some (aI z) ∧ z = (pAll cn m s acc).1 ∧ TXT X cn Mb M' (pAll cn m s acc)) := by
  intro m
  induction m with
  | zero =>
    intro s acc C M hk h
    -- thirteen clauses: not so, yet the loop ends
    have hst := StC_st h
    refine s1_Reader_readText_24 (by omega) ⟨fun _ => ?_, fun g => absurd g (by omega)⟩
    rw [x_uf (by decide), St1_f hst]
    have g : fr (wr [] [(35, 2)]) M (am_up M 35 2 0) := fr_up fr_rf rfl
    refine ⟨_, rfl, rfl, fr_tr (fr_mo (StC_fr h) rfl) (fr_mo g rfl), x_us, ?_, (x_uf (by decide)).trans (St1_p hst), fun _ => ⟨C, St1_le hst, ?_, fun k hk => ?_, fun i hi => ?_, StC_g h⟩⟩
    · obtain ⟨o1, o2, o3⟩ := StC_old h
      refine ⟨fun i hi => ?_, fun i hi => ?_, fun j hj => ?_⟩
      · rw [g 32 i rfl]; exact o1 i hi
      · rw [g 28 i rfl, g 29 i rfl, g 30 i rfl, g 31 i rfl]; exact o2 i hi
      · rw [g 25 j rfl]; exact o3 j hj
    · rw [g 25 cn rfl]; exact StC_k h
    · rw [g 32 _ rfl]; exact St1_hi hst k hk
    · exact rowP_mo (StC_rows h i hi) ⟨[], by rw [List.append_nil]⟩ (g 28 _ rfl) (g 29 _ rfl) (g 30 _ rfl) (g 31 _ rfl)
  | succ m ih =>
    intro s acc C M hk h
    have hst := StC_st h
    have hX := (St1_tx hst).2.2
    have hme := StC_me h
    have hrg := Sfx_rg (St1_at hst)
    have hcn := (St1_cn hst).2
    refine s1_Reader_readText_24 (by omega) ⟨fun g => absurd g (by omega), fun _ => ?_⟩
    rw [St1_f hst]
    refine ⟨fun g => absurd rfl g, fun _ => ?_⟩
    have hend : aCi s1_G 5 39 [aP 35] M (fun z M' => ∃ a, M' = am_up M 35 5 a ∧ Sfx X (sk s) a ∧ ((z = 1 ∧ sk s = []) ∨ (z = 0 ∧ sk s ≠ []))) := by
      refine ⟨Nat.le_of_ble_eq_true rfl, fun d hd => ?_⟩
      refine s1_Reader_isAtEnd_0 (by omega) ?_
      refine aKv_of (s1_Reader_skipBlanks s M (St1_tx hst) (St1_at hst)) (by omega) (fun M1 q => ?_)
      obtain ⟨a, rfl, ha⟩ := q
      have hr := Sfx_rg ha
      rw [x_us, (Tx1_up (St1_tx hst)).1]
      refine ⟨fun g => ⟨(by first | exact True.intro | exact Or.inl True.intro | exact Or.inr True.intro | omega), _, rfl, a, rfl, ha, Or.inr ⟨rfl, fun q => ?_⟩⟩, fun g => ⟨(by first | exact True.intro | exact Or.inl True.intro | exact Or.inr True.intro | omega), _, rfl, a, rfl, ha, Or.inl ⟨rfl, List.length_eq_zero_iff.mp (by omega)⟩⟩⟩
      rw [q] at hr
      simp only [List.length_nil] at hr
      omega
    refine aKi_of hend (by omega) (fun z M1 q => ?_)
    obtain ⟨a, rfl, ha, q⟩ := q
    have h1 := St1_go hst ha
    have ga : fr (wr [] [(35, 5)]) M (am_up M 35 5 a) := fr_up fr_rf rfl
    unfold pAll
    rcases q with ⟨rfl, e0⟩ | ⟨rfl, e0⟩
    · -- at the end
      rw [if_pos e0]
      refine ⟨fun _ => ?_, fun g => absurd g (by decide)⟩
      have g : fr (wr [] [(35, 2), (35, 5)]) M (am_up (am_up M 35 5 a) 35 2 0) := fr_up (fr_up fr_rf rfl) rfl
      have f4 : (am_up (am_up M 35 5 a) 35 2 0) 35 4 = 0 := (g 35 4 rfl).trans (St1_f hst)
      rw [f4]
      refine ⟨_, rfl, rfl, fr_tr (fr_mo (StC_fr h) rfl) (fr_mo g rfl), x_us, ?_, (g 35 3 rfl).trans (St1_p hst), fun _ => ⟨C, St1_le hst, ?_, fun k hk => ?_, fun i hi => ?_, StC_g h⟩⟩
      · obtain ⟨o1, o2, o3⟩ := StC_old h
        refine ⟨fun i hi => ?_, fun i hi => ?_, fun j hj => ?_⟩
        · rw [g 32 i rfl]; exact o1 i hi
        · rw [g 28 i rfl, g 29 i rfl, g 30 i rfl, g 31 i rfl]; exact o2 i hi
        · rw [g 25 j rfl]; exact o3 j hj
      · rw [g 25 cn rfl]; exact StC_k h
      · rw [g 32 _ rfl]; exact St1_hi hst k hk
      · exact rowP_mo (StC_rows h i hi) ⟨[], by rw [List.append_nil]⟩ (g 28 _ rfl) (g 29 _ rfl) (g 30 _ rfl) (g 31 _ rfl)
    rw [if_neg e0]
    refine ⟨fun g => absurd rfl g, fun _ => ?_⟩
    -- after a fault
    have bad : ∀ (M3 : AM) (f : Int) (qf : List Int) (k' : Int), f ≠ 0 → M3 35 4 = f → M3 35 3 = X.length - qf.length → fr wRc Mb M3 → oldC cn Mb M3 → aE s1_G d 38 24 [] [some (aP 35), some (aI k'), none, none] [] M3 (fun r M' => ∃ z, r = some (aI z) ∧ z = f ∧ TXT X cn Mb M' (f, qf, acc)) := by
      intro M3 f qf k' hf e4 e3 hfr hold
      have g : fr (wr [] [(35, 2)]) M3 (am_up M3 35 2 0) := fr_up fr_rf rfl
      have fin : ∃ z, (some (aI ((am_up M3 35 2 0) 35 4)) : Option AV) = some (aI z) ∧ z = f ∧ TXT X cn Mb (am_up M3 35 2 0) (f, qf, acc) := by
        refine ⟨_, rfl, (g 35 4 rfl).trans e4, fr_tr (fr_mo hfr rfl) (fr_mo g rfl), x_us, ?_, ?_, fun q => absurd q hf⟩
        · obtain ⟨o1, o2, o3⟩ := hold
          refine ⟨fun i hi => ?_, fun i hi => ?_, fun j hj => ?_⟩
          · rw [g 32 i rfl]; exact o1 i hi
          · rw [g 28 i rfl, g 29 i rfl, g 30 i rfl, g 31 i rfl]; exact o2 i hi
          · rw [g 25 j rfl]; exact o3 j hj
        · rw [if_neg (by exact hf)]
          exact (g 35 3 rfl).trans e3
      refine s1_Reader_readText_24 (by omega) ⟨fun _ => fin, fun _ => ?_⟩
      rw [e4]
      exact ⟨fun _ => fin, fun q => absurd q hf⟩
    have b1 := clZ_rg (wd (sk s))
    refine aKi_of (s1_Reader_clauseWord (St1_tx h1) (St1_at h1)) (by omega) (fun z M2 q => ?_)
    obtain ⟨rfl, a2, rfl, ha2⟩ := q
    rw [sk_sk] at ha2 ⊢
    have h2 := St1_go h1 ha2
    rw [x_us]
    have hpl := Sfx_pl ha
    have old2 : ∀ M3 f p s' C', St1 X cn M M3 f p s' C' → oldC cn Mb M3 ∧ fr wRc Mb M3 := fun M3 f p s' C' q => ⟨oldC_st (StC_old h) q, fr_tr (StC_fr h) (fr_mo (St1_fr q) rfl)⟩
    by_cases ek : clZ (wd (sk s)) = -1
    · rw [if_pos ek]
      refine ⟨fun g => absurd ek g, fun _ => k1_fail (by omega) h2 (fun M3 h3 => ?_)⟩
      rw [if_pos rfl, if_pos rfl, hpl] at h3
      obtain ⟨o1, o2⟩ := old2 M3 _ _ _ _ h3
      exact bad M3 1 (sk s) _ (by decide) (St1_f h3) (St1_p h3) o2 o1
    rw [if_neg ek] at ha2 h2 ⊢
    refine ⟨fun _ => ?_, fun g => absurd g ek⟩
    by_cases e12 : 12 ≤ acc.length
    · rw [if_pos e12]
      refine ⟨fun g => absurd g (by omega), fun _ => k1_fail (by omega) h2 (fun M3 h3 => ?_)⟩
      rw [if_pos rfl, if_pos rfl, hpl] at h3
      obtain ⟨o1, o2⟩ := old2 M3 _ _ _ _ h3
      exact bad M3 4 (sk s) _ (by decide) (St1_f h3) (St1_p h3) o2 o1
    rw [if_neg e12]
    refine ⟨fun _ => ?_, fun g => absurd g (by omega)⟩
    have g2 : fr (wr [] [(35, 5)]) M (am_up (am_up M 35 5 a) 35 5 a2) := fr_up ga rfl
    have hsl := sk_len s
    have hwl := we_len (sk s)
    have hS : StC X cn Mb (am_up (am_up M 35 5 a) 35 5 a2) acc (we (sk s)) C := by
      refine ⟨St1_self h2, fr_tr (StC_fr h) (fr_mo g2 rfl), oldC_st (StC_old h) h2, by rw [g2 25 cn rfl]; exact StC_k h, fun i hi => ?_, by omega, StC_g h⟩
      exact rowP_mo (StC_rows h i hi) ⟨[], by rw [List.append_nil]⟩ (g2 28 _ rfl) (g2 29 _ rfl) (g2 30 _ rfl) (g2 31 _ rfl)
    -- a clause read
    have cl : ∀ (k : Int) (M3 : AM), k = clZ (wd (sk s)) → RC X cn (am_up (am_up M 35 5 a) 35 5 a2) C acc.length (pCl k cn (we (sk s))) M3 → aE s1_G d 38 24 [] [some (aP 35), some (aI (a_add acc.length 1)), none, none] [] M3 (fun r M' => ∃ z, r = some (aI z) ∧ z = (if (pCl (clZ (wd (sk s))) cn (we (sk s))).f ≠ 0 then ((pCl (clZ (wd (sk s))) cn (we (sk s))).f, (pCl (clZ (wd (sk s))) cn (we (sk s))).q, acc) else pAll cn m (pCl (clZ (wd (sk s))) cn (we (sk s))).s (acc ++ [(pCl (clZ (wd (sk s))) cn (we (sk s))).c])).1 ∧ TXT X cn Mb M' (if (pCl (clZ (wd (sk s))) cn (we (sk s))).f ≠ 0 then ((pCl (clZ (wd (sk s))) cn (we (sk s))).f, (pCl (clZ (wd (sk s))) cn (we (sk s))).q, acc) else pAll cn m (pCl (clZ (wd (sk s))) cn (we (sk s))).s (acc ++ [(pCl (clZ (wd (sk s))) cn (we (sk s))).c]))) := by
      intro k M3 hkk q
      have hok := pCl_ok (k := k) (cn := cn) (s := we (sk s)) (by omega)
      rw [← hkk]
      generalize pCl k cn (we (sk s)) = r at q hok ⊢
      rcases q with ⟨q0, M4, q1, x, y, e, rfl, q2, q3, q4⟩ | ⟨q0, M4, ⟨_, s4, c4, q1⟩, q2⟩
      · rw [if_neg (fun w => w q0)]
        obtain ⟨o1, o2, o3, _⟩ := hok q0
        have := ih r.s (acc ++ [r.c]) (C ++ r.c.c1 ++ r.c.c2) _ (by rw [List.length_append]; simp; omega) (StC_more hS q1 q2 q3 q4 o1 o3)
        rw [List.length_append] at this
        rw [x_add (by omega)]
        exact this
      · rw [if_pos q0]
        rcases q2 with rfl | ⟨b1, x, y, e, rfl⟩
        · refine bad M3 r.f r.q _ q0 (St1_f q1) (St1_p q1) (fr_tr (StC_fr hS) (fr_mo (St1_fr q1) rfl)) (oldC_st (StC_old hS) q1)
        · have g : fr (wr [25, 28, 29, 30, 31] []) M4 (adr M4 (12 * cn + acc.length) cn acc.length b1 x y e) := fr_up (fr_up (fr_up (fr_up (fr_up fr_rf rfl) rfl) rfl) rfl) rfl
          refine bad _ r.f r.q _ q0 ((g 35 4 rfl).trans (St1_f q1)) ((g 35 3 rfl).trans (St1_p q1)) (fr_tr (StC_fr hS) (fr_tr (fr_mo (St1_fr q1) rfl) (fr_mo g rfl))) (oldC_adr (oldC_st (StC_old hS) q1) (by omega))
    refine ⟨fun hz => ⟨fun hz1 => ?_, fun hz1 => ?_⟩, fun hz => ?_⟩
    · refine aKv_of (s1_Reader_readStrike (StC_st hS) (StC_k hS) (by omega)) (by omega) (fun M3 q => cl 2 M3 (by omega) ?_)
      exact q
    · refine aKv_of (s1_Reader_readBar (StC_st hS) (StC_me hS) (StC_k hS) (by omega)) (by omega) (fun M3 q => cl 1 M3 (by omega) ?_)
      exact q
    · refine aKv_of (s1_Reader_readLet (StC_st hS) (StC_k hS) (by omega)) (by omega) (fun M3 q => cl 0 M3 (by omega) ?_)
      exact q
