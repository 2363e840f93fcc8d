/-! THE READER in the second system: a clause -/
abbrev wRw : Nat → Int → Bool := wr [16, 17, 18, 19, 20, 21, 22, 24] [(0, 30), (0, 31), (0, 32), (0, 33), (0, 34), (0, 35), (0, 37), (0, 38)]
def Sg2 (X : List Int) (cn : Int) (row : Int) (Mb : AM) (M : AM) (f : Int) (p : Int) (s : List Int) (C : List Int) (K : List Int) (dp : Int) : Prop :=
  (St2 X cn M M f p s C K dp) ∧
  (fr wRw Mb M) ∧
  (∀ i, i ≠ row → M 16 i = Mb 16 i ∧ M 17 i = Mb 17 i ∧ M 18 i = Mb 18 i ∧ M 19 i = Mb 19 i ∧ M 20 i = Mb 20 i ∧ M 21 i = Mb 21 i) ∧
  (∀ i, i < 140 * cn → M 22 i = Mb 22 i)
theorem Sg2_st {X : List Int} {cn : Int} {row : Int} {Mb : AM} {M : AM} {f : Int} {p : Int} {s : List Int} {C : List Int} {K : List Int} {dp : Int} (h : Sg2 X  cn  row  Mb  M  f  p  s  C  K  dp ) : St2 X cn M M f p s C K dp := h.1
theorem Sg2_fr {X : List Int} {cn : Int} {row : Int} {Mb : AM} {M : AM} {f : Int} {p : Int} {s : List Int} {C : List Int} {K : List Int} {dp : Int} (h : Sg2 X  cn  row  Mb  M  f  p  s  C  K  dp ) : fr wRw Mb M := h.2.1
theorem Sg2_ot {X : List Int} {cn : Int} {row : Int} {Mb : AM} {M : AM} {f : Int} {p : Int} {s : List Int} {C : List Int} {K : List Int} {dp : Int} (h : Sg2 X  cn  row  Mb  M  f  p  s  C  K  dp ) : ∀ i, i ≠ row → M 16 i = Mb 16 i ∧ M 17 i = Mb 17 i ∧ M 18 i = Mb 18 i ∧ M 19 i = Mb 19 i ∧ M 20 i = Mb 20 i ∧ M 21 i = Mb 21 i := h.2.2.1
theorem Sg2_lo {X : List Int} {cn : Int} {row : Int} {Mb : AM} {M : AM} {f : Int} {p : Int} {s : List Int} {C : List Int} {K : List Int} {dp : Int} (h : Sg2 X  cn  row  Mb  M  f  p  s  C  K  dp ) : ∀ i, i < 140 * cn → M 22 i = Mb 22 i := h.2.2.2
theorem St2_self {X s C K : List Int} {cn f p dp : Int} {M0 M : AM} (h : St2 X cn M0 M f p s C K dp) : St2 X cn M M f p s C K dp := ⟨St2_tx h, fr_rf, St2_at h, St2_f h, St2_p h, St2_cn h, St2_n h, fun _ _ => rfl, St2_hi h, St2_K h, St2_dp h⟩
theorem Sg2_go {X s C K s' C' K' : List Int} {cn row f p dp f' p' dp' : Int} {Mb M M1 : AM} (h : Sg2 X cn row Mb M f p s C K dp) (g : St2 X cn M M1 f' p' s' C' K' dp') : Sg2 X cn row Mb M1 f' p' s' C' K' dp' := by
  have hf := St2_fr g
  refine ⟨St2_self g, fr_tr (Sg2_fr h) (fr_mo hf rfl), fun i hi => ?_, fun i hi => (St2_lo g i hi).trans (Sg2_lo h i hi)⟩
  rw [hf 16 i rfl, hf 17 i rfl, hf 18 i rfl, hf 19 i rfl, hf 20 i rfl, hf 21 i rfl]
  exact Sg2_ot h i hi
theorem Sg2_row {X s C K : List Int} {cn row f p dp v : Int} {Mb M : AM} (c : Nat) (hc : c = 16 ∨ c = 17 ∨ c = 18 ∨ c = 19 ∨ c = 20 ∨ c = 21) (h : Sg2 X cn row Mb M f p s C K dp) : Sg2 X cn row Mb (am_up M c row v) f p s C K dp := by
  have hst := Sg2_st h
  have g : fr (wr [16, 17, 18, 19, 20, 21] []) M (am_up M c row v) := fr_up fr_rf (by rcases hc with rfl | rfl | rfl | rfl | rfl | rfl <;> rfl)
  have e24 : (am_up M c row v) 24 = M 24 := funext fun x => g 24 x rfl
  refine ⟨⟨Tx2_fw (St2_tx hst) g rfl, fr_rf, by rw [g 0 30 rfl]; exact St2_at hst, (g 0 31 rfl).trans (St2_f hst), (g 0 32 rfl).trans (St2_p hst), by rw [g 0 18 rfl]; exact St2_cn hst, (g 0 35 rfl).trans (St2_n hst), fun _ _ => rfl, fun k hk => ?_, by rw [g 0 37 rfl, e24]; exact St2_K hst, (g 0 38 rfl).trans (St2_dp hst)⟩, fr_tr (Sg2_fr h) (fr_mo g rfl), fun i hi => ?_, fun i hi => ?_⟩
  · rw [g 22 _ rfl]; exact St2_hi hst k hk
  · have : ∀ k, (am_up M c row v) k i = M k i := fun k => by unfold am_up; rw [if_neg (fun q => hi q.2)]
    rw [this, this, this, this, this, this]
    exact Sg2_ot h i hi
  · rw [g 22 i rfl]; exact Sg2_lo h i hi
def EN2 (d : Nat) (Q : Option AV → AM → Prop) (z : Int) (M : AM) : Prop := (z ≠ 59 → aKi s2_G d 29 [aP 0, aI 0, aI 1, aI (M 0 30)] M (fun z6 M5 => (z6 = 0 → Q none M5) ∧ (z6 ≠ 0 → Q none (am_up M5 0 30 (a_add (M5 0 30) 1))))) ∧ (z = 59 → aKi s2_G d 29 [aP 0, aI 1, aI 1, aI (M 0 30)] M (fun z6 M5 => (z6 = 0 → Q none M5) ∧ (z6 ≠ 0 → Q none (am_up M5 0 30 (a_add (M5 0 30) 1)))))
def TL2 (d : Nat) (k row : Int) (Q : Option AV → AM → Prop) (M : AM) : Prop := (k = 1 → (0 ≤ row ∧ row < 120) ∧ aKi s2_G d 28 [aP 0] (am_up M 21 row (M 0 35)) (EN2 d Q)) ∧ (k ≠ 1 → (0 ≤ row ∧ row < 120) ∧ ((0 ≤ row ∧ row < 120) ∧ aKi s2_G d 28 [aP 0] (am_up (am_up M 20 row (M 0 35)) 21 row ((am_up M 20 row (M 0 35)) 0 35)) (EN2 d Q)))
theorem hd59 {s : List Int} : hdZ (sk s) = 59 ↔ (tSg 59 s).1 = true := by
  constructor
  · intro q
    match hs : sk s with
    | [] => rw [hs] at q; exact absurd q (by decide)
    | c :: r =>
      rw [hs] at q
      have : c = 59 := q
      rw [tSg_c hs, if_pos this]
  · intro q
    rw [tSg_t q]
    rfl
/-- a clause's end, in whatever state -/
theorem en2 {X u C K : List Int} {cn row f p dp : Int} {Mb M : AM} {d : Nat} {Q : Option AV → AM → Prop} (hd : 4 < d) (h : Sg2 X cn row Mb M f p u C K dp) (K1 : f = 0 → (tSg 59 u).1 = true → ∀ M', fr (wr [] [(0, 30)]) M M' → Sg2 X cn row Mb M' 0 p (tSg 59 u).2 C K dp → Q none M') (K2 : ∀ M' s', (f ≠ 0 ∨ (tSg 59 u).1 = false) → Sg2 X cn row Mb M' (if f = 0 then 1 else f) (if f = 0 then X.length - (sk u).length else p) s' C K dp → Q none M') : aKi s2_G d 28 [aP 0] M (EN2 d Q) := by
  refine k2_here hd (Sg2_st h) (fun a ha h1 => ?_)
  have hpl := Sfx_pl ha
  have hS := Sg2_go h h1
  rw [← hpl] at K2
  refine ⟨fun g => ?_, fun g => ?_⟩
  · rw [x_us]
    have g9 : (tSg 59 u).1 = false := by
      cases e : (tSg 59 u).1
      · rfl
      · exact absurd (hd59.mpr e) g
    refine k2_want hd (by decide) (St2_self h1) (fun _ q => absurd rfl q) (fun M5 _ h5 _ => ⟨fun _ => K2 M5 _ (Or.inr g9) (Sg2_go hS h5), fun q => absurd rfl q⟩)
  · rw [x_us]
    have g9 := hd59.mp g
    have et := tSg_t g9
    refine k2_want hd (by decide) (St2_self h1) (fun f0 _ => ⟨fun q => absurd q (by decide), fun _ => ?_⟩) (fun M5 _ h5 q => ⟨fun _ => K2 M5 _ ?_ (Sg2_go hS h5), fun q => absurd rfl q⟩)
    · subst f0
      have hr := Sfx_rg ha
      have hX := (St2_tx h1).2.2.1
      rw [et] at ha hr
      simp only [List.length_cons] at hr
      rw [x_us, x_add (by omega)]
      refine K1 rfl g9 _ (fr_up (fr_up fr_rf rfl) rfl) (Sg2_go hS ?_)
      refine St2_mv (St2_self h1) (fr_up fr_rf rfl) (by rw [x_us]; exact Sfx_nx ha) ((x_uf (by decide)).trans (St2_f h1)) ((x_uf (by decide)).trans (St2_p h1)) ((x_uf (by decide)).trans (St2_dp h1))
    · rcases q with q | q
      · exact Or.inl q
      · exact absurd q (by decide)
theorem tl2_ok {X u C K : List Int} {cn row k dp : Int} {Mb M : AM} {d : Nat} {Q : Option AV → AM → Prop} (hd : 4 < d) (hr : 0 ≤ row ∧ row < 120) (h : Sg2 X cn row Mb M 0 (-1) u C K dp) (K1 : (tSg 59 u).1 = true → ∀ M', Sg2 X cn row Mb M' 0 (-1) (tSg 59 u).2 C K dp → M' 16 row = M 16 row → M' 17 row = M 17 row → M' 18 row = M 18 row → M' 19 row = M 19 row → (k = 1 → M' 20 row = M 20 row ∧ M' 21 row = C.length) → Q none M') (K2 : (tSg 59 u).1 = false → ∀ M' s', Sg2 X cn row Mb M' 1 (X.length - (sk u).length) s' C K dp → Q none M') : TL2 d k row Q M := by
  have hst := Sg2_st h
  have k2 : ∀ M' s', ((0 : Int) ≠ 0 ∨ (tSg 59 u).1 = false) → Sg2 X cn row Mb M' (if (0 : Int) = 0 then 1 else 0) (if (0 : Int) = 0 then X.length - (sk u).length else -1) s' C K dp → Q none M' := fun M' s' q w => by
    rcases q with q | q
    · exact absurd rfl q
    · rw [if_pos rfl, if_pos rfl] at w; exact K2 q M' s' w
  refine ⟨fun e => ⟨hr, ?_⟩, fun e => ⟨hr, hr, ?_⟩⟩
  · have h1 := Sg2_row (v := M 0 35) 21 (by decide) h
    refine en2 hd h1 (fun _ g9 M' g hS => K1 g9 M' hS ?_ ?_ ?_ ?_ (fun _ => ⟨?_, ?_⟩)) k2
    · rw [g 16 row rfl, x_uc (by decide)]
    · rw [g 17 row rfl, x_uc (by decide)]
    · rw [g 18 row rfl, x_uc (by decide)]
    · rw [g 19 row rfl, x_uc (by decide)]
    · rw [g 20 row rfl, x_uc (by decide)]
    · rw [g 21 row rfl, x_us]; exact St2_n hst
  · have h1 := Sg2_row (v := (am_up M 20 row (M 0 35)) 0 35) 21 (by decide) (Sg2_row (v := M 0 35) 20 (by decide) h)
    refine en2 hd h1 (fun _ g9 M' g hS => K1 g9 M' hS ?_ ?_ ?_ ?_ (fun q => absurd q e)) k2
    · rw [g 16 row rfl, x_uc (by decide), x_uc (by decide)]
    · rw [g 17 row rfl, x_uc (by decide), x_uc (by decide)]
    · rw [g 18 row rfl, x_uc (by decide), x_uc (by decide)]
    · rw [g 19 row rfl, x_uc (by decide), x_uc (by decide)]
/-- a fault kept to the clause's end -/
def Fg2 (X : List Int) (cn row : Int) (Mb M : AM) (f p : Int) : Prop := f ≠ 0 ∧ ∃ s C K dp, Sg2 X cn row Mb M f p s C K dp
theorem tl2_bad {X : List Int} {cn row k f p : Int} {Mb M : AM} {d : Nat} {Q : Option AV → AM → Prop} (hd : 4 < d) (hr : 0 ≤ row ∧ row < 120) (h : Fg2 X cn row Mb M f p) (K : ∀ M', Fg2 X cn row Mb M' f p → Q none M') : TL2 d k row Q M := by
  obtain ⟨h0, u, C, K0, dp, h⟩ := h
  have k2 : ∀ M' s', (f ≠ 0 ∨ (tSg 59 u).1 = false) → Sg2 X cn row Mb M' (if f = 0 then 1 else f) (if f = 0 then X.length - (sk u).length else p) s' C K0 dp → Q none M' := fun M' s' _ w => by
    rw [if_neg h0, if_neg h0] at w
    exact K M' ⟨h0, s', C, K0, dp, w⟩
  refine ⟨fun e => ⟨hr, ?_⟩, fun e => ⟨hr, hr, ?_⟩⟩
  · exact en2 hd (Sg2_row (v := M 0 35) 21 (by decide) h) (fun q => absurd q h0) k2
  · exact en2 hd (Sg2_row (v := (am_up M 20 row (M 0 35)) 0 35) 21 (by decide) (Sg2_row (v := M 0 35) 20 (by decide) h)) (fun q => absurd q h0) k2
/-- what a clause leaves -/
def RC2 (X : List Int) (cn row : Int) (Mb : AM) (C : List Int) (r : PR) (M' : AM) : Prop :=
  (r.f = 0 ∧ ∃ K dp, Sg2 X cn row Mb M' 0 (-1) r.s (C ++ r.c.r1 ++ r.c.r2) K dp ∧ M' 16 row = r.c.k ∧ (r.c.k = 0 → M' 17 row = r.c.a ∧ M' 18 row = r.c.b) ∧ (r.c.k = 2 → M' 17 row = r.c.a) ∧ (r.c.k = 1 → M' 19 row = C.length ∧ M' 20 row = C.length + r.c.r1.length ∧ M' 21 row = C.length + r.c.r1.length + r.c.r2.length)) ∨
  (r.f ≠ 0 ∧ Fg2 X cn row Mb M' r.f (X.length - r.q.length))
theorem s2_mostOf {M : AM} {n : Int} (h : 0 ≤ n ∧ n ≤ 7) : aCi s2_G 4 35 [aI n] M (fun z M' => M' = M ∧ z = bnd n) := by
  refine ⟨Nat.le_of_ble_eq_true rfl, fun d hd => ?_⟩
  refine s2_mostOf_0 (by omega) ?_
  have h1 : n = 0 ∨ n = 1 ∨ n = 2 ∨ n = 3 ∨ n = 4 ∨ n = 5 ∨ n = 6 ∨ n = 7 := by omega
  rcases h1 with rfl | rfl | rfl | rfl | rfl | rfl | rfl | rfl <;> exact ⟨⟨fun q => ⟨_, rfl, rfl, by first | rfl | exact absurd q (by decide)⟩, fun q => ⟨_, rfl, rfl, by first | rfl | exact absurd q (by decide)⟩, fun q => ⟨_, rfl, rfl, by first | rfl | exact absurd q (by decide)⟩, fun q => ⟨_, rfl, rfl, by first | rfl | exact absurd q (by decide)⟩, fun q => ⟨_, rfl, rfl, by first | rfl | exact absurd q (by decide)⟩, fun q => ⟨_, rfl, rfl, by first | rfl | exact absurd q (by decide)⟩, trivial⟩, fun q => ⟨_, rfl, rfl, by first | rfl | exact absurd q (by decide)⟩⟩
theorem s2_readClause {X s C K : List Int} {cn row k dp : Int} {M : AM} (h : St2 X cn M M 0 (-1) s C K dp) (hr : 0 ≤ row ∧ row < 120) (hk : 0 ≤ k ∧ k ≤ 2) (hm : 2 * C.length + s.length ≤ 200) : aCv s2_G 8 42 [aP 0, aI k, aI row] M (RC2 X cn row M C (pCl k cn s)) := by
  refine ⟨Nat.le_of_ble_eq_true rfl, fun d hd => ?_⟩
  refine s2_readClause_0 (by omega) ?_
  have hX := (St2_tx h).2.2.1
  have hcn := (St2_cn h).2
  have hS0 : Sg2 X cn row M M 0 (-1) s C K dp := ⟨h, fr_rf, fun _ _ => ⟨rfl, rfl, rfl, rfl, rfl, rfl⟩, fun _ _ => rfl⟩
  obtain ⟨Ma, eMa⟩ : ∃ Ma, Ma = am_up (am_up M 16 row k) 19 row ((am_up M 16 row k) 0 35) := ⟨_, rfl⟩
  have hS : Sg2 X cn row M Ma 0 (-1) s C K dp := by rw [eMa]; exact Sg2_row 19 (by decide) (Sg2_row 16 (by decide) hS0)
  have a16 : Ma 16 row = k := by rw [eMa, x_uc (by decide), x_us]
  have a19 : Ma 19 row = C.length := by rw [eMa, x_us, x_uc (by decide)]; exact St2_n h
  rw [← eMa]
  have hst := Sg2_st hS
  -- what a fault does
  have bad : ∀ (r : PR) (M' : AM), Fg2 X cn row M M' r.f (X.length - r.q.length) → TL2 d k row (fun r_1 M'_1 => r_1 = none ∧ RC2 X cn row M C r M'_1) M' := fun r M' hb => tl2_bad (by omega) hr hb (fun M'' hb' => ⟨rfl, Or.inr ⟨hb.1, hb'⟩⟩)
  have ok : ∀ (r : PR) (M' : AM) (u C' K' : List Int) (dp' : Int), Sg2 X cn row M M' 0 (-1) u C' K' dp' → ((tSg 59 u).1 = true → ∀ M'', Sg2 X cn row M M'' 0 (-1) (tSg 59 u).2 C' K' dp' → M'' 16 row = M' 16 row → M'' 17 row = M' 17 row → M'' 18 row = M' 18 row → M'' 19 row = M' 19 row → (k = 1 → M'' 20 row = M' 20 row ∧ M'' 21 row = C'.length) → RC2 X cn row M C r M'') → ((tSg 59 u).1 = false → ∀ M'' s', Sg2 X cn row M M'' 1 (X.length - (sk u).length) s' C' K' dp' → RC2 X cn row M C r M'') → TL2 d k row (fun r_1 M'_1 => r_1 = none ∧ RC2 X cn row M C r M'_1) M' := fun r M' u C' K' dp' g K1 K2 => tl2_ok (by omega) hr g (fun e9 M'' hM' r16 r17 r18 r19 r20 => ⟨rfl, K1 e9 M'' hM' r16 r17 r18 r19 r20⟩) (fun e9 M'' s' hM' => ⟨rfl, K2 e9 M'' s' hM'⟩)
  unfold pCl
  refine ⟨hr, hr, ⟨fun k0 => ⟨fun k2 => ?_, fun k2 => ?_⟩, fun k0 => ?_⟩⟩
  · -- bar
    have k1 : k = 1 := by omega
    rw [if_neg k0, if_pos k1]
    unfold pBar
    refine aKi_of (s2_readTest (x1 := 1) hst hm) (by omega) (fun z M1 q => ⟨hr, ?_⟩)
    have hlen := rT_len 201 0 false false 0 s [] []
    unfold QT at q
    unfold tst0 at q ⊢
    generalize rT 201 0 false false 0 s [] [] = R at q hlen ⊢
    rcases q with ⟨rfl, q1, q2⟩ | ⟨rfl, q1, _, q2, q3⟩ | ⟨rfl, q1, q2, q3, q4⟩ | ⟨rfl, q1, q2, q3, q4⟩
    · rw [if_pos q1]
      refine ⟨fun _ => bad (R.f, R.q, R.s, cl0) _ ?_, fun w => absurd rfl w⟩
      obtain ⟨z0, s', C', K', dp', w⟩ := q2
      exact ⟨z0, s', C', K', dp', Sg2_row 20 (by decide) (Sg2_go hS w)⟩
    · have hlen := hlen q1
      unfold rLen at hlen
      simp only [List.length_nil, show bN false = 0 from rfl] at hlen
      rw [if_neg (fun w => w q1), show sk R.s = R.s from hlen.2.2.2.1, if_pos q2]
      refine ⟨fun w => absurd w (by decide), fun _ => ?_⟩
      have hS1 := Sg2_row (v := M1 0 35) 20 (by decide) (Sg2_go hS q3)
      have hwl := we_len R.s
      have hf1 := St2_fr q3
      have b16 : (am_up M1 20 row (M1 0 35)) 16 row = k := by rw [x_uc (by decide), hf1 16 row rfl]; exact a16
      have b19 : (am_up M1 20 row (M1 0 35)) 19 row = C.length := by rw [x_uc (by decide), hf1 19 row rfl]; exact a19
      have b20 : (am_up M1 20 row (M1 0 35)) 20 row = C.length + R.rs.length := by rw [x_us, St2_n q3, List.length_append]; omega
      refine aKi_of (s2_readTest (x1 := 0) (Sg2_st hS1) (by rw [List.length_append]; omega)) (by omega) (fun z M2 q => ?_)
      have hlen2 := rT_len 201 0 false false 0 (we R.s) [] []
      unfold QT tst0 at q
      generalize rT 201 0 false false 0 (we R.s) [] [] = R2 at q hlen2 ⊢
      have goOk : ∀ M2, R2.f = 0 → St2 X cn (am_up M1 20 row (M1 0 35)) M2 0 (-1) R2.s (C ++ R.rs ++ R2.rs) [] 0 → TL2 d k row (fun r M'_1 => r = none ∧ RC2 X cn row M C (if R2.f ≠ 0 then (R2.f, R2.q, R2.s, cl0) else endC R2.s (1, 0, 0, R.cs, R.rs, R2.cs, R2.rs)) M'_1) M2 := by
        intro M2 p1 p4
        have hf2 := St2_fr p4
        rw [if_neg (fun w => w p1)]
        unfold endC
        refine ok _ _ _ _ _ _ (Sg2_go hS1 p4) (fun e9 M' hM' r16 r17 r18 r19 r20 => ?_) (fun e9 M' s' hM' => ?_)
        · rw [if_pos e9]
          refine Or.inl ⟨rfl, [], 0, hM', by rw [r16, hf2 16 row rfl, b16]; exact k1, fun w => absurd w (by show ¬ (1 : Int) = 0; decide), fun w => absurd w (by show ¬ (1 : Int) = 2; decide), fun _ => ⟨by rw [r19, hf2 19 row rfl, b19], by rw [(r20 k1).1, hf2 20 row rfl, b20], ?_⟩⟩
          rw [(r20 k1).2]
          simp only [List.length_append]
          show (C.length + R.rs.length + R2.rs.length : Int) = C.length + R.rs.length + R2.rs.length
          rfl
        · rw [if_neg (by rw [e9]; decide)]
          exact Or.inr ⟨by show (1 : Int) ≠ 0; decide, by show (1 : Int) ≠ 0; decide, s', _, _, _, hM'⟩
      rcases q with ⟨rfl, p1, p2⟩ | ⟨rfl, p1, p2, _⟩ | ⟨rfl, p1, p2, p3, p4⟩ | ⟨rfl, p1, p2, p3, p4⟩
      · refine ⟨fun _ => ?_, fun w => absurd rfl w⟩
        rw [if_pos p1]
        obtain ⟨z0, s', C', K', dp', w⟩ := p2
        exact bad (R2.f, R2.q, R2.s, cl0) _ ⟨z0, s', C', K', dp', Sg2_go hS1 w⟩
      · exact absurd rfl p2
      · exact ⟨fun _ => goOk M2 p1 p4, fun w => absurd rfl w⟩
      · refine ⟨fun _ => ?_, fun w => absurd rfl w⟩
        rw [if_neg (fun w => w p1)]
        unfold endC
        rw [if_neg (by rw [p3]; decide)]
        have hlen2 := hlen2 p1
        unfold rLen at hlen2
        obtain ⟨z0, s', C', K', dp', w⟩ := p4
        refine bad (1, sk R2.s, sk R2.s, _) _ ⟨by show (1 : Int) ≠ 0; decide, s', C', K', dp', ?_⟩
        show Sg2 X cn row M M2 1 (X.length - (sk R2.s).length) s' C' K' dp'
        rw [show sk R2.s = R2.s from hlen2.2.2.2.1]
        exact Sg2_go hS1 w
    · have hlen := hlen q1
      unfold rLen at hlen
      have hsk : sk R.s = R.s := hlen.2.2.2.1
      have nu : ¬ wd R.s = wUNL := fun w => absurd (q2 w) (by decide)
      rw [if_neg (fun w => w q1), hsk, if_neg nu]
      refine ⟨fun _ => ?_, fun w => absurd rfl w⟩
      have hf1 := St2_fr q4
      have hS1 := Sg2_row (v := M1 0 35) 20 (by decide) (Sg2_go hS q4)
      have b20 : (am_up M1 20 row (M1 0 35)) 20 row = C.length + R.rs.length := by rw [x_us, St2_n q4, List.length_append]; omega
      unfold endC
      rw [if_pos q3]
      refine ok _ _ _ _ _ _ hS1 (fun e9 M' hM' r16 r17 r18 r19 r20 => ?_) (fun e9 M' s' hM' => absurd q3 (by rw [e9]; decide))
      refine Or.inl ⟨rfl, [], 0, ?_, by rw [r16, x_uc (by decide), hf1 16 row rfl, a16]; exact k1, fun w => absurd w (by show ¬ (1 : Int) = 0; decide), fun w => absurd w (by show ¬ (1 : Int) = 2; decide), fun _ => ⟨by rw [r19, x_uc (by decide), hf1 19 row rfl, a19], by rw [(r20 k1).1, b20], ?_⟩⟩
      · show Sg2 X cn row M M' 0 (-1) _ (C ++ R.rs ++ []) [] 0
        rw [List.append_nil]
        exact hM'
      · rw [(r20 k1).2]
        simp only [List.length_append]
        show (C.length + R.rs.length : Int) = C.length + R.rs.length + (0 : Nat)
        omega
    · have hlen := hlen q1
      unfold rLen at hlen
      have hsk : sk R.s = R.s := hlen.2.2.2.1
      have nu : ¬ wd R.s = wUNL := fun w => absurd (q2 w) (by decide)
      rw [if_neg (fun w => w q1), hsk, if_neg nu]
      refine ⟨fun _ => ?_, fun w => absurd rfl w⟩
      unfold endC
      rw [if_neg (by rw [q3]; decide)]
      obtain ⟨z0, s', C', K', dp', w⟩ := q4
      refine bad (1, sk R.s, sk R.s, _) _ ⟨by show (1 : Int) ≠ 0; decide, s', C', K', dp', ?_⟩
      show Sg2 X cn row M _ 1 (X.length - (sk R.s).length) s' C' K' dp'
      rw [hsk]
      exact Sg2_row 20 (by decide) (Sg2_go hS w)
  · -- strike
    rw [if_neg k0, if_neg (by omega)]
    unfold pStr
    refine aKi_of (s2_takeNumber hst (by decide)) (by omega) (fun z M1 q => ?_)
    obtain ⟨e33, ⟨q1, rfl, q2⟩ | ⟨q1, q2, s', q3⟩⟩ := q
    · rw [if_neg (fun w => w q1), (St2_cn q2).1, e33]
      have hf1 := St2_fr q2
      refine ⟨fun g => ?_, fun g => ?_⟩
      · rw [if_pos g]
        refine k2_want (by omega) (by decide) (St2_self q2) (fun _ w => absurd rfl w) (fun M2 _ h2 _ => ⟨hr, ?_⟩)
        rw [if_pos rfl, if_pos rfl] at h2
        exact bad (3, sk s, dge (sk s), cl0) _ ⟨by show (3 : Int) ≠ 0; decide, _, _, _, _, Sg2_row 17 (by decide) (Sg2_go (Sg2_go hS q2) h2)⟩
      · rw [if_neg (by omega)]
        refine k2_want (by omega) (by decide) (St2_self q2) (fun _ _ => ⟨hr, ?_⟩) (fun _ _ _ w => by rcases w with w | w <;> exact absurd w (by decide))
        have hS1 := Sg2_row (v := numV ((dgs (sk s)).take 4)) 17 (by decide) (Sg2_go hS q2)
        unfold endC
        refine ok _ _ _ _ _ _ hS1 (fun e9 M' hM' r16 r17 r18 r19 r20 => ?_) (fun e9 M' s' hM' => ?_)
        · rw [if_pos e9]
          refine Or.inl ⟨rfl, K, dp, ?_, by rw [r16, x_uc (by decide), hf1 16 row rfl, a16]; exact k2, fun w => absurd w (by show ¬ (2 : Int) = 0; decide), fun _ => by rw [r17, x_us], fun w => absurd w (by show ¬ (2 : Int) = 1; decide)⟩
          show Sg2 X cn row M M' 0 (-1) _ (C ++ [] ++ []) K dp
          rw [List.append_nil, List.append_nil]
          exact hM'
        · rw [if_neg (by rw [e9]; decide)]
          exact Or.inr ⟨by show (1 : Int) ≠ 0; decide, by show (1 : Int) ≠ 0; decide, s', _, _, _, hM'⟩
    · rw [if_pos q1]
      have fin : ∀ M2 s2, St2 X cn M1 M2 (nmF 9999 (dgs (sk s))) (X.length - (sk s).length) s2 C K dp → TL2 d k row (fun r_1 M'_1 => r_1 = none ∧ RC2 X cn row M C (nmF 9999 (dgs (sk s)), sk s, dge (sk s), cl0) M'_1) (am_up M2 17 row z) := fun M2 s2 h2 => bad (nmF 9999 (dgs (sk s)), sk s, dge (sk s), cl0) _ ⟨q1, s2, _, _, _, Sg2_row 17 (by decide) (Sg2_go (Sg2_go hS q3) h2)⟩
      have wn : ∀ b : Int, aKi s2_G d 29 [aP 0, aI b, aI 3, aI (M1 0 33)] M1 (fun z44 M43 => (0 ≤ row ∧ row < 120) ∧ TL2 d k row (fun r_1 M'_1 => r_1 = none ∧ RC2 X cn row M C (nmF 9999 (dgs (sk s)), sk s, dge (sk s), cl0) M'_1) (am_up M43 17 row z)) := fun b => by
        refine k2_want (by omega) (by decide) (St2_self q3) (fun w _ => absurd w q1) (fun M2 _ h2 _ => ⟨hr, ?_⟩)
        rw [if_neg q1, if_neg q1] at h2
        exact fin M2 _ h2
      exact ⟨fun _ => wn 0, fun _ => wn 1⟩
  · -- let
    rw [if_pos k0]
    unfold pLet
    refine aKv_of (s2_takeWord hst) (by omega) (fun M1 q => ?_)
    obtain ⟨h1, w1, n1⟩ := q
    have hS1 := Sg2_go hS h1
    have pw : M1 0 33 = X.length - (sk s).length := Sfx_pl w1
    have b1 := nmZ_rg (wd (sk s))
    refine aKi_of (s2_nameOf (St2_tx h1) w1 n1) (by omega) (fun z M2 q => ?_)
    obtain ⟨e2, rfl⟩ := q
    rw [e2, pw]
    refine ⟨fun g => ?_, fun g => ?_⟩
    · rw [if_pos (by omega)]
      refine k2_want (by omega) (by decide) (St2_self h1) (fun _ w => absurd rfl w) (fun M3 _ h3 _ => ⟨fun _ => ?_, fun w => absurd rfl w⟩)
      rw [if_pos rfl, if_pos rfl] at h3
      exact bad (1, sk s, sk s, cl0) _ ⟨by show (1 : Int) ≠ 0; decide, _, _, _, _, Sg2_go hS1 h3⟩
    · rw [if_neg (by omega)]
      refine k2_want (by omega) (by decide) (St2_self h1) (fun _ _ => ⟨fun w => absurd w (by decide), fun _ => ⟨hr, ?_⟩⟩) (fun _ _ _ w => by rcases w with w | w <;> exact absurd w (by decide))
      refine aKi_of (s2_mostOf (n := nmZ (wd (sk s))) (by omega)) (by omega) (fun z M3 q => ?_)
      obtain ⟨e3, rfl⟩ := q
      rw [e3]
      have hS2 := Sg2_row (v := nmZ (wd (sk s))) 17 (by decide) hS1
      have b2 := bnd_le (n := nmZ (wd (sk s))) (by omega)
      refine aKi_of (s2_takeNumber (Sg2_st hS2) (by omega)) (by omega) (fun z M4 q => ⟨hr, ?_⟩)
      obtain ⟨-, ⟨q1, rfl, q2⟩ | ⟨q1, q2, s', q3⟩⟩ := q
      · rw [if_neg (fun w => w q1)]
        have hf1 := St2_fr h1
        have hf4 := St2_fr q2
        have hS3 := Sg2_row (v := numV ((dgs (sk (we (sk s)))).take 4)) 18 (by decide) (Sg2_go hS2 q2)
        unfold endC
        refine ok _ _ _ _ _ _ hS3 (fun e9 M' hM' r16 r17 r18 r19 r20 => ?_) (fun e9 M' s' hM' => ?_)
        · rw [if_pos e9]
          refine Or.inl ⟨rfl, K, dp, ?_, by rw [r16, x_uc (by decide), hf4 16 row rfl, x_uc (by decide), hf1 16 row rfl, a16]; exact k0, fun _ => ⟨by rw [r17, x_uc (by decide), hf4 17 row rfl, x_us], by rw [r18, x_us]⟩, fun w => absurd w (by show ¬ (0 : Int) = 2; decide), fun w => absurd w (by show ¬ (0 : Int) = 1; decide)⟩
          show Sg2 X cn row M M' 0 (-1) _ (C ++ [] ++ []) K dp
          rw [List.append_nil, List.append_nil]
          exact hM'
        · rw [if_neg (by rw [e9]; decide)]
          exact Or.inr ⟨by show (1 : Int) ≠ 0; decide, by show (1 : Int) ≠ 0; decide, s', _, _, _, hM'⟩
      · rw [if_pos q1]
        exact bad (nmF (bnd (nmZ (wd (sk s)))) (dgs (sk (we (sk s)))), sk (we (sk s)), dge (sk (we (sk s))), cl0) _ ⟨q1, s', _, _, _, Sg2_row 18 (by decide) (Sg2_go hS2 q3)⟩
