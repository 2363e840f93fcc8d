/-! THE READER in the first system: a test read -/
theorem rT_no {f o k : Nat} {ja jo : Bool} {s cs rs : List Int} (h : wd (sk s) = wNOT) : rT (f + 1) o ja jo k s cs rs = rT f o ja jo (k + 1) (we (sk s)) cs rs := by rw [rT, if_pos h]
theorem rT_deep {f o k : Nat} {ja jo : Bool} {s cs rs : List Int} (h1 : wd (sk s) ≠ wNOT) (h2 : (tSg 40 s).1 = true) (h3 : 8 ≤ o) : rT (f + 1) o ja jo k s cs rs = (5, sk s, sk s, cs, rs) := by rw [rT, if_neg h1, if_pos h2, if_pos h3]
theorem rT_br {f o k : Nat} {ja jo : Bool} {s cs rs : List Int} {R : TR} (h1 : wd (sk s) ≠ wNOT) (h2 : (tSg 40 s).1 = true) (h3 : ¬ 8 ≤ o) (e : rT f (o + 1) false false 0 (tSg 40 s).2 cs rs = R) : rT (f + 1) o ja jo k s cs rs = if R.f ≠ 0 then R else if (tSg 41 R.s).1 then aftT (fun ja jo s cs rs => rT f o ja jo 0 s cs rs) ja jo k (tSg 41 R.s).2 R.cs R.rs else (1, sk R.s, sk R.s, cs, rs) := by rw [rT, if_neg h1, if_pos h2, if_neg h3, e]
theorem rT_cmp {f o k : Nat} {ja jo : Bool} {s cs rs : List Int} (h1 : wd (sk s) ≠ wNOT) (h2 : (tSg 40 s).1 = false) : rT (f + 1) o ja jo k s cs rs = if (cmpT s).1 ≠ 0 then ((cmpT s).1, (cmpT s).2.1, (cmpT s).2.2.1, cs, rs) else aftT (fun ja jo s cs rs => rT f o ja jo 0 s cs rs) ja jo k (cmpT s).2.2.1 (cs ++ [(cmpT s).2.2.2]) (rs ++ [(cmpT s).2.2.2]) := by
  rw [rT, if_neg h1, if_neg (by rw [h2]; decide)]
theorem cmpT_sk {s : List Int} : cmpT (sk s) = cmpT s := by unfold cmpT; rw [sk_sk]
theorem tSg_sk {c : Int} {s : List Int} : tSg c (sk s) = tSg c s := by unfold tSg; rw [sk_sk]
def L33 (X : List Int) (cn : Int) (M0 : AM) (P : List Int) (d o f : Nat) : Prop := ∀ (ja jo : Bool) (k cnt : Nat) (x4 : Int) (s cs rs : List Int) (M : AM), St1 X cn M0 M 0 (-1) s (P ++ cs) → s.length < f → 2 * (P.length + cs.length) + 2 * k + 2 * bN ja + 2 * bN jo + s.length ≤ 200 → 2 * cnt + s.length ≤ 200 → x4 ≠ 0 → aE s1_G d 44 33 [] [some (aP 35), some (aI o), some (aI (bI ja)), some (aI (bI jo)), some (aI x4), some (aI cnt), some (aI k)] [] M (QR X cn M0 P (rT f o ja jo k s cs rs))
theorem s1_Reader_readTest : ∀ (m o : Nat), o + m = 8 → ∀ {X P s cs rs : List Int} {cn : Int} {M0 M : AM} (f : Nat), St1 X cn M0 M 0 (-1) s (P ++ cs) → s.length < f → 2 * (P.length + cs.length) + s.length ≤ 200 → aCv s1_G (8 + m) 44 [aP 35, aI o] M (fun M' => ((rT f o false false 0 s cs rs).f = 0 ∧ St1 X cn M0 M' 0 (-1) (rT f o false false 0 s cs rs).s (P ++ (rT f o false false 0 s cs rs).cs)) ∨ ((rT f o false false 0 s cs rs).f ≠ 0 ∧ Fb X cn M0 M' (rT f o false false 0 s cs rs).f (X.length - (rT f o false false 0 s cs rs).q.length))) := by
  intro m
  induction m with
  | zero =>
    intro o ho X P s cs rs cn M0 M f h hs hm
    refine ⟨Nat.le_of_ble_eq_true rfl, fun d hd => ?_⟩
    have hn : ∀ x, Sfx X s x → s.length ≤ 200 := fun x hx => by have := Sfx_rg hx; have := (St1_tx h).2.2; omega
    have hX := hn _ (St1_at h)
    refine s1_Reader_readTest_0 (by omega) ?_
    have all : ∀ f, L10 X cn M0 P d o f ∧ L33 X cn M0 P d o f := by
      intro f
      induction f with
      | zero => exact ⟨fun _ _ _ _ _ _ _ _ _ q => absurd q (by omega), fun _ _ _ _ _ _ _ _ _ _ q => absurd q (by omega)⟩
      | succ f ih =>
        have g33 : L33 X cn M0 P d o (f + 1) := by
          intro ja jo k cnt x4 s cs rs M h hs hm hc h4
          have a1 := sk_len s
          have a2 := we_len (sk s)
          refine s1_Reader_readTest_33 (by omega) ⟨fun g => absurd g (by omega), fun _ => ?_⟩
          refine k1_tw wNOT rfl (by omega) (St1_tx h) (St1_at h) (fun e a ha => ?_) (fun e a ha => ?_)
          · have e3 : (wd (sk s)).length = 3 := by rw [e]; rfl
            rw [rT_no e, x_add (a := (k : Int)) (by omega), show (k : Int) + 1 = ((k + 1 : Nat) : Int) by omega]
            exact ⟨fun g => absurd g (by decide), fun _ => ih.2 ja jo (k + 1) cnt x4 _ cs rs _ (St1_go h ha) (by omega) (by omega) (by omega) h4⟩
          · have h1 := St1_go h ha
            refine ⟨fun _ => ?_, fun g => absurd rfl g⟩
            refine aKi_of (s1_Reader_takeSign (St1_tx h1) (St1_at h1)) (by omega) (fun z M2 q => ?_)
            obtain ⟨rfl, a3, rfl, ha3⟩ := q
            rw [tSg_sk] at ha3 ⊢
            have h2 := St1_go h1 ha3
            cases e2 : (tSg 40 s).1
            · rw [(tSg_f e2).1] at h2
              refine ⟨fun g => absurd rfl g, fun _ => ?_⟩
              rw [rT_cmp e e2]
              refine aKv_of (s1_Reader_readComparison h2 (by rw [List.length_append]; omega)) (by omega) (fun M3 q => ?_)
              rw [cmpT_sk] at q
              rcases q with ⟨q1, q2⟩ | ⟨q1, q2⟩
              · have c1 := cmp_len q1
                rw [if_neg (by rw [q1]; decide)]
                rw [List.append_assoc] at q2
                exact ok_AFT (by omega) ih.1 q2 (by omega) (by rw [List.length_append]; simp only [List.length_cons, List.length_nil]; omega) (by omega) h4
              · rw [if_pos q1]
                exact bad_AFT (R := ((cmpT s).1, (cmpT s).2.1, (cmpT s).2.2.1, cs, rs)) (by omega) q2
            · refine ⟨fun _ => ⟨fun g => absurd g (by omega), fun _ => ?_⟩, fun g => absurd g (by decide)⟩
              rw [rT_deep e e2 (by omega)]
              have hl := congrArg List.length (tSg_t e2)
              simp only [List.length_cons] at hl
              have hpl := Sfx_pl ha3
              have hrg := Sfx_rg ha3
              have hX2 := (St1_tx h).2.2
              rw [x_us, x_sub (by omega)]
              refine k1_fail (by omega) h2 (fun M3 h3 => ?_)
              rw [if_pos rfl, if_pos rfl, show a3 - 1 = X.length - (sk s).length by omega] at h3
              exact bad_AFT (R := (5, sk s, sk s, cs, rs)) (by omega) ⟨by show (5 : Int) ≠ 0; decide, _, _, h3⟩
        refine ⟨?_, g33⟩
        intro ja jo cnt x4 s cs rs M h hs hm hc h4
        refine s1_Reader_readTest_10 (by omega) ?_
        rw [St1_f h]
        exact ⟨fun g => absurd g (by omega), fun _ => ⟨fun g => absurd rfl g, fun _ => ⟨fun g => absurd g h4, fun _ => g33 ja jo 0 cnt x4 s cs rs M h hs (by omega) hc h4⟩⟩⟩
    exact (all f).1 false false 0 1 s cs rs M h hs (by rw [show bN false = 0 from rfl]; omega) (by omega) (by decide)
  | succ m IH =>
    intro o ho X P s cs rs cn M0 M f h hs hm
    refine ⟨Nat.le_of_ble_eq_true rfl, fun d hd => ?_⟩
    have hn : ∀ x, Sfx X s x → s.length ≤ 200 := fun x hx => by have := Sfx_rg hx; have := (St1_tx h).2.2; omega
    have hX := hn _ (St1_at h)
    refine s1_Reader_readTest_0 (by omega) ?_
    have all : ∀ f, L10 X cn M0 P d o f ∧ L33 X cn M0 P d o f := by
      intro f
      induction f with
      | zero => exact ⟨fun _ _ _ _ _ _ _ _ _ q => absurd q (by omega), fun _ _ _ _ _ _ _ _ _ _ q => absurd q (by omega)⟩
      | succ f ih =>
        have g33 : L33 X cn M0 P d o (f + 1) := by
          intro ja jo k cnt x4 s cs rs M h hs hm hc h4
          have a1 := sk_len s
          have a2 := we_len (sk s)
          refine s1_Reader_readTest_33 (by omega) ⟨fun g => absurd g (by omega), fun _ => ?_⟩
          refine k1_tw wNOT rfl (by omega) (St1_tx h) (St1_at h) (fun e a ha => ?_) (fun e a ha => ?_)
          · have e3 : (wd (sk s)).length = 3 := by rw [e]; rfl
            rw [rT_no e, x_add (a := (k : Int)) (by omega), show (k : Int) + 1 = ((k + 1 : Nat) : Int) by omega]
            exact ⟨fun g => absurd g (by decide), fun _ => ih.2 ja jo (k + 1) cnt x4 _ cs rs _ (St1_go h ha) (by omega) (by omega) (by omega) h4⟩
          · have h1 := St1_go h ha
            refine ⟨fun _ => ?_, fun g => absurd rfl g⟩
            refine aKi_of (s1_Reader_takeSign (St1_tx h1) (St1_at h1)) (by omega) (fun z M2 q => ?_)
            obtain ⟨rfl, a3, rfl, ha3⟩ := q
            rw [tSg_sk] at ha3 ⊢
            have h2 := St1_go h1 ha3
            cases e2 : (tSg 40 s).1
            · rw [(tSg_f e2).1] at h2
              refine ⟨fun g => absurd rfl g, fun _ => ?_⟩
              rw [rT_cmp e e2]
              refine aKv_of (s1_Reader_readComparison h2 (by rw [List.length_append]; omega)) (by omega) (fun M3 q => ?_)
              rw [cmpT_sk] at q
              rcases q with ⟨q1, q2⟩ | ⟨q1, q2⟩
              · have c1 := cmp_len q1
                rw [if_neg (by rw [q1]; decide)]
                rw [List.append_assoc] at q2
                exact ok_AFT (by omega) ih.1 q2 (by omega) (by rw [List.length_append]; simp only [List.length_cons, List.length_nil]; omega) (by omega) h4
              · rw [if_pos q1]
                exact bad_AFT (R := ((cmpT s).1, (cmpT s).2.1, (cmpT s).2.2.1, cs, rs)) (by omega) q2
            · refine ⟨fun _ => ⟨fun _ => ?_, fun g => absurd g (by omega)⟩, fun g => absurd g (by decide)⟩
              have hl := congrArg List.length (tSg_t e2)
              simp only [List.length_cons] at hl
              rw [x_add (a := (o : Int)) (by omega), show (o : Int) + 1 = ((o + 1 : Nat) : Int) by omega]
              obtain ⟨R, eR⟩ : ∃ R, rT f (o + 1) false false 0 (tSg 40 s).2 cs rs = R := ⟨_, rfl⟩
              have hlen := rT_len f (o + 1) false false 0 (tSg 40 s).2 cs rs
              rw [eR] at hlen
              rw [rT_br e e2 (by omega) eR]
              refine aKv_of (IH (o + 1) (by omega) (rs := rs) f h2 (by omega) (by omega)) (by omega) (fun M3 q => ?_)
              rw [eR] at q
              rcases q with ⟨q1, q2⟩ | ⟨q1, q2⟩
              · rw [if_neg (fun w => w q1)]
                have hlen := hlen q1
                unfold rLen at hlen
                rw [show bN false = 0 from rfl] at hlen
                refine aKv_of (s1_Reader_expect q2) (by omega) (fun M4 q => ?_)
                rcases q with ⟨e5, q3⟩ | ⟨e5, q3⟩
                · have hl2 := congrArg List.length (tSg_t e5)
                  simp only [List.length_cons] at hl2
                  have hl3 := sk_len R.s
                  rw [if_pos e5]
                  exact ok_AFT (by omega) ih.1 q3 (by omega) (by omega) (by omega) h4
                · rw [if_neg (by rw [e5]; decide)]
                  rw [if_pos rfl, if_pos rfl] at q3
                  exact bad_AFT (R := (1, sk R.s, sk R.s, cs, rs)) (by omega) ⟨by show (1 : Int) ≠ 0; decide, _, _, q3⟩
              · rw [if_pos q1]
                exact kb_exp (by omega) q2 (fun M4 h4 => bad_AFT (by omega) h4)
        refine ⟨?_, g33⟩
        intro ja jo cnt x4 s cs rs M h hs hm hc h4
        refine s1_Reader_readTest_10 (by omega) ?_
        rw [St1_f h]
        exact ⟨fun g => absurd g (by omega), fun _ => ⟨fun g => absurd rfl g, fun _ => ⟨fun g => absurd g h4, fun _ => g33 ja jo 0 cnt x4 s cs rs M h hs (by omega) hc h4⟩⟩⟩
    exact (all f).1 false false 0 1 s cs rs M h hs (by rw [show bN false = 0 from rfl]; omega) (by omega) (by decide)
theorem kb_rt {X : List Int} {cn f p : Int} {M0 M : AM} {d o : Nat} {Q : AM → Prop} (hd : 4 < d) (h : Fb X cn M0 M f p) (K : ∀ M', Fb X cn M0 M' f p → Q M') : aKv s1_G d 44 [aP 35, aI o] M Q := by
  have hc : aCv s1_G 4 44 [aP 35, aI o] M (fun M' => Fb X cn M0 M' f p) := by
    refine ⟨Nat.le_of_ble_eq_true rfl, fun d hd => ?_⟩
    obtain ⟨h0, s, cs, h'⟩ := id h
    refine s1_Reader_readTest_0 (by omega) (s1_Reader_readTest_10 (by omega) ?_)
    rw [St1_f h']
    exact ⟨fun _ => ⟨rfl, h⟩, fun _ => ⟨fun _ => ⟨rfl, h⟩, fun g => absurd g h0⟩⟩
  exact aKv_of hc hd K
