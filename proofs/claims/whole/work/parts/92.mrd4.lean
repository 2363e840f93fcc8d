/-! THE READER in the second system: a test -/
abbrev l41 (x1 x2 : Int) : List (Option AV) := [some (aP 0), some (aI x1), some (aI x2), none, none, none, none]
theorem b2_12 {X : List Int} {cn x1 x2 f p : Int} {M0 M : AM} {d : Nat} {Q : Option AV → AM → Prop} (hd : 3 < d) (h : Fb2 X cn M0 M f p) (HB : ∀ M', Fb2 X cn M0 M' f p → Q (some (aI 0)) M') : aE s2_G d 41 12 [] (l41 x1 x2) [] M Q := by
  obtain ⟨h0, s, C, K, dp, h'⟩ := id h
  refine s2_readTest_12 hd ?_
  rw [St2_f h']
  exact ⟨fun _ => ⟨Or.inl rfl, HB M h⟩, fun q => absurd q h0⟩
/-- nothing that goes on: a fault -/
theorem w2_bad {X u C K : List Int} {cn x1 dp : Int} {M0 M : AM} {d : Nat} {Q : Option AV → AM → Prop} (hd : 6 ≤ d) (h : St2 X cn M0 M 0 (-1) u C K dp) (n41 : hdZ (sk u) = 41 → dp ≤ 0) (n59 : hdZ (sk u) = 59 → dp ≠ 0) (nA : wd (sk u) ≠ wAND) (nO : wd (sk u) ≠ wOR) (nU : wd (sk u) = wUNL → x1 = 0 ∨ dp ≠ 0) (HB : ∀ M', Fb2 X cn M0 M' 1 (X.length - (sk u).length) → Q (some (aI 0)) M') : aE s2_G d 41 12 [] (l41 x1 0) [] M Q := by
  refine s2_readTest_12 (by omega) ?_
  rw [St2_f h]
  refine ⟨fun q => absurd rfl q, fun _ => ⟨fun _ => ?_, fun q => absurd rfl q⟩⟩
  refine k2_here (by omega) h (fun a ha h1 => ?_)
  have hpl := Sfx_pl ha
  rw [St2_dp h1]
  refine ⟨fun g41 => ⟨fun g59 => ?_, fun g59 => ⟨fun _ => ?_, fun q => absurd q (n59 g59)⟩⟩, fun g41 => ⟨fun _ => ?_, fun q => absurd (n41 g41) (by omega)⟩⟩
  · refine aKv_of (s2_takeWord h1) (by omega) (fun M3 q => ?_)
    rw [sk_sk] at q
    obtain ⟨h3, w3, e3⟩ := q
    refine k2_is wAND (by omega) (St2_tx h3) w3 e3 ⟨rfl, by decide, by decide⟩ (fun y => absurd y nA) (fun _ => ?_)
    refine k2_is wOR (by omega) (St2_tx h3) w3 e3 ⟨rfl, by decide, by decide⟩ (fun y => absurd y nO) (fun _ => ?_)
    have pw : M3 0 33 = X.length - (sk u).length := Sfx_pl w3
    have last : aE s2_G d 41 228 [] [some (aP 0), some (aI x1), some (aI 0), none, some (aI 0), some (aI 0), none] [] M3 Q := by
      refine s2_readTest_228 (by omega) (s2_readTest_229 (by omega) ⟨fun _ => ⟨fun q => absurd rfl q, fun _ => ⟨fun _ => ?_, fun q => absurd rfl q⟩⟩, fun q => absurd rfl q⟩)
      refine s2_readTest_260 (by omega) ?_
      refine k2_want (by omega) (by decide) h3 (fun _ q => absurd rfl q) (fun M5 _ h5 _ => ⟨fun _ => s2_readTest_303 (by omega) ?_, fun q => absurd rfl q⟩)
      rw [if_pos rfl, if_pos rfl, pw] at h5
      exact b2_12 (by omega) ⟨by decide, _, _, _, _, h5⟩ HB
    refine k2_is wUNL (by omega) (St2_tx h3) w3 e3 ⟨rfl, by decide, by decide⟩ (fun y => ⟨fun q => absurd q (by decide), fun _ => ⟨fun _ => last, fun q1 => ⟨fun _ => last, fun q2 => ?_⟩⟩⟩) (fun _ => ⟨fun _ => last, fun q => absurd rfl q⟩)
    rw [St2_dp h3] at q2
    rcases nU y with w | w
    · exact absurd w q1
    · exact absurd q2 w
  · refine s2_readTest_138 (by omega) ?_
    rw [x_us]
    refine k2_want (by omega) (by decide) h1 (fun _ q => absurd rfl q) (fun M5 _ h5 _ => ⟨fun _ => s2_readTest_303 (by omega) ?_, fun q => absurd rfl q⟩)
    rw [if_pos rfl, if_pos rfl, hpl] at h5
    exact b2_12 (by omega) ⟨by decide, _, _, _, _, h5⟩ HB
  · refine s2_readTest_63 (by omega) ?_
    rw [x_us]
    refine k2_want (by omega) (by decide) h1 (fun _ q => absurd rfl q) (fun M5 _ h5 _ => ⟨fun _ => s2_readTest_303 (by omega) ?_, fun q => absurd rfl q⟩)
    rw [if_pos rfl, if_pos rfl, hpl] at h5
    exact b2_12 (by omega) ⟨by decide, _, _, _, _, h5⟩ HB
/-- how the reading of tests goes on from an operand awaited -/
def G2 (X : List Int) (cn : Int) (M0 : AM) (P : List Int) (d : Nat) (x1 : Int) (f o : Nat) (ja jo : Bool) (k : Nat) : Prop := ∀ (s cs rs K0 : List Int) (nn : Nat) (M : AM) (Q : Option AV → AM → Prop), o ≤ 8 → isBs K0 → K0.length = nn + o → St2 X cn M0 M 0 (-1) s (P ++ rs) (List.replicate k (-3) ++ (jA ja ++ jO jo ++ K0)) o → s.length < f → 2 * (P.length + rs.length) + 2 * k + 2 * bN ja + 2 * bN jo + 2 * nn + s.length ≤ 200 →
  (∀ M', Fb2 X cn M0 M' (rT f o ja jo k s cs rs).f (X.length - (rT f o ja jo k s cs rs).q.length) → Q (some (aI 0)) M') →
  (∀ (M' : AM) (C0 u : List Int) (ja' jo' : Bool), (rT f o ja jo k s cs rs).f = 0 → St2 X cn M0 M' 0 (-1) u (P ++ C0) (jA ja' ++ jO jo' ++ K0) o → sk u = (rT f o ja jo k s cs rs).s → (rT f o ja jo k s cs rs).rs = C0 ++ jA ja' ++ jO jo' → 2 * (P.length + C0.length) + 2 * bN ja' + 2 * bN jo' + 2 * nn + u.length ≤ 200 → u.length ≤ s.length → aE s2_G d 41 12 [] (l41 x1 0) [] M' Q) →
  aE s2_G d 41 12 [] (l41 x1 1) [] M Q
/-- behind an operand -/
theorem g2_aft {X P u cs rs K0 : List Int} {cn x1 : Int} {M0 M : AM} {d f o k nn : Nat} {ja jo : Bool} {Q : Option AV → AM → Prop} (hd : 7 ≤ d) (IH : ∀ ja jo, G2 X cn M0 P d x1 f o ja jo 0) (ho : o ≤ 8) (hK : isBs K0) (hKl : K0.length = nn + o) (h : St2 X cn M0 M 0 (-1) u (P ++ (rs ++ List.replicate k (-3))) (jA ja ++ jO jo ++ K0) o) (hu : u.length ≤ f) (hm : 2 * (P.length + rs.length) + 2 * k + 2 * bN ja + 2 * bN jo + 2 * nn + u.length ≤ 200) (R : TR) (eR : R = aftT (fun ja jo s cs rs => rT f o ja jo 0 s cs rs) ja jo k u cs rs)
    (HB : ∀ M', Fb2 X cn M0 M' R.f (X.length - R.q.length) → Q (some (aI 0)) M')
    (HO : ∀ (M' : AM) (C0 u' : List Int) (ja' jo' : Bool), R.f = 0 → St2 X cn M0 M' 0 (-1) u' (P ++ C0) (jA ja' ++ jO jo' ++ K0) o → sk u' = R.s → R.rs = C0 ++ jA ja' ++ jO jo' → 2 * (P.length + C0.length) + 2 * bN ja' + 2 * bN jo' + 2 * nn + u'.length ≤ 200 → u'.length ≤ u.length → aE s2_G d 41 12 [] (l41 x1 0) [] M' Q) : aE s2_G d 41 12 [] (l41 x1 0) [] M Q := by
  have a1 := sk_len u
  have a2 := we_len (sk u)
  have nA := bN_le ja
  have nO := bN_le jo
  have lA := jA_len ja
  have lO := jO_len jo
  unfold aftT at eR
  by_cases eA : wd (sk u) = wAND
  · rw [if_pos eA] at eR
    have e3 : (wd (sk u)).length = 3 := by rw [eA]; rfl
    have hh : hdZ (sk u) = 97 := by
      match hs : sk u, eA with
      | [], q => cases q
      | c :: r, q =>
        have : wd (c :: r) = if 97 ≤ c ∧ c ≤ 122 then c :: wd r else [] := rfl
        rw [this] at q
        split at q
        · exact (List.cons.inj q).1
        · cases q
    refine s2_readTest_12 (by omega) ?_
    rw [St2_f h]
    refine ⟨fun q => absurd rfl q, fun _ => ⟨fun _ => ?_, fun q => absurd rfl q⟩⟩
    refine k2_here (by omega) h (fun a ha h1 => ?_)
    rw [hh]
    refine ⟨fun _ => ⟨fun _ => ?_, fun q => absurd q (by decide)⟩, fun q => absurd q (by decide)⟩
    refine aKv_of (s2_takeWord h1) (by omega) (fun M3 q => ?_)
    rw [sk_sk] at q
    obtain ⟨h3, w3, e3'⟩ := q
    refine k2_is wAND (by omega) (St2_tx h3) w3 e3' ⟨rfl, by decide, by decide⟩ (fun _ => ?_) (fun y => absurd eA y)
    refine k2_is wOR (by omega) (St2_tx h3) w3 e3' ⟨rfl, by decide, by decide⟩ (fun y => absurd (eA.symm.trans y) (by decide)) (fun _ => ?_)
    refine k2_is wUNL (by omega) (St2_tx h3) w3 e3' ⟨rfl, by decide, by decide⟩ (fun y => absurd (eA.symm.trans y) (by decide)) (fun _ => ⟨fun _ => ?_, fun q => absurd rfl q⟩)
    refine s2_readTest_228 (by omega) (s2_readTest_229 (by omega) ⟨fun _ => ⟨fun _ => s2_readTest_255 (by omega) ?_, fun q => absurd q (by decide)⟩, fun q => absurd rfl q⟩)
    refine s2_readTest_260 (by omega) ?_
    refine k2_want (by omega) (by decide) h3 (fun _ _ => ⟨fun q => absurd q (by decide), fun _ => ⟨fun q => absurd q (by decide), fun _ => ?_⟩⟩) (fun _ _ _ q => by rcases q with q | q <;> exact absurd q (by decide))
    refine s2_readTest_283 (by omega) ?_
    refine aKv_of (s2_letOut _ _ _ _ h3 (by simp only [List.length_append, List.length_replicate]; omega)) (by omega) (fun M5 h5 => ?_)
    rw [letR_a hK] at h5
    dsimp only at h5
    refine ⟨fun q => absurd q (by decide), fun _ => s2_readTest_298 (by omega) ?_⟩
    refine k2_push (by omega) h5 (by rw [List.length_append]; omega) (fun M6 h6 => s2_readTest_303 (by omega) ?_)
    rw [List.append_assoc P] at h6
    rw [eR] at HB HO
    refine IH true jo (we (sk u)) _ _ K0 nn M6 Q ho hK hKl h6 (by omega) ?_ HB (fun M' C0 u' ja' jo' g0 g1 g2 g3 g4 g5 => HO M' C0 u' ja' jo' g0 g1 g2 g3 g4 (by omega))
    rw [show bN true = 1 from rfl]
    simp only [List.length_append, List.length_replicate]
    omega
  · rw [if_neg eA] at eR
    by_cases eO : wd (sk u) = wOR
    · rw [if_pos eO] at eR
      have e3 : (wd (sk u)).length = 2 := by rw [eO]; rfl
      have hh : hdZ (sk u) = 111 := by
        match hs : sk u, eO with
        | [], q => cases q
        | c :: r, q =>
          have : wd (c :: r) = if 97 ≤ c ∧ c ≤ 122 then c :: wd r else [] := rfl
          rw [this] at q
          split at q
          · exact (List.cons.inj q).1
          · cases q
      refine s2_readTest_12 (by omega) ?_
      rw [St2_f h]
      refine ⟨fun q => absurd rfl q, fun _ => ⟨fun _ => ?_, fun q => absurd rfl q⟩⟩
      refine k2_here (by omega) h (fun a ha h1 => ?_)
      rw [hh]
      refine ⟨fun _ => ⟨fun _ => ?_, fun q => absurd q (by decide)⟩, fun q => absurd q (by decide)⟩
      refine aKv_of (s2_takeWord h1) (by omega) (fun M3 q => ?_)
      rw [sk_sk] at q
      obtain ⟨h3, w3, e3'⟩ := q
      refine k2_is wAND (by omega) (St2_tx h3) w3 e3' ⟨rfl, by decide, by decide⟩ (fun y => absurd y eA) (fun _ => ?_)
      refine k2_is wOR (by omega) (St2_tx h3) w3 e3' ⟨rfl, by decide, by decide⟩ (fun _ => ?_) (fun y => absurd eO y)
      refine k2_is wUNL (by omega) (St2_tx h3) w3 e3' ⟨rfl, by decide, by decide⟩ (fun y => absurd (eO.symm.trans y) (by decide)) (fun _ => ⟨fun _ => ?_, fun q => absurd rfl q⟩)
      refine s2_readTest_228 (by omega) (s2_readTest_229 (by omega) ⟨fun _ => ⟨fun q => absurd rfl q, fun _ => ⟨fun q => absurd q (by decide), fun _ => s2_readTest_255 (by omega) ?_⟩⟩, fun q => absurd rfl q⟩)
      refine s2_readTest_260 (by omega) ?_
      refine k2_want (by omega) (by decide) h3 (fun _ _ => ⟨fun q => absurd q (by decide), fun _ => ⟨fun _ => ?_, fun q => absurd rfl q⟩⟩) (fun _ _ _ q => by rcases q with q | q <;> exact absurd q (by decide))
      refine s2_readTest_283 (by omega) ?_
      refine aKv_of (s2_letOut _ _ _ _ h3 (by simp only [List.length_append, List.length_replicate]; omega)) (by omega) (fun M5 h5 => ?_)
      rw [letR_o hK] at h5
      dsimp only at h5
      refine ⟨fun _ => s2_readTest_298 (by omega) ?_, fun q => absurd rfl q⟩
      refine k2_push (by omega) h5 (by omega) (fun M6 h6 => s2_readTest_303 (by omega) ?_)
      rw [List.append_assoc P, ← List.append_assoc _ (jA ja) (jO jo)] at h6
      rw [eR] at HB HO
      refine IH false true (we (sk u)) _ _ K0 nn M6 Q ho hK hKl h6 (by omega) ?_ HB (fun M' C0 u' ja' jo' g0 g1 g2 g3 g4 g5 => HO M' C0 u' ja' jo' g0 g1 g2 g3 g4 (by omega))
      rw [show bN true = 1 from rfl, show bN false = 0 from rfl]
      simp only [List.length_append, List.length_replicate]
      omega
    · rw [if_neg eO] at eR
      refine HO M (rs ++ List.replicate k (-3)) u ja jo (by rw [eR]) h (by rw [eR]) (by rw [eR]) ?_ (Nat.le_refl _)
      simp only [List.length_append, List.length_replicate]
      omega
