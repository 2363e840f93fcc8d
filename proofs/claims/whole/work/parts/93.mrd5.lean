/-! THE READER in the second system: a test read -/
theorem g2_all {X P : List Int} {cn x1 : Int} {M0 : AM} {d : Nat} (hd : 7 ≤ d) : ∀ (f o : Nat) (ja jo : Bool) (k : Nat), G2 X cn M0 P d x1 f o ja jo k := by
  intro f
  induction f with
  | zero => intro o ja jo k s cs rs K0 nn M Q _ _ _ _ hs; exact absurd hs (by omega)
  | succ f ih =>
    intro o ja jo k s cs rs K0 nn M Q ho hK hKl h hs hm HB HO
    have a1 := sk_len s
    have a2 := we_len (sk s)
    have nA := bN_le ja
    have nO := bN_le jo
    have lA := jA_len ja
    have lO := jO_len jo
    have hX := (St2_tx h).2.2.1
    refine s2_readTest_12 (by omega) ?_
    rw [St2_f h]
    refine ⟨fun q => absurd rfl q, fun _ => ⟨fun q => absurd q (by decide), fun _ => ?_⟩⟩
    refine aKi_of (s2_readOne h (by simp only [List.length_append, List.length_replicate]; omega) (by omega)) (by omega) (fun z M1 q => ?_)
    rcases q with ⟨rfl, e, h1⟩ | ⟨rfl, e, e2, g8, h1⟩ | ⟨rfl, e, e2, g8, h1⟩ | ⟨rfl, e, e2, q⟩
    · -- not
      have e3 : (wd (sk s)).length = 3 := by rw [e]; rfl
      rw [rT_no e] at HB HO
      refine ⟨fun q => absurd rfl q, fun _ => s2_readTest_35 (by omega) ?_⟩
      exact ih o ja jo (k + 1) (we (sk s)) cs rs K0 nn M1 Q ho hK hKl h1 (by omega) (by omega) HB (fun M' C0 u' ja' jo' g0 g1 g2 g3 g4 g5 => HO M' C0 u' ja' jo' g0 g1 g2 g3 g4 (by omega))
    · -- a bracket
      refine ⟨fun q => absurd rfl q, fun _ => s2_readTest_35 (by omega) ?_⟩
      have hl := congrArg List.length (tSg_t e2)
      simp only [List.length_cons] at hl
      obtain ⟨R, eR⟩ : ∃ R, rT f (o + 1) false false 0 (tSg 40 s).2 cs rs = R := ⟨_, rfl⟩
      have hlen := rT_len f (o + 1) false false 0 (tSg 40 s).2 cs rs
      rw [eR] at hlen
      rw [rT_br e e2 (by omega) eR] at HB HO
      have h1' : St2 X cn M0 M1 0 (-1) (tSg 40 s).2 (P ++ rs) (List.replicate 0 (-3) ++ (jA false ++ jO false ++ (40 :: (List.replicate k (-3) ++ (jA ja ++ jO jo ++ K0))))) ((o + 1 : Nat) : Int) := h1
      refine ih (o + 1) false false 0 (tSg 40 s).2 cs rs (40 :: (List.replicate k (-3) ++ (jA ja ++ jO jo ++ K0))) (nn + k + bN ja + bN jo) M1 Q (by omega) (Or.inr ⟨_, rfl⟩) ?_ h1' (by omega) ?_ ?_ ?_
      · simp only [List.length_append, List.length_replicate, List.length_cons]; omega
      · rw [show bN false = 0 from rfl]; omega
      · intro M' hb
        rw [eR] at hb
        rw [if_pos hb.1] at HB
        exact HB M' hb
      · intro M' C0 u ja' jo' g0 g1 g2 g3 g4 g5
        rw [eR] at g0 g2 g3
        rw [if_neg (fun w => w g0)] at HB HO
        have hlen := hlen g0
        unfold rLen at hlen
        rw [show bN false = 0 from rfl] at hlen
        have lA' := jA_len ja'
        have lO' := jO_len jo'
        have hsku : wd (sk u) = wd R.s := by rw [g2]
        by_cases e5 : (tSg 41 R.s).1 = true
        · -- closed
          rw [if_pos e5] at HB HO
          have et := tSg_t e5
          rw [show sk R.s = R.s from hlen.2.2.2.1] at et
          have hl2 := congrArg List.length et
          simp only [List.length_cons] at hl2
          have hsu := sk_len u
          rw [g2] at hsu
          refine s2_readTest_12 (by omega) ?_
          rw [St2_f g1]
          refine ⟨fun q => absurd rfl q, fun _ => ⟨fun _ => ?_, fun q => absurd rfl q⟩⟩
          refine k2_here (by omega) g1 (fun a ha h3 => ?_)
          rw [g2, et] at ha h3 ⊢
          rw [St2_dp h3]
          refine ⟨fun q => absurd rfl q, fun _ => ⟨fun q => absurd q (by omega), fun _ => ?_⟩⟩
          refine s2_readTest_63 (by omega) ?_
          refine k2_want (by omega) (by decide) h3 (fun _ _ => ⟨fun q => absurd q (by decide), fun _ => ?_⟩) (fun _ _ _ q => by rcases q with q | q <;> exact absurd q (by decide))
          refine aKv_of (s2_letOut _ _ _ _ h3 (by simp only [List.length_append, List.length_replicate, List.length_cons]; omega)) (by omega) (fun M5 h5 => ?_)
          rw [letR_o (Or.inr ⟨_, rfl⟩)] at h5
          dsimp only at h5
          rw [List.append_assoc P, ← List.append_assoc C0, ← g3] at h5
          have hTl : (List.replicate k (-3) ++ (jA ja ++ jO jo ++ K0)).length ≤ 120 := by simp only [List.length_append, List.length_replicate]; omega
          obtain ⟨T, eT⟩ : ∃ T, T = List.replicate k (-3) ++ (jA ja ++ jO jo ++ K0) := ⟨_, rfl⟩
          rw [← eT] at h5 hTl
          obtain ⟨-, h6⟩ := St2_pop h5
          have h37 := (St2_K h5).1
          simp only [List.length_cons] at h37
          have ha5 := St2_at h5
          have hr5 := Sfx_rg ha5
          simp only [List.length_cons] at hr5
          rw [h37, show a_sub ((T.length + 1 : Nat) : Int) 1 = T.length from by rw [x_sub (by omega)]; omega]
          have h7 : St2 X cn M0 (am_up (am_up (am_up M5 0 37 T.length) 0 38 (a_sub ((am_up M5 0 37 T.length) 0 38) 1)) 0 30 (a_add ((am_up (am_up M5 0 37 T.length) 0 38 (a_sub ((am_up M5 0 37 T.length) 0 38) 1)) 0 30) 1)) 0 (-1) (tSg 41 R.s).2 (P ++ R.rs) T o := by
            rw [St2_dp h6, x_sub (by omega), x_uf (i := 38) (i' := 30) (by decide), x_uf (i := 37) (i' := 30) (by decide), x_add (by omega)]
            refine St2_mv h6 (fr_up (fr_up fr_rf rfl) rfl) (by rw [x_us]; exact Sfx_nx ha5) ?_ ?_ ?_
            · rw [x_uf (by decide), x_uf (by decide)]; exact St2_f h6
            · rw [x_uf (by decide), x_uf (by decide)]; exact St2_p h6
            · rw [x_uf (by decide), x_us]; omega
          rw [eT] at h7 ⊢
          refine aKv_of (s2_letOut _ _ _ _ h7 (by simp only [List.length_append, List.length_replicate]; omega)) (by omega) (fun M8 h8 => s2_readTest_303 (by omega) ?_)
          rw [letR_n (lvl_hd hK)] at h8
          dsimp only at h8
          rw [List.append_assoc P] at h8
          exact g2_aft (cs := R.cs) (k := k) hd (fun ja jo => ih o ja jo 0) ho hK hKl h8 (by omega) (by omega) _ rfl HB (fun M' C0 u' ja' jo' g0 g1 g2 g3 g4 g5 => HO M' C0 u' ja' jo' g0 g1 g2 g3 g4 (by omega))
        · -- not closed
          rw [if_neg e5] at HB
          refine w2_bad (by omega) g1 (fun q => ?_) (fun _ => by omega) (by rw [hsku]; exact hlen.2.2.2.2.1) (by rw [hsku]; exact hlen.2.2.2.2.2) (fun _ => Or.inr (by omega)) (fun M' hb => HB M' ?_)
          · exfalso
            rw [g2] at q
            apply e5
            match hRs : R.s, q with
            | [], q => exact absurd q (by decide)
            | c :: r, q =>
              have hq : c = 41 := q
              have hs2 : sk (c :: r) = c :: r := by rw [← hRs]; exact hlen.2.2.2.1
              rw [tSg_c hs2, if_pos hq]
          · rw [g2] at hb
            show Fb2 X cn M0 M' 1 (X.length - (sk R.s).length)
            rw [show sk R.s = R.s from hlen.2.2.2.1]
            exact hb
    · -- too deep
      rw [rT_deep e e2 (by omega)] at HB
      exact ⟨fun q => absurd rfl q, fun _ => s2_readTest_35 (by omega) (b2_12 (by omega) h1 HB)⟩
    · -- a comparison
      rw [rT_cmp e e2] at HB HO
      refine ⟨fun _ => s2_readTest_35 (by omega) ?_, fun q => absurd q (by decide)⟩
      rcases q with ⟨q1, q2⟩ | ⟨q1, q2⟩
      · rw [if_neg (fun w => w q1)] at HB HO
        have c1 := cmp_len q1
        rw [letR_n (lvl_hd hK)] at q2
        dsimp only at q2
        rw [List.append_assoc P, List.append_assoc P] at q2
        exact g2_aft (cs := cs ++ [(cmpT s).2.2.2]) (k := k) hd (fun ja jo => ih o ja jo 0) ho hK hKl q2 (by omega) (by rw [List.length_append]; simp only [List.length_cons, List.length_nil]; omega) _ rfl HB (fun M' C0 u' ja' jo' g0 g1 g2 g3 g4 g5 => HO M' C0 u' ja' jo' g0 g1 g2 g3 g4 (by omega))
      · rw [if_pos q1] at HB
        exact b2_12 (by omega) q2 HB
/-- what a test leaves: a fault, or its codes and whether 'unless' follows -/
def QT (X : List Int) (cn : Int) (M0 : AM) (P : List Int) (x1 : Int) (R : TR) (z : Int) (M' : AM) : Prop :=
  (z = 0 ∧ R.f ≠ 0 ∧ Fb2 X cn M0 M' R.f (X.length - R.q.length)) ∨
  (z = 1 ∧ R.f = 0 ∧ x1 ≠ 0 ∧ wd R.s = wUNL ∧ St2 X cn M0 M' 0 (-1) (we R.s) (P ++ R.rs) [] 0) ∨
  (z = 0 ∧ R.f = 0 ∧ (wd R.s = wUNL → x1 = 0) ∧ (tSg 59 R.s).1 = true ∧ St2 X cn M0 M' 0 (-1) R.s (P ++ R.rs) [] 0) ∨
  (z = 0 ∧ R.f = 0 ∧ (wd R.s = wUNL → x1 = 0) ∧ (tSg 59 R.s).1 = false ∧ Fb2 X cn M0 M' 1 (X.length - R.s.length))
theorem s2_readTest {X P s K : List Int} {cn x1 dp : Int} {M0 M : AM} (h : St2 X cn M0 M 0 (-1) s P K dp) (hm : 2 * P.length + s.length ≤ 200) : aCi s2_G 7 41 [aP 0, aI x1] M (QT X cn M0 P x1 (tst0 s)) := by
  refine ⟨Nat.le_of_ble_eq_true rfl, fun d hd => ?_⟩
  refine s2_readTest_0 (by omega) ?_
  unfold tst0
  have hX := (St2_tx h).2.2.1
  have hs := Sfx_rg (St2_at h)
  have h0 : St2 X cn M0 (am_up (am_up M 0 37 0) 0 38 0) 0 (-1) s P [] 0 := by
    have g : fr (wr [] [(0, 37), (0, 38)]) M (am_up (am_up M 0 37 0) 0 38 0) := fr_up (fr_up fr_rf rfl) rfl
    refine ⟨Tx2_fw (St2_tx h) g rfl, fr_tr (St2_fr h) (fr_mo g rfl), by rw [g 0 30 rfl]; exact St2_at h, (g 0 31 rfl).trans (St2_f h), (g 0 32 rfl).trans (St2_p h), by rw [g 0 18 rfl]; exact St2_cn h, (g 0 35 rfl).trans (St2_n h), fun i hi => ?_, fun k hk => ?_, ⟨?_, isL_nil⟩, x_us⟩
    · rw [g 22 i rfl]; exact St2_lo h i hi
    · rw [g 22 _ rfl]; exact St2_hi h k hk
    · rw [x_uf (by decide), x_us]; rfl
  have h1 : St2 X cn M0 (am_up (am_up M 0 37 0) 0 38 0) 0 (-1) s (P ++ []) (List.replicate 0 (-3) ++ (jA false ++ jO false ++ [])) ((0 : Nat) : Int) := by rw [List.append_nil]; exact h0
  have hlen := rT_len 201 0 false false 0 s [] []
  refine g2_all hd 201 0 false false 0 s [] [] [] 0 _ _ (by decide) (Or.inl rfl) rfl h1 (by omega) (by rw [show bN false = 0 from rfl, List.length_nil]; omega) (fun M' hb => ⟨_, rfl, Or.inl ⟨rfl, hb.1, hb⟩⟩) (fun M' C0 u ja' jo' g0 g1 g2 g3 g4 g5 => ?_)
  generalize rT 201 0 false false 0 s [] [] = R at hlen g0 g2 g3 ⊢
  have hlen := hlen g0
  unfold rLen at hlen
  have lA' := jA_len ja'
  have lO' := jO_len jo'
  have hsk : sk R.s = R.s := hlen.2.2.2.1
  rw [List.append_nil] at g1
  have hsku : wd (sk u) = wd R.s := by rw [g2]
  -- what is at the end
  by_cases eU : wd R.s = wUNL ∧ x1 ≠ 0
  · have hh : hdZ (sk u) = 117 := by
      rw [g2]
      match hs : R.s, eU.1 with
      | [], q => cases q
      | c :: r, q =>
        have : wd (c :: r) = if 97 ≤ c ∧ c ≤ 122 then c :: wd r else [] := rfl
        rw [this] at q
        split at q
        · exact (List.cons.inj q).1
        · cases q
    refine s2_readTest_12 (by omega) ?_
    rw [St2_f g1]
    refine ⟨fun q => absurd rfl q, fun _ => ⟨fun _ => ?_, fun q => absurd rfl q⟩⟩
    refine k2_here (by omega) g1 (fun a ha h1 => ?_)
    rw [hh]
    refine ⟨fun _ => ⟨fun _ => ?_, fun q => absurd q (by decide)⟩, fun q => absurd q (by decide)⟩
    refine aKv_of (s2_takeWord h1) (by omega) (fun M3 q => ?_)
    rw [sk_sk] at q
    obtain ⟨h3, w3, e3⟩ := q
    have eq : wd (sk u) = wUNL := hsku.trans eU.1
    refine k2_is wAND (by omega) (St2_tx h3) w3 e3 ⟨rfl, by decide, by decide⟩ (fun y => absurd (eq.symm.trans y) (by decide)) (fun _ => ?_)
    refine k2_is wOR (by omega) (St2_tx h3) w3 e3 ⟨rfl, by decide, by decide⟩ (fun y => absurd (eq.symm.trans y) (by decide)) (fun _ => ?_)
    refine k2_is wUNL (by omega) (St2_tx h3) w3 e3 ⟨rfl, by decide, by decide⟩ (fun _ => ⟨fun q => absurd q (by decide), fun _ => ⟨fun q => absurd q eU.2, fun _ => ⟨fun q => absurd (St2_dp h3) q, fun _ => ?_⟩⟩⟩) (fun y => absurd eq y)
    refine s2_readTest_229 (by omega) ⟨fun q => absurd q (by decide), fun _ => ?_⟩
    refine aKv_of (s2_letOut _ _ _ _ h3 (by simp only [List.length_append]; omega)) (by omega) (fun M5 h5 => ?_)
    have hlo := letR_o (ja := ja') (jo := jo') (K := []) (Or.inl rfl)
    rw [List.append_nil] at hlo
    rw [hlo] at h5
    dsimp only at h5
    rw [List.append_assoc P, ← List.append_assoc C0, ← g3, g2] at h5
    exact ⟨Or.inr rfl, _, rfl, Or.inr (Or.inl ⟨rfl, g0, eU.2, eU.1, h5⟩)⟩
  · have nU : wd R.s = wUNL → x1 = 0 := fun y => Decidable.not_not.mp (fun q => eU ⟨y, q⟩)
    by_cases e9 : (tSg 59 R.s).1 = true
    · have et := tSg_t e9
      rw [hsk] at et
      refine s2_readTest_12 (by omega) ?_
      rw [St2_f g1]
      refine ⟨fun q => absurd rfl q, fun _ => ⟨fun _ => ?_, fun q => absurd rfl q⟩⟩
      refine k2_here (by omega) g1 (fun a ha h1 => ?_)
      rw [g2] at h1 ⊢
      rw [show hdZ R.s = 59 by rw [et]; rfl, St2_dp h1]
      refine ⟨fun _ => ⟨fun q => absurd rfl q, fun _ => ⟨fun q => absurd rfl q, fun _ => ?_⟩⟩, fun q => absurd q (by decide)⟩
      refine s2_readTest_138 (by omega) ?_
      refine k2_want (by omega) (by decide) h1 (fun _ _ => ⟨fun q => absurd q (by decide), fun _ => ?_⟩) (fun _ _ _ q => by rcases q with q | q <;> exact absurd q (by decide))
      refine aKv_of (s2_letOut _ _ _ _ h1 (by simp only [List.length_append]; omega)) (by omega) (fun M5 h5 => ?_)
      have hlo := letR_o (ja := ja') (jo := jo') (K := []) (Or.inl rfl)
      rw [List.append_nil] at hlo
      rw [hlo] at h5
      dsimp only at h5
      rw [List.append_assoc P, ← List.append_assoc C0, ← g3] at h5
      exact ⟨Or.inl rfl, _, rfl, Or.inr (Or.inr (Or.inl ⟨rfl, g0, nU, e9, h5⟩))⟩
    · have e9' : (tSg 59 R.s).1 = false := by
        cases e : (tSg 59 R.s).1
        · rfl
        · exact absurd e e9
      refine w2_bad (by omega) g1 (fun _ => Int.le_refl _) (fun q => ?_) (by rw [hsku]; exact hlen.2.2.2.2.1) (by rw [hsku]; exact hlen.2.2.2.2.2) (fun y => Or.inl (nU (by rw [← hsku]; exact y))) (fun M' hb => ?_)
      · exfalso
        rw [g2] at q
        apply e9
        match hRs : R.s, q with
        | [], q => exact absurd q (by decide)
        | c :: r, q =>
          have hq : c = 59 := q
          have hs2 : sk (c :: r) = c :: r := by rw [← hRs]; exact hsk
          rw [tSg_c hs2, if_pos hq]
      · rw [g2] at hb
        exact ⟨_, rfl, Or.inr (Or.inr (Or.inr ⟨rfl, g0, nU, e9', hb⟩))⟩
