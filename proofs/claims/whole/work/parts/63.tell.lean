/-! THE STORY in the first system: a man taken in, and the whole told -/
theorem or4 {A B C E : Int} (ha : A = 0 ∨ A = 1) (hb : B = 0 ∨ B = 2) (hc : C = 0 ∨ C = 4) (he : E = 0 ∨ E = 8) : a_or (a_or (a_or A B) C) E = A + B + C + E := by
  rcases ha with rfl | rfl <;> rcases hb with rfl | rfl <;> rcases hc with rfl | rfl <;> rcases he with rfl | rfl <;> decide +kernel
/-- what stays the same all through a paper -/
def TC (D : AM) (w i n : Int) : Prop :=
  (0 ≤ w) ∧
  (0 ≤ i) ∧
  (i + 1 ≤ 150) ∧
  (0 ≤ n ∧ n < D 0 7) ∧
  (0 ≤ D 8 n ∧ D 8 n < D 0 3) ∧
  (0 ≤ D 9 n ∧ D 9 n < D 0 1)
theorem TC_w0 {D : AM} {w i n : Int} (h : TC D  w i n ) : 0 ≤ w := h.1
theorem TC_i0 {D : AM} {w i n : Int} (h : TC D  w i n ) : 0 ≤ i := h.2.1
theorem TC_i1 {D : AM} {w i n : Int} (h : TC D  w i n ) : i + 1 ≤ 150 := h.2.2.1
theorem TC_n {D : AM} {w i n : Int} (h : TC D  w i n ) : 0 ≤ n ∧ n < D 0 7 := h.2.2.2.1
theorem TC_l {D : AM} {w i n : Int} (h : TC D  w i n ) : 0 ≤ D 8 n ∧ D 8 n < D 0 3 := h.2.2.2.2.1
theorem TC_p {D : AM} {w i n : Int} (h : TC D  w i n ) : 0 ≤ D 9 n ∧ D 9 n < D 0 1 := h.2.2.2.2.2
def endT (D : AM) (w i n : Int) (s : Sg) : Sg := fallN D (D 8 n) (kepS D (bk D w) (entS D s n i) (D 8 n) (D 9 n) (D 6 n)) n 3 12 (entS D s n i)
theorem s1_ti_289 {D M : AM} {w i n : Int} {s : Sg} {d : Nat} (hd : 10 ≤ d) (hI : Inv D) (hC : TC D w i n) (hS : SI D (i + 1) s) (hR : ∀ b, rm D (D 8 n) b n 3 s) (hT : T1 D w s M) : aE s1_G d 71 289 [] [some (aP 37), some (aI n), none, some (aI (D 8 n)), some (aI (D 9 n)), none, some (aI (D 6 n)), none, none, none] [] M (fun r M' => r = none ∧ fr wE M M' ∧ T1 D w (fallN D (D 8 n) (kepS D (bk D w) s (D 8 n) (D 9 n) (D 6 n)) n 3 12 s) M') := by
  refine s1_Story_takeIn_289 (by omega) ?_
  have hnl := Inv_nl hI
  have hl := TC_l hC
  have hp := TC_p hC
  refine aKi_of (s1_Story_otherToKeep hI hS (TC_w0 hC) hT (by omega) hp (Inv_pd hI n)) (by omega) (fun z M1 q => ?_)
  obtain ⟨q1, q2, rfl⟩ := q
  refine aKv_of (s1_Story_fallFromAllBut hI hS (hR _) (T1_c hT q1 q2) (TC_n hC) hp (by omega)) (by omega) (fun M2 q => ?_)
  exact ⟨rfl, fr_tr (fr_mo q1 rfl) q.1, q.2⟩
theorem rm_ent {D : AM} {w i n : Int} {s : Sg} (hI : Inv D) (hC : TC D w i n) (hS : SI D i s) (hL : SL D i s) : ∀ b, rm D (D 8 n) b n 3 (entS D s n i) := by
  intro b m hm
  obtain ⟨g1, g2⟩ := SL_ent' hI hS hL (TC_n hC) (TC_l hC) (TC_p hC)
  refine SL_mono (SL_fallN hI (by omega) (TC_n hC) m _ hm (SI_ent hS (TC_i0 hC) (TC_l hC) (TC_p hC)) g1 (fun x hne => ?_)) (TC_i1 hC)
  rw [g2 x hne]
  have := SL_liv hL x
  omega
theorem s1_ti_223 {D M : AM} {w i n : Int} {s : Sg} {d : Nat} (hd : 10 ≤ d) (hI : Inv D) (hC : TC D w i n) (hS : SI D i s) (hL : SL D i s) (hT : T1 D w s M) : aE s1_G d 71 223 [] [some (aP 37), some (aI n), some (aI i), some (aI (D 8 n)), some (aI (D 9 n)), none, some (aI (D 6 n)), none, none, none] [] M (fun r M' => r = none ∧ fr wE M M' ∧ T1 D w (endT D w i n s) M') := by
  refine s1_Story_takeIn_223 (by omega) ?_
  have hnl := Inv_nl hI
  have hnp := Inv_np hI
  have hl := TC_l hC
  have hp := TC_p hC
  have hi0 := TC_i0 hC
  have hi1 := TC_i1 hC
  obtain ⟨hB, hw, hQ⟩ := id hT
  have hS3 := SI_ent hS hi0 hl hp
  have hR := rm_ent hI hC hS hL
  unfold endT
  refine aKi_of (s1_Story_isHolder hQ (l := D 8 n) (p := D 9 n) (by omega) (by omega)) (by omega) (fun z M1 q => ?_)
  obtain ⟨rfl, rfl⟩ := q
  cases hh : hasH (s.h (D 8 n)) (D 9 n)
  · have hl39 := SI_len2 hI hS hp hh
    refine ⟨fun h => absurd rfl h, fun _ => ⟨by omega, by omega, by omega, by omega, by omega, by omega, ?_⟩⟩
    obtain ⟨pn, epn⟩ : ∃ pn : Nat, D 9 n = pn := ⟨(D 9 n).toNat, by omega⟩
    obtain ⟨Z, eZ⟩ : ∃ Z, Z = a_lor (M1 38 (D 8 n)) (a_lshl 1 (D 9 n)) := ⟨_, rfl⟩
    rw [← eZ]
    obtain ⟨L', eL⟩ : ∃ L', L' = s.h (D 8 n) ++ [(D 9 n, i)] := ⟨_, rfl⟩
    have hZ : lset Z 40 (fun p => hasH L' p) := by
      rw [eZ, epn]
      refine lset_cg (lset_add (Q1_h hQ _ hl.1 (by omega)) (c := pn) (by omega)) (fun q hq => ?_)
      rw [eL]
      unfold hasH
      rw [List.any_append, List.any_cons, List.any_nil, Bool.or_false]
      congr 1
      simp
      omega
    have hLn : L'.Pairwise (fun a b => a.1 ≠ b.1) := by
      have := SI_hn hS3 (D 8 n)
      unfold entS at this
      rw [hh, if_neg (by simp)] at this
      dsimp only [Sg.h] at this
      rw [upl_s, ← eL] at this
      exact this
    have hLp : ∀ e ∈ L', 0 ≤ e.1 ∧ e.1 < 40 := fun e he => by
      rw [eL] at he
      rcases List.mem_append.mp he with he | he
      · have := (SI_hp hS _ e.1 e.2 he).2.1; omega
      · simp at he; rw [he]; dsimp only; omega
    have hLl : L'.length = (s.h (D 8 n)).length + 1 := by rw [eL]; simp
    have hln := Q1_ln hQ
    have hlen := SL_len hL
    have hent := SL_ent hL
    have hbal := SL_bal hL
    obtain ⟨M2, eM2⟩ : ∃ M2, M2 = am_up (am_up (am_up (am_up M1 38 (D 8 n) Z) 39 (D 8 n * 40 + D 9 n) i) 52 (D 8 n) (-1)) 53 (D 8 n) (-1) := ⟨_, rfl⟩
    rw [← eM2]
    have f2 : fr (wr [38, 39, 52, 53] []) M1 M2 := by rw [eM2]; exact fr_up (fr_up (fr_up (fr_up fr_rf rfl) rfl) rfl) rfl
    have m38 : M2 38 = up1 (M1 38) (D 8 n) Z := by rw [eM2]; simp (decide := true) only [x_uk, x_uu]
    have m39 : M2 39 = up1 (M1 39) (D 8 n * 40 + D 9 n) i := by rw [eM2]; simp (decide := true) only [x_uk, x_uu]
    have m52 : M2 52 = up1 (M1 52) (D 8 n) (-1) := by rw [eM2]; simp (decide := true) only [x_uk, x_uu]
    have m53 : M2 53 = up1 (M1 53) (D 8 n) (-1) := by rw [eM2]; simp (decide := true) only [x_uk, x_uu]
    refine aKi_of (s1_Story_holderCount (M := M2) (L := L') (by rw [m38, up1_s]; exact hZ) (by omega) hLn hLp) (by omega) (fun z M3 q => ?_)
    obtain ⟨rfl, rfl⟩ := q
    refine aKv_of (s1_Changes_note (k := s.lg.length) ((f2 62 6 rfl).trans hln) (by omega) (Or.inl rfl)) (by omega) (fun M4 q => ?_)
    subst q
    have fN : fr (wr [63, 64, 65, 66, 67, 68] [(62, 6)]) M3 (noteM M3 s.lg.length (D 8 n) (D 9 n) 0 (D 6 n) n L'.length) := noteM_fr
    have fA : fr (wr [38, 39, 52, 53, 63, 64, 65, 66, 67, 68] [(62, 6)]) M1 (noteM M3 s.lg.length (D 8 n) (D 9 n) 0 (D 6 n) n L'.length) := fr_tr (fr_mo f2 rfl) (fr_mo fN rfl)
    have hT3 : T1 D w (entS D s n i) (noteM M3 s.lg.length (D 8 n) (D 9 n) 0 (D 6 n) n L'.length) := by
      refine ⟨B1_wE0 hB fA rfl, (fA 6 9 rfl).trans hw, ?_⟩
      unfold entS
      rw [hh, if_neg (by simp), ← eL]
      have hnote := Q1_note (D := D) (M := M3) (s := s) (k := s.lg.length) (l := D 8 n) (p := D 9 n) (f := 0) (n := n) (z := L'.length) ⟨(f2 62 6 rfl).trans hln, fun k hk => by
        have := Q1_lg hQ k hk
        rw [f2 66 k rfl, f2 67 k rfl, f2 68 k rfl, f2 64 k rfl, f2 65 k rfl, f2 63 k rfl]
        exact this⟩ rfl
      rw [show ((s.h (D 8 n)).length : Int) + 1 = (L'.length : Int) by omega]
      refine ⟨fun x x0 x1 => ?_, fun x p c x0 x1 hm => ?_, fun x x0 x1 => ?_, fun x x0 x1 => ?_, fun x x0 x1 => ?_, fun x x0 x1 => ?_, fun x x0 x1 => ?_, ?_, fun k hk => ?_, hnote.1, hnote.2, fun m hm => ?_⟩
      · rw [fN 38 x rfl, m38]
        dsimp only [Sg.h]
        by_cases e : x = D 8 n
        · subst e; rw [up1_s, upl_s]; exact hZ
        · rw [up1_n e, upl_n e]; exact Q1_h hQ x x0 x1
      · rw [fN 39 (x * 40 + p) rfl, m39]
        dsimp only [Sg.h] at hm
        by_cases e : x = D 8 n
        · subst e
          rw [upl_s, eL] at hm
          rcases List.mem_append.mp hm with hm | hm
          · have hne : p ≠ D 9 n := fun q => by
              have : hasH (s.h (D 8 n)) (D 9 n) = true := hasH_t.mpr ⟨c, by rw [← q]; exact hm⟩
              rw [this] at hh; cases hh
            rw [up1_n (by omega)]
            exact Q1_c hQ _ p c x0 x1 hm
          · simp at hm
            rw [hm.1, hm.2, up1_s]
        · rw [upl_n e] at hm
          have hpr := (SI_hp hS x p c hm).2.1
          rw [up1_n (by omega)]
          exact Q1_c hQ x p c x0 x1 hm
      · rw [fN 52 x rfl, m52]
        dsimp only [Sg.ef]
        unfold up1
        split
        · rfl
        · exact Q1_ef hQ x x0 x1
      · rw [fN 53 x rfl, m53]
        dsimp only [Sg.eb]
        unfold up1
        split
        · rfl
        · exact Q1_eb hQ x x0 x1
      · rw [fA 57 x rfl]; exact Q1_ra (s := s) hQ x x0 x1
      · rw [fA 58 x rfl]; exact Q1_rb (s := s) hQ x x0 x1
      · rw [fA 59 x rfl]; exact Q1_tn (s := s) hQ x x0 x1
      · rw [fA 56 5 rfl]; exact Q1_sn (s := s) hQ
      · rw [fA 60 k rfl, fA 61 k rfl]; exact Q1_so (s := s) hQ k hk
      · rw [fA 54 m rfl]; exact Q1_rs (s := s) hQ m hm
    refine aE_mono _ _ _ _ _ _ _ _ _ (fun r M' q => ?_) (s1_ti_289 hd hI hC hS3 hR hT3)
    exact ⟨q.1, fr_tr (fr_mo fA rfl) q.2.1, q.2.2⟩
  · have ee : entS D s n i = s := by unfold entS; rw [hh]; rfl
    rw [ee] at hS3 hR ⊢
    exact ⟨fun _ => s1_ti_289 hd hI hC hS3 hR hT, fun h => absurd h (by decide)⟩
theorem s1_ti_215 {D M : AM} {w i n : Int} {s : Sg} {d : Nat} (hd : 10 ≤ d) (hI : Inv D) (hC : TC D w i n) (hS : SI D i s) (hL : SL D i s) (hT : T1 D w s M) : aE s1_G d 71 215 [] [some (aP 37), some (aI n), some (aI i), some (aI (D 8 n)), some (aI (D 9 n)), none, some (aI (D 6 n)), none, none, none] [] M (fun r M' => r = none ∧ fr wE M M' ∧ T1 D w (endT D w i n (useS D s (D 8 n))) M') := by
  refine s1_Story_takeIn_215 (by omega) ?_
  have hnl := Inv_nl hI
  have hl := TC_l hC
  have hi1 := TC_i1 hC
  refine aKv_of (s1_Rights_useTurn (l := D 8 n) hI hS (by omega) hT (by omega)) (by omega) (fun M1 q => ?_)
  refine aE_mono _ _ _ _ _ _ _ _ _ (fun r M' q' => ?_) (s1_ti_223 hd hI hC (SI_use hS) (SL_of hL (useS_lg (D := D) (s := s)).1 (useS_lg (D := D) (s := s)).2) q.2)
  exact ⟨q'.1, fr_tr (fr_mo q.1 rfl) q'.2.1, q'.2.2⟩
theorem s1_ti_210 {D M : AM} {w i n : Int} {s : Sg} {d : Nat} (c : Bool) (hd : 10 ≤ d) (hI : Inv D) (hC : TC D w i n) (hS : SI D i s) (hL : SL D i s) (hT : T1 D w s M) : aE s1_G d 71 210 [] [some (aP 37), some (aI n), some (aI i), some (aI (D 8 n)), some (aI (D 9 n)), none, some (aI (D 6 n)), none, none, some (aI (bI c))] [] M (fun r M' => r = none ∧ fr wE M M' ∧ T1 D w (endT D w i n (cond c (useS D s (D 8 n)) s)) M') := by
  refine s1_Story_takeIn_210 (by omega) ?_
  cases c
  · exact ⟨fun _ => s1_ti_223 hd hI hC hS hL hT, fun h => absurd rfl h⟩
  · exact ⟨fun h => absurd h (by decide), fun _ => s1_ti_215 hd hI hC hS hL hT⟩
theorem s1_ti_188 {D M : AM} {w i n : Int} {s : Sg} {d : Nat} (c1 c2 : Bool) (hd : 10 ≤ d) (hI : Inv D) (hC : TC D w i n) (hS : SI D i s) (hL : SL D i s) (hT : T1 D w s M) : aE s1_G d 71 188 [] [some (aP 37), some (aI n), some (aI i), some (aI (D 8 n)), some (aI (D 9 n)), some (aI (D 10 n)), some (aI (D 6 n)), none, some (aI (bI c1)), none] [aI (bI c2)] M (fun r M' => r = none ∧ fr wE M M' ∧ T1 D w (endT D w i n (cond ((c1 && decide (D 10 n = patS D (bk D w) s (D 8 n) (D 6 n))) || c2) (useS D s (D 8 n)) s)) M') := by
  refine s1_Story_takeIn_188 (by omega) ?_
  have hnl := Inv_nl hI
  have hl := TC_l hC
  have hi1 := TC_i1 hC
  cases c1
  · exact ⟨fun _ => s1_ti_210 c2 hd hI hC hS hL hT, fun h => absurd rfl h⟩
  · refine ⟨fun h => absurd h (by decide), fun _ => ?_⟩
    refine aKi_of (s1_Rights_patronOn (l := D 8 n) (day := D 6 n) hI hS (by omega) (TC_w0 hC) hT (by omega)) (by omega) (fun z M1 q => ?_)
    obtain ⟨rfl, rfl⟩ := q
    refine ⟨fun h => ?_, fun h => ?_⟩
    · rw [show decide (D 10 n = patS D (bk D w) s (D 8 n) (D 6 n)) = true by simp [h]]
      exact s1_ti_215 hd hI hC hS hL hT
    · rw [show decide (D 10 n = patS D (bk D w) s (D 8 n) (D 6 n)) = false by simp; exact fun q => h q.symm]
      exact s1_ti_210 c2 hd hI hC hS hL hT
theorem s1_ti_152 {D M : AM} {w i n y : Int} {s : Sg} {d : Nat} (c1 : Bool) (hd : 10 ≤ d) (hI : Inv D) (hC : TC D w i n) (hS : SI D i s) (hL : SL D i s) (hT : T1 D w s M) (hy : y = 0 → s.h (D 8 n) = []) : aE s1_G d 71 152 [] [some (aP 37), some (aI n), some (aI i), some (aI (D 8 n)), some (aI (D 9 n)), some (aI (D 10 n)), some (aI (D 6 n)), some (aI y), none, none] [aI (bI c1)] M (fun r M' => r = none ∧ fr wE M M' ∧ T1 D w (endT D w i n (cond ((c1 && decide (D 10 n = patS D (bk D w) s (D 8 n) (D 6 n))) || (decide (y = 0) && decide (lapS D (bk D w) s (D 8 n) (D 6 n) ≠ 0) && decide ((force D (D 6 n) 4).1 = 1))) (useS D s (D 8 n)) s)) M') := by
  refine s1_Story_takeIn_152 (by omega) ?_
  have hnl := Inv_nl hI
  have hl := TC_l hC
  have hd6 := Inv_pd hI n
  refine ⟨fun h => ?_, fun h => ?_⟩
  · rw [show decide (y = 0) = false by simpa using h, Bool.false_and, Bool.false_and]
    exact s1_Story_takeIn_187 (by omega) (s1_ti_188 c1 false hd hI hC hS hL hT)
  · have he := hy h
    rw [show decide (y = 0) = true by simpa using h, Bool.true_and]
    refine aKi_of (s1_Story_lapsedTo (l := D 8 n) (day := D 6 n) hI hS (TC_w0 hC) hT (by omega) (SI_e0 hS _ he) hd6) (by omega) (fun z M1 q => ?_)
    obtain ⟨q1, q2, rfl⟩ := q
    have hT1 := T1_c hT q1 q2
    refine ⟨fun h1 => ?_, fun h1 => ?_⟩
    · rw [show decide (lapS D (bk D w) s (D 8 n) (D 6 n) ≠ 0) = false by simpa using h1, Bool.false_and]
      refine aE_mono _ _ _ _ _ _ _ _ _ (fun r M' q' => ?_) (s1_Story_takeIn_187 (by omega) (s1_ti_188 c1 false hd hI hC hS hL hT1))
      exact ⟨q'.1, fr_tr (fr_mo q1 rfl) q'.2.1, q'.2.2⟩
    · rw [show decide (lapS D (bk D w) s (D 8 n) (D 6 n) ≠ 0) = true by simpa using h1, Bool.true_and]
      refine aKi_of (s1_Canons_numberOn (name := 4) hI q2 hd6.1 (by omega)) (by omega) (fun z M2 q => ?_)
      obtain ⟨p1, p2, p3, rfl⟩ := q
      have hT2 := T1_c hT1 p1 p2
      refine ⟨fun h2 => ?_, fun h2 => ?_⟩
      · rw [show decide ((force D (D 6 n) 4).1 = 1) = false by simpa using h2]
        refine aE_mono _ _ _ _ _ _ _ _ _ (fun r M' q' => ?_) (s1_Story_takeIn_187 (by omega) (s1_ti_188 c1 false hd hI hC hS hL hT2))
        exact ⟨q'.1, fr_tr (fr_mo (fr_tr q1 p1) rfl) q'.2.1, q'.2.2⟩
      · rw [show decide ((force D (D 6 n) 4).1 = 1) = true by simpa using h2]
        refine aE_mono _ _ _ _ _ _ _ _ _ (fun r M' q' => ?_) (s1_ti_188 c1 true hd hI hC hS hL hT2)
        exact ⟨q'.1, fr_tr (fr_mo (fr_tr q1 p1) rfl) q'.2.1, q'.2.2⟩
theorem s1_ti_117 {D M : AM} {w i n y t0 t1 : Int} {s : Sg} {d : Nat} (hd : 10 ≤ d) (hI : Inv D) (hC : TC D w i n) (hS : SI D i s) (hL : SL D i s) (hT : T1 D w s M) (ho : a_or t1 t0 = whyS D (bk D w) s n) : aE s1_G d 71 117 [] [some (aP 37), some (aI n), some (aI i), some (aI (D 8 n)), some (aI (D 9 n)), some (aI (D 10 n)), some (aI (D 6 n)), none, none, none] [aI t0, aI t1] M (fun r M' => r = none ∧ fr wE M M' ∧ T1 D w (tinS D (bk D w) s n i) M') := by
  refine s1_Story_takeIn_117 (by omega) ?_
  have hpn := Inv_pn hI
  have hn := TC_n hC
  have hd6 := Inv_pd hI n
  rw [ho]
  obtain ⟨y, ey⟩ : ∃ y, y = whyS D (bk D w) s n := ⟨_, rfl⟩
  obtain ⟨hB, hw, hQ⟩ := id hT
  have g : fr (wr [54] []) M (am_up M 54 n (whyS D (bk D w) s n)) := fr_up fr_rf rfl
  have hT1 : T1 D w (rsS s n (whyS D (bk D w) s n)) (am_up M 54 n (whyS D (bk D w) s n)) := by
    refine ⟨B1_wE0 hB g rfl, (g 6 9 rfl).trans hw, ?_⟩
    refine ⟨fun x x0 x1 => ?_, fun x p c x0 x1 hm => ?_, fun x x0 x1 => ?_, fun x x0 x1 => ?_, fun x x0 x1 => ?_, fun x x0 x1 => ?_, fun x x0 x1 => ?_, ?_, fun k hk => ?_, ?_, fun k hk => ?_, fun m hm => ?_⟩
    · rw [g 38 x rfl]; exact Q1_h (s := s) hQ x x0 x1
    · rw [g 39 _ rfl]; exact Q1_c (s := s) hQ x p c x0 x1 hm
    · rw [g 52 x rfl]; exact Q1_ef (s := s) hQ x x0 x1
    · rw [g 53 x rfl]; exact Q1_eb (s := s) hQ x x0 x1
    · rw [g 57 x rfl]; exact Q1_ra (s := s) hQ x x0 x1
    · rw [g 58 x rfl]; exact Q1_rb (s := s) hQ x x0 x1
    · rw [g 59 x rfl]; exact Q1_tn (s := s) hQ x x0 x1
    · rw [g 56 5 rfl]; exact Q1_sn (s := s) hQ
    · rw [g 60 k rfl, g 61 k rfl]; exact Q1_so (s := s) hQ k hk
    · rw [g 62 6 rfl]; exact Q1_ln (s := s) hQ
    · rw [g 66 k rfl, g 67 k rfl, g 68 k rfl, g 64 k rfl, g 65 k rfl, g 63 k rfl]; exact Q1_lg (s := s) hQ k hk
    · rw [x_uu]
      dsimp only [Sg.rs, rsS] at hm ⊢
      unfold up1 at hm ⊢
      split
      · rfl
      next e =>
        rw [if_neg e] at hm
        exact Q1_rs (s := s) hQ m hm
  have hem : whyS D (bk D w) s n = 0 → s.h (D 8 n) = [] := by
    intro h
    unfold whyS at h
    by_cases e : s.h (D 8 n) = []
    · exact e
    · rw [if_pos e] at h
      have b1 : bI (hadB D (bk D w) 1 (D 9 n) (D 6 n)) = 0 ∨ bI (hadB D (bk D w) 1 (D 9 n) (D 6 n)) = 1 := by cases hadB D (bk D w) 1 (D 9 n) (D 6 n) <;> simp [bI]
      have b2 : (if barS D (bk D w) s (D 9 n) (D 8 n) (D 6 n) = -1 then (0 : Int) else 1) = 0 ∨ (if barS D (bk D w) s (D 9 n) (D 8 n) (D 6 n) = -1 then (0 : Int) else 1) = 1 := by split <;> simp
      have b3 : (if mayS D (bk D w) s (D 8 n) (D 6 n) = D 10 n then (0 : Int) else 1) = 0 ∨ (if mayS D (bk D w) s (D 8 n) (D 6 n) = D 10 n then (0 : Int) else 1) = 1 := by split <;> simp
      omega
  have et : ∀ c1, c1 = (decide (whyS D (bk D w) s n = 0) || decide ((force D (D 6 n) 3).1 = 1)) → tinS D (bk D w) s n i = endT D w i n (cond ((c1 && decide (D 10 n = patS D (bk D w) (rsS s n (whyS D (bk D w) s n)) (D 8 n) (D 6 n))) || (decide (whyS D (bk D w) s n = 0) && decide (lapS D (bk D w) (rsS s n (whyS D (bk D w) s n)) (D 8 n) (D 6 n) ≠ 0) && decide ((force D (D 6 n) 4).1 = 1))) (useS D (rsS s n (whyS D (bk D w) s n)) (D 8 n)) (rsS s n (whyS D (bk D w) s n))) := by
    intro c1 hc
    subst hc
    rfl
  have hS1 : SI D i (rsS s n (whyS D (bk D w) s n)) := SI_rs hS
  have hL1 : SL D i (rsS s n (whyS D (bk D w) s n)) := SL_of hL rfl rfl
  refine ⟨by omega, fun h => ?_, fun h => ?_⟩
  · rw [et true (by rw [h]; rfl)]
    refine aE_mono _ _ _ _ _ _ _ _ _ (fun r M' q' => ?_) (s1_Story_takeIn_147 (by omega) (s1_ti_152 true hd hI hC hS1 hL1 hT1 (fun q => hem q)))
    exact ⟨q'.1, fr_tr (fr_mo g rfl) q'.2.1, q'.2.2⟩
  · refine aKi_of (s1_Canons_numberOn (name := 3) hI hT1.1 hd6.1 (by omega)) (by omega) (fun z M2 q => ?_)
    obtain ⟨p1, p2, p3, rfl⟩ := q
    have hT2 := T1_c hT1 p1 p2
    refine ⟨fun h2 => ?_, fun h2 => ?_⟩
    · rw [et false (by rw [show decide (whyS D (bk D w) s n = 0) = false by simpa using h, show decide ((force D (D 6 n) 3).1 = 1) = false by simpa using h2]; rfl)]
      refine aE_mono _ _ _ _ _ _ _ _ _ (fun r M' q' => ?_) (s1_ti_152 false hd hI hC hS1 hL1 hT2 (fun q => hem q))
      exact ⟨q'.1, fr_tr (fr_tr (fr_mo g rfl) (fr_mo p1 rfl)) q'.2.1, q'.2.2⟩
    · rw [et true (by rw [show decide ((force D (D 6 n) 3).1 = 1) = true by simpa using h2, Bool.or_true])]
      refine aE_mono _ _ _ _ _ _ _ _ _ (fun r M' q' => ?_) (s1_Story_takeIn_147 (by omega) (s1_ti_152 true hd hI hC hS1 hL1 hT2 (fun q => hem q)))
      exact ⟨q'.1, fr_tr (fr_tr (fr_mo g rfl) (fr_mo p1 rfl)) q'.2.1, q'.2.2⟩
theorem s1_Story_takeIn {D M : AM} {w i n : Int} {s : Sg} (hI : Inv D) (hC : TC D w i n) (hS : SI D i s) (hL : SL D i s) (hT : T1 D w s M) : aCv s1_G 10 71 [aP 37, aI n, aI i] M (fun M' => fr wE M M' ∧ T1 D w (tinS D (bk D w) s n i) M') := by
  refine ⟨Nat.le_of_ble_eq_true rfl, fun d hd => ?_⟩
  refine s1_Story_takeIn_0 (by omega) ?_
  have hpn := Inv_pn hI
  have hnl := Inv_nl hI
  have hnp := Inv_np hI
  have hn := TC_n hC
  have hl := TC_l hC
  have hp := TC_p hC
  have hi1 := TC_i1 hC
  have hd6 := Inv_pd hI n
  obtain ⟨hB, hw, hQ⟩ := id hT
  have hem := Q1_emp hQ (l := D 8 n) (by omega) hS hI
  have hr : 0 ≤ n ∧ n < 150 := by omega
  rw [B1_pl hB, B1_pp hB, B1_pq hB, B1_pd hB]
  have k98 : ∀ (M1 : AM) (u v : Int), fr wQ M M1 → B1 D M1 → a_or (a_or u v) 0 = a_or u v → (∀ z, (z = 0 ∧ mayS D (bk D w) s (D 8 n) (D 6 n) = D 10 n) ∨ (z = 8 ∧ mayS D (bk D w) s (D 8 n) (D 6 n) ≠ D 10 n) → a_or (a_or u v) z = whyS D (bk D w) s n) → aE s1_G d 71 98 [] [some (aP 37), some (aI n), some (aI i), some (aI (D 8 n)), some (aI (D 9 n)), some (aI (D 10 n)), some (aI (D 6 n)), none, none, none] [aI v, aI u] M1 (fun r M' => r = none ∧ fr wE M M' ∧ T1 D w (tinS D (bk D w) s n i) M') := by
    intro M1 u v f1 b1 _ hz
    refine s1_Story_takeIn_98 (by omega) ?_
    have hT1 := T1_q hT f1 b1
    refine aKi_of (s1_Story_presenter (l := D 8 n) (day := D 6 n) hI hS (by omega) (TC_w0 hC) hT1 (by omega) hd6) (by omega) (fun z M2 q => ?_)
    obtain ⟨q1, q2, rfl⟩ := q
    have hT2 := T1_c hT1 q1 q2
    have ef : fr wQ M M2 := fr_tr f1 (fr_mo q1 rfl)
    refine ⟨fun h => ?_, fun h => ?_⟩
    · refine aE_mono _ _ _ _ _ _ _ _ _ (fun r M' q' => ?_) (s1_ti_117 (y := 0) hd hI hC hS hL hT2 (hz 0 (Or.inl ⟨rfl, h⟩)))
      exact ⟨q'.1, fr_tr (fr_mo ef rfl) q'.2.1, q'.2.2⟩
    · refine aE_mono _ _ _ _ _ _ _ _ _ (fun r M' q' => ?_) (s1_ti_117 (y := 0) hd hI hC hS hL hT2 (hz 8 (Or.inr ⟨rfl, h⟩)))
      exact ⟨q'.1, fr_tr (fr_mo ef rfl) q'.2.1, q'.2.2⟩
  have k79 : ∀ (A B2 : Int), A = (if s.h (D 8 n) ≠ [] then 1 else 0) → B2 = 2 * bI (hadB D (bk D w) 1 (D 9 n) (D 6 n)) → aE s1_G d 71 79 [] [some (aP 37), some (aI n), some (aI i), some (aI (D 8 n)), some (aI (D 9 n)), some (aI (D 10 n)), some (aI (D 6 n)), none, none, none] [aI B2, aI A] M (fun r M' => r = none ∧ fr wE M M' ∧ T1 D w (tinS D (bk D w) s n i) M') := by
    intro A B2 hA hB2
    have rA : A = 0 ∨ A = 1 := by rw [hA]; split <;> simp
    have rB : B2 = 0 ∨ B2 = 2 := by rw [hB2]; cases hadB D (bk D w) 1 (D 9 n) (D 6 n) <;> simp [bI]
    refine s1_Story_takeIn_79 (by omega) ?_
    refine aKi_of (s1_Story_barOf hI hS (TC_w0 hC) hT hp hl hd6) (by omega) (fun z M1 q => ?_)
    obtain ⟨q1, q2, rfl⟩ := q
    have key : ∀ C, (C = 0 ∧ barS D (bk D w) s (D 9 n) (D 8 n) (D 6 n) = -1) ∨ (C = 4 ∧ barS D (bk D w) s (D 9 n) (D 8 n) (D 6 n) ≠ -1) → aE s1_G d 71 98 [] [some (aP 37), some (aI n), some (aI i), some (aI (D 8 n)), some (aI (D 9 n)), some (aI (D 10 n)), some (aI (D 6 n)), none, none, none] [aI C, aI (a_or A B2)] M1 (fun r M' => r = none ∧ fr wE M M' ∧ T1 D w (tinS D (bk D w) s n i) M') := by
      intro C hC'
      have o0 := or4 rA rB (show C = 0 ∨ C = 4 by omega) (Or.inl rfl)
      have o8 := or4 rA rB (show C = 0 ∨ C = 4 by omega) (Or.inr rfl)
      refine k98 M1 (a_or A B2) C q1 q2 ?_ (fun z hz => ?_)
      · rcases rA with rfl | rfl <;> rcases rB with rfl | rfl <;> rcases hC' with ⟨rfl, _⟩ | ⟨rfl, _⟩ <;> decide +kernel
      · unfold whyS
        have eC : C = 4 * (if barS D (bk D w) s (D 9 n) (D 8 n) (D 6 n) = -1 then 0 else 1) := by
          rcases hC' with ⟨rfl, h⟩ | ⟨rfl, h⟩
          · rw [if_pos h]; rfl
          · rw [if_neg h]; rfl
        rcases hz with ⟨rfl, h⟩ | ⟨rfl, h⟩
        · rw [o0, if_pos h, ← hA, ← hB2, ← eC]; omega
        · rw [o8, if_neg h, ← hA, ← hB2, ← eC]; omega
    exact ⟨fun h => key 0 (Or.inl ⟨rfl, h⟩), fun h => key 4 (Or.inr ⟨rfl, h⟩)⟩
  have k59 : ∀ A : Int, A = (if s.h (D 8 n) ≠ [] then 1 else 0) → aE s1_G d 71 59 [] [some (aP 37), some (aI n), some (aI i), some (aI (D 8 n)), some (aI (D 9 n)), some (aI (D 10 n)), some (aI (D 6 n)), none, none, none] [aI A] M (fun r M' => r = none ∧ fr wE M M' ∧ T1 D w (tinS D (bk D w) s n i) M') := by
    intro A hA
    refine s1_Story_takeIn_59 (by omega) ?_
    obtain ⟨-, -, hg⟩ := B1_page hB hw (TC_w0 hC)
    refine aKi_of (s1_Papers_hadBy (l := bk D w) (k := 1) hI hg (by omega) (by omega)) (by omega) (fun z M1 q => ?_)
    obtain ⟨rfl, rfl⟩ := q
    refine ⟨fun h => k79 A 0 hA ?_, fun h => k79 A 2 hA ?_⟩
    · rw [h]; rfl
    · cases e : hadB D (bk D w) 1 (D 9 n) (D 6 n)
      · rw [e] at h; exact absurd rfl h
      · rfl
  refine ⟨hr, hr, hr, hr, by omega, fun h => k59 0 ?_, fun h => k59 1 ?_⟩
  · rw [if_neg (by simpa using hem.mp (cmp0.mp h))]
  · rw [if_pos (fun q => h (cmp0.mpr (hem.mpr q)))]
