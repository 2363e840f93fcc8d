/-! THE STORY in the second system: the others left, the whole told -/
theorem s2_lo_164 {D M : AM} {w i wl wp wn l n b x5 : Int} {c : Bool} {ph : Int → Int} {s : Sg} {d : Nat} (hd : 7 ≤ d) (hI : Inv D) (hS : SI D i s) (hR : rm D l b n 3 s) (hn : 0 ≤ n ∧ n < D 0 7) (hb : b = cond c x5 (-1)) (hT : T2 D w s i wl wp wn ph M) : aE s2_G d 64 164 [] [some (aP 0), some (aI l), some (aI (D 9 n)), some (aI n), none, some (aI x5), none, none, some (aI (bI c)), some (aI 0)] [] M (fun r M' => r = none ∧ fr wE2 M M' ∧ T2 D w (fallN D l b n 3 12 s) i wl wp wn ph M') := by
  have hnl := Inv_nl hI
  have key : ∀ (m k : Nat) (M1 : AM), (k : Int) + m = D 0 3 → fr wE2 M M1 → T2 D w (fallN D l b n 3 k s) i wl wp wn ph M1 → aE s2_G d 64 164 [] [some (aP 0), some (aI l), some (aI (D 9 n)), some (aI n), none, some (aI x5), none, none, some (aI (bI c)), some (aI k)] [] M1 (fun r M' => r = none ∧ fr wE2 M M' ∧ T2 D w (fallN D l b n 3 12 s) i wl wp wn ph M') := by
    intro m
    induction m with
    | zero =>
      intro k M1 hk hf hT1
      refine s2_leaveOthers_164 (by omega) ?_
      rw [L0_3 hT1.1]
      have := (fallN_out (a := l) (b := b) (n := n) (why := 3) (k := k) hS (by omega) (12 - k)).1
      rw [show k + (12 - k) = 12 by omega] at this
      rw [this]
      exact ⟨fun _ => ⟨rfl, hf, hT1⟩, fun h => absurd h (by omega)⟩
    | succ m ih =>
      intro k M1 hk hf hT1
      have hstep : fallN D l b n 3 (k + 1) s = if (k : Int) = l ∨ (k : Int) = b then fallN D l b n 3 k s else fallS D (fallN D l b n 3 k s) k n 3 := rfl
      have ih := fun M1 => ih (k + 1) M1 (by omega)
      refine s2_leaveOthers_164 (by omega) ?_
      rw [L0_3 hT1.1, x_add (by omega), show (k : Int) + 1 = ((k + 1 : Nat) : Int) by omega]
      have no : ((k : Int) = l ∨ (k : Int) = b) → aE s2_G d 64 164 [] [some (aP 0), some (aI l), some (aI (D 9 n)), some (aI n), none, some (aI x5), none, none, some (aI (bI c)), some (aI ((k + 1 : Nat) : Int))] [] M1 (fun r M' => r = none ∧ fr wE2 M M' ∧ T2 D w (fallN D l b n 3 12 s) i wl wp wn ph M') := fun h => by
        refine ih M1 hf ?_
        rw [hstep, if_pos h]
        exact hT1
      have ye : ¬ ((k : Int) = l ∨ (k : Int) = b) → aKv s2_G d 53 [aP 0, aI (k : Int), aI (D 9 n), aI 3, aI n] M1 (fun M1 => aE s2_G d 64 164 [] [some (aP 0), some (aI l), some (aI (D 9 n)), some (aI n), none, some (aI x5), none, none, some (aI (bI c)), some (aI ((k + 1 : Nat) : Int))] [] M1 (fun r M' => r = none ∧ fr wE2 M M' ∧ T2 D w (fallN D l b n 3 12 s) i wl wp wn ph M')) := fun h => by
        refine aKv_of (s2_leave hI (SI_fallN hI (by omega) k s hS) (hR k (by omega)) hT1 (by omega) hn) (by omega) (fun M2 q => ?_)
        refine ih M2 (fr_tr hf q.1) ?_
        rw [hstep, if_neg h]
        exact q.2
      refine ⟨fun h => absurd h (by omega), fun _ => ⟨fun h => no (Or.inl h), fun h => ⟨fun g => ye ?_, fun g => ⟨fun g2 => no ?_, fun g2 => ye ?_⟩⟩⟩⟩
      · cases c
        · rw [hb]; show ¬ (_ ∨ (k : Int) = -1); omega
        · rw [hb]; show ¬ (_ ∨ (k : Int) = x5); omega
      · cases c
        · exact absurd rfl g2
        · rw [hb]; exact Or.inr g
      · cases c
        · rw [hb]; show ¬ (_ ∨ (k : Int) = -1); omega
        · exact absurd g2 (by decide)
  exact key (D 0 3).toNat 0 M (by omega) fr_rf hT
theorem s2_leaveOthers {D M : AM} {w i wl wp wn l n : Int} {ph : Int → Int} {s : Sg} (hI : Inv D) (hS : SI D i s) (hR : ∀ b, rm D l b n 3 s) (hT : T2 D w s i wl wp wn ph M) (hl : 0 ≤ l ∧ l < D 0 3) (hn : 0 ≤ n ∧ n < D 0 7) : aCv s2_G 7 64 [aP 0, aI l, aI (D 9 n), aI n] M (fun M' => fr wE2 M M' ∧ T2 D w (fallN D l (kepS D (bk D w) s l (D 9 n) (D 6 n)) n 3 12 s) i wl wp wn ph M') := by
  refine ⟨Nat.le_of_ble_eq_true rfl, fun d hd => ?_⟩
  refine s2_leaveOthers_0 (by omega) ?_
  have hnl := Inv_nl hI
  have hpn := Inv_pn hI
  have hd6 := Inv_pd hI n
  obtain ⟨hLq, hb, hQ⟩ := id hT
  have hbl := bk_len (D := D) (w := w) hpn.1
  obtain ⟨p, ep⟩ : ∃ p, p = D 9 n := ⟨_, rfl⟩
  rw [L_6 hLq]
  refine ⟨by omega, ?_⟩
  have xO : Int × Int → Int := fun q => if q.1 = -1 then -1 else ph q.2
  have key : ∀ (m k : Nat), (k : Int) + m = D 0 3 → aE s2_G d 64 17 [] [some (aP 0), some (aI l), some (aI (D 9 n)), some (aI n), some (aI (D 6 n)), some (aI (lasS s l (D 9 n) k).1), some (aI (if (lasS s l (D 9 n) k).1 = -1 then -1 else ph (lasS s l (D 9 n) k).2)), some (aI k), none, none] [] M (fun r M' => r = none ∧ fr wE2 M M' ∧ T2 D w (fallN D l (kepS D (bk D w) s l (D 9 n) (D 6 n)) n 3 12 s) i wl wp wn ph M') := by
    intro m
    induction m with
    | zero =>
      intro k hk
      refine s2_leaveOthers_17 (by omega) ?_
      have e12 : lasS s l (D 9 n) 12 = lasS s l (D 9 n) k := by
        have := lasS_out (l := l) (p := D 9 n) (k := k) hS (by omega) (12 - k)
        rw [show k + (12 - k) = 12 by omega] at this
        exact this
      rw [← e12, L0_3 hLq]
      have hi := lasS_inv (l := l) (p := D 9 n) hS k
      rw [← e12] at hi
      obtain ⟨x5, e5⟩ : ∃ x5, x5 = (lasS s l (D 9 n) 12).1 := ⟨_, rfl⟩
      have hkep : kepS D (bk D w) s l (D 9 n) (D 6 n) = if x5 ≠ -1 ∧ hadB D (bk D w) 5 (D 9 n) (D 6 n) = true ∧ mlsD D l x5 ≤ (force D (D 6 n) 1).1 ∧ D 4 l ≤ (force D (D 6 n) 2).1 ∧ D 4 x5 ≤ (force D (D 6 n) 2).1 then x5 else -1 := by rw [e5]; rfl
      rw [← e5] at hi ⊢
      refine ⟨fun _ => ⟨fun h5 => ?_, fun h5 => ?_⟩, fun h => absurd h (by omega)⟩
      · have hx : 0 ≤ x5 ∧ x5 < 12 := by
          rcases hi with hi | hi
          · omega
          · have := hi.1; omega
        have fin : ∀ (c : Bool) (M2 : AM), fr wF M M2 → kepS D (bk D w) s l (D 9 n) (D 6 n) = cond c x5 (-1) → aE s2_G d 64 164 [] [some (aP 0), some (aI l), some (aI (D 9 n)), some (aI n), none, some (aI x5), none, none, some (aI (bI c)), some (aI 0)] [] M2 (fun r M' => r = none ∧ fr wE2 M M' ∧ T2 D w (fallN D l (kepS D (bk D w) s l (D 9 n) (D 6 n)) n 3 12 s) i wl wp wn ph M') := by
          intro c M2 f2 hc
          refine aE_mono _ _ _ _ _ _ _ _ _ (fun r M' q => ?_) (s2_lo_164 (c := c) hd hI hS (hR _) hn hc (T2_f hT f2))
          exact ⟨q.1, fr_tr (fr_mo f2 rfl) q.2.1, q.2.2⟩
        refine aKi_of (s2_forceOf (name := 2) (day := D 6 n) hI hLq) (by omega) (fun z M1 q => ?_)
        obtain ⟨q1, rfl, -⟩ := q
        obtain ⟨hL1, hb1, -⟩ := T2_f hT q1
        refine aKi_of (s2_hasLeave (p := D 9 n) (t := D 6 n) hI hL1 hb1 (fun i hi => bk_mem hi) (by omega)) (by omega) (fun z M2 q => ?_)
        obtain ⟨e2, rfl⟩ := q
        rw [e2]
        refine ⟨fun h => fin false M1 q1 ?_, fun h => ?_⟩
        · rw [hkep, if_neg (fun q => by rw [q.2.1] at h; exact absurd h (by decide))]; rfl
        · have hh : hadB D (bk D w) 5 (D 9 n) (D 6 n) = true := bI_ne.mp h
          refine aKi_of (s2_miles (a := l) (b := x5) hI hL1 (by omega) (by omega)) (by omega) (fun z M3 q => ?_)
          obtain ⟨e3, rfl⟩ := q
          rw [e3]
          refine aKi_of (s2_forceOf (name := 1) (day := D 6 n) hI hL1) (by omega) (fun z M4 q => ?_)
          obtain ⟨q4, rfl, -⟩ := q
          have q14 := fr_tr q1 q4
          rw [L_4 (T2_f hT q14).1]
          refine ⟨fun g => fin false M4 q14 ?_, fun g1 => ⟨by omega, fun g => fin false M4 q14 ?_, fun g2 => ⟨by omega, fun g => fin false M4 q14 ?_, fun g3 => fin true M4 q14 ?_⟩⟩⟩
          · rw [hkep, if_neg (by omega)]; rfl
          · rw [hkep, if_neg (by omega)]; rfl
          · rw [hkep, if_neg (by omega)]; rfl
          · rw [hkep, if_pos ⟨by omega, hh, g1, g2, g3⟩]; rfl
      · have hx : x5 = -1 := by
          rcases hi with hi | hi
          · exact hi.1
          · have := hi.1; omega
        have hno := lasS_no (l := l) (p := D 9 n) hS 12 (by rw [← e5]; exact hx)
        rw [fallN_no 12 hno]
        exact ⟨rfl, fr_rf, hT⟩
    | succ m ih =>
      intro k hk
      have ih := ih (k + 1) (by omega)
      have hi := lasS_inv (l := l) (p := D 9 n) hS k
      have hstep : lasS s l (D 9 n) (k + 1) = if (k : Int) ≠ l ∧ (lasS s l (D 9 n) k).2 < comC (s.h k) (D 9 n) then ((k : Int), comC (s.h k) (D 9 n)) else lasS s l (D 9 n) k := rfl
      refine s2_leaveOthers_17 (by omega) ?_
      rw [L0_3 hLq, x_add (a := (k : Int)) (by omega), show (k : Int) + 1 = ((k + 1 : Nat) : Int) by omega]
      refine ⟨fun h => absurd h (by omega), fun _ => ?_⟩
      refine aKi_of (s2_placeOf (w := w) (l := (k : Int)) (p := D 9 n) hI hS hQ (by omega)) (by omega) (fun z M1 q => ?_)
      obtain ⟨e1, q⟩ := q
      rw [e1]
      refine ⟨fun e => ?_, fun e => ?_⟩
      · rw [hstep, if_neg (fun q => q.1 e)] at ih
        exact ih
      · rcases q with ⟨j, hj, rfl, ej⟩ | ⟨rfl, eh⟩
        · have eh := has_of_at hj ej
          have hlen := SI_len hI hS k
          have hcin := comC_in eh
          have hat : (s.h k)[j] = (D 9 n, comC (s.h k) (D 9 n)) := fst_uni (SI_hn hS k) (List.getElem_mem hj) hcin ej
          have h34 := (Q2_hp hQ (k : Int) (by omega) (by omega) j hj).2
          rw [hat] at h34
          dsimp only at h34
          have hfb := Q2_fb hQ _ _ _ hcin
          have hc0 := (SI_hp hS _ _ _ hcin).2.2
          have hcmp : (if (lasS s l (D 9 n) k).1 = -1 then -1 else ph (lasS s l (D 9 n) k).2) < ph (comC (s.h k) (D 9 n)) ↔ (lasS s l (D 9 n) k).2 < comC (s.h k) (D 9 n) := by
            rcases hi with ⟨h1, h2⟩ | ⟨h1, h2, h3, h4⟩
            · rw [if_pos h1, h2]; omega
            · rw [if_neg (by omega)]
              have hin := comC_in h2
              rw [← h3] at hin
              have hne : (lasS s l (D 9 n) k).2 ≠ comC (s.h k) (D 9 n) := fun q => by
                rw [q] at hin
                have := SI_hu hS _ _ _ _ _ hin hcin
                omega
              constructor
              · intro g
                rcases Int.lt_trichotomy (lasS s l (D 9 n) k).2 (comC (s.h k) (D 9 n)) with g2 | g2 | g2
                · exact g2
                · exact absurd g2 hne
                · have := Q2_fm hQ _ _ _ _ _ _ hcin hin g2; omega
              · intro g
                exact Q2_fm hQ _ _ _ _ _ _ hin hcin g
          rw [x_mul (by omega), x_add (a := 40 * (k : Int)) (by omega), h34]
          refine ⟨fun h => absurd h (by omega), fun _ => ⟨by omega, fun h => ?_, fun h => ⟨by omega, ?_⟩⟩⟩
          · rw [hstep, if_neg (fun q => by have := hcmp.mpr q.2; omega)] at ih
            exact ih
          · rw [hstep, if_pos ⟨e, hcmp.mp h⟩] at ih
            dsimp only at ih
            rw [if_neg (by omega)] at ih
            exact ih
        · refine ⟨fun _ => ?_, fun h => absurd h (by omega)⟩
          rw [hstep, if_neg] at ih
          · exact ih
          · rintro ⟨-, g⟩
            rw [comC_out eh] at g
            rcases hi with ⟨h1, h2⟩ | ⟨h1, h2, h3, h4⟩
            · omega
            · have := (SI_hp hS _ _ _ (comC_in h2)).2.2
              omega
  exact key (D 0 3).toNat 0 (by omega)
theorem s2_die {D M : AM} {w i wl wp wn n : Int} {ph : Int → Int} {s : Sg} (hI : Inv D) (hS : SI D i s) (hR : rm D (-1) (-1) n 1 s) (hT : T2 D w s i wl wp wn ph M) (hn : 0 ≤ n ∧ n < D 0 7) : aCv s2_G 6 66 [aP 0, aI n] M (fun M' => fr wE2 M M' ∧ T2 D w (fallN D (-1) (-1) n 1 12 s) i wl wp wn ph M') := by
  refine ⟨Nat.le_of_ble_eq_true rfl, fun d hd => ?_⟩
  refine s2_die_0 (by omega) ?_
  have hnl := Inv_nl hI
  have hpn := Inv_pn hI
  have key : ∀ (m k : Nat) (M1 : AM), (k : Int) + m = D 0 3 → fr wE2 M M1 → T2 D w (fallN D (-1) (-1) n 1 k s) i wl wp wn ph M1 → aE s2_G d 66 2 [] [some (aP 0), some (aI n), some (aI k)] [] M1 (fun r M' => r = none ∧ fr wE2 M M' ∧ T2 D w (fallN D (-1) (-1) n 1 12 s) i wl wp wn ph M') := by
    intro m
    induction m with
    | zero =>
      intro k M1 hk hf hT1
      refine s2_die_2 (by omega) ?_
      rw [L0_3 hT1.1]
      have := (fallN_out (a := -1) (b := -1) (n := n) (why := 1) (k := k) hS (by omega) (12 - k)).1
      rw [show k + (12 - k) = 12 by omega] at this
      rw [this]
      exact ⟨fun _ => ⟨rfl, hf, hT1⟩, fun h => absurd h (by omega)⟩
    | succ m ih =>
      intro k M1 hk hf hT1
      have hstep : fallN D (-1) (-1) n 1 (k + 1) s = if (k : Int) = -1 ∨ (k : Int) = -1 then fallN D (-1) (-1) n 1 k s else fallS D (fallN D (-1) (-1) n 1 k s) k n 1 := rfl
      refine s2_die_2 (by omega) ?_
      rw [L0_3 hT1.1, L_9 hT1.1, x_add (by omega), show (k : Int) + 1 = ((k + 1 : Nat) : Int) by omega]
      refine ⟨fun h => absurd h (by omega), fun _ => ⟨by omega, ?_⟩⟩
      refine aKv_of (s2_leave hI (SI_fallN hI (by omega) k s hS) (hR k (by omega)) hT1 (by omega) hn) (by omega) (fun M2 q => ?_)
      refine ih (k + 1) M2 (by omega) (fr_tr hf q.1) ?_
      rw [hstep, if_neg (by omega)]
      exact q.2
  exact key (D 0 3).toNat 0 M (by omega) fr_rf hT
