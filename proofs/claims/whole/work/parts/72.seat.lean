/-! CALLS ON THE STORY: what holds of a story told -/
theorem SI_run {D : AM} {w u : Int} (hI : Inv D) : ∀ (suf pre : List Int) (s : Sg), bk D w = pre ++ suf → SI D pre.length s → SL D pre.length s → SI D 150 (runS D (bk D w) u suf pre.length s) ∧ SL D 150 (runS D (bk D w) u suf pre.length s) := by
  intro suf
  have hpn := Inv_pn hI
  have hbl := bk_len (D := D) (w := w) hpn.1
  induction suf with
  | nil =>
    intro pre s e hS hL
    have hl : (bk D w).length = pre.length := by rw [e]; simp
    exact ⟨SI_mono hS (by omega), SL_mono hL (by omega)⟩
  | cons n suf ih =>
    intro pre s e hS hL
    have hl : (bk D w).length = pre.length + 1 + suf.length := by rw [e]; simp; omega
    have hnr := bk_mem (D := D) (w := w) (i := n) (by rw [e]; simp)
    have hrun : runS D (bk D w) u (n :: suf) pre.length s = if D 6 n ≤ u then runS D (bk D w) u suf (pre.length + 1) (stpS D (bk D w) s n pre.length) else s := rfl
    have hS' := SI_stp (B := bk D w) hI hS (by omega) hnr
    have hL' := SL_stp (B := bk D w) hI hS hL (by omega) hnr
    have ih := ih (pre ++ [n]) (stpS D (bk D w) s n pre.length) (by rw [e]; simp)
    rw [List.length_append, List.length_singleton] at ih
    rw [show ((pre.length + 1 : Nat) : Int) = pre.length + 1 by omega] at ih
    rw [hrun]
    split
    · exact ih hS' hL'
    · exact ⟨SI_mono hS (by omega), SL_mono hL (by omega)⟩
theorem SI_story {D : AM} {w u : Int} (hI : Inv D) : SI D 150 (story D w u) := (SI_run hI (bk D w) [] s0S rfl (SI_0 hI) SL_0).1
theorem SL_story {D : AM} {w u : Int} (hI : Inv D) : SL D 150 (story D w u) := (SI_run hI (bk D w) [] s0S rfl (SI_0 hI) SL_0).2
/-- what is left when the story has been asked -/
theorem sto_keep {D M1 M2 : AM} {w u : Int} (hT : T1 D w (story D w u) M1) (e1 : M1 37 11 = w) (e2 : M1 37 12 = u) (g : fr wQ M1 M2) : StoC D M2 := Or.inr (by rw [g 37 11 rfl, g 37 12 rfl, e1, e2]; exact Q1_fw hT.2.2 g rfl)
-- the first holder
def fhN (s : Sg) (l : Int) : Nat → Int
  | 0 => -1
  | k + 1 => if hasH (s.h l) k then (if fhN s l k = -1 then (k : Int) else if comC (s.h l) k < comC (s.h l) (fhN s l k) then (k : Int) else fhN s l k) else fhN s l k
def fhS (s : Sg) (l : Int) : Int := match s.h l with
  | [] => -1
  | e :: _ => e.1
theorem fhN_inv {s : Sg} {l : Int} : ∀ k : Nat, (fhN s l k = -1 ∧ ∀ p : Nat, p < k → hasH (s.h l) p = false) ∨ ((0 ≤ fhN s l k ∧ fhN s l k < k) ∧ hasH (s.h l) (fhN s l k) = true ∧ ∀ p : Nat, p < k → hasH (s.h l) p = true → comC (s.h l) (fhN s l k) ≤ comC (s.h l) p)
  | 0 => Or.inl ⟨rfl, fun p hp => absurd hp (by omega)⟩
  | k + 1 => by
    have ih := fhN_inv (s := s) (l := l) k
    unfold fhN
    split
    next h =>
      rcases ih with ⟨h1, h2⟩ | ⟨h1, h2, h3⟩
      · rw [if_pos h1]
        refine Or.inr ⟨by omega, h, fun p hp hh => ?_⟩
        by_cases e : p = k
        · subst e; exact Int.le_refl _
        · rw [h2 p (by omega)] at hh; cases hh
      · rw [if_neg (by omega)]
        split
        next hc =>
          refine Or.inr ⟨by omega, h, fun p hp hh => ?_⟩
          by_cases e : p = k
          · subst e; exact Int.le_refl _
          · have := h3 p (by omega) hh; omega
        next hc =>
          refine Or.inr ⟨by omega, h2, fun p hp hh => ?_⟩
          by_cases e : p = k
          · subst e; omega
          · exact h3 p (by omega) hh
    next h =>
      rcases ih with ⟨h1, h2⟩ | ⟨h1, h2, h3⟩
      · refine Or.inl ⟨h1, fun p hp => ?_⟩
        by_cases e : p = k
        · subst e; simpa using h
        · exact h2 p (by omega)
      · refine Or.inr ⟨by omega, h2, fun p hp hh => ?_⟩
        by_cases e : p = k
        · subst e; exact absurd hh h
        · exact h3 p (by omega) hh
theorem fhN_end {D : AM} {i l : Int} {s : Sg} (hI : Inv D) (hS : SI D i s) : fhN s l (D 0 1).toNat = fhS s l := by
  have hnp := Inv_np hI
  have hi := fhN_inv (s := s) (l := l) (D 0 1).toNat
  unfold fhS
  match e : s.h l with
  | [] =>
    rcases hi with ⟨h1, _⟩ | ⟨_, h2, _⟩
    · exact h1
    · rw [e] at h2; cases h2
  | (p, c) :: r =>
    have hp := (SI_hp hS l p c (by rw [e]; simp)).2.1
    have hh : hasH (s.h l) p = true := hasH_t.mpr ⟨c, by rw [e]; simp⟩
    dsimp only
    rcases hi with ⟨_, h2⟩ | ⟨h1, h2, h3⟩
    · have := h2 p.toNat (by omega)
      rw [show ((p.toNat : Nat) : Int) = p by omega, hh] at this
      cases this
    · have h3 := h3 p.toNat (by omega) (by rw [show ((p.toNat : Nat) : Int) = p by omega]; exact hh)
      rw [show ((p.toNat : Nat) : Int) = p by omega] at h3
      have hc : comC (s.h l) p = c := by unfold comC; rw [e, List.find?_cons_of_pos (by simp)]
      rw [hc] at h3
      have hin := comC_in h2
      rw [e] at hin
      rcases List.mem_cons.mp hin with hin | hin
      · exact (Prod.mk.inj hin).1
      · have hs := SI_hs hS l
        rw [e] at hs
        have := (List.pairwise_cons.mp hs).1 _ hin
        dsimp only at this
        rw [e] at h3
        omega
theorem s1_Story_firstHolder {D M : AM} {w i l : Int} {s : Sg} (hI : Inv D) (hS : SI D i s) (hT : T1 D w s M) (hl : 0 ≤ l ∧ l < 12) : aCi s1_G 5 79 [aP 37, aI l] M (fun z M' => M' = M ∧ z = fhS s l) := by
  refine ⟨Nat.le_of_ble_eq_true rfl, fun d hd => ?_⟩
  refine s1_Story_firstHolder_0 (by omega) ?_
  have hnp := Inv_np hI
  obtain ⟨hB, hw, hQ⟩ := hT
  have key : ∀ (m k : Nat), (k : Int) + m = D 0 1 → aE s1_G d 79 4 [] [some (aP 37), some (aI l), some (aI (fhN s l k)), some (aI k)] [] M (fun r M' => ∃ z, r = some (aI z) ∧ M' = M ∧ z = fhS s l) := by
    intro m
    induction m with
    | zero =>
      intro k hk
      refine s1_Story_firstHolder_4 (by omega) ?_
      rw [B1_np hB]
      refine ⟨fun _ => ⟨_, rfl, rfl, ?_⟩, fun h => absurd h (by omega)⟩
      have := fhN_end (l := l) hI hS
      rw [show (D 0 1).toNat = k by omega] at this
      exact this
    | succ m ih =>
      intro k hk
      have ih := ih (k + 1) (by omega)
      have hstep : fhN s l (k + 1) = if hasH (s.h l) k then (if fhN s l k = -1 then (k : Int) else if comC (s.h l) k < comC (s.h l) (fhN s l k) then (k : Int) else fhN s l k) else fhN s l k := rfl
      have hi := fhN_inv (s := s) (l := l) k
      refine s1_Story_firstHolder_4 (by omega) ?_
      rw [B1_np hB, x_add (by omega), show (k : Int) + 1 = ((k + 1 : Nat) : Int) by omega]
      refine ⟨fun h => absurd h (by omega), fun _ => ?_⟩
      refine aKi_of (s1_Story_isHolder (p := (k : Int)) hQ hl (by omega)) (by omega) (fun z M1 q => ?_)
      obtain ⟨e1, rfl⟩ := q
      rw [e1]
      cases eh : hasH (s.h l) k
      · rw [hstep, if_neg (by rw [eh]; decide)] at ih
        exact ⟨fun _ => ih, fun h => absurd rfl h⟩
      · rw [hstep, if_pos eh] at ih
        refine ⟨fun h => absurd h (by decide), fun _ => ⟨fun h => ?_, fun h => ?_⟩⟩
        · rw [if_pos h] at ih; exact ih
        · rcases hi with ⟨h1, _⟩ | ⟨h1, h2, _⟩
          · exact absurd h1 h
          · rw [if_neg h] at ih
            rw [Q1_c hQ l _ _ hl.1 hl.2 (comC_in eh), Q1_c hQ l _ _ hl.1 hl.2 (comC_in h2)]
            refine ⟨hl, by omega, hl, by omega, fun g => ?_, fun g => ?_⟩
            · rw [if_neg (by omega)] at ih; exact ih
            · rw [if_pos g] at ih; exact ih
  exact key (D 0 1).toNat 0 (by omega)
-- turns sold and left
def unuS (D : AM) (so : List (Int × Int)) (l : Int) : Nat := so.countP (fun e => decide (D 8 e.1 = l ∧ e.2 = 0))
theorem unuS_cons {D : AM} {e : Int × Int} {r : List (Int × Int)} {l : Int} : unuS D (e :: r) l = unuS D r l + if D 8 e.1 = l ∧ e.2 = 0 then 1 else 0 := by
  unfold unuS
  rw [List.countP_cons]
  simp
theorem unuS_le {D : AM} {l : Int} (so : List (Int × Int)) : unuS D so l ≤ so.length := List.countP_le_length
theorem s1_Rights_soldLeft {D M : AM} {w i l : Int} {s : Sg} (hI : Inv D) (hS : SI D i s) (hi : i ≤ 150) (hT : T1 D w s M) : aCi s1_G 4 63 [aP 56, aI l] M (fun z M' => M' = M ∧ z = unuS D s.so l) := by
  refine ⟨Nat.le_of_ble_eq_true rfl, fun d hd => ?_⟩
  refine s1_Rights_soldLeft_0 (by omega) ?_
  obtain ⟨hB, hw, hQ⟩ := hT
  have hso := SI_so hS
  have hpn := Inv_pn hI
  have key : ∀ (suf pre : List (Int × Int)) (a : Nat), s.so = pre ++ suf → a + unuS D suf l = unuS D s.so l → aE s1_G d 63 4 [] [some (aP 56), some (aI l), some (aI a), some (aI pre.length)] [] M (fun r M' => ∃ z, r = some (aI z) ∧ M' = M ∧ z = unuS D s.so l) := by
    intro suf
    induction suf with
    | nil =>
      intro pre a e ha
      have hl2 : s.so.length = pre.length := by rw [e]; simp
      refine s1_Rights_soldLeft_4 (by omega) ?_
      rw [Q1_sn hQ]
      exact ⟨fun _ => ⟨_, rfl, rfl, by rw [← ha]; rfl⟩, fun h => absurd h (by omega)⟩
    | cons x suf ih =>
      intro pre a e ha
      have hl2 : s.so.length = pre.length + 1 + suf.length := by rw [e]; simp; omega
      have hk := Q1_so hQ pre.length (by omega)
      have ex : s.so[pre.length]'(by omega) = x := by simp [e]
      rw [ex] at hk
      have hv := (SI_sv hS x (by rw [e]; simp)).1.1
      have hle := unuS_le (D := D) (l := l) s.so
      rw [unuS_cons] at ha
      refine s1_Rights_soldLeft_4 (by omega) ?_
      rw [Q1_sn hQ, hk.1, hk.2, B1_pl hB, x_add (a := (pre.length : Int)) (by omega), x_add (a := (a : Int)) (by omega)]
      have ih0 := ih (pre ++ [x]) a (by rw [e]; simp)
      have ih1 := ih (pre ++ [x]) (a + 1) (by rw [e]; simp)
      rw [List.length_append] at ih0 ih1
      refine ⟨fun h => absurd h (by omega), fun _ => ⟨by omega, by omega, fun h1 => ?_, fun h1 => ⟨by omega, fun h2 => ?_, fun h2 => ?_⟩⟩⟩
      · rw [if_neg (by omega)] at ha; exact ih0 ha
      · rw [if_neg (by omega)] at ha; exact ih0 ha
      · rw [if_pos ⟨h1, h2⟩] at ha; exact ih1 (by omega)
  exact key s.so [] 0 rfl (by omega)
theorem s2_unused {D M : AM} {i wl wp wn l : Int} {ph : Int → Int} {s : Sg} (hS : SI D i s) (hi : i ≤ 150) (hQ : Q2 D s i wl wp wn ph M) : aCi s2_G 4 73 [aP 0, aI l] M (fun z M' => M' = M ∧ z = unuS D s.so l) := by
  refine ⟨Nat.le_of_ble_eq_true rfl, fun d hd => ?_⟩
  refine s2_unused_0 (by omega) ?_
  have hso := SI_so hS
  have key : ∀ (suf pre : List (Int × Int)) (a : Nat), s.so = pre ++ suf → a + unuS D suf l = unuS D s.so l → aE s2_G d 73 4 [] [some (aP 0), some (aI l), some (aI a), some (aI pre.length)] [] M (fun r M' => ∃ z, r = some (aI z) ∧ M' = M ∧ z = unuS D s.so l) := by
    intro suf
    induction suf with
    | nil =>
      intro pre a e ha
      have hl2 : s.so.length = pre.length := by rw [e]; simp
      refine s2_unused_4 (by omega) ?_
      rw [Q2_sn hQ]
      exact ⟨fun _ => ⟨_, rfl, rfl, by rw [← ha]; rfl⟩, fun h => absurd h (by omega)⟩
    | cons x suf ih =>
      intro pre a e ha
      have hl2 : s.so.length = pre.length + 1 + suf.length := by rw [e]; simp; omega
      have hk := Q2_so hQ pre.length (by omega)
      have ex : s.so[pre.length]'(by omega) = x := by simp [e]
      rw [ex] at hk
      have hle := unuS_le (D := D) (l := l) s.so
      rw [unuS_cons] at ha
      refine s2_unused_4 (by omega) ?_
      rw [Q2_sn hQ, hk.1, hk.2.2.2, x_add (a := (pre.length : Int)) (by omega)]
      rw [show a_bl ((0 : Int) ≠ 0) = 0 from rfl, show a_bl ((1 : Int) ≠ 0) = 1 from rfl, x_add (a := (a : Int)) (b := 0) (by omega), x_add (a := (a : Int)) (by omega)]
      have ih0 := ih (pre ++ [x]) a (by rw [e]; simp)
      have ih1 := ih (pre ++ [x]) (a + 1) (by rw [e]; simp)
      rw [List.length_append] at ih0 ih1
      rw [Int.add_zero]
      refine ⟨fun h => absurd h (by omega), fun _ => ⟨by omega, fun h1 => ?_, fun h1 => ⟨by omega, fun h2 => ?_, fun h2 => ?_⟩⟩⟩
      · rw [if_neg (by omega)] at ha; exact ih0 ha
      · rw [if_neg (by omega)] at ha; exact ih0 ha
      · rw [if_pos ⟨h1, h2⟩] at ha; exact ih1 (by omega)
  exact key s.so [] 0 rfl (by omega)
-- the set of the low persons
def setZ (P : Nat → Bool) : Nat → Nat
  | 0 => 0
  | n + 1 => setZ P n + (if P n then 2 ^ n else 0)
theorem setZ_lt (P : Nat → Bool) : ∀ n, setZ P n < 2 ^ n
  | 0 => Nat.one_pos
  | n + 1 => by
    have := setZ_lt P n
    unfold setZ
    rw [Nat.pow_succ]
    split <;> omega
theorem setZ_bit (P : Nat → Bool) : ∀ n i, i < n → (setZ P n).testBit i = P i
  | 0, _, h => by omega
  | n + 1, i, h => by
    have hl := setZ_lt P n
    unfold setZ
    by_cases e : i = n
    · subst e
      split
      next g => rw [Nat.add_comm, Nat.testBit_two_pow_add_eq, Nat.testBit_lt_two_pow hl]; simpa using g.symm
      next g => rw [Nat.add_zero, Nat.testBit_lt_two_pow hl]; simpa using g
    · have ih := setZ_bit P n i (by omega)
      split
      · rw [Nat.add_comm, Nat.testBit_two_pow_add_gt (by omega), ih]
      · rw [Nat.add_zero, ih]
theorem bset_uni {z : Int} {n : Nat} {P : Nat → Bool} (h : bset z n P) : z = setZ P n := by
  obtain ⟨a, rfl, ha, ha2⟩ := bset_nat h
  congr 1
  refine Nat.eq_of_testBit_eq (fun i => ?_)
  rw [ha2]
  by_cases hi : i < n
  · rw [setZ_bit P n i hi]; simp [hi]
  · rw [Nat.testBit_lt_two_pow (Nat.lt_of_lt_of_le (setZ_lt P n) (Nat.pow_le_pow_right (by decide) (by omega)))]
    simp [hi]
def lowS (s : Sg) (l : Int) : Int := setZ (fun p => hasH (s.h l) p) 31
theorem low_1 {z : Int} {P : Nat → Bool} (h : lset z 40 P) : a_l2i (a_land z 2147483647) = setZ P 31 := by
  obtain ⟨a, rfl, ha, ha2⟩ := lset_nat h
  have hlt := lset_lt ha
  have := l_and (n := a) (m := 2147483647) (by omega) (by omega)
  rw [show ((2147483647 : Nat) : Int) = 2147483647 from rfl] at this
  have hm : a &&& 2147483647 = a % 2 ^ 31 := Nat.and_two_pow_sub_one_eq_mod a 31
  have hlt2 : a % 2 ^ 31 < 2 ^ 31 := Nat.mod_lt _ (by decide)
  rw [this, hm, l_l2i (by omega)]
  refine bset_uni (bset_of hlt2 (fun i hi => ?_))
  rw [Nat.testBit_mod_two_pow, ha2]
  simp [hi]
  omega
theorem s2_setOf {D M : AM} {i wl wp wn l : Int} {ph : Int → Int} {s : Sg} (hI : Inv D) (hS : SI D i s) (hQ : Q2 D s i wl wp wn ph M) (hl : 0 ≤ l ∧ l < D 0 3) : aCi s2_G 4 72 [aP 0, aI l] M (fun z M' => M' = M ∧ z = lowS s l) := by
  refine ⟨Nat.le_of_ble_eq_true rfl, fun d hd => ?_⟩
  refine s2_setOf_0 (by omega) ?_
  have hnl := Inv_nl hI
  have hlen := SI_len hI hS l
  have key : ∀ (suf pre : List (Int × Int)) (z : Int), s.h l = pre ++ suf → bset z 31 (fun p => hasH pre p) → aE s2_G d 72 4 [] [some (aP 0), some (aI l), some (aI z), some (aI pre.length), none] [] M (fun r M' => ∃ z, r = some (aI z) ∧ M' = M ∧ z = lowS s l) := by
    intro suf
    induction suf with
    | nil =>
      intro pre z e hz
      have hl2 : (s.h l).length = pre.length := by rw [e]; simp
      rw [List.append_nil] at e
      refine s2_setOf_4 (by omega) ?_
      rw [Q2_hn hQ l hl.1 hl.2]
      exact ⟨by omega, fun _ => ⟨_, rfl, rfl, by unfold lowS; rw [e]; exact bset_uni hz⟩, fun h => absurd h (by omega)⟩
    | cons x suf ih =>
      intro pre z e hz
      have hl2 : (s.h l).length = pre.length + 1 + suf.length := by rw [e]; simp; omega
      have hk := (Q2_hp hQ l hl.1 hl.2 pre.length (by omega)).1
      have ex : (s.h l)[pre.length]'(by omega) = x := by simp [e]
      rw [ex] at hk
      have hxp := (SI_hp hS l x.1 x.2 (by rw [e]; simp)).2.1
      have hnp := Inv_np hI
      refine s2_setOf_4 (by omega) ?_
      rw [Q2_hn hQ l hl.1 hl.2, x_mul (by omega), x_add (a := 40 * l) (by omega), hk, x_add (a := (pre.length : Int)) (by omega)]
      have ih := fun z => ih (pre ++ [x]) z (by rw [e]; simp)
      rw [List.length_append] at ih
      have hap : ∀ p : Nat, hasH (pre ++ [x]) p = (hasH pre p || decide (x.1 = p)) := fun p => by unfold hasH; rw [List.any_append]; simp
      refine ⟨by omega, fun h => absurd h (by omega), fun _ => ⟨by omega, fun h => ih _ ?_, fun h => ih _ ?_⟩⟩
      · refine bset_cg (bset_or hz (bset_0 (n := 31)) (Nat.le_refl _)) (fun p hp => ?_)
        rw [hap, show decide (x.1 = (p : Int)) = false by simp; omega]
      · obtain ⟨c, hc⟩ : ∃ c : Nat, x.1 = c := ⟨x.1.toNat, by omega⟩
        rw [hc]
        refine bset_cg (bset_or hz (bset_one (c := c) (n := 31) (by omega) (Nat.le_refl _)) (Nat.le_refl _)) (fun p hp => ?_)
        rw [hap, hc]
        congr 1
        by_cases e : p = c
        · simp [e]
        · simp [e]; omega
  exact key (s.h l) [] 0 rfl (bset_cg bset_0 (fun i _ => rfl))
