/-! THE STORY in the second system: a man taken in -/
def soU (D : AM) (s : Sg) (l : Int) : List (Int × Int) := match sldF D l (turnS s l) s.so 0 with
  | some (k, n) => s.so.set k (n, 1)
  | none => s.so
def tnU (s : Sg) (l : Int) : Int → Int := if s.rb l = -1 then s.tn else up1 s.tn l (1 - s.tn l)
theorem useS_eq {D : AM} {s : Sg} {l : Int} (h : turnS s l ≠ -1) : useS D s l = (s.h, s.ef, s.eb, s.ra, s.rb, tnU s l, soU D s l, s.lg, s.rs) := by
  unfold useS
  rw [if_neg h]
  rfl
theorem T2_mo {D M : AM} {w i j wl wp wn : Int} {ph : Int → Int} {s : Sg} (h : T2 D w s i wl wp wn ph M) (hij : i ≤ j) : T2 D w s j wl wp wn ph M := by
  obtain ⟨hL, hb, hQ⟩ := h
  refine ⟨hL, hb, Q2_hn (s := s) hQ, Q2_hp (s := s) hQ, Q2_fm (s := s) hQ, Q2_fb (s := s) hQ, by have := Q2_cm (s := s) hQ; omega, Q2_ef (s := s) hQ, Q2_eb (s := s) hQ, Q2_ra (s := s) hQ, Q2_rb (s := s) hQ, Q2_tn (s := s) hQ, Q2_sn (s := s) hQ, Q2_so (s := s) hQ, Q2_w1 (s := s) hQ, Q2_w2 (s := s) hQ, Q2_w3 (s := s) hQ, Q2_cn (s := s) hQ, Q2_cg (s := s) hQ, Q2_wy (s := s) hQ, Q2_fe (s := s) hQ⟩
theorem s2_useTurn {D M : AM} {w i wl wp wn l : Int} {ph : Int → Int} {s : Sg} (hI : Inv D) (hS : SI D i s) (hi : i ≤ 150) (hT : T2 D w s i wl wp wn ph M) (hl : 0 ≤ l ∧ l < D 0 3) : aCv s2_G 6 63 [aP 0, aI l] M (fun M' => fr wE2 M M' ∧ T2 D w (useS D s l) i wl wp wn ph M') := by
  refine ⟨Nat.le_of_ble_eq_true rfl, fun d hd => ?_⟩
  refine s2_useTurn_0 (by omega) ?_
  have hnl := Inv_nl hI
  obtain ⟨hLq, hb, hQ⟩ := id hT
  have hra := SI_ra hS l
  have hrb := SI_rb hS l
  have htn := SI_tn hS l
  have ht := turnS_rg (l := l) hS
  have hsl := SI_so hS
  rw [Q2_ra hQ l hl.1 hl.2]
  refine ⟨by omega, fun h => ?_, fun h => ?_⟩
  · have hne : turnS s l ≠ -1 := fun q => by have := ht.2.mp q; omega
    have key : ∀ (M2 : AM), fr (wr [38] []) M M2 → (∀ (k : Nat) (hk : k < (soU D s l).length), M2 35 k = D 8 (soU D s l)[k].1 ∧ M2 36 k = D 9 (soU D s l)[k].1 ∧ M2 37 k = D 10 (soU D s l)[k].1 ∧ M2 38 k = (soU D s l)[k].2) → (soU D s l).length = s.so.length → ((M2 32 l < 0 → (none : Option AV) = none ∧ fr wE2 M M2 ∧ T2 D w (useS D s l) i wl wp wn ph M2) ∧ (0 ≤ M2 32 l → (0 ≤ l ∧ l < 12) ∧ (0 ≤ l ∧ l < 12) ∧ (none : Option AV) = none ∧ fr wE2 M (am_up M2 33 l (a_sub 1 (M2 33 l))) ∧ T2 D w (useS D s l) i wl wp wn ph (am_up M2 33 l (a_sub 1 (M2 33 l))))) := by
      intro M2 f2 hso hlen
      have q2 : ∀ M3, fr (wr [33, 38] []) M M3 → fr (wr [33] []) M2 M3 → (∀ x, 0 ≤ x → x < D 0 3 → M3 33 x = tnU s l x) → (none : Option AV) = none ∧ fr wE2 M M3 ∧ T2 D w (useS D s l) i wl wp wn ph M3 := by
        intro M3 f3 g3 h33
        refine ⟨rfl, fr_mo f3 rfl, eqL_fw hLq f3 rfl, by rw [f3 0 17 rfl, show M3 13 = M 13 from funext fun x => f3 13 x rfl]; exact hb, ?_⟩
        rw [useS_eq hne]
        refine ⟨fun x x0 x1 => ?_, fun x x0 x1 k hk => ?_, Q2_fm (s := s) hQ, fun y p c h1 => ?_, ?_, fun x x0 x1 => ?_, fun x x0 x1 => ?_, fun x x0 x1 => ?_, fun x x0 x1 => ?_, h33, ?_, fun k hk => ?_, ?_, ?_, ?_, ?_, fun k hk => ?_, ?_, ?_⟩
        · rw [f3 27 x rfl]; exact Q2_hn (s := s) hQ x x0 x1
        · rw [f3 28 _ rfl, f3 34 _ rfl]; exact Q2_hp (s := s) hQ x x0 x1 k hk
        · rw [f3 0 51 rfl]; exact Q2_fb (s := s) hQ y p c h1
        · rw [f3 0 51 rfl]; exact Q2_cm (s := s) hQ
        · rw [f3 29 x rfl]; exact Q2_ef (s := s) hQ x x0 x1
        · rw [f3 30 x rfl]; exact Q2_eb (s := s) hQ x x0 x1
        · rw [f3 31 x rfl]; exact Q2_ra (s := s) hQ x x0 x1
        · rw [f3 32 x rfl]; exact Q2_rb (s := s) hQ x x0 x1
        · rw [f3 0 52 rfl, Q2_sn hQ]
          show _ = (((soU D s l).length : Nat) : Int)
          rw [hlen]
        · rw [g3 35 k rfl, g3 36 k rfl, g3 37 k rfl, g3 38 k rfl]; exact hso k hk
        · rw [f3 0 57 rfl]; exact Q2_w1 (s := s) hQ
        · rw [f3 0 64 rfl]; exact Q2_w2 (s := s) hQ
        · rw [f3 0 62 rfl]; exact Q2_w3 (s := s) hQ
        · rw [f3 0 58 rfl]; exact Q2_cn (s := s) hQ
        · rw [f3 39 k rfl, f3 40 k rfl, f3 41 k rfl]; exact Q2_cg (s := s) hQ k hk
        · rw [f3 0 63 rfl]; exact Q2_wy (s := s) hQ
        · rw [f3 0 65 rfl]; exact Q2_fe (s := s) hQ
      rw [f2 32 l rfl, f2 33 l rfl, Q2_rb hQ l hl.1 hl.2, Q2_tn hQ l hl.1 hl.2, x_sub (by omega)]
      refine ⟨fun hb => q2 M2 (fr_mo f2 rfl) fr_rf (fun x x0 x1 => ?_), fun hb => ⟨by omega, by omega, q2 _ (fr_up (fr_mo f2 rfl) rfl) (fr_up fr_rf rfl) (fun x x0 x1 => ?_)⟩⟩
      · unfold tnU
        rw [if_pos (by omega), f2 33 x rfl]
        exact Q2_tn hQ x x0 x1
      · unfold tnU
        rw [if_neg (by omega), x_uu]
        unfold up1
        split
        · rfl
        · rw [f2 33 x rfl]; exact Q2_tn hQ x x0 x1
    refine aKi_of (s2_soldTurn hI hS hi hQ hl) (by omega) (fun z M1 q => ?_)
    obtain ⟨e, rfl⟩ := q
    rw [e]
    match e1 : sldF D l (turnS s l) s.so 0 with
    | some (k, n) =>
      obtain ⟨-, hk, e2, -⟩ := sldF_at _ _ _ _ e1
      have hk' : k < s.so.length := by simpa using hk
      simp only [Nat.sub_zero] at e2
      have es : soU D s l = s.so.set k (n, 1) := by unfold soU; rw [e1]
      refine ⟨fun h => absurd h (by dsimp only; omega), fun _ => ⟨by dsimp only; omega, Or.inr rfl, by omega, ?_⟩⟩
      refine key (am_up M 38 k 1) (fr_up fr_rf rfl) (fun j hj => ?_) (by rw [es]; simp)
      have hj' : j < s.so.length := by rw [es] at hj; simpa using hj
      have hq := Q2_so hQ j hj'
      simp (decide := true) only [x_uk, x_uu]
      simp only [es]
      by_cases ej : j = k
      · subst ej
        rw [up1_s]
        simp only [List.getElem_set_self]
        rw [e2] at hq
        exact ⟨hq.1, hq.2.1, hq.2.2.1, trivial⟩
      · rw [up1_n (by omega)]
        simp only [List.getElem_set_ne (Ne.symm ej)]
        exact hq
    | none =>
      have es : soU D s l = s.so := by unfold soU; rw [e1]
      refine ⟨fun _ => ⟨by omega, ?_⟩, fun h => absurd h (by dsimp only; omega)⟩
      refine key M fr_rf (fun j hj => ?_) (by rw [es])
      simp only [es] at hj ⊢
      exact Q2_so hQ j hj
  · have he : turnS s l = -1 := ht.2.mpr (by omega)
    have eu : useS D s l = s := by unfold useS; rw [if_pos he]
    rw [eu]
    exact ⟨rfl, fr_rf, hT⟩
theorem s2_enter {D M : AM} {w i wl wp wn n : Int} {ph : Int → Int} {s : Sg} (hI : Inv D) (hS : SI D i s) (hi : 0 ≤ i ∧ i + 1 ≤ 150) (hL : SL D 150 s) (hT : T2 D w s i wl wp wn ph M) (hn : 0 ≤ n ∧ n < D 0 7) (hl : 0 ≤ D 8 n ∧ D 8 n < D 0 3) (hp : 0 ≤ D 9 n ∧ D 9 n < D 0 1) : aCv s2_G 5 52 [aP 0, aI (D 8 n), aI (D 9 n), aI n] M (fun M' => fr wE2 M M' ∧ ∃ ph', T2 D w (entS D s n i) (i + 1) wl wp wn ph' M') := by
  refine ⟨Nat.le_of_ble_eq_true rfl, fun d hd => ?_⟩
  refine s2_enter_0 (by omega) ?_
  have hnl := Inv_nl hI
  have hpn := Inv_pn hI
  obtain ⟨hLq, hb, hQ⟩ := id hT
  obtain ⟨l, el⟩ : ∃ l, l = D 8 n := ⟨_, rfl⟩
  rw [← el] at hl ⊢
  refine aKi_of (s2_placeOf (w := w) (p := D 9 n) hI hS hQ hl) (by omega) (fun z M1 q => ?_)
  obtain ⟨e, ⟨k, hk, rfl, ek⟩ | ⟨rfl, eh⟩⟩ := q
  · have eh := has_of_at hk ek
    have ee : entS D s n i = s := by unfold entS; rw [← el, if_pos eh]
    rw [e, ee]
    exact ⟨fun _ => ⟨rfl, fr_rf, ph, T2_mo hT (by omega)⟩, fun h => absurd h (by omega)⟩
  · rw [e]
    have hlen := SI_len2 hI hS hp eh
    have hcm := Q2_cm hQ
    obtain ⟨A, eA⟩ : ∃ A, A = s.h l := ⟨_, rfl⟩
    have ee : entS D s n i = (upl s.h l (A ++ [(D 9 n, i)]), up1 s.ef l (-1), up1 s.eb l (-1), s.ra, s.rb, s.tn, s.so, s.lg ++ [(l, D 9 n, 0, n, (A.length : Int) + 1)], s.rs) := by
      unfold entS
      rw [← el, if_neg (by rw [eh]; decide), ← eA]
    rw [ee]
    have h27 := Q2_hn hQ l hl.1 hl.2
    rw [← eA] at h27 hlen
    simp (decide := true) only [x_uc, x_uk]
    rw [h27, x_mul (by omega), x_add (a := 40 * l) (by omega), x_add (a := (A.length : Int)) (by omega), x_add (a := M 0 51) (by omega)]
    refine ⟨fun h => h.elim, fun _ => ⟨by omega, by omega, by omega, by omega, by omega, by omega, by omega, by omega, ?_⟩⟩
    obtain ⟨M3, e3⟩ : ∃ M3, M3 = am_up (am_up (am_up (am_up (am_up (am_up M 28 (40 * l + A.length) (D 9 n)) 34 (40 * l + A.length) (M 0 51)) 27 l (A.length + 1)) 0 51 (M 0 51 + 1)) 29 l (-1)) 30 l (-1) := ⟨_, rfl⟩
    rw [← e3]
    have f3 : fr (wr [27, 28, 29, 30, 34] [(0, 51)]) M M3 := by
      rw [e3]
      exact fr_up (fr_up (fr_up (fr_up (fr_up (fr_up fr_rf rfl) rfl) rfl) rfl) rfl) rfl
    have m27 : M3 27 = up1 (M 27) l (A.length + 1) := by rw [e3]; simp (decide := true) only [x_uk, x_uu]
    have m28 : M3 28 = up1 (M 28) (40 * l + A.length) (D 9 n) := by rw [e3]; simp (decide := true) only [x_uk, x_uu]
    have m34 : M3 34 = up1 (M 34) (40 * l + A.length) (M 0 51) := by rw [e3]; simp (decide := true) only [x_uk, x_uu]
    have m29 : M3 29 = up1 (M 29) l (-1) := by rw [e3]; simp (decide := true) only [x_uk, x_uu]
    have m30 : M3 30 = up1 (M 30) l (-1) := by rw [e3]; simp (decide := true) only [x_uk, x_uu]
    have m51 : M3 0 51 = M 0 51 + 1 := by rw [e3]; simp (decide := true) only [x_uk, x_us]
    have hL3 := eqL_fw hLq f3 rfl
    have hcnt : (s.lg.filter (isAt wl)).length = s.lg.countP (isAt wl) := (List.countP_eq_length_filter).symm
    have hliv := SL_liv hL wl
    have h58 : M3 0 58 = (s.lg.filter (isAt wl)).length := (f3 0 58 rfl).trans (Q2_cn hQ)
    have h57 : M3 0 57 = wl := (f3 0 57 rfl).trans (Q2_w1 hQ)
    refine aKv_of (s2_note hL3 (by omega) (by omega) h58 (fun _ => by omega)) (by omega) (fun M4 q => ?_)
    rw [h57, show M3 27 l = (A.length : Int) + 1 by rw [m27, up1_s]] at q
    have hcg := cg_note (D := D) (lg := s.lg) (wl := wl) (l := l) (p := D 9 n) (f := 0) (n := n) (z := (A.length : Int) + 1) (M := M3) h58 (fun k hk => by
      have := Q2_cg hQ k hk
      rw [f3 39 k rfl, f3 40 k rfl, f3 41 k rfl]
      exact this) M4 q
    have f34 : fr (wr [39, 40, 41] [(0, 58)]) M3 M4 := by
      rw [q]
      split
      · exact not2_fr
      · exact fr_rf
    have fA : fr (wr [27, 28, 29, 30, 34, 39, 40, 41] [(0, 51), (0, 58)]) M M4 := fr_tr (fr_mo f3 rfl) (fr_mo f34 rfl)
    have e13 : M4 13 = M 13 := funext fun x => fA 13 x rfl
    have hph : ∀ y p c, (p, c) ∈ s.h y → up1 ph i (M 0 51) c = ph c := fun y p c hm => by
      have := (SI_hp hS y p c hm).2.2
      rw [up1_n (by omega)]
    have hmem : ∀ y p c, (p, c) ∈ upl s.h l (A ++ [(D 9 n, i)]) y → (p, c) ∈ s.h y ∨ c = i := fun y p c hm => by
      unfold upl at hm
      split at hm
      next e =>
        rcases List.mem_append.mp hm with hm | hm
        · rw [e, ← eA]; exact Or.inl hm
        · simp at hm; exact Or.inr hm.2
      · exact Or.inl hm
    refine ⟨by trivial, fr_mo fA rfl, up1 ph i (M 0 51), eqL_fw hLq fA rfl, by rw [fA 0 17 rfl, e13]; exact hb, ?_⟩
    refine ⟨fun x x0 x1 => ?_, fun x x0 x1 k hk => ?_, fun y m p q c c' h1 h2 hc => ?_, fun y p c h1 => ?_, ?_, fun x x0 x1 => ?_, fun x x0 x1 => ?_, fun x x0 x1 => ?_, fun x x0 x1 => ?_, fun x x0 x1 => ?_, ?_, fun k hk => ?_, ?_, ?_, ?_, hcg.1, hcg.2, ?_, ?_⟩
    · rw [f34 27 x rfl, m27]
      show _ = ((upl s.h l (A ++ [(D 9 n, i)]) x).length : Int)
      by_cases e : x = l
      · subst e; rw [up1_s, upl_s]; simp
      · rw [up1_n e, upl_n e]; exact Q2_hn hQ x x0 x1
    · rw [f34 28 _ rfl, f34 34 _ rfl, m28, m34]
      have hk' : k < (upl s.h l (A ++ [(D 9 n, i)]) x).length := hk
      show _ = (upl s.h l (A ++ [(D 9 n, i)]) x)[k].1 ∧ _ = up1 ph i (M 0 51) (upl s.h l (A ++ [(D 9 n, i)]) x)[k].2
      by_cases e : x = l
      · subst e
        simp only [upl_s] at hk' ⊢
        by_cases ek : k = A.length
        · subst ek
          rw [up1_s, up1_s]
          refine ⟨by simp, ?_⟩
          rw [List.getElem_append_right (Nat.le_refl _)]
          simp [up1_s]
        · have hk2 : k < A.length := by simp at hk'; omega
          rw [up1_n (by omega), up1_n (by omega), List.getElem_append_left hk2]
          have h3 := Q2_hp hQ x x0 x1 k (by rw [← eA]; exact hk2)
          have h4 := hph x (A[k].1) (A[k].2) (by rw [← eA]; exact List.getElem_mem hk2)
          rw [h4]
          simpa [eA] using h3
      · simp only [upl_n e] at hk' ⊢
        have hx := SI_len hI hS x
        rw [up1_n (by omega), up1_n (by omega), hph x ((s.h x)[k].1) ((s.h x)[k].2) (List.getElem_mem hk')]
        exact Q2_hp hQ x x0 x1 k hk'
    · rcases hmem _ _ _ h1 with g1 | g1 <;> rcases hmem _ _ _ h2 with g2 | g2
      · rw [hph _ _ _ g1, hph _ _ _ g2]
        exact Q2_fm hQ y m p q c c' g1 g2 hc
      · rw [hph _ _ _ g1, g2, up1_s]
        exact (Q2_fb hQ _ _ _ g1).2
      · have := (SI_hp hS _ _ _ g2).2.2
        omega
      · omega
    · rw [f34 0 51 rfl, m51]
      rcases hmem _ _ _ h1 with g1 | g1
      · rw [hph _ _ _ g1]
        have := Q2_fb hQ _ _ _ g1
        omega
      · rw [g1, up1_s]; omega
    · rw [f34 0 51 rfl, m51]; omega
    · rw [f34 29 x rfl, m29]
      show _ = up1 s.ef l (-1) x
      unfold up1
      split
      · rfl
      · exact Q2_ef hQ x x0 x1
    · rw [f34 30 x rfl, m30]
      show _ = up1 s.eb l (-1) x
      unfold up1
      split
      · rfl
      · exact Q2_eb hQ x x0 x1
    · rw [fA 31 x rfl]; exact Q2_ra (s := s) hQ x x0 x1
    · rw [fA 32 x rfl]; exact Q2_rb (s := s) hQ x x0 x1
    · rw [fA 33 x rfl]; exact Q2_tn (s := s) hQ x x0 x1
    · rw [fA 0 52 rfl]; exact Q2_sn (s := s) hQ
    · rw [fA 35 k rfl, fA 36 k rfl, fA 37 k rfl, fA 38 k rfl]; exact Q2_so (s := s) hQ k hk
    · rw [fA 0 57 rfl]; exact Q2_w1 (s := s) hQ
    · rw [fA 0 64 rfl]; exact Q2_w2 (s := s) hQ
    · rw [fA 0 62 rfl]; exact Q2_w3 (s := s) hQ
    · rw [fA 0 63 rfl]; exact Q2_wy (s := s) hQ
    · rw [fA 0 65 rfl]
      show _ = felD D (s.lg ++ [_]) wl wp
      rw [felD_snoc, if_neg (fun q => absurd (show (0 : Int) = 1 from q.2.1) (by decide))]
      exact Q2_fe hQ
/-- two of a row with one head are one -/
theorem fst_uni {L : List (Int × Int)} (h : L.Pairwise (fun a b => a.1 ≠ b.1)) {a b : Int × Int} (ha : a ∈ L) (hb : b ∈ L) (e : a.1 = b.1) : a = b := by
  induction L with
  | nil => cases ha
  | cons x L ih =>
    have hp := List.pairwise_cons.mp h
    rcases List.mem_cons.mp ha with rfl | ha
    · rcases List.mem_cons.mp hb with rfl | hb
      · rfl
      · exact absurd e (hp.1 b hb)
    · rcases List.mem_cons.mp hb with hb | hb
      · exact absurd e.symm (by rw [hb]; exact hp.1 a ha)
      · exact ih hp.2 ha hb
theorem lasS_no {D : AM} {i l p : Int} {s : Sg} (hS : SI D i s) : ∀ m : Nat, (lasS s l p m).1 = -1 → ∀ x : Nat, x < m → (x : Int) ≠ l → hasH (s.h x) p = false
  | 0, _, x, hx, _ => by omega
  | m + 1, h, x, hx, hne => by
    have hi := lasS_inv (l := l) (p := p) hS m
    unfold lasS at h
    split at h
    · dsimp only at h; omega
    next hc =>
      by_cases e : x = m
      · subst e
        have h2 : (lasS s l p x).2 = -1 := by
          rcases hi with hi | hi
          · exact hi.2
          · have := hi.1.1; omega
        cases eh : hasH (s.h x) p
        · rfl
        · have := (SI_hp hS _ _ _ (comC_in eh)).2.2
          exact absurd ⟨hne, by omega⟩ hc
      · exact lasS_no hS m h x (by omega) hne
theorem fallN_no {D : AM} {a b n why : Int} {s : Sg} : ∀ m : Nat, (∀ x : Nat, x < m → (x : Int) ≠ a → hasH (s.h x) (D 9 n) = false) → fallN D a b n why m s = s
  | 0, _ => rfl
  | m + 1, h => by
    have ih := fallN_no (a := a) (b := b) (why := why) m (fun x hx => h x (by omega))
    unfold fallN
    rw [ih]
    split
    · rfl
    next hc =>
      unfold fallS
      rw [if_neg (by rw [h m (by omega) (by omega)]; decide)]
