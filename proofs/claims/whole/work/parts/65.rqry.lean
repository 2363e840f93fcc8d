/-! THE STORY in the second system: what is asked of it -/
def felD (D : AM) (lg : List LE) (wl wp : Int) : Int := lg.foldl (fun a e => if e.1 = wl ∧ e.2.2.1 = 1 ∧ e.2.1 = wp then D 6 e.2.2.2.1 else a) (-1)
def Q2 (D : AM) (s : Sg) (i : Int) (wl : Int) (wp : Int) (wn : Int) (ph : Int → Int) (M : AM) : Prop :=
  (∀ l, 0 ≤ l → l < D 0 3 → M 27 l = (s.h l).length) ∧
  (∀ l, 0 ≤ l → l < D 0 3 → ∀ (k : Nat) (hk : k < (s.h l).length), M 28 (40 * l + k) = (s.h l)[k].1 ∧ M 34 (40 * l + k) = ph (s.h l)[k].2) ∧
  (∀ l m p q c c', (p, c) ∈ s.h l → (q, c') ∈ s.h m → c < c' → ph c < ph c') ∧
  (∀ l p c, (p, c) ∈ s.h l → 0 ≤ ph c ∧ ph c < M 0 51) ∧
  (0 ≤ M 0 51 ∧ M 0 51 ≤ i) ∧
  (∀ l, 0 ≤ l → l < D 0 3 → M 29 l = s.ef l) ∧
  (∀ l, 0 ≤ l → l < D 0 3 → M 30 l = s.eb l) ∧
  (∀ l, 0 ≤ l → l < D 0 3 → M 31 l = s.ra l) ∧
  (∀ l, 0 ≤ l → l < D 0 3 → M 32 l = s.rb l) ∧
  (∀ l, 0 ≤ l → l < D 0 3 → M 33 l = s.tn l) ∧
  (M 0 52 = s.so.length) ∧
  (∀ (k : Nat) (hk : k < s.so.length), M 35 k = D 8 s.so[k].1 ∧ M 36 k = D 9 s.so[k].1 ∧ M 37 k = D 10 s.so[k].1 ∧ M 38 k = s.so[k].2) ∧
  (M 0 57 = wl) ∧
  (M 0 64 = wp) ∧
  (M 0 62 = wn) ∧
  (M 0 58 = (s.lg.filter (isAt wl)).length) ∧
  (∀ (k : Nat) (hk : k < (s.lg.filter (isAt wl)).length), M 39 k = D 6 (s.lg.filter (isAt wl))[k].2.2.2.1 ∧ M 40 k = (s.lg.filter (isAt wl))[k].2.2.2.2 ∧ M 41 k = (s.lg.filter (isAt wl))[k].2.2.2.1) ∧
  (M 0 63 = s.rs wn) ∧
  (M 0 65 = felD D s.lg wl wp)
theorem Q2_hn {D : AM} {s : Sg} {i : Int} {wl : Int} {wp : Int} {wn : Int} {ph : Int → Int} {M : AM} (h : Q2 D  s  i  wl  wp  wn  ph  M ) : ∀ l, 0 ≤ l → l < D 0 3 → M 27 l = (s.h l).length := h.1
theorem Q2_hp {D : AM} {s : Sg} {i : Int} {wl : Int} {wp : Int} {wn : Int} {ph : Int → Int} {M : AM} (h : Q2 D  s  i  wl  wp  wn  ph  M ) : ∀ l, 0 ≤ l → l < D 0 3 → ∀ (k : Nat) (hk : k < (s.h l).length), M 28 (40 * l + k) = (s.h l)[k].1 ∧ M 34 (40 * l + k) = ph (s.h l)[k].2 := h.2.1
theorem Q2_fm {D : AM} {s : Sg} {i : Int} {wl : Int} {wp : Int} {wn : Int} {ph : Int → Int} {M : AM} (h : Q2 D  s  i  wl  wp  wn  ph  M ) : ∀ l m p q c c', (p, c) ∈ s.h l → (q, c') ∈ s.h m → c < c' → ph c < ph c' := h.2.2.1
theorem Q2_fb {D : AM} {s : Sg} {i : Int} {wl : Int} {wp : Int} {wn : Int} {ph : Int → Int} {M : AM} (h : Q2 D  s  i  wl  wp  wn  ph  M ) : ∀ l p c, (p, c) ∈ s.h l → 0 ≤ ph c ∧ ph c < M 0 51 := h.2.2.2.1
theorem Q2_cm {D : AM} {s : Sg} {i : Int} {wl : Int} {wp : Int} {wn : Int} {ph : Int → Int} {M : AM} (h : Q2 D  s  i  wl  wp  wn  ph  M ) : 0 ≤ M 0 51 ∧ M 0 51 ≤ i := h.2.2.2.2.1
theorem Q2_ef {D : AM} {s : Sg} {i : Int} {wl : Int} {wp : Int} {wn : Int} {ph : Int → Int} {M : AM} (h : Q2 D  s  i  wl  wp  wn  ph  M ) : ∀ l, 0 ≤ l → l < D 0 3 → M 29 l = s.ef l := h.2.2.2.2.2.1
theorem Q2_eb {D : AM} {s : Sg} {i : Int} {wl : Int} {wp : Int} {wn : Int} {ph : Int → Int} {M : AM} (h : Q2 D  s  i  wl  wp  wn  ph  M ) : ∀ l, 0 ≤ l → l < D 0 3 → M 30 l = s.eb l := h.2.2.2.2.2.2.1
theorem Q2_ra {D : AM} {s : Sg} {i : Int} {wl : Int} {wp : Int} {wn : Int} {ph : Int → Int} {M : AM} (h : Q2 D  s  i  wl  wp  wn  ph  M ) : ∀ l, 0 ≤ l → l < D 0 3 → M 31 l = s.ra l := h.2.2.2.2.2.2.2.1
theorem Q2_rb {D : AM} {s : Sg} {i : Int} {wl : Int} {wp : Int} {wn : Int} {ph : Int → Int} {M : AM} (h : Q2 D  s  i  wl  wp  wn  ph  M ) : ∀ l, 0 ≤ l → l < D 0 3 → M 32 l = s.rb l := h.2.2.2.2.2.2.2.2.1
theorem Q2_tn {D : AM} {s : Sg} {i : Int} {wl : Int} {wp : Int} {wn : Int} {ph : Int → Int} {M : AM} (h : Q2 D  s  i  wl  wp  wn  ph  M ) : ∀ l, 0 ≤ l → l < D 0 3 → M 33 l = s.tn l := h.2.2.2.2.2.2.2.2.2.1
theorem Q2_sn {D : AM} {s : Sg} {i : Int} {wl : Int} {wp : Int} {wn : Int} {ph : Int → Int} {M : AM} (h : Q2 D  s  i  wl  wp  wn  ph  M ) : M 0 52 = s.so.length := h.2.2.2.2.2.2.2.2.2.2.1
theorem Q2_so {D : AM} {s : Sg} {i : Int} {wl : Int} {wp : Int} {wn : Int} {ph : Int → Int} {M : AM} (h : Q2 D  s  i  wl  wp  wn  ph  M ) : ∀ (k : Nat) (hk : k < s.so.length), M 35 k = D 8 s.so[k].1 ∧ M 36 k = D 9 s.so[k].1 ∧ M 37 k = D 10 s.so[k].1 ∧ M 38 k = s.so[k].2 := h.2.2.2.2.2.2.2.2.2.2.2.1
theorem Q2_w1 {D : AM} {s : Sg} {i : Int} {wl : Int} {wp : Int} {wn : Int} {ph : Int → Int} {M : AM} (h : Q2 D  s  i  wl  wp  wn  ph  M ) : M 0 57 = wl := h.2.2.2.2.2.2.2.2.2.2.2.2.1
theorem Q2_w2 {D : AM} {s : Sg} {i : Int} {wl : Int} {wp : Int} {wn : Int} {ph : Int → Int} {M : AM} (h : Q2 D  s  i  wl  wp  wn  ph  M ) : M 0 64 = wp := h.2.2.2.2.2.2.2.2.2.2.2.2.2.1
theorem Q2_w3 {D : AM} {s : Sg} {i : Int} {wl : Int} {wp : Int} {wn : Int} {ph : Int → Int} {M : AM} (h : Q2 D  s  i  wl  wp  wn  ph  M ) : M 0 62 = wn := h.2.2.2.2.2.2.2.2.2.2.2.2.2.2.1
theorem Q2_cn {D : AM} {s : Sg} {i : Int} {wl : Int} {wp : Int} {wn : Int} {ph : Int → Int} {M : AM} (h : Q2 D  s  i  wl  wp  wn  ph  M ) : M 0 58 = (s.lg.filter (isAt wl)).length := h.2.2.2.2.2.2.2.2.2.2.2.2.2.2.2.1
theorem Q2_cg {D : AM} {s : Sg} {i : Int} {wl : Int} {wp : Int} {wn : Int} {ph : Int → Int} {M : AM} (h : Q2 D  s  i  wl  wp  wn  ph  M ) : ∀ (k : Nat) (hk : k < (s.lg.filter (isAt wl)).length), M 39 k = D 6 (s.lg.filter (isAt wl))[k].2.2.2.1 ∧ M 40 k = (s.lg.filter (isAt wl))[k].2.2.2.2 ∧ M 41 k = (s.lg.filter (isAt wl))[k].2.2.2.1 := h.2.2.2.2.2.2.2.2.2.2.2.2.2.2.2.2.1
theorem Q2_wy {D : AM} {s : Sg} {i : Int} {wl : Int} {wp : Int} {wn : Int} {ph : Int → Int} {M : AM} (h : Q2 D  s  i  wl  wp  wn  ph  M ) : M 0 63 = s.rs wn := h.2.2.2.2.2.2.2.2.2.2.2.2.2.2.2.2.2.1
theorem Q2_fe {D : AM} {s : Sg} {i : Int} {wl : Int} {wp : Int} {wn : Int} {ph : Int → Int} {M : AM} (h : Q2 D  s  i  wl  wp  wn  ph  M ) : M 0 65 = felD D s.lg wl wp := h.2.2.2.2.2.2.2.2.2.2.2.2.2.2.2.2.2.2
theorem Q2_fw {D M M' : AM} {s : Sg} {i wl wp wn : Int} {ph : Int → Int} {cs : List Nat} {fs : List (Nat × Int)} (h : Q2 D s i wl wp wn ph M) (g : fr (wr cs fs) M M') (e : sepL [27, 28, 29, 30, 31, 32, 33, 34, 35, 36, 37, 38, 39, 40, 41] [(0, 51), (0, 52), (0, 57), (0, 58), (0, 62), (0, 63), (0, 64), (0, 65)] cs fs = true) : Q2 D s i wl wp wn ph M' := by
  have m27 : M' 27 = M 27 := fr_c g e rfl
  have m28 : M' 28 = M 28 := fr_c g e rfl
  have m29 : M' 29 = M 29 := fr_c g e rfl
  have m30 : M' 30 = M 30 := fr_c g e rfl
  have m31 : M' 31 = M 31 := fr_c g e rfl
  have m32 : M' 32 = M 32 := fr_c g e rfl
  have m33 : M' 33 = M 33 := fr_c g e rfl
  have m34 : M' 34 = M 34 := fr_c g e rfl
  have m35 : M' 35 = M 35 := fr_c g e rfl
  have m36 : M' 36 = M 36 := fr_c g e rfl
  have m37 : M' 37 = M 37 := fr_c g e rfl
  have m38 : M' 38 = M 38 := fr_c g e rfl
  have m39 : M' 39 = M 39 := fr_c g e rfl
  have m40 : M' 40 = M 40 := fr_c g e rfl
  have m41 : M' 41 = M 41 := fr_c g e rfl
  have n51 : M' 0 51 = M 0 51 := fr_f g e rfl
  have n52 : M' 0 52 = M 0 52 := fr_f g e rfl
  have n57 : M' 0 57 = M 0 57 := fr_f g e rfl
  have n58 : M' 0 58 = M 0 58 := fr_f g e rfl
  have n62 : M' 0 62 = M 0 62 := fr_f g e rfl
  have n63 : M' 0 63 = M 0 63 := fr_f g e rfl
  have n64 : M' 0 64 = M 0 64 := fr_f g e rfl
  have n65 : M' 0 65 = M 0 65 := fr_f g e rfl
  unfold Q2 at h ⊢
  simp only [m27, m28, m29, m30, m31, m32, m33, m34, m35, m36, m37, m38, m39, m40, m41, n51, n52, n57, n58, n62, n63, n64, n65]
  exact h
abbrev wQ2 : Nat → Int → Bool := wr [25, 26, 42] [(0, 41), (0, 42), (0, 66)]
def T2 (D : AM) (w : Int) (s : Sg) (i wl wp wn : Int) (ph : Int → Int) (M : AM) : Prop := eqL D M ∧ isB (M 0 17) (M 13) (bk D w) ∧ Q2 D s i wl wp wn ph M
theorem T2_q {D M M' : AM} {w i wl wp wn : Int} {ph : Int → Int} {s : Sg} (h : T2 D w s i wl wp wn ph M) (g : fr wQ2 M M') : T2 D w s i wl wp wn ph M' := by
  have e13 : M' 13 = M 13 := funext fun i => g 13 i rfl
  refine ⟨eqL_fw h.1 g rfl, ?_, Q2_fw h.2.2 g rfl⟩
  rw [g 0 17 rfl, e13]
  exact h.2.1
theorem T2_f {D M M' : AM} {w i wl wp wn : Int} {ph : Int → Int} {s : Sg} (h : T2 D w s i wl wp wn ph M) (g : fr wF M M') : T2 D w s i wl wp wn ph M' := T2_q h (fr_mo g rfl)
theorem s2_placeOf {D M : AM} {w i wl wp wn l p : Int} {ph : Int → Int} {s : Sg} (hI : Inv D) (hS : SI D i s) (hQ : Q2 D s i wl wp wn ph M) (hl : 0 ≤ l ∧ l < D 0 3) : aCi s2_G 4 50 [aP 0, aI l, aI p] M (fun z M' => M' = M ∧ ((∃ (k : Nat) (hk : k < (s.h l).length), z = k ∧ (s.h l)[k].1 = p) ∨ (z = -1 ∧ hasH (s.h l) p = false))) := by
  refine ⟨Nat.le_of_ble_eq_true rfl, fun d hd => ?_⟩
  refine s2_placeOf_0 (by omega) ?_
  have hnl := Inv_nl hI
  have hlen := SI_len hI hS l
  have key : ∀ (suf pre : List (Int × Int)), s.h l = pre ++ suf → hasH pre p = false → aE s2_G d 50 2 [] [some (aP 0), some (aI l), some (aI p), some (aI pre.length)] [] M (fun r M' => ∃ z, r = some (aI z) ∧ M' = M ∧ ((∃ (k : Nat) (hk : k < (s.h l).length), z = k ∧ (s.h l)[k].1 = p) ∨ (z = -1 ∧ hasH (s.h l) p = false))) := by
    intro suf
    induction suf with
    | nil =>
      intro pre e hp
      have hl2 : (s.h l).length = pre.length := by rw [e]; simp
      refine s2_placeOf_2 (by omega) ?_
      rw [Q2_hn hQ l hl.1 hl.2]
      rw [List.append_nil] at e
      exact ⟨by omega, fun _ => ⟨_, rfl, rfl, Or.inr ⟨rfl, by rw [e]; exact hp⟩⟩, fun h => absurd h (by omega)⟩
    | cons x suf ih =>
      intro pre e hp
      have hl2 : (s.h l).length = pre.length + 1 + suf.length := by rw [e]; simp; omega
      have hk := (Q2_hp hQ l hl.1 hl.2 pre.length (by omega)).1
      have ex : (s.h l)[pre.length]'(by omega) = x := by simp [e]
      rw [ex] at hk
      have ih := ih (pre ++ [x]) (by rw [e]; simp)
      rw [List.length_append] at ih
      refine s2_placeOf_2 (by omega) ?_
      rw [Q2_hn hQ l hl.1 hl.2, x_mul (by omega), x_add (a := 40 * l) (by omega), hk, x_add (a := (pre.length : Int)) (by omega)]
      refine ⟨by omega, fun h => absurd h (by omega), fun _ => ⟨by omega, fun h => ?_, fun h => ⟨_, rfl, rfl, Or.inl ⟨pre.length, by omega, rfl, by rw [ex]; exact h⟩⟩⟩⟩
      refine ih ?_
      unfold hasH at hp ⊢
      rw [List.any_append, hp]
      simp [h]
  exact key (s.h l) [] rfl rfl
theorem has_of_at {L : List (Int × Int)} {k : Nat} (hk : k < L.length) {p : Int} (e : L[k].1 = p) : hasH L p = true := hasH_t.mpr ⟨L[k].2, by rw [← e]; exact List.getElem_mem hk⟩
theorem s2_miles {D M : AM} {a b : Int} (hI : Inv D) (hL : eqL D M) (ha : 0 ≤ a ∧ a < 12) (hb : 0 ≤ b ∧ b < 12) : aCi s2_G 4 10 [aP 0, aI a, aI b] M (fun z M' => M' = M ∧ z = mlsD D a b) := by
  refine ⟨Nat.le_of_ble_eq_true rfl, fun d hd => ?_⟩
  refine s2_miles_0 (by omega) ?_
  have x1 := Inv_x hI a
  have x2 := Inv_x hI b
  have y1 := Inv_y hI a
  have y2 := Inv_y hI b
  rw [L_2 hL, L_3 hL, x_sub (a := D 2 a) (by omega), x_sub (a := D 3 a) (by omega), x_sub (a := 0) (by omega), x_sub (a := 0) (by omega)]
  rw [show (if D 2 a - D 2 b < 0 then 0 - (D 2 a - D 2 b) else D 2 a - D 2 b) = absI (D 2 a - D 2 b) from by unfold absI; split <;> omega, show (if D 3 a - D 3 b < 0 then 0 - (D 3 a - D 3 b) else D 3 a - D 3 b) = absI (D 3 a - D 3 b) from by unfold absI; split <;> omega]
  have u := absI_rg (x := D 2 a - D 2 b) (by omega)
  have v := absI_rg (x := D 3 a - D 3 b) (by omega)
  rw [x_add (a := absI (D 2 a - D 2 b)) (by omega)]
  exact ⟨ha, hb, ha, hb, _, rfl, rfl, rfl⟩
theorem s2_factFor {D M : AM} {w i wl wp wn f p l day : Int} {ph : Int → Int} {s : Sg} (hI : Inv D) (hS : SI D i s) (hT : T2 D w s i wl wp wn ph M) (hf : 0 ≤ f ∧ f < 6) (hl : 0 ≤ l ∧ l < D 0 3) (hday : 0 ≤ day ∧ day ≤ 30000) : aCi s2_G 7 60 [aP 0, aI f, aI p, aI l, aI day] M (fun z M' => M' = M ∧ z = factS D (bk D w) s p l day f) := by
  refine ⟨Nat.le_of_ble_eq_true rfl, fun d hd => ?_⟩
  refine s2_factFor_0 (by omega) ?_
  obtain ⟨hL, hb, hQ⟩ := hT
  have hnl := Inv_nl hI
  have hpn := Inv_pn hI
  have hbl := bk_len (D := D) (w := w) hpn.1
  have hso := SI_out hS
  have key : ∀ (m k : Nat), (k : Int) + m = D 0 3 → aE s2_G d 60 9 [] [some (aP 0), some (aI f), some (aI p), some (aI l), some (aI day), some (aI (mnyN s p l k)), some (aI (farN D s p l k)), some (aI k)] [] M (fun r M' => ∃ z, r = some (aI z) ∧ M' = M ∧ z = factS D (bk D w) s p l day f) := by
    intro m
    induction m with
    | zero =>
      intro k hk
      have e3 : mnyN s p l 12 = mnyN s p l k := by
        have := mnyN_out (n := k) (fun m hm => hso m (by omega)) p l (12 - k)
        rw [show k + (12 - k) = 12 by omega] at this
        exact this
      have e4 : farN D s p l 12 = farN D s p l k := by
        have := farN_out (D := D) (n := k) (fun m hm => hso m (by omega)) p l (12 - k)
        rw [show k + (12 - k) = 12 by omega] at this
        exact this
      refine s2_factFor_9 (by omega) ?_
      rw [L0_3 hL, L_4 hL, ← e3, ← e4]
      unfold factS
      have hc : f = 0 ∨ f = 1 ∨ f = 2 ∨ f = 3 ∨ f = 4 ∨ f = 5 := by omega
      refine ⟨fun _ => ?_, fun h => absurd h (by omega)⟩
      have days : ∀ (g : Int), (∀ z, z = dayOn D (bk D w) g p → (hadB D (bk D w) g p day = true ↔ 0 ≤ z ∧ z ≤ day)) := by
        intro g z hz
        rw [hz]
        exact dayOn_had
      rcases hc with rfl | rfl | rfl | rfl | rfl | rfl
      · refine ⟨fun h => absurd h (by decide), fun _ => ⟨fun h => absurd rfl h, fun _ => ?_⟩⟩
        refine aKi_of (s2_dayOn (k := 0) (p := p) hI hL hb (fun i hi => bk_mem hi) (by omega)) (by omega) (fun z M1 q => ?_)
        obtain ⟨rfl, rfl⟩ := q
        have hr := dayOn_rg hI (bk D w) 0 p
        have hh := days 0 _ rfl
        rw [if_pos rfl]
        refine ⟨⟨fun _ => ⟨fun h1 => ⟨_, rfl, rfl, ?_⟩, fun h1 => ⟨fun h2 => ⟨by decide, _, rfl, rfl, ?_⟩, fun h2 => ⟨_, rfl, rfl, ?_⟩⟩⟩, fun h => absurd h (by decide), fun h => absurd h (by decide), fun h => absurd h (by decide), fun h => absurd h (by decide), trivial⟩, fun h => absurd h (by decide)⟩
        · rw [if_neg (fun q => by have := hh.mp q; omega)]
        · rw [if_pos (hh.mpr ⟨h1, h2⟩), x_sub (by omega), x_div (by omega) (by omega) (by omega) (by omega)]
        · rw [if_neg (fun q => by have := hh.mp q; omega)]
      · refine ⟨fun h => absurd h (by decide), fun _ => ⟨fun _ => ?_, fun h => absurd h (by decide)⟩⟩
        refine aKi_of (s2_dayOn (k := 2) (p := p) hI hL hb (fun i hi => bk_mem hi) (by omega)) (by omega) (fun z M1 q => ?_)
        obtain ⟨rfl, rfl⟩ := q
        have hr := dayOn_rg hI (bk D w) 2 p
        have hh := days 2 _ rfl
        rw [if_neg (by decide), if_pos rfl]
        refine ⟨⟨fun h => absurd h (by decide), fun _ => ⟨fun h1 => ⟨_, rfl, rfl, ?_⟩, fun h1 => ⟨fun h2 => ⟨_, rfl, rfl, ?_⟩, fun h2 => ⟨_, rfl, rfl, ?_⟩⟩⟩, fun h => absurd h (by decide), fun h => absurd h (by decide), fun h => absurd h (by decide), trivial⟩, fun h => absurd h (by decide)⟩
        · rw [if_neg (fun q => by have := hh.mp q; omega)]
        · rw [if_pos (hh.mpr ⟨h1, h2⟩), x_sub (by omega)]
        · rw [if_neg (fun q => by have := hh.mp q; omega)]
      · refine ⟨fun _ => ⟨⟨fun h => absurd h (by decide), fun h => absurd h (by decide), fun _ => ⟨_, rfl, rfl, rfl⟩, fun h => absurd h (by decide), fun h => absurd h (by decide), trivial⟩, fun h => absurd h (by decide)⟩, fun h => absurd h (by decide)⟩
      · refine ⟨fun _ => ⟨⟨fun h => absurd h (by decide), fun h => absurd h (by decide), fun h => absurd h (by decide), fun _ => ⟨_, rfl, rfl, rfl⟩, fun h => absurd h (by decide), trivial⟩, fun h => absurd h (by decide)⟩, fun h => absurd h (by decide)⟩
      · refine ⟨fun _ => ⟨⟨fun h => absurd h (by decide), fun h => absurd h (by decide), fun h => absurd h (by decide), fun h => absurd h (by decide), fun _ => ⟨by omega, _, rfl, rfl, rfl⟩, trivial⟩, fun h => absurd h (by decide)⟩, fun h => absurd h (by decide)⟩
      · refine ⟨fun _ => ⟨⟨fun h => absurd h (by decide), fun h => absurd h (by decide), fun h => absurd h (by decide), fun h => absurd h (by decide), fun h => absurd h (by decide), trivial⟩, fun _ => ?_⟩, fun h => absurd h (by decide)⟩
        refine aKi_of (s2_hasLeave (p := p) (t := day) hI hL hb (fun i hi => bk_mem hi) (by omega)) (by omega) (fun z M1 q => ?_)
        obtain ⟨rfl, rfl⟩ := q
        exact ⟨_, rfl, rfl, a_bl_bI⟩
    | succ m ih =>
      intro k hk
      have ih := ih (k + 1) (by omega)
      have hmr := mnyN_rg s p l k
      have em : mnyN s p l (k + 1) = mnyN s p l k + (if (k : Int) ≠ l ∧ hasH (s.h k) p then 1 else 0) := rfl
      have ef : farN D s p l (k + 1) = if (k : Int) ≠ l ∧ hasH (s.h k) p then max (farN D s p l k) (mlsD D k l) else farN D s p l k := rfl
      rw [em, ef] at ih
      refine s2_factFor_9 (by omega) ?_
      rw [L0_3 hL, x_add (a := (k : Int)) (by omega), show (k : Int) + 1 = ((k + 1 : Nat) : Int) by omega, x_add (a := mnyN s p l k) (by omega)]
      refine ⟨fun h => absurd h (by omega), fun _ => ⟨fun e => ?_, fun e => ?_⟩⟩
      · rw [if_neg (fun q => q.1 e), if_neg (fun q => q.1 e), Int.add_zero] at ih
        exact ih
      · refine aKi_of (s2_placeOf (w := w) (l := (k : Int)) (p := p) hI hS hQ (by omega)) (by omega) (fun z M1 q => ?_)
        obtain ⟨rfl, ⟨j, hj, rfl, ej⟩ | ⟨rfl, eh⟩⟩ := q
        · have eh := has_of_at hj ej
          rw [if_pos ⟨e, eh⟩, if_pos ⟨e, eh⟩] at ih
          refine ⟨fun h => absurd h (by omega), fun _ => ?_⟩
          refine aKi_of (s2_miles (a := l) (b := (k : Int)) hI hL (by omega) (by omega)) (by omega) (fun z M2 q => ?_)
          obtain ⟨rfl, rfl⟩ := q
          rw [mlsD_sym D l k]
          refine ⟨fun h => ?_, fun h => ?_⟩
          · rw [show max (farN D s p l k) (mlsD D k l) = farN D s p l k by omega] at ih
            exact ih
          · refine aKi_of (s2_miles (a := l) (b := (k : Int)) hI hL (by omega) (by omega)) (by omega) (fun z M3 q => ?_)
            obtain ⟨rfl, rfl⟩ := q
            rw [mlsD_sym D l k]
            rw [show max (farN D s p l k) (mlsD D k l) = mlsD D k l by omega] at ih
            exact ih
        · rw [if_neg (fun q => by rw [eh] at q; cases q.2), if_neg (fun q => by rw [eh] at q; cases q.2), Int.add_zero] at ih
          exact ⟨fun _ => ih, fun h => absurd h (by omega)⟩
  exact key (D 0 3).toNat 0 (by omega)
/-- a stack of truths in a row -/
def stkR (f : Int → Int) : List Bool → Prop
  | [] => True
  | a :: r => f r.length = bI a ∧ stkR f r
theorem stkR_up {f : Int → Int} {k z : Int} : ∀ {r : List Bool}, stkR f r → (r.length : Int) ≤ k → stkR (up1 f k z) r
  | [], _, _ => trivial
  | a :: r, h, hk => by
    have hk' : (r.length : Int) + 1 ≤ k := by simpa using hk
    exact ⟨by rw [up1_n (by omega)]; exact h.1, stkR_up h.2 (by omega)⟩
theorem factS_rg {D : AM} {B : List Int} {s : Sg} {p l day f : Int} (hI : Inv D) (hday : 0 ≤ day ∧ day ≤ 30000) : -1 ≤ factS D B s p l day f := by
  unfold factS
  split
  · split
    next h => have := dayOn_had.mp h; exact Int.le_trans (by decide) (Int.ediv_nonneg (by omega) (by decide))
    · omega
  · split
    · split
      next h => have := dayOn_had.mp h; omega
      · omega
    · split
      · have := (mnyN_rg s p l 12).1; omega
      · split
        · have := (farN_rg hI s p l 12).1; omega
        · split
          · have := (Inv_wo hI l).1; omega
          · cases hadB D B 5 p day <;> simp [bI]
theorem bI_ne {b : Bool} : bI b ≠ 0 ↔ b = true := by cases b <;> simp [bI]
theorem bI_eq0 {b : Bool} : bI b = 0 ↔ b = false := by cases b <;> simp [bI]
theorem s2_isMet {D M : AM} {w i wl wp wn j a b p l day : Int} {ph : Int → Int} {s : Sg} (hI : Inv D) (hS : SI D i s) (hT : T2 D w s i wl wp wn ph M) (hj : 0 ≤ j ∧ j < 10) (ha : 0 ≤ a ∧ a < b ∧ b ≤ 140) (ht : tOk (tstD D j a b)) (hl : 0 ≤ l ∧ l < D 0 3) (hday : 0 ≤ day ∧ day ≤ 30000) : aCi s2_G 8 61 [aP 0, aI j, aI a, aI b, aI p, aI l, aI day] M (fun z M' => fr (wr [42] [(0, 66)]) M M' ∧ z = bI (metS D j a b (cmpv (factS D (bk D w) s p l day)))) := by
  refine ⟨Nat.le_of_ble_eq_true rfl, fun d hd => ?_⟩
  refine s2_isMet_0 (by omega) ?_
  obtain ⟨F, eF⟩ : ∃ F, F = factS D (bk D w) s p l day := ⟨_, rfl⟩
  have hFr : ∀ x, -1 ≤ F x := fun x => by rw [eF]; exact factS_rg hI hday
  have hlen : (tstD D j a b).length = (b - a).toNat := by unfold tstD arr; simp
  have key : ∀ (suf pre : List Int) (M1 : AM), tstD D j a b = pre ++ suf → fr (wr [42] [(0, 66)]) M M1 → M1 0 66 = (evL (cmpv F) [] pre).length → stkR (M1 42) (evL (cmpv F) [] pre) → aE s2_G d 61 8 [] [some (aP 0), some (aI j), none, some (aI b), some (aI p), some (aI l), some (aI day), some (aI (a + pre.length)), none, none, none, none] [] M1 (fun r M' => ∃ z, r = some (aI z) ∧ fr (wr [42] [(0, 66)]) M M' ∧ z = bI (metS D j a b (cmpv F))) := by
    intro suf
    induction suf with
    | nil =>
      intro pre M1 e hf h66 hst
      rw [List.append_nil] at e
      have hl2 : (pre.length : Int) = b - a := by rw [← e, hlen]; omega
      obtain ⟨x, hx⟩ := tOk_end (cmpv F) ht
      rw [← e, hx] at hst
      refine s2_isMet_8 (by omega) ?_
      have h0 : M1 42 0 = bI x := hst.1
      rw [h0]
      have em : metS D j a b (cmpv F) = x := by unfold metS; rw [hx]; rfl
      refine ⟨fun _ => ⟨by omega, by cases x <;> simp [bI], _, rfl, hf, by rw [em]⟩, fun h => absurd h (by omega)⟩
    | cons v suf ih =>
      intro pre M1 e hf h66 hst
      have hl2 : (pre.length : Int) + 1 + suf.length = b - a := by
        have := congrArg List.length e
        rw [hlen, List.length_append, List.length_cons] at this
        omega
      have hT1 : T2 D w s i wl wp wn ph M1 := T2_q hT (fr_mo hf rfl)
      have hv : M1 22 (140 * j + (a + pre.length)) = v := by
        rw [L_22 hT1.1]
        have h1 : (tstD D j a b)[pre.length]? = some v := by rw [e]; simp
        unfold tstD arr at h1
        rw [List.getElem?_map, List.getElem?_range (by omega)] at h1
        simp at h1
        rw [← h1]
        congr 1
        omega
      have ih := ih (pre ++ [v])
      rw [evL_snoc, List.length_append] at ih
      rw [show a + ((pre.length + [v].length : Nat) : Int) = a + pre.length + 1 by simp; omega] at ih
      rw [e] at ht
      obtain ⟨t1, t2, t3, t4, t5⟩ := tOk_at (cmpv F) ht
      obtain ⟨st, hsteq⟩ : ∃ st, st = evL (cmpv F) [] pre := ⟨_, rfl⟩
      rw [← hsteq] at t1 t3 t4 t5 ih h66 hst
      have fin : ∀ (k z : Int) (n : Nat) (st' : List Bool), k = n → st'.length = n + 1 → (z = 0 ∨ z = 1) → stkR (up1 (M1 42) k z) st' → evC (cmpv F) st v = st' → ∀ (M2 : AM), (∀ x, M2 42 x = up1 (M1 42) k z x) → M2 0 66 = n + 1 → fr (wr [42] [(0, 66)]) M1 M2 → aE s2_G d 61 8 [] [some (aP 0), some (aI j), none, some (aI b), some (aI p), some (aI l), some (aI day), some (aI (a + pre.length + 1)), none, none, none, none] [] M2 (fun r M' => ∃ z, r = some (aI z) ∧ fr (wr [42] [(0, 66)]) M M' ∧ z = bI (metS D j a b (cmpv F))) := by
        intro k z n st' hk hn hz hs' he M2 h42 h66' f2
        rw [he] at ih
        refine ih M2 (by rw [e]; simp) (fr_tr hf f2) (by rw [h66', hn]; omega) ?_
        rw [show M2 42 = up1 (M1 42) k z from funext h42]
        exact hs'
      refine s2_isMet_8 (by omega) ?_
      rw [x_mul (by omega), x_add (a := 140 * j) (by omega), hv, x_add (a := a + (pre.length : Int)) (by omega)]
      refine ⟨fun h => absurd h (by omega), fun _ => ⟨by omega, fun hv3 => ⟨fun hv0 => ⟨by decide, ?_⟩, fun hvn => ?_⟩, fun hv3 => ?_⟩⟩
      · -- a comparison
        have hv0' : 0 ≤ v ∧ v < 180000 := by omega
        have hl40 := t5 hv0
        rw [x_div (a := v) (b := 30000) hv0 (by omega) (by omega) (by omega), x_div (a := v) (b := 10000) hv0 (by omega) (by omega) (by omega), x_rem (a := v) hv0 (by omega) (by omega) (by omega), x_rem (a := v / 10000) (by omega) (by omega) (by omega) (by omega)]
        refine aKi_of (s2_factFor (f := v / 30000) (p := p) (l := l) (day := day) hI hS hT1 (by omega) hl hday) (by omega) (fun z M2 q => ?_)
        obtain ⟨rfl, rfl⟩ := q
        rw [← eF]
        have hfr := hFr (v / 30000)
        simp (decide := true) only [x_uc]
        rw [h66, x_add (by omega)]
        have hr : 0 ≤ (st.length : Int) ∧ (st.length : Int) < 140 := by omega
        have put : ∀ (x : Bool) (z : Int), z = bI x → cmpv F v = x → aE s2_G d 61 8 [] [some (aP 0), some (aI j), none, some (aI b), some (aI p), some (aI l), some (aI day), some (aI (a + pre.length + 1)), none, none, none, none] [] (am_up (am_up M2 42 st.length z) 0 66 (st.length + 1)) (fun r M' => ∃ z, r = some (aI z) ∧ fr (wr [42] [(0, 66)]) M M' ∧ z = bI (metS D j a b (cmpv F))) := by
          intro x z hz hx
          refine fin st.length z st.length (x :: st) rfl rfl (by rw [hz]; cases x <;> simp [bI]) ⟨by rw [up1_s]; exact hz, stkR_up hst (Int.le_refl _)⟩ (by rw [evC_c hv0, hx]) _ (fun y => by simp (decide := true) only [x_uk, x_uu]) x_us (fr_up (fr_up fr_rf rfl) rfl)
        have c0 : F (v / 30000) < 0 → cmpv F v = false := fun h => by unfold cmpv; rw [show decide (F (v / 30000) = -1) = true by simp; omega]; rfl
        have cn : 0 ≤ F (v / 30000) → (!(decide (F (v / 30000) = -1))) = true := fun h => by simp; omega
        refine ⟨by decide, by decide, by decide, fun h => ⟨hr, (by first | exact True.intro | exact Or.inl True.intro | exact Or.inr True.intro | omega), put false 0 rfl (c0 h)⟩, fun h => ⟨fun h1 => ⟨fun h2 => ⟨fun h3 => ⟨hr, (by first | exact True.intro | exact Or.inl True.intro | exact Or.inr True.intro | omega), put false 0 rfl ?_⟩, fun h3 => ⟨hr, (by first | exact True.intro | exact Or.inl True.intro | exact Or.inr True.intro | omega), put true 1 rfl ?_⟩⟩, fun h2 => ⟨fun h3 => ⟨hr, (by first | exact True.intro | exact Or.inl True.intro | exact Or.inr True.intro | omega), put false 0 rfl ?_⟩, fun h3 => ⟨hr, (by first | exact True.intro | exact Or.inl True.intro | exact Or.inr True.intro | omega), put true 1 rfl ?_⟩⟩⟩, fun h1 => ⟨fun h3 => ⟨hr, (by first | exact True.intro | exact Or.inl True.intro | exact Or.inr True.intro | omega), put false 0 rfl ?_⟩, fun h3 => ⟨hr, (by first | exact True.intro | exact Or.inl True.intro | exact Or.inr True.intro | omega), put true 1 rfl ?_⟩⟩⟩⟩
        · unfold cmpv; rw [cn h, if_neg h1, if_neg h2]; simpa using h3
        · unfold cmpv; rw [cn h, if_neg h1, if_neg h2]; simpa using h3
        · unfold cmpv; rw [cn h, if_neg h1, if_pos h2]; simp; omega
        · unfold cmpv; rw [cn h, if_neg h1, if_pos h2]; simp; omega
        · unfold cmpv; rw [cn h, if_pos h1]; simp; omega
        · unfold cmpv; rw [cn h, if_pos h1]; simp; omega
      · -- and, or
        obtain ⟨y, x, r, hr⟩ := t4 (by omega)
        rw [hr] at h66 hst t1
        simp only [List.length_cons] at h66 t1
        obtain ⟨s1, s2, s3⟩ := hst
        have e1 : a_sub (M1 0 66) 1 = r.length + 1 := by rw [h66, x_sub (by omega)]; omega
        have e2 : a_sub (M1 0 66) 2 = r.length := by rw [h66, x_sub (by omega)]; omega
        rw [e1, e2]
        simp only [List.length_cons] at s1
        rw [show ((r.length + 1 : Nat) : Int) = r.length + 1 by omega] at s1
        simp (decide := true) only [x_us]
        rw [show a_sub ((r.length : Int) + 1) 1 = r.length by rw [x_sub (by omega)]; omega, s1, s2]
        have put : ∀ (t : Bool) (z : Int), z = bI t → evC (cmpv F) (y :: x :: r) v = t :: r → aE s2_G d 61 8 [] [some (aP 0), some (aI j), none, some (aI b), some (aI p), some (aI l), some (aI day), some (aI (a + pre.length + 1)), none, none, none, none] [] (am_up (am_up M1 0 66 (r.length + 1)) 42 r.length z) (fun r M' => ∃ z, r = some (aI z) ∧ fr (wr [42] [(0, 66)]) M M' ∧ z = bI (metS D j a b (cmpv F))) := by
          intro t z hz hx
          refine fin r.length z r.length (t :: r) rfl rfl (by rw [hz]; cases t <;> simp [bI]) ⟨by rw [up1_s]; exact hz, stkR_up s3 (Int.le_refl _)⟩ (by rw [hr]; exact hx) _ (fun y => by simp (decide := true) only [x_uk, x_uu]) (by rw [x_uc (by decide), x_us]) (fr_up (fr_up fr_rf rfl) rfl)
        have hb0 : 0 ≤ (r.length : Int) ∧ (r.length : Int) < 140 := by omega
        have hb1 : 0 ≤ (r.length : Int) + 1 ∧ (r.length : Int) + 1 < 140 := by omega
        have ev : evC (cmpv F) (y :: x :: r) v = (if v = -1 then x && y else x || y) :: r := evC_b (by omega)
        refine ⟨hb0, hb1, fun hm => ⟨fun c => ⟨hb0, (by first | exact True.intro | exact Or.inl True.intro | exact Or.inr True.intro | omega), put true 1 rfl ?_⟩, fun c => ⟨fun c2 => ⟨hb0, (by first | exact True.intro | exact Or.inl True.intro | exact Or.inr True.intro | omega), put false 0 rfl ?_⟩, fun c2 => ⟨hb0, (by first | exact True.intro | exact Or.inl True.intro | exact Or.inr True.intro | omega), put true 1 rfl ?_⟩⟩⟩, fun hm => ⟨fun c => ⟨hb0, (by first | exact True.intro | exact Or.inl True.intro | exact Or.inr True.intro | omega), put false 0 rfl ?_⟩, fun c => ⟨fun c2 => ⟨hb0, (by first | exact True.intro | exact Or.inl True.intro | exact Or.inr True.intro | omega), put false 0 rfl ?_⟩, fun c2 => ⟨hb0, (by first | exact True.intro | exact Or.inl True.intro | exact Or.inr True.intro | omega), put true 1 rfl ?_⟩⟩⟩⟩
        · rw [ev, if_neg hm, bI_ne.mp c, Bool.true_or]
        · rw [ev, if_neg hm, bI_eq0.mp c, bI_eq0.mp c2, Bool.or_self]
        · rw [ev, if_neg hm, bI_ne.mp c2, Bool.or_true]
        · rw [ev, if_pos hm, bI_eq0.mp c, Bool.false_and]
        · rw [ev, if_pos hm, bI_eq0.mp c2, Bool.and_false]
        · rw [ev, if_pos hm, bI_ne.mp c, bI_ne.mp c2, Bool.and_self]
      · -- not
        obtain ⟨x, r, hr⟩ := t3 hv3
        rw [hr] at h66 hst t1
        simp only [List.length_cons] at h66 t1
        obtain ⟨s1, s3⟩ := hst
        have e1 : a_sub (M1 0 66) 1 = r.length := by rw [h66, x_sub (by omega)]; omega
        rw [e1, s1]
        have hb0 : 0 ≤ (r.length : Int) ∧ (r.length : Int) < 140 := by omega
        have put : ∀ (t : Bool) (z : Int), z = bI t → evC (cmpv F) (x :: r) v = t :: r → aE s2_G d 61 8 [] [some (aP 0), some (aI j), none, some (aI b), some (aI p), some (aI l), some (aI day), some (aI (a + pre.length + 1)), none, none, none, none] [] (am_up M1 42 r.length z) (fun r M' => ∃ z, r = some (aI z) ∧ fr (wr [42] [(0, 66)]) M M' ∧ z = bI (metS D j a b (cmpv F))) := by
          intro t z hz hx
          refine fin r.length z r.length (t :: r) rfl rfl (by rw [hz]; cases t <;> simp [bI]) ⟨by rw [up1_s]; exact hz, stkR_up s3 (Int.le_refl _)⟩ (by rw [hr]; exact hx) _ (fun y => by rw [x_uu]) (by rw [x_uc (by decide), h66]; omega) (fr_up fr_rf rfl)
        refine ⟨hb0, fun c => ⟨hb0, (by first | exact True.intro | exact Or.inl True.intro | exact Or.inr True.intro | omega), put false 0 rfl ?_⟩, fun c => ⟨hb0, (by first | exact True.intro | exact Or.inl True.intro | exact Or.inr True.intro | omega), put true 1 rfl ?_⟩⟩
        · rw [evC_i hv3, bI_ne.mp c]; rfl
        · rw [evC_i hv3, bI_eq0.mp c]; rfl
  have h := key (tstD D j a b) [] (am_up M 0 66 0) rfl (fr_up fr_rf rfl) x_us trivial
  rw [show a + (([] : List Int).length : Int) = a by simp, eF] at h
  exact h
