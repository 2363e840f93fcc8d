/-! A CANON in the second system; both together -/
abbrev wdC : Nat → Int → Bool := wr [14, 15, 16, 17, 18, 19, 20, 21, 22, 24] [(0, 18), (0, 29), (0, 30), (0, 31), (0, 32), (0, 33), (0, 34), (0, 35), (0, 37), (0, 38)]
/-- what a call of canon leaves in the second system -/
def K2c (D : AM) (day : Int) (D' : AM) : Prop :=
  (¬ ((0 ≤ day ∧ day ≤ 30000) ∧ D 0 18 < 10) ∧ D' = D) ∨
  (((0 ≤ day ∧ day ≤ 30000) ∧ D 0 18 < 10) ∧ fr wdC D D' ∧ 0 ≤ D' 0 37 ∧ D' 0 29 = 0 ∧ D' 0 32 = (if (canR D).1 = 0 then (-1 : Int) else ((txt D).length : Int) - (canR D).2.1.length) ∧ oldD (D 0 18) D D' ∧
    (((canR D).1 ≠ 0 ∧ D' 0 18 = D 0 18 ∧ D' 14 = D 14 ∧ D' 15 = D 15) ∨
     ((canR D).1 = 0 ∧ D' 0 18 = D 0 18 + 1 ∧ D' 14 = up1 (D 14) (D 0 18) day ∧ D' 15 = up1 (D 15) (D 0 18) (canR D).2.2.length ∧ ∃ C : List Int, C.length ≤ 140 ∧ (∀ (k : Nat) (hk : k < C.length), D' 22 (140 * D 0 18 + k) = C[k]) ∧ ∀ (i : Nat) (hi : i < (canR D).2.2.length), rowQ C D' (12 * D 0 18 + i) (canR D).2.2[i])))
theorem txt_2 {D : AM} (hI : Inv D) : Tx2 (txt D) D := by
  have hr := Inv_rn hI
  refine ⟨?_, fun i hi => ?_, ?_, fun c hc => ?_⟩
  · unfold txt; rw [arr_len]; omega
  · unfold txt at hi ⊢
    rw [arr_get, Int.zero_add]
  · unfold txt; rw [arr_len]; omega
  · unfold txt arr at hc
    obtain ⟨i, _, rfl⟩ := List.mem_map.mp hc
    exact (Inv_rb hI _).1
theorem pAll_len (cn : Int) : ∀ (m : Nat) (s : List Int) (acc : List CL), acc.length ≤ 12 → (pAll cn m s acc).2.2.length ≤ 12
  | 0, _, acc, h => h
  | m + 1, s, acc, h => by
    unfold pAll
    split
    · exact h
    · split
      · exact h
      · split
        · exact h
        · split
          · exact h
          · exact pAll_len cn m _ _ (by rw [List.length_append]; simp; omega)
theorem c2_canon {M : AM} {day : Int} (hI : Inv M) (h37 : 0 ≤ M 0 37) : aCi s2_G 10 44 [aP 0, aI day] M (fun z M' => z = f_canon M day ∧ K2c M day M') := by
  refine ⟨Nat.le_of_ble_eq_true rfl, fun d hd => ?_⟩
  refine s2_canon_0 (by omega) ?_
  have hc := Inv_cn hI
  simp only [a_bl_n, a_bl_z]
  unfold f_canon
  refine ⟨fun ht => ⟨fun hn => ?_, fun hn => ⟨_, rfl, by rw [if_neg (by omega), if_pos (by omega)], Or.inl ⟨by omega, rfl⟩⟩⟩, fun ht => ⟨_, rfl, by rw [if_pos ht], Or.inl ⟨by omega, rfl⟩⟩⟩
  rw [if_neg (by omega), if_neg (by omega)]
  have hT := txt_2 hI
  obtain ⟨Ma, eMa⟩ : ∃ Ma, Ma = am_up (am_up (am_up (am_up M 0 30 0) 0 31 0) 0 32 (-1)) 0 35 0 := ⟨_, rfl⟩
  have ga : fr (wr [] [(0, 30), (0, 31), (0, 32), (0, 35)]) M Ma := by rw [eMa]; exact fr_up (fr_up (fr_up (fr_up fr_rf rfl) rfl) rfl) rfl
  rw [← eMa]
  have hK : Ma 0 37 = ((arr (Ma 24) 0 (Ma 0 37).toNat).reverse.length : Nat) ∧ isL (Ma 24) (arr (Ma 24) 0 (Ma 0 37).toNat).reverse.reverse := by
    have e37 : Ma 0 37 = M 0 37 := ga 0 37 rfl
    refine ⟨by rw [List.length_reverse, arr_len]; omega, ?_⟩
    rw [List.reverse_reverse]
    intro i hi
    rw [arr_get, Int.zero_add]
  have hD : StD (txt M) (M 0 18) Ma Ma [] (txt M) [] (arr (Ma 24) 0 (Ma 0 37).toNat).reverse (Ma 0 38) := by
    refine ⟨⟨Tx2_fw hT ga rfl, fr_rf, ⟨[], rfl, ?_⟩, ?_, ?_, ?_, ?_, fun _ _ => rfl, fun k hk => (by cases hk), hK, rfl⟩, fr_rf, ⟨fun _ _ => rfl, fun _ _ => ⟨rfl, rfl, rfl, rfl, rfl, rfl⟩⟩, fun i hi => (by cases hi), ?_⟩
    · rw [eMa]; simp [am_up]
    · rw [eMa]; simp [am_up]
    · rw [eMa]; simp [am_up]
    · rw [ga 0 18 rfl]; exact ⟨rfl, hc.1, by omega⟩
    · rw [eMa, x_us]; rfl
    · have := hT.2.2.1; simp; omega
  have hra : aCi s2_G 9 43 [aP 0] Ma (fun z M' => ((canR M).1 = 0 → z = ((canR M).2.2.length : Int)) ∧ TXQ (txt M) (M 0 18) Ma M' (canR M)) := by
    refine ⟨Nat.le_of_ble_eq_true rfl, fun d hd => ?_⟩
    refine s2_readAll_0 (by omega) ?_
    exact s2_ra_loop (d := d) hd 13 (txt M) [] [] _ _ Ma rfl (fun q => absurd q (by decide)) hD
  refine aKi_of hra (by omega) (fun z M1 q => ?_)
  obtain ⟨qz, q1, ⟨q2, q3⟩, q37, q4, q5, q6⟩ := q
  have hf5 := pAll_f (M 0 18) 13 (txt M) []
  have g1 : fr wdC M M1 := fr_tr (fr_mo ga rfl) (fr_mo q1 rfl)
  have e18 : M1 0 18 = M 0 18 := (q1 0 18 rfl).trans (ga 0 18 rfl)
  have e14 : M1 14 = M 14 := funext fun x => (q1 14 x rfl).trans (ga 14 x rfl)
  have e15 : M1 15 = M 15 := funext fun x => (q1 15 x rfl).trans (ga 15 x rfl)
  have o22 : ∀ i, i < 140 * M 0 18 → M1 22 i = M 22 i := fun i hi => (q2 i hi).trans (ga 22 i rfl)
  have orw : ∀ i, i < 12 * M 0 18 → M1 16 i = M 16 i ∧ M1 17 i = M 17 i ∧ M1 18 i = M 18 i ∧ M1 19 i = M 19 i ∧ M1 20 i = M 20 i ∧ M1 21 i = M 21 i := fun i hi => by
    obtain ⟨w1, w2, w3, w4, w5, w6⟩ := q3 i hi
    rw [w1, w2, w3, w4, w5, w6, ga 16 i rfl, ga 17 i rfl, ga 18 i rfl, ga 19 i rfl, ga 20 i rfl, ga 21 i rfl]
    exact ⟨rfl, rfl, rfl, rfl, rfl, rfl⟩
  simp (decide := true) only [x_uc, x_uf]
  rw [q4, e18, x_add (by omega)]
  refine ⟨fun h0 => ⟨by omega, by omega, ?_⟩, fun h0 => ?_⟩
  · have h00 : (canR M).1 = 0 := by show (pAll (M 0 18) 13 (txt M) []).1 = 0; have : (canR M).1 = (pAll (M 0 18) 13 (txt M) []).1 := rfl; omega
    rw [x_us, x_sub (by omega)]
    obtain ⟨C, c1, c2, c3⟩ := q6 h00
    have g2 : fr (wr [14, 15] [(0, 18), (0, 29)]) M1 (am_up (am_up (am_up (am_up M1 0 29 0) 15 (M 0 18) z) 14 (M 0 18) day) 0 18 (M 0 18 + 1)) := fr_up (fr_up (fr_up (fr_up fr_rf rfl) rfl) rfl) rfl
    refine ⟨_, rfl, by rw [if_neg (fun w => w h00)]; omega, Or.inr ⟨⟨ht, by omega⟩, fr_tr g1 (fr_mo g2 rfl), by rw [g2 0 37 rfl]; exact q37, ?_, (g2 0 32 rfl).trans q5, ⟨fun i hi => ?_, fun i hi => ?_⟩, Or.inr ⟨h00, x_us, ?_, ?_, C, c1, fun k hk => ?_, fun i hi => ?_⟩⟩⟩
    · rw [x_uf (by decide), x_uc (by decide), x_uc (by decide), x_us]
    · rw [g2 22 i rfl]; exact o22 i hi
    · rw [g2 16 i rfl, g2 17 i rfl, g2 18 i rfl, g2 19 i rfl, g2 20 i rfl, g2 21 i rfl]; exact orw i hi
    · rw [x_uk (by decide), x_uu, x_uk (by decide), x_uk (by decide), e14]
    · rw [x_uk (by decide), x_uk (by decide), x_uu, x_uk (by decide), e15, qz h00]
    · rw [g2 22 _ rfl]; exact c2 k hk
    · exact rowQ_mo (c3 i hi) ⟨[], by rw [List.append_nil]⟩ (g2 16 _ rfl) (g2 17 _ rfl) (g2 18 _ rfl) (g2 19 _ rfl) (g2 20 _ rfl) (g2 21 _ rfl)
  · have h00 : (canR M).1 ≠ 0 := fun q => by have : (canR M).1 = (pAll (M 0 18) 13 (txt M) []).1 := rfl; omega
    have : (canR M).1 = (pAll (M 0 18) 13 (txt M) []).1 := rfl
    rw [x_sub (by omega)]
    have g2 : fr (wr [] [(0, 29)]) M1 (am_up M1 0 29 0) := fr_up fr_rf rfl
    refine ⟨_, rfl, by rw [if_pos h00], Or.inr ⟨⟨ht, by omega⟩, fr_tr g1 (fr_mo g2 rfl), by rw [g2 0 37 rfl]; exact q37, x_us, (g2 0 32 rfl).trans q5, ⟨fun i hi => ?_, fun i hi => ?_⟩, Or.inl ⟨h00, (g2 0 18 rfl).trans e18, ?_, ?_⟩⟩⟩
    · rw [g2 22 i rfl]; exact o22 i hi
    · rw [g2 16 i rfl, g2 17 i rfl, g2 18 i rfl, g2 19 i rfl, g2 20 i rfl, g2 21 i rfl]; exact orw i hi
    · rw [x_uk (by decide), e14]
    · rw [x_uk (by decide), e15]
