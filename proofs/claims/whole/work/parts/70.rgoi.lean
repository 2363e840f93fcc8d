/-! THE STORY in the second system: a man goes in -/
theorem s2_gi_226 {D M : AM} {w i wl wp wn n : Int} {ph : Int → Int} {s : Sg} {d : Nat} (hd : 10 ≤ d) (hI : Inv D) (hC : TC D w i n) (hS : SI D i s) (hL : SL D i s) (hT : T2 D w s i wl wp wn ph M) : aE s2_G d 65 226 [] [some (aP 0), some (aI n), some (aI (D 8 n)), some (aI (D 9 n)), none, none, none, none, none] [] M (fun r M' => r = none ∧ fr wE2 M M' ∧ ∃ ph', T2 D w (endT D w i n s) (i + 1) wl wp wn ph' M') := by
  refine s2_goIn_226 (by omega) ?_
  have hi0 := TC_i0 hC
  have hi1 := TC_i1 hC
  refine aKv_of (s2_enter hI hS ⟨hi0, hi1⟩ (SL_mono hL (by omega)) hT (TC_n hC) (TC_l hC) (TC_p hC)) (by omega) (fun M1 q => ?_)
  obtain ⟨f1, ph', hT1⟩ := q
  refine aKv_of (s2_leaveOthers hI (SI_ent hS hi0 (TC_l hC) (TC_p hC)) (rm_ent hI hC hS hL) hT1 (TC_l hC) (TC_n hC)) (by omega) (fun M2 q => ?_)
  exact ⟨rfl, fr_tr f1 q.1, ph', q.2⟩
theorem s2_gi_214 {D M : AM} {w i wl wp wn n : Int} {ph : Int → Int} {s : Sg} {d : Nat} (c : Bool) (hd : 10 ≤ d) (hI : Inv D) (hC : TC D w i n) (hS : SI D i s) (hL : SL D i s) (hT : T2 D w s i wl wp wn ph M) : aE s2_G d 65 214 [] [some (aP 0), some (aI n), some (aI (D 8 n)), some (aI (D 9 n)), none, none, none, none, none] [aI (bI c)] M (fun r M' => r = none ∧ fr wE2 M M' ∧ ∃ ph', T2 D w (endT D w i n (cond c (useS D s (D 8 n)) s)) (i + 1) wl wp wn ph' M') := by
  refine s2_goIn_214 (by omega) ?_
  have hi1 := TC_i1 hC
  cases c
  · exact ⟨fun _ => s2_gi_226 hd hI hC hS hL hT, fun h => absurd rfl h⟩
  · refine ⟨fun h => absurd h (by decide), fun _ => ?_⟩
    refine aKv_of (s2_useTurn hI hS (by omega) hT (TC_l hC)) (by omega) (fun M1 q => ?_)
    refine aE_mono _ _ _ _ _ _ _ _ _ (fun r M' q' => ?_) (s2_gi_226 hd hI hC (SI_use hS) (SL_of hL (useS_lg (D := D) (s := s)).1 (useS_lg (D := D) (s := s)).2) q.2)
    exact ⟨q'.1, fr_tr q.1 q'.2.1, q'.2.2⟩
theorem s2_gi_188 {D M : AM} {w i wl wp wn n : Int} {ph : Int → Int} {s : Sg} {d : Nat} (x6 x7 : Bool) (hd : 10 ≤ d) (hI : Inv D) (hC : TC D w i n) (hS : SI D i s) (hL : SL D i s) (hT : T2 D w s i wl wp wn ph M) : aE s2_G d 65 188 [] [some (aP 0), some (aI n), some (aI (D 8 n)), some (aI (D 9 n)), some (aI (D 6 n)), none, some (aI (bI x6)), some (aI (bI x7)), none] [] M (fun r M' => r = none ∧ fr wE2 M M' ∧ ∃ ph', T2 D w (endT D w i n (cond (x6 && x7 && decide ((force D (D 6 n) 4).1 = 1)) (useS D s (D 8 n)) s)) (i + 1) wl wp wn ph' M') := by
  refine s2_goIn_188 (by omega) ?_
  cases x6
  · exact ⟨fun _ => s2_goIn_213 (by omega) (s2_gi_214 false hd hI hC hS hL hT), fun h => absurd rfl h⟩
  · refine ⟨fun h => absurd h (by decide), fun _ => ?_⟩
    cases x7
    · exact ⟨fun _ => s2_goIn_213 (by omega) (s2_gi_214 false hd hI hC hS hL hT), fun h => absurd rfl h⟩
    · refine ⟨fun h => absurd h (by decide), fun _ => ?_⟩
      refine aKi_of (s2_forceOf (name := 4) (day := D 6 n) hI hT.1) (by omega) (fun z M1 q => ?_)
      obtain ⟨q1, rfl, -⟩ := q
      have hT1 := T2_f hT q1
      refine ⟨fun h => ?_, fun h => ?_⟩
      · rw [show decide ((force D (D 6 n) 4).1 = 1) = false by simpa using h]
        refine aE_mono _ _ _ _ _ _ _ _ _ (fun r M' q' => ?_) (s2_goIn_213 (by omega) (s2_gi_214 false hd hI hC hS hL hT1))
        exact ⟨q'.1, fr_tr (fr_mo q1 rfl) q'.2.1, q'.2.2⟩
      · rw [show decide ((force D (D 6 n) 4).1 = 1) = true by simpa using h]
        refine aE_mono _ _ _ _ _ _ _ _ _ (fun r M' q' => ?_) (s2_goIn_209 (by omega) (s2_gi_214 true hd hI hC hS hL hT1))
        exact ⟨q'.1, fr_tr (fr_mo q1 rfl) q'.2.1, q'.2.2⟩
theorem s2_gi_172 {D M : AM} {w i wl wp wn n : Int} {ph : Int → Int} {s : Sg} {d : Nat} (x6 x7 : Bool) (hd : 10 ≤ d) (hI : Inv D) (hC : TC D w i n) (hS : SI D i s) (hL : SL D i s) (hT : T2 D w s i wl wp wn ph M) : aE s2_G d 65 172 [] [some (aP 0), some (aI n), some (aI (D 8 n)), some (aI (D 9 n)), some (aI (D 6 n)), none, some (aI (bI x6)), some (aI (bI x7)), none] [] M (fun r M' => r = none ∧ fr wE2 M M' ∧ ∃ ph', T2 D w (endT D w i n (cond (decide (D 10 n = patS D (bk D w) s (D 8 n) (D 6 n)) || (x6 && x7 && decide ((force D (D 6 n) 4).1 = 1))) (useS D s (D 8 n)) s)) (i + 1) wl wp wn ph' M') := by
  refine s2_goIn_172 (by omega) ?_
  have hpn := Inv_pn hI
  have hn := TC_n hC
  have hi1 := TC_i1 hC
  refine ⟨by omega, ?_⟩
  refine aKi_of (s2_patronOf (day := D 6 n) hI hS (by omega) hT (TC_l hC)) (by omega) (fun z M1 q => ?_)
  obtain ⟨e, rfl⟩ := q
  rw [e, L_10 hT.1]
  refine ⟨fun h => ?_, fun h => ?_⟩
  · rw [show decide (D 10 n = patS D (bk D w) s (D 8 n) (D 6 n)) = true by simpa using h]
    exact s2_goIn_209 (by omega) (s2_gi_214 true hd hI hC hS hL hT)
  · rw [show decide (D 10 n = patS D (bk D w) s (D 8 n) (D 6 n)) = false by simpa using h]
    exact s2_gi_188 x6 x7 hd hI hC hS hL hT
theorem s2_gi_154 {D M : AM} {w i wl wp wn n : Int} {ph : Int → Int} {s : Sg} {d : Nat} (x6 x7 : Bool) (hd : 10 ≤ d) (hI : Inv D) (hC : TC D w i n) (hS : SI D i s) (hL : SL D i s) (hT : T2 D w s i wl wp wn ph M) : aE s2_G d 65 154 [] [some (aP 0), some (aI n), some (aI (D 8 n)), some (aI (D 9 n)), some (aI (D 6 n)), none, some (aI (bI x6)), none, none] [aI (bI x7)] M (fun r M' => r = none ∧ fr wE2 M M' ∧ ∃ ph', T2 D w (endT D w i n (cond (((x6 || decide ((force D (D 6 n) 3).1 = 1)) && decide (D 10 n = patS D (bk D w) s (D 8 n) (D 6 n))) || (x6 && x7 && decide ((force D (D 6 n) 4).1 = 1))) (useS D s (D 8 n)) s)) (i + 1) wl wp wn ph' M') := by
  refine s2_goIn_154 (by omega) ?_
  cases x6
  · refine ⟨fun h => absurd rfl h, fun _ => ?_⟩
    refine aKi_of (s2_forceOf (name := 3) (day := D 6 n) hI hT.1) (by omega) (fun z M1 q => ?_)
    obtain ⟨q1, rfl, -⟩ := q
    have hT1 := T2_f hT q1
    refine ⟨fun h => ?_, fun h => ?_⟩
    · rw [show decide ((force D (D 6 n) 3).1 = 1) = false by simpa using h]
      refine aE_mono _ _ _ _ _ _ _ _ _ (fun r M' q' => ?_) (s2_gi_188 false x7 hd hI hC hS hL hT1)
      exact ⟨q'.1, fr_tr (fr_mo q1 rfl) q'.2.1, q'.2.2⟩
    · rw [show decide ((force D (D 6 n) 3).1 = 1) = true by simpa using h]
      refine aE_mono _ _ _ _ _ _ _ _ _ (fun r M' q' => ?_) (s2_gi_172 false x7 hd hI hC hS hL hT1)
      exact ⟨q'.1, fr_tr (fr_mo q1 rfl) q'.2.1, q'.2.2⟩
  · exact ⟨fun _ => s2_gi_172 true x7 hd hI hC hS hL hT, fun h => absurd h (by decide)⟩
theorem s2_gi_128 {D M : AM} {w i wl wp wn n : Int} {ph : Int → Int} {s : Sg} {d : Nat} (x6 : Bool) (hd : 10 ≤ d) (hI : Inv D) (hC : TC D w i n) (hS : SI D i s) (hL : SL D i s) (hT : T2 D w s i wl wp wn ph M) (hx : x6 = true → s.h (D 8 n) = []) : aE s2_G d 65 128 [] [some (aP 0), some (aI n), some (aI (D 8 n)), some (aI (D 9 n)), some (aI (D 6 n)), none, none, none, none] [aI (bI x6)] M (fun r M' => r = none ∧ fr wE2 M M' ∧ ∃ ph', T2 D w (endT D w i n (cond (((x6 || decide ((force D (D 6 n) 3).1 = 1)) && decide (D 10 n = patS D (bk D w) s (D 8 n) (D 6 n))) || (x6 && decide (lapS D (bk D w) s (D 8 n) (D 6 n) ≠ 0) && decide ((force D (D 6 n) 4).1 = 1))) (useS D s (D 8 n)) s)) (i + 1) wl wp wn ph' M') := by
  refine s2_goIn_128 (by omega) ?_
  have hnl := Inv_nl hI
  have hl := TC_l hC
  have hd6 := Inv_pd hI n
  rw [Q2_hn hT.2.2 _ hl.1 hl.2]
  refine ⟨by omega, fun h => ?_, fun h => ?_⟩
  · have hne : s.h (D 8 n) ≠ [] := fun q => h (by rw [q]; rfl)
    have hx6 : x6 = false := by
      cases x6
      · rfl
      · exact absurd (hx rfl) hne
    subst hx6
    have := s2_gi_154 false false hd hI hC hS hL hT
    exact s2_goIn_153 (by omega) this
  · refine aKi_of (s2_lapses hI hS hT hl hd6) (by omega) (fun z M1 q => ?_)
    obtain ⟨q1, rfl⟩ := q
    have hT1 := T2_f hT q1
    have h0 := lapS_rg (D := D) (B := bk D w) (s := s) (l := D 8 n) (day := D 6 n) hI
    refine ⟨fun h => ?_, fun h => ?_⟩
    · rw [show decide (lapS D (bk D w) s (D 8 n) (D 6 n) ≠ 0) = false by simp; omega]
      refine aE_mono _ _ _ _ _ _ _ _ _ (fun r M' q' => ?_) (s2_goIn_153 (by omega) (s2_gi_154 x6 false hd hI hC hS hL hT1))
      exact ⟨q'.1, fr_tr (fr_mo q1 rfl) q'.2.1, q'.2.2⟩
    · rw [show decide (lapS D (bk D w) s (D 8 n) (D 6 n) ≠ 0) = true by simp; omega]
      refine aE_mono _ _ _ _ _ _ _ _ _ (fun r M' q' => ?_) (s2_gi_154 x6 true hd hI hC hS hL hT1)
      exact ⟨q'.1, fr_tr (fr_mo q1 rfl) q'.2.1, q'.2.2⟩
theorem whyS_em {D : AM} {B : List Int} {s : Sg} {n : Int} (h : whyS D B s n = 0) : s.h (D 8 n) = [] := by
  unfold whyS at h
  by_cases e : s.h (D 8 n) = []
  · exact e
  · rw [if_pos e] at h
    have b1 : bI (hadB D B 1 (D 9 n) (D 6 n)) = 0 ∨ bI (hadB D B 1 (D 9 n) (D 6 n)) = 1 := by cases hadB D B 1 (D 9 n) (D 6 n) <;> simp [bI]
    have b2 : (if barS D B s (D 9 n) (D 8 n) (D 6 n) = -1 then (0 : Int) else 1) = 0 ∨ (if barS D B s (D 9 n) (D 8 n) (D 6 n) = -1 then (0 : Int) else 1) = 1 := by split <;> simp
    have b3 : (if mayS D B s (D 8 n) (D 6 n) = D 10 n then (0 : Int) else 1) = 0 ∨ (if mayS D B s (D 8 n) (D 6 n) = D 10 n then (0 : Int) else 1) = 1 := by split <;> simp
    omega
theorem s2_gi_118 {D M : AM} {w i wl wp wn n : Int} {ph : Int → Int} {s : Sg} {d : Nat} (hd : 10 ≤ d) (hI : Inv D) (hC : TC D w i n) (hS : SI D i s) (hL : SL D i s) (hT : T2 D w (rsS s n (whyS D (bk D w) s n)) i wl wp wn ph M) : aE s2_G d 65 118 [] [some (aP 0), some (aI n), some (aI (D 8 n)), some (aI (D 9 n)), some (aI (D 6 n)), some (aI (whyS D (bk D w) s n)), none, none, none] [] M (fun r M' => r = none ∧ fr wE2 M M' ∧ ∃ ph', T2 D w (tinS D (bk D w) s n i) (i + 1) wl wp wn ph' M') := by
  refine s2_goIn_118 (by omega) ?_
  have et : ∀ x6, x6 = decide (whyS D (bk D w) s n = 0) → tinS D (bk D w) s n i = endT D w i n (cond (((x6 || decide ((force D (D 6 n) 3).1 = 1)) && decide (D 10 n = patS D (bk D w) (rsS s n (whyS D (bk D w) s n)) (D 8 n) (D 6 n))) || (x6 && decide (lapS D (bk D w) (rsS s n (whyS D (bk D w) s n)) (D 8 n) (D 6 n) ≠ 0) && decide ((force D (D 6 n) 4).1 = 1))) (useS D (rsS s n (whyS D (bk D w) s n)) (D 8 n)) (rsS s n (whyS D (bk D w) s n))) := by
    intro x6 hc
    subst hc
    rfl
  have hS1 : SI D i (rsS s n (whyS D (bk D w) s n)) := SI_rs hS
  have hL1 : SL D i (rsS s n (whyS D (bk D w) s n)) := SL_of hL rfl rfl
  refine ⟨fun h => ?_, fun h => ?_⟩
  · rw [et false (by simpa using h)]
    exact s2_gi_128 false hd hI hC hS1 hL1 hT (fun q => by cases q)
  · rw [et true (by simpa using h)]
    exact s2_gi_128 true hd hI hC hS1 hL1 hT (fun _ => whyS_em h)
theorem s2_gi_97 {D M : AM} {w i wl wp wn n t0 t1 t2 : Int} {ph : Int → Int} {s : Sg} {d : Nat} (hd : 10 ≤ d) (hI : Inv D) (hC : TC D w i n) (hS : SI D i s) (hL : SL D i s) (hT : T2 D w s i wl wp wn ph M) (hz : a_add t2 (a_mul t1 (a_bl (t0 ≠ 0))) = whyS D (bk D w) s n) : aE s2_G d 65 97 [] [some (aP 0), some (aI n), some (aI (D 8 n)), some (aI (D 9 n)), some (aI (D 6 n)), none, none, none, none] [aI t0, aI t1, aI t2] M (fun r M' => r = none ∧ fr wE2 M M' ∧ ∃ ph', T2 D w (tinS D (bk D w) s n i) (i + 1) wl wp wn ph' M') := by
  refine s2_goIn_97 (by omega) ?_
  obtain ⟨hLq, hb, hQ⟩ := id hT
  rw [hz, Q2_w3 hQ]
  have key : ∀ M1, fr (wr [] [(0, 63)]) M M1 → M1 0 63 = up1 s.rs n (whyS D (bk D w) s n) wn → aE s2_G d 65 118 [] [some (aP 0), some (aI n), some (aI (D 8 n)), some (aI (D 9 n)), some (aI (D 6 n)), some (aI (whyS D (bk D w) s n)), none, none, none] [] M1 (fun r M' => r = none ∧ fr wE2 M M' ∧ ∃ ph', T2 D w (tinS D (bk D w) s n i) (i + 1) wl wp wn ph' M') := by
    intro M1 f h63
    have hT1 : T2 D w (rsS s n (whyS D (bk D w) s n)) i wl wp wn ph M1 := by
      refine ⟨eqL_fw hLq f rfl, by rw [f 0 17 rfl, show M1 13 = M 13 from funext fun x => f 13 x rfl]; exact hb, ?_⟩
      refine ⟨fun x x0 x1 => ?_, fun x x0 x1 k hk => ?_, Q2_fm (s := s) hQ, fun y p c h1 => ?_, ?_, fun x x0 x1 => ?_, fun x x0 x1 => ?_, fun x x0 x1 => ?_, fun x x0 x1 => ?_, fun x x0 x1 => ?_, ?_, fun k hk => ?_, ?_, ?_, ?_, ?_, fun k hk => ?_, h63, ?_⟩
      · rw [f 27 x rfl]; exact Q2_hn (s := s) hQ x x0 x1
      · rw [f 28 _ rfl, f 34 _ rfl]; exact Q2_hp (s := s) hQ x x0 x1 k hk
      · rw [f 0 51 rfl]; exact Q2_fb (s := s) hQ y p c h1
      · rw [f 0 51 rfl]; exact Q2_cm (s := s) hQ
      · rw [f 29 x rfl]; exact Q2_ef (s := s) hQ x x0 x1
      · rw [f 30 x rfl]; exact Q2_eb (s := s) hQ x x0 x1
      · rw [f 31 x rfl]; exact Q2_ra (s := s) hQ x x0 x1
      · rw [f 32 x rfl]; exact Q2_rb (s := s) hQ x x0 x1
      · rw [f 33 x rfl]; exact Q2_tn (s := s) hQ x x0 x1
      · rw [f 0 52 rfl]; exact Q2_sn (s := s) hQ
      · rw [f 35 k rfl, f 36 k rfl, f 37 k rfl, f 38 k rfl]; exact Q2_so (s := s) hQ k hk
      · rw [f 0 57 rfl]; exact Q2_w1 (s := s) hQ
      · rw [f 0 64 rfl]; exact Q2_w2 (s := s) hQ
      · rw [f 0 62 rfl]; exact Q2_w3 (s := s) hQ
      · rw [f 0 58 rfl]; exact Q2_cn (s := s) hQ
      · rw [f 39 k rfl, f 40 k rfl, f 41 k rfl]; exact Q2_cg (s := s) hQ k hk
      · rw [f 0 65 rfl]; exact Q2_fe (s := s) hQ
    refine aE_mono _ _ _ _ _ _ _ _ _ (fun r M' q' => ?_) (s2_gi_118 hd hI hC hS hL hT1)
    exact ⟨q'.1, fr_tr (fr_mo f rfl) q'.2.1, q'.2.2⟩
  refine ⟨fun h => key M fr_rf ?_, fun h => key _ (fr_up fr_rf rfl) ?_⟩
  · rw [up1_n (fun q => h q.symm)]; exact Q2_wy hQ
  · rw [x_us, h, up1_s]
theorem brF_nn {D : AM} {g : Int → Bool} {j z : Int} (hj : 0 ≤ j) : ∀ (m n : Nat), brF D g j n m = some z → 0 ≤ z
  | 0, _, h => by cases h
  | m + 1, n, h => by
    unfold brF at h
    split at h
    · cases h; omega
    · exact brF_nn hj m (n + 1) h
theorem brL_nn {D : AM} {g : Int → Bool} : ∀ l : List Int, (∀ j ∈ l, 0 ≤ j) → brL D g l = -1 ∨ 0 ≤ brL D g l
  | [], _ => Or.inl rfl
  | j :: l, h => by
    unfold brL
    split
    next z e => exact Or.inr (brF_nn (h j (by simp)) _ _ e)
    · exact brL_nn l (fun x hx => h x (by simp [hx]))
theorem barS_nn {D : AM} {B : List Int} {s : Sg} {p l day : Int} : barS D B s p l day = -1 ∨ 0 ≤ barS D B s p l day := brL_nn _ (fun j hj => (cord_mem hj).1.1)
theorem bI_rg (b : Bool) : 0 ≤ bI b ∧ bI b ≤ 1 := by cases b <;> decide
theorem whyS_eq {D : AM} {B : List Int} {s : Sg} {n : Int} {b0 b1 b2 b3 : Bool} (h0 : b0 = true ↔ s.h (D 8 n) ≠ []) (h1 : b1 = hadB D B 1 (D 9 n) (D 6 n)) (h2 : b2 = true ↔ barS D B s (D 9 n) (D 8 n) (D 6 n) ≠ -1) (h3 : b3 = true ↔ mayS D B s (D 8 n) (D 6 n) ≠ D 10 n) : bI b0 + 2 * bI b1 + 4 * bI b2 + 8 * bI b3 = whyS D B s n := by
  unfold whyS
  rw [← h1]
  have e0 : (if s.h (D 8 n) ≠ [] then (1 : Int) else 0) = bI b0 := by
    cases b0
    · rw [if_neg (fun q => by cases h0.mpr q)]; rfl
    · rw [if_pos (h0.mp rfl)]; rfl
  have e2 : (if barS D B s (D 9 n) (D 8 n) (D 6 n) = -1 then (0 : Int) else 1) = bI b2 := by
    cases b2
    · rw [if_pos (Decidable.not_not.mp (fun q => by cases h2.mpr q))]; rfl
    · rw [if_neg (h2.mp rfl)]; rfl
  have e3 : (if mayS D B s (D 8 n) (D 6 n) = D 10 n then (0 : Int) else 1) = bI b3 := by
    cases b3
    · rw [if_pos (Decidable.not_not.mp (fun q => by cases h3.mpr q))]; rfl
    · rw [if_neg (h3.mp rfl)]; rfl
  rw [e0, e2, e3]
theorem s2_goIn {D M : AM} {w i wl wp wn n : Int} {ph : Int → Int} {s : Sg} (hI : Inv D) (hC : TC D w i n) (hS : SI D i s) (hL : SL D i s) (hT : T2 D w s i wl wp wn ph M) : aCv s2_G 10 65 [aP 0, aI n] M (fun M' => fr wE2 M M' ∧ ∃ ph', T2 D w (tinS D (bk D w) s n i) (i + 1) wl wp wn ph' M') := by
  refine ⟨Nat.le_of_ble_eq_true rfl, fun d hd => ?_⟩
  refine s2_goIn_0 (by omega) ?_
  have hpn := Inv_pn hI
  have hnl := Inv_nl hI
  have hn := TC_n hC
  have hl := TC_l hC
  have hi1 := TC_i1 hC
  have hd6 := Inv_pd hI n
  have hbl := bk_len (D := D) (w := w) hpn.1
  obtain ⟨hLq, hb, hQ⟩ := id hT
  rw [L_8 hLq, L_9 hLq, L_6 hLq, Q2_hn hQ _ hl.1 hl.2]
  have k69 : ∀ (b0 b1 b2 : Bool) (M1 : AM), (b0 = true ↔ s.h (D 8 n) ≠ []) → (b1 = hadB D (bk D w) 1 (D 9 n) (D 6 n)) → (b2 = true ↔ barS D (bk D w) s (D 9 n) (D 8 n) (D 6 n) ≠ -1) → fr wQ2 M M1 → aE s2_G d 65 69 [] [some (aP 0), some (aI n), some (aI (D 8 n)), some (aI (D 9 n)), some (aI (D 6 n)), none, none, none, none] [aI (bI b2), aI 4, aI (a_add (a_bl (bI b0 ≠ 0)) (a_mul 2 (a_bl (bI b1 ≠ 0))))] M1 (fun r M' => r = none ∧ fr wE2 M M' ∧ ∃ ph', T2 D w (tinS D (bk D w) s n i) (i + 1) wl wp wn ph' M') := by
    intro b0 b1 b2 M1 h0 h1 h2 f1
    have r0 := bI_rg b0
    have r1 := bI_rg b1
    have r2 := bI_rg b2
    refine s2_goIn_69 (by omega) ?_
    have hT1 := T2_q hT f1
    refine aKi_of (s2_whoMay hI hS (by omega) hT1 hl hd6) (by omega) (fun z M2 q => ?_)
    obtain ⟨q1, rfl⟩ := q
    have hT2 := T2_f hT1 q1
    have f2 : fr wQ2 M M2 := fr_tr f1 (fr_mo q1 rfl)
    rw [L_10 hT2.1]
    have go : ∀ b3 : Bool, (b3 = true ↔ mayS D (bk D w) s (D 8 n) (D 6 n) ≠ D 10 n) → aE s2_G d 65 97 [] [some (aP 0), some (aI n), some (aI (D 8 n)), some (aI (D 9 n)), some (aI (D 6 n)), none, none, none, none] [aI (bI b3), aI 8, aI (a_add (a_add (a_bl (bI b0 ≠ 0)) (a_mul 2 (a_bl (bI b1 ≠ 0)))) (a_mul 4 (a_bl (bI b2 ≠ 0))))] M2 (fun r M' => r = none ∧ fr wE2 M M' ∧ ∃ ph', T2 D w (tinS D (bk D w) s n i) (i + 1) wl wp wn ph' M') := by
      intro b3 h3
      have r3 := bI_rg b3
      refine aE_mono _ _ _ _ _ _ _ _ _ (fun r M' q' => ?_) (s2_gi_97 hd hI hC hS hL hT2 ?_)
      · exact ⟨q'.1, fr_tr (fr_mo f2 rfl) q'.2.1, q'.2.2⟩
      · rw [a_bl_bI, a_bl_bI, a_bl_bI, a_bl_bI, x_mul (a := 2) (by omega), x_add (a := bI b0) (by omega), x_mul (a := 4) (by omega), x_add (a := bI b0 + 2 * bI b1) (by omega), x_mul (a := 8) (by omega), x_add (by omega)]
        exact whyS_eq h0 h1 h2 h3
    exact ⟨by omega, fun h => go false ⟨fun q => (by cases q), fun q => absurd h q⟩, fun h => go true ⟨fun _ => h, fun _ => rfl⟩⟩
  have k36 : ∀ b0 : Bool, (b0 = true ↔ s.h (D 8 n) ≠ []) → aE s2_G d 65 36 [] [some (aP 0), some (aI n), some (aI (D 8 n)), some (aI (D 9 n)), some (aI (D 6 n)), none, none, none, none] [aI (bI b0)] M (fun r M' => r = none ∧ fr wE2 M M' ∧ ∃ ph', T2 D w (tinS D (bk D w) s n i) (i + 1) wl wp wn ph' M') := by
    intro b0 h0
    refine s2_goIn_36 (by omega) ?_
    refine aKi_of (s2_isDead (p := D 9 n) (t := D 6 n) hI hLq hb (fun i hi => bk_mem hi) (by omega)) (by omega) (fun z M1 q => ?_)
    obtain ⟨e1, rfl⟩ := q
    rw [e1]
    refine aKi_of (s2_barFor (p := D 9 n) hI hS hT hl hd6) (by omega) (fun z M2 q => ?_)
    obtain ⟨f2, rfl⟩ := q
    have hnn := barS_nn (D := D) (B := bk D w) (s := s) (p := D 9 n) (l := D 8 n) (day := D 6 n)
    exact ⟨fun h => k69 b0 _ false M2 h0 rfl ⟨fun q => (by cases q), fun q => absurd (show barS D (bk D w) s (D 9 n) (D 8 n) (D 6 n) = -1 by omega) q⟩ f2, fun h => k69 b0 _ true M2 h0 rfl ⟨fun _ => by omega, fun _ => rfl⟩ f2⟩
  refine ⟨by omega, by omega, by omega, by omega, fun h => k36 false ⟨fun q => (by cases q), fun q => absurd (h_emp.mpr (by omega)) q⟩, fun h => k36 true ⟨fun _ q => ?_, fun _ => rfl⟩⟩
  rw [q] at h
  simp at h
