/-! THE STORY in the second system: what happens -/
abbrev wE2 : Nat → Int → Bool := wr [25, 26, 27, 28, 29, 30, 31, 32, 33, 34, 35, 36, 37, 38, 39, 40, 41, 42] [(0, 41), (0, 42), (0, 51), (0, 52), (0, 58), (0, 63), (0, 65), (0, 66)]
def not2 (M : AM) (c dd z n : Int) : AM := am_up (am_up (am_up (am_up M 39 c dd) 40 c z) 41 c n) 0 58 (c + 1)
theorem not2_fr {M : AM} {c dd z n : Int} : fr (wr [39, 40, 41] [(0, 58)]) M (not2 M c dd z n) := fr_up (fr_up (fr_up (fr_up fr_rf rfl) rfl) rfl) rfl
theorem s2_note {D M : AM} {l n c : Int} (hL : eqL D M) (hn : 0 ≤ n ∧ n < 150) (hl : 0 ≤ l ∧ l < 12) (hc : M 0 58 = c) (h0 : l = M 0 57 → 0 ≤ c ∧ c < 160) : aCv s2_G 4 51 [aP 0, aI l, aI n] M (fun M' => M' = if l = M 0 57 then not2 M c (D 6 n) (M 27 l) n else M) := by
  refine ⟨Nat.le_of_ble_eq_true rfl, fun d hd => ?_⟩
  refine s2_note_0 (by omega) ?_
  simp (decide := true) only [x_uc, x_uk, hc]
  rw [L_6 hL]
  refine ⟨fun h => ⟨by trivial, by rw [if_neg h]⟩, fun h => ?_⟩
  have h0 := h0 h
  rw [x_add (by omega)]
  refine ⟨hn, h0, hl, h0, h0, by trivial, ?_⟩
  rw [if_pos h]
  rfl
/-- the watched log, one longer -/
theorem cg_note {D : AM} {lg : List LE} {wl l p f n z : Int} {M : AM} (h1 : M 0 58 = (lg.filter (isAt wl)).length) (h2 : ∀ (k : Nat) (hk : k < (lg.filter (isAt wl)).length), M 39 k = D 6 (lg.filter (isAt wl))[k].2.2.2.1 ∧ M 40 k = (lg.filter (isAt wl))[k].2.2.2.2 ∧ M 41 k = (lg.filter (isAt wl))[k].2.2.2.1) (N : AM) (hN : N = if l = wl then not2 M ((lg.filter (isAt wl)).length) (D 6 n) z n else M) :
    N 0 58 = ((lg ++ [((l, p, f, n, z) : LE)]).filter (isAt wl)).length ∧ ∀ (k : Nat) (hk : k < ((lg ++ [((l, p, f, n, z) : LE)]).filter (isAt wl)).length), N 39 k = D 6 ((lg ++ [((l, p, f, n, z) : LE)]).filter (isAt wl))[k].2.2.2.1 ∧ N 40 k = ((lg ++ [((l, p, f, n, z) : LE)]).filter (isAt wl))[k].2.2.2.2 ∧ N 41 k = ((lg ++ [((l, p, f, n, z) : LE)]).filter (isAt wl))[k].2.2.2.1 := by
  by_cases e : l = wl
  · rw [if_pos e] at hN
    have hf : (lg ++ [((l, p, f, n, z) : LE)]).filter (isAt wl) = lg.filter (isAt wl) ++ [(l, p, f, n, z)] := by
      rw [List.filter_append, List.filter_cons_of_pos (by unfold isAt; simpa using e), List.filter_nil]
    obtain ⟨F, eF⟩ : ∃ F, F = lg.filter (isAt wl) := ⟨_, rfl⟩
    rw [← eF] at h1 h2 hN hf
    rw [hf]
    subst hN
    unfold not2
    refine ⟨by rw [x_us]; simp, fun k hk => ?_⟩
    simp (decide := true) only [x_uk, x_uu]
    by_cases ek : k = F.length
    · subst ek
      rw [up1_s, up1_s, up1_s]
      simp
    · have hk2 : k < F.length := by rw [List.length_append] at hk; simp at hk; omega
      rw [up1_n (by omega), up1_n (by omega), up1_n (by omega), List.getElem_append_left hk2]
      exact h2 k hk2
  · rw [if_neg e] at hN
    have hf : (lg ++ [((l, p, f, n, z) : LE)]).filter (isAt wl) = lg.filter (isAt wl) := by
      rw [List.filter_append, List.filter_cons_of_neg (by unfold isAt; simpa using e), List.filter_nil, List.append_nil]
    obtain ⟨F, eF⟩ : ∃ F, F = lg.filter (isAt wl) := ⟨_, rfl⟩
    rw [← eF] at h1 h2 hf
    rw [hf, hN]
    exact ⟨h1, h2⟩
theorem felD_snoc {D : AM} {lg : List LE} {e : LE} {wl wp : Int} : felD D (lg ++ [e]) wl wp = if e.1 = wl ∧ e.2.2.1 = 1 ∧ e.2.1 = wp then D 6 e.2.2.2.1 else felD D lg wl wp := by unfold felD; rw [List.foldl_append]; rfl
theorem delH_at {A B : List (Int × Int)} {x : Int × Int} {p : Int} (hn : (A ++ x :: B).Pairwise (fun a b => a.1 ≠ b.1)) (hx : x.1 = p) : delH (A ++ x :: B) p = A ++ B := by
  have h1 := List.pairwise_append.mp hn
  have h2 := List.pairwise_cons.mp h1.2.1
  unfold delH
  rw [List.filter_append, List.filter_cons_of_neg (by simp [hx])]
  congr 1
  · exact List.filter_eq_self.mpr (fun a ha => by
      have := h1.2.2 a ha x (by simp)
      simp
      rw [← hx]
      exact this)
  · exact List.filter_eq_self.mpr (fun b hb => by
      have := h2.1 b hb
      simp
      rw [← hx]
      exact fun q => this q.symm)
theorem s2_le_shift {M : AM} {Q : Option AV → AM → Prop} {d : Nat} {l p n why : Int} {ph : Int → Int} {L : List (Int × Int)} (hd : 5 ≤ d) (hl : 0 ≤ l ∧ l < 12) (hlen : L.length ≤ 39) (h27 : M 27 l = L.length)
    (K : ∀ M', fr (wr [28, 34] []) M M' → (∀ x : Int, (x < 40 * l ∨ 40 * l + 40 ≤ x) → M' 28 x = M 28 x ∧ M' 34 x = M 34 x) → (∀ (j : Nat) (hj : j < L.length), M' 28 (40 * l + j) = L[j].1 ∧ M' 34 (40 * l + j) = ph L[j].2) → aE s2_G d 53 28 [] [some (aP 0), some (aI l), some (aI p), some (aI why), some (aI n), none, some (aI L.length)] [] M' Q) :
    ∀ (B A : List (Int × Int)) (M1 : AM), L = A ++ B → fr (wr [28, 34] []) M M1 → (∀ x : Int, (x < 40 * l ∨ 40 * l + 40 ≤ x) → M1 28 x = M 28 x ∧ M1 34 x = M 34 x) → (∀ (j : Nat) (hj : j < A.length), M1 28 (40 * l + j) = A[j].1 ∧ M1 34 (40 * l + j) = ph A[j].2) → (∀ (j : Nat) (hj : j < B.length), M1 28 (40 * l + A.length + 1 + j) = B[j].1 ∧ M1 34 (40 * l + A.length + 1 + j) = ph B[j].2) → aE s2_G d 53 28 [] [some (aP 0), some (aI l), some (aI p), some (aI why), some (aI n), none, some (aI A.length)] [] M1 Q
  | [], A, M1, e, hf, ho, hA, hB => by
    rw [List.append_nil] at e
    subst e
    exact K M1 hf ho hA
  | b :: B, A, M1, e, hf, ho, hA, hB => by
    have hl2 : L.length = A.length + 1 + B.length := by rw [e]; simp; omega
    have ih := s2_le_shift hd hl hlen h27 K B (A ++ [b])
    have el : ((A ++ [b]).length : Int) = (A.length : Int) + 1 := by simp
    have hb := hB 0 (by simp)
    rw [show 40 * l + (A.length : Int) + 1 + ((0 : Nat) : Int) = 40 * l + A.length + 1 by omega] at hb
    refine s2_leave_28 (by omega) ?_
    rw [hf 27 l rfl, h27, x_mul (by omega), x_add (a := 40 * l) (by omega), x_add (a := 40 * l + (A.length : Int)) (by omega), x_add (a := (A.length : Int)) (by omega)]
    rw [← el]
    refine ⟨hl, fun h => absurd h (by omega), fun _ => ⟨by omega, by omega, by omega, by omega, ?_⟩⟩
    simp (decide := true) only [x_uk]
    rw [hb.1, hb.2]
    simp only [List.getElem_cons_zero]
    refine ih _ (by rw [e]; simp) (fr_up (fr_up hf rfl) rfl) (fun x hx => ?_) (fun j hj => ?_) (fun j hj => ?_)
    · simp (decide := true) only [x_uk, x_uu]
      rw [up1_n (by omega), up1_n (by omega)]
      exact ho x hx
    · simp (decide := true) only [x_uk, x_uu]
      by_cases ej : j = A.length
      · subst ej
        rw [up1_s, up1_s]
        refine ⟨?_, ?_⟩ <;> simp
      · have hj2 : j < A.length := by simp at hj; omega
        rw [up1_n (by omega), up1_n (by omega), List.getElem_append_left hj2]
        exact hA j hj2
    · simp (decide := true) only [x_uk, x_uu]
      rw [up1_n (by omega), up1_n (by omega)]
      have := hB (j + 1) (by simp; omega)
      rw [show 40 * l + (A.length : Int) + 1 + ((j + 1 : Nat) : Int) = 40 * l + ((A ++ [b]).length : Int) + 1 + j by rw [el]; omega] at this
      simpa using this
theorem s2_leave {D M : AM} {w i wl wp wn l n why : Int} {ph : Int → Int} {s : Sg} (hI : Inv D) (hS : SI D i s) (hL : SL D 150 s) (hT : T2 D w s i wl wp wn ph M) (hl : 0 ≤ l ∧ l < D 0 3) (hn : 0 ≤ n ∧ n < D 0 7) : aCv s2_G 5 53 [aP 0, aI l, aI (D 9 n), aI why, aI n] M (fun M' => fr wE2 M M' ∧ T2 D w (fallS D s l n why) i wl wp wn ph M') := by
  refine ⟨Nat.le_of_ble_eq_true rfl, fun d hd => ?_⟩
  refine s2_leave_0 (by omega) ?_
  have hnl := Inv_nl hI
  have hpn := Inv_pn hI
  obtain ⟨hLq, hb, hQ⟩ := id hT
  refine aKi_of (s2_placeOf (w := w) (p := D 9 n) hI hS hQ hl) (by omega) (fun z M1 q => ?_)
  obtain ⟨rfl, ⟨k, hk, rfl, ek⟩ | ⟨rfl, eh⟩⟩ := q
  · have eh := has_of_at hk ek
    have hlen := SI_len hI hS l
    obtain ⟨A, x, B, eL, eA⟩ : ∃ A x B, s.h l = A ++ x :: B ∧ A.length = k := by
      refine ⟨(s.h l).take k, (s.h l)[k], (s.h l).drop (k + 1), ?_, by simp; omega⟩
      rw [List.getElem_cons_drop, List.take_append_drop]
    have ex : x.1 = D 9 n := by
      rw [← ek]
      simp [eL, ← eA]
    have hdel : delH (s.h l) (D 9 n) = A ++ B := by
      rw [eL]
      exact delH_at (by rw [← eL]; exact SI_hn hS l) ex
    have hl2 : (s.h l).length = A.length + 1 + B.length := by rw [eL]; simp; omega
    have hAB : (A ++ B).length = A.length + B.length := by simp
    refine ⟨fun _ => ⟨by omega, by omega, ?_⟩, fun h => absurd h (by omega)⟩
    rw [Q2_hn hQ l hl.1 hl.2, x_sub (by omega)]
    rw [show ((s.h l).length : Int) - 1 = ((A ++ B).length : Int) by omega]
    have f0 : fr (wr [27] []) M1 (am_up M1 27 l ((A ++ B).length)) := fr_up fr_rf rfl
    -- what follows once the row is shut
    have hh := Q2_hp hQ l hl.1 hl.2
    have hh' : ∀ (j : Nat) (hj : j < (A ++ x :: B).length), M1 28 (40 * l + j) = (A ++ x :: B)[j].1 ∧ M1 34 (40 * l + j) = ph (A ++ x :: B)[j].2 := by
      rw [eL] at hh
      exact hh
    rw [show (k : Int) = (A.length : Int) by omega]
    refine s2_le_shift (L := A ++ B) (ph := ph) (M := am_up M1 27 l ((A ++ B).length)) hd (by omega) (by omega) x_us (fun M2 f2 ho hA2 => ?_) B A _ rfl fr_rf (fun _ _ => ⟨rfl, rfl⟩) (fun j hj => ?_) (fun j hj => ?_)
    rotate_left
    · simp (decide := true) only [x_uk]
      have := hh' j (by simp; omega)
      rw [List.getElem_append_left hj] at this
      exact this
    · simp (decide := true) only [x_uk]
      have := hh' (A.length + 1 + j) (by simp; omega)
      rw [show 40 * l + ((A.length + 1 + j : Nat) : Int) = 40 * l + A.length + 1 + j by omega, List.getElem_append_right (by omega)] at this
      simp only [show A.length + 1 + j - A.length = j + 1 by omega, List.getElem_cons_succ] at this
      exact this
    have f02 : fr (wr [27, 28, 34] []) M1 M2 := fr_tr (fr_mo f0 rfl) (fr_mo f2 rfl)
    have hL2 := eqL_fw hLq f02 rfl
    have h27 : ∀ x, M2 27 x = up1 (M1 27) l ((A ++ B).length) x := fun x => by rw [f2 27 x rfl, x_uu]
    have hrow : ∀ x, 0 ≤ x → x < D 0 3 → ∀ (k : Nat) (hk : k < (upl s.h l (A ++ B) x).length), M2 28 (40 * x + k) = (upl s.h l (A ++ B) x)[k].1 ∧ M2 34 (40 * x + k) = ph (upl s.h l (A ++ B) x)[k].2 := by
      intro x x0 x1 k hk
      by_cases e : x = l
      · subst e
        have := hA2 k (by rw [upl_s] at hk; exact hk)
        simpa [upl_s] using this
      · have hx := SI_len hI hS x
        rw [upl_n e] at hk
        have hk40 : k < 40 := by omega
        have := ho (40 * x + k) (by omega)
        rw [this.1, this.2]
        simp (decide := true) only [x_uk]
        have h3 := Q2_hp hQ x x0 x1 k hk
        simpa [upl_n e] using h3
    have hmem : ∀ y q c, (q, c) ∈ upl s.h l (A ++ B) y → (q, c) ∈ s.h y := by
      intro y q c hm
      unfold upl at hm
      split at hm
      next e =>
        rw [← hdel] at hm
        rw [e]
        exact (delH_mem hm).1
      · exact hm
    have hcnt : (s.lg.filter (isAt wl)).length = s.lg.countP (isAt wl) := (List.countP_eq_length_filter).symm
    have hliv := SL_liv hL wl
    have fin : ∀ (M3 : AM) (ef eb : Int → Int), fr (wr [29, 30] [(0, 65)]) M2 M3 → (∀ x, 0 ≤ x → x < D 0 3 → M3 29 x = ef x) → (∀ x, 0 ≤ x → x < D 0 3 → M3 30 x = eb x) → M3 0 65 = felD D (s.lg ++ [(l, D 9 n, 1, n, ((A ++ B).length : Int))]) wl wp → aKv s2_G d 51 [aP 0, aI l, aI n] M3 (fun M4 => True ∧ fr wE2 M1 M4 ∧ T2 D w (upl s.h l (A ++ B), ef, eb, s.ra, s.rb, s.tn, s.so, s.lg ++ [(l, D 9 n, 1, n, ((A ++ B).length : Int))], s.rs) i wl wp wn ph M4) := by
      intro M3 ef eb f3 h29 h30 h65
      have hL3 := eqL_fw hL2 f3 rfl
      have f13 : fr (wr [27, 28, 29, 30, 34] [(0, 65)]) M1 M3 := fr_tr (fr_mo f02 rfl) (fr_mo f3 rfl)
      have h58 : M3 0 58 = (s.lg.filter (isAt wl)).length := (f13 0 58 rfl).trans (Q2_cn hQ)
      have h57 : M3 0 57 = wl := (f13 0 57 rfl).trans (Q2_w1 hQ)
      refine aKv_of (s2_note hL3 (by omega) (by omega) h58 (fun _ => by omega)) (by omega) (fun M4 q => ?_)
      rw [h57, show M3 27 l = (A ++ B).length by rw [f3 27 l rfl, h27, up1_s]] at q
      have hcg := cg_note (D := D) (lg := s.lg) (wl := wl) (l := l) (p := D 9 n) (f := 1) (n := n) (z := (A ++ B).length) (M := M3) h58 (fun k hk => by
        have := Q2_cg hQ k hk
        rw [f13 39 k rfl, f13 40 k rfl, f13 41 k rfl]
        exact this) M4 q
      have f34 : fr (wr [39, 40, 41] [(0, 58)]) M3 M4 := by
        rw [q]
        split
        · exact not2_fr
        · exact fr_rf
      have fA : fr (wr [27, 28, 29, 30, 34, 39, 40, 41] [(0, 58), (0, 65)]) M1 M4 := fr_tr (fr_mo f13 rfl) (fr_mo f34 rfl)
      have e13 : M4 13 = M1 13 := funext fun x => fA 13 x rfl
      refine ⟨trivial, fr_mo fA rfl, eqL_fw hLq fA rfl, by rw [fA 0 17 rfl, e13]; exact hb, ?_⟩
      refine ⟨fun x x0 x1 => ?_, fun x x0 x1 k hk => ?_, fun y m p q c c' h1 h2 hc => ?_, fun y p c h1 => ?_, ?_, fun x x0 x1 => ?_, fun x x0 x1 => ?_, fun x x0 x1 => ?_, fun x x0 x1 => ?_, fun x x0 x1 => ?_, ?_, fun k hk => ?_, ?_, ?_, ?_, hcg.1, hcg.2, ?_, ?_⟩
      · rw [f34 27 x rfl, f3 27 x rfl, h27]
        show _ = ((upl s.h l (A ++ B) x).length : Int)
        by_cases e : x = l
        · subst e; rw [up1_s, upl_s]
        · rw [up1_n e, upl_n e]; exact Q2_hn hQ x x0 x1
      · rw [f34 28 _ rfl, f3 28 _ rfl, f34 34 _ rfl, f3 34 _ rfl]
        exact hrow x x0 x1 k hk
      · exact Q2_fm hQ y m p q c c' (hmem _ _ _ h1) (hmem _ _ _ h2) hc
      · rw [fA 0 51 rfl]; exact Q2_fb hQ y p c (hmem _ _ _ h1)
      · rw [fA 0 51 rfl]; exact Q2_cm hQ
      · rw [f34 29 x rfl]; exact h29 x x0 x1
      · rw [f34 30 x rfl]; exact h30 x x0 x1
      · rw [fA 31 x rfl]; exact Q2_ra (s := s) hQ x x0 x1
      · rw [fA 32 x rfl]; exact Q2_rb (s := s) hQ x x0 x1
      · rw [fA 33 x rfl]; exact Q2_tn (s := s) hQ x x0 x1
      · rw [fA 0 52 rfl]; exact Q2_sn (s := s) hQ
      · rw [fA 35 k rfl, fA 36 k rfl, fA 37 k rfl, fA 38 k rfl]; exact Q2_so (s := s) hQ k hk
      · rw [fA 0 57 rfl]; exact Q2_w1 (s := s) hQ
      · rw [fA 0 64 rfl]; exact Q2_w2 (s := s) hQ
      · rw [fA 0 62 rfl]; exact Q2_w3 (s := s) hQ
      · rw [fA 0 63 rfl]; exact Q2_wy (s := s) hQ
      · rw [f34 0 65 rfl]; exact h65
    have efall : fallS D s l n why = (upl s.h l (A ++ B), (if A ++ B = [] then up1 s.ef l (D 6 n) else s.ef), (if A ++ B = [] then up1 s.eb l why else s.eb), s.ra, s.rb, s.tn, s.so, s.lg ++ [(l, D 9 n, 1, n, ((A ++ B).length : Int))], s.rs) := by
      unfold fallS
      rw [if_pos eh, hdel]
    rw [efall]
    have h65n : ¬ (l = wl ∧ D 9 n = wp) → felD D (s.lg ++ [(l, D 9 n, 1, n, ((A ++ B).length : Int))]) wl wp = M2 0 65 := fun h => by
      rw [felD_snoc, if_neg (fun q => h ⟨q.1, q.2.2⟩), f02 0 65 rfl]
      exact (Q2_fe hQ).symm
    have h65y : (l = wl ∧ D 9 n = wp) → felD D (s.lg ++ [(l, D 9 n, 1, n, ((A ++ B).length : Int))]) wl wp = D 6 n := fun h => by
      rw [felD_snoc, if_pos ⟨h.1, rfl, h.2⟩]
    refine s2_leave_28 (by omega) ?_
    rw [h27, up1_s]
    simp (decide := true) only [x_uc, x_uk]
    rw [show M2 0 57 = wl from (f02 0 57 rfl).trans (Q2_w1 hQ), show M2 0 64 = wp from (f02 0 64 rfl).trans (Q2_w2 hQ), L_6 hL2]
    refine ⟨by omega, fun _ => ⟨by omega, fun hne => ?_, fun he => ⟨by omega, by omega, by omega, ?_⟩⟩, fun h => absurd h (by omega)⟩
    · have hne' : A ++ B ≠ [] := fun q => hne (by rw [q]; rfl)
      rw [if_neg hne', if_neg hne']
      have hef : ∀ x, 0 ≤ x → x < D 0 3 → M2 29 x = s.ef x := fun x x0 x1 => by rw [f02 29 x rfl]; exact Q2_ef hQ x x0 x1
      have heb : ∀ x, 0 ≤ x → x < D 0 3 → M2 30 x = s.eb x := fun x x0 x1 => by rw [f02 30 x rfl]; exact Q2_eb hQ x x0 x1
      refine ⟨fun h1 => fin M2 _ _ fr_rf hef heb (h65n (fun q => h1 q.1)).symm, fun h1 => ⟨fun h2 => fin M2 _ _ fr_rf hef heb (h65n (fun q => h2 q.2)).symm, fun h2 => ⟨by omega, fin (am_up M2 0 65 (D 6 n)) _ _ (fr_up fr_rf rfl) (fun x x0 x1 => by rw [x_uk (by decide)]; exact hef x x0 x1) (fun x x0 x1 => by rw [x_uk (by decide)]; exact heb x x0 x1) (by rw [x_us]; exact (h65y ⟨h1, h2⟩).symm)⟩⟩⟩
    · have he' : A ++ B = [] := List.length_eq_zero_iff.mp (by omega)
      rw [if_pos he', if_pos he']
      have hef : ∀ (M3 : AM), (∀ x, M3 29 x = up1 (M2 29) l (D 6 n) x) → ∀ x, 0 ≤ x → x < D 0 3 → M3 29 x = up1 s.ef l (D 6 n) x := fun M3 h x x0 x1 => by
        rw [h]
        unfold up1
        split
        · rfl
        · rw [f02 29 x rfl]; exact Q2_ef hQ x x0 x1
      have heb : ∀ (M3 : AM), (∀ x, M3 30 x = up1 (M2 30) l why x) → ∀ x, 0 ≤ x → x < D 0 3 → M3 30 x = up1 s.eb l why x := fun M3 h x x0 x1 => by
        rw [h]
        unfold up1
        split
        · rfl
        · rw [f02 30 x rfl]; exact Q2_eb hQ x x0 x1
      refine ⟨fun h1 => fin (am_up (am_up M2 29 l (D 6 n)) 30 l why) _ _ (fr_up (fr_up fr_rf rfl) rfl) (hef _ (fun x => by simp (decide := true) only [x_uk, x_uu])) (heb _ (fun x => by simp (decide := true) only [x_uk, x_uu])) (by simp (decide := true) only [x_uk]; exact (h65n (fun q => h1 q.1)).symm), fun h1 => ⟨fun h2 => fin (am_up (am_up M2 29 l (D 6 n)) 30 l why) _ _ (fr_up (fr_up fr_rf rfl) rfl) (hef _ (fun x => by simp (decide := true) only [x_uk, x_uu])) (heb _ (fun x => by simp (decide := true) only [x_uk, x_uu])) (by simp (decide := true) only [x_uk]; exact (h65n (fun q => h2 q.2)).symm), fun h2 => ⟨by omega, fin (am_up (am_up (am_up M2 29 l (D 6 n)) 30 l why) 0 65 (D 6 n)) _ _ (fr_up (fr_up (fr_up fr_rf rfl) rfl) rfl) (hef _ (fun x => by simp (decide := true) only [x_uk, x_uu])) (heb _ (fun x => by simp (decide := true) only [x_uk, x_uu])) (by rw [x_us]; exact (h65y ⟨h1, h2⟩).symm)⟩⟩⟩
  · have efall : fallS D s l n why = s := by unfold fallS; rw [eh]; rfl
    rw [efall]
    exact ⟨fun h => absurd h (by decide), fun _ => ⟨by trivial, fr_rf, hT⟩⟩
