/-! BOTH SYSTEMS AT ONE -/
def RelP (D : AM) (M : AM) : Prop :=
  (Inv D) ∧
  (B1 D M) ∧
  (StoC D M) ∧
  (InvV D) ∧
  (XC D M) ∧
  (0 ≤ D 0 37) ∧
  (PairC D M) ∧
  (LivC D M) ∧
  (PlanC D M)
theorem RelP_i {D : AM} {M : AM} (h : RelP D  M ) : Inv D := h.1
theorem RelP_b {D : AM} {M : AM} (h : RelP D  M ) : B1 D M := h.2.1
theorem RelP_s {D : AM} {M : AM} (h : RelP D  M ) : StoC D M := h.2.2.1
theorem RelP_v {D : AM} {M : AM} (h : RelP D  M ) : InvV D := h.2.2.2.1
theorem RelP_x {D : AM} {M : AM} (h : RelP D  M ) : XC D M := h.2.2.2.2.1
theorem RelP_p {D : AM} {M : AM} (h : RelP D  M ) : 0 ≤ D 0 37 := h.2.2.2.2.2.1
theorem RelP_m {D : AM} {M : AM} (h : RelP D  M ) : PairC D M := h.2.2.2.2.2.2.1
theorem RelP_l {D : AM} {M : AM} (h : RelP D  M ) : LivC D M := h.2.2.2.2.2.2.2.1
theorem RelP_n {D : AM} {M : AM} (h : RelP D  M ) : PlanC D M := h.2.2.2.2.2.2.2.2
-- what a match hangs on
theorem match_cg {D D' : AM} (h47 : D' 47 = D 47) (h48 : D' 48 = D 48) (h49 : D' 49 = D 49) (h50 : D' 50 = D 50) (l : Int) : osN D' l = osN D l ∧ cst D' l = cst D l ∧ parN D' l = parN D l := by
  have ea : aloI D' = aloI D := by funext k; unfold aloI; rw [h49]
  have ep : prcI D' = prcI D := by funext f g; unfold prcI; rw [h48, h49, h50]
  have eo : osN D' l = osN D l := by unfold osN; rw [h47]
  have en : nsN D' l = nsN D l := by unfold nsN; rw [h47]
  have ec : ∀ m, cstN D' l m = cstN D l m := by
    intro m
    induction m with
    | zero => funext u; unfold cstN; rw [ea, en]
    | succ m ih => funext u; unfold cstN; rw [ea, ep, eo, en, ih]
  have ecs : cst D' l = cst D l := by funext i u; unfold cst; rw [eo, ec]
  have ef : ∀ i u, fpN D' l i u = fpN D l i u := fun i u => by
    have : fpB D' l i u = fpB D l i u := by funext j; unfold fpB; rw [ep, ecs]
    unfold fpN
    rw [this, en]
  have eu : ∀ i, usdN D' l i = usdN D l i := by
    intro i
    induction i with
    | zero => rfl
    | succ i ih => unfold usdN; rw [ih, ef]
  exact ⟨eo, ecs, by funext i; unfold parN; rw [eu, ef]⟩
theorem PairC_u {D D' M M' : AM} {cs cs' : List Nat} {fs fs' : List (Nat × Int)} (h : PairC D M) (g : fr (wr cs fs) D D') (g' : fr (wr cs' fs') M M') (h3 : D 0 3 ≤ D' 0 3) (e : sepL [47, 48, 49, 50] [] cs fs = true) (e' : sepL [170, 180] [(93, 6)] cs' fs' = true) : PairC D' M' := by
  have m6 : M' 93 6 = M 93 6 := fr_f g' e' rfl
  have m170 : M' 170 = M 170 := fr_c g' e' rfl
  have m180 : M' 180 = M 180 := fr_c g' e' rfl
  rcases h with h | h
  · exact Or.inl (by rw [m6]; exact h)
  · refine Or.inr ?_
    rw [m6]
    obtain ⟨a1, a2, a3, a4⟩ := h
    obtain ⟨c1, c2, c3⟩ := match_cg (D := D) (D' := D') (fr_c g e rfl) (fr_c g e rfl) (fr_c g e rfl) (fr_c g e rfl) (M 93 6)
    exact ⟨a1, by omega, by rw [m170, c2]; exact a3, fun i hi => by rw [m180, c3]; rw [c1] at hi; exact a4 i hi⟩
-- what lives hang on
theorem live_cg {D D' : AM} (h52 : D' 52 = D 52) (h53 : D' 53 = D 53) (h54 : D' 54 = D 54) (h55 : D' 55 = D 55) (h56 : D' 56 = D 56) (h78 : D' 0 78 = D 0 78) : nPc D' = nPc D ∧ ePc D' = ePc D := by
  refine ⟨by unfold nPc; rw [h78], ?_⟩
  funext a b
  have e : mayF D' a b ↔ mayF D a b := by unfold mayF; rw [h52, h53, h54, h55, h56]
  have e2 : mayB D' a b = true ↔ mayB D a b = true := mayB_t.trans (e.trans mayB_t.symm)
  show mayB D' a b = mayB D a b
  cases q : mayB D a b with
  | true => exact e2.mpr q
  | false =>
    cases q2 : mayB D' a b with
    | true => rw [e2.mp q2] at q; cases q
    | false => rfl
theorem LivC_u {D D' M M' : AM} {cs cs' : List Nat} {fs fs' : List (Nat × Int)} (h : LivC D M) (g : fr (wr cs fs) D D') (g' : fr (wr cs' fs') M M') (e : sepL [52, 53, 54, 55, 56] [(0, 78)] cs fs = true) (e' : sepL [187] [(181, 6), (181, 8)] cs' fs' = true) : LivC D' M' := by
  have m6 : M' 181 6 = M 181 6 := fr_f g' e' rfl
  have m8 : M' 181 8 = M 181 8 := fr_f g' e' rfl
  have m187 : M' 187 = M 187 := fr_c g' e' rfl
  have h78 : D' 0 78 = D 0 78 := fr_f g e rfl
  obtain ⟨c1, c2⟩ := live_cg (D := D) (D' := D') (fr_c g e rfl) (fr_c g e rfl) (fr_c g e rfl) (fr_c g e rfl) (fr_c g e rfl) h78
  unfold LivC LivV at h ⊢
  rw [m6, m8, m187, c1, c2, h78]
  exact h
-- what a plan hangs on
theorem snP_all {u n k : Nat} (hu : u < 2 ^ n) : snP u k = -1 ∨ (0 ≤ snP u k ∧ snP u k < n) := by
  rcases frsF_rg (P := fun l => u.testBit l && decide (cntB (fun i => u.testBit i) l = k)) 12 with e | ⟨j, hj, e, q⟩
  · exact Or.inl e
  · rw [Bool.and_eq_true] at q
    have := bit_lt hu q.1
    have e : snP u k = j := e
    omega
theorem plan_cg {D D' : AM} {u n : Nat} (hu : u < 2 ^ n) (h2 : ∀ i : Int, i < n → D' 2 i = D 2 i) (h3 : ∀ i : Int, i < n → D' 3 i = D 3 i) : rdD D' u = rdD D u := by
  have hs : ∀ k, snP u k < n := fun k => by
    rcases snP_all (k := k) hu with q | q
    · omega
    · exact q.2
  have ef : frmD D' u = frmD D u := by funext k; unfold frmD; rw [h2 _ (hs k), h3 _ (hs k)]
  have ew : btwD D' u = btwD D u := by funext j k; unfold btwD mlsD; rw [h2 _ (hs j), h3 _ (hs j), h2 _ (hs k), h3 _ (hs k)]
  unfold rdD
  rw [ef, ew]
theorem PlanC_u {D D' M M' : AM} {cs' : List Nat} {fs' : List (Nat × Int)} (hI : Inv D) (h : PlanC D M) (h2 : ∀ i, i < D 0 3 → D' 2 i = D 2 i) (h3 : ∀ i, i < D 0 3 → D' 3 i = D 3 i) (hn : D 0 3 ≤ D' 0 3) (g' : fr (wr cs' fs') M M') (e' : sepL [191, 201, 203] [(190, 2), (190, 7), (190, 8), (190, 9), (190, 10)] cs' fs' = true) : PlanC D' M' := by
  have m2 : M' 190 2 = M 190 2 := fr_f g' e' rfl
  have m7 : M' 190 7 = M 190 7 := fr_f g' e' rfl
  have m8 : M' 190 8 = M 190 8 := fr_f g' e' rfl
  have m9 : M' 190 9 = M 190 9 := fr_f g' e' rfl
  have m10 : M' 190 10 = M 190 10 := fr_f g' e' rfl
  have m191 : M' 191 = M 191 := fr_c g' e' rfl
  have m201 : M' 201 = M 201 := fr_c g' e' rfl
  have m203 : M' 203 = M 203 := fr_c g' e' rfl
  have hnl := Inv_nl hI
  rcases h with h | ⟨u, q1, q2, q3, q4, q5, q6, q7⟩
  · exact Or.inl (by rw [m7]; exact h)
  · have er : rdD D' u = rdD D u := plan_cg q2 (fun i hi => h2 i (by omega)) (fun i hi => h3 i (by omega))
    have hp : 2 ^ (D 0 3).toNat ≤ 2 ^ (D' 0 3).toNat := Nat.pow_le_pow_right (by decide) (by omega)
    refine Or.inr ⟨u, by rw [m7]; exact q1, Nat.lt_of_lt_of_le q2 hp, q3, q4, ?_, ?_, ?_⟩
    · unfold PlN at q5 ⊢; rw [m2, m191]; exact q5
    · unfold PlR at q6 ⊢; rw [m201, er]; exact q6
    · rw [m8]
      rcases q7 with q7 | ⟨a, b, c⟩
      · exact Or.inl q7
      · refine Or.inr ⟨a, b, ?_⟩
        unfold PlV at c ⊢
        rw [m9, m10, m203, er]
        exact c
-- the rest
theorem InvV_u {D D' : AM} {cs : List Nat} {fs : List (Nat × Int)} (h : InvV D) (g : fr (wr cs fs) D D') (e : sepL [5, 11] [(0, 7)] cs fs = true) : InvV D' := by
  have d5 : D' 5 = D 5 := fr_c g e rfl
  have d11 : D' 11 = D 11 := fr_c g e rfl
  have d7 : D' 0 7 = D 0 7 := fr_f g e rfl
  unfold InvV at h ⊢
  rw [d5, d11, d7]
  exact h
theorem XC_u {D D' M M' : AM} {cs cs' : List Nat} {fs fs' : List (Nat × Int)} (h : XC D M) (g : fr (wr cs fs) D D') (g' : fr (wr cs' fs') M M') (e : sepL [15] [(0, 18)] cs fs = true) (e' : sepL [28, 31] [] cs' fs' = true) : XC D' M' := by
  have d15 : D' 15 = D 15 := fr_c g e rfl
  have d18 : D' 0 18 = D 0 18 := fr_f g e rfl
  have m28 : M' 28 = M 28 := fr_c g' e' rfl
  have m31 : M' 31 = M 31 := fr_c g' e' rfl
  unfold XC at h ⊢
  rw [d15, d18, m28, m31]
  exact h
theorem eqS_u {D D' : AM} {cs : List Nat} {fs : List (Nat × Int)} (g : fr (wr cs fs) D D') (h2 : ∀ i, i < D 0 3 → D' 2 i = D 2 i) (h3 : ∀ i, i < D 0 3 → D' 3 i = D 3 i) (h4 : ∀ i, i < D 0 3 → D' 4 i = D 4 i) (e : sepL [5, 6, 7, 8, 9, 10, 11, 14, 15, 16, 17, 18, 19, 20, 21, 22] [(0, 7), (0, 18)] cs fs = true) : eqS D D' := by
  have d15 : D' 15 = D 15 := fr_c g e rfl
  have d16 : D' 16 = D 16 := fr_c g e rfl
  have d17 : D' 17 = D 17 := fr_c g e rfl
  have d18 : D' 18 = D 18 := fr_c g e rfl
  have d19 : D' 19 = D 19 := fr_c g e rfl
  have d20 : D' 20 = D 20 := fr_c g e rfl
  have d21 : D' 21 = D 21 := fr_c g e rfl
  have d22 : D' 22 = D 22 := fr_c g e rfl
  exact ⟨fr_f g e rfl, fr_f g e rfl, fun i _ hi => h2 i hi, fun i _ hi => h3 i hi, fun i _ hi => h4 i hi, fr_c g e rfl, fr_c g e rfl, fr_c g e rfl, fr_c g e rfl, fr_c g e rfl, fr_c g e rfl, fr_c g e rfl, fr_c g e rfl, fun i _ _ => by rw [d15], fun i _ => by rw [d16, d17, d18, d19, d20, d21]; exact ⟨rfl, rfl, rfl, rfl, rfl, rfl⟩, fun i _ => by rw [d22]⟩
/-- what the second system wrote stands apart from all that lasts -/
def sepDD (cs : List Nat) (fs : List (Nat × Int)) : Bool := sepL [1, 2, 3, 4] [(0, 1), (0, 3)] cs fs && (sepL [5, 6, 7, 8, 9, 10, 11] [(0, 7)] cs fs && (sepL [5, 7, 8, 9, 10, 11] [(0, 0), (0, 1), (0, 3), (0, 7)] cs fs && (sepL [14, 15, 16, 17, 18, 19, 20, 21, 22] [(0, 18)] cs fs && (sepL [23] [(0, 29), (0, 32)] cs fs && (sepL [44, 45, 46] [(0, 69)] cs fs && (sepL [47, 48, 49, 50] [] cs fs && (sepL [52, 53, 54, 55, 56] [(0, 78)] cs fs && (sepL [5, 11] [(0, 7)] cs fs && (sepL [15] [(0, 18)] cs fs && (sepL [5, 6, 7, 8, 9, 10, 11, 14, 15, 16, 17, 18, 19, 20, 21, 22] [(0, 7), (0, 18)] cs fs && sepL [] [(0, 37)] cs fs))))))))))
theorem Rel_d {D D' M : AM} {cs : List Nat} {fs : List (Nat × Int)} (h : RelP D M) (g : fr (wr cs fs) D D') (e : sepDD cs fs = true) : RelP D' M := by
  unfold sepDD at e
  simp only [Bool.and_eq_true] at e
  obtain ⟨e1, e2, e3, e4, e5, e6, e7, e8, e9, e10, e11, e12⟩ := e
  have f : fr (wr [] []) M M := fr_rf
  have hI := RelP_i h
  have hB := RelP_b h
  have d2 : D' 2 = D 2 := fr_c g e1 rfl
  have d3 : D' 3 = D 3 := fr_c g e1 rfl
  have d4 : D' 4 = D 4 := fr_c g e1 rfl
  have dn : D' 0 3 = D 0 3 := fr_f g e1 rfl
  have d0 : D' 0 0 = D 0 0 := fr_f g e3 rfl
  have d37 : D' 0 37 = D 0 37 := fr_f g e12 rfl
  refine ⟨⟨by rw [d0]; exact Inv_now hI, InvG_fw (Inv_G hI) g e1, InvP_fw (Inv_P hI) g e2, InvL_fw (Inv_L hI) g e3, InvC_fw (Inv_C hI) g e4, InvR_fw (Inv_R hI) g e5, InvS_fw (Inv_S hI) g e6, InvF_fw (Inv_F hI) g e7, InvE_fw (Inv_E hI) g e8⟩, ⟨by rw [d0]; exact B1_now hB, G1_fw (B1_G hB) g f (by rw [e1]; rfl), P1_fw (B1_P hB) g f (by rw [e2]; rfl), C1_fw (B1_C hB) g f (by rw [e4]; rfl), R1_fw (B1_R hB) g f (by rw [e5]; rfl), S1_fw (B1_S hB) g f (by rw [e6]; rfl), F1_fw (B1_F hB) g f (by rw [e7]; rfl), E1_fw (B1_E hB) g f (by rw [e8]; rfl)⟩, StoC_cg hI (eqS_u g (fun i _ => by rw [d2]) (fun i _ => by rw [d3]) (fun i _ => by rw [d4]) e11) (RelP_s h) f rfl, InvV_u (RelP_v h) g e9, XC_u (RelP_x h) g f e10 rfl, by rw [d37]; exact RelP_p h, PairC_u (RelP_m h) g f (by omega) e7 rfl, LivC_u (RelP_l h) g f e8 rfl, PlanC_u hI (RelP_n h) (fun i _ => by rw [d2]) (fun i _ => by rw [d3]) (by omega) f rfl⟩
/-- what the first system wrote, when it was only asked -/
def sepMM (cs : List Nat) (fs : List (Nat × Int)) : Bool := sepL [28, 31] [] cs fs && (sepL [170, 180] [(93, 6)] cs fs && (sepL [187] [(181, 6), (181, 8)] cs fs && sepL [191, 201, 203] [(190, 2), (190, 7), (190, 8), (190, 9), (190, 10)] cs fs))
theorem Rel_m {D M M' : AM} {cs : List Nat} {fs : List (Nat × Int)} (h : RelP D M) (g : fr (wr cs fs) M M') (hB : B1 D M') (hS : StoC D M') (e : sepMM cs fs = true) : RelP D M' := by
  unfold sepMM at e
  simp only [Bool.and_eq_true] at e
  obtain ⟨e1, e2, e3, e4⟩ := e
  have f : fr (wr [] []) D D := fr_rf
  exact ⟨RelP_i h, hB, hS, RelP_v h, XC_u (RelP_x h) f g rfl e1, RelP_p h, PairC_u (RelP_m h) f g (Int.le_refl _) rfl e2, LivC_u (RelP_l h) f g rfl e3, PlanC_u (RelP_i h) (RelP_n h) (fun _ _ => rfl) (fun _ _ => rfl) (Int.le_refl _) g e4⟩
/-- a call that tells something: what lasts stays -/
def sepUU (cs : List Nat) (fs : List (Nat × Int)) (cs' : List Nat) (fs' : List (Nat × Int)) : Bool := sepL [5, 6, 7, 8, 9, 10, 11, 14, 15, 16, 17, 18, 19, 20, 21, 22] [(0, 7), (0, 18)] cs fs && (sepL [38, 39, 52, 53, 54, 57, 58, 59, 60, 61, 63, 64, 65, 66, 67, 68] [(56, 5), (62, 6), (37, 11), (37, 12)] cs' fs' && (sepL [5, 11] [(0, 7)] cs fs && (sepL [15] [(0, 18)] cs fs && (sepL [] [(0, 37)] cs fs && (sepL [47, 48, 49, 50] [] cs fs && (sepL [52, 53, 54, 55, 56] [(0, 78)] cs fs && sepMM cs' fs'))))))
theorem Rel_u {D D' M M' : AM} {cs cs' : List Nat} {fs fs' : List (Nat × Int)} (h : RelP D M) (hI : Inv D') (hB : B1 D' M') (g : fr (wr cs fs) D D') (g' : fr (wr cs' fs') M M') (h2 : ∀ i, i < D 0 3 → D' 2 i = D 2 i) (h3 : ∀ i, i < D 0 3 → D' 3 i = D 3 i) (h4 : ∀ i, i < D 0 3 → D' 4 i = D 4 i) (hn : D 0 3 ≤ D' 0 3) (e : sepUU cs fs cs' fs' = true) : RelP D' M' := by
  unfold sepUU sepMM at e
  simp only [Bool.and_eq_true] at e
  obtain ⟨e1, e2, e3, e4, e5, e6, e7, e8, e9, e10, e11⟩ := e
  have d37 : D' 0 37 = D 0 37 := fr_f g e5 rfl
  exact ⟨hI, hB, StoC_cg (RelP_i h) (eqS_u g h2 h3 h4 e1) (RelP_s h) g' e2, InvV_u (RelP_v h) g e3, XC_u (RelP_x h) g g' e4 e8, by rw [d37]; exact RelP_p h, PairC_u (RelP_m h) g g' hn e6 e9, LivC_u (RelP_l h) g g' e7 e10, PlanC_u (RelP_i h) (RelP_n h) h2 h3 hn g' e11⟩
