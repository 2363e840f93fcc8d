/-! CANON: both systems still at one -/
/-- codes of a canon stay within its room -/
def XC (D M : AM) : Prop := ∀ j, 0 ≤ j → j < D 0 18 → ∀ c, 0 ≤ c → c < D 15 j → M 28 (12 * j + c) = 1 → M 31 (12 * j + c) ≤ 200 * j + 200
-- where a fault is, is in the text
theorem tl_le (l : List Int) : l.tail.length ≤ l.length := by rw [List.length_tail]; omega
theorem cmp_q {s : List Int} : (cmpT s).2.1.length ≤ s.length := by
  have a1 := sk_len s
  have a2 := we_len (sk s)
  have a3 := sk_len (we (sk s))
  have a4 := tl_le (sk (we (sk s)))
  have a5 := sk_len (sk (we (sk s))).tail
  unfold cmpT
  split
  · exact a1
  · split
    · show (sk (we (sk s))).length ≤ _; omega
    · show (sk (sk (we (sk s))).tail).length ≤ _; omega
theorem aft_q {rec : Bool → Bool → List Int → List Int → List Int → TR} {ja jo : Bool} {k : Nat} {s cs rs : List Int} (hr : ∀ ja jo s cs rs, (rec ja jo s cs rs).q.length ≤ s.length) : (aftT rec ja jo k s cs rs).q.length ≤ s.length := by
  have a1 := sk_len s
  have a2 := we_len (sk s)
  unfold aftT
  split
  · exact Nat.le_trans (hr _ _ _ _ _) (by omega)
  · split
    · exact Nat.le_trans (hr _ _ _ _ _) (by omega)
    · exact Nat.zero_le _
theorem rT_q : ∀ (f o : Nat) (ja jo : Bool) (k : Nat) (s cs rs : List Int), (rT f o ja jo k s cs rs).q.length ≤ s.length
  | 0, _, _, _, _, _, _, _ => Nat.zero_le _
  | f + 1, o, ja, jo, k, s, cs, rs => by
    have a1 := sk_len s
    have a2 := we_len (sk s)
    rw [rT]
    split
    · exact Nat.le_trans (rT_q f _ _ _ _ _ _ _) (by omega)
    · split
      next e2 =>
        have hl := congrArg List.length (tSg_t e2)
        simp only [List.length_cons] at hl
        split
        · exact a1
        · split
          · exact Nat.le_trans (rT_q f _ _ _ _ _ _ _) (by omega)
          next e4 =>
            have e4' := Decidable.not_not.mp e4
            have i1 := rT_len f (o + 1) false false 0 (tSg 40 s).2 cs rs e4'
            unfold rLen at i1
            have i2 := sk_len (rT f (o + 1) false false 0 (tSg 40 s).2 cs rs).s
            split
            next e5 =>
              have hl2 := congrArg List.length (tSg_t e5)
              simp only [List.length_cons] at hl2
              exact Nat.le_trans (aft_q (fun _ _ _ _ _ => rT_q f _ _ _ _ _ _ _)) (by omega)
            · show (sk _).length ≤ _
              omega
      · split
        · exact cmp_q
        next e3 =>
          have c1 := cmp_len (Decidable.not_not.mp e3)
          exact Nat.le_trans (aft_q (fun _ _ _ _ _ => rT_q f _ _ _ _ _ _ _)) (by omega)
theorem endC_q {s : List Int} {c : CL} : (endC s c).q.length ≤ s.length := by
  have := sk_len s
  unfold endC
  split
  · exact Nat.zero_le _
  · exact this
theorem pCl_q {k cn : Int} {s : List Int} : (pCl k cn s).q.length ≤ s.length := by
  have a1 := sk_len s
  have a2 := we_len (sk s)
  have a3 := sk_len (we (sk s))
  have a4 := dge_len (sk (we (sk s)))
  have a5 := dge_len (sk s)
  unfold pCl
  split
  · unfold pLet
    split
    · exact a1
    · split
      · show (sk (we (sk s))).length ≤ _; omega
      · exact Nat.le_trans endC_q (by omega)
  · split
    · unfold pBar
      split
      · exact rT_q 201 _ _ _ _ _ _ _
      next h1 =>
        have l1 := rT_len 201 0 false false 0 s [] [] (Decidable.not_not.mp h1)
        unfold rLen at l1
        unfold tst0
        have b1 := sk_len (rT 201 0 false false 0 s [] []).s
        have b2 := we_len (sk (rT 201 0 false false 0 s [] []).s)
        split
        · split
          · exact Nat.le_trans (rT_q 201 _ _ _ _ _ _ _) (by omega)
          next h3 =>
            have l2 := rT_len 201 0 false false 0 _ [] [] (Decidable.not_not.mp h3)
            unfold rLen at l2
            exact Nat.le_trans endC_q (by omega)
        · exact Nat.le_trans endC_q (by omega)
    · unfold pStr
      split
      · exact a1
      · split
        · exact a1
        · exact Nat.le_trans endC_q (by omega)
theorem pAll_q (cn : Int) : ∀ (m : Nat) (s : List Int) (acc : List CL), (pAll cn m s acc).2.1.length ≤ s.length
  | 0, _, _ => Nat.zero_le _
  | m + 1, s, acc => by
    have a1 := sk_len s
    have a2 := we_len (sk s)
    have b1 := clZ_rg (wd (sk s))
    unfold pAll
    split
    · exact Nat.zero_le _
    · split
      · exact a1
      next hk =>
        split
        · exact a1
        · split
          · exact Nat.le_trans pCl_q (by omega)
          next h =>
            have := pCl_ok (k := clZ (wd (sk s))) (cn := cn) (s := we (sk s)) (by omega) (Decidable.not_not.mp h)
            exact Nat.le_trans (pAll_q cn m _ _) (by omega)
theorem arr_seg {f : Int → Int} {a : Int} {n : Nat} {l : List Int} (hn : n = l.length) (h : ∀ (i : Nat) (hi : i < l.length), f (a + i) = l[i]) : arr f a n = l := by
  subst hn
  refine List.ext_getElem (by rw [arr_len]) (fun i h1 h2 => ?_)
  rw [arr_get]
  exact h i h2
theorem eqC_ne {cs rs : List Int} (h : eqC 1 cs rs) : 0 < cs.length ∧ 0 < rs.length := by
  obtain ⟨⟨m, _, h1⟩, ⟨m', _, h2⟩, _⟩ := h
  constructor
  · cases cs with
    | nil => cases h1
    | cons a l => simp
  · cases rs with
    | nil => cases h2
    | cons a l => simp
theorem cl1_cg {D D' : AM} {j c : Int} {k sj md en : Int} {code code' : Int → Int} (h : cl1 D j c k sj md en code) (d16 : D' 16 c = D 16 c) (d17 : D' 17 c = D 17 c) (d18 : D' 18 c = D 18 c) (d19 : D' 19 c = D 19 c) (d20 : D' 20 c = D 20 c) (d21 : D' 21 c = D 21 c) (hok : clOk D j c) (hj : 0 ≤ j) (d22 : ∀ i, i < 140 * j + 140 → D' 22 i = D 22 i) (hc : k = 1 → ∀ i, i < en → code' i = code i) : cl1 D' j c k sj md en code' := by
  unfold cl1 at h ⊢
  rw [d16, d17, d18, d19, d20, d21]
  obtain ⟨h1, h2, h3, h4⟩ := h
  refine ⟨h1, h2, h3, fun g => ?_⟩
  have hc := hc g
  have hok1 : (0 ≤ D 19 c ∧ D 19 c < D 20 c ∧ D 20 c ≤ D 21 c ∧ D 21 c ≤ 140) := by
    rcases hok with ⟨q, _⟩ | ⟨q, _⟩ | ⟨_, q, _⟩
    · omega
    · omega
    · exact q
  obtain ⟨p, ⟨l, l1, l2, l3⟩, q, r⟩ := h4 g
  refine ⟨p, ⟨l, ⟨l1.1, l1.2.1, fun i hi => ?_⟩, l2, fun g' => ?_⟩, q, fun w => ?_⟩
  · rw [hc _ (by have := l1.2.1; omega)]; exact l1.2.2 i hi
  · rw [l3 g']
    congr 1
    exact arr_cg (fun i hi => (d22 _ (by omega)).symm)
  · obtain ⟨l', m1, m2, m3⟩ := r w
    refine ⟨l', ⟨m1.1, m1.2.1, fun i hi => ?_⟩, m2, fun g' => ?_⟩
    · rw [hc _ (by have := m1.2.1; omega)]; exact m1.2.2 i hi
    · rw [m3 g']
      congr 1
      exact arr_cg (fun i hi => (d22 _ (by omega)).symm)
theorem clOk_cg {D D' : AM} {j c : Int} (h : clOk D j c) (d16 : D' 16 c = D 16 c) (d17 : D' 17 c = D 17 c) (d18 : D' 18 c = D 18 c) (d19 : D' 19 c = D 19 c) (d20 : D' 20 c = D 20 c) (d21 : D' 21 c = D 21 c) (d22 : ∀ i, i < 140 * j + 140 → D' 22 i = D 22 i) : clOk D' j c := by
  unfold clOk at h ⊢
  rw [d16, d17, d18, d19, d20, d21]
  rcases h with h | h | ⟨h1, h2, h3, h4⟩
  · exact Or.inl h
  · exact Or.inr (Or.inl h)
  · refine Or.inr (Or.inr ⟨h1, h2, ?_, fun g => ?_⟩)
    · rw [arr_cg (f := D' 22) (g := D 22) (fun i hi => d22 _ (by omega))]; exact h3
    · rw [arr_cg (f := D' 22) (g := D 22) (fun i hi => d22 _ (by omega))]; exact h4 g
theorem canon_rel {D D' M M' : AM} {day : Int} (hI : Inv D) (hB : B1 D M) (hX : XC D M) (hS : StoC D M) (k1 : K1c D day M M') (k2 : K2c D day D') (h37 : 0 ≤ D 0 37) : Inv D' ∧ B1 D' M' ∧ XC D' M' ∧ StoC D' M' ∧ 0 ≤ D' 0 37 := by
  have hcn := Inv_cn hI
  rcases k1 with ⟨n1, rfl⟩ | ⟨⟨ht, hn⟩, gM, r2, r3, ⟨o32, orow, o25⟩, c1⟩
  · rcases k2 with ⟨n2, rfl⟩ | ⟨n2, _⟩
    · exact ⟨hI, hB, hX, hS, h37⟩
    · exact absurd n2 n1
  rcases k2 with ⟨n2, _⟩ | ⟨_, gD, r37, s2, s3, ⟨o22, orD⟩, c2⟩
  · exact absurd ⟨ht, hn⟩ n2
  have hcl := Inv_cl hI
  have hcc := Inv_cc hI
  have hca := B1_ca hB
  have hrn := Inv_rn hI
  have htl : (txt D).length = (D 0 29).toNat := by unfold txt; exact arr_len
  have hql : (canR D).2.1.length ≤ (txt D).length := pAll_q _ _ _ _
  have hR : InvR D' := by
    refine ⟨by rw [s2]; omega, fun i => by rw [gD 23 i rfl]; exact Inv_rb hI i, ?_⟩
    rw [s3]
    split <;> omega
  have hR1 : R1 D' M' := by
    refine ⟨by rw [r2, s2], ?_, by rw [r3, s3]⟩
    rw [show M' 36 = M 36 from funext fun x => gM 36 x rfl, show D' 23 = D 23 from funext fun x => gD 23 x rfl]
    exact B1_rb hB
  -- the canons there were
  have oldOk : ∀ j, 0 ≤ j → j < D 0 18 → ∀ c, 0 ≤ c → c < D 15 j → clOk D' j (12 * j + c) := by
    intro j j0 j1 c c0 c1
    have := (hcl j j0 j1).2
    obtain ⟨w1, w2, w3, w4, w5, w6⟩ := orD (12 * j + c) (by omega)
    exact clOk_cg (hcc j j0 j1 c c0 c1) w1 w2 w3 w4 w5 w6 (fun i hi => o22 i (by omega))
  have oldCl : ∀ j, 0 ≤ j → j < D 0 18 → ∀ c, 0 ≤ c → c < D 15 j → cl1 D' j (12 * j + c) (M' 28 (12 * j + c)) (M' 29 (12 * j + c)) (M' 30 (12 * j + c)) (M' 31 (12 * j + c)) (M' 32) := by
    intro j j0 j1 c c0 c1
    have := (hcl j j0 j1).2
    obtain ⟨w1, w2, w3, w4, w5, w6⟩ := orD (12 * j + c) (by omega)
    obtain ⟨v1, v2, v3, v4⟩ := orow (12 * j + c) (by omega)
    rw [v1, v2, v3, v4]
    refine cl1_cg ((hca j j0 j1).2 c c0 c1) w1 w2 w3 w4 w5 w6 (hcc j j0 j1 c c0 c1) j0 (fun i hi => o22 i (by omega)) (fun g i hi => o32 i ?_)
    have := hX j j0 j1 c c0 c1 g
    omega
  have oldX : ∀ j, 0 ≤ j → j < D 0 18 → ∀ c, 0 ≤ c → c < D 15 j → M' 28 (12 * j + c) = 1 → M' 31 (12 * j + c) ≤ 200 * j + 200 := by
    intro j j0 j1 c c0 c1
    have := (hcl j j0 j1).2
    obtain ⟨v1, v2, v3, v4⟩ := orow (12 * j + c) (by omega)
    rw [v1, v4]
    exact hX j j0 j1 c c0 c1
  have fin : InvC D' → C1 D' M' → Inv D' ∧ B1 D' M' := fun hiC hc1 => by
    refine ⟨⟨by rw [gD 0 0 rfl]; exact Inv_now hI, InvG_fw (Inv_G hI) gD rfl, InvP_fw (Inv_P hI) gD rfl, InvL_fw (Inv_L hI) gD rfl, hiC, hR, InvS_fw (Inv_S hI) gD rfl, InvF_fw (Inv_F hI) gD rfl, InvE_fw (Inv_E hI) gD rfl⟩, ⟨by rw [gD 0 0 rfl, gM 0 10 rfl]; exact B1_now hB, G1_fw (B1_G hB) gD gM rfl, P1_fw (B1_P hB) gD gM rfl, hc1, hR1, S1_fw (B1_S hB) gD gM rfl, F1_fw (B1_F hB) gD gM rfl, E1_fw (B1_E hB) gD gM rfl⟩⟩
  rcases c1 with ⟨e0, m24, m10, m11, m26, m27⟩ | ⟨e0, m24, m10, m11, m26, m27, C, hCl, mn, mcode, mrow, mg⟩
  · -- a fault
    rcases c2 with ⟨_, d18, d14, d15⟩ | ⟨e1, _⟩
    · have E : eqS D D' := ⟨gD 0 7 rfl, d18, fun x _ _ => gD 2 x rfl, fun x _ _ => gD 3 x rfl, fun x _ _ => gD 4 x rfl, funext fun x => gD 5 x rfl, funext fun x => gD 6 x rfl, funext fun x => gD 7 x rfl, funext fun x => gD 8 x rfl, funext fun x => gD 9 x rfl, funext fun x => gD 10 x rfl, funext fun x => gD 11 x rfl, d14, fun i _ _ => by rw [d15], orD, o22⟩
      have h2 := fin ⟨by rw [d18]; exact hcn, fun i => by rw [d14]; exact Inv_cf hI i, fun j j0 j1 => by rw [d15]; exact hcl j j0 (by omega), fun j j0 j1 c c0 c1 => oldOk j j0 (by omega) c c0 (by rw [d15] at c1; exact c1)⟩ ⟨by rw [m24, d18]; exact B1_cn hB, by rw [m26, d14]; exact B1_cf hB, by rw [m27, d14, d18]; exact B1_cb hB, fun j j0 j1 => ⟨by rw [d15, o25 j (by omega)]; exact (hca j j0 (by omega)).1, fun c c0 c1 => oldCl j j0 (by omega) c c0 (by rw [d15] at c1; exact c1)⟩, ?_⟩
      · refine ⟨h2.1, h2.2, fun j j0 j1 c c0 c1 => oldX j j0 (by omega) c c0 (by rw [d15] at c1; exact c1), ?_, r37⟩
        have gM2 : fr (wr [25, 26, 27, 28, 29, 30, 31, 32] [(24, 0), (24, 9), (24, 10), (35, 2), (35, 3), (35, 4), (35, 5)]) M M' := by
          intro k i q
          by_cases e : k = 37 ∧ i = 11
          · rw [e.1, e.2]; exact m11
          · refine gM k i ?_
            unfold wmC
            unfold wr at q ⊢
            rw [Bool.or_eq_false_iff] at q ⊢
            refine ⟨q.1, ?_⟩
            have q2 := q.2
            simp only [List.any_cons, List.any_nil, Bool.or_false, Bool.or_eq_false_iff] at q2 ⊢
            refine ⟨q2.1, q2.2.1, q2.2.2.1, q2.2.2.2.1, q2.2.2.2.2.1, q2.2.2.2.2.2.1, q2.2.2.2.2.2.2, ?_⟩
            simp
            intro h1 h2
            exact e ⟨h1, h2⟩
        exact StoC_cg hI E hS gM2 rfl
      · rw [SetC_cg hI E, m10, gM 24 11 rfl, show M' 33 = M 33 from funext fun x => gM 33 x rfl, show M' 34 = M 34 from funext fun x => gM 34 x rfl]
        exact B1_se hB
    · exact absurd e1 e0
  · -- a canon more
    rcases c2 with ⟨e1, _⟩ | ⟨_, d18, d14, d15, C2, hC2l, dcode, drow⟩
    · exact absurd e0 e1
    have hlen := pAll_len (D 0 18) 13 (txt D) [] (Nat.zero_le _)
    have hle : ((canR D).2.2.length : Int) ≤ 12 := by
      have : (canR D).2.2.length = (pAll (D 0 18) 13 (txt D) []).2.2.length := rfl
      omega
    have e15o : ∀ j, j ≠ D 0 18 → D' 15 j = D 15 j := fun j hj => by rw [d15, up1_n hj]
    have e15n : D' 15 (D 0 18) = (canR D).2.2.length := by rw [d15, up1_s]
    -- the new clauses
    have key : ∀ c, 0 ≤ c → c < ((canR D).2.2.length : Int) → clOk D' (D 0 18) (12 * D 0 18 + c) ∧ cl1 D' (D 0 18) (12 * D 0 18 + c) (M' 28 (12 * D 0 18 + c)) (M' 29 (12 * D 0 18 + c)) (M' 30 (12 * D 0 18 + c)) (M' 31 (12 * D 0 18 + c)) (M' 32) ∧ (M' 28 (12 * D 0 18 + c) = 1 → M' 31 (12 * D 0 18 + c) ≤ 200 * D 0 18 + 200) := by
      intro c c0 c1
      obtain ⟨i, rfl⟩ : ∃ i : Nat, c = i := ⟨c.toNat, by omega⟩
      have hi : i < (canR D).2.2.length := by omega
      have hp := mrow i hi
      have hq := drow i hi
      have hg := mg _ (List.getElem_mem hi)
      generalize (canR D).2.2[i] = x at hp hq hg
      obtain ⟨p1, p2, p3, p4⟩ := hp
      obtain ⟨q1, q2, q3, q4⟩ := hq
      rcases hg with ⟨g1, g2, g3, _⟩ | ⟨g1, g2, _⟩ | ⟨g1, g2, g3⟩
      · refine ⟨Or.inl ⟨by rw [q1]; exact g1, by rw [(q2 g1).1]; exact g2, by rw [(q2 g1).2]; exact g3⟩, ⟨by rw [p1, q1], fun _ => by rw [(p2 g1).1, (p2 g1).2, (q2 g1).1, (q2 g1).2]; exact ⟨rfl, rfl⟩, fun w => by rw [p1] at w; omega, fun w => by rw [p1] at w; omega⟩, fun w => by rw [p1] at w; omega⟩
      · refine ⟨Or.inr (Or.inl ⟨by rw [q1]; exact g1, by rw [q3 g1]; exact g2⟩), ⟨by rw [p1, q1], fun w => by rw [p1] at w; omega, fun _ => by rw [p3 g1, q3 g1], fun w => by rw [p1] at w; omega⟩, fun w => by rw [p1] at w; omega⟩
      · obtain ⟨A, B, eC, m29, m30, m31⟩ := p4 g1
        obtain ⟨A', B', eC', n19, n20, n21⟩ := q4 g1
        have l1 := congrArg List.length eC
        have l2 := congrArg List.length eC'
        simp only [List.length_append] at l1 l2
        have ne1 := eqC_ne g2
        obtain ⟨t1, t2, t3⟩ := eqC_tOk g2
        have sc1 : ∀ (k : Nat) (hk : k < x.c1.length), M' 32 (200 * D 0 18 + A.length + k) = x.c1[k] := by
          intro k hk
          have := mcode (A.length + k) (by omega)
          rw [show 200 * D 0 18 + ((A.length + k : Nat) : Int) = 200 * D 0 18 + A.length + k by omega] at this
          rw [this]
          simp only [eC]
          rw [List.getElem_append_left (by simp; omega), List.getElem_append_left (by simp; omega), List.getElem_append_right (by omega)]
          simp
        have sc2 : ∀ (k : Nat) (hk : k < x.c2.length), M' 32 (200 * D 0 18 + A.length + x.c1.length + k) = x.c2[k] := by
          intro k hk
          have := mcode (A.length + x.c1.length + k) (by omega)
          rw [show 200 * D 0 18 + ((A.length + x.c1.length + k : Nat) : Int) = 200 * D 0 18 + A.length + x.c1.length + k by omega] at this
          rw [this]
          simp only [eC]
          rw [List.getElem_append_left (by simp; omega), List.getElem_append_right (by simp)]
          simp
        have sr1 : arr (D' 22) (140 * D 0 18 + A'.length) x.r1.length = x.r1 := by
          refine arr_seg rfl (fun k hk => ?_)
          have := dcode (A'.length + k) (by omega)
          rw [show 140 * D 0 18 + ((A'.length + k : Nat) : Int) = 140 * D 0 18 + A'.length + k by omega] at this
          rw [this]
          simp only [eC']
          rw [List.getElem_append_left (by simp; omega), List.getElem_append_left (by simp; omega), List.getElem_append_right (by omega)]
          simp
        have sr2 : arr (D' 22) (140 * D 0 18 + (A'.length + x.r1.length)) x.r2.length = x.r2 := by
          refine arr_seg rfl (fun k hk => ?_)
          have := dcode (A'.length + x.r1.length + k) (by omega)
          rw [show 140 * D 0 18 + ((A'.length + x.r1.length + k : Nat) : Int) = 140 * D 0 18 + (A'.length + x.r1.length) + k by omega] at this
          rw [this]
          simp only [eC']
          rw [List.getElem_append_left (by simp; omega), List.getElem_append_right (by simp)]
          simp
        have en1 : (D' 20 (12 * D 0 18 + i) - D' 19 (12 * D 0 18 + i)).toNat = x.r1.length := by rw [n20, n19]; omega
        have en2 : (D' 21 (12 * D 0 18 + i) - D' 20 (12 * D 0 18 + i)).toNat = x.r2.length := by rw [n21, n20]; omega
        have two : (x.c2 = [] ∧ x.r2 = []) ∨ (0 < x.c2.length ∧ 0 < x.r2.length ∧ tOk x.c2 ∧ tOk x.r2 ∧ ∀ g, evL g [] x.c2 = evL g [] x.r2) := by
          rcases g3 with g3 | g3
          · exact Or.inl g3
          · obtain ⟨u1, u2, u3⟩ := eqC_tOk g3
            have := eqC_ne g3
            exact Or.inr ⟨this.1, this.2, u1, u2, u3⟩
        refine ⟨Or.inr (Or.inr ⟨by rw [q1]; exact g1, by rw [n19, n20, n21]; omega, ?_, fun w => ?_⟩), ⟨by rw [p1, q1], fun w => by rw [p1] at w; omega, fun w => by rw [p1] at w; omega, fun _ => ⟨by rw [m29, m30, m31]; omega, ⟨x.c1, ⟨by rw [m29]; omega, by rw [m30, m29], fun k hk => by rw [m29]; exact sc1 k hk⟩, t1, fun g => ?_⟩, ?_, fun w => ?_⟩⟩, fun _ => by rw [m31]; omega⟩
        · rw [en1, n19, sr1]; exact t2
        · rw [en2, n20, sr2]
          rw [n20, n21] at w
          rcases two with ⟨_, w2⟩ | w2
          · rw [w2] at w; simp at w
          · exact w2.2.2.2.1
        · rw [en1, n19, sr1]; exact t3 g
        · rw [m30, m31, n20, n21]
          rcases two with ⟨w1, w2⟩ | w2
          · rw [w1, w2]
            simp only [List.length_nil]
            omega
          · omega
        · rw [m30, m31] at w
          rcases two with ⟨w1, w2⟩ | w2
          · rw [w1] at w; simp at w
          · refine ⟨x.c2, ⟨by rw [m30]; omega, by rw [m31, m30], fun k hk => by rw [m30]; exact sc2 k hk⟩, w2.2.2.1, fun g => ?_⟩
            rw [en2, n20, sr2]
            exact w2.2.2.2.2 g
    have h2 := fin ⟨by rw [d18]; omega, fun i => by
        rw [d14]
        unfold up1
        split
        · exact ht
        · exact Inv_cf hI i, fun j j0 j1 => ?_, fun j j0 j1 c c0 c1 => ?_⟩ ⟨by rw [m24, d18], by rw [m26, d14], ?_, fun j j0 j1 => ?_, by rw [m10]; exact Or.inl rfl⟩
    · refine ⟨h2.1, h2.2, fun j j0 j1 c c0 c1 => ?_, Or.inl m11, r37⟩
      by_cases e : j = D 0 18
      · subst e
        rw [e15n] at c1
        exact (key c c0 c1).2.2
      · rw [e15o j e] at c1
        exact oldX j j0 (by omega) c c0 c1
    · by_cases e : j = D 0 18
      · subst e; rw [e15n]; omega
      · rw [e15o j e]; exact hcl j j0 (by omega)
    · by_cases e : j = D 0 18
      · subst e
        rw [e15n] at c1
        exact (key c c0 c1).1
      · rw [e15o j e] at c1
        exact oldOk j j0 (by omega) c c0 c1
    · rw [d18, d14, show (D 0 18 + 1).toNat = (D 0 18).toNat + 1 by omega]
      unfold srt
      rw [srt_cg (d := up1 (D 14) (D 0 18) day) (d' := D 14) (D 0 18).toNat (fun i a b => up1_n (by omega)), show (((D 0 18).toNat : Nat) : Int) = D 0 18 by omega]
      exact m27
    · by_cases e : j = D 0 18
      · subst e
        refine ⟨by rw [mn, e15n], fun c c0 c1 => ?_⟩
        rw [e15n] at c1
        exact (key c c0 c1).2.1
      · refine ⟨by rw [e15o j e, o25 j e]; exact (hca j j0 (by omega)).1, fun c c0 c1 => ?_⟩
        rw [e15o j e] at c1
        exact oldCl j j0 (by omega) c c0 c1
