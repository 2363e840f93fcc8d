/-! LIVES: the class's call -/
theorem lkS_mtch {E : Int → Nat → Bool} {n : Nat} {f a : Int} {T : Nat → Bool} {g g' : Nat → Int} (hf : f ≤ a) (h : mtch E n f a T g) (s : lkS E n T a g g') : mtch E n f (a + 1) T g' := by
  obtain ⟨h1, h2, h3, h4, h5⟩ := s
  have tf : ∀ b, b < n → g' b ≠ -1 → T b = false := fun b hb q => by
    cases e : T b with
    | false => rfl
    | true =>
      have r := h1 b hb e
      rw [r] at q
      have := (h.1 b hb q).2.2.2
      rw [e] at this
      exact this
  refine ⟨fun b hb q => ?_, fun b c hb hc q e => h5 b c hb hc (tf b hb q) (tf c hc (by rw [← e]; exact q)) q e⟩
  have t := tf b hb q
  have rg : f ≤ g' b ∧ g' b < a + 1 := by
    rcases h4 b hb t q with r | ⟨c, hc, tc, ec⟩
    · omega
    · have := h.1 c hc (by rw [ec]; exact q)
      omega
  refine ⟨rg.1, rg.2, ?_, t⟩
  by_cases e : g' b = g b
  · rw [e]; rw [e] at q; exact (h.1 b hb q).2.2.1
  · exact h3 b hb e
theorem s1_Lives_mostLinks {D M : AM} {f w : Int} {T : Nat → Bool} (hI : Inv D) (hn : M 181 5 = (nPc D : Int)) (hC : chcC D M) (hf0 : 0 ≤ f) (hf : f ≤ nPc D) (hw : bset w (nPc D) T) : aCi s1_G 22 25 [aP 181, aI f, aI w] M (fun z M' => fr wLk M M' ∧ ∃ r : Nat, z = r ∧ maxM (ePc D) (nPc D) f (nPc D : Int) T r) := by
  refine ⟨Nat.le_of_ble_eq_true rfl, fun d hd => ?_⟩
  refine s1_Lives_mostLinks_0 (by omega) ?_
  obtain ⟨-, hn16⟩ := nPc_e hI
  have key2 : ∀ (m : Nat) (a : Int) (M1 : AM) (g : Nat → Int), a + m = nPc D → 0 ≤ a → f ≤ a → fr wLk M M1 → (∀ b : Nat, b < nPc D → M1 189 (b : Int) = g b) → curM (ePc D) (nPc D) f a T g → aE s1_G d 25 28 [] [some (aP 181), none, some (aI w), some (aI (szM (nPc D) g : Int)), some (aI a)] [] M1 (fun r M' => ∃ z, r = some (aI z) ∧ fr wLk M M' ∧ ∃ r : Nat, z = r ∧ maxM (ePc D) (nPc D) f (nPc D : Int) T r) := by
    intro m
    induction m with
    | zero =>
      intro a M1 g hm ha0 hfa gf hg hc
      refine s1_Lives_mostLinks_28 (by omega) ?_
      rw [gf 181 5 rfl, hn]
      refine ⟨fun _ => ⟨_, rfl, gf, _, rfl, ?_⟩, fun h => absurd h (by omega)⟩
      rw [← show a = (nPc D : Int) by omega]
      exact curM_max hc
    | succ m ih =>
      intro a M1 g hm ha0 hfa gf hg hc
      refine s1_Lives_mostLinks_28 (by omega) ?_
      have hsz := szM_le (n := nPc D) (g := g)
      rw [gf 181 5 rfl, hn, x_add (a := a) (by omega), x_add (a := (szM (nPc D) g : Int)) (by omega)]
      refine ⟨fun h => absurd h (by omega), fun _ => ?_⟩
      have hP : lkP (nPc D) T a g := ⟨fun b c hb hc' _ _ q e => hc.1.2 b c hb hc' q e, fun b hb _ e => by
        have := hc.1.1 b hb (by omega)
        omega, fun b hb => by
        by_cases e : g b = -1
        · exact Or.inl e
        · have := hc.1.1 b hb e
          exact Or.inr (by omega)⟩
      have hcl := cntB_le (P := fun i => !T i) (nPc D)
      refine aKi_of (s1_Lives_link hI 16 (am_up M1 181 11 w) T g a 0 (by rw [x_uf (by decide), gf 181 5 rfl]; exact hn) (fun a h0 h1 => by rw [x_uc (by decide), gf 188 a rfl]; exact hC a h0 h1) (by rw [x_us]; exact hw) (fun b hb => by rw [x_uc (by decide)]; exact hg b hb) (by omega) (by omega) (by omega) ha0 (by omega) hP) (by omega) (fun z M2 q => ?_)
      obtain ⟨f2, q⟩ := q
      have f3 : fr wLk M M2 := fr_tr (fr_up gf rfl) f2
      rcases q with ⟨z1, g1, e1, s1⟩ | ⟨z0, e0, V2, hV2, F2, n2⟩
      · have hsz1 := szM_one s1.2.1
        have ih := ih (a + 1) M2 g1 (by omega) (by omega) (by omega) f3 e1 (curM_ok hc (lkS_mtch hfa hc.1 s1) hsz1)
        rw [hsz1] at ih
        exact ⟨fun h => absurd h (by omega), fun _ => ih⟩
      · have ih := ih (a + 1) M2 g (by omega) (by omega) (by omega) f3 e0 (curM_fail (U := fun i => V2 i && !T i) hc (fun b hb q t => by
          rw [n2 b hb q, t]; rfl) (fun b hb q => by
          have q : V2 b = true ∧ T b = false := by simpa using q
          rcases F2.2 b hb q.1 with w | w
          · rw [q.2] at w; cases w
          · exact ⟨w.1, fun c hc ec tc => by rw [w.2 c hc ec, tc]; rfl⟩))
        exact ⟨fun _ => ih, fun h => absurd z0 h⟩
  have key1 : ∀ (m k : Nat) (M1 : AM), k + m = nPc D → fr wLk M M1 → (∀ b : Nat, b < k → M1 189 (b : Int) = -1) → aE s1_G d 25 2 [] [some (aP 181), some (aI f), some (aI w), some (aI (k : Int)), none] [] M1 (fun r M' => ∃ z, r = some (aI z) ∧ fr wLk M M' ∧ ∃ r : Nat, z = r ∧ maxM (ePc D) (nPc D) f (nPc D : Int) T r) := by
    intro m
    induction m with
    | zero =>
      intro k M1 hk gf hg
      refine s1_Lives_mostLinks_2 (by omega) ?_
      rw [gf 181 5 rfl, hn]
      have := key2 (nPc D - f.toNat) f M1 (fun _ => -1) (by omega) hf0 (Int.le_refl f) gf (fun b hb => hg b (by omega)) (curM_0 (fun _ _ => rfl))
      rw [szM_0 (fun _ _ => rfl)] at this
      exact ⟨fun _ => this, fun h => absurd h (by omega)⟩
    | succ m ih =>
      intro k M1 hk gf hg
      refine s1_Lives_mostLinks_2 (by omega) ?_
      rw [gf 181 5 rfl, hn, x_add (a := (k : Int)) (by omega), show (k : Int) + 1 = ((k + 1 : Nat) : Int) by omega]
      refine ⟨fun h => absurd h (by omega), fun _ => ⟨by omega, ih (k + 1) _ (by omega) (fr_up gf rfl) (fun b hb => ?_)⟩⟩
      by_cases e : b = k
      · subst e; rw [x_us]
      · rw [x_uf (by omega)]; exact hg b (by omega)
  exact key1 (nPc D) 0 M (by omega) fr_rf (fun b hb => absurd hb (by omega))
theorem s1_Lives_leastBehind {D M : AM} {a : Nat} {w left : Int} {T : Nat → Bool} (hI : Inv D) (hn : M 181 5 = (nPc D : Int)) (hC : chcC D M) (ha : a < nPc D) (hw : bset w (nPc D) T) (hl : 0 ≤ left ∧ left ≤ 16) : aCi s1_G 24 24 [aP 181, aI (a : Int), aI w, aI left] M (fun z M' => fr wLk M M' ∧ z = chX (ePc D) (nPc D) a (T, left)) := by
  refine ⟨Nat.le_of_ble_eq_true rfl, fun d hd => ?_⟩
  refine s1_Lives_leastBehind_0 (by omega) ?_
  obtain ⟨-, hn16⟩ := nPc_e hI
  have key : ∀ (m k : Nat) (M1 : AM), k + m = nPc D → fr wLk M M1 → (∀ c, c < k → (ePc D a c && (!T c && decide (((mmx (ePc D) (nPc D) ((a : Int) + 1) (addT T c) : Nat) : Int) = left - 1))) = false) → aE s1_G d 24 3 [] [some (aP 181), some (aI (a : Int)), some (aI w), some (aI left), some (aI (k : Int))] [] M1 (fun r M' => ∃ z, r = some (aI z) ∧ fr wLk M M' ∧ z = chX (ePc D) (nPc D) a (T, left)) := by
    intro m
    induction m with
    | zero =>
      intro k M1 hk gf hno
      refine s1_Lives_leastBehind_3 (by omega) ?_
      rw [gf 181 5 rfl, hn]
      exact ⟨fun _ => ⟨_, rfl, gf, (frsF_no _ (fun c hc => hno c (by omega))).symm⟩, fun h => absurd h (by omega)⟩
    | succ m ih =>
      intro k M1 hk gf hno
      have hC1 : chcC D M1 := fun a h0 h1 => by rw [gf 188 a rfl]; exact hC a h0 h1
      have hx := bset_andn (c := k) (hC1 a (by omega) (by omega)) hw (by omega) (by omega)
      have nxt : ∀ M2, fr wLk M M2 → (ePc D a k && (!T k && decide (((mmx (ePc D) (nPc D) ((a : Int) + 1) (addT T k) : Nat) : Int) = left - 1))) = false → aE s1_G d 24 3 [] [some (aP 181), some (aI (a : Int)), some (aI w), some (aI left), some (aI ((k + 1 : Nat) : Int))] [] M2 (fun r M' => ∃ z, r = some (aI z) ∧ fr wLk M M' ∧ z = chX (ePc D) (nPc D) a (T, left)) := fun M2 g2 q => ih (k + 1) M2 (by omega) g2 (fun c hc => by
        by_cases e : c = k
        · rw [e]; exact q
        · exact hno c (by omega))
      refine s1_Lives_leastBehind_3 (by omega) ?_
      rw [gf 181 5 rfl, hn, x_add (a := (k : Int)) (by omega), show (k : Int) + 1 = ((k + 1 : Nat) : Int) by omega, x_add (a := (a : Int)) (by omega), x_sub (by omega)]
      refine ⟨fun h => absurd h (by omega), fun _ => ⟨by omega, fun q => nxt M1 gf ?_, fun q => ?_⟩⟩
      · have := hx.mp q
        rw [← Bool.and_assoc, this]
        rfl
      · have q : ¬ ((ePc D a k && !T k) = false) := fun w => q (hx.mpr w)
        have q : (ePc D a k && !T k) = true := by
          cases e : (ePc D a k && !T k) with
          | true => rfl
          | false => exact absurd e q
        refine aKi_of (s1_Lives_mostLinks hI (by rw [gf 181 5 rfl]; exact hn) hC1 (by omega) (by omega) (bset_add hw (by omega) (by omega))) (by omega) (fun z M2 r => ?_)
        obtain ⟨f2, r, rfl, hr⟩ := r
        have hm := mmx_eq hr
        have f3 : fr wLk M M2 := fr_tr gf f2
        refine ⟨fun h => nxt M2 f3 ?_, fun h => ⟨_, rfl, f3, (frsF_at hno ?_ _ (by omega)).symm⟩⟩
        · rw [← Bool.and_assoc, q, hm, decide_eq_false h]; rfl
        · show (ePc D a k && (!T k && _)) = true
          rw [← Bool.and_assoc, q, hm, decide_eq_true h]; rfl
  exact key (nPc D) 0 M (by omega) fr_rf (fun c hc => absurd hc (by omega))
abbrev wU5 : Nat → Int → Bool := wr [187, 188, 189] [(181, 6), (181, 8), (181, 11)]
theorem B1_w5 {D M M' : AM} (hB : B1 D M) (g : fr wU5 M M') : B1 D M' := by
  refine ⟨?_, G1_fw (B1_G hB) (fr_rf (W := wr [] [])) g rfl, P1_fw (B1_P hB) (fr_rf (W := wr [] [])) g rfl, C1_fw (B1_C hB) (fr_rf (W := wr [] [])) g rfl, R1_fw (B1_R hB) (fr_rf (W := wr [] [])) g rfl, S1_fw (B1_S hB) (fr_rf (W := wr [] [])) g rfl, F1_fw (B1_F hB) (fr_rf (W := wr [] [])) g rfl, E1_fw (B1_E hB) (fr_rf (W := wr [] [])) g rfl⟩
  rw [g 0 10 rfl]
  exact B1_now hB
def LivV (D M : AM) : Prop := M 181 6 = D 0 78 - (mmx (ePc D) (nPc D) 0 (fun _ => false) : Nat) ∧ ∀ a : Nat, a < nPc D → M 187 (a : Int) = chL (ePc D) (nPc D) a
def LivC (D M : AM) : Prop := M 181 8 = 0 ∨ LivV D M
theorem s1_Lives_join {D M : AM} (hI : Inv D) (hB : B1 D M) (hL : LivC D M) : aCv s1_G 26 23 [aP 181] M (fun M' => fr wU5 M M' ∧ LivV D M') := by
  refine ⟨Nat.le_of_ble_eq_true rfl, fun d hd => ?_⟩
  refine s1_Lives_join_0 (by omega) ?_
  obtain ⟨hn, hn16⟩ := nPc_e hI
  have hq : ∀ M1, fr wU5 M M1 → M1 181 5 = (nPc D : Int) := fun M1 g => by rw [g 181 5 rfl, B1_qn hB, hn]
  have key98 : ∀ (m k : Nat) (M1 : AM) (w left : Int), k + m = nPc D → fr wU5 M M1 → chcC D M1 → M1 181 6 = D 0 78 - (mmx (ePc D) (nPc D) 0 (fun _ => false) : Nat) → left = (lvS (ePc D) (nPc D) k).2 → 0 ≤ left → left ≤ 16 → bset w (nPc D) (lvS (ePc D) (nPc D) k).1 → (∀ a : Nat, a < k → M1 187 (a : Int) = chL (ePc D) (nPc D) a) → aE s1_G d 23 98 [] [some (aP 181), some (aI left), some (aI w), some (aI (k : Int))] [] M1 (fun r M' => r = none ∧ fr wU5 M M' ∧ LivV D M') := by
    intro m
    induction m with
    | zero =>
      intro k M1 w left hk gf hC h6 hl h0 h16 hw hv
      refine s1_Lives_join_98 (by omega) ?_
      rw [hq M1 gf]
      exact ⟨fun _ => ⟨rfl, gf, h6, fun a ha => hv a (by omega)⟩, fun h => absurd h (by omega)⟩
    | succ m ih =>
      intro k M1 w left hk gf hC h6 hl h0 h16 hw hv
      refine s1_Lives_join_98 (by omega) ?_
      rw [hq M1 gf, x_add (a := (k : Int)) (by omega), show (k : Int) + 1 = ((k + 1 : Nat) : Int) by omega, x_add (a := left) (by omega)]
      refine ⟨fun h => absurd h (by omega), fun _ => ?_⟩
      refine aKi_of (s1_Lives_leastBehind hI (hq M1 gf) hC (show k < nPc D by omega) hw ⟨h0, h16⟩) (by omega) (fun z M2 q => ?_)
      obtain ⟨f2, ez⟩ := q
      have ez : z = chX (ePc D) (nPc D) k (lvS (ePc D) (nPc D) k) := by
        rw [ez, hl]
      have f3 : fr wU5 M M2 := fr_tr gf (fr_mo f2 rfl)
      have f4 : fr wU5 M (am_up M2 187 (k : Int) z) := fr_up f3 rfl
      have hC2 : chcC D (am_up M2 187 (k : Int) z) := fun a h0 h1 => by rw [x_uc (by decide), f2 188 a rfl]; exact hC a h0 h1
      have h62 : am_up M2 187 (k : Int) z 181 6 = D 0 78 - (mmx (ePc D) (nPc D) 0 (fun _ => false) : Nat) := by rw [x_uc (by decide), f2 181 6 rfl]; exact h6
      have hv2 : ∀ a : Nat, a < k + 1 → am_up M2 187 (k : Int) z 187 (a : Int) = chL (ePc D) (nPc D) a := fun a ha => by
        by_cases e : a = k
        · subst e; rw [x_us]; exact ez
        · rw [x_uf (by omega), f2 187 a rfl]; exact hv a (by omega)
      have es : lvS (ePc D) (nPc D) (k + 1) = if z = -1 then lvS (ePc D) (nPc D) k else (addT (lvS (ePc D) (nPc D) k).1 z.toNat, (lvS (ePc D) (nPc D) k).2 - 1) := by rw [ez]; rfl
      rw [x_us]
      refine ⟨by omega, by omega, fun e => ?_, fun e => ⟨by omega, ?_⟩⟩
      · rw [if_pos e] at es
        exact ih (k + 1) _ w left (by omega) f4 hC2 h62 (by rw [es]; exact hl) h0 h16 (by rw [es]; exact hw) hv2
      · rw [if_neg e] at es
        rcases frsF_rg (P := fun b => ePc D k b && (!(lvS (ePc D) (nPc D) k).1 b && decide (((mmx (ePc D) (nPc D) ((k : Int) + 1) (addT (lvS (ePc D) (nPc D) k).1 b) : Nat) : Int) = (lvS (ePc D) (nPc D) k).2 - 1))) (nPc D) with r | ⟨j, hj, ej, pj⟩
        · exact absurd (ez.trans r) e
        · have ez2 : z = j := ez.trans ej
          simp only [Bool.and_eq_true, decide_eq_true_eq] at pj
          have := pj.2.2
          rw [ez2, show ((j : Int)).toNat = j by omega] at es
          refine ih (k + 1) _ _ _ (by omega) f4 hC2 h62 (by rw [es]; omega) (by omega) (by omega) ?_ hv2
          rw [es, ez2]
          exact bset_add hw hj (by omega)
  have key15 : ∀ (m k : Nat) (M1 : AM), k + m = nPc D → fr wU5 M M1 → (∀ a : Int, 0 ≤ a → a < k → bset (M1 188 a) (nPc D) (ePc D a)) → aE s1_G d 23 15 [] [some (aP 181), some (aI (k : Int)), none, none] [] M1 (fun r M' => r = none ∧ fr wU5 M M' ∧ LivV D M') := by
    intro m
    induction m with
    | zero =>
      intro k M1 hk gf hc
      refine s1_Lives_join_15 (by omega) ?_
      rw [hq M1 gf]
      refine ⟨fun _ => ?_, fun h => absurd h (by omega)⟩
      have hC : chcC D M1 := fun a h0 h1 => hc a h0 (by omega)
      refine aKi_of (s1_Lives_mostLinks hI (hq M1 gf) hC (Int.le_refl 0) (by omega) bset_0) (by omega) (fun z M2 r => ?_)
      obtain ⟨f2, r, rfl, hr⟩ := r
      have hm := mmx_eq hr
      have hle := maxM_le hr
      have f3 : fr wU5 M M2 := fr_tr gf (fr_mo f2 rfl)
      rw [hq M2 f3, x_sub (by omega)]
      exact key98 (nPc D) 0 _ 0 r (by omega) (fr_up f3 rfl) (fun a h0 h1 => by rw [x_uc (by decide), f2 188 a rfl]; exact hC a h0 h1) (by rw [x_us, hm, hn]) (by show (r : Int) = ((mmx (ePc D) (nPc D) 0 (fun _ => false) : Nat) : Int); rw [hm]) (by omega) (by omega) bset_0 (fun a ha => absurd ha (by omega))
    | succ m ih =>
      intro k M1 hk gf hc
      have ih := fun M2 => ih (k + 1) M2 (by omega)
      refine s1_Lives_join_15 (by omega) ?_
      rw [hq M1 gf]
      refine ⟨fun h => absurd h (by omega), fun _ => ⟨by omega, ?_⟩⟩
      have key32 : ∀ (m j : Nat) (M1 : AM), j + m = nPc D → fr wU5 M M1 → (∀ a : Int, 0 ≤ a → a < k → bset (M1 188 a) (nPc D) (ePc D a)) → bset (M1 188 (k : Int)) (nPc D) (fun i => decide (i < j) && ePc D k i) → aE s1_G d 23 32 [] [some (aP 181), some (aI (k : Int)), some (aI (j : Int)), none] [] M1 (fun r M' => r = none ∧ fr wU5 M M' ∧ LivV D M') := by
        intro m
        induction m with
        | zero =>
          intro j M1 hj gf hc hk2
          refine s1_Lives_join_32 (by omega) ?_
          rw [hq M1 gf, x_add (a := (k : Int)) (by omega), show (k : Int) + 1 = ((k + 1 : Nat) : Int) by omega]
          refine ⟨fun _ => ih M1 gf (fun a h0 h1 => ?_), fun h => absurd h (by omega)⟩
          by_cases e : a = k
          · subst e
            exact bset_cg hk2 (fun i hi => by rw [decide_eq_true (show i < j by omega)]; rfl)
          · exact hc a h0 (by omega)
        | succ m ih2 =>
          intro j M1 hj gf hc hk2
          refine s1_Lives_join_32 (by omega) ?_
          rw [hq M1 gf, x_add (a := (j : Int)) (by omega), show (j : Int) + 1 = ((j + 1 : Nat) : Int) by omega]
          refine ⟨fun h => absurd h (by omega), fun _ => ⟨by omega, ?_⟩⟩
          refine aKi_of (s1_Lives_joins hI (B1_w5 hB gf) (show 0 ≤ (k : Int) ∧ (k : Int) < 16 by omega) (show 0 ≤ (j : Int) ∧ (j : Int) < 16 by omega)) (by omega) (fun z M2 q => ?_)
          obtain ⟨rfl, rfl⟩ := q
          rw [bI_n0, bI_0]
          refine ⟨fun e => ⟨by omega, ih2 (j + 1) _ (by omega) (fr_up gf rfl) (fun a h0 h1 => by rw [x_uf (by omega)]; exact hc a h0 h1) ?_⟩, fun e => ⟨by omega, ih2 (j + 1) _ (by omega) (fr_up gf rfl) (fun a h0 h1 => by rw [x_uf (by omega)]; exact hc a h0 h1) ?_⟩⟩
          · rw [x_us]
            refine bset_cg (bset_or0 hk2 (by omega)) (fun i hi => ?_)
            have e : ePc D k j = false := e
            by_cases q : i = j
            · subst q; rw [e, Bool.and_false, Bool.and_false]
            · rw [show decide (i < j) = decide (i < j + 1) from decide_eq_decide.mpr (by omega)]
          · rw [x_us]
            refine bset_cg (bset_add hk2 (show j < nPc D by omega) (by omega)) (fun i hi => ?_)
            have e : ePc D k j = true := e
            unfold addT
            dsimp only
            by_cases q : i = j
            · subst q; rw [e]; simp
            · rw [show decide (i < j) = decide (i < j + 1) from decide_eq_decide.mpr (by omega), decide_eq_false q, Bool.or_false]
      exact key32 (nPc D) 0 _ (by omega) (fr_up gf rfl) (fun a h0 h1 => by rw [x_uf (by omega)]; exact hc a h0 h1) (by
        rw [x_us]
        exact bset_cg bset_0 (fun i hi => rfl))
  refine ⟨fun _ => ⟨Or.inr rfl, key15 (nPc D) 0 _ (by omega) (fr_up fr_rf rfl) (fun a h0 h1 => absurd h1 (by omega))⟩, fun h => ⟨rfl, fr_rf, ?_⟩⟩
  rcases hL with e | e
  · exact absurd e h
  · exact e
theorem c1_lives {D M : AM} {i : Int} (hI : Inv D) (hB : B1 D M) (hL : LivC D M) : aCi s1_G 30 138 [aP 0, aI i] M (fun z M' => z = f_lives D i ∧ fr wU5 M M' ∧ LivC D M') := by
  refine ⟨Nat.le_of_ble_eq_true rfl, fun d hd => ?_⟩
  refine s1_lives_0 (by omega) ?_
  obtain ⟨hn, hn16⟩ := nPc_e hI
  rw [B1_qn hB, x_sub (by omega)]
  simp only [a_bl_n, a_bl_z]
  unfold f_lives
  refine ⟨fun e => ?_, fun e => ⟨fun h => ?_, fun h => ⟨_, rfl, by rw [if_neg e, if_neg (by omega)], fr_rf, hL⟩⟩⟩
  · refine aKv_of (s1_Lives_join hI hB hL) (by omega) (fun M1 q => ?_)
    obtain ⟨g, v⟩ := q
    exact ⟨fun h => absurd e h, fun _ => ⟨_, rfl, by rw [if_pos e]; exact v.1, g, Or.inr v⟩⟩
  · refine aKv_of (s1_Lives_join hI hB hL) (by omega) (fun M1 q => ?_)
    obtain ⟨g, v⟩ := q
    refine ⟨fun h => ⟨by omega, _, rfl, ?_, g, Or.inr v⟩, fun h => absurd h e⟩
    rw [if_neg e, if_pos (by omega)]
    have := v.2 i.toNat (by omega)
    rw [show ((i.toNat : Nat) : Int) = i by omega] at this
    exact this
