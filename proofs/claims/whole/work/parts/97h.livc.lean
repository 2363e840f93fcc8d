/-! LIVES: the class's links -/
def upN (g : Nat → Int) (b : Nat) (a : Int) : Nat → Int := fun i => if i = b then a else g i
theorem upN_s {g : Nat → Int} {b : Nat} {a : Int} : upN g b a b = a := if_pos rfl
theorem upN_n {g : Nat → Int} {b c : Nat} {a : Int} (h : c ≠ b) : upN g b a c = g c := if_neg h
theorem addT_t {T : Nat → Bool} {b c : Nat} : addT T b c = true ↔ T c = true ∨ c = b := by unfold addT; simp
theorem addT_f {T : Nat → Bool} {b c : Nat} : addT T b c = false ↔ T c = false ∧ c ≠ b := by unfold addT; simp
def lkP (n : Nat) (V : Nat → Bool) (a : Int) (g : Nat → Int) : Prop :=
  (∀ b c, b < n → c < n → V b = false → V c = false → g b ≠ -1 → g b = g c → b = c) ∧ (∀ b, b < n → V b = false → g b ≠ a) ∧ (∀ b, b < n → g b = -1 ∨ (0 ≤ g b ∧ g b < n))
def lkS (E : Int → Nat → Bool) (n : Nat) (V : Nat → Bool) (a : Int) (g g' : Nat → Int) : Prop :=
  (∀ b, b < n → V b = true → g' b = g b) ∧
  (∃ b, b < n ∧ g b = -1 ∧ g' b ≠ -1 ∧ ∀ c, c < n → c ≠ b → (g' c = -1 ↔ g c = -1)) ∧
  (∀ b, b < n → g' b ≠ g b → E (g' b) b = true) ∧
  (∀ b, b < n → V b = false → g' b ≠ -1 → g' b = a ∨ ∃ c, c < n ∧ V c = false ∧ g c = g' b) ∧
  (∀ b c, b < n → c < n → V b = false → V c = false → g' b ≠ -1 → g' b = g' c → b = c)
def lkF (E : Int → Nat → Bool) (n : Nat) (V : Nat → Bool) (g : Nat → Int) (V' : Nat → Bool) : Prop :=
  (∀ b, b < n → V b = true → V' b = true) ∧ (∀ b, b < n → V' b = true → V b = true ∨ (g b ≠ -1 ∧ ∀ c, c < n → E (g b) c = true → V' c = true))
theorem lkP_mono {n : Nat} {V V' : Nat → Bool} {a : Int} {g : Nat → Int} (h : lkP n V a g) (m : ∀ b, b < n → V b = true → V' b = true) : lkP n V' a g := by
  have m' : ∀ b, b < n → V' b = false → V b = false := fun b hb q => by
    cases e : V b with
    | false => rfl
    | true => rw [m b hb e] at q; cases q
  exact ⟨fun b c hb hc vb vc => h.1 b c hb hc (m' b hb vb) (m' c hc vc), fun b hb vb => h.2.1 b hb (m' b hb vb), h.2.2⟩
theorem lkS_mono {E : Int → Nat → Bool} {n : Nat} {V V' : Nat → Bool} {a : Int} {g g' : Nat → Int} (p : lkP n V a g) (m : ∀ b, b < n → V b = true → V' b = true) (h : lkS E n V' a g g') : lkS E n V a g g' := by
  obtain ⟨h1, h2, h3, h4, h5⟩ := h
  have m' : ∀ b, b < n → V' b = false → V b = false := fun b hb q => by
    cases e : V b with
    | false => rfl
    | true => rw [m b hb e] at q; cases q
  have cross : ∀ b c, b < n → c < n → V' b = false → V c = false → V' c = true → g' b ≠ -1 → g' b = g' c → b = c := fun b c hb hc vb vc vc' q e => by
    have e2 := h1 c hc vc'
    rcases h4 b hb vb q with r | ⟨d, hd, vd, ed⟩
    · exact absurd (show g c = a by rw [← e2, ← e, r]) (p.2.1 c hc vc)
    · have := p.1 d c hd hc (m' d hd vd) vc (by rw [ed]; exact q) (by rw [ed, e, e2])
      subst this
      rw [vd] at vc'
      cases vc'
  refine ⟨fun b hb q => h1 b hb (m b hb q), h2, h3, fun b hb vb q => ?_, fun b c hb hc vb vc q e => ?_⟩
  · cases e : V' b with
    | true => exact Or.inr ⟨b, hb, vb, (h1 b hb e).symm⟩
    | false =>
      rcases h4 b hb e q with r | ⟨d, hd, vd, ed⟩
      · exact Or.inl r
      · exact Or.inr ⟨d, hd, m' d hd vd, ed⟩
  · cases e1 : V' b with
    | true =>
      cases e2 : V' c with
      | true =>
        rw [h1 b hb e1] at q e
        rw [h1 c hc e2] at e
        exact p.1 b c hb hc vb vc q e
      | false => exact (cross c b hc hb e2 vb e1 (by rw [← e]; exact q) e.symm).symm
    | false =>
      cases e2 : V' c with
      | true => exact cross b c hb hc e1 vc e2 q e
      | false => exact h5 b c hb hc e1 e2 q e
theorem lkS_hit {E : Int → Nat → Bool} {n : Nat} {V : Nat → Bool} {a : Int} {g : Nat → Int} {b : Nat} (p : lkP n V a g) (hb : b < n) (vb : V b = false) (hE : E a b = true) (hg : g b = -1) (ha : a ≠ -1) : lkS E n V a g (upN g b a) := by
  refine ⟨fun c hc vc => ?_, ⟨b, hb, hg, by rw [upN_s]; exact ha, fun c hc e => by rw [upN_n e]⟩, fun c hc q => ?_, fun c hc vc q => ?_, fun c d hc hd vc vd q e => ?_⟩
  · refine upN_n (fun e => ?_)
    subst e; rw [vb] at vc; cases vc
  · by_cases e : c = b
    · subst e; rw [upN_s]; exact hE
    · rw [upN_n e] at q; exact absurd rfl q
  · by_cases e : c = b
    · subst e; exact Or.inl upN_s
    · rw [upN_n e]; exact Or.inr ⟨c, hc, vc, rfl⟩
  · by_cases e1 : c = b <;> by_cases e2 : d = b
    · omega
    · subst e1; rw [upN_s, upN_n e2] at e; exact absurd e.symm (p.2.1 d hd vd)
    · subst e2; rw [upN_s, upN_n e1] at e; exact absurd e (p.2.1 c hc vc)
    · rw [upN_n e1] at q e; rw [upN_n e2] at e; exact p.1 c d hc hd vc vd q e
theorem lkP_rec {n : Nat} {V : Nat → Bool} {a : Int} {g : Nat → Int} {b : Nat} (p : lkP n V a g) (hb : b < n) (vb : V b = false) (hg : g b ≠ -1) : lkP n (addT V b) (g b) g := by
  refine ⟨fun c d hc hd vc vd => p.1 c d hc hd (addT_f.mp vc).1 (addT_f.mp vd).1, fun c hc vc e => ?_, p.2.2⟩
  exact (addT_f.mp vc).2 (p.1 b c hb hc vb (addT_f.mp vc).1 hg e.symm).symm
theorem lkS_rec {E : Int → Nat → Bool} {n : Nat} {V : Nat → Bool} {a : Int} {g g1 : Nat → Int} {b : Nat} (p : lkP n V a g) (hb : b < n) (vb : V b = false) (hE : E a b = true) (hg : g b ≠ -1) (ha : a ≠ -1) (h : lkS E n (addT V b) (g b) g g1) : lkS E n V a g (upN g1 b a) := by
  obtain ⟨h1, ⟨b0, hb0, g0, n0, o0⟩, h3, h4, h5⟩ := h
  have ne : ∀ c, c < n → V c = false → c ≠ b → g1 c ≠ -1 → g1 c ≠ a := fun c hc vc e q r => by
    rcases h4 c hc (addT_f.mpr ⟨vc, e⟩) q with s | ⟨d, hd, vd, ed⟩
    · exact p.2.1 b hb vb (by rw [← s, r])
    · exact p.2.1 d hd (addT_f.mp vd).1 (by rw [ed, r])
  refine ⟨fun c hc vc => ?_, ⟨b0, hb0, g0, ?_, fun c hc e => ?_⟩, fun c hc q => ?_, fun c hc vc q => ?_, fun c d hc hd vc vd q e => ?_⟩
  · have : c ≠ b := fun e => by subst e; rw [vb] at vc; cases vc
    rw [upN_n this]
    exact h1 c hc (addT_t.mpr (Or.inl vc))
  · have : b0 ≠ b := fun e => by subst e; exact hg g0
    rw [upN_n this]
    exact n0
  · by_cases e1 : c = b
    · subst e1; rw [upN_s]; exact ⟨fun q => absurd q ha, fun q => absurd q hg⟩
    · rw [upN_n e1]; exact o0 c hc e
  · by_cases e : c = b
    · subst e; rw [upN_s]; exact hE
    · rw [upN_n e] at q ⊢; exact h3 c hc q
  · by_cases e : c = b
    · subst e; exact Or.inl upN_s
    · rw [upN_n e] at q ⊢
      rcases h4 c hc (addT_f.mpr ⟨vc, e⟩) q with s | ⟨d, hd, vd, ed⟩
      · exact Or.inr ⟨b, hb, vb, s.symm⟩
      · exact Or.inr ⟨d, hd, (addT_f.mp vd).1, ed⟩
  · by_cases e1 : c = b <;> by_cases e2 : d = b
    · omega
    · subst e1; rw [upN_s] at q; rw [upN_s, upN_n e2] at e; exact absurd e.symm (ne d hd vd e2 (by rw [← e]; exact q))
    · subst e2; rw [upN_n e1] at q e; rw [upN_s] at e; exact absurd e (ne c hc vc e1 q)
    · rw [upN_n e1] at q e; rw [upN_n e2] at e; exact h5 c d hc hd (addT_f.mpr ⟨vc, e1⟩) (addT_f.mpr ⟨vd, e2⟩) q e
theorem cnt_add {V : Nat → Bool} {b n : Nat} (hb : b < n) (vb : V b = false) : cntB (fun i => !V i) n = cntB (fun i => !addT V b i) n + 1 := by
  refine cntB_one (b0 := b) (by rw [vb]; rfl) (by rw [addT_t.mpr (Or.inr rfl)]; rfl) n hb (fun c hc e => ?_)
  unfold addT
  simp [e]
abbrev wLk : Nat → Int → Bool := wr [189] [(181, 11)]
def chcC (D M : AM) : Prop := ∀ a : Int, 0 ≤ a → a < nPc D → bset (M 188 a) (nPc D) (ePc D a)
theorem s1_Lives_link {D : AM} (hI : Inv D) : ∀ (u : Nat) (M : AM) (V : Nat → Bool) (g : Nat → Int) (a dp : Int), M 181 5 = (nPc D : Int) → chcC D M → bset (M 181 11) (nPc D) V → (∀ b : Nat, b < nPc D → M 189 (b : Int) = g b) → cntB (fun i => !V i) (nPc D) ≤ u → 0 ≤ dp → dp + u ≤ 16 → 0 ≤ a → a < nPc D → lkP (nPc D) V a g →
    aCi s1_G (4 + u) 26 [aP 181, aI a, aI dp] M (fun z M' => fr wLk M M' ∧ ((z = 1 ∧ ∃ g', (∀ b : Nat, b < nPc D → M' 189 (b : Int) = g' b) ∧ lkS (ePc D) (nPc D) V a g g') ∨ (z = 0 ∧ (∀ b : Nat, b < nPc D → M' 189 (b : Int) = g b) ∧ ∃ V', bset (M' 181 11) (nPc D) V' ∧ lkF (ePc D) (nPc D) V g V' ∧ ∀ c, c < nPc D → ePc D a c = true → V' c = true))) := by
  obtain ⟨-, hn16⟩ := nPc_e hI
  intro u
  induction u with
  | zero =>
    intro M V g a dp hn hC hV hg hu hd0 hd16 ha0 ha hP
    refine ⟨Nat.le_of_ble_eq_true rfl, fun d hd => ?_⟩
    refine s1_Lives_link_0 (by omega) ?_
    have full : ∀ c, c < nPc D → V c = true := fun c hc => by
      cases e : V c with
      | true => rfl
      | false => have := cnt_add hc e; omega
    have key : ∀ (m k : Nat), k + m = nPc D → aE s1_G d 26 2 [] [some (aP 181), some (aI a), some (aI dp), some (aI (k : Int))] [] M (fun r M' => ∃ z, r = some (aI z) ∧ fr wLk M M' ∧ ((z = 1 ∧ ∃ g', (∀ b : Nat, b < nPc D → M' 189 (b : Int) = g' b) ∧ lkS (ePc D) (nPc D) V a g g') ∨ (z = 0 ∧ (∀ b : Nat, b < nPc D → M' 189 (b : Int) = g b) ∧ ∃ V', bset (M' 181 11) (nPc D) V' ∧ lkF (ePc D) (nPc D) V g V' ∧ ∀ c, c < nPc D → ePc D a c = true → V' c = true))) := by
      intro m
      induction m with
      | zero =>
        intro k hk
        refine s1_Lives_link_2 (by omega) ?_
        rw [hn]
        exact ⟨fun _ => ⟨Or.inl rfl, _, rfl, fr_rf, Or.inr ⟨rfl, hg, V, hV, ⟨fun _ _ q => q, fun _ _ q => Or.inl q⟩, fun c hc _ => full c hc⟩⟩, fun h => absurd h (by omega)⟩
      | succ m ih =>
        intro k hk
        refine s1_Lives_link_2 (by omega) ?_
        have hx := bset_andn (c := k) (hC a ha0 ha) hV (by omega) (by omega)
        rw [full k (by omega)] at hx
        rw [hn, x_add (a := (k : Int)) (by omega), show (k : Int) + 1 = ((k + 1 : Nat) : Int) by omega]
        refine ⟨fun h => absurd h (by omega), fun _ => ⟨fun h => absurd h (by omega), fun _ => ⟨by omega, fun _ => ih (k + 1) (by omega), fun h => absurd (hx.mpr (by simp)) h⟩⟩⟩
    exact key (nPc D) 0 (by omega)
  | succ u ihu =>
    intro M V0 g a dp hn hC hV0 hg hu hd0 hd16 ha0 ha hP
    refine ⟨Nat.le_of_ble_eq_true rfl, fun d hd => ?_⟩
    refine s1_Lives_link_0 (by omega) ?_
    have key : ∀ (m k : Nat) (M1 : AM) (V : Nat → Bool), k + m = nPc D → fr wLk M M1 → bset (M1 181 11) (nPc D) V → (∀ b : Nat, b < nPc D → M1 189 (b : Int) = g b) → lkF (ePc D) (nPc D) V0 g V → (∀ c, c < k → ePc D a c = true → V c = true) → aE s1_G d 26 2 [] [some (aP 181), some (aI a), some (aI dp), some (aI (k : Int))] [] M1 (fun r M' => ∃ z, r = some (aI z) ∧ fr wLk M M' ∧ ((z = 1 ∧ ∃ g', (∀ b : Nat, b < nPc D → M' 189 (b : Int) = g' b) ∧ lkS (ePc D) (nPc D) V0 a g g') ∨ (z = 0 ∧ (∀ b : Nat, b < nPc D → M' 189 (b : Int) = g b) ∧ ∃ V', bset (M' 181 11) (nPc D) V' ∧ lkF (ePc D) (nPc D) V0 g V' ∧ ∀ c, c < nPc D → ePc D a c = true → V' c = true))) := by
      intro m
      induction m with
      | zero =>
        intro k M1 V hk gf hV hg1 hF hc
        refine s1_Lives_link_2 (by omega) ?_
        rw [gf 181 5 rfl, hn]
        exact ⟨fun _ => ⟨Or.inl rfl, _, rfl, gf, Or.inr ⟨rfl, hg1, V, hV, hF, fun c hc' => hc c (by omega)⟩⟩, fun h => absurd h (by omega)⟩
      | succ m ih =>
        intro k M1 V hk gf hV hg1 hF hc
        have hn1 : M1 181 5 = (nPc D : Int) := by rw [gf 181 5 rfl]; exact hn
        have hC1 : chcC D M1 := fun a h0 h1 => by rw [gf 188 a rfl]; exact hC a h0 h1
        refine s1_Lives_link_2 (by omega) ?_
        have hx := bset_andn (c := k) (hC1 a ha0 ha) hV (by omega) (by omega)
        rw [hn1, x_add (a := (k : Int)) (by omega), show (k : Int) + 1 = ((k + 1 : Nat) : Int) by omega, x_add (a := dp) (by omega)]
        refine ⟨fun h => absurd h (by omega), fun _ => ⟨fun h => absurd h (by omega), fun _ => ⟨by omega, fun q => ?_, fun q => ⟨by omega, ?_, ?_⟩⟩⟩⟩
        · refine ih (k + 1) M1 V (by omega) gf hV hg1 hF (fun c hck ec => ?_)
          by_cases e : c = k
          · subst e
            have q := hx.mp q
            rw [ec] at q
            simpa using q
          · exact hc c (by omega) ec
        all_goals
          have q : ¬ ((ePc D a k && !V k) = false) := fun w => q (hx.mpr w)
          have hE : ePc D a k = true := by
            cases e : ePc D a k with
            | true => rfl
            | false => rw [e] at q; exact absurd rfl q
          have vk : V k = false := by
            cases e : V k with
            | false => rfl
            | true => rw [hE, e] at q; exact absurd rfl q
          have v0k : V0 k = false := by
            cases e : V0 k with
            | false => rfl
            | true => rw [hF.1 k (by omega) e] at vk; cases vk
          have hPV : lkP (nPc D) V a g := lkP_mono hP hF.1
          rw [x_uc (by decide), hg1 k (by omega)]
        · intro gk
          refine ⟨by omega, Or.inr rfl, _, rfl, fr_up (fr_up gf rfl) rfl, Or.inl ⟨rfl, upN g k a, fun b hb => ?_, lkS_mono hP hF.1 (lkS_hit hPV (by omega) vk hE gk (by omega))⟩⟩
          by_cases e : b = k
          · subst e; rw [x_us, upN_s]
          · rw [x_uf (by omega), upN_n e, x_uc (by decide)]; exact hg1 b hb
        · intro gk
          have hgk := hP.2.2 k (by omega)
          have hcnt : cntB (fun i => !V i) (nPc D) ≤ cntB (fun i => !V0 i) (nPc D) := cntB_mono _ (fun b hb z => by
            cases e : V0 b with
            | false => rfl
            | true => rw [hF.1 b hb e] at z; cases z)
          have hca := cnt_add (V := V) (show k < nPc D by omega) vk
          have f2 : fr wLk M1 (am_up M1 181 11 (a_or (M1 181 11) (a_shl 1 (k : Int)))) := fr_up fr_rf rfl
          refine ⟨by omega, ?_⟩
          refine aKi_of (ihu (am_up M1 181 11 (a_or (M1 181 11) (a_shl 1 (k : Int)))) (addT V k) g (g k) (dp + 1) (by rw [x_uf (by decide)]; exact hn1) (fun a h0 h1 => by rw [x_uc (by decide)]; exact hC1 a h0 h1) (by rw [x_us]; exact bset_add hV (by omega) (by omega)) (fun b hb => by rw [x_uc (by decide)]; exact hg1 b hb) (by omega) (by omega) (by omega) (by omega) (by omega) (lkP_rec hPV (by omega) vk gk)) (by omega) (fun z M2 r => ?_)
          obtain ⟨f3, r⟩ := r
          have f4 : fr wLk M M2 := fr_tr gf (fr_tr f2 f3)
          rcases r with ⟨z1, g1, e1, s1⟩ | ⟨z0, e0, V2, hV2, F2, n2⟩
          · refine ⟨fun h => absurd h (by omega), fun _ => ⟨by omega, Or.inr rfl, _, rfl, fr_up f4 rfl, Or.inl ⟨rfl, upN g1 k a, fun b hb => ?_, lkS_mono hP hF.1 (lkS_rec hPV (by omega) vk hE gk (by omega) s1)⟩⟩⟩
            by_cases e : b = k
            · subst e; rw [x_us, upN_s]
            · rw [x_uf (by omega), upN_n e]; exact e1 b hb
          · refine ⟨fun _ => ih (k + 1) M2 V2 (by omega) f4 hV2 e0 ⟨fun b hb q => F2.1 b hb (addT_t.mpr (Or.inl (hF.1 b hb q))), fun b hb q => ?_⟩ (fun c hck ec => ?_), fun h => absurd z0 h⟩
            · rcases F2.2 b hb q with w | w
              · rcases addT_t.mp w with w | w
                · rcases hF.2 b hb w with y | y
                  · exact Or.inl y
                  · exact Or.inr ⟨y.1, fun c hc ec => F2.1 c hc (addT_t.mpr (Or.inl (y.2 c hc ec)))⟩
                · subst w; exact Or.inr ⟨gk, n2⟩
              · exact Or.inr w
            · by_cases e : c = k
              · subst e; exact F2.1 c (by omega) (addT_t.mpr (Or.inr rfl))
              · exact F2.1 c (by omega) (addT_t.mpr (Or.inl (hc c (by omega) ec)))
    exact key (nPc D) 0 M V0 (by omega) fr_rf hV0 hg ⟨fun _ _ q => q, fun _ _ q => Or.inl q⟩ (fun c hc => absurd hc (by omega))
