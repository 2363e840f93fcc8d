/-! LIVES: the most links -/
theorem cntB_one {P Q : Nat → Bool} {b0 : Nat} (hP : P b0 = true) (hQ : Q b0 = false) : ∀ n, b0 < n → (∀ b, b < n → b ≠ b0 → P b = Q b) → cntB P n = cntB Q n + 1
  | 0, h, _ => absurd h (by omega)
  | n + 1, h, e => by
    rw [cntB_succ, cntB_succ]
    by_cases q : b0 = n
    · subst q
      rw [cntB_cg (fun i hi => e i (by omega) (by omega)), hP, hQ]
      rfl
    · rw [cntB_one hP hQ n (by omega) (fun b hb hn => e b (by omega) hn), e n (by omega) (by omega)]
      omega
theorem cntB_mono {P Q : Nat → Bool} : ∀ n, (∀ b, b < n → P b = true → Q b = true) → cntB P n ≤ cntB Q n
  | 0, _ => Nat.le_refl _
  | n + 1, h => by
    have ih := cntB_mono n (fun b hb => h b (by omega))
    have := h n (by omega)
    rw [cntB_succ, cntB_succ]
    by_cases q : P n = true
    · rw [if_pos q, if_pos (this q)]; omega
    · rw [if_neg q]; omega
def mtch (E : Int → Nat → Bool) (n : Nat) (f k : Int) (T : Nat → Bool) (g : Nat → Int) : Prop :=
  (∀ b, b < n → g b ≠ -1 → f ≤ g b ∧ g b < k ∧ E (g b) b = true ∧ T b = false) ∧ ∀ b c, b < n → c < n → g b ≠ -1 → g b = g c → b = c
def szM (n : Nat) (g : Nat → Int) : Nat := cntB (fun b => decide (g b ≠ -1)) n
def maxM (E : Int → Nat → Bool) (n : Nat) (f k : Int) (T : Nat → Bool) (r : Nat) : Prop := (∃ g, mtch E n f k T g ∧ szM n g = r) ∧ ∀ g, mtch E n f k T g → szM n g ≤ r
theorem maxM_u {E : Int → Nat → Bool} {n : Nat} {f k : Int} {T : Nat → Bool} {r s : Nat} (h : maxM E n f k T r) (h' : maxM E n f k T s) : r = s := by
  obtain ⟨⟨g, h1, h2⟩, h3⟩ := h
  obtain ⟨⟨g', h1', h2'⟩, h3'⟩ := h'
  have := h3 g' h1'
  have := h3' g h1
  omega
theorem mtch_cg {E : Int → Nat → Bool} {n : Nat} {f k : Int} {T T' : Nat → Bool} {g : Nat → Int} (e : ∀ b, b < n → T b = T' b) (h : mtch E n f k T g) : mtch E n f k T' g :=
  ⟨fun b hb q => ⟨(h.1 b hb q).1, (h.1 b hb q).2.1, (h.1 b hb q).2.2.1, by rw [← e b hb]; exact (h.1 b hb q).2.2.2⟩, h.2⟩
theorem maxM_cg {E : Int → Nat → Bool} {n : Nat} {f k : Int} {T T' : Nat → Bool} {r : Nat} (e : ∀ b, b < n → T b = T' b) (h : maxM E n f k T r) : maxM E n f k T' r :=
  ⟨by obtain ⟨g, h1, h2⟩ := h.1; exact ⟨g, mtch_cg e h1, h2⟩, fun g h1 => h.2 g (mtch_cg (fun b hb => (e b hb).symm) h1)⟩
theorem szM_le {n : Nat} {g : Nat → Int} : szM n g ≤ n := cntB_le n
theorem maxM_le {E : Int → Nat → Bool} {n : Nat} {f k : Int} {T : Nat → Bool} {r : Nat} (h : maxM E n f k T r) : r ≤ n := by
  obtain ⟨⟨g, h1, h2⟩, h3⟩ := h
  rw [← h2]
  exact szM_le
noncomputable def mmx (E : Int → Nat → Bool) (n : Nat) (f : Int) (T : Nat → Bool) : Nat := Classical.epsilon (maxM E n f (n : Int) T)
theorem mmx_eq {E : Int → Nat → Bool} {n : Nat} {f : Int} {T : Nat → Bool} {r : Nat} (h : maxM E n f (n : Int) T r) : mmx E n f T = r := maxM_u (Classical.epsilon_spec (p := maxM E n f (n : Int) T) ⟨r, h⟩) h
/-- g is one of the greatest up to k -/
def curM (E : Int → Nat → Bool) (n : Nat) (f k : Int) (T : Nat → Bool) (g : Nat → Int) : Prop := mtch E n f k T g ∧ ∀ h, mtch E n f k T h → szM n h ≤ szM n g
theorem curM_max {E : Int → Nat → Bool} {n : Nat} {f k : Int} {T : Nat → Bool} {g : Nat → Int} (h : curM E n f k T g) : maxM E n f k T (szM n g) := ⟨⟨g, h.1, rfl⟩, h.2⟩
theorem szM_0 {n : Nat} {g : Nat → Int} (h : ∀ b, b < n → g b = -1) : szM n g = 0 := by
  have e : szM n g = cntB (fun _ => false) n := cntB_cg (fun i hi => by rw [h i hi]; rfl)
  rw [e]
  clear e h
  induction n with
  | zero => rfl
  | succ n ih => rw [cntB_succ, ih]; rfl
theorem curM_0 {E : Int → Nat → Bool} {n : Nat} {f : Int} {T : Nat → Bool} {g : Nat → Int} (h : ∀ b, b < n → g b = -1) : curM E n f f T g := by
  refine ⟨⟨fun b hb q => absurd (h b hb) q, fun b c hb _ q => absurd (h b hb) q⟩, fun g' h' => ?_⟩
  have e : ∀ b, b < n → g' b = -1 := fun b hb => Decidable.byContradiction fun q => by have := h'.1 b hb q; omega
  rw [szM_0 e]
  exact Nat.zero_le _
theorem curM_fail {E : Int → Nat → Bool} {n : Nat} {f k : Int} {T U : Nat → Bool} {g : Nat → Int} (h : curM E n f k T g) (h1 : ∀ b, b < n → E k b = true → T b = false → U b = true) (h2 : ∀ b, b < n → U b = true → g b ≠ -1 ∧ ∀ c, c < n → E (g b) c = true → T c = false → U c = true) : curM E n f (k + 1) T g := by
  refine ⟨⟨fun b hb q => ?_, h.1.2⟩, fun g' h' => ?_⟩
  · have := h.1.1 b hb q
    exact ⟨this.1, by omega, this.2.2⟩
  · have key : mtch E n f k T (fun b => if U b = true then g b else g' b) := by
      refine ⟨fun b hb q => ?_, fun b c hb hc q e => ?_⟩
      · dsimp only at q ⊢
        by_cases u : U b = true
        · rw [if_pos u] at q ⊢
          exact h.1.1 b hb q
        · rw [if_neg u] at q ⊢
          have := h'.1 b hb q
          refine ⟨this.1, ?_, this.2.2⟩
          by_cases e : g' b = k
          · rw [e] at this
            exact absurd (h1 b hb this.2.2.1 this.2.2.2) u
          · omega
      · have cross : ∀ b c, b < n → c < n → U b = true → ¬ U c = true → g b = g' c → False := fun b c hb hc ub uc e => by
          obtain ⟨q1, q2⟩ := h2 b hb ub
          have q3 := h'.1 c hc (by rw [← e]; exact q1)
          rw [← e] at q3
          exact uc (q2 c hc q3.2.2.1 q3.2.2.2)
        by_cases ub : U b = true <;> by_cases uc : U c = true
        · simp only [if_pos ub, if_pos uc] at q e; exact h.1.2 b c hb hc q e
        · simp only [if_pos ub, if_neg uc] at q e; exact (cross b c hb hc ub uc e).elim
        · simp only [if_neg ub, if_pos uc] at q e; exact (cross c b hc hb uc ub e.symm).elim
        · simp only [if_neg ub, if_neg uc] at q e; exact h'.2 b c hb hc q e
    refine Nat.le_trans ?_ (h.2 _ key)
    refine cntB_mono n (fun b hb q => ?_)
    have q := of_decide_eq_true q
    refine decide_eq_true ?_
    dsimp only
    by_cases u : U b = true
    · rw [if_pos u]; exact (h2 b hb u).1
    · rw [if_neg u]; exact q
theorem curM_ok {E : Int → Nat → Bool} {n : Nat} {f k : Int} {T : Nat → Bool} {g g' : Nat → Int} (h : curM E n f k T g) (h1 : mtch E n f (k + 1) T g') (h2 : szM n g' = szM n g + 1) : curM E n f (k + 1) T g' := by
  refine ⟨h1, fun p hp => ?_⟩
  rw [h2]
  by_cases ex : ∃ b, b < n ∧ p b = k ∧ p b ≠ -1
  · obtain ⟨b0, hb0, e0, n0⟩ := ex
    have key : mtch E n f k T (fun b => if b = b0 then -1 else p b) := by
      refine ⟨fun b hb q => ?_, fun b c hb hc q e => ?_⟩
      · dsimp only at q ⊢
        by_cases e : b = b0
        · rw [if_pos e] at q; exact absurd rfl q
        · rw [if_neg e] at q ⊢
          have := hp.1 b hb q
          refine ⟨this.1, ?_, this.2.2⟩
          by_cases e2 : p b = k
          · exact absurd (hp.2 b b0 hb hb0 q (by omega)) e
          · omega
      · dsimp only at q e
        by_cases e1 : b = b0
        · rw [if_pos e1] at q; exact absurd rfl q
        · rw [if_neg e1] at q e
          by_cases e2 : c = b0
          · rw [if_pos e2] at e; exact absurd e q
          · rw [if_neg e2] at e; exact hp.2 b c hb hc q e
    have hs : szM n p = szM n (fun b => if b = b0 then -1 else p b) + 1 := by
      refine cntB_one (decide_eq_true n0) ?_ n hb0 (fun b hb e => ?_)
      · simp only [if_pos, ne_eq, not_true_eq_false, decide_false]
      · simp only [if_neg e]
    have := h.2 _ key
    omega
  · have key : mtch E n f k T p := by
      refine ⟨fun b hb q => ?_, hp.2⟩
      have := hp.1 b hb q
      refine ⟨this.1, ?_, this.2.2⟩
      by_cases e : p b = k
      · exact absurd ⟨b, hb, e, q⟩ ex
      · omega
    have := h.2 _ key
    omega
theorem szM_one {n : Nat} {g g' : Nat → Int} (h : ∃ b, b < n ∧ g b = -1 ∧ g' b ≠ -1 ∧ ∀ c, c < n → c ≠ b → (g' c = -1 ↔ g c = -1)) : szM n g' = szM n g + 1 := by
  obtain ⟨b, h0, h1, h2, h3⟩ := h
  refine cntB_one (decide_eq_true h2) (decide_eq_false (fun q => q h1)) n h0 (fun c hc e => ?_)
  have := h3 c hc e
  exact decide_eq_decide.mpr (not_congr this)
/-- more numbers than places -/
theorem pigeon : ∀ (n m : Nat) (r : Nat → Int), (∀ i, i < m → 0 ≤ r i ∧ r i < n) → (∀ i j, i < j → j < m → r i ≠ r j) → m ≤ n
  | 0, m, r, h, _ => by
    by_cases q : 0 < m
    · have := h 0 q; omega
    · omega
  | n + 1, m, r, h, d => by
    by_cases ex : ∃ i, i < m ∧ r i = n
    · obtain ⟨i, hi, e⟩ := ex
      have ih := pigeon n (m - 1) (fun j => if j = i then r (m - 1) else r j) (fun j hj => by
        have h1 := h j (by omega)
        have h2 := h (m - 1) (by omega)
        by_cases q : j = i
        · rw [if_pos q]
          have := d i (m - 1) (by omega) (by omega)
          omega
        · rw [if_neg q]
          by_cases q2 : j < i
          · have := d j i q2 hi; omega
          · have := d i j (by omega) (by omega); omega) (fun j c hj hc => by
        by_cases q : j = i
        · rw [if_pos q, if_neg (by omega)]
          have := d c (m - 1) (by omega) (by omega)
          exact fun z => this z.symm
        · rw [if_neg q]
          by_cases q2 : c = i
          · rw [if_pos q2]
            exact d j (m - 1) (by omega) (by omega)
          · rw [if_neg q2]
            exact d j c hj (by omega))
      omega
    · have ih := pigeon n m r (fun i hi => by
        have := h i hi
        have : r i ≠ n := fun z => ex ⟨i, hi, z⟩
        omega) d
      omega
/-! the choice of links, one by one -/
def addT (T : Nat → Bool) (b : Nat) : Nat → Bool := fun i => T i || decide (i = b)
noncomputable def chX (E : Int → Nat → Bool) (n a : Nat) (s : (Nat → Bool) × Int) : Int := frsF (fun b => E a b && (!s.1 b && decide (((mmx E n ((a : Int) + 1) (addT s.1 b) : Nat) : Int) = s.2 - 1))) n
noncomputable def lvS (E : Int → Nat → Bool) (n : Nat) : Nat → (Nat → Bool) × Int
  | 0 => (fun _ => false, (mmx E n 0 (fun _ => false) : Nat))
  | a + 1 => if chX E n a (lvS E n a) = -1 then lvS E n a else (addT (lvS E n a).1 (chX E n a (lvS E n a)).toNat, (lvS E n a).2 - 1)
noncomputable def chL (E : Int → Nat → Bool) (n a : Nat) : Int := chX E n a (lvS E n a)
def nPc (D : AM) : Nat := (D 0 78).toNat
def ePc (D : AM) : Int → Nat → Bool := fun a b => mayB D a (b : Int)
theorem nPc_e {D : AM} (hI : Inv D) : D 0 78 = (nPc D : Int) ∧ nPc D ≤ 16 := by
  have := Inv_qn hI
  unfold nPc
  omega
noncomputable def f_lives (D : AM) (i : Int) : Int := if i = -1 then D 0 78 - (mmx (ePc D) (nPc D) 0 (fun _ => false) : Nat) else if 0 ≤ i ∧ i < D 0 78 then chL (ePc D) (nPc D) i.toNat else -100001
/-! sets less sets -/
theorem b_andn {a w c n : Nat} (ha : a < 2 ^ n) (hw : w < 2 ^ n) (hc : c < n) (hn : n ≤ 31) : a_and (a_and (a : Int) (a_xor (w : Int) (-1))) (a_shl 1 (c : Int)) = 0 ↔ (a.testBit c && !w.testBit c) = false := by
  have hl := bset_lt ha hn
  have hl2 := bset_lt hw hn
  have e : (Int32.ofInt (a : Int) &&& (Int32.ofInt (w : Int) ^^^ Int32.ofInt (-1))).toBitVec = BitVec.ofNat 32 a &&& ~~~(BitVec.ofNat 32 w) := by
    rw [Int32.toBitVec_and, Int32.toBitVec_xor, b_bv, b_bv]
    show _ &&& (_ ^^^ BitVec.allOnes 32) = _
    rw [BitVec.xor_allOnes]
  have hle : (BitVec.ofNat 32 a &&& ~~~(BitVec.ofNat 32 w)).toNat ≤ a := by
    rw [BitVec.toNat_and, BitVec.toNat_ofNat, Nat.mod_eq_of_lt (by omega)]
    exact Nat.and_le_left
  have e1 : a_and (a : Int) (a_xor (w : Int) (-1)) = ((BitVec.ofNat 32 a &&& ~~~(BitVec.ofNat 32 w)).toNat : Int) := by
    unfold a_and a_xor
    rw [Int32.ofInt_toInt, b_int _ (by rw [e]; omega), e]
  have hb : (BitVec.ofNat 32 a &&& ~~~(BitVec.ofNat 32 w)).toNat.testBit c = (a.testBit c && !w.testBit c) := by
    have h2 : c < 32 := by omega
    rw [BitVec.testBit_toNat, BitVec.getLsbD_and, BitVec.getLsbD_not, BitVec.getLsbD_ofNat, BitVec.getLsbD_ofNat]
    simp [h2]
  rw [e1, b_one (by omega), b_and (by omega) (show 2 ^ c < 2 ^ 31 from Nat.pow_lt_pow_right (by decide) (by omega)), ← hb]
  generalize (BitVec.ofNat 32 a &&& ~~~(BitVec.ofNat 32 w)).toNat = x
  have hx : ∀ i, (x &&& 2 ^ c).testBit i = (x.testBit i && decide (c = i)) := fun i => by rw [Nat.testBit_and, Nat.testBit_two_pow]
  constructor
  · intro q
    have q : x &&& 2 ^ c = 0 := by omega
    have := hx c
    rw [q, Nat.zero_testBit] at this
    simp at this
    exact this
  · intro q
    have : x &&& 2 ^ c = 0 := Nat.eq_of_testBit_eq (fun i => by
      rw [hx, Nat.zero_testBit]
      by_cases e : c = i
      · subst e; rw [q]; rfl
      · simp [e])
    rw [this]
    rfl
theorem bset_andn {z w : Int} {n c : Nat} {P Q : Nat → Bool} (h : bset z n P) (g : bset w n Q) (hc : c < n) (hn : n ≤ 31) : a_and (a_and z (a_xor w (-1))) (a_shl 1 (c : Int)) = 0 ↔ (P c && !Q c) = false := by
  obtain ⟨a, rfl, ha, ha2⟩ := bset_nat h
  obtain ⟨b, rfl, hb, hb2⟩ := bset_nat g
  have := b_andn ha hb hc hn
  rw [ha2, hb2] at this
  simpa [hc] using this
theorem bset_add {z : Int} {n c : Nat} {P : Nat → Bool} (h : bset z n P) (hc : c < n) (hn : n ≤ 31) : bset (a_or z (a_shl 1 (c : Int))) n (addT P c) := bset_or h (bset_one hc hn) hn
theorem bset_or0 {z : Int} {n : Nat} {P : Nat → Bool} (h : bset z n P) (hn : n ≤ 31) : bset (a_or z 0) n P := bset_cg (bset_or h bset_0 hn) (fun i _ => by simp)
