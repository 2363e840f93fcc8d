/-! PLAN: what the least riding is -/
section tabs
variable {α : Type}
def tabF (d : α) (step : (Nat → α) → Nat → α) : Nat → Nat → α
  | 0 => fun _ => d
  | p + 1 => fun q => if q = p then step (tabF d step p) p else tabF d step p q
def valF (d : α) (step : (Nat → α) → Nat → α) (p : Nat) : α := step (tabF d step p) p
theorem tabF_val {d : α} {step : (Nat → α) → Nat → α} {q : Nat} : ∀ p, q < p → tabF d step p q = valF d step q
  | 0, h => absurd h (by omega)
  | p + 1, h => by
    show (if q = p then step (tabF d step p) p else tabF d step p q) = _
    by_cases e : q = p
    · rw [if_pos e, e]; rfl
    · rw [if_neg e]; exact tabF_val p (by omega)
theorem valF_eq {d : α} {step : (Nat → α) → Nat → α} {p : Nat} (h : ∀ f g : Nat → α, (∀ q, q < p → f q = g q) → step f p = step g p) : valF d step p = step (valF d step) p := h _ _ (fun q hq => tabF_val p hq)
def itS (p : Nat) (g : Nat → α → α) : Nat → Nat → α → α
  | 0, _, x => x
  | k + 1, t, x => if t = 0 then x else itS p g k ((t - 1) &&& p) (g t x)
theorem itS_cg {p : Nat} {g g' : Nat → α → α} (h : ∀ t x, t ≠ 0 → t &&& p = t → g t x = g' t x) : ∀ k t x, t &&& p = t → itS p g k t x = itS p g' k t x
  | 0, _, _, _ => rfl
  | k + 1, t, x, ht => by
    unfold itS
    by_cases e : t = 0
    · rw [if_pos e, if_pos e]
    · rw [if_neg e, if_neg e, h t x e ht]
      exact itS_cg h k _ _ (by rw [Nat.and_assoc, Nat.and_self])
theorem itS_inv {p : Nat} {g : Nat → α → α} (I : α → Prop) (h : ∀ t x, t ≠ 0 → t &&& p = t → I x → I (g t x)) : ∀ k t x, t &&& p = t → I x → I (itS p g k t x)
  | 0, _, _, _, hx => hx
  | k + 1, t, x, ht, hx => by
    unfold itS
    by_cases e : t = 0
    · rw [if_pos e]; exact hx
    · rw [if_neg e]
      exact itS_inv I h k _ _ (by rw [Nat.and_assoc, Nat.and_self]) (h t x e ht hx)
theorem pw_256 : ∀ t : Fin 256, t.val ≠ 0 → (t.val - 1) &&& t.val = 0 → ∃ k : Fin 8, t.val = 2 ^ k.val := by decide +kernel
theorem itS_last {p : Nat} {g : Nat → α → α} (hp : p < 256) : ∀ k t x, t &&& p = t → t ≠ 0 → t ≤ k → ∃ j y, p.testBit j = true ∧ itS p g k t x = g (2 ^ j) y
  | 0, t, x, _, h0, hk => absurd hk (by omega)
  | k + 1, t, x, ht, h0, hk => by
    have hle : t ≤ p := by rw [← ht]; exact Nat.and_le_right
    unfold itS
    rw [if_neg h0]
    by_cases e : (t - 1) &&& p = 0
    · have e2 : (t - 1) &&& t = 0 := by
        rw [← ht, ← Nat.and_assoc]
        rw [ht, Nat.and_comm (t - 1) t, Nat.and_assoc, e, Nat.and_zero]
      obtain ⟨j, hj⟩ := pw_256 ⟨t, by omega⟩ h0 e2
      have hj : t = 2 ^ j.val := hj
      refine ⟨j.val, x, ?_, ?_⟩
      · have := congrArg (fun z => z.testBit j.val) ht
        simp only [Nat.testBit_and] at this
        rw [hj, Nat.testBit_two_pow_self] at this
        simpa using this
      · rw [e, ← hj]
        cases k with
        | zero => rfl
        | succ k => show (if 0 = 0 then g t x else _) = g t x; rw [if_pos rfl]
    · have hlt : (t - 1) &&& p ≤ t - 1 := Nat.and_le_left
      exact itS_last hp k _ _ (by rw [Nat.and_assoc, Nat.and_self]) e (by omega)
end tabs
/-! sets in sets -/
theorem sb_xor {p t : Nat} (h : t &&& p = t) : p ^^^ t = p ^^^ (p &&& t) := by rw [Nat.and_comm p t, h]
theorem sb_sub {p t : Nat} : (p ^^^ t) &&& p = p ^^^ (t &&& p) := by
  apply Nat.eq_of_testBit_eq
  intro i
  simp only [Nat.testBit_and, Nat.testBit_xor]
  cases p.testBit i <;> cases t.testBit i <;> rfl
theorem sb_le {p t : Nat} (h : t &&& p = t) : p ^^^ t ≤ p := by
  have := sb_sub (p := p) (t := t)
  rw [h] at this
  rw [← this]
  exact Nat.and_le_right
theorem sb_lt {p t : Nat} (h : t &&& p = t) (h0 : t ≠ 0) : p ^^^ t < p := by
  have h1 := sb_le h
  have h2 : p ^^^ t ≠ p := fun e => h0 (by
    have : p ^^^ (p ^^^ t) = t := by rw [← Nat.xor_assoc, Nat.xor_self, Nat.zero_xor]
    rw [← this, e, Nat.xor_self])
  omega
theorem sb_bit {p k : Nat} (h : p.testBit k = true) : 2 ^ k &&& p = 2 ^ k := by
  apply Nat.eq_of_testBit_eq
  intro i
  rw [Nat.testBit_and, Nat.testBit_two_pow]
  by_cases e : k = i
  · subst e; simp [h]
  · simp [e]
theorem sb_t {p t i : Nat} (h : t &&& p = t) (q : t.testBit i = true) : p.testBit i = true := by
  have := congrArg (fun z => z.testBit i) h
  simp only [Nat.testBit_and] at this
  rw [q] at this
  simpa using this
theorem sb_x {p k j : Nat} : (p ^^^ 2 ^ k).testBit j = (p.testBit j != decide (k = j)) := by rw [Nat.testBit_xor, Nat.testBit_two_pow]
theorem b_less {a w : Nat} (ha : a < 2147483648) (hw : w < 2147483648) : a_and (a : Int) (a_xor (w : Int) (-1)) = ((a ^^^ (a &&& w) : Nat) : Int) := by
  have e : (Int32.ofInt (a : Int) &&& (Int32.ofInt (w : Int) ^^^ Int32.ofInt (-1))).toBitVec = BitVec.ofNat 32 a &&& ~~~(BitVec.ofNat 32 w) := by
    rw [Int32.toBitVec_and, Int32.toBitVec_xor, b_bv, b_bv]
    show _ &&& (_ ^^^ BitVec.allOnes 32) = _
    rw [BitVec.xor_allOnes]
  have hle : (BitVec.ofNat 32 a &&& ~~~(BitVec.ofNat 32 w)).toNat ≤ a := by
    rw [BitVec.toNat_and, BitVec.toNat_ofNat, Nat.mod_eq_of_lt (by omega)]
    exact Nat.and_le_left
  unfold a_and a_xor
  rw [Int32.ofInt_toInt, b_int _ (by rw [e]; omega), e]
  congr 1
  apply Nat.eq_of_testBit_eq
  intro i
  rw [BitVec.testBit_toNat, BitVec.getLsbD_and, BitVec.getLsbD_not, BitVec.getLsbD_ofNat, BitVec.getLsbD_ofNat, Nat.testBit_xor, Nat.testBit_and]
  by_cases hi : i < 32
  · simp only [hi, decide_true, Bool.true_and]
    cases a.testBit i <;> cases w.testBit i <;> rfl
  · have : a.testBit i = false := Nat.testBit_lt_two_pow (Nat.lt_of_lt_of_le (show a < 2 ^ 32 by omega) (Nat.pow_le_pow_right (by decide) (by omega)))
    simp [hi, this]
/-! ways, rides -/
def mnF (P : Nat → Bool) (c : Nat → Int) (b : Int) : Nat → Int
  | 0 => b
  | j + 1 => if P j then (if mnF P c b j ≤ c j then mnF P c b j else c j) else mnF P c b j
theorem mnF_succ {P : Nat → Bool} {c : Nat → Int} {b : Int} {j : Nat} : mnF P c b (j + 1) = if P j then (if mnF P c b j ≤ c j then mnF P c b j else c j) else mnF P c b j := rfl
theorem mnF_cg {P : Nat → Bool} {c c' : Nat → Int} {b : Int} : ∀ n, (∀ j, j < n → P j = true → c j = c' j) → mnF P c b n = mnF P c' b n
  | 0, _ => rfl
  | n + 1, h => by
    rw [mnF_succ, mnF_succ, mnF_cg n (fun j hj => h j (by omega))]
    by_cases q : P n = true
    · rw [if_pos q, if_pos q, h n (by omega) q]
    · rw [if_neg q, if_neg q]
theorem mnF_ge {P : Nat → Bool} {c : Nat → Int} {b x : Int} (hb : x ≤ b) : ∀ n, (∀ j, j < n → P j = true → x ≤ c j) → x ≤ mnF P c b n
  | 0, _ => hb
  | n + 1, h => by
    have ih := mnF_ge (P := P) (c := c) hb n (fun j hj => h j (by omega))
    have h1 := h n (by omega)
    rw [mnF_succ]
    (repeat' split) <;> first | exact ih | (exact h1 (by assumption))
theorem mnF_le {P : Nat → Bool} {c : Nat → Int} {b : Int} : ∀ n, mnF P c b n ≤ b
  | 0 => Int.le_refl _
  | n + 1 => by
    have ih := mnF_le (P := P) (c := c) (b := b) n
    rw [mnF_succ]
    (repeat' split) <;> omega
theorem mnF_1 {P : Nat → Bool} {c : Nat → Int} {b : Int} {k : Nat} (hP : ∀ j, P j = true ↔ j = k) (hc : c k ≤ b) : ∀ n, mnF P c b n = if k < n then c k else b
  | 0 => by simp [mnF]
  | n + 1 => by
    rw [mnF_succ, mnF_1 hP hc n]
    by_cases q : P n = true
    · have e := (hP n).mp q
      rw [if_pos q, if_neg (show ¬ k < n by omega), if_pos (show k < n + 1 by omega), e]
      split <;> omega
    · have e : n ≠ k := fun e => q ((hP n).mpr e)
      rw [if_neg q]
      by_cases w : k < n
      · rw [if_pos w, if_pos (by omega)]
      · rw [if_neg w, if_neg (by omega)]
def stpW (s : Nat) (F : Nat → Int) (W : Nat → Nat → Int) (f : Nat → Nat → Int) (p : Nat) : Nat → Int := fun k => if p.testBit k then (if p ^^^ 2 ^ k = 0 then F k else mnF (fun j => (p ^^^ 2 ^ k).testBit j) (fun j => f (p ^^^ 2 ^ k) j + W j k) 1000000 s) else 0
def wayF (s : Nat) (F : Nat → Int) (W : Nat → Nat → Int) : Nat → Nat → Int := valF (fun _ => 0) (stpW s F W)
theorem wayF_eq {s : Nat} {F : Nat → Int} {W : Nat → Nat → Int} {p k : Nat} (h : p.testBit k = true) : wayF s F W p k = if p ^^^ 2 ^ k = 0 then F k else mnF (fun j => (p ^^^ 2 ^ k).testBit j) (fun j => wayF s F W (p ^^^ 2 ^ k) j + W j k) 1000000 s := by
  have e : wayF s F W p = stpW s F W (wayF s F W) p := valF_eq (fun f g hfg => by
    funext k
    unfold stpW
    by_cases q : p.testBit k = true
    · rw [if_pos q, if_pos q, hfg _ (sb_lt (sb_bit q) (Nat.pos_iff_ne_zero.mp (Nat.two_pow_pos k)))]
    · rw [if_neg q, if_neg q])
  rw [e]
  unfold stpW
  rw [if_pos h]
def rideF (s : Nat) (F : Nat → Int) (W : Nat → Nat → Int) (p : Nat) : Int := mnF (fun k => p.testBit k) (fun k => wayF s F W p k + F k) 1000000 s
def PlG (F : Nat → Int) (W : Nat → Nat → Int) : Prop :=
  (∀ k, 0 ≤ F k ∧ F k ≤ 100) ∧
  (∀ j k, 0 ≤ W j k ∧ W j k ≤ 200) ∧
  (∀ k, W k k = 0) ∧
  (∀ j k, W j k = W k j) ∧
  (∀ m k, F k ≤ F m + W m k) ∧
  (∀ j m k, W j k ≤ W j m + W m k)
theorem PlG_f {F : Nat → Int} {W : Nat → Nat → Int} (h : PlG F  W ) : ∀ k, 0 ≤ F k ∧ F k ≤ 100 := h.1
theorem PlG_w {F : Nat → Int} {W : Nat → Nat → Int} (h : PlG F  W ) : ∀ j k, 0 ≤ W j k ∧ W j k ≤ 200 := h.2.1
theorem PlG_w0 {F : Nat → Int} {W : Nat → Nat → Int} (h : PlG F  W ) : ∀ k, W k k = 0 := h.2.2.1
theorem PlG_sy {F : Nat → Int} {W : Nat → Nat → Int} (h : PlG F  W ) : ∀ j k, W j k = W k j := h.2.2.2.1
theorem PlG_t1 {F : Nat → Int} {W : Nat → Nat → Int} (h : PlG F  W ) : ∀ m k, F k ≤ F m + W m k := h.2.2.2.2.1
theorem PlG_t2 {F : Nat → Int} {W : Nat → Nat → Int} (h : PlG F  W ) : ∀ j m k, W j k ≤ W j m + W m k := h.2.2.2.2.2
theorem wayF_rg {s : Nat} {F : Nat → Int} {W : Nat → Nat → Int} (h : PlG F W) : ∀ (t p k : Nat), p ≤ t → p.testBit k = true → (∀ j, p.testBit j = true → F j + W j k ≤ wayF s F W p k) ∧ wayF s F W p k ≤ 1000000 := by
  intro t
  induction t with
  | zero =>
    intro p k hp hk
    have : p = 0 := by omega
    subst this
    rw [Nat.zero_testBit] at hk
    cases hk
  | succ t ih =>
    intro p k hp hk
    have hlt := sb_lt (sb_bit hk) (Nat.pos_iff_ne_zero.mp (Nat.two_pow_pos k))
    have hf := PlG_f h k
    rw [wayF_eq hk]
    by_cases e : p ^^^ 2 ^ k = 0
    · rw [if_pos e]
      refine ⟨fun j hj => ?_, by omega⟩
      have := congrArg (fun z => z.testBit j) e
      simp only [sb_x, Nat.zero_testBit, hj] at this
      have : k = j := by simpa using this
      subst this
      rw [PlG_w0 h]
      omega
    · rw [if_neg e]
      refine ⟨fun j hj => mnF_ge (by have := PlG_f h j; have := PlG_w h j k; omega) _ (fun m hm q => ?_), mnF_le _⟩
      have r := (ih (p ^^^ 2 ^ k) m (by omega) q).1
      by_cases w : k = j
      · subst w
        have r1 := r m q
        have r2 := PlG_t1 h m k
        have r3 := PlG_w0 h m
        rw [PlG_w0 h]
        omega
      · have r1 := r j (by rw [sb_x, hj]; simp [w])
        have r2 := PlG_t2 h j m k
        omega
theorem wayF_bd {s : Nat} {F : Nat → Int} {W : Nat → Nat → Int} (h : PlG F W) {p k : Nat} (hk : p.testBit k = true) : 0 ≤ wayF s F W p k ∧ wayF s F W p k ≤ 1000000 := by
  have r := wayF_rg (s := s) h p p k (Nat.le_refl _) hk
  have r1 := r.1 k hk
  have := PlG_f h k
  have := PlG_w h k k
  exact ⟨by omega, r.2⟩
theorem rideF_bd {s : Nat} {F : Nat → Int} {W : Nat → Nat → Int} (h : PlG F W) {p : Nat} : 0 ≤ rideF s F W p ∧ rideF s F W p ≤ 1000000 := by
  refine ⟨mnF_ge (by omega) _ (fun k hk q => ?_), mnF_le _⟩
  have := wayF_bd (s := s) h q
  have := PlG_f h k
  omega
theorem rideF_one {s : Nat} {F : Nat → Int} {W : Nat → Nat → Int} (h : PlG F W) {k : Nat} (hk : k < s) : rideF s F W (2 ^ k) = 2 * F k := by
  have hf := PlG_f h k
  have e : wayF s F W (2 ^ k) k = F k := by rw [wayF_eq Nat.testBit_two_pow_self, Nat.xor_self, if_pos rfl]
  unfold rideF
  rw [mnF_1 (k := k) (fun j => by rw [Nat.testBit_two_pow]; simp; exact eq_comm) (by rw [e]; omega), if_pos hk, e]
  omega
theorem rideF_ge {s : Nat} {F : Nat → Int} {W : Nat → Nat → Int} (h : PlG F W) {p k : Nat} (hk : k < s) (q : p.testBit k = true) : rideF s F W (2 ^ k) ≤ rideF s F W p := by
  have hf := PlG_f h k
  rw [rideF_one h hk]
  refine mnF_ge (by omega) _ (fun m hm qm => ?_)
  have r := (wayF_rg (s := s) h p p m (Nat.le_refl _) qm).1 k q
  have t := PlG_t1 h m k
  have t2 := PlG_sy h m k
  omega
/-! days -/
def gD (rd : Nat → Int) (mo : Int) (f : Nat → Int × Int) (p t : Nat) (x : Int × Int) : Int × Int := if rd t ≤ mo then (if (f (p ^^^ t)).1 + 1 < x.1 ∨ ((f (p ^^^ t)).1 + 1 = x.1 ∧ (f (p ^^^ t)).2 + rd t < x.2) then ((f (p ^^^ t)).1 + 1, (f (p ^^^ t)).2 + rd t) else x) else x
def stpD (rd : Nat → Int) (mo : Int) (f : Nat → Int × Int) (p : Nat) : Int × Int := if p = 0 then (0, 0) else itS p (gD rd mo f p) p p (1000000, 1000000)
def dysF (rd : Nat → Int) (mo : Int) : Nat → Int × Int := valF (0, 0) (stpD rd mo)
theorem dysF_eq {rd : Nat → Int} {mo : Int} {p : Nat} (h : p ≠ 0) : dysF rd mo p = itS p (gD rd mo (dysF rd mo) p) p p (1000000, 1000000) := by
  have e : dysF rd mo p = stpD rd mo (dysF rd mo) p := valF_eq (fun f g hfg => by
    unfold stpD
    rw [if_neg h, if_neg h]
    refine itS_cg (fun t x h0 ht => ?_) _ _ _ (Nat.and_self p)
    unfold gD
    rw [hfg _ (sb_lt ht h0)])
  rw [e]
  unfold stpD
  rw [if_neg h]
theorem dysF_0 {rd : Nat → Int} {mo : Int} : dysF rd mo 0 = (0, 0) := rfl
def okS (s : Nat) (rd : Nat → Int) (mo : Int) : Prop := ∀ k, k < s → rd (2 ^ k) ≤ mo
theorem cnt_x {p k s : Nat} (hk : k < s) (h : p.testBit k = true) : cntB (fun i => p.testBit i) s = cntB (fun i => (p ^^^ 2 ^ k).testBit i) s + 1 := by
  refine cntB_one (b0 := k) h (by rw [sb_x, h]; simp) s hk (fun b hb e => ?_)
  rw [sb_x, decide_eq_false (fun z : k = b => e z.symm)]
  cases p.testBit b <;> rfl
theorem bit_lt {p s i : Nat} (hp : p < 2 ^ s) (h : p.testBit i = true) : i < s := by
  by_cases q : i < s
  · exact q
  · rw [Nat.testBit_lt_two_pow (Nat.lt_of_lt_of_le hp (Nat.pow_le_pow_right (by decide) (by omega)))] at h
    cases h
/-- what stands while days are told -/
def okX (x : Int × Int) : Prop := x = (1000000, 1000000) ∨ (1 ≤ x.1 ∧ x.1 ≤ 9 ∧ 0 ≤ x.2 ∧ x.2 ≤ 999 * x.1)
theorem gD_ok {rd : Nat → Int} {mo : Int} {p t : Nat} {x : Int × Int} (hm : mo ≤ 999) (hrd : 0 ≤ rd t) (hf : 0 ≤ (dysF rd mo (p ^^^ t)).1 ∧ (dysF rd mo (p ^^^ t)).1 ≤ 8 ∧ 0 ≤ (dysF rd mo (p ^^^ t)).2 ∧ (dysF rd mo (p ^^^ t)).2 ≤ 999 * (dysF rd mo (p ^^^ t)).1) (hx : okX x) : okX (gD rd mo (dysF rd mo) p t x) := by
  unfold gD
  (repeat' split)
  · exact Or.inr ⟨by dsimp only; omega, by dsimp only; omega, by dsimp only; omega, by dsimp only; omega⟩
  · exact hx
  · exact hx
theorem dysF_ok {s : Nat} {rd : Nat → Int} {mo : Int} (hs : s ≤ 8) (hm : mo ≤ 999) (hrd : ∀ t, 0 ≤ rd t) (ok : okS s rd mo) : ∀ (u p : Nat), p ≤ u → p < 2 ^ s → 0 ≤ (dysF rd mo p).1 ∧ (dysF rd mo p).1 ≤ cntB (fun i => p.testBit i) s ∧ 0 ≤ (dysF rd mo p).2 ∧ (dysF rd mo p).2 ≤ 999 * (dysF rd mo p).1 ∧ (p ≠ 0 → 1 ≤ (dysF rd mo p).1) := by
  intro u
  induction u with
  | zero =>
    intro p hu hp
    have : p = 0 := by omega
    subst this
    rw [dysF_0]
    refine ⟨by decide, by simp, by decide, by decide, fun h => absurd rfl h⟩
  | succ u ih =>
    intro p hu hp
    by_cases p0 : p = 0
    · subst p0
      rw [dysF_0]
      exact ⟨by decide, by simp, by decide, by decide, fun h => absurd rfl h⟩
    have h256 := p_le8 hs
    have sub : ∀ t, t ≠ 0 → t &&& p = t → 0 ≤ (dysF rd mo (p ^^^ t)).1 ∧ (dysF rd mo (p ^^^ t)).1 ≤ 8 ∧ 0 ≤ (dysF rd mo (p ^^^ t)).2 ∧ (dysF rd mo (p ^^^ t)).2 ≤ 999 * (dysF rd mo (p ^^^ t)).1 := fun t h0 ht => by
      have hlt := sb_lt ht h0
      have r := ih (p ^^^ t) (by omega) (by omega)
      have := cntB_le (P := fun i => (p ^^^ t).testBit i) s
      exact ⟨r.1, by omega, r.2.2.1, r.2.2.2.1⟩
    have hx : okX (dysF rd mo p) := by
      rw [dysF_eq p0]
      exact itS_inv okX (fun t x h0 ht hx => gD_ok hm (hrd t) (sub t h0 ht) hx) _ _ _ (Nat.and_self p) (Or.inl rfl)
    obtain ⟨j, y, hj, ey⟩ := itS_last (g := gD rd mo (dysF rd mo) p) (show p < 256 by omega) p p (1000000, 1000000) (Nat.and_self p) p0 (Nat.le_refl p)
    rw [← dysF_eq p0] at ey
    have hjs := bit_lt hp hj
    have hlt := sb_lt (sb_bit hj) (Nat.pos_iff_ne_zero.mp (Nat.two_pow_pos j))
    have r := ih (p ^^^ 2 ^ j) (by omega) (by omega)
    have hc := cnt_x hjs hj
    have hc8 := cntB_le (P := fun i => p.testBit i) s
    have hle : (dysF rd mo p).1 ≤ (dysF rd mo (p ^^^ 2 ^ j)).1 + 1 := by
      rw [ey]
      unfold gD
      rw [if_pos (ok j hjs)]
      split
      · exact Int.le_refl _
      · omega
    rcases hx with e | ⟨e1, e2, e3, e4⟩
    · rw [e] at hle
      dsimp only at hle
      omega
    · exact ⟨by omega, by omega, e3, e4, fun _ => e1⟩
theorem dysF_far {s : Nat} {rd : Nat → Int} {mo : Int} {k : Nat} (hk : mo < rd (2 ^ k)) (hrd : ∀ p, p < 2 ^ s → p.testBit k = true → rd (2 ^ k) ≤ rd p) : ∀ (u p : Nat), p ≤ u → p < 2 ^ s → p.testBit k = true → dysF rd mo p = (1000000, 1000000) := by
  intro u
  induction u with
  | zero =>
    intro p hu hp q
    have : p = 0 := by omega
    subst this
    rw [Nat.zero_testBit] at q
    cases q
  | succ u ih =>
    intro p hu hp q
    have p0 : p ≠ 0 := fun e => by subst e; rw [Nat.zero_testBit] at q; cases q
    rw [dysF_eq p0]
    refine itS_inv (fun x => x = (1000000, 1000000)) (fun t x h0 ht hx => ?_) _ _ _ (Nat.and_self p) rfl
    subst hx
    unfold gD
    have htp : t ≤ p := by rw [← ht]; exact Nat.and_le_right
    by_cases w : rd t ≤ mo
    · rw [if_pos w]
      have nk : t.testBit k = false := by
        cases e : t.testBit k with
        | false => rfl
        | true => have := hrd t (by omega) e; omega
      have hlt := sb_lt ht h0
      have r := ih (p ^^^ t) (by omega) (by omega) (by rw [Nat.testBit_xor, q, nk]; rfl)
      rw [r, if_neg (by dsimp only; omega)]
    · rw [if_neg w]
/-- the first day of a plan -/
def fdB (rd : Nat → Int) (mo : Int) (p t : Nat) : Bool := decide (1 ≤ t) && (decide (t &&& p = t) && (decide (rd t ≤ mo) && (decide ((dysF rd mo (p ^^^ t)).1 + 1 = (dysF rd mo p).1) && decide ((dysF rd mo (p ^^^ t)).2 + rd t = (dysF rd mo p).2))))
def fdF (rd : Nat → Int) (mo : Int) (p : Nat) : Nat := (frsF (fdB rd mo p) (p + 1)).toNat
def lfF (rd : Nat → Int) (mo : Int) (all : Nat) : Nat → Nat
  | 0 => all
  | d + 1 => lfF rd mo all d ^^^ fdF rd mo (lfF rd mo all d)
theorem fdB_ex {s : Nat} {rd : Nat → Int} {mo : Int} (hs : s ≤ 8) (hm : mo ≤ 999) (hrd : ∀ t, 0 ≤ rd t) (ok : okS s rd mo) {p : Nat} (hp : p < 2 ^ s) (p0 : p ≠ 0) : ∃ t, t < p + 1 ∧ fdB rd mo p t = true := by
  have hx : dysF rd mo p = (1000000, 1000000) ∨ ∃ t, t < p + 1 ∧ 1 ≤ t ∧ t &&& p = t ∧ rd t ≤ mo ∧ ((dysF rd mo (p ^^^ t)).1 + 1, (dysF rd mo (p ^^^ t)).2 + rd t) = dysF rd mo p := by
    have := itS_inv (p := p) (g := gD rd mo (dysF rd mo) p) (fun x => x = (1000000, 1000000) ∨ ∃ t, t < p + 1 ∧ 1 ≤ t ∧ t &&& p = t ∧ rd t ≤ mo ∧ ((dysF rd mo (p ^^^ t)).1 + 1, (dysF rd mo (p ^^^ t)).2 + rd t) = x) (fun t x h0 ht hx => by
      have htp : t ≤ p := by rw [← ht]; exact Nat.and_le_right
      unfold gD
      split
      · split
        · exact Or.inr ⟨t, by omega, by omega, ht, by assumption, rfl⟩
        · exact hx
      · exact hx) p p (1000000, 1000000) (Nat.and_self p) (Or.inl rfl)
    rw [← dysF_eq p0] at this
    exact this
  have r := dysF_ok hs hm hrd ok p p (Nat.le_refl p) hp
  have hc8 := cntB_le (P := fun i => p.testBit i) s
  rcases hx with e | ⟨t, h1, h2, h3, h4, e⟩
  · rw [e] at r
    dsimp only at r
    omega
  · refine ⟨t, h1, ?_⟩
    unfold fdB
    rw [decide_eq_true h2, decide_eq_true h3, decide_eq_true h4, ← e]
    simp
theorem fdF_0 {rd : Nat → Int} {mo : Int} : fdF rd mo 0 = 0 := by
  have : frsF (fdB rd mo 0) 1 = -1 := frsF_no 1 (fun j hj => by
    rw [show j = 0 by omega]
    rfl)
  unfold fdF
  rw [this]
  rfl
theorem fdF_is {rd : Nat → Int} {mo : Int} {p t : Nat} (h : ∀ j, j < t → fdB rd mo p j = false) (ht : t < p + 1) (q : fdB rd mo p t = true) : fdF rd mo p = t := by
  unfold fdF
  rw [frsF_at h q _ ht]
  omega
theorem fdF_sub {rd : Nat → Int} {mo : Int} {p : Nat} : fdF rd mo p &&& p = fdF rd mo p := by
  unfold fdF
  rcases frsF_rg (P := fdB rd mo p) (p + 1) with e | ⟨t, h1, e, q⟩
  · rw [e]; exact Nat.zero_and _
  · rw [e]
    unfold fdB at q
    simp only [Bool.and_eq_true, decide_eq_true_eq] at q
    exact q.2.1
theorem lfF_lt {rd : Nat → Int} {mo : Int} {all n : Nat} (h : all < n) : ∀ d, lfF rd mo all d < n
  | 0 => h
  | d + 1 => Nat.lt_of_le_of_lt (sb_le fdF_sub) (lfF_lt h d)
theorem lfF_0 {rd : Nat → Int} {mo : Int} {all : Nat} {d : Nat} (h : lfF rd mo all d = 0) : ∀ m, lfF rd mo all (d + m) = 0
  | 0 => h
  | m + 1 => by
    show lfF rd mo all (d + m) ^^^ fdF rd mo (lfF rd mo all (d + m)) = 0
    rw [lfF_0 h m, fdF_0]
    rfl
theorem lfF_8 {s : Nat} {rd : Nat → Int} {mo : Int} (hs : s ≤ 8) (hm : mo ≤ 999) (hrd : ∀ t, 0 ≤ rd t) (ok : okS s rd mo) {all : Nat} (ha : all < 2 ^ s) : ∀ d, (dysF rd mo (lfF rd mo all d)).1 ≤ 8 - (d : Int) ∨ lfF rd mo all d = 0
  | 0 => by
    have r := dysF_ok hs hm hrd ok all all (Nat.le_refl _) ha
    have hc8 := cntB_le (P := fun i => all.testBit i) s
    exact Or.inl (show (dysF rd mo all).1 ≤ _ by omega)
  | d + 1 => by
    rcases lfF_8 hs hm hrd ok ha d with h | h
    · by_cases p0 : lfF rd mo all d = 0
      · exact Or.inr (lfF_0 p0 1)
      · have hlt := lfF_lt (rd := rd) (mo := mo) ha d
        obtain ⟨t, h1, h2⟩ := fdB_ex hs hm hrd ok hlt p0
        rcases frsF_rg (P := fdB rd mo (lfF rd mo all d)) (lfF rd mo all d + 1) with e | ⟨t', h1', e, q⟩
        · have key : ∀ n, frsF (fdB rd mo (lfF rd mo all d)) n = -1 → ∀ j, j < n → fdB rd mo (lfF rd mo all d) j = false := by
            intro n
            induction n with
            | zero => exact fun _ j hj => absurd hj (by omega)
            | succ n ihn =>
              intro q j hj
              unfold frsF at q
              by_cases w : frsF (fdB rd mo (lfF rd mo all d)) n = -1
              · rw [if_pos w] at q
                by_cases y : j = n
                · subst y
                  cases z : fdB rd mo (lfF rd mo all d) j with
                  | false => rfl
                  | true => rw [z, if_pos rfl] at q; omega
                · exact ihn w j (by omega)
              · rw [if_neg w] at q; exact absurd q w
          rw [key _ e t h1] at h2
          cases h2
        · left
          show (dysF rd mo (lfF rd mo all d ^^^ fdF rd mo (lfF rd mo all d))).1 ≤ _
          have : fdF rd mo (lfF rd mo all d) = t' := by unfold fdF; rw [e]; omega
          rw [this]
          unfold fdB at q
          simp only [Bool.and_eq_true, decide_eq_true_eq] at q
          have := q.2.2.2.1
          omega
    · exact Or.inr (lfF_0 h 1)
theorem lfF_end {s : Nat} {rd : Nat → Int} {mo : Int} (hs : s ≤ 8) (hm : mo ≤ 999) (hrd : ∀ t, 0 ≤ rd t) (ok : okS s rd mo) {all : Nat} (ha : all < 2 ^ s) {d : Nat} (hd : 8 ≤ d) : lfF rd mo all d = 0 := by
  rcases lfF_8 hs hm hrd ok ha d with h | h
  · by_cases p0 : lfF rd mo all d = 0
    · exact p0
    · have r := dysF_ok hs hm hrd ok _ _ (Nat.le_refl _) (lfF_lt (rd := rd) (mo := mo) ha d)
      have := r.2.2.2.2 p0
      omega
  · exact h
