/-! THE ABSTRACT MACHINE IS SOUND: what it runs, the methods run. First the worlds. -/
def aR32 (z : Int) : Prop := -2147483648 ≤ z ∧ z < 2147483648
def aR64 (z : Int) : Prop := -9223372036854775808 ≤ z ∧ z < 9223372036854775808
theorem aR32_of (x : Int32) : aR32 x.toInt := by
  have h1 := Int32.minValue_le_toInt x
  have h2 := Int32.toInt_lt x
  simp [aR32, Int32.minValue] at *
  omega
theorem aR64_of (x : Int64) : aR64 x.toInt := by
  have h1 := Int64.minValue_le_toInt x
  have h2 := Int64.toInt_lt x
  simp [aR64, Int64.minValue] at *
  omega
theorem a32_t {z : Int} (h : aR32 z) : (Int32.ofInt z).toInt = z := Int32.toInt_ofInt_of_le h.1 h.2
theorem a64_t {z : Int} (h : aR64 z) : (Int64.ofInt z).toInt = z := Int64.toInt_ofInt_of_le h.1 h.2
theorem a32_o (x : Int32) : Int32.ofInt x.toInt = x := Int32.ofInt_toInt x
theorem a64_o (x : Int64) : Int64.ofInt x.toInt = x := Int64.ofInt_toInt x
theorem a32_lt {a b : Int} (ha : aR32 a) (hb : aR32 b) : Int32.ofInt a < Int32.ofInt b ↔ a < b := by rw [Int32.lt_iff_toInt_lt, a32_t ha, a32_t hb]
theorem a32_le {a b : Int} (ha : aR32 a) (hb : aR32 b) : Int32.ofInt a ≤ Int32.ofInt b ↔ a ≤ b := by rw [Int32.le_iff_toInt_le, a32_t ha, a32_t hb]
theorem a32_eq {a b : Int} (ha : aR32 a) (hb : aR32 b) : Int32.ofInt a = Int32.ofInt b ↔ a = b := by rw [← Int32.toInt_inj, a32_t ha, a32_t hb]
theorem a64_lt {a b : Int} (ha : aR64 a) (hb : aR64 b) : Int64.ofInt a < Int64.ofInt b ↔ a < b := by rw [Int64.lt_iff_toInt_lt, a64_t ha, a64_t hb]
theorem a64_eq {a b : Int} (ha : aR64 a) (hb : aR64 b) : Int64.ofInt a = Int64.ofInt b ↔ a = b := by rw [← Int64.toInt_inj, a64_t ha, a64_t hb]
/-- an index that is within -/
theorem a32_ix {i : Int} {n : Nat} (h0 : 0 ≤ i) (h1 : i < n) (hr : aR32 i) : vp_in (Int32.ofInt i) n ∧ (Int32.ofInt i).toNatClampNeg = i.toNat := by
  have e : (Int32.ofInt i).toInt = i := a32_t hr
  refine ⟨vp_in_iff.mpr (by rw [e]; exact ⟨h0, h1⟩), ?_⟩
  rw [← Int32.toNat_toInt, e]
section AW
variable (G : AG) (ad : Nat → Nat) (cA : Nat → ClassId) (nc : Nat)
def a_isL (q : Nat) : Bool := match G.1 q with
  | .inr (.inl (3, _)) => true
  | _ => false
/-- the values of an object's fields, from the place j on -/
def aw_fv (M : AM) (q : Nat) : Nat → List Nat → List Value
  | _, [] => []
  | j, f :: fs => (match f with
    | k + 2 => .ref (ad k)
    | _ => .int (Int32.ofInt (M q j))) :: aw_fv M q (j + 1) fs
def aw_e (M : AM) (q : Nat) : va_E := match G.1 q with
  | .inl (ci, fs) => .inr (ci, aw_fv ad M q 0 fs)
  | .inr (.inl (3, n)) => .inl (cA 3, n, .inr (.inl (fun j => Int64.ofInt (M q j))))
  | .inr (.inl (t, n)) => .inl (cA t, n, .inl (fun j => Int32.ofInt (M q j)))
  | .inr (.inr (.inl (n, _, base))) => .inl (cA 4, n, .inr (.inr (.inr (.inr (fun i => if i < n then some (ad (base + i)) else none)))))
  | .inr (.inr (.inr (.inl (k, r, len)))) => .inl (cA 0, len, .inl (fun j => if j < len then Int32.ofInt (M k (r * len + j)) else 0))
  | .inr (.inr (.inr (.inr _))) => .inr (0, [])
/-- the world that a store stands for -/
def aw (M : AM) : va_W := (List.range nc).map fun q => (ad q, aw_e G ad cA M q)
/-- the kinds fit each other -/
def aGW : Prop := (∀ q k r len, G.1 q = kW k r len → ∃ n base, G.1 k = kR n len base ∧ q = base + r ∧ r < n) ∧ (∀ k n len base, G.1 k = kR n len base → ∀ r, r < n → base + r < nc ∧ G.1 (base + r) = kW k r len) ∧ (∀ q, nc ≤ q → ∃ cs, G.1 q = kC cs) ∧ (∀ q cs, G.1 q = kC cs → ∀ z ∈ cs, aR32 z) ∧ (∀ q t n, G.1 q = kA t n → t ≤ 3 ∧ n < 2 ^ 31)
def a_rb (k : Nat) : Nat := match G.1 k with
  | .inr (.inr (.inl (_, _, b))) => b
  | _ => 0
/-- a value as the JVM has it -/
def acv (v : AV) : Value := match v with
  | .inl z => .int (Int32.ofInt z)
  | .inr (.inl z) => .long (Int64.ofInt z)
  | .inr (.inr (.inl k)) => .ref (ad k)
  | .inr (.inr (.inr (.inl (k, i)))) => .ref (ad (a_rb G k + i.toNat))
  | .inr (.inr (.inr (.inr k))) => .ref (ad (5000 + k))
def aOKV (ns : Nat) (v : AV) : Prop := match v with
  | .inl z => aR32 z
  | .inr (.inl z) => aR64 z
  | .inr (.inr (.inl _)) => True
  | .inr (.inr (.inr (.inl (k, i)))) => ∃ n len base, G.1 k = kR n len base ∧ 0 ≤ i ∧ i < n
  | .inr (.inr (.inr (.inr k))) => k < ns
def aOKM (M : AM) : Prop := ∀ q i, (a_isL G q = true → aR64 (M q i)) ∧ (a_isL G q = false → aR32 (M q i))
variable {G ad cA nc}
theorem aw_at {M : AM} {q : Nat} (h : q < nc) : (aw G ad cA nc M)[q]? = some (ad q, aw_e G ad cA M q) := by simp [aw, h]
theorem aw_in {q : Nat} (hG : aGW G nc) (h : ∀ cs, G.1 q ≠ kC cs) : q < nc := by
  rcases Nat.lt_or_ge q nc with h1 | h1
  · exact h1
  · obtain ⟨cs, h2⟩ := hG.2.2.1 q h1
    exact absurd h2 (h cs)
theorem aw_fv_get {M : AM} {q : Nat} : ∀ (fs : List Nat) (j k : Nat), (aw_fv ad M q j fs)[k]? = match fs[k]? with
    | none => none
    | some (c + 2) => some (.ref (ad c))
    | some _ => some (.int (Int32.ofInt (M q ((j + k : Nat) : Int)))) := by
  intro fs
  induction fs with
  | nil => intro j k; simp [aw_fv]
  | cons f fs ih =>
    intro j k
    cases k with
    | zero => cases f with
      | zero => simp [aw_fv]
      | succ f => cases f <;> simp [aw_fv]
    | succ k =>
      simp only [aw_fv, List.getElem?_cons_succ, ih]
      rw [show j + 1 + k = j + (k + 1) by omega]
theorem aw_fv_len {M : AM} {q : Nat} : ∀ (fs : List Nat) (j : Nat), (aw_fv ad M q j fs).length = fs.length := by
  intro fs
  induction fs with
  | nil => intro j; rfl
  | cons f fs ih => intro j; simp [aw_fv, ih]
/-- a store written in one place is a world written in one cell -/
theorem aw_set {M : AM} {k q : Nat} {i z : Int} (h : ∀ q', q' < nc → q' ≠ q → aw_e G ad cA (am_up M k i z) q' = aw_e G ad cA M q') : aw G ad cA nc (am_up M k i z) = (aw G ad cA nc M).set q (ad q, aw_e G ad cA (am_up M k i z) q) := by
  apply List.ext_getElem?
  intro j
  by_cases hj : j < nc
  · rw [aw_at hj, List.getElem?_set]
    by_cases e : q = j
    · subst e
      simp [aw, hj]
    · rw [if_neg e, aw_at hj, h j hj (fun x => e x.symm)]
  · rw [List.getElem?_eq_none (by simp [aw]; omega), List.getElem?_eq_none (by simp [aw]; omega)]
theorem aw_other {M : AM} {k : Nat} {i z : Int} {q : Nat} (hG : aGW G nc) (hk : ∀ n len base, G.1 k ≠ kR n len base) (hq : q ≠ k) : aw_e G ad cA (am_up M k i z) q = aw_e G ad cA M q := by
  unfold aw_e
  split
  next ci fs e =>
    congr 2
    apply List.ext_getElem?
    intro j
    rw [aw_fv_get, aw_fv_get]
    simp [am_up, hq]
  next n e => simp [am_up, hq]
  next t n _ e => simp [am_up, hq]
  next n _ base e => rfl
  next k' r len e =>
    obtain ⟨n, base, e2, -⟩ := hG.1 q k' r len e
    have hne : k' ≠ k := fun x => hk n len base (x ▸ e2)
    simp [am_up, hne]
  next => rfl
theorem aw_otherR {M : AM} {k n len base r : Nat} {j z : Int} {q : Nat} (hG : aGW G nc) (hk : G.1 k = kR n len base) (hr : r < n) (h0 : 0 ≤ j) (h1 : j < len) (hq : q ≠ base + r) : aw_e G ad cA (am_up M k (r * len + j) z) q = aw_e G ad cA M q := by
  unfold aw_e
  split
  next ci fs e =>
    have hne : q ≠ k := fun x => by rw [x, hk] at e; cases e
    congr 2
    apply List.ext_getElem?
    intro j
    rw [aw_fv_get, aw_fv_get]
    simp [am_up, hne]
  next m e =>
    have hne : q ≠ k := fun x => by rw [x, hk] at e; cases e
    simp [am_up, hne]
  next t m _ e =>
    have hne : q ≠ k := fun x => by rw [x, hk] at e; cases e
    simp [am_up, hne]
  next m _ b e => rfl
  next k' r' len' e =>
    obtain ⟨n', b', e2, e3, e4⟩ := hG.1 q k' r' len' e
    by_cases hkk : k' = k
    · subst hkk
      rw [hk] at e2
      cases e2
      have hrr : r' ≠ r := fun x => hq (by rw [e3, x])
      congr 4
      funext j'
      by_cases hj : j' < len
      · rw [if_pos hj, if_pos hj]
        have : ¬ ((r' : Int) * len + j' = r * len + j) := by
          intro x
          have h4 : ((r' : Int) - r) * len = j - j' := by rw [Int.sub_mul]; omega
          rcases Int.lt_or_gt_of_ne (show (r' : Int) ≠ r by omega) with g | g
          · have : ((r' : Int) - r) * len ≤ -1 * len := Int.mul_le_mul_of_nonneg_right (by omega) (by omega)
            omega
          · have : 1 * (len : Int) ≤ ((r' : Int) - r) * len := Int.mul_le_mul_of_nonneg_right (by omega) (by omega)
            omega
        simp [am_up, this]
      · rw [if_neg hj, if_neg hj]
    · simp [am_up, hkk]
  next => rfl
theorem aOKM_up {M : AM} {k : Nat} {i z : Int} (h : aOKM G M) (hz : (a_isL G k = true → aR64 z) ∧ (a_isL G k = false → aR32 z)) : aOKM G (am_up M k i z) := by
  intro q j
  unfold am_up
  by_cases hc : q = k ∧ j = i
  · rw [if_pos hc, hc.1]; exact hz
  · rw [if_neg hc]; exact h q j
end AW
