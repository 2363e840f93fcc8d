/-! how the machine's numbers are read: plain integers, where they are small -/
theorem x_add {a b : Int} (h : -2147483648 ≤ a + b ∧ a + b < 2147483648) : a_add a b = a + b := by
  unfold a_add
  rw [← Int32.ofInt_add, Int32.toInt_ofInt_of_le h.1 h.2]
theorem x_sub {a b : Int} (h : -2147483648 ≤ a - b ∧ a - b < 2147483648) : a_sub a b = a - b := by
  unfold a_sub
  rw [← Int32.ofInt_sub, Int32.toInt_ofInt_of_le h.1 h.2]
theorem x_mul {a b : Int} (h : -2147483648 ≤ a * b ∧ a * b < 2147483648) : a_mul a b = a * b := by
  unfold a_mul
  rw [← Int32.ofInt_mul, Int32.toInt_ofInt_of_le h.1 h.2]
theorem x_nI {a : Int} (h0 : 0 ≤ a) (h1 : a < 2147483648) : Int32.ofInt a = nI a.toNat := by
  unfold nI
  apply Int32.toInt_inj.mp
  rw [Int32.toInt_ofInt_of_le (by omega) h1, Int32.toInt_ofNat_of_lt (by omega)]
  omega
theorem x_div {a b : Int} (ha : 0 ≤ a) (ha1 : a < 2147483648) (hb : 0 < b) (hb1 : b < 2147483648) : a_div a b = a / b := by
  unfold a_div
  rw [x_nI ha ha1, x_nI (by omega) hb1, pk_div (by omega) (by omega) (by omega), nI_toInt (by have := Nat.div_le_self a.toNat b.toNat; omega)]
  rw [Int.natCast_ediv, Int.toNat_of_nonneg ha, Int.toNat_of_nonneg (by omega)]
theorem x_rem {a b : Int} (ha : 0 ≤ a) (ha1 : a < 2147483648) (hb : 0 < b) (hb1 : b < 2147483648) : a_rem a b = a % b := by
  unfold a_rem
  rw [x_nI ha ha1, x_nI (by omega) hb1, pk_rem (by omega) (by omega) (by omega), nI_toInt (by have := Nat.mod_lt a.toNat (show 0 < b.toNat by omega); omega)]
  rw [Int.natCast_emod, Int.toNat_of_nonneg ha, Int.toNat_of_nonneg (by omega)]
theorem x_neg {a : Int} (h : -2147483648 < a ∧ a < 2147483648) : a_neg a = -a := by
  unfold a_neg
  rw [← Int32.ofInt_neg, Int32.toInt_ofInt_of_le (by omega) (by omega)]
/-- one place written -/
theorem x_us {M : AM} {k : Nat} {i z : Int} : am_up M k i z k i = z := by simp [am_up]
theorem x_uc {M : AM} {k k' : Nat} {i i' z : Int} (h : k' ≠ k) : am_up M k i z k' i' = M k' i' := by simp [am_up, h]
theorem x_ui {M : AM} {k : Nat} {i i' z : Int} : am_up M k i z k i' = if i' = i then z else M k i' := by simp [am_up]
/-- a method's answer -/
theorem x_ret {P : Int → AM → Prop} {z : Int} {M : AM} (h : P z M) : ∃ z' : Int, (some (aI z) : Option AV) = some (aI z') ∧ P z' M := ⟨z, rfl, h⟩
/-- a Boolean put in at once -/
theorem a_bl_t {P : Prop} [Decidable P] (h : P) : a_bl P = 1 := by unfold a_bl; exact if_pos h
theorem a_bl_f {P : Prop} [Decidable P] (h : ¬ P) : a_bl P = 0 := by unfold a_bl; exact if_neg h
