/-! BITS: ints as sets of small numbers -/
theorem b_bv (n : Nat) : (Int32.ofInt (n : Int)).toBitVec = BitVec.ofNat 32 n := by
  show BitVec.ofInt 32 (n : Int) = _
  exact BitVec.ofInt_natCast 32 n
theorem b_int (x : Int32) (h : x.toBitVec.toNat < 2147483648) : x.toInt = x.toBitVec.toNat := by
  show x.toBitVec.toInt = _
  rw [BitVec.toInt_eq_toNat_of_lt (by omega)]
theorem b_or {n m : Nat} (hn : n < 2147483648) (hm : m < 2147483648) : a_or n m = ((n ||| m : Nat) : Int) := by
  unfold a_or
  have h : (Int32.ofInt (n : Int) ||| Int32.ofInt (m : Int)).toBitVec.toNat = n ||| m := by
    rw [Int32.toBitVec_or, b_bv, b_bv, BitVec.toNat_or, BitVec.toNat_ofNat, BitVec.toNat_ofNat, Nat.mod_eq_of_lt (by omega), Nat.mod_eq_of_lt (by omega)]
  have hl : n ||| m < 2147483648 := Nat.or_lt_two_pow (n := 31) hn hm
  rw [b_int _ (by rw [h]; exact hl), h]
theorem b_and {n m : Nat} (hn : n < 2147483648) (hm : m < 2147483648) : a_and n m = ((n &&& m : Nat) : Int) := by
  unfold a_and
  have h : (Int32.ofInt (n : Int) &&& Int32.ofInt (m : Int)).toBitVec.toNat = n &&& m := by
    rw [Int32.toBitVec_and, b_bv, b_bv, BitVec.toNat_and, BitVec.toNat_ofNat, BitVec.toNat_ofNat, Nat.mod_eq_of_lt (by omega), Nat.mod_eq_of_lt (by omega)]
  have hl : n &&& m ≤ n := Nat.and_le_left
  rw [b_int _ (by rw [h]; omega), h]
theorem b_xor {n m : Nat} (hn : n < 2147483648) (hm : m < 2147483648) : a_xor n m = ((n ^^^ m : Nat) : Int) := by
  unfold a_xor
  have h : (Int32.ofInt (n : Int) ^^^ Int32.ofInt (m : Int)).toBitVec.toNat = n ^^^ m := by
    rw [Int32.toBitVec_xor, b_bv, b_bv, BitVec.toNat_xor, BitVec.toNat_ofNat, BitVec.toNat_ofNat, Nat.mod_eq_of_lt (by omega), Nat.mod_eq_of_lt (by omega)]
  have hl : n ^^^ m < 2147483648 := Nat.xor_lt_two_pow (n := 31) hn hm
  rw [b_int _ (by rw [h]; exact hl), h]
theorem b_cnt (c : Nat) (hc : c < 32) : ((Int32.ofInt (c : Int) &&& 31).toBitVec.smod 32).toNat = c := by
  have key : ∀ m : Fin 32, ((Int32.ofInt (m.val : Int) &&& 31).toBitVec.smod 32).toNat = m.val := by decide +kernel
  exact key ⟨c, hc⟩
theorem b_shl {n c : Nat} (hc : c < 32) (h : n <<< c < 2147483648) : a_shl n c = ((n <<< c : Nat) : Int) := by
  unfold a_shl
  have h0 : n ≤ n <<< c := by rw [Nat.shiftLeft_eq]; exact Nat.le_mul_of_pos_right _ (Nat.two_pow_pos c)
  have e : (Int32.ofInt (n : Int) <<< (Int32.ofInt (c : Int) &&& 31)).toBitVec = BitVec.ofNat 32 n <<< c := by
    show (Int32.ofInt (n : Int)).toBitVec <<< ((Int32.ofInt (c : Int) &&& 31).toBitVec.smod 32) = _
    rw [b_bv, BitVec.shiftLeft_eq', b_cnt c hc]
  have h1 : (Int32.ofInt (n : Int) <<< (Int32.ofInt (c : Int) &&& 31)).toBitVec.toNat = n <<< c := by
    rw [e, BitVec.toNat_shiftLeft, BitVec.toNat_ofNat, Nat.mod_eq_of_lt (show n < 2 ^ 32 by omega), Nat.mod_eq_of_lt (by omega)]
  rw [b_int _ (by rw [h1]; exact h), h1]
theorem b_shr {n c : Nat} (hc : c < 32) (hn : n < 2147483648) : a_shr n c = ((n >>> c : Nat) : Int) := by
  unfold a_shr
  have e : (Int32.ofInt (n : Int) >>> (Int32.ofInt (c : Int) &&& 31)).toBitVec = (BitVec.ofNat 32 n).sshiftRight c := by
    show (Int32.ofInt (n : Int)).toBitVec.sshiftRight ((Int32.ofInt (c : Int) &&& 31).toBitVec.smod 32).toNat = _
    rw [b_bv, b_cnt c hc]
  have hm : (BitVec.ofNat 32 n).msb = false := by
    rw [BitVec.msb_eq_decide, BitVec.toNat_ofNat, Nat.mod_eq_of_lt (by omega)]
    simp
    omega
  have h1 : (Int32.ofInt (n : Int) >>> (Int32.ofInt (c : Int) &&& 31)).toBitVec.toNat = n >>> c := by
    rw [e, BitVec.sshiftRight_eq_of_msb_false hm, BitVec.toNat_ushiftRight, BitVec.toNat_ofNat, Nat.mod_eq_of_lt (by omega)]
  have h2 : n >>> c ≤ n := by rw [Nat.shiftRight_eq_div_pow]; exact Nat.div_le_self _ _
  rw [b_int _ (by rw [h1]; omega), h1]
theorem b_ushr {n c : Nat} (hc : c < 32) (hn : n < 2147483648) : a_ushr n c = ((n >>> c : Nat) : Int) := by
  unfold a_ushr
  have hcc : (((Int32.ofInt (c : Int)).toUInt32 &&& Int32.toUInt32 31).toBitVec % 32).toNat = c := by
    have key : ∀ m : Fin 32, (((Int32.ofInt (m.val : Int)).toUInt32 &&& Int32.toUInt32 31).toBitVec % 32).toNat = m.val := by decide +kernel
    exact key ⟨c, hc⟩
  have e : (((Int32.ofInt (n : Int)).toUInt32 >>> ((Int32.ofInt (c : Int)).toUInt32 &&& Int32.toUInt32 31)).toInt32).toBitVec = BitVec.ofNat 32 n >>> c := by
    show (Int32.ofInt (n : Int)).toBitVec >>> (((Int32.ofInt (c : Int)).toUInt32 &&& Int32.toUInt32 31).toBitVec % 32) = _
    rw [b_bv, BitVec.ushiftRight_eq', hcc]
  have h1 : (((Int32.ofInt (n : Int)).toUInt32 >>> ((Int32.ofInt (c : Int)).toUInt32 &&& Int32.toUInt32 31)).toInt32).toBitVec.toNat = n >>> c := by
    rw [e, BitVec.toNat_ushiftRight, BitVec.toNat_ofNat, Nat.mod_eq_of_lt (by omega)]
  have h2 : n >>> c ≤ n := by rw [Nat.shiftRight_eq_div_pow]; exact Nat.div_le_self _ _
  rw [b_int _ (by rw [h1]; omega), h1]
/-- a set of numbers below n, as an int -/
def bset (z : Int) (n : Nat) (P : Nat → Bool) : Prop := 0 ≤ z ∧ z < ((2 ^ n : Nat) : Int) ∧ ∀ i, i < n → z.toNat.testBit i = P i
theorem bset_nat {z : Int} {n : Nat} {P : Nat → Bool} (h : bset z n P) : ∃ a : Nat, z = a ∧ a < 2 ^ n ∧ ∀ i, a.testBit i = (decide (i < n) && P i) := by
  obtain ⟨h0, h1, h2⟩ := h
  refine ⟨z.toNat, by omega, by omega, fun i => ?_⟩
  by_cases hi : i < n
  · rw [h2 i hi]; simp [hi]
  · have : z.toNat < 2 ^ i := Nat.lt_of_lt_of_le (show z.toNat < 2 ^ n by omega) (Nat.pow_le_pow_right (by decide) (by omega))
    rw [Nat.testBit_lt_two_pow this]
    simp [hi]
theorem bset_of {a n : Nat} {P : Nat → Bool} (h : a < 2 ^ n) (g : ∀ i, i < n → a.testBit i = P i) : bset (a : Int) n P := ⟨by omega, by omega, g⟩
theorem bset_cg {z : Int} {n : Nat} {P Q : Nat → Bool} (h : bset z n P) (g : ∀ i, i < n → P i = Q i) : bset z n Q := ⟨h.1, h.2.1, fun i hi => (h.2.2 i hi).trans (g i hi)⟩
theorem bset_0 {n : Nat} : bset 0 n (fun _ => false) := bset_of (a := 0) (Nat.two_pow_pos n) (fun i _ => Nat.zero_testBit i)
theorem bset_lt {a n : Nat} (h : a < 2 ^ n) (hn : n ≤ 31) : a < 2147483648 := Nat.lt_of_lt_of_le h (show 2 ^ n ≤ 2 ^ 31 from Nat.pow_le_pow_right (by decide) hn)
theorem b_one {c : Nat} (hc : c < 31) : a_shl 1 (c : Int) = ((2 ^ c : Nat) : Int) := by
  have h : (1 : Nat) <<< c < 2147483648 := by
    rw [Nat.one_shiftLeft]
    exact (show 2 ^ c < 2 ^ 31 from Nat.pow_lt_pow_right (by decide) hc)
  have := b_shl (n := 1) (c := c) (by omega) h
  rw [Nat.one_shiftLeft] at this
  exact this
theorem bset_or {z w : Int} {n : Nat} {P Q : Nat → Bool} (h : bset z n P) (g : bset w n Q) (hn : n ≤ 31) : bset (a_or z w) n (fun i => P i || Q i) := by
  obtain ⟨a, rfl, ha, ha2⟩ := bset_nat h
  obtain ⟨b, rfl, hb, hb2⟩ := bset_nat g
  rw [b_or (bset_lt ha hn) (bset_lt hb hn)]
  refine bset_of (Nat.or_lt_two_pow ha hb) (fun i hi => ?_)
  rw [Nat.testBit_or, ha2, hb2]
  simp [hi]
theorem bset_one {c n : Nat} (hc : c < n) (hn : n ≤ 31) : bset (a_shl 1 (c : Int)) n (fun i => decide (i = c)) := by
  rw [b_one (by omega)]
  refine bset_of (Nat.pow_lt_pow_right (by decide) hc) (fun i _ => ?_)
  rw [Nat.testBit_two_pow]
  by_cases e : i = c
  · simp [e]
  · simp [e]; exact fun q => e q.symm
theorem bset_get {z : Int} {n c : Nat} {P : Nat → Bool} (h : bset z n P) (hc : c < n) (hn : n ≤ 31) : a_and (a_shr z c) 1 = bI (P c) := by
  obtain ⟨a, rfl, ha, ha2⟩ := bset_nat h
  have hl := bset_lt ha hn
  rw [b_shr (by omega) hl]
  have h2 : a >>> c ≤ a := by rw [Nat.shiftRight_eq_div_pow]; exact Nat.div_le_self _ _
  have := b_and (n := a >>> c) (m := 1) (by omega) (by decide)
  rw [show ((1 : Nat) : Int) = 1 from rfl] at this
  rw [this]
  have e : a.testBit c = P c := by rw [ha2]; simp [hc]
  rw [← e, Nat.and_one_is_mod, Nat.shiftRight_eq_div_pow, Nat.testBit_eq_decide_div_mod_eq]
  rcases Nat.mod_two_eq_zero_or_one (a / 2 ^ c) with q | q <;> rw [q] <;> rfl
