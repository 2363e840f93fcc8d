/-! BITS of longs: sets of persons; Long.bitCount -/
theorem l_bv (n : Nat) : (Int64.ofInt (n : Int)).toBitVec = BitVec.ofNat 64 n := by
  show BitVec.ofInt 64 (n : Int) = _
  exact BitVec.ofInt_natCast 64 n
theorem l_int (x : Int64) (h : x.toBitVec.toNat < 9223372036854775808) : x.toInt = x.toBitVec.toNat := by
  show x.toBitVec.toInt = _
  rw [BitVec.toInt_eq_toNat_of_lt (by omega)]
theorem l_or {n m : Nat} (hn : n < 9223372036854775808) (hm : m < 9223372036854775808) : a_lor n m = ((n ||| m : Nat) : Int) := by
  unfold a_lor
  have h : (Int64.ofInt (n : Int) ||| Int64.ofInt (m : Int)).toBitVec.toNat = n ||| m := by
    rw [Int64.toBitVec_or, l_bv, l_bv, BitVec.toNat_or, BitVec.toNat_ofNat, BitVec.toNat_ofNat, Nat.mod_eq_of_lt (by omega), Nat.mod_eq_of_lt (by omega)]
  have hl : n ||| m < 9223372036854775808 := Nat.or_lt_two_pow (n := 63) hn hm
  rw [l_int _ (by rw [h]; exact hl), h]
theorem l_and {n m : Nat} (hn : n < 9223372036854775808) (hm : m < 9223372036854775808) : a_land n m = ((n &&& m : Nat) : Int) := by
  unfold a_land
  have h : (Int64.ofInt (n : Int) &&& Int64.ofInt (m : Int)).toBitVec.toNat = n &&& m := by
    rw [Int64.toBitVec_and, l_bv, l_bv, BitVec.toNat_and, BitVec.toNat_ofNat, BitVec.toNat_ofNat, Nat.mod_eq_of_lt (by omega), Nat.mod_eq_of_lt (by omega)]
  have hl : n &&& m ≤ n := Nat.and_le_left
  rw [l_int _ (by rw [h]; omega), h]
theorem l_add {n m : Nat} (h : n + m < 9223372036854775808) : a_ladd n m = ((n + m : Nat) : Int) := by
  unfold a_ladd
  rw [← Int64.ofInt_add, Int64.toInt_ofInt_of_le (by omega) (by omega)]
  omega
theorem l_sub {n m : Nat} (h : n < 9223372036854775808) (hm : m ≤ n) : a_lsub n m = ((n - m : Nat) : Int) := by
  unfold a_lsub
  rw [← Int64.ofInt_sub, Int64.toInt_ofInt_of_le (by omega) (by omega)]
  omega
theorem l_cnt (c : Nat) (hc : c < 64) : (((Int32.ofInt (c : Int)).toInt64 &&& 63).toBitVec.smod 64).toNat = c := by
  have key : ∀ m : Fin 64, (((Int32.ofInt (m.val : Int)).toInt64 &&& 63).toBitVec.smod 64).toNat = m.val := by decide +kernel
  exact key ⟨c, hc⟩
theorem l_shl {n c : Nat} (hc : c < 64) (h : n <<< c < 9223372036854775808) : a_lshl n c = ((n <<< c : Nat) : Int) := by
  unfold a_lshl
  have h0 : n ≤ n <<< c := by rw [Nat.shiftLeft_eq]; exact Nat.le_mul_of_pos_right _ (Nat.two_pow_pos c)
  have e : (Int64.ofInt (n : Int) <<< ((Int32.ofInt (c : Int)).toInt64 &&& 63)).toBitVec = BitVec.ofNat 64 n <<< c := by
    show (Int64.ofInt (n : Int)).toBitVec <<< (((Int32.ofInt (c : Int)).toInt64 &&& 63).toBitVec.smod 64) = _
    rw [l_bv, BitVec.shiftLeft_eq', l_cnt c hc]
  have h1 : (Int64.ofInt (n : Int) <<< ((Int32.ofInt (c : Int)).toInt64 &&& 63)).toBitVec.toNat = n <<< c := by
    rw [e, BitVec.toNat_shiftLeft, BitVec.toNat_ofNat, Nat.mod_eq_of_lt (show n < 2 ^ 64 by omega), Nat.mod_eq_of_lt (by omega)]
  rw [l_int _ (by rw [h1]; exact h), h1]
theorem l_shr {n c : Nat} (hc : c < 64) (hn : n < 9223372036854775808) : a_lshr n c = ((n >>> c : Nat) : Int) := by
  unfold a_lshr
  have e : (Int64.ofInt (n : Int) >>> ((Int32.ofInt (c : Int)).toInt64 &&& 63)).toBitVec = (BitVec.ofNat 64 n).sshiftRight c := by
    show (Int64.ofInt (n : Int)).toBitVec.sshiftRight (((Int32.ofInt (c : Int)).toInt64 &&& 63).toBitVec.smod 64).toNat = _
    rw [l_bv, l_cnt c hc]
  have hm : (BitVec.ofNat 64 n).msb = false := by
    rw [BitVec.msb_eq_decide, BitVec.toNat_ofNat, Nat.mod_eq_of_lt (by omega)]
    simp
    omega
  have h1 : (Int64.ofInt (n : Int) >>> ((Int32.ofInt (c : Int)).toInt64 &&& 63)).toBitVec.toNat = n >>> c := by
    rw [e, BitVec.sshiftRight_eq_of_msb_false hm, BitVec.toNat_ushiftRight, BitVec.toNat_ofNat, Nat.mod_eq_of_lt (by omega)]
  have h2 : n >>> c ≤ n := by rw [Nat.shiftRight_eq_div_pow]; exact Nat.div_le_self _ _
  rw [l_int _ (by rw [h1]; omega), h1]
theorem l_ushr {n c : Nat} (hc : c < 64) (hn : n < 9223372036854775808) : a_lushr n c = ((n / 2 ^ c : Nat) : Int) := by
  unfold a_lushr
  have hcc : (((Int32.ofInt (c : Int)).toInt64.toUInt64 &&& Int64.toUInt64 63).toBitVec % 64).toNat = c := by
    have key : ∀ m : Fin 64, (((Int32.ofInt (m.val : Int)).toInt64.toUInt64 &&& Int64.toUInt64 63).toBitVec % 64).toNat = m.val := by decide +kernel
    exact key ⟨c, hc⟩
  have e : (((Int64.ofInt (n : Int)).toUInt64 >>> ((Int32.ofInt (c : Int)).toInt64.toUInt64 &&& Int64.toUInt64 63)).toInt64).toBitVec = BitVec.ofNat 64 n >>> c := by
    show (Int64.ofInt (n : Int)).toBitVec >>> (((Int32.ofInt (c : Int)).toInt64.toUInt64 &&& Int64.toUInt64 63).toBitVec % 64) = _
    rw [l_bv, BitVec.ushiftRight_eq', hcc]
  have h1 : (((Int64.ofInt (n : Int)).toUInt64 >>> ((Int32.ofInt (c : Int)).toInt64.toUInt64 &&& Int64.toUInt64 63)).toInt64).toBitVec.toNat = n / 2 ^ c := by
    rw [e, BitVec.toNat_ushiftRight, BitVec.toNat_ofNat, Nat.mod_eq_of_lt (by omega), Nat.shiftRight_eq_div_pow]
  have h2 : n / 2 ^ c ≤ n := Nat.div_le_self _ _
  rw [l_int _ (by rw [h1]; omega), h1]
theorem l_l2i {n : Nat} (h : n < 2147483648) : a_l2i n = n := by
  unfold a_l2i
  have e : (Int64.ofInt (n : Int)).toInt32.toBitVec.toNat = n := by
    show ((Int64.ofInt (n : Int)).toBitVec.signExtend 32).toNat = n
    rw [l_bv, BitVec.signExtend_eq_setWidth_of_le _ (by decide), BitVec.toNat_setWidth, BitVec.toNat_ofNat, Nat.mod_eq_of_lt (show n < 2 ^ 64 by omega), Nat.mod_eq_of_lt (by omega)]
  show (Int64.ofInt (n : Int)).toInt32.toBitVec.toInt = n
  rw [BitVec.toInt_eq_toNat_of_lt (by omega), e]
-- the count of bits, byte by byte
theorem pc_and (b r m s : Nat) (hb : b < 256) (hm : m < 256) : (b + 256 * r) &&& (m + 256 * s) = (b &&& m) + 256 * (r &&& s) := by
  have h1 : ((b + 256 * r) &&& (m + 256 * s)) % 256 = b &&& m := by
    rw [show (256 : Nat) = 2 ^ 8 from rfl, Nat.and_mod_two_pow]
    rw [show (b + 2 ^ 8 * r) % 2 ^ 8 = b by omega, show (m + 2 ^ 8 * s) % 2 ^ 8 = m by omega]
  have h2 : ((b + 256 * r) &&& (m + 256 * s)) / 256 = r &&& s := by
    rw [show (256 : Nat) = 2 ^ 8 from rfl, Nat.and_div_two_pow]
    rw [show (b + 2 ^ 8 * r) / 2 ^ 8 = r by omega, show (m + 2 ^ 8 * s) / 2 ^ 8 = s by omega]
  omega
/-- the byte's own steps -/
def pcy (b : Nat) : Nat := b - ((b / 2) &&& 85)
def pcz (b : Nat) : Nat := (pcy b &&& 51) + ((pcy b / 4) &&& 51)
def pc8 (b : Nat) : Nat := pcz b % 16 + pcz b / 16
theorem pc_f1 : ∀ b : Fin 256, ∀ t : Fin 2, ((b.val / 2 + 128 * t.val) &&& 85) = ((b.val / 2) &&& 85) ∧ ((b.val / 2) &&& 85) ≤ b.val := by decide +kernel
theorem pc_f2 : ∀ b : Fin 256, ∀ t : Fin 4, ((b.val / 4 + 64 * t.val) &&& 51) = ((b.val / 4) &&& 51) := by decide +kernel
theorem pc_f3 : ∀ b : Fin 256, pcy b.val < 256 ∧ pcz b.val ≤ 68 ∧ pcz b.val % 16 ≤ 4 ∧ pcz b.val / 16 ≤ 4 ∧ (pcy b.val &&& 51) < 256 ∧ ((pcy b.val / 4) &&& 51) < 256 := by decide +kernel
theorem pc_f4 : ∀ b : Fin 256, ∀ t : Fin 5, ((pcz b.val + pcz b.val / 16 + 16 * t.val) &&& 15) = pc8 b.val ∧ pcz b.val + pcz b.val / 16 + 16 * t.val < 256 := by decide +kernel
theorem pc_f5 : ∀ b : Fin 256, pc8 b.val = (List.range 8).countP (fun i => b.val.testBit i) := by decide +kernel
/-- the three first steps on a number of bytes: m5, m3, mf the masks of so many bytes -/
def wy (m5 x : Nat) : Nat := x - ((x / 2) &&& m5)
def wz (m3 y : Nat) : Nat := (y &&& m3) + ((y / 4) &&& m3)
def ww (mf z : Nat) : Nat := (z + z / 16) &&& mf
theorem wy_step {b r m5 : Nat} (hb : b < 256) (hr : (r / 2) &&& m5 ≤ r) : wy (85 + 256 * m5) (b + 256 * r) = pcy b + 256 * wy m5 r ∧ ((b + 256 * r) / 2) &&& (85 + 256 * m5) ≤ b + 256 * r := by
  have e : (b + 256 * r) / 2 = (b / 2 + 128 * (r % 2)) + 256 * (r / 2) := by omega
  have f := pc_f1 ⟨b, hb⟩ ⟨r % 2, by omega⟩
  dsimp only at f
  have h : ((b + 256 * r) / 2) &&& (85 + 256 * m5) = ((b / 2) &&& 85) + 256 * ((r / 2) &&& m5) := by
    rw [e, pc_and _ _ _ _ (by omega) (by decide), f.1]
  unfold wy pcy
  rw [h]
  omega
theorem wz_step {b r m3 : Nat} (hb : b < 256) : wz (51 + 256 * m3) (pcy b + 256 * r) = pcz b + 256 * wz m3 r := by
  have f3 := pc_f3 ⟨b, hb⟩
  dsimp only at f3
  have e : (pcy b + 256 * r) / 4 = (pcy b / 4 + 64 * (r % 4)) + 256 * (r / 4) := by omega
  have f := pc_f2 ⟨pcy b, f3.1⟩ ⟨r % 4, by omega⟩
  dsimp only at f
  unfold wz pcz
  rw [e, pc_and _ _ _ _ f3.1 (by decide), pc_and _ _ _ _ (by omega) (by decide), f]
  omega
theorem ww_step {b r mf : Nat} (hb : b < 256) (hr : r % 16 ≤ 4) : ww (15 + 256 * mf) (pcz b + 256 * r) = pc8 b + 256 * ww mf r := by
  have f3 := pc_f3 ⟨b, hb⟩
  dsimp only at f3
  have f := pc_f4 ⟨b, hb⟩ ⟨r % 16, by omega⟩
  dsimp only at f
  have e : pcz b + 256 * r + (pcz b + 256 * r) / 16 = (pcz b + pcz b / 16 + 16 * (r % 16)) + 256 * (r + r / 16) := by omega
  unfold ww
  rw [e, pc_and _ _ _ _ f.2 (by decide), f.1]
theorem wz_mod {b r m3 : Nat} (hb : b < 256) : wz (51 + 256 * m3) (pcy b + 256 * r) % 16 ≤ 4 := by
  rw [wz_step hb]
  have f3 := pc_f3 ⟨b, hb⟩
  dsimp only at f3
  omega
/-- five bytes, under the masks of eight -/
theorem w_five {b0 b1 b2 b3 b4 : Nat} (h0 : b0 < 256) (h1 : b1 < 256) (h2 : b2 < 256) (h3 : b3 < 256) (h4 : b4 < 256) :
    (((b0 + 256 * (b1 + 256 * (b2 + 256 * (b3 + 256 * (b4 + 256 * 0))))) / 2) &&& 6148914691236517205 ≤ b0 + 256 * (b1 + 256 * (b2 + 256 * (b3 + 256 * (b4 + 256 * 0))))) ∧
    ww 1085102592571150095 (wz 3689348814741910323 (wy 6148914691236517205 (b0 + 256 * (b1 + 256 * (b2 + 256 * (b3 + 256 * (b4 + 256 * 0))))))) = pc8 b0 + 256 * (pc8 b1 + 256 * (pc8 b2 + 256 * (pc8 b3 + 256 * (pc8 b4 + 256 * 0)))) := by
  have y5 : wy 5592405 0 = 0 := by decide
  obtain ⟨e4, g4⟩ := wy_step (b := b4) (r := 0) (m5 := 5592405) h4 (by decide)
  obtain ⟨e3, g3⟩ := wy_step (b := b3) (m5 := 85 + 256 * 5592405) h3 g4
  obtain ⟨e2, g2⟩ := wy_step (b := b2) (m5 := 85 + 256 * (85 + 256 * 5592405)) h2 g3
  obtain ⟨e1, g1⟩ := wy_step (b := b1) (m5 := 85 + 256 * (85 + 256 * (85 + 256 * 5592405))) h1 g2
  obtain ⟨e0, g0⟩ := wy_step (b := b0) (m5 := 85 + 256 * (85 + 256 * (85 + 256 * (85 + 256 * 5592405)))) h0 g1
  refine ⟨g0, ?_⟩
  rw [show (6148914691236517205 : Nat) = 85 + 256 * (85 + 256 * (85 + 256 * (85 + 256 * (85 + 256 * 5592405)))) from rfl]
  rw [show (3689348814741910323 : Nat) = 51 + 256 * (51 + 256 * (51 + 256 * (51 + 256 * (51 + 256 * 3355443)))) from rfl]
  rw [show (1085102592571150095 : Nat) = 15 + 256 * (15 + 256 * (15 + 256 * (15 + 256 * (15 + 256 * 986895)))) from rfl]
  rw [e0, e1, e2, e3, e4, y5]
  have z5 : wz 3355443 0 = 0 := by decide
  have w5 : ww 986895 0 = 0 := by decide
  have m3 := wz_mod (b := b4) (r := 0) (m3 := 3355443) h4
  have m2 := wz_mod (b := b3) (r := pcy b4 + 256 * 0) (m3 := 51 + 256 * 3355443) h3
  have m1 := wz_mod (b := b2) (r := pcy b3 + 256 * (pcy b4 + 256 * 0)) (m3 := 51 + 256 * (51 + 256 * 3355443)) h2
  have m0 := wz_mod (b := b1) (r := pcy b2 + 256 * (pcy b3 + 256 * (pcy b4 + 256 * 0))) (m3 := 51 + 256 * (51 + 256 * (51 + 256 * 3355443))) h1
  rw [wz_step h0, ww_step h0 m0, wz_step h1, ww_step h1 m1, wz_step h2, ww_step h2 m2, wz_step h3, ww_step h3 m3, wz_step h4, z5, ww_step h4 (by decide), w5]
/-- how many bits below n -/
def cntB (P : Nat → Bool) (n : Nat) : Nat := (List.range n).countP P
theorem cntB_succ {P : Nat → Bool} {n : Nat} : cntB P (n + 1) = cntB P n + (if P n then 1 else 0) := by
  unfold cntB
  rw [List.range_succ, List.countP_append, List.countP_cons, List.countP_nil]
  simp
theorem cntB_add {P : Nat → Bool} (m : Nat) : ∀ n, cntB P (m + n) = cntB P m + cntB (fun i => P (m + i)) n
  | 0 => by simp [cntB]
  | n + 1 => by rw [← Nat.add_assoc, cntB_succ, cntB_add m n, cntB_succ]; omega
theorem cntB_cg {P Q : Nat → Bool} {n : Nat} (h : ∀ i, i < n → P i = Q i) : cntB P n = cntB Q n := by
  unfold cntB
  exact List.countP_congr (fun i hi => by rw [h i (List.mem_range.mp hi)])
theorem pc_byte {x j b r : Nat} (h : x / 2 ^ (8 * j) = b + 256 * r) (hb : b < 256) : cntB (fun i => x.testBit (8 * j + i)) 8 = pc8 b := by
  have f := pc_f5 ⟨b, hb⟩
  dsimp only at f
  rw [f]
  refine cntB_cg (fun i hi => ?_)
  rw [Nat.testBit_eq_decide_div_mod_eq, Nat.testBit_eq_decide_div_mod_eq, Nat.pow_add, ← Nat.div_div_eq_div_mul, h]
  have e : (b + 256 * r) / 2 ^ i = b / 2 ^ i + 2 ^ (8 - i) * r := by
    have : (256 : Nat) = 2 ^ i * 2 ^ (8 - i) := by rw [← Nat.pow_add, show i + (8 - i) = 8 by omega]
    rw [this, Nat.mul_assoc, Nat.add_mul_div_left _ _ (Nat.two_pow_pos i)]
  have e2 : (2 : Nat) ^ (8 - i) = 2 * 2 ^ (7 - i) := by rw [show 8 - i = 7 - i + 1 by omega, Nat.pow_succ]; omega
  rw [e, e2, Nat.mul_assoc, Nat.add_mul_mod_self_left]
theorem l_ww {x : Nat} (h : x < 1099511627776) (hy : (x / 2) &&& 6148914691236517205 ≤ x) (hw : wz 3689348814741910323 (wy 6148914691236517205 x) < 4611686018427387904) :
    a_land (a_ladd (a_ladd (a_land (a_lsub x (a_land (a_lushr x 1) 6148914691236517205)) 3689348814741910323) (a_land (a_lushr (a_lsub x (a_land (a_lushr x 1) 6148914691236517205)) 2) 3689348814741910323)) (a_lushr (a_ladd (a_land (a_lsub x (a_land (a_lushr x 1) 6148914691236517205)) 3689348814741910323) (a_land (a_lushr (a_lsub x (a_land (a_lushr x 1) 6148914691236517205)) 2) 3689348814741910323)) 4)) 1085102592571150095 = ((ww 1085102592571150095 (wz 3689348814741910323 (wy 6148914691236517205 x)) : Nat) : Int) := by
  have s1 : a_lushr (x : Int) 1 = ((x / 2 : Nat) : Int) := l_ushr (c := 1) (by decide) (by omega)
  have s2 : a_land ((x / 2 : Nat) : Int) 6148914691236517205 = (((x / 2) &&& 6148914691236517205 : Nat) : Int) := l_and (m := 6148914691236517205) (by omega) (by decide)
  have s3 : a_lsub (x : Int) (((x / 2) &&& 6148914691236517205 : Nat) : Int) = ((wy 6148914691236517205 x : Nat) : Int) := l_sub (by omega) hy
  have ly : wy 6148914691236517205 x ≤ x := Nat.sub_le _ _
  rw [s1, s2, s3]
  obtain ⟨y, ey⟩ : ∃ y, y = wy 6148914691236517205 x := ⟨_, rfl⟩
  rw [← ey] at ly hw ⊢
  have s4 : a_land (y : Int) 3689348814741910323 = ((y &&& 3689348814741910323 : Nat) : Int) := l_and (m := 3689348814741910323) (by omega) (by decide)
  have s5 : a_lushr (y : Int) 2 = ((y / 4 : Nat) : Int) := l_ushr (c := 2) (by decide) (by omega)
  have s6 : a_land ((y / 4 : Nat) : Int) 3689348814741910323 = (((y / 4) &&& 3689348814741910323 : Nat) : Int) := l_and (m := 3689348814741910323) (by omega) (by decide)
  have u1 : y &&& 3689348814741910323 ≤ y := Nat.and_le_left
  have u2 : (y / 4) &&& 3689348814741910323 ≤ y / 4 := Nat.and_le_left
  have s7 : a_ladd ((y &&& 3689348814741910323 : Nat) : Int) (((y / 4) &&& 3689348814741910323 : Nat) : Int) = ((wz 3689348814741910323 y : Nat) : Int) := l_add (by omega)
  rw [s4, s5, s6, s7]
  obtain ⟨z, ez⟩ : ∃ z, z = wz 3689348814741910323 y := ⟨_, rfl⟩
  rw [← ez] at hw ⊢
  have s8 : a_lushr (z : Int) 4 = ((z / 16 : Nat) : Int) := l_ushr (c := 4) (by decide) (by omega)
  rw [s8, l_add (by omega)]
  exact l_and (m := 1085102592571150095) (by omega) (by decide)

theorem l_low {n : Nat} (h : n < 9223372036854775808) : a_and (a_l2i n) 127 = ((n % 128 : Nat) : Int) := by
  unfold a_and a_l2i
  rw [Int32.ofInt_toInt]
  have e : ((Int64.ofInt (n : Int)).toInt32 &&& Int32.ofInt 127).toBitVec.toNat = n % 128 := by
    rw [Int32.toBitVec_and, BitVec.toNat_and]
    show ((Int64.ofInt (n : Int)).toBitVec.signExtend 32).toNat &&& 127 = n % 128
    rw [l_bv, BitVec.signExtend_eq_setWidth_of_le _ (by decide), BitVec.toNat_setWidth, BitVec.toNat_ofNat, Nat.mod_eq_of_lt (show n < 2 ^ 64 by omega)]
    rw [show (127 : Nat) = 2 ^ 7 - 1 from rfl, Nat.and_two_pow_sub_one_eq_mod]
    omega
  show ((Int64.ofInt (n : Int)).toInt32 &&& Int32.ofInt 127).toBitVec.toInt = _
  rw [BitVec.toInt_eq_toNat_of_lt (by omega), e]
/-- a set of numbers below n, as a long -/
def lset (z : Int) (n : Nat) (P : Nat → Bool) : Prop := 0 ≤ z ∧ z < ((2 ^ n : Nat) : Int) ∧ ∀ i, i < n → z.toNat.testBit i = P i
theorem lset_nat {z : Int} {n : Nat} {P : Nat → Bool} (h : lset z n P) : ∃ a : Nat, z = a ∧ a < 2 ^ n ∧ ∀ i, a.testBit i = (decide (i < n) && P i) := by
  obtain ⟨h0, h1, h2⟩ := h
  refine ⟨z.toNat, by omega, by omega, fun i => ?_⟩
  by_cases hi : i < n
  · rw [h2 i hi]; simp [hi]
  · have : z.toNat < 2 ^ i := Nat.lt_of_lt_of_le (show z.toNat < 2 ^ n by omega) (Nat.pow_le_pow_right (by decide) (by omega))
    rw [Nat.testBit_lt_two_pow this]
    simp [hi]
theorem lset_of {a n : Nat} {P : Nat → Bool} (h : a < 2 ^ n) (g : ∀ i, i < n → a.testBit i = P i) : lset (a : Int) n P := ⟨by omega, by omega, g⟩
theorem lset_cg {z : Int} {n : Nat} {P Q : Nat → Bool} (h : lset z n P) (g : ∀ i, i < n → P i = Q i) : lset z n Q := ⟨h.1, h.2.1, fun i hi => (h.2.2 i hi).trans (g i hi)⟩
theorem lset_0 {n : Nat} : lset 0 n (fun _ => false) := lset_of (a := 0) (Nat.two_pow_pos n) (fun i _ => Nat.zero_testBit i)
theorem lset_lt {a : Nat} (h : a < 2 ^ 40) : a < 1099511627776 := h
theorem l_one {c : Nat} (hc : c < 40) : a_lshl 1 (c : Int) = ((2 ^ c : Nat) : Int) := by
  have h : (1 : Nat) <<< c < 9223372036854775808 := by
    rw [Nat.one_shiftLeft]
    exact Nat.lt_of_lt_of_le (show 2 ^ c < 2 ^ 40 from Nat.pow_lt_pow_right (by decide) hc) (by decide)
  have := l_shl (n := 1) (c := c) (by omega) h
  rw [Nat.one_shiftLeft] at this
  exact this
theorem lset_add {z : Int} {P : Nat → Bool} {c : Nat} (h : lset z 40 P) (hc : c < 40) : lset (a_lor z (a_lshl 1 (c : Int))) 40 (fun i => P i || decide (i = c)) := by
  obtain ⟨a, rfl, ha, ha2⟩ := lset_nat h
  have hp : 2 ^ c < 2 ^ 40 := Nat.pow_lt_pow_right (by decide) hc
  rw [l_one hc, l_or (by omega) (by omega)]
  refine lset_of (Nat.or_lt_two_pow ha hp) (fun i hi => ?_)
  rw [Nat.testBit_or, ha2, Nat.testBit_two_pow]
  by_cases e : i = c
  · simp [e, hi]
  · have : ¬ c = i := fun q => e q.symm
    simp [e, this, hi]
theorem lset_has {z : Int} {P : Nat → Bool} {c : Nat} (h : lset z 40 P) (hc : c < 40) : a_land (a_lshr z c) 1 = bI (P c) := by
  obtain ⟨a, rfl, ha, ha2⟩ := lset_nat h
  rw [l_shr (by omega) (by omega)]
  have h2 : a >>> c ≤ a := by rw [Nat.shiftRight_eq_div_pow]; exact Nat.div_le_self _ _
  have := l_and (n := a >>> c) (m := 1) (by omega) (by decide)
  rw [show ((1 : Nat) : Int) = 1 from rfl] at this
  rw [this]
  have e : a.testBit c = P c := by rw [ha2]; simp [hc]
  rw [← e, Nat.and_one_is_mod, Nat.shiftRight_eq_div_pow, Nat.testBit_eq_decide_div_mod_eq]
  rcases Nat.mod_two_eq_zero_or_one (a / 2 ^ c) with q | q <;> rw [q] <;> rfl
theorem lset_del {z : Int} {P : Nat → Bool} {c : Nat} (h : lset z 40 P) (hc : c < 40) : lset (a_land z (a_lxor (a_lshl 1 (c : Int)) (-1))) 40 (fun i => P i && !decide (i = c)) := by
  obtain ⟨a, rfl, ha, ha2⟩ := lset_nat h
  have hp : 2 ^ c < 2 ^ 40 := Nat.pow_lt_pow_right (by decide) hc
  rw [l_one hc]
  unfold a_land a_lxor
  rw [Int64.ofInt_toInt]
  have e : (Int64.ofInt (a : Int) &&& (Int64.ofInt ((2 ^ c : Nat) : Int) ^^^ Int64.ofInt (-1))).toBitVec = BitVec.ofNat 64 a &&& ~~~(BitVec.ofNat 64 (2 ^ c)) := by
    rw [Int64.toBitVec_and, Int64.toBitVec_xor, l_bv, l_bv]
    show _ &&& (_ ^^^ BitVec.allOnes 64) = _
    rw [BitVec.xor_allOnes]
  have hb : ∀ i, (BitVec.ofNat 64 a &&& ~~~(BitVec.ofNat 64 (2 ^ c))).toNat.testBit i = ((decide (i < 40) && P i) && !decide (i = c)) := by
    intro i
    rw [BitVec.testBit_toNat, BitVec.getLsbD_and, BitVec.getLsbD_not, BitVec.getLsbD_ofNat, BitVec.getLsbD_ofNat, ha2, Nat.testBit_two_pow]
    by_cases h1 : i < 40
    · have h2 : i < 64 := by omega
      by_cases e : i = c
      · simp [e]
      · have : ¬ c = i := fun q => e q.symm
        simp [h1, h2, e, this]
    · simp [h1]
  have hle : (BitVec.ofNat 64 a &&& ~~~(BitVec.ofNat 64 (2 ^ c))).toNat ≤ a := by
    rw [BitVec.toNat_and, BitVec.toNat_ofNat, Nat.mod_eq_of_lt (by omega)]
    exact Nat.and_le_left
  rw [l_int _ (by rw [e]; omega), e]
  refine lset_of (by omega) (fun i hi => ?_)
  rw [hb i]
  simp [hi]
theorem lset_zero {z : Int} {P : Nat → Bool} (h : lset z 40 P) : z = 0 ↔ ∀ i, i < 40 → P i = false := by
  obtain ⟨a, rfl, ha, ha2⟩ := lset_nat h
  constructor
  · intro e i hi
    have : a = 0 := by omega
    have h3 := ha2 i
    rw [this, Nat.zero_testBit] at h3
    simpa [hi] using h3.symm
  · intro g
    have : a = 0 := by
      apply Nat.eq_of_testBit_eq
      intro i
      rw [ha2, Nat.zero_testBit]
      by_cases hi : i < 40
      · rw [g i hi]; simp
      · simp [hi]
    omega
theorem lset_eq {z w : Int} {P Q : Nat → Bool} (h : lset z 40 P) (g : lset w 40 Q) : z = w ↔ ∀ i, i < 40 → P i = Q i := by
  obtain ⟨a, rfl, ha, ha2⟩ := lset_nat h
  obtain ⟨b, rfl, hb, hb2⟩ := lset_nat g
  constructor
  · intro e i hi
    have : a = b := by omega
    have h3 := ha2 i
    rw [this, hb2] at h3
    simpa [hi] using h3.symm
  · intro q
    have : a = b := by
      apply Nat.eq_of_testBit_eq
      intro i
      rw [ha2, hb2]
      by_cases hi : i < 40
      · rw [q i hi]
      · simp [hi]
    omega
theorem cmp0 {a b : Int} : a_cmp a b = 0 ↔ a = b := by
  unfold a_cmp
  split
  · constructor
    · intro h; cases h
    · intro h; omega
  · split
    · exact ⟨fun _ => by assumption, fun _ => rfl⟩
    · constructor
      · intro h; cases h
      · intro h; contradiction
/-- the bits of a long, counted by Long.bitCount's steps -/
theorem lbc_of {x : Nat} {P : Nat → Bool} (h : x < 2 ^ 40) (hP : ∀ i, i < 40 → x.testBit i = P i) : ∃ w : Nat, ((x / 2) &&& 6148914691236517205 ≤ x) ∧ wz 3689348814741910323 (wy 6148914691236517205 x) < 4611686018427387904 ∧ w = ww 1085102592571150095 (wz 3689348814741910323 (wy 6148914691236517205 x)) ∧ w < 1099511627776 ∧ ((w + w / 256) + (w + w / 256) / 65536 + ((w + w / 256) + (w + w / 256) / 65536) / 4294967296) % 128 = cntB P 40 := by
  have hx : x < 1099511627776 := h
  obtain ⟨b0, h0, e0⟩ : ∃ b, b < 256 ∧ b = x % 256 := ⟨_, Nat.mod_lt _ (by decide), rfl⟩
  obtain ⟨b1, h1, e1⟩ : ∃ b, b < 256 ∧ b = x / 256 % 256 := ⟨_, Nat.mod_lt _ (by decide), rfl⟩
  obtain ⟨b2, h2, e2⟩ : ∃ b, b < 256 ∧ b = x / 65536 % 256 := ⟨_, Nat.mod_lt _ (by decide), rfl⟩
  obtain ⟨b3, h3, e3⟩ : ∃ b, b < 256 ∧ b = x / 16777216 % 256 := ⟨_, Nat.mod_lt _ (by decide), rfl⟩
  obtain ⟨b4, h4, e4⟩ : ∃ b, b < 256 ∧ b = x / 4294967296 := ⟨_, by omega, rfl⟩
  have ex : x = b0 + 256 * (b1 + 256 * (b2 + 256 * (b3 + 256 * (b4 + 256 * 0)))) := by omega
  obtain ⟨g1, g2⟩ := w_five h0 h1 h2 h3 h4
  rw [← ex] at g1 g2
  have p8 : ∀ b, b < 256 → pc8 b ≤ 8 := fun b hb => by
    have f := pc_f5 ⟨b, hb⟩
    dsimp only at f
    rw [f]
    have := List.countP_le_length (p := fun i => b.testBit i) (l := List.range 8)
    simpa using this
  have q0 := p8 b0 h0
  have q1 := p8 b1 h1
  have q2 := p8 b2 h2
  have q3 := p8 b3 h3
  have q4 := p8 b4 h4
  have hc : cntB P 40 = pc8 b0 + (pc8 b1 + (pc8 b2 + (pc8 b3 + pc8 b4))) := by
    have e : cntB P 40 = cntB (fun i => x.testBit i) 40 := cntB_cg (fun i hi => (hP i hi).symm)
    rw [e, cntB_add 8 32, cntB_add 8 24, cntB_add 8 16, cntB_add 8 8]
    have k0 := pc_byte (x := x) (j := 0) (b := b0) (r := x / 256) (by omega) h0
    have k1 := pc_byte (x := x) (j := 1) (b := b1) (r := x / 65536) (by omega) h1
    have k2 := pc_byte (x := x) (j := 2) (b := b2) (r := x / 16777216) (by omega) h2
    have k3 := pc_byte (x := x) (j := 3) (b := b3) (r := x / 4294967296) (by omega) h3
    have k4 := pc_byte (x := x) (j := 4) (b := b4) (r := 0) (by omega) h4
    rw [← k0, ← k1, ← k2, ← k3, ← k4]
    refine congr (congrArg HAdd.hAdd (cntB_cg (fun i _ => by congr 1; omega))) (congr (congrArg HAdd.hAdd (cntB_cg (fun i _ => by congr 1))) (congr (congrArg HAdd.hAdd (cntB_cg (fun i _ => by congr 1; omega))) (congr (congrArg HAdd.hAdd (cntB_cg (fun i _ => by congr 1; omega))) (cntB_cg (fun i _ => by congr 1; omega)))))
  refine ⟨_, g1, ?_, rfl, ?_, ?_⟩
  · have ly : wy 6148914691236517205 x ≤ x := Nat.sub_le _ _
    unfold wz
    have u1 : wy 6148914691236517205 x &&& 3689348814741910323 ≤ wy 6148914691236517205 x := Nat.and_le_left
    have u2 : (wy 6148914691236517205 x / 4) &&& 3689348814741910323 ≤ wy 6148914691236517205 x / 4 := Nat.and_le_left
    omega
  · rw [g2]; omega
  · rw [g2, hc]
    obtain ⟨w, ew⟩ : ∃ w, w = pc8 b0 + 256 * (pc8 b1 + 256 * (pc8 b2 + 256 * (pc8 b3 + 256 * (pc8 b4 + 256 * 0)))) := ⟨_, rfl⟩
    rw [← ew]
    generalize pc8 b0 = p0 at *
    generalize pc8 b1 = p1 at *
    generalize pc8 b2 = p2 at *
    generalize pc8 b3 = p3 at *
    generalize pc8 b4 = p4 at *
    have d1 : w / 256 = p1 + 256 * p2 + 65536 * p3 + 16777216 * p4 := by omega
    obtain ⟨i1, ei1⟩ : ∃ i, i = w + w / 256 := ⟨_, rfl⟩
    rw [← ei1]
    have f1 : i1 = (p0 + p1) + 256 * (p1 + p2) + 65536 * (p2 + p3) + 16777216 * (p3 + p4) + 4294967296 * p4 := by omega
    have d2 : i1 / 65536 = (p2 + p3) + 256 * (p3 + p4) + 65536 * p4 := by omega
    obtain ⟨i2, ei2⟩ : ∃ i, i = i1 + i1 / 65536 := ⟨_, rfl⟩
    rw [← ei2]
    have f2 : i2 = (p0 + p1 + p2 + p3) + 256 * (p1 + p2 + p3 + p4) + 65536 * (p2 + p3 + p4) + 16777216 * (p3 + p4) + 4294967296 * p4 := by omega
    have d3 : i2 / 4294967296 = p4 := by omega
    omega
theorem s1_Long_bitCount {M : AM} {z : Int} {P : Nat → Bool} (h : lset z 40 P) : aCi s1_G 4 152 [aL z] M (fun r M' => M' = M ∧ r = cntB P 40) := by
  refine ⟨Nat.le_of_ble_eq_true rfl, fun d hd => ?_⟩
  refine s1_Long_bitCount_0 (by omega) ?_
  obtain ⟨x, rfl, hx, hx2⟩ := lset_nat h
  obtain ⟨w, g1, g2, ew, g3, g4⟩ := lbc_of (P := P) hx (fun i hi => by rw [hx2 i]; simp [hi])
  have hw := l_ww (x := x) hx g1 g2
  rw [← ew] at hw
  rw [hw]
  have s1 : a_lushr (w : Int) 8 = ((w / 256 : Nat) : Int) := l_ushr (c := 8) (by decide) (by omega)
  rw [s1, l_add (by omega)]
  have s2 : a_lushr ((w + w / 256 : Nat) : Int) 16 = (((w + w / 256) / 65536 : Nat) : Int) := l_ushr (c := 16) (by decide) (by omega)
  rw [s2, l_add (by omega)]
  have s3 : a_lushr (((w + w / 256) + (w + w / 256) / 65536 : Nat) : Int) 32 = ((((w + w / 256) + (w + w / 256) / 65536) / 4294967296 : Nat) : Int) := l_ushr (c := 32) (by decide) (by omega)
  rw [s3, l_add (by omega), l_low (by omega), g4]
  exact ⟨_, rfl, rfl, rfl⟩
