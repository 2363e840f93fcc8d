/-! NUMBERS AS SETS: bits one by one, Integer.bitCount -/
theorem n_get {u j : Nat} (hu : u < 2147483648) (hj : j < 31) : a_and (a_shr (u : Int) (j : Int)) 1 = bI (u.testBit j) := by
  have := bset_get (z := (u : Int)) (n := 31) (c := j) (P := fun i => u.testBit i) ⟨by omega, by omega, fun i _ => rfl⟩ hj (by omega)
  exact this
theorem n_ins {u j : Nat} (hu : u < 2147483648) (hj : j < 31) : a_or (u : Int) (a_shl 1 (j : Int)) = ((u ||| 2 ^ j : Nat) : Int) := by
  rw [b_one hj]
  exact b_or hu (show 2 ^ j < 2 ^ 31 from Nat.pow_lt_pow_right (by decide) hj)
theorem n_ins_lt {u j n : Nat} (hu : u < 2 ^ n) (hj : j < n) : u ||| 2 ^ j < 2 ^ n := Nat.or_lt_two_pow hu (Nat.pow_lt_pow_right (by decide) hj)
theorem bI_0 {b : Bool} : bI b = 0 ↔ b = false := by cases b <;> decide
theorem bI_1 {b : Bool} : bI b = 1 ↔ b = true := by cases b <;> decide
theorem bI_n0 {b : Bool} : bI b ≠ 0 ↔ b = true := by cases b <;> decide
theorem bI_n1 {b : Bool} : bI b ≠ 1 ↔ b = false := by cases b <;> decide
theorem p_le8 {n : Nat} (h : n ≤ 8) : 2 ^ n ≤ 256 := Nat.pow_le_pow_right (n := 2) (by decide) h
theorem cntB_ins {P : Nat → Bool} {j : Nat} : ∀ n, cntB (fun i => P i || decide (i = j)) n ≤ cntB P n + (if j < n then 1 else 0)
  | 0 => by simp [cntB]
  | n + 1 => by
    have ih := cntB_ins (P := P) (j := j) n
    rw [cntB_succ, cntB_succ]
    have e1 : (if (P n || decide (n = j)) = true then 1 else 0) ≤ (if P n = true then 1 else 0) + (if n = j then 1 else 0 : Nat) := by
      by_cases q : n = j <;> cases P n <;> simp [q]
    have e2 : (if j < n then 1 else 0) + (if n = j then 1 else 0) = (if j < n + 1 then 1 else 0 : Nat) := by
      (repeat' split) <;> omega
    omega
theorem cntB_le {P : Nat → Bool} : ∀ n, cntB P n ≤ n
  | 0 => by simp [cntB]
  | n + 1 => by
    have ih := cntB_le (P := P) n
    rw [cntB_succ]
    split <;> omega
def onesN (u : Nat) : Nat := cntB (fun i => u.testBit i) 31
theorem onesN_0 : onesN 0 = 0 := by decide
theorem onesN_ins {u j : Nat} : onesN (u ||| 2 ^ j) ≤ onesN u + 1 := by
  unfold onesN
  have h := cntB_ins (P := fun i => u.testBit i) (j := j) 31
  have e : cntB (fun i => (u ||| 2 ^ j).testBit i) 31 = cntB (fun i => u.testBit i || decide (i = j)) 31 := cntB_cg (fun i _ => by
    rw [Nat.testBit_or, Nat.testBit_two_pow]
    rw [show decide (j = i) = decide (i = j) from decide_eq_decide.mpr eq_comm])
  rw [e]
  split at h <;> omega
def bcF (x0 : Int) : Int := (a_and (a_add (a_add (a_and (a_add (a_add (a_and (a_sub x0 (a_and (a_ushr x0 1) 1431655765)) 858993459) (a_and (a_ushr (a_sub x0 (a_and (a_ushr x0 1) 1431655765)) 2) 858993459)) (a_ushr (a_add (a_and (a_sub x0 (a_and (a_ushr x0 1) 1431655765)) 858993459) (a_and (a_ushr (a_sub x0 (a_and (a_ushr x0 1) 1431655765)) 2) 858993459)) 4)) 252645135) (a_ushr (a_and (a_add (a_add (a_and (a_sub x0 (a_and (a_ushr x0 1) 1431655765)) 858993459) (a_and (a_ushr (a_sub x0 (a_and (a_ushr x0 1) 1431655765)) 2) 858993459)) (a_ushr (a_add (a_and (a_sub x0 (a_and (a_ushr x0 1) 1431655765)) 858993459) (a_and (a_ushr (a_sub x0 (a_and (a_ushr x0 1) 1431655765)) 2) 858993459)) 4)) 252645135) 8)) (a_ushr (a_add (a_and (a_add (a_add (a_and (a_sub x0 (a_and (a_ushr x0 1) 1431655765)) 858993459) (a_and (a_ushr (a_sub x0 (a_and (a_ushr x0 1) 1431655765)) 2) 858993459)) (a_ushr (a_add (a_and (a_sub x0 (a_and (a_ushr x0 1) 1431655765)) 858993459) (a_and (a_ushr (a_sub x0 (a_and (a_ushr x0 1) 1431655765)) 2) 858993459)) 4)) 252645135) (a_ushr (a_and (a_add (a_add (a_and (a_sub x0 (a_and (a_ushr x0 1) 1431655765)) 858993459) (a_and (a_ushr (a_sub x0 (a_and (a_ushr x0 1) 1431655765)) 2) 858993459)) (a_ushr (a_add (a_and (a_sub x0 (a_and (a_ushr x0 1) 1431655765)) 858993459) (a_and (a_ushr (a_sub x0 (a_and (a_ushr x0 1) 1431655765)) 2) 858993459)) 4)) 252645135) 8)) 16)) 63)
theorem bcF_64 : ∀ a : Fin 64, ∀ b : Fin 64, bcF ((64 * a.val + b.val : Nat) : Int) = (onesN (64 * a.val + b.val) : Int) := by decide +kernel
theorem bcF_ok {u : Nat} (h : u < 4096) : bcF (u : Int) = (onesN u : Int) := by
  have := bcF_64 ⟨u / 64, by omega⟩ ⟨u % 64, by omega⟩
  rw [show 64 * (u / 64) + u % 64 = u by omega] at this
  exact this
theorem s1_Integer_bitCount {M : AM} {u : Nat} (h : u < 4096) : aCi s1_G 4 151 [aI (u : Int)] M (fun r M' => M' = M ∧ r = (onesN u : Int)) := by
  refine ⟨Nat.le_of_ble_eq_true rfl, fun d hd => ?_⟩
  refine s1_Integer_bitCount_0 (by omega) ⟨bcF (u : Int), rfl, rfl, bcF_ok h⟩
