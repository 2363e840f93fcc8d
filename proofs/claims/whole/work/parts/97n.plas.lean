/-! PLAN: the livings to be seen -/
theorem cntB_ext {P : Nat → Bool} {n : Nat} : ∀ m, (∀ i, n ≤ i → i < n + m → P i = false) → cntB P (n + m) = cntB P n
  | 0, _ => rfl
  | m + 1, h => by
    rw [show n + (m + 1) = (n + m) + 1 by omega, cntB_succ, cntB_ext m (fun i h0 h1 => h i h0 (by omega)), h (n + m) (by omega) (by omega)]
    rfl
theorem cntB_lt {P : Nat → Bool} {i : Nat} (h : P i = true) : ∀ n, i < n → cntB P i < cntB P n
  | 0, hn => absurd hn (by omega)
  | n + 1, hn => by
    rw [cntB_succ]
    by_cases e : i = n
    · subst e; rw [if_pos h]; omega
    · have := cntB_lt h n (by omega); omega
theorem cntB_at {P : Nat → Bool} {k : Nat} : ∀ n, k < cntB P n → ∃ i, i < n ∧ P i = true ∧ cntB P i = k
  | 0, h => absurd h (by simp [cntB])
  | n + 1, h => by
    rw [cntB_succ] at h
    by_cases q : k < cntB P n
    · obtain ⟨i, h1, h2, h3⟩ := cntB_at n q
      exact ⟨i, by omega, h2, h3⟩
    · by_cases w : P n = true
      · rw [if_pos w] at h; exact ⟨n, by omega, w, by omega⟩
      · rw [if_neg w] at h; omega
def sPl (u : Nat) : Nat := cntB (fun i => u.testBit i) 12
def snP (u k : Nat) : Int := frsF (fun l => u.testBit l && decide (cntB (fun i => u.testBit i) l = k)) 12
theorem snP_at {u l : Nat} (hl : l < 12) (h : u.testBit l = true) : snP u (cntB (fun i => u.testBit i) l) = (l : Int) := by
  refine frsF_at (fun i hi => ?_) ?_ 12 hl
  · cases e : u.testBit i with
    | false => rfl
    | true =>
      have := cntB_lt (P := fun i => u.testBit i) e l hi
      rw [decide_eq_false (by omega)]
      rfl
  · rw [h, decide_eq_true rfl]; rfl
theorem snP_rg {u n k : Nat} (hn : n ≤ 12) (hu : u < 2 ^ n) (h : k < sPl u) : 0 ≤ snP u k ∧ snP u k < n := by
  obtain ⟨i, h1, h2, h3⟩ := cntB_at 12 h
  have := bit_lt hu h2
  rw [← h3, snP_at h1 h2]
  omega
theorem sPl_n {u n : Nat} (hn : n ≤ 12) (hu : u < 2 ^ n) : cntB (fun i => u.testBit i) n = sPl u := by
  have := cntB_ext (P := fun i => u.testBit i) (n := n) (12 - n) (fun i h0 h1 => by
    cases e : u.testBit i with
    | false => rfl
    | true => have := bit_lt hu e; omega)
  rw [show n + (12 - n) = 12 by omega] at this
  exact this.symm
theorem sPl_ones {u : Nat} (hu : u < 4096) : onesN u = sPl u := by
  have := cntB_ext (P := fun i => u.testBit i) (n := 12) 19 (fun i h0 h1 => by
    cases e : u.testBit i with
    | false => rfl
    | true => have := bit_lt (show u < 2 ^ 12 from hu) e; omega)
  exact this
def frmD (D : AM) (u k : Nat) : Int := absI (D 2 (snP u k)) + absI (D 3 (snP u k))
def btwD (D : AM) (u j k : Nat) : Int := mlsD D (snP u j) (snP u k)
theorem plG_D {D : AM} {u : Nat} (hI : Inv D) : PlG (frmD D u) (btwD D u) := by
  have X := Inv_x hI
  have Y := Inv_y hI
  refine ⟨fun k => ?_, fun j k => ?_, fun k => ?_, fun j k => ?_, fun m k => ?_, fun j m k => ?_⟩
  · have := X (snP u k); have := Y (snP u k); unfold frmD absI; (repeat' split) <;> omega
  · have := X (snP u k); have := Y (snP u k); have := X (snP u j); have := Y (snP u j); unfold btwD mlsD absI; (repeat' split) <;> omega
  · unfold btwD mlsD absI; (repeat' split) <;> omega
  · unfold btwD mlsD absI; (repeat' split) <;> omega
  · unfold btwD frmD mlsD absI; (repeat' split) <;> omega
  · unfold btwD mlsD
    have tri : ∀ a b c : Int, absI (a - c) ≤ absI (a - b) + absI (b - c) := fun a b c => by unfold absI; (repeat' split) <;> omega
    have t1 := tri (D 2 (snP u j)) (D 2 (snP u m)) (D 2 (snP u k))
    have t2 := tri (D 3 (snP u j)) (D 3 (snP u m)) (D 3 (snP u k))
    omega
def rdD (D : AM) (u : Nat) : Nat → Int := rideF (sPl u) (frmD D u) (btwD D u)
theorem rdD_bd {D : AM} {u p : Nat} (hI : Inv D) : 0 ≤ rdD D u p ∧ rdD D u p ≤ 1000000 := rideF_bd (plG_D hI)
def sprF (u t : Nat) : Nat → Nat
  | 0 => 0
  | k + 1 => if t.testBit k then sprF u t k ||| 2 ^ (snP u k).toNat else sprF u t k
theorem sprF_lt {u t n : Nat} (hn : n ≤ 12) (hu : u < 2 ^ n) : ∀ k, k ≤ sPl u → sprF u t k < 4096
  | 0, _ => by show 0 < 4096; omega
  | k + 1, h => by
    have ih := sprF_lt (t := t) hn hu k (by omega)
    have r := snP_rg hn hu (show k < sPl u by omega)
    unfold sprF
    split
    · exact Nat.or_lt_two_pow (n := 12) ih (Nat.pow_lt_pow_right (by decide) (by omega))
    · exact ih
theorem sprF_0 {u : Nat} : ∀ k, sprF u 0 k = 0
  | 0 => rfl
  | k + 1 => by
    unfold sprF
    rw [Nat.zero_testBit, if_neg (by decide)]
    exact sprF_0 k
theorem b_shl0 {c : Nat} (hc : c < 32) : a_shl 0 (c : Int) = 0 := by
  have := b_shl (n := 0) (c := c) hc (by rw [Nat.zero_shiftLeft]; omega)
  rw [Nat.zero_shiftLeft] at this
  exact this
theorem spr_or {u t n k : Nat} (hn : n ≤ 12) (hu : u < 2 ^ n) (hk : k < sPl u) : a_or (sprF u t k : Int) (a_shl (bI (t.testBit k)) (snP u k)) = (sprF u t (k + 1) : Int) := by
  have r := snP_rg hn hu hk
  have hl := sprF_lt (t := t) hn hu k (by omega)
  obtain ⟨c, ec⟩ : ∃ c : Nat, snP u k = c := ⟨(snP u k).toNat, by omega⟩
  show _ = (((if t.testBit k then sprF u t k ||| 2 ^ (snP u k).toNat else sprF u t k : Nat)) : Int)
  rw [ec, show ((c : Int)).toNat = c by omega]
  cases e : t.testBit k with
  | true =>
    rw [if_pos rfl]
    exact n_ins (by omega) (by omega)
  | false =>
    rw [if_neg (by decide), show bI false = 0 from rfl, b_shl0 (by omega)]
    have := b_or (n := sprF u t k) (m := 0) (by omega) (by omega)
    rw [Nat.or_zero] at this
    exact this
def f_plan (D : AM) (w mo day : Int) : Int :=
  if ¬ (0 ≤ w ∧ w < ((2 ^ (D 0 3).toNat : Nat) : Int)) then -100001 else if ¬ ((1 ≤ sPl w.toNat ∧ sPl w.toNat ≤ 8) ∧ (1 ≤ mo ∧ mo ≤ 999) ∧ -2 ≤ day) then -100002 else
  if 1000000 ≤ (dysF (rdD D w.toNat) mo (2 ^ sPl w.toNat - 1)).1 then -100003 else if day = -1 then (dysF (rdD D w.toNat) mo (2 ^ sPl w.toNat - 1)).1 else if day = -2 then (dysF (rdD D w.toNat) mo (2 ^ sPl w.toNat - 1)).2 else
  (sprF w.toNat (fdF (rdD D w.toNat) mo (lfF (rdD D w.toNat) mo (2 ^ sPl w.toNat - 1) day.toNat)) (sPl w.toNat) : Nat)
theorem u_neg {x : Int} {c : Nat} (h0 : -2147483648 ≤ x) (h1 : x < 0) (hc : c ≤ 12) : a_ushr x (c : Int) ≠ 0 := by
  unfold a_ushr
  have hcc : (((Int32.ofInt (c : Int)).toUInt32 &&& Int32.toUInt32 31).toBitVec % 32).toNat = c := by
    have key : ∀ m : Fin 32, (((Int32.ofInt (m.val : Int)).toUInt32 &&& Int32.toUInt32 31).toBitVec % 32).toNat = m.val := by decide +kernel
    exact key ⟨c, by omega⟩
  have e : (((Int32.ofInt x).toUInt32 >>> ((Int32.ofInt (c : Int)).toUInt32 &&& Int32.toUInt32 31)).toInt32).toBitVec = BitVec.ofInt 32 x >>> c := by
    show (Int32.ofInt x).toBitVec >>> (((Int32.ofInt (c : Int)).toUInt32 &&& Int32.toUInt32 31).toBitVec % 32) = _
    rw [BitVec.ushiftRight_eq', hcc]
    rfl
  intro q
  have q2 : (((Int32.ofInt x).toUInt32 >>> ((Int32.ofInt (c : Int)).toUInt32 &&& Int32.toUInt32 31)).toInt32).toBitVec.toInt = 0 := q
  rw [e] at q2
  have q3 : BitVec.ofInt 32 x >>> c = 0#32 := BitVec.eq_of_toInt_eq (by rw [q2]; rfl)
  have q4 := congrArg BitVec.toNat q3
  rw [BitVec.toNat_ushiftRight, BitVec.toNat_ofInt, Nat.shiftRight_eq_div_pow] at q4
  have hp : 2 ^ c ≤ 2 ^ 12 := Nat.pow_le_pow_right (by decide) hc
  have hx : (x % ((2 ^ 32 : Nat) : Int)).toNat = (x + 4294967296).toNat := by
    congr 1
    have : x % 4294967296 = x + 4294967296 := by omega
    exact this
  rw [hx] at q4
  have := Nat.div_pos (show 2 ^ c ≤ (x + 4294967296).toNat by omega) (Nat.two_pow_pos c)
  rw [q4] at this
  exact absurd this (by decide)
theorem sr_0 {u c : Nat} : u >>> c = 0 ↔ u < 2 ^ c := by
  rw [Nat.shiftRight_eq_div_pow, Nat.div_eq_zero_iff]
  have := Nat.two_pow_pos c
  omega
