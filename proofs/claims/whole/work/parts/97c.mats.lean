/-! MATCH: what the least quarrel is -/
def leaF (u : Nat) (p c : Nat → Int) (b : Int) : Nat → Int
  | 0 => b
  | j + 1 => if u.testBit j then leaF u p c b j else (if leaF u p c b j ≤ p j + c (u ||| 2 ^ j) then leaF u p c b j else p j + c (u ||| 2 ^ j))
theorem leaF_bd {u : Nat} {p c : Nat → Int} {b B : Int} (hb : 0 ≤ b ∧ b ≤ B) (hp : ∀ j, 0 ≤ p j) (hc : ∀ v, 0 ≤ c v) : ∀ n, 0 ≤ leaF u p c b n ∧ leaF u p c b n ≤ B
  | 0 => hb
  | n + 1 => by
    have ih := leaF_bd (u := u) hb hp hc n
    have h1 := hp n
    have h2 := hc (u ||| 2 ^ n)
    unfold leaF
    (repeat' split) <;> omega
def behF (a : Nat → Int) (u : Nat) : Nat → Int
  | 0 => 0
  | j + 1 => behF a u j + (if u.testBit j then 0 else a j)
theorem behF_succ {a : Nat → Int} {u j : Nat} : behF a u (j + 1) = behF a u j + (if u.testBit j then 0 else a j) := rfl
theorem leaF_succ {u : Nat} {p c : Nat → Int} {b : Int} {j : Nat} : leaF u p c b (j + 1) = if u.testBit j then leaF u p c b j else (if leaF u p c b j ≤ p j + c (u ||| 2 ^ j) then leaF u p c b j else p j + c (u ||| 2 ^ j)) := rfl
theorem behF_bd {a : Nat → Int} {u : Nat} (ha : ∀ j, 0 ≤ a j ∧ a j ≤ 109) : ∀ n, 0 ≤ behF a u n ∧ behF a u n ≤ 109 * n
  | 0 => by simp [behF]
  | n + 1 => by
    have ih := behF_bd (u := u) ha n
    have h1 := ha n
    unfold behF
    (repeat' split) <;> omega
def frsF (P : Nat → Bool) : Nat → Int
  | 0 => -1
  | n + 1 => if frsF P n = -1 then (if P n then (n : Int) else -1) else frsF P n
theorem frsF_no {P : Nat → Bool} : ∀ n, (∀ j, j < n → P j = false) → frsF P n = -1
  | 0, _ => rfl
  | n + 1, h => by
    unfold frsF
    rw [if_pos (frsF_no n (fun j hj => h j (by omega))), h n (by omega)]
    rfl
theorem frsF_at {P : Nat → Bool} {j : Nat} (hj : ∀ i, i < j → P i = false) (hP : P j = true) : ∀ n, j < n → frsF P n = j
  | 0, h => absurd h (by omega)
  | n + 1, h => by
    unfold frsF
    by_cases e : n = j
    · subst e
      rw [if_pos (frsF_no n hj), if_pos hP]
    · rw [frsF_at hj hP n (by omega), if_neg (by omega)]
theorem frsF_rg {P : Nat → Bool} : ∀ n, frsF P n = -1 ∨ ∃ j : Nat, j < n ∧ frsF P n = j ∧ P j = true
  | 0 => Or.inl rfl
  | n + 1 => by
    unfold frsF
    rcases frsF_rg (P := P) n with e | ⟨j, h1, h2, h3⟩
    · rw [if_pos e]
      by_cases q : P n = true
      · rw [if_pos q]; exact Or.inr ⟨n, by omega, rfl, q⟩
      · rw [if_neg q]; exact Or.inl rfl
    · rw [h2, if_neg (by omega)]
      exact Or.inr ⟨j, by omega, rfl, h3⟩
def osN (D : AM) (l : Int) : Nat := (D 47 (2 * l)).toNat
def nsN (D : AM) (l : Int) : Nat := (D 47 (2 * l + 1)).toNat
def aloI (D : AM) (k : Int) : Int := 10 + D 49 k / 10
def prcI (D : AM) (f g : Int) : Int := (if D 49 f - D 49 g < 0 then -(D 49 f - D 49 g) else D 49 f - D 49 g) + (if D 48 f = D 48 g then 0 else 7) + (if D 50 f = D 50 g then 0 else 3)
theorem osN_e {D : AM} {l : Int} (hI : Inv D) : D 47 (2 * l) = (osN D l : Int) ∧ osN D l ≤ 8 := by
  have := Inv_fn hI (2 * l)
  unfold osN
  omega
theorem nsN_e {D : AM} {l : Int} (hI : Inv D) : D 47 (2 * l + 1) = (nsN D l : Int) ∧ nsN D l ≤ 8 := by
  have := Inv_fn hI (2 * l + 1)
  unfold nsN
  omega
theorem aloI_bd {D : AM} (hI : Inv D) (k : Int) : 10 ≤ aloI D k ∧ aloI D k ≤ 109 := by
  have := Inv_fa hI k
  unfold aloI
  omega
theorem prcI_bd {D : AM} (hI : Inv D) (f g : Int) : 0 ≤ prcI D f g ∧ prcI D f g ≤ 1009 := by
  have h1 := Inv_fa hI f
  have h2 := Inv_fa hI g
  unfold prcI
  (repeat' split) <;> omega
def cstN (D : AM) (l : Int) : Nat → Nat → Int
  | 0, u => behF (fun j => aloI D (16 * l + 8 + (j : Int))) u (nsN D l)
  | m + 1, u => leaF u (fun j => prcI D (16 * l + ((osN D l - (m + 1) : Nat) : Int)) (16 * l + 8 + (j : Int))) (cstN D l m) (aloI D (16 * l + ((osN D l - (m + 1) : Nat) : Int)) + cstN D l m u) (nsN D l)
def cst (D : AM) (l : Int) (i u : Nat) : Int := cstN D l (osN D l - i) u
theorem cstN_bd {D : AM} {l : Int} (hI : Inv D) : ∀ m u, 0 ≤ cstN D l m u ∧ cstN D l m u ≤ 109 * (m : Int) + 872
  | 0, u => by
    have h1 := behF_bd (a := fun j : Nat => aloI D (16 * l + 8 + (j : Int))) (u := u) (fun j => by have := aloI_bd hI (16 * l + 8 + (j : Int)); exact ⟨by omega, by omega⟩) (nsN D l)
    have h2 := (nsN_e (l := l) hI).2
    unfold cstN
    omega
  | m + 1, u => by
    have ih := cstN_bd (l := l) hI m
    have h1 := aloI_bd hI (16 * l + ((osN D l - (m + 1) : Nat) : Int))
    have h2 := ih u
    unfold cstN
    exact leaF_bd ⟨by omega, by omega⟩ (fun j => (prcI_bd hI _ _).1) (fun v => (ih v).1) _
theorem cst_bd {D : AM} {l : Int} (hI : Inv D) (i u : Nat) : 0 ≤ cst D l i u ∧ cst D l i u ≤ 2000 := by
  have := cstN_bd (l := l) hI (osN D l - i) u
  have h := (osN_e (l := l) hI).2
  unfold cst
  omega
theorem cst_os {D : AM} {l : Int} {u : Nat} : cst D l (osN D l) u = behF (fun j => aloI D (16 * l + 8 + (j : Int))) u (nsN D l) := by
  unfold cst
  rw [Nat.sub_self]
  rfl
theorem cst_lt {D : AM} {l : Int} {i u : Nat} (h : i < osN D l) : cst D l i u = leaF u (fun j => prcI D (16 * l + (i : Int)) (16 * l + 8 + (j : Int))) (cst D l (i + 1)) (aloI D (16 * l + (i : Int)) + cst D l (i + 1) u) (nsN D l) := by
  have e : osN D l - i = (osN D l - (i + 1)) + 1 := by omega
  have e2 : osN D l - (osN D l - (i + 1) + 1) = i := by omega
  unfold cst
  rw [e]
  show leaF u _ _ _ _ = _
  rw [e2]
def fpB (D : AM) (l : Int) (i u : Nat) (j : Nat) : Bool := !u.testBit j && decide (prcI D (16 * l + (i : Int)) (16 * l + 8 + (j : Int)) + cst D l (i + 1) (u ||| 2 ^ j) = cst D l i u)
def fpN (D : AM) (l : Int) (i u : Nat) : Int := frsF (fpB D l i u) (nsN D l)
def usdN (D : AM) (l : Int) : Nat → Nat
  | 0 => 0
  | i + 1 => if fpN D l i (usdN D l i) = -1 then usdN D l i else usdN D l i ||| 2 ^ (fpN D l i (usdN D l i)).toNat
theorem usdN_bd {D : AM} {l : Int} : ∀ i, usdN D l i < 2 ^ nsN D l ∧ onesN (usdN D l i) ≤ i
  | 0 => ⟨Nat.two_pow_pos _, by show onesN 0 ≤ 0; rw [onesN_0]; exact Nat.le_refl 0⟩
  | i + 1 => by
    have ih := usdN_bd (D := D) (l := l) i
    unfold usdN
    rcases frsF_rg (P := fpB D l i (usdN D l i)) (nsN D l) with e | ⟨j, h1, h2, h3⟩
    · rw [if_pos (show fpN D l i (usdN D l i) = -1 from e)]
      exact ⟨ih.1, by omega⟩
    · have e : fpN D l i (usdN D l i) = j := h2
      rw [e, if_neg (by omega), show ((j : Int)).toNat = j by omega]
      have := onesN_ins (u := usdN D l i) (j := j)
      exact ⟨n_ins_lt ih.1 h1, by omega⟩
def parN (D : AM) (l : Int) (i : Nat) : Int := fpN D l i (usdN D l i)
def f_match (D : AM) (l i : Int) : Int := if 0 ≤ l ∧ l < D 0 3 then (if i = -1 then cst D l 0 0 else if 0 ≤ i ∧ i < D 47 (2 * l) then parN D l i.toNat else -1) else -100001
