/-! THE STORY in the first system: what is asked of it -/
theorem st_and1 (t : Nat) (b : Bool) : (b.toNat + 2 * t) &&& 1 = b.toNat := by
  rw [Nat.and_one_is_mod]; cases b <;> simp <;> omega
theorem st_or (r : Nat) (a b : Bool) : (a.toNat + 2 * r) ||| b.toNat = (a || b).toNat + 2 * r := by
  have h1 : ((a.toNat + 2 * r) ||| b.toNat) % 2 = (a || b).toNat := by
    rw [show (2 : Nat) = 2 ^ 1 from rfl, Nat.or_mod_two_pow]
    cases a <;> cases b <;> simp <;> omega
  have h2 : ((a.toNat + 2 * r) ||| b.toNat) / 2 = r := by
    rw [show (2 : Nat) = 2 ^ 1 from rfl, Nat.or_div_two_pow]
    have e1 : (a.toNat + 2 ^ 1 * r) / 2 ^ 1 = r := by cases a <;> simp <;> omega
    have e2 : b.toNat / 2 ^ 1 = 0 := by cases b <;> rfl
    rw [e1, e2, Nat.or_zero]
  omega
theorem st_xor (r : Nat) (a : Bool) : (a.toNat + 2 * r) ^^^ 1 = (!a).toNat + 2 * r := by
  have h1 : ((a.toNat + 2 * r) ^^^ 1) % 2 = (!a).toNat := by
    rw [show (2 : Nat) = 2 ^ 1 from rfl, Nat.xor_mod_two_pow]
    have : (a.toNat + 2 ^ 1 * r) % 2 ^ 1 = a.toNat := by cases a <;> simp <;> omega
    rw [this]
    cases a <;> rfl
  have h2 : ((a.toNat + 2 * r) ^^^ 1) / 2 = r := by
    rw [show (2 : Nat) = 2 ^ 1 from rfl, Nat.xor_div_two_pow]
    have e1 : (a.toNat + 2 ^ 1 * r) / 2 ^ 1 = r := by cases a <;> simp <;> omega
    rw [e1, show 1 / 2 ^ 1 = 0 from rfl, Nat.xor_zero]
  omega
theorem l_xor' {n m : Nat} (hn : n < 9223372036854775808) (hm : m < 9223372036854775808) : a_lxor n m = ((n ^^^ m : Nat) : Int) := by
  unfold a_lxor
  have h : (Int64.ofInt (n : Int) ^^^ Int64.ofInt (m : Int)).toBitVec.toNat = n ^^^ m := by
    rw [Int64.toBitVec_xor, l_bv, l_bv, BitVec.toNat_xor, BitVec.toNat_ofNat, BitVec.toNat_ofNat, Nat.mod_eq_of_lt (by omega), Nat.mod_eq_of_lt (by omega)]
  have hl : n ^^^ m < 9223372036854775808 := Nat.xor_lt_two_pow (n := 63) hn hm
  rw [l_int _ (by rw [h]; exact hl), h]
theorem st_and (n : Nat) (b : Bool) (h : n < 9223372036854775808) : a_land n (a_lor (-2) b.toNat) = (((n % 2) * b.toNat + 2 * (n / 2) : Nat) : Int) := by
  cases b
  · have e : a_lor (-2) ((false.toNat : Nat) : Int) = -2 := by decide +kernel
    rw [e]
    unfold a_land
    have h1 : (Int64.ofInt (n : Int) &&& Int64.ofInt (-2)).toBitVec.toNat = 2 * (n / 2) := by
      rw [Int64.toBitVec_and, BitVec.toNat_and, l_bv, BitVec.toNat_ofNat, Nat.mod_eq_of_lt (by omega)]
      rw [show (Int64.ofInt (-2)).toBitVec.toNat = 18446744073709551614 by decide +kernel]
      have m : (n &&& 18446744073709551614) % 2 = 0 := by
        rw [show (2 : Nat) = 2 ^ 1 from rfl, Nat.and_mod_two_pow]
        simp
      have d : (n &&& 18446744073709551614) / 2 = n / 2 := by
        rw [show (2 : Nat) = 2 ^ 1 from rfl, Nat.and_div_two_pow]
        rw [show (18446744073709551614 : Nat) / 2 ^ 1 = 2 ^ 63 - 1 from rfl, Nat.and_two_pow_sub_one_eq_mod]
        omega
      omega
    rw [l_int _ (by omega), h1]
    simp
  · have e : a_lor (-2) ((true.toNat : Nat) : Int) = -1 := by decide +kernel
    rw [e]
    unfold a_land
    have h1 : (Int64.ofInt (n : Int) &&& Int64.ofInt (-1)).toBitVec.toNat = n := by
      rw [Int64.toBitVec_and, BitVec.toNat_and, l_bv, BitVec.toNat_ofNat, Nat.mod_eq_of_lt (by omega)]
      rw [show (Int64.ofInt (-1)).toBitVec.toNat = 2 ^ 64 - 1 by decide +kernel, Nat.and_two_pow_sub_one_eq_mod]
      omega
    rw [l_int _ (by omega), h1]
    simp
    omega
/-- the first system's store holds a story -/
def Q1 (D : AM) (s : Sg) (M : AM) : Prop :=
  (∀ l, 0 ≤ l → l < 12 → lset (M 38 l) 40 (fun p => hasH (s.h l) p)) ∧
  (∀ l p c, 0 ≤ l → l < 12 → (p, c) ∈ s.h l → M 39 (l * 40 + p) = c) ∧
  (∀ l, 0 ≤ l → l < 12 → M 52 l = s.ef l) ∧
  (∀ l, 0 ≤ l → l < 12 → M 53 l = s.eb l) ∧
  (∀ l, 0 ≤ l → l < 12 → M 57 l = s.ra l) ∧
  (∀ l, 0 ≤ l → l < 12 → M 58 l = s.rb l) ∧
  (∀ l, 0 ≤ l → l < 12 → M 59 l = s.tn l) ∧
  (M 56 5 = s.so.length) ∧
  (∀ (k : Nat) (hk : k < s.so.length), M 60 k = s.so[k].1 ∧ M 61 k = s.so[k].2) ∧
  (M 62 6 = s.lg.length) ∧
  (∀ (k : Nat) (hk : k < s.lg.length), M 66 k = s.lg[k].1 ∧ M 67 k = s.lg[k].2.1 ∧ M 68 k = s.lg[k].2.2.1 ∧ M 64 k = s.lg[k].2.2.2.1 ∧ M 65 k = s.lg[k].2.2.2.2 ∧ M 63 k = D 6 s.lg[k].2.2.2.1) ∧
  (∀ n, s.rs n ≠ -1 → M 54 n = s.rs n)
theorem Q1_h {D : AM} {s : Sg} {M : AM} (h : Q1 D  s  M ) : ∀ l, 0 ≤ l → l < 12 → lset (M 38 l) 40 (fun p => hasH (s.h l) p) := h.1
theorem Q1_c {D : AM} {s : Sg} {M : AM} (h : Q1 D  s  M ) : ∀ l p c, 0 ≤ l → l < 12 → (p, c) ∈ s.h l → M 39 (l * 40 + p) = c := h.2.1
theorem Q1_ef {D : AM} {s : Sg} {M : AM} (h : Q1 D  s  M ) : ∀ l, 0 ≤ l → l < 12 → M 52 l = s.ef l := h.2.2.1
theorem Q1_eb {D : AM} {s : Sg} {M : AM} (h : Q1 D  s  M ) : ∀ l, 0 ≤ l → l < 12 → M 53 l = s.eb l := h.2.2.2.1
theorem Q1_ra {D : AM} {s : Sg} {M : AM} (h : Q1 D  s  M ) : ∀ l, 0 ≤ l → l < 12 → M 57 l = s.ra l := h.2.2.2.2.1
theorem Q1_rb {D : AM} {s : Sg} {M : AM} (h : Q1 D  s  M ) : ∀ l, 0 ≤ l → l < 12 → M 58 l = s.rb l := h.2.2.2.2.2.1
theorem Q1_tn {D : AM} {s : Sg} {M : AM} (h : Q1 D  s  M ) : ∀ l, 0 ≤ l → l < 12 → M 59 l = s.tn l := h.2.2.2.2.2.2.1
theorem Q1_sn {D : AM} {s : Sg} {M : AM} (h : Q1 D  s  M ) : M 56 5 = s.so.length := h.2.2.2.2.2.2.2.1
theorem Q1_so {D : AM} {s : Sg} {M : AM} (h : Q1 D  s  M ) : ∀ (k : Nat) (hk : k < s.so.length), M 60 k = s.so[k].1 ∧ M 61 k = s.so[k].2 := h.2.2.2.2.2.2.2.2.1
theorem Q1_ln {D : AM} {s : Sg} {M : AM} (h : Q1 D  s  M ) : M 62 6 = s.lg.length := h.2.2.2.2.2.2.2.2.2.1
theorem Q1_lg {D : AM} {s : Sg} {M : AM} (h : Q1 D  s  M ) : ∀ (k : Nat) (hk : k < s.lg.length), M 66 k = s.lg[k].1 ∧ M 67 k = s.lg[k].2.1 ∧ M 68 k = s.lg[k].2.2.1 ∧ M 64 k = s.lg[k].2.2.2.1 ∧ M 65 k = s.lg[k].2.2.2.2 ∧ M 63 k = D 6 s.lg[k].2.2.2.1 := h.2.2.2.2.2.2.2.2.2.2.1
theorem Q1_rs {D : AM} {s : Sg} {M : AM} (h : Q1 D  s  M ) : ∀ n, s.rs n ≠ -1 → M 54 n = s.rs n := h.2.2.2.2.2.2.2.2.2.2.2
theorem Q1_fw {D M M' : AM} {s : Sg} {cs : List Nat} {fs : List (Nat × Int)} (h : Q1 D s M) (g : fr (wr cs fs) M M') (e : sepL [38, 39, 52, 53, 54, 57, 58, 59, 60, 61, 63, 64, 65, 66, 67, 68] [(56, 5), (62, 6)] cs fs = true) : Q1 D s M' := by
  have m38 : M' 38 = M 38 := fr_c g e rfl
  have m39 : M' 39 = M 39 := fr_c g e rfl
  have m52 : M' 52 = M 52 := fr_c g e rfl
  have m53 : M' 53 = M 53 := fr_c g e rfl
  have m54 : M' 54 = M 54 := fr_c g e rfl
  have m57 : M' 57 = M 57 := fr_c g e rfl
  have m58 : M' 58 = M 58 := fr_c g e rfl
  have m59 : M' 59 = M 59 := fr_c g e rfl
  have m60 : M' 60 = M 60 := fr_c g e rfl
  have m61 : M' 61 = M 61 := fr_c g e rfl
  have m63 : M' 63 = M 63 := fr_c g e rfl
  have m64 : M' 64 = M 64 := fr_c g e rfl
  have m65 : M' 65 = M 65 := fr_c g e rfl
  have m66 : M' 66 = M 66 := fr_c g e rfl
  have m67 : M' 67 = M 67 := fr_c g e rfl
  have m68 : M' 68 = M 68 := fr_c g e rfl
  have m5 : M' 56 5 = M 56 5 := fr_f g e rfl
  have m6 : M' 62 6 = M 62 6 := fr_f g e rfl
  unfold Q1 at h ⊢
  simp only [m38, m39, m52, m53, m54, m57, m58, m59, m60, m61, m63, m64, m65, m66, m67, m68, m5, m6]
  exact h
/-- what holds of a story told up to its i-th leaf -/
def SI (D : AM) (i : Int) (s : Sg) : Prop :=
  (∀ l p c, (p, c) ∈ s.h l → (0 ≤ l ∧ l < D 0 3) ∧ (0 ≤ p ∧ p < D 0 1) ∧ 0 ≤ c ∧ c < i) ∧
  (∀ l, (s.h l).Pairwise (fun a b => a.2 < b.2)) ∧
  (∀ l, (s.h l).Pairwise (fun a b => a.1 ≠ b.1)) ∧
  (∀ l m p q c, (p, c) ∈ s.h l → (q, c) ∈ s.h m → l = m) ∧
  (∀ l, -1 ≤ s.ef l ∧ s.ef l ≤ 30000) ∧
  (∀ l, s.h l = [] → 0 ≤ s.ef l) ∧
  (∀ l, -1 ≤ s.eb l ∧ s.eb l ≤ 3) ∧
  (∀ l, -1 ≤ s.ra l ∧ s.ra l < D 0 1) ∧
  (∀ l, -1 ≤ s.rb l ∧ s.rb l < D 0 1) ∧
  (∀ l, s.tn l = 0 ∨ (s.tn l = 1 ∧ 0 ≤ s.rb l ∧ 0 ≤ s.ra l)) ∧
  ((s.so.length : Int) ≤ i) ∧
  (∀ e ∈ s.so, ((0 ≤ e.1 ∧ e.1 < D 0 7) ∧ D 5 e.1 = 9) ∧ (e.2 = 0 ∨ e.2 = 1))
theorem SI_hp {D : AM} {i : Int} {s : Sg} (h : SI D  i  s ) : ∀ l p c, (p, c) ∈ s.h l → (0 ≤ l ∧ l < D 0 3) ∧ (0 ≤ p ∧ p < D 0 1) ∧ 0 ≤ c ∧ c < i := h.1
theorem SI_hs {D : AM} {i : Int} {s : Sg} (h : SI D  i  s ) : ∀ l, (s.h l).Pairwise (fun a b => a.2 < b.2) := h.2.1
theorem SI_hn {D : AM} {i : Int} {s : Sg} (h : SI D  i  s ) : ∀ l, (s.h l).Pairwise (fun a b => a.1 ≠ b.1) := h.2.2.1
theorem SI_hu {D : AM} {i : Int} {s : Sg} (h : SI D  i  s ) : ∀ l m p q c, (p, c) ∈ s.h l → (q, c) ∈ s.h m → l = m := h.2.2.2.1
theorem SI_ef {D : AM} {i : Int} {s : Sg} (h : SI D  i  s ) : ∀ l, -1 ≤ s.ef l ∧ s.ef l ≤ 30000 := h.2.2.2.2.1
theorem SI_e0 {D : AM} {i : Int} {s : Sg} (h : SI D  i  s ) : ∀ l, s.h l = [] → 0 ≤ s.ef l := h.2.2.2.2.2.1
theorem SI_eb {D : AM} {i : Int} {s : Sg} (h : SI D  i  s ) : ∀ l, -1 ≤ s.eb l ∧ s.eb l ≤ 3 := h.2.2.2.2.2.2.1
theorem SI_ra {D : AM} {i : Int} {s : Sg} (h : SI D  i  s ) : ∀ l, -1 ≤ s.ra l ∧ s.ra l < D 0 1 := h.2.2.2.2.2.2.2.1
theorem SI_rb {D : AM} {i : Int} {s : Sg} (h : SI D  i  s ) : ∀ l, -1 ≤ s.rb l ∧ s.rb l < D 0 1 := h.2.2.2.2.2.2.2.2.1
theorem SI_tn {D : AM} {i : Int} {s : Sg} (h : SI D  i  s ) : ∀ l, s.tn l = 0 ∨ (s.tn l = 1 ∧ 0 ≤ s.rb l ∧ 0 ≤ s.ra l) := h.2.2.2.2.2.2.2.2.2.1
theorem SI_so {D : AM} {i : Int} {s : Sg} (h : SI D  i  s ) : (s.so.length : Int) ≤ i := h.2.2.2.2.2.2.2.2.2.2.1
theorem SI_sv {D : AM} {i : Int} {s : Sg} (h : SI D  i  s ) : ∀ e ∈ s.so, ((0 ≤ e.1 ∧ e.1 < D 0 7) ∧ D 5 e.1 = 9) ∧ (e.2 = 0 ∨ e.2 = 1) := h.2.2.2.2.2.2.2.2.2.2.2
-- the codes' machine
def stL : List Bool → Nat
  | [] => 0
  | a :: r => a.toNat + 2 * stL r
theorem stL_lt : ∀ st : List Bool, stL st < 2 ^ st.length
  | [] => by decide
  | a :: r => by
    have := stL_lt r
    unfold stL
    rw [List.length_cons, Nat.pow_succ]
    cases a <;> simp <;> omega
theorem stL_40 {st : List Bool} (h : st.length ≤ 40) : stL st < 1099511627776 := Nat.lt_of_lt_of_le (stL_lt st) (show 2 ^ st.length ≤ 2 ^ 40 from Nat.pow_le_pow_right (by decide) h)
theorem bI_nat (b : Bool) : bI b = ((b.toNat : Nat) : Int) := by cases b <;> rfl
theorem s1_Canons_compares {M : AM} {v : Int} (hv : 0 ≤ v ∧ v < 180000) : aCi s1_G 4 12 [aI v, aP 55] M (fun z M' => M' = M ∧ z = bI (cmpv (M 55) v)) := by
  refine ⟨Nat.le_of_ble_eq_true rfl, fun d hd => ?_⟩
  refine s1_Canons_compares_0 (by omega) ?_
  rw [x_div (a := v) (b := 30000) hv.1 (by omega) (by omega) (by omega), x_div (a := v) (b := 10000) hv.1 (by omega) (by omega) (by omega), x_rem (a := v) hv.1 (by omega) (by omega) (by omega), x_rem (a := v / 10000) (by omega) (by omega) (by omega) (by omega)]
  unfold cmpv
  refine ⟨by decide, by omega, by decide, by decide, by decide, fun h1 => ⟨fun h2 => ⟨fun h3 => ⟨fun h4 => ?_, fun h4 => ?_⟩, fun h3 => ⟨fun h4 => ?_, fun h4 => ?_⟩⟩, fun h2 => ⟨fun h4 => ?_, fun h4 => ?_⟩⟩, fun h1 => ?_⟩
  all_goals (refine ⟨by omega, _, rfl, by trivial, ?_⟩)
  · rw [if_neg h2, if_neg h3]; simp [h1, h4, bI]
  · rw [if_neg h2, if_neg h3, show decide (M 55 (v / 30000) = -1) = false by simp; omega, show decide (M 55 (v / 30000) = v % 10000) = true by simp; omega]; rfl
  · rw [if_neg h2, if_pos h3, show decide (v % 10000 < M 55 (v / 30000)) = false by simp; omega]; simp [bI]
  · rw [if_neg h2, if_pos h3, show decide (v % 10000 < M 55 (v / 30000)) = true by simp; omega]; simp [h1, bI]
  · rw [if_pos h2, show decide (M 55 (v / 30000) < v % 10000) = false by simp; omega]; simp [bI]
  · rw [if_pos h2, show decide (M 55 (v / 30000) < v % 10000) = true by simp; omega]; simp [h1, bI]
  · simp [h1, bI]
theorem s1_Canons_isMet {M : AM} {a b : Int} {l : List Int} (hs : seg (M 32) a b l) (hb : b ≤ 2000) (ht : tOk l) : aCi s1_G 5 11 [aP 24, aI a, aI b, aP 55] M (fun z M' => M' = M ∧ z = bI ((evL (cmpv (M 55)) [] l).headD false)) := by
  refine ⟨Nat.le_of_ble_eq_true rfl, fun d hd => ?_⟩
  refine s1_Canons_isMet_0 (by omega) ?_
  obtain ⟨ha, hab, hg⟩ := hs
  have key : ∀ (suf pre : List Int), l = pre ++ suf → aE s1_G d 11 6 [] [some (aP 24), none, some (aI b), some (aP 55), some (aL (stL (evL (cmpv (M 55)) [] pre))), none, some (aI (a + pre.length)), none, none] [] M (fun r M' => ∃ z, r = some (aI z) ∧ M' = M ∧ z = bI ((evL (cmpv (M 55)) [] l).headD false)) := by
    intro suf
    induction suf with
    | nil =>
      intro pre e
      rw [List.append_nil] at e
      subst e
      refine s1_Canons_isMet_6 (by omega) ?_
      obtain ⟨x, hx⟩ := tOk_end (cmpv (M 55)) ht
      rw [hx]
      have e1 : a_land ((stL [x] : Nat) : Int) 1 = bI x := by
        have := l_and (n := stL [x]) (m := 1) (by unfold stL stL; cases x <;> decide) (by decide)
        rw [show ((1 : Nat) : Int) = 1 from rfl] at this
        rw [this, show stL [x] = x.toNat + 2 * 0 from rfl, st_and1, bI_nat]
      rw [e1]
      refine ⟨fun _ => ⟨fun h => ⟨by omega, _, rfl, by trivial, ?_⟩, fun h => ⟨by omega, _, rfl, by trivial, ?_⟩⟩, fun h => absurd h (by omega)⟩
      · cases x
        · rfl
        · exact absurd (cmp0.mpr rfl) h
      · have := cmp0.mp h
        cases x
        · cases this
        · rfl
    | cons v suf ih =>
      intro pre e
      have hl : l.length = pre.length + 1 + suf.length := by rw [e]; simp; omega
      have hv : M 32 (a + pre.length) = v := by
        have := hg pre.length (by omega)
        rw [this]
        simp [e]
      have ih := ih (pre ++ [v]) (by rw [e]; simp)
      rw [evL_snoc, List.length_append] at ih
      rw [e] at ht
      obtain ⟨t1, t2, t3, t4, t5⟩ := tOk_at (cmpv (M 55)) ht
      obtain ⟨st, hst⟩ : ∃ st, st = evL (cmpv (M 55)) [] pre := ⟨_, rfl⟩
      rw [← hst] at t1 t3 t4 t5 ih ⊢
      have hlt := stL_40 t1
      refine s1_Canons_isMet_6 (by omega) ?_
      rw [hv, x_add (by omega)]
      have en : a + (pre.length : Int) + 1 = a + ((pre.length + [v].length : Nat) : Int) := by simp; omega
      rw [en]
      have top : ∀ (x : Bool) (r : List Bool), st = x :: r → a_land ((stL st : Nat) : Int) 1 = ((x.toNat : Nat) : Int) ∧ a_lushr ((stL st : Nat) : Int) 1 = ((stL r : Nat) : Int) := by
        intro x r hr
        have h1 := l_and (n := stL st) (m := 1) (by omega) (by decide)
        rw [show ((1 : Nat) : Int) = 1 from rfl] at h1
        have h2 := l_ushr (n := stL st) (c := 1) (by decide) (by omega)
        rw [show ((1 : Nat) : Int) = 1 from rfl] at h2
        rw [h1, h2, hr, show stL (x :: r) = x.toNat + 2 * stL r from rfl, st_and1]
        refine ⟨rfl, ?_⟩
        have : (x.toNat + 2 * stL r) / 2 ^ 1 = stL r := by cases x <;> simp <;> omega
        rw [this]
      refine ⟨fun h => absurd h (by omega), fun _ => ⟨by omega, ⟨fun hv3 => ?_, fun hv2 => ?_, fun hv1 => ?_, trivial⟩, fun hvr => ⟨by omega, ?_⟩⟩⟩
      · obtain ⟨x, r, hr⟩ := t3 hv3
        rw [hr, evC_i hv3] at ih
        have h1 := l_xor' (n := stL st) (m := 1) (by omega) (by decide)
        rw [show ((1 : Nat) : Int) = 1 from rfl] at h1
        rw [h1, hr, show stL (x :: r) = x.toNat + 2 * stL r from rfl, st_xor]
        exact ih
      · obtain ⟨y, x, r, hr⟩ := t4 (Or.inr hv2)
        rw [hr, evC_b (Or.inr hv2), if_neg (by omega)] at ih
        obtain ⟨g1, g2⟩ := top y (x :: r) hr
        have hr2 : stL (x :: r) < 1099511627776 := stL_40 (by rw [hr] at t1; simp at t1 ⊢; omega)
        rw [g1, g2, l_or (by omega) (by cases y <;> decide), show stL (x :: r) = x.toNat + 2 * stL r from rfl, st_or]
        exact ih
      · obtain ⟨y, x, r, hr⟩ := t4 (Or.inl hv1)
        rw [hr, evC_b (Or.inl hv1), if_pos hv1] at ih
        obtain ⟨g1, g2⟩ := top y (x :: r) hr
        have hr2 : stL (x :: r) < 1099511627776 := stL_40 (by rw [hr] at t1; simp at t1 ⊢; omega)
        rw [g1, g2, st_and _ _ (by omega), show stL (x :: r) = x.toNat + 2 * stL r from rfl]
        have e1 : (x.toNat + 2 * stL r) % 2 * y.toNat + 2 * ((x.toNat + 2 * stL r) / 2) = (x && y).toNat + 2 * stL r := by
          cases x <;> cases y <;> simp <;> omega
        rw [e1]
        exact ih
      · have hv0 : 0 ≤ v ∧ v < 180000 := by omega
        rw [evC_c hv0.1] at ih
        refine aKi_of (s1_Canons_compares hv0) (by omega) (fun z M1 q => ?_)
        obtain ⟨rfl, rfl⟩ := q
        have t5 := t5 hv0.1
        have hlt2 : stL st < 549755813888 := Nat.lt_of_lt_of_le (stL_lt st) (show 2 ^ st.length ≤ 2 ^ 39 from Nat.pow_le_pow_right (by decide) (by omega))
        have h1 := l_shl (n := stL st) (c := 1) (by decide) (by rw [Nat.shiftLeft_eq]; omega)
        rw [show ((1 : Nat) : Int) = 1 from rfl, Nat.shiftLeft_eq] at h1
        rw [a_bl_bI, h1, bI_nat, l_or (by omega) (by cases (cmpv (M1 55) v) <;> decide)]
        have e1 : stL st * 2 ^ 1 ||| (cmpv (M1 55) v).toNat = (cmpv (M1 55) v).toNat + 2 * stL st := by
          have := st_or (stL st) false (cmpv (M1 55) v)
          simpa [Nat.mul_comm] using this
        rw [e1]
        exact ih
  have h := key l [] rfl
  rw [show a + (([] : List Int).length : Int) = a by simp] at h
  exact h

/-- an index that counts -/
theorem B1_cnt {D M : AM} {c day : Int} (hI : Inv D) (hB : B1 D M) (hw : M 24 10 = day) (hd0 : 0 ≤ day) (h0 : 0 ≤ c) (h1 : c < D 0 18) : aCi s1_G 4 5 [aP 24, aI c] M (fun z M' => M' = M ∧ z = bI (isOn D day c)) := by
  have hn := Inv_cn hI
  obtain ⟨p1, p2, -⟩ := B1_set hB hw hd0
  have hc : bset (M 24 11) 10 (fun i => cond (decide ((i : Int) < D 0 18)) (isOn D day i) ((M 24 11).toNat.testBit i)) := by
    refine ⟨p2.1, by have := p2.2; omega, fun i _ => ?_⟩
    dsimp only
    by_cases hi : (i : Int) < D 0 18
    · rw [show decide ((i : Int) < D 0 18) = true by simpa using hi]
      have := p1 i (by omega) hi
      rw [show ((i : Int)).toNat = i by omega] at this
      exact this
    · rw [show decide ((i : Int) < D 0 18) = false by simpa using hi]
      rfl
  refine ⟨Nat.le_of_ble_eq_true rfl, fun d hd => ?_⟩
  refine s1_Canons_isCounting_0 (by omega) ?_
  obtain ⟨b, rfl⟩ : ∃ b : Nat, c = b := ⟨c.toNat, by omega⟩
  have hg : a_and (a_shr (M 24 11) b) 1 = bI (isOn D day b) := by
    have hg := bset_get (c := b) hc (by omega) (by decide)
    rw [show decide ((b : Int) < D 0 18) = true by simp; omega] at hg
    exact hg
  rw [hg]
  show (bI (isOn D day b) ≠ 1 → _) ∧ _
  cases e : isOn D day b
  · exact ⟨fun _ => ⟨Or.inl rfl, _, rfl, rfl, rfl⟩, fun h => absurd h (by decide)⟩
  · exact ⟨fun h => absurd rfl h, fun _ => ⟨Or.inr rfl, _, rfl, rfl, rfl⟩⟩
theorem CB_cl {D M : AM} (h : CB D M) {j c : Int} (h0 : 0 ≤ j) (h1 : j < D 0 18) (h2 : 0 ≤ c) (h3 : c < D 15 j) : cl1 D j (12 * j + c) (M 28 (12 * j + c)) (M 29 (12 * j + c)) (M 30 (12 * j + c)) (M 31 (12 * j + c)) (M 32) := (CB_ca h j h0 h1).2 c h2 h3
theorem s1_fb_in {D M : AM} {Q : Option AV → AM → Prop} {d : Nat} {day i j : Int} {F : Int → Int} (hd : 6 ≤ d) (hI : Inv D) (hB : B1 D M) (hw : M 24 10 = day) (hd0 : 0 ≤ day) (hj : 0 ≤ j ∧ j < D 0 18) (hi : 0 ≤ i ∧ i < 10) (hon : isOn D day j = true) (hF : M 55 = F)
    (K1 : ∀ z, brF D (cmpv F) j 0 (D 15 j).toNat = some z → Q (some (aI z)) M)
    (K2 : brF D (cmpv F) j 0 (D 15 j).toNat = none → aE s1_G d 10 7 [] [some (aP 24), none, some (aP 55), some (aI (i + 1)), none, none, none] [] M Q) :
    ∀ (m n : Nat), (n : Int) + m = D 15 j → brF D (cmpv F) j 0 (D 15 j).toNat = brF D (cmpv F) j n m → aE s1_G d 10 26 [] [some (aP 24), none, some (aP 55), some (aI i), some (aI j), some (aI n), none] [] M Q
  | 0, n, hm, he => by
    have hn := Inv_cn hI
    have e25 := (B1_ca hB j hj.1 hj.2).1
    refine s1_Canons_firstBar_26 (by omega) ?_
    rw [e25, x_add (a := i) (by omega)]
    exact ⟨by omega, fun _ => K2 he, fun h => absurd h (by omega)⟩
  | m + 1, n, hm, he => by
    have hn := Inv_cn hI
    have hl := Inv_cl hI j hj.1 hj.2
    have e25 := (B1_ca hB j hj.1 hj.2).1
    have hcl := CB_cl (CB_of hB) (c := n) hj.1 hj.2 (by omega) (by omega)
    obtain ⟨k1, -, -, kb⟩ := hcl
    have ih := s1_fb_in hd hI hB hw hd0 hj hi hon hF K1 K2 m (n + 1) (by omega)
    rw [show brF D (cmpv F) j n (m + 1) = if brC D (cmpv F) j (12 * j + n) then some (100 * j + n) else brF D (cmpv F) j (n + 1) m from rfl] at he
    refine s1_Canons_firstBar_26 (by omega) ?_
    rw [e25, x_add (a := i) (by omega), x_mul (a := j) (by omega), show j * 12 = 12 * j by omega, x_add (a := 12 * j) (by omega), x_add (a := (n : Int)) (by omega), x_mul (a := 100) (by omega), x_add (a := 100 * j) (by omega)]
    rw [show (n : Int) + 1 = ((n + 1 : Nat) : Int) by omega]
    refine ⟨by omega, fun h => absurd h (by omega), fun _ => ?_⟩
    refine aKi_of (B1_cnt hI hB hw hd0 hj.1 hj.2) (by omega) (fun z M1 q => ?_)
    obtain ⟨rfl, rfl⟩ := q
    rw [hon]
    refine ⟨fun h => absurd h (by decide), fun _ => ⟨by omega, fun hk => ?_, fun hk => ⟨by omega, by omega, ?_⟩⟩⟩
    · have e : brC D (cmpv F) j (12 * j + n) = false := by
        unfold brC
        rw [show decide (D 16 (12 * j + (n : Int)) = 1) = false by simp; omega]
        rfl
      rw [e, if_neg (by decide)] at he
      exact ih he
    · obtain ⟨r1, ⟨l, s1, t1, v1⟩, r2, r3⟩ := kb hk
      refine aKi_of (s1_Canons_isMet s1 (by omega) t1) (by omega) (fun z M2 q => ?_)
      obtain ⟨rfl, rfl⟩ := q
      rw [hF, v1]
      have em : ((evL (cmpv F) [] (arr (D 22) (140 * j + D 19 (12 * j + n)) (D 20 (12 * j + n) - D 19 (12 * j + n)).toNat)).headD false) = metS D j (D 19 (12 * j + n)) (D 20 (12 * j + n)) (cmpv F) := rfl
      rw [em]
      cases e1 : metS D j (D 19 (12 * j + n)) (D 20 (12 * j + n)) (cmpv F)
      · refine ⟨fun _ => ?_, fun h => absurd rfl h⟩
        have e : brC D (cmpv F) j (12 * j + n) = false := by
          unfold brC
          rw [e1, Bool.and_false, Bool.false_and]
        rw [e, if_neg (by decide)] at he
        exact ih he
      · refine ⟨fun h => absurd h (by decide), fun _ => ⟨by omega, by omega, fun hle => ?_, fun hlt => ⟨by omega, by omega, ?_⟩⟩⟩
        · have e : brC D (cmpv F) j (12 * j + n) = true := by
            unfold brC
            rw [e1, show decide (D 16 (12 * j + (n : Int)) = 1) = true by simp; omega, show decide (D 21 (12 * j + (n : Int)) = D 20 (12 * j + n)) = true by simp; exact (r2.mp (by omega)).symm]
            rfl
          rw [e, if_pos rfl] at he
          exact K1 _ he
        · obtain ⟨l2, s2, t2, v2⟩ := r3 hlt
          refine aKi_of (s1_Canons_isMet s2 (by omega) t2) (by omega) (fun z M3 q => ?_)
          obtain ⟨rfl, rfl⟩ := q
          rw [hF, v2]
          have em2 : ((evL (cmpv F) [] (arr (D 22) (140 * j + D 20 (12 * j + n)) (D 21 (12 * j + n) - D 20 (12 * j + n)).toNat)).headD false) = metS D j (D 20 (12 * j + n)) (D 21 (12 * j + n)) (cmpv F) := rfl
          rw [em2]
          have hne : decide (D 21 (12 * j + (n : Int)) = D 20 (12 * j + n)) = false := by
            simp
            intro q
            have := r2.mpr q.symm
            omega
          cases e2 : metS D j (D 20 (12 * j + n)) (D 21 (12 * j + n)) (cmpv F)
          · have e : brC D (cmpv F) j (12 * j + n) = true := by
              unfold brC
              rw [e1, e2, show decide (D 16 (12 * j + (n : Int)) = 1) = true by simp; omega, hne]
              rfl
            rw [e, if_pos rfl] at he
            exact ⟨fun h => absurd rfl h, fun _ => K1 _ he⟩
          · have e : brC D (cmpv F) j (12 * j + n) = false := by
              unfold brC
              rw [e2, hne]
              simp
            rw [e, if_neg (by decide)] at he
            exact ⟨fun _ => ih he, fun h => absurd h (by decide)⟩
theorem s1_Canons_firstBar {D M : AM} {day : Int} {F : Int → Int} (hI : Inv D) (hB : B1 D M) (hd0 : 0 ≤ day) (hF : M 55 = F) : aCi s1_G 7 10 [aP 24, aI day, aP 55] M (fun z M' => fr wC M M' ∧ B1 D M' ∧ z = brL D (cmpv F) (cord D day)) := by
  refine ⟨Nat.le_of_ble_eq_true rfl, fun d hd => ?_⟩
  refine s1_Canons_firstBar_0 (by omega) ?_
  refine aKv_of (s1_Canons_settle hI hB hd0) (by omega) (fun M1 q => ?_)
  obtain ⟨q1, q2, q3⟩ := q
  have hn := Inv_cn hI
  have hF1 : M1 55 = F := by rw [← hF]; exact funext fun i => q1 55 i rfl
  have hlen0 : (srt (D 14) (D 0 18).toNat).length = (D 0 18).toNat := srt_len _
  have key : ∀ (suf pre : List Int), srt (D 14) (D 0 18).toNat = pre ++ suf → aE s1_G d 10 7 [] [some (aP 24), none, some (aP 55), some (aI pre.length), none, none, none] [] M1 (fun r M' => ∃ z, r = some (aI z) ∧ fr wC M M' ∧ B1 D M' ∧ z = brL D (cmpv F) (suf.filter (isOn D day))) := by
    intro suf
    induction suf with
    | nil =>
      intro pre e
      have hl : (pre.length : Int) = D 0 18 := by rw [List.append_nil] at e; rw [← e, hlen0]; omega
      refine s1_Canons_firstBar_7 (by omega) ?_
      rw [B1_cn q2]
      exact ⟨fun _ => ⟨_, rfl, q1, q2, rfl⟩, fun h => absurd h (by omega)⟩
    | cons j suf ih =>
      intro pre e
      have hl : (pre.length : Int) + 1 + suf.length = D 0 18 := by
        have := congrArg List.length e
        rw [hlen0, List.length_append, List.length_cons] at this
        omega
      have hby := B1_cb q2
      rw [e] at hby
      have ha : M1 27 pre.length = j := isL_mid hby
      have har : 0 ≤ j ∧ j < D 0 18 := by
        have := (srt_mem (d := D 14) (D 0 18).toNat j).mp (by rw [e]; simp)
        omega
      have hcl := Inv_cl hI j har.1 har.2
      have e25 := (B1_ca q2 j har.1 har.2).1
      have ih := ih (pre ++ [j]) (by rw [e]; simp)
      rw [List.length_append] at ih
      refine s1_Canons_firstBar_7 (by omega) ?_
      rw [B1_cn q2, ha]
      refine ⟨fun h => absurd h (by omega), fun _ => ⟨by omega, ?_⟩⟩
      cases eo : isOn D day j
      · rw [List.filter_cons_of_neg (by simp [eo])]
        refine s1_Canons_firstBar_26 (by omega) ?_
        rw [e25, x_add (a := (pre.length : Int)) (by omega)]
        refine ⟨by omega, fun _ => ih, fun _ => ?_⟩
        refine aKi_of (B1_cnt hI q2 q3 hd0 har.1 har.2) (by omega) (fun z M2 q => ?_)
        obtain ⟨rfl, rfl⟩ := q
        rw [eo]
        exact ⟨fun _ => ih, fun h => absurd rfl h⟩
      · rw [List.filter_cons_of_pos eo]
        have hb : brL D (cmpv F) (j :: suf.filter (isOn D day)) = match brF D (cmpv F) j 0 (D 15 j).toNat with
          | some z => z
          | none => brL D (cmpv F) (suf.filter (isOn D day)) := rfl
        refine s1_fb_in (by omega) hI q2 q3 hd0 har (by omega) eo hF1 (fun z hz => ⟨z, rfl, q1, q2, ?_⟩) (fun hz => ?_) (D 15 j).toNat 0 (by omega) rfl
        all_goals first
          | (rw [hb, hz]; done)
          | (rw [hb, hz]; exact ih)
  have h := key (srt (D 14) (D 0 18).toNat) [] rfl
  exact h
abbrev wQ : Nat → Int → Bool := wr [33, 34, 55] [(24, 10), (24, 11)]
theorem B1_f55 {D M M' : AM} (hB : B1 D M) (g : fr (wr [55] []) M M') : B1 D M' := by
  have gD : fr (wr [] []) D D := fr_rf
  refine ⟨?_, G1_fw (B1_G hB) gD g rfl, P1_fw (B1_P hB) gD g rfl, C1_fw (B1_C hB) gD g rfl, R1_fw (B1_R hB) gD g rfl, S1_fw (B1_S hB) gD g rfl, F1_fw (B1_F hB) gD g rfl, E1_fw (B1_E hB) gD g rfl⟩
  rw [g 0 10 rfl]; exact B1_now hB
theorem s1_Register_milesBetween {D M : AM} {a b : Int} (hI : Inv D) (hB : B1 D M) (ha : 0 ≤ a ∧ a < 12) (hb : 0 ≤ b ∧ b < 12) : aCi s1_G 4 57 [aP 1, aI a, aI b] M (fun z M' => M' = M ∧ z = mlsD D a b) := by
  refine ⟨Nat.le_of_ble_eq_true rfl, fun d hd => ?_⟩
  refine s1_Register_milesBetween_0 (by omega) ?_
  have x1 := Inv_x hI a
  have x2 := Inv_x hI b
  have y1 := Inv_y hI a
  have y2 := Inv_y hI b
  rw [B1_x hB, B1_y hB, x_sub (a := D 2 a) (by omega), x_sub (a := D 3 a) (by omega), x_neg (by omega), x_neg (by omega)]
  rw [show (if D 2 a - D 2 b < 0 then -(D 2 a - D 2 b) else D 2 a - D 2 b) = absI (D 2 a - D 2 b) from rfl, show (if D 3 a - D 3 b < 0 then -(D 3 a - D 3 b) else D 3 a - D 3 b) = absI (D 3 a - D 3 b) from rfl]
  have u := absI_rg (x := D 2 a - D 2 b) (by omega)
  have v := absI_rg (x := D 3 a - D 3 b) (by omega)
  rw [x_add (a := absI (D 2 a - D 2 b)) (by omega)]
  exact ⟨ha, hb, ha, hb, _, rfl, rfl, rfl⟩
theorem mlsD_rg {D : AM} (hI : Inv D) (a b : Int) : 0 ≤ mlsD D a b ∧ mlsD D a b ≤ 200 := by
  have x1 := Inv_x hI a
  have x2 := Inv_x hI b
  have y1 := Inv_y hI a
  have y2 := Inv_y hI b
  have u := absI_rg (x := D 2 a - D 2 b) (by omega)
  have v := absI_rg (x := D 3 a - D 3 b) (by omega)
  unfold mlsD
  omega
theorem absI_sym (a b : Int) : absI (a - b) = absI (b - a) := by unfold absI; split <;> split <;> omega
theorem mlsD_sym (D : AM) (a b : Int) : mlsD D a b = mlsD D b a := by unfold mlsD; rw [absI_sym (D 2 a), absI_sym (D 3 a)]
theorem s1_Story_isHolder {D M : AM} {s : Sg} {l p : Int} (hQ : Q1 D s M) (hl : 0 ≤ l ∧ l < 12) (hp : 0 ≤ p ∧ p < 40) : aCi s1_G 4 76 [aP 37, aI l, aI p] M (fun z M' => M' = M ∧ z = bI (hasH (s.h l) p)) := by
  refine ⟨Nat.le_of_ble_eq_true rfl, fun d hd => ?_⟩
  refine s1_Story_isHolder_0 (by omega) ?_
  obtain ⟨c, rfl⟩ : ∃ c : Nat, p = c := ⟨p.toNat, by omega⟩
  rw [lset_has (Q1_h hQ l hl.1 hl.2) (by omega)]
  refine ⟨hl, fun h => ⟨Or.inl rfl, _, rfl, rfl, ?_⟩, fun h => ⟨Or.inr rfl, _, rfl, rfl, ?_⟩⟩
  · cases e : hasH (s.h l) c
    · rfl
    · rw [e] at h; exact absurd (cmp0.mpr rfl) h
  · have := cmp0.mp h
    cases e : hasH (s.h l) c
    · rw [e] at this; cases this
    · rfl
theorem mnyN_rg (s : Sg) (p l : Int) : ∀ m : Nat, 0 ≤ mnyN s p l m ∧ mnyN s p l m ≤ m
  | 0 => by unfold mnyN; omega
  | m + 1 => by unfold mnyN; have := mnyN_rg s p l m; split <;> omega
theorem farN_rg {D : AM} (hI : Inv D) (s : Sg) (p l : Int) : ∀ m : Nat, 0 ≤ farN D s p l m ∧ farN D s p l m ≤ 200
  | 0 => by unfold farN; omega
  | m + 1 => by unfold farN; have := farN_rg hI s p l m; have := mlsD_rg hI m l; split <;> omega
/-- livings that are not yet have no holders -/
theorem hasH_out {s : Sg} {n : Int} (h : ∀ m, n ≤ m → s.h m = []) (p : Int) {m : Int} (hm : n ≤ m) : hasH (s.h m) p = false := by rw [h m hm]; rfl
theorem mnyN_out {s : Sg} {n : Nat} (h : ∀ m : Int, n ≤ m → s.h m = []) (p l : Int) : ∀ k : Nat, mnyN s p l (n + k) = mnyN s p l n
  | 0 => rfl
  | k + 1 => by
    rw [← Nat.add_assoc]
    unfold mnyN
    rw [mnyN_out h p l k, hasH_out h p (m := ((n + k : Nat) : Int)) (by omega)]
    simp
    cases n <;> rfl
theorem farN_out {D : AM} {s : Sg} {n : Nat} (h : ∀ m : Int, n ≤ m → s.h m = []) (p l : Int) : ∀ k : Nat, farN D s p l (n + k) = farN D s p l n
  | 0 => rfl
  | k + 1 => by
    rw [← Nat.add_assoc]
    show (if ((n + k : Nat) : Int) ≠ l ∧ hasH (s.h ((n + k : Nat) : Int)) p then _ else farN D s p l (n + k)) = _
    rw [farN_out h p l k, hasH_out h p (m := ((n + k : Nat) : Int)) (by omega), if_neg (by simp)]
