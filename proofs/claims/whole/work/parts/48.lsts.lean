/-! ROWS as lists: sorting by shifts, the book -/
theorem isL_mid {f : Int → Int} {pre suf : List Int} {a : Int} (h : isL f (pre ++ a :: suf)) : f pre.length = a := by
  have := h pre.length (by simp)
  rw [this]
  simp
theorem isL_get {f : Int → Int} {l : List Int} (h : isL f l) {x : Int} (h0 : 0 ≤ x) (h1 : x < l.length) : f x = l[x.toNat]'(by omega) := by
  have := h x.toNat (by omega)
  rw [← this]
  congr 1
  omega
theorem isL_congr {f g : Int → Int} {l : List Int} (h : isL f l) (e : ∀ i : Nat, i < l.length → g i = f i) : isL g l := fun i hi => (e i hi).trans (h i hi)
theorem isL_nil {f : Int → Int} : isL f [] := fun i hi => absurd hi (by simp)
theorem isL_snoc {f : Int → Int} {l : List Int} {x z : Int} (h : isL f l) (hx : x = l.length) : isL (up1 f x z) (l ++ [z]) := fun i hi => by
  subst hx
  by_cases e : i = l.length
  · subst e; rw [up1_s]; simp
  · have hi2 : i < l.length := by simp at hi; omega
    rw [up1_n (by omega), h i hi2, List.getElem_append_left hi2]
def Srt (d : Int → Int) (l : List Int) : Prop := l.Pairwise (fun a b => d a ≤ d b)
theorem ins_split {d : Int → Int} {x : Int} {A B : List Int} (hA : ∀ a ∈ A, d a ≤ d x) (hB : ∀ b ∈ B, d x < d b) : ins d x (A ++ B) = A ++ x :: B := by
  unfold ins
  rw [List.filter_append, List.filter_append]
  have e1 : A.filter (fun y => decide (d y ≤ d x)) = A := List.filter_eq_self.mpr (fun a ha => by simpa using hA a ha)
  have e2 : B.filter (fun y => decide (d y ≤ d x)) = [] := List.filter_eq_nil_iff.mpr (fun b hb => by have := hB b hb; simp <;> omega)
  have e3 : A.filter (fun y => decide (d x < d y)) = [] := List.filter_eq_nil_iff.mpr (fun a ha => by have := hA a ha; simp <;> omega)
  have e4 : B.filter (fun y => decide (d x < d y)) = B := List.filter_eq_self.mpr (fun b hb => by simpa using hB b hb)
  rw [e1, e2, e3, e4]
  simp
theorem ins_filter_t {d : Int → Int} {x : Int} {l : List Int} {p : Int → Bool} (h : p x = true) : (ins d x l).filter p = ins d x (l.filter p) := by
  unfold ins
  rw [List.filter_append, List.filter_cons_of_pos h, List.filter_filter, List.filter_filter, List.filter_filter, List.filter_filter]
  congr 1
  · exact List.filter_congr (fun a _ => Bool.and_comm _ _)
  · congr 1
    exact List.filter_congr (fun a _ => Bool.and_comm _ _)
theorem srt_mem {d : Int → Int} : ∀ (n : Nat) (i : Int), i ∈ srt d n ↔ 0 ≤ i ∧ i < n
  | 0, i => by simp [srt] <;> omega
  | n + 1, i => by
    unfold srt ins
    simp only [List.mem_append, List.mem_cons, List.mem_filter, srt_mem n i, decide_eq_true_eq]
    omega
theorem ins_sorted {d : Int → Int} {x : Int} {l : List Int} (h : Srt d l) : Srt d (ins d x l) := by
  unfold ins Srt
  rw [List.pairwise_append, List.pairwise_cons]
  refine ⟨h.filter _, ⟨fun b hb => ?_, h.filter _⟩, fun a ha b hb => ?_⟩
  · have := (List.mem_filter.mp hb).2
    simp at this
    omega
  · have h1 := (List.mem_filter.mp ha).2
    simp at h1
    rcases List.mem_cons.mp hb with rfl | hb
    · exact h1
    · have h2 := (List.mem_filter.mp hb).2
      simp at h2
      omega
theorem srt_sorted {d : Int → Int} : ∀ n : Nat, Srt d (srt d n)
  | 0 => List.Pairwise.nil
  | n + 1 => ins_sorted (srt_sorted n)
theorem ins_len {d : Int → Int} {x : Int} (l : List Int) : (ins d x l).length = l.length + 1 := by
  unfold ins
  rw [List.length_append, List.length_cons]
  have h : ∀ l : List Int, (l.filter (fun y => decide (d y ≤ d x))).length + (l.filter (fun y => decide (d x < d y))).length = l.length := by
    intro l
    induction l with
    | nil => rfl
    | cons a l ih =>
      by_cases e : d a ≤ d x
      · rw [List.filter_cons_of_pos (by simpa using e), List.filter_cons_of_neg (by simp <;> omega)]
        simp only [List.length_cons]
        omega
      · rw [List.filter_cons_of_neg (by simp <;> omega), List.filter_cons_of_pos (by simp <;> omega)]
        simp only [List.length_cons]
        omega
  have := h l
  omega
theorem srt_len {d : Int → Int} : ∀ n : Nat, (srt d n).length = n
  | 0 => rfl
  | n + 1 => by unfold srt; rw [ins_len, srt_len n]
/-- ins where the new one is not wanted -/
theorem ins_filter_f {d : Int → Int} {x : Int} {l : List Int} {p : Int → Bool} (hs : Srt d l) (h : p x = false) : (ins d x l).filter p = l.filter p := by
  have key : ∀ l : List Int, Srt d l → l.filter (fun y => decide (d y ≤ d x)) ++ l.filter (fun y => decide (d x < d y)) = l := by
    intro l hl
    induction l with
    | nil => rfl
    | cons a l ih =>
      have ih := ih (List.pairwise_cons.mp hl).2
      by_cases e : d a ≤ d x
      · rw [List.filter_cons_of_pos (by simpa using e), List.filter_cons_of_neg (by simp <;> omega), List.cons_append, ih]
      · have e1 : l.filter (fun y => decide (d y ≤ d x)) = [] := List.filter_eq_nil_iff.mpr (fun b hb => by
          have := (List.pairwise_cons.mp hl).1 b hb
          simp <;> omega)
        have e2 : l.filter (fun y => decide (d x < d y)) = l := List.filter_eq_self.mpr (fun b hb => by
          have := (List.pairwise_cons.mp hl).1 b hb
          simp <;> omega)
        rw [List.filter_cons_of_neg (by simp <;> omega), List.filter_cons_of_pos (by simp <;> omega), e1, e2]
        rfl
  conv => rhs; rw [← key l hs]
  unfold ins
  rw [List.filter_append, List.filter_cons_of_neg (by simp [h]), List.filter_append]
/-- a row with one place free: A before it, B behind it -/
def hole (h : Int → Int) (A B : List Int) : Prop := (∀ (i : Nat) (hi : i < A.length), h i = A[i]) ∧ ∀ (j : Nat) (hj : j < B.length), h (A.length + 1 + j) = B[j]
theorem hole_init {f : Int → Int} {l : List Int} (h : isL f l) : hole f l [] := ⟨h, fun j hj => absurd hj (by simp)⟩
theorem hole_top {h : Int → Int} {A B : List Int} {y : Int} (hh : hole h (A ++ [y]) B) : h A.length = y := by
  have := hh.1 A.length (by simp)
  rw [this]
  simp
theorem hole_step {h : Int → Int} {A B : List Int} {y k : Int} (hh : hole h (A ++ [y]) B) (hk : k = A.length + 1) : hole (up1 h k y) A (y :: B) := by
  subst hk
  refine ⟨fun i hi => ?_, fun j hj => ?_⟩
  · rw [up1_n (by omega), hh.1 i (by simp <;> omega), List.getElem_append_left hi]
  · cases j with
    | zero => rw [show ((A.length : Int) + 1 + (0 : Nat)) = A.length + 1 by omega, up1_s]; rfl
    | succ j =>
      rw [up1_n (by omega)]
      have := hh.2 j (by simpa using hj)
      rw [List.length_append] at this
      simp only [List.getElem_cons_succ]
      rw [← this]
      congr 1
      simp
      omega
theorem hole_end {h : Int → Int} {A B : List Int} {x k : Int} (hh : hole h A B) (hk : k = A.length) : isL (up1 h k x) (A ++ x :: B) := by
  subst hk
  intro i hi
  by_cases h1 : i < A.length
  · rw [up1_n (by omega), hh.1 i h1, List.getElem_append_left h1]
  · by_cases h2 : i = A.length
    · subst h2; rw [up1_s]; simp
    · rw [up1_n (by omega)]
      obtain ⟨j, rfl⟩ : ∃ j, i = A.length + 1 + j := ⟨i - A.length - 1, by omega⟩
      have hj : j < B.length := by simp at hi; omega
      have := hh.2 j hj
      rw [show ((A.length + 1 + j : Nat) : Int) = A.length + 1 + j by omega, this, List.getElem_append_right (by omega)]
      simp only [show A.length + 1 + j - A.length = j + 1 by omega, List.getElem_cons_succ]
/-- all before the last are not above it -/
theorem srt_last {d : Int → Int} {A : List Int} {y z : Int} (h : Srt d (A ++ [y])) (hy : d y ≤ z) : ∀ a ∈ A ++ [y], d a ≤ z := by
  intro a ha
  rcases List.mem_append.mp ha with ha | ha
  · have := (List.pairwise_append.mp h).2.2 a ha y (by simp)
    omega
  · simp at ha
    subst ha
    exact hy
-- voids
theorem vmk_cg {t k v : Int → Int} {w : Int} (N : Int) : ∀ (n : Nat) (V V' : Int → Int), (n : Int) ≤ N → (∀ i, 0 ≤ i → i < N → V i = V' i) → ∀ i, 0 ≤ i → i < N → vmk t k v w n V i = vmk t k v w n V' i
  | 0, V, V', _, h => h
  | n + 1, V, V', hn, h => by
    unfold vmk
    refine vmk_cg N n _ _ (by omega) (fun i h0 h1 => ?_)
    unfold vstep
    rw [h n (by omega) (by omega)]
    split
    · unfold up1
      split
      · rfl
      · exact h i h0 h1
    · exact h i h0 h1
theorem vmk_01 {t k v : Int → Int} {w : Int} : ∀ (n : Nat) (V : Int → Int), (∀ i, V i = 0 ∨ V i = 1) → ∀ i, vmk t k v w n V i = 0 ∨ vmk t k v w n V i = 1
  | 0, V, h => h
  | n + 1, V, h => vmk_01 n _ (fun i => by
    unfold vstep
    split
    · unfold up1
      split
      · exact Or.inr rfl
      · exact h i
    · exact h i)
theorem vd_01 (D : AM) (w i : Int) : vd D w i = 0 ∨ vd D w i = 1 := vmk_01 _ _ (fun _ => Or.inl rfl) i
/-- the book of the first n papers -/
def bkN (D : AM) (w : Int) (n : Nat) : List Int := (srt (D 6) n).filter (inB D w)
theorem bkN_succ {D : AM} {w : Int} (n : Nat) : bkN D w (n + 1) = if inB D w n then ins (D 6) n (bkN D w n) else bkN D w n := by
  unfold bkN
  rw [show srt (D 6) (n + 1) = ins (D 6) n (srt (D 6) n) from rfl]
  cases e : inB D w n
  · rw [ins_filter_f (srt_sorted n) e]; rfl
  · rw [ins_filter_t e]; rfl
theorem bkN_mem {D : AM} {w : Int} {n : Nat} {i : Int} (h : i ∈ bkN D w n) : 0 ≤ i ∧ i < n := (srt_mem n i).mp (List.mem_filter.mp h).1
theorem bkN_sorted {D : AM} {w : Int} (n : Nat) : Srt (D 6) (bkN D w n) := (srt_sorted n).filter _
theorem bkN_len {D : AM} {w : Int} (n : Nat) : (bkN D w n).length ≤ n := by
  have := List.length_filter_le (inB D w) (srt (D 6) n)
  rw [srt_len] at this
  exact this
theorem bk_mem {D : AM} {w i : Int} (h : i ∈ bk D w) : 0 ≤ i ∧ i < D 0 7 := by
  have := bkN_mem (n := (D 0 7).toNat) h
  omega
theorem bk_len {D : AM} {w : Int} (hn : 0 ≤ D 0 7) : ((bk D w).length : Int) ≤ D 0 7 := by
  have := bkN_len (D := D) (w := w) (D 0 7).toNat
  show ((bkN D w (D 0 7).toNat).length : Int) ≤ _
  omega
/-- how many are void -/
def nvd (D : AM) (w : Int) (n : Nat) : Nat := (List.range n).countP (fun i : Nat => decide (vd D w i ≠ 0))
theorem nvd_succ {D : AM} {w : Int} (n : Nat) : nvd D w (n + 1) = nvd D w n + (if vd D w n ≠ 0 then 1 else 0) := by
  unfold nvd
  rw [List.range_succ, List.countP_append, List.countP_cons, List.countP_nil]
  simp
theorem nvd_bk {D : AM} {w : Int} : ∀ n : Nat, (∀ i : Nat, i < n → D 7 i ≤ w) → (bkN D w n).length + nvd D w n = n
  | 0, _ => rfl
  | n + 1, h => by
    have ih := nvd_bk n (fun i hi => h i (by omega))
    rw [bkN_succ, nvd_succ]
    have ht := h n (by omega)
    by_cases e : vd D w n = 0
    · have e1 : inB D w n = true := by unfold inB; simp [ht, e]
      rw [e1, if_pos rfl, ins_len, if_neg (by simp [e])]
      omega
    · have e1 : inB D w n = false := by unfold inB; simp [e]
      rw [e1, if_neg (by simp), if_pos e]
      omega
-- what is looked up in a book
theorem dayOn_snoc {D : AM} {l : List Int} {n k p : Int} (h : dayOn D l k p = -1) (hd : ∀ i ∈ l, 0 ≤ D 6 i) : dayOn D (l ++ [n]) k p = if D 5 n = k ∧ D 9 n = p then D 6 n else -1 := by
  unfold dayOn fsP at h ⊢
  rw [List.find?_append]
  split at h
  next i e =>
    have := hd i (List.mem_of_find?_eq_some e)
    omega
  next e =>
    rw [e]
    by_cases hc : D 5 n = k ∧ D 9 n = p
    · simp [hc]
    · simp [hc]
theorem dayOn_snoc2 {D : AM} {l : List Int} {n k p : Int} (h : dayOn D l k p ≠ -1) : dayOn D (l ++ [n]) k p = dayOn D l k p := by
  unfold dayOn fsP at h ⊢
  rw [List.find?_append]
  split at h
  next i e => rw [e]; rfl
  next e => exact absurd rfl h
theorem dayOn_snoc3 {D : AM} {l : List Int} {n k p : Int} (h : ¬ (D 5 n = k ∧ D 9 n = p)) : dayOn D (l ++ [n]) k p = dayOn D l k p := by
  unfold dayOn fsP
  rw [List.find?_append]
  simp [h]
def hrs (D : AM) (p t : Int) (h i : Int) : Int := if D 5 i = 6 ∧ D 9 i = p ∧ D 6 i ≤ t then D 10 i else h
/-- the heir by a book, by a day -/
def heirL (D : AM) (l : List Int) (p t : Int) : Int := l.foldl (hrs D p t) (-1)
/-- the day of the first notice of a living, not before a day -/
def notL (D : AM) (l : List Int) (lv t : Int) : Int := match l.find? (fun i => decide (D 5 i = 10 ∧ D 8 i = lv ∧ t ≤ D 6 i)) with
  | some i => D 6 i
  | none => -1
theorem dayOn_rg {D : AM} (hI : Inv D) (l : List Int) (k p : Int) : -1 ≤ dayOn D l k p ∧ dayOn D l k p ≤ 30000 := by
  unfold dayOn
  split
  next i _ => have := Inv_pd hI i; omega
  · omega
