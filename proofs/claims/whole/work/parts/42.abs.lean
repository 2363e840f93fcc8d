/-! THE DIOCESE: the reference's lasting cells (a store D); how each system's store holds them. -/
def up1 (f : Int → Int) (i z : Int) : Int → Int := fun j => if j = i then z else f j
theorem up1_s {f : Int → Int} {i z : Int} : up1 f i z i = z := by simp [up1]
theorem up1_n {f : Int → Int} {i j z : Int} (h : j ≠ i) : up1 f i z j = f j := by simp [up1, h]
theorem x_uk {M : AM} {k k' : Nat} {i z : Int} (h : k' ≠ k) : am_up M k i z k' = M k' := by funext i'; simp [am_up, h]
theorem x_uu {M : AM} {k : Nat} {i z : Int} : am_up M k i z k = up1 (M k) i z := by funext i'; simp [am_up, up1]
theorem x_uf {M : AM} {k k' : Nat} {i i' z : Int} (h : i' ≠ i) : am_up M k i z k' i' = M k' i' := by simp [am_up, h]
theorem up1_rg {f : Int → Int} {a b i z : Int} (h : ∀ j, a ≤ f j ∧ f j ≤ b) (hz : a ≤ z ∧ z ≤ b) : ∀ j, a ≤ up1 f i z j ∧ up1 f i z j ≤ b := fun j => by unfold up1; split; exact hz; exact h j
theorem a_bl_n {P : Prop} [Decidable P] : (a_bl P ≠ 0) ↔ P := by unfold a_bl; split <;> simp [*]
theorem a_bl_z {P : Prop} [Decidable P] : (a_bl P = 0) ↔ ¬ P := a_bl0
-- frames
def fr (W : Nat → Int → Bool) (M M' : AM) : Prop := ∀ k i, W k i = false → M' k i = M k i
def wr (cs : List Nat) (fs : List (Nat × Int)) : Nat → Int → Bool := fun k i => cs.any (Nat.beq k) || fs.any (fun p => Nat.beq k p.1 && decide (i = p.2))
theorem fr_rf {W : Nat → Int → Bool} {M : AM} : fr W M M := fun _ _ _ => rfl
theorem fr_tr {W : Nat → Int → Bool} {M M1 M2 : AM} (h : fr W M M1) (g : fr W M1 M2) : fr W M M2 := fun k i e => (g k i e).trans (h k i e)
theorem fr_up {W : Nat → Int → Bool} {M M1 : AM} {k : Nat} {i z : Int} (h : fr W M M1) (e : W k i = true) : fr W M (am_up M1 k i z) := fun k' i' e' => by
  have hn : ¬ (k' = k ∧ i' = i) := fun q => by rw [q.1, q.2, e] at e'; cases e'
  unfold am_up
  rw [if_neg hn]
  exact h k' i' e'
def wrL (cs : List Nat) (fs : List (Nat × Int)) (cs' : List Nat) (fs' : List (Nat × Int)) : Bool := cs.all (fun c => cs'.any (Nat.beq c)) && fs.all (fun p => cs'.any (Nat.beq p.1) || fs'.any (fun q => Nat.beq p.1 q.1 && decide (p.2 = q.2)))
theorem fr_mo {cs cs' : List Nat} {fs fs' : List (Nat × Int)} {M M' : AM} (h : fr (wr cs fs) M M') (e : wrL cs fs cs' fs' = true) : fr (wr cs' fs') M M' := fun k i q => h k i (by
  unfold wrL at e
  rw [Bool.and_eq_true] at e
  unfold wr at q ⊢
  rw [Bool.or_eq_false_iff] at q ⊢
  obtain ⟨q1, q2⟩ := q
  obtain ⟨e1, e2⟩ := e
  constructor
  · rw [← Bool.not_eq_true] at q1 ⊢
    intro hh
    obtain ⟨c, hc, hk⟩ := List.any_eq_true.mp hh
    have h3 := List.all_eq_true.mp e1 c hc
    rw [← Nat.eq_of_beq_eq_true hk] at h3
    exact q1 h3
  · rw [← Bool.not_eq_true] at q2 ⊢
    intro hh
    obtain ⟨c, hc, hk⟩ := List.any_eq_true.mp hh
    rw [Bool.and_eq_true, decide_eq_true_eq] at hk
    have h3 := List.all_eq_true.mp e2 c hc
    rw [← Nat.eq_of_beq_eq_true hk.1, ← hk.2, Bool.or_eq_true] at h3
    rcases h3 with h3 | h3
    · rw [h3] at q1; cases q1
    · exact q2 h3)
/-- the reference's lasting places -/
def lst (k : Nat) (i : Int) : Bool := cond (Nat.beq k 0) (decide (i = 0) || decide (i = 1) || decide (i = 3) || decide (i = 7) || decide (i = 18) || decide (i = 29) || decide (i = 32) || decide (i = 69) || decide (i = 78)) ((Nat.ble 1 k && Nat.ble k 11) || (Nat.ble 14 k && Nat.ble k 23) || (Nat.ble 44 k && Nat.ble k 50) || (Nat.ble 52 k && Nat.ble k 56))
def eqL (D M : AM) : Prop := ∀ k i, lst k i = true → M k i = D k i
theorem eqL_k {D M : AM} (h : eqL D M) (k : Nat) (e : ∀ i, lst k i = true) : M k = D k := funext fun i => h k i (e i)
theorem eqL_up {D M : AM} (h : eqL D M) (k : Nat) (i z : Int) : eqL (am_up D k i z) (am_up M k i z) := fun k' i' e => by
  unfold am_up
  split
  · rfl
  · exact h k' i' e
theorem eqL_fr {D M M' : AM} {W : Nat → Int → Bool} (h : eqL D M) (g : fr W M M') (e : ∀ k i, lst k i = true → W k i = false) : eqL D M' := fun k i q => (g k i (e k i q)).trans (h k i q)
/-- a check by cells: 'cs' whole cells, 'fs' fields of the cell 0 -/
def lstN (cs : List Nat) (fs : List (Nat × Int)) : Bool := cs.all (fun c => !(Nat.beq c 0) && !(lst c 0)) && fs.all (fun p => !(lst p.1 p.2))
theorem lstN_ok {cs : List Nat} {fs : List (Nat × Int)} (h : lstN cs fs = true) : ∀ k i, lst k i = true → wr cs fs k i = false := fun k i q => by
  unfold lstN at h
  rw [Bool.and_eq_true] at h
  unfold wr
  rw [Bool.or_eq_false_iff]
  constructor
  · rw [← Bool.not_eq_true]
    intro hh
    obtain ⟨c, hc, hk⟩ := List.any_eq_true.mp hh
    have h3 := List.all_eq_true.mp h.1 c hc
    have ek := Nat.eq_of_beq_eq_true hk
    subst ek
    rw [Bool.and_eq_true] at h3
    obtain ⟨h4, h5⟩ := h3
    have h4 : Nat.beq k 0 = false := by simpa using h4
    have h5 : lst k 0 = false := by simpa using h5
    unfold lst at q h5
    rw [h4] at q h5
    dsimp only [cond] at q h5
    rw [q] at h5
    cases h5
  · rw [← Bool.not_eq_true]
    intro hh
    obtain ⟨c, hc, hk⟩ := List.any_eq_true.mp hh
    rw [Bool.and_eq_true, decide_eq_true_eq] at hk
    have h3 := List.all_eq_true.mp h.2 c hc
    rw [← Nat.eq_of_beq_eq_true hk.1, ← hk.2, q] at h3
    cases h3
theorem eqL_fw {D M M' : AM} {cs : List Nat} {fs : List (Nat × Int)} (h : eqL D M) (g : fr (wr cs fs) M M') (e : lstN cs fs = true) : eqL D M' := eqL_fr h g (lstN_ok e)
theorem L_1 {D M : AM} (h : eqL D M) : M 1 = D 1 := eqL_k h 1 (fun _ => rfl)
theorem L_2 {D M : AM} (h : eqL D M) : M 2 = D 2 := eqL_k h 2 (fun _ => rfl)
theorem L_3 {D M : AM} (h : eqL D M) : M 3 = D 3 := eqL_k h 3 (fun _ => rfl)
theorem L_4 {D M : AM} (h : eqL D M) : M 4 = D 4 := eqL_k h 4 (fun _ => rfl)
theorem L_5 {D M : AM} (h : eqL D M) : M 5 = D 5 := eqL_k h 5 (fun _ => rfl)
theorem L_6 {D M : AM} (h : eqL D M) : M 6 = D 6 := eqL_k h 6 (fun _ => rfl)
theorem L_7 {D M : AM} (h : eqL D M) : M 7 = D 7 := eqL_k h 7 (fun _ => rfl)
theorem L_8 {D M : AM} (h : eqL D M) : M 8 = D 8 := eqL_k h 8 (fun _ => rfl)
theorem L_9 {D M : AM} (h : eqL D M) : M 9 = D 9 := eqL_k h 9 (fun _ => rfl)
theorem L_10 {D M : AM} (h : eqL D M) : M 10 = D 10 := eqL_k h 10 (fun _ => rfl)
theorem L_11 {D M : AM} (h : eqL D M) : M 11 = D 11 := eqL_k h 11 (fun _ => rfl)
theorem L_14 {D M : AM} (h : eqL D M) : M 14 = D 14 := eqL_k h 14 (fun _ => rfl)
theorem L_15 {D M : AM} (h : eqL D M) : M 15 = D 15 := eqL_k h 15 (fun _ => rfl)
theorem L_16 {D M : AM} (h : eqL D M) : M 16 = D 16 := eqL_k h 16 (fun _ => rfl)
theorem L_17 {D M : AM} (h : eqL D M) : M 17 = D 17 := eqL_k h 17 (fun _ => rfl)
theorem L_18 {D M : AM} (h : eqL D M) : M 18 = D 18 := eqL_k h 18 (fun _ => rfl)
theorem L_19 {D M : AM} (h : eqL D M) : M 19 = D 19 := eqL_k h 19 (fun _ => rfl)
theorem L_20 {D M : AM} (h : eqL D M) : M 20 = D 20 := eqL_k h 20 (fun _ => rfl)
theorem L_21 {D M : AM} (h : eqL D M) : M 21 = D 21 := eqL_k h 21 (fun _ => rfl)
theorem L_22 {D M : AM} (h : eqL D M) : M 22 = D 22 := eqL_k h 22 (fun _ => rfl)
theorem L_23 {D M : AM} (h : eqL D M) : M 23 = D 23 := eqL_k h 23 (fun _ => rfl)
theorem L_44 {D M : AM} (h : eqL D M) : M 44 = D 44 := eqL_k h 44 (fun _ => rfl)
theorem L_45 {D M : AM} (h : eqL D M) : M 45 = D 45 := eqL_k h 45 (fun _ => rfl)
theorem L_46 {D M : AM} (h : eqL D M) : M 46 = D 46 := eqL_k h 46 (fun _ => rfl)
theorem L_47 {D M : AM} (h : eqL D M) : M 47 = D 47 := eqL_k h 47 (fun _ => rfl)
theorem L_48 {D M : AM} (h : eqL D M) : M 48 = D 48 := eqL_k h 48 (fun _ => rfl)
theorem L_49 {D M : AM} (h : eqL D M) : M 49 = D 49 := eqL_k h 49 (fun _ => rfl)
theorem L_50 {D M : AM} (h : eqL D M) : M 50 = D 50 := eqL_k h 50 (fun _ => rfl)
theorem L_52 {D M : AM} (h : eqL D M) : M 52 = D 52 := eqL_k h 52 (fun _ => rfl)
theorem L_53 {D M : AM} (h : eqL D M) : M 53 = D 53 := eqL_k h 53 (fun _ => rfl)
theorem L_54 {D M : AM} (h : eqL D M) : M 54 = D 54 := eqL_k h 54 (fun _ => rfl)
theorem L_55 {D M : AM} (h : eqL D M) : M 55 = D 55 := eqL_k h 55 (fun _ => rfl)
theorem L_56 {D M : AM} (h : eqL D M) : M 56 = D 56 := eqL_k h 56 (fun _ => rfl)
theorem L0_0 {D M : AM} (h : eqL D M) : M 0 0 = D 0 0 := h 0 0 rfl
theorem L0_1 {D M : AM} (h : eqL D M) : M 0 1 = D 0 1 := h 0 1 rfl
theorem L0_3 {D M : AM} (h : eqL D M) : M 0 3 = D 0 3 := h 0 3 rfl
theorem L0_7 {D M : AM} (h : eqL D M) : M 0 7 = D 0 7 := h 0 7 rfl
theorem L0_18 {D M : AM} (h : eqL D M) : M 0 18 = D 0 18 := h 0 18 rfl
theorem L0_29 {D M : AM} (h : eqL D M) : M 0 29 = D 0 29 := h 0 29 rfl
theorem L0_32 {D M : AM} (h : eqL D M) : M 0 32 = D 0 32 := h 0 32 rfl
theorem L0_69 {D M : AM} (h : eqL D M) : M 0 69 = D 0 69 := h 0 69 rfl
theorem L0_78 {D M : AM} (h : eqL D M) : M 0 78 = D 0 78 := h 0 78 rfl
theorem eqL_rf {D : AM} : eqL D D := fun _ _ _ => rfl
/-- what is read (cells, fields) lies apart from what is written -/
def sepL (rc : List Nat) (rf : List (Nat × Int)) (cs : List Nat) (fs : List (Nat × Int)) : Bool := rc.all (fun c => !(cs.any (Nat.beq c)) && fs.all (fun p => !(Nat.beq c p.1))) && rf.all (fun q => !(cs.any (Nat.beq q.1)) && fs.all (fun p => !(Nat.beq q.1 p.1 && decide (q.2 = p.2))))
theorem fr_c {cs : List Nat} {fs : List (Nat × Int)} {rc : List Nat} {rf : List (Nat × Int)} {k : Nat} {M M' : AM} (g : fr (wr cs fs) M M') (e : sepL rc rf cs fs = true) (hk : rc.elem k = true) : M' k = M k := by
  funext i
  refine g k i ?_
  unfold sepL at e
  rw [Bool.and_eq_true] at e
  have h := List.all_eq_true.mp e.1 k (by simpa using hk)
  rw [Bool.and_eq_true] at h
  unfold wr
  rw [Bool.or_eq_false_iff]
  refine ⟨by simpa using h.1, ?_⟩
  rw [← Bool.not_eq_true]
  intro hh
  obtain ⟨p, hp, hq⟩ := List.any_eq_true.mp hh
  rw [Bool.and_eq_true] at hq
  have h3 := List.all_eq_true.mp h.2 p hp
  rw [hq.1] at h3
  cases h3
theorem fr_f {cs : List Nat} {fs : List (Nat × Int)} {rc : List Nat} {rf : List (Nat × Int)} {k : Nat} {i : Int} {M M' : AM} (g : fr (wr cs fs) M M') (e : sepL rc rf cs fs = true) (hk : rf.any (fun p => Nat.beq p.1 k && decide (p.2 = i)) = true) : M' k i = M k i := by
  refine g k i ?_
  unfold sepL at e
  rw [Bool.and_eq_true] at e
  obtain ⟨p, hp, hq⟩ := List.any_eq_true.mp hk
  rw [Bool.and_eq_true, decide_eq_true_eq] at hq
  have h := List.all_eq_true.mp e.2 p hp
  rw [Nat.eq_of_beq_eq_true hq.1, hq.2, Bool.and_eq_true] at h
  unfold wr
  rw [Bool.or_eq_false_iff]
  refine ⟨by simpa using h.1, ?_⟩
  rw [← Bool.not_eq_true]
  intro hh
  obtain ⟨q, hp2, hq2⟩ := List.any_eq_true.mp hh
  have h3 := List.all_eq_true.mp h.2 q hp2
  rw [hq2] at h3
  cases h3
-- rows
def seg (f : Int → Int) (a b : Int) (l : List Int) : Prop := 0 ≤ a ∧ b = a + l.length ∧ ∀ (i : Nat) (h : i < l.length), f (a + i) = l[i]
def isL (f : Int → Int) (l : List Int) : Prop := ∀ (i : Nat) (h : i < l.length), f i = l[i]
/-- codes of a test worked off on a stack; 'g' says whether a comparison holds -/
def evC (g : Int → Bool) : List Bool → Int → List Bool
  | st, v => if v = -3 then (match st with
      | a :: r => (!a) :: r
      | [] => [])
    else if v < 0 then (match st with
      | b :: a :: r => (if v = -1 then a && b else a || b) :: r
      | _ => [])
    else g v :: st
def evL (g : Int → Bool) (st : List Bool) (l : List Int) : List Bool := l.foldl (evC g) st
/-- how many places of the stack codes need; none where they are no test -/
def dpC : Option (Nat × Nat) → Int → Option (Nat × Nat)
  | none, _ => none
  | some (n, m), v => if v = -3 then (if n = 0 then none else some (n, m)) else if v = -1 ∨ v = -2 then (if n < 2 then none else some (n - 1, m)) else if 0 ≤ v ∧ v < 180000 then some (n + 1, max m (n + 1)) else none
def dpL (l : List Int) : Option (Nat × Nat) := l.foldl dpC (some (0, 0))
/-- a test of one truth, not more than 40 deep -/
def tOk (l : List Int) : Prop := ∃ m, m ≤ 40 ∧ dpL l = some (1, m)
def arr (f : Int → Int) (a : Int) (n : Nat) : List Int := (List.range n).map fun (i : Nat) => f (a + i)
def clOk (D : AM) (j c : Int) : Prop := (D 16 c = 0 ∧ (0 ≤ D 17 c ∧ D 17 c < 8) ∧ 0 ≤ D 18 c ∧ D 18 c ≤ 999) ∨ (D 16 c = 2 ∧ 0 ≤ D 17 c ∧ D 17 c < j) ∨ (D 16 c = 1 ∧ (0 ≤ D 19 c ∧ D 19 c < D 20 c ∧ D 20 c ≤ D 21 c ∧ D 21 c ≤ 140) ∧ tOk (arr (D 22) (140 * j + D 19 c) (D 20 c - D 19 c).toNat) ∧ (D 20 c < D 21 c → tOk (arr (D 22) (140 * j + D 20 c) (D 21 c - D 20 c).toNat)))
def InvG (D : AM) : Prop :=
  (0 ≤ D 0 1 ∧ D 0 1 ≤ 40) ∧
  (0 ≤ D 0 3 ∧ D 0 3 ≤ 12) ∧
  (∀ i, 0 ≤ D 1 i ∧ D 1 i ≤ 9999) ∧
  (∀ i, -50 ≤ D 2 i ∧ D 2 i ≤ 50) ∧
  (∀ i, -50 ≤ D 3 i ∧ D 3 i ≤ 50) ∧
  (∀ i, 0 ≤ D 4 i ∧ D 4 i ≤ 999)
theorem InvG_np {D : AM} (h : InvG D ) : 0 ≤ D 0 1 ∧ D 0 1 ≤ 40 := h.1
theorem InvG_nl {D : AM} (h : InvG D ) : 0 ≤ D 0 3 ∧ D 0 3 ≤ 12 := h.2.1
theorem InvG_est {D : AM} (h : InvG D ) : ∀ i, 0 ≤ D 1 i ∧ D 1 i ≤ 9999 := h.2.2.1
theorem InvG_x {D : AM} (h : InvG D ) : ∀ i, -50 ≤ D 2 i ∧ D 2 i ≤ 50 := h.2.2.2.1
theorem InvG_y {D : AM} (h : InvG D ) : ∀ i, -50 ≤ D 3 i ∧ D 3 i ≤ 50 := h.2.2.2.2.1
theorem InvG_wo {D : AM} (h : InvG D ) : ∀ i, 0 ≤ D 4 i ∧ D 4 i ≤ 999 := h.2.2.2.2.2
def InvP (D : AM) : Prop :=
  (0 ≤ D 0 7 ∧ D 0 7 ≤ 150) ∧
  (∀ i, 0 ≤ D 5 i ∧ D 5 i ≤ 12) ∧
  (∀ i, 0 ≤ D 6 i ∧ D 6 i ≤ 30000) ∧
  (∀ i, 0 ≤ D 7 i ∧ D 7 i ≤ 30000) ∧
  (∀ i, -1 ≤ D 8 i ∧ D 8 i ≤ 11) ∧
  (∀ i, -1 ≤ D 9 i ∧ D 9 i ≤ 39) ∧
  (∀ i, -4 ≤ D 10 i ∧ D 10 i ≤ 39) ∧
  (∀ i, -1 ≤ D 11 i ∧ D 11 i ≤ 9999) ∧
  (∀ i, 0 ≤ i → i < D 0 7 → D 5 i = 12 → 0 ≤ D 11 i ∧ D 11 i < i)
theorem InvP_pn {D : AM} (h : InvP D ) : 0 ≤ D 0 7 ∧ D 0 7 ≤ 150 := h.1
theorem InvP_pk {D : AM} (h : InvP D ) : ∀ i, 0 ≤ D 5 i ∧ D 5 i ≤ 12 := h.2.1
theorem InvP_pd {D : AM} (h : InvP D ) : ∀ i, 0 ≤ D 6 i ∧ D 6 i ≤ 30000 := h.2.2.1
theorem InvP_pt {D : AM} (h : InvP D ) : ∀ i, 0 ≤ D 7 i ∧ D 7 i ≤ 30000 := h.2.2.2.1
theorem InvP_pl {D : AM} (h : InvP D ) : ∀ i, -1 ≤ D 8 i ∧ D 8 i ≤ 11 := h.2.2.2.2.1
theorem InvP_pp {D : AM} (h : InvP D ) : ∀ i, -1 ≤ D 9 i ∧ D 9 i ≤ 39 := h.2.2.2.2.2.1
theorem InvP_pq {D : AM} (h : InvP D ) : ∀ i, -4 ≤ D 10 i ∧ D 10 i ≤ 39 := h.2.2.2.2.2.2.1
theorem InvP_pv {D : AM} (h : InvP D ) : ∀ i, -1 ≤ D 11 i ∧ D 11 i ≤ 9999 := h.2.2.2.2.2.2.2.1
theorem InvP_hV {D : AM} (h : InvP D ) : ∀ i, 0 ≤ i → i < D 0 7 → D 5 i = 12 → 0 ≤ D 11 i ∧ D 11 i < i := h.2.2.2.2.2.2.2.2
def InvL (D : AM) : Prop :=
  (∀ i, 0 ≤ i → i < D 0 7 → (D 5 i = 3 ∨ D 5 i = 4 ∨ (7 ≤ D 5 i ∧ D 5 i ≤ 11)) → 0 ≤ D 8 i ∧ D 8 i < D 0 3) ∧
  (∀ i, 0 ≤ i → i < D 0 7 → D 5 i ≤ 9 → 0 ≤ D 9 i ∧ D 9 i < D 0 1) ∧
  (∀ i, 0 ≤ i → i < D 0 7 → (D 5 i = 6 ∨ D 5 i = 7 ∨ D 5 i = 9) → 0 ≤ D 10 i ∧ D 10 i < D 0 1) ∧
  (∀ i, 0 ≤ i → i < D 0 7 → ¬(D 5 i = 3 ∨ D 5 i = 4 ∨ (7 ≤ D 5 i ∧ D 5 i ≤ 11)) → D 8 i = -1) ∧
  (∀ i, 0 ≤ i → i < D 0 7 → D 7 i ≤ D 0 0)
theorem InvL_hL {D : AM} (h : InvL D ) : ∀ i, 0 ≤ i → i < D 0 7 → (D 5 i = 3 ∨ D 5 i = 4 ∨ (7 ≤ D 5 i ∧ D 5 i ≤ 11)) → 0 ≤ D 8 i ∧ D 8 i < D 0 3 := h.1
theorem InvL_hP {D : AM} (h : InvL D ) : ∀ i, 0 ≤ i → i < D 0 7 → D 5 i ≤ 9 → 0 ≤ D 9 i ∧ D 9 i < D 0 1 := h.2.1
theorem InvL_hQ {D : AM} (h : InvL D ) : ∀ i, 0 ≤ i → i < D 0 7 → (D 5 i = 6 ∨ D 5 i = 7 ∨ D 5 i = 9) → 0 ≤ D 10 i ∧ D 10 i < D 0 1 := h.2.2.1
theorem InvL_hN {D : AM} (h : InvL D ) : ∀ i, 0 ≤ i → i < D 0 7 → ¬(D 5 i = 3 ∨ D 5 i = 4 ∨ (7 ≤ D 5 i ∧ D 5 i ≤ 11)) → D 8 i = -1 := h.2.2.2.1
theorem InvL_hT {D : AM} (h : InvL D ) : ∀ i, 0 ≤ i → i < D 0 7 → D 7 i ≤ D 0 0 := h.2.2.2.2
def InvC (D : AM) : Prop :=
  (0 ≤ D 0 18 ∧ D 0 18 ≤ 10) ∧
  (∀ i, 0 ≤ D 14 i ∧ D 14 i ≤ 30000) ∧
  (∀ j, 0 ≤ j → j < D 0 18 → 0 ≤ D 15 j ∧ D 15 j ≤ 12) ∧
  (∀ j, 0 ≤ j → j < D 0 18 → ∀ c, 0 ≤ c → c < D 15 j → clOk D j (12 * j + c))
theorem InvC_cn {D : AM} (h : InvC D ) : 0 ≤ D 0 18 ∧ D 0 18 ≤ 10 := h.1
theorem InvC_cf {D : AM} (h : InvC D ) : ∀ i, 0 ≤ D 14 i ∧ D 14 i ≤ 30000 := h.2.1
theorem InvC_cl {D : AM} (h : InvC D ) : ∀ j, 0 ≤ j → j < D 0 18 → 0 ≤ D 15 j ∧ D 15 j ≤ 12 := h.2.2.1
theorem InvC_cc {D : AM} (h : InvC D ) : ∀ j, 0 ≤ j → j < D 0 18 → ∀ c, 0 ≤ c → c < D 15 j → clOk D j (12 * j + c) := h.2.2.2
def InvR (D : AM) : Prop :=
  (0 ≤ D 0 29 ∧ D 0 29 ≤ 200) ∧
  (∀ i, 0 ≤ D 23 i ∧ D 23 i ≤ 255) ∧
  (-1 ≤ D 0 32 ∧ D 0 32 ≤ 200)
theorem InvR_rn {D : AM} (h : InvR D ) : 0 ≤ D 0 29 ∧ D 0 29 ≤ 200 := h.1
theorem InvR_rb {D : AM} (h : InvR D ) : ∀ i, 0 ≤ D 23 i ∧ D 23 i ≤ 255 := h.2.1
theorem InvR_rw {D : AM} (h : InvR D ) : -1 ≤ D 0 32 ∧ D 0 32 ≤ 200 := h.2.2
def InvS (D : AM) : Prop :=
  (0 ≤ D 0 69 ∧ D 0 69 ≤ 20) ∧
  (∀ i, 0 ≤ D 44 i ∧ D 44 i ≤ 30000) ∧
  (∀ i, 0 ≤ D 45 i ∧ D 45 i ≤ 5) ∧
  (∀ i, 0 ≤ D 46 i ∧ D 46 i ≤ 30000) ∧
  (∀ i k, 0 ≤ i → i < D 0 69 → 0 ≤ k → k < D 45 i → D 44 i ≤ D 46 (5 * i + k) ∧ ∀ k', 0 ≤ k' → k' ≤ k → D 46 (5 * i + k') ≤ D 46 (5 * i + k))
theorem InvS_sn {D : AM} (h : InvS D ) : 0 ≤ D 0 69 ∧ D 0 69 ≤ 20 := h.1
theorem InvS_sd {D : AM} (h : InvS D ) : ∀ i, 0 ≤ D 44 i ∧ D 44 i ≤ 30000 := h.2.1
theorem InvS_ss {D : AM} (h : InvS D ) : ∀ i, 0 ≤ D 45 i ∧ D 45 i ≤ 5 := h.2.2.1
theorem InvS_st {D : AM} (h : InvS D ) : ∀ i, 0 ≤ D 46 i ∧ D 46 i ≤ 30000 := h.2.2.2.1
theorem InvS_so {D : AM} (h : InvS D ) : ∀ i k, 0 ≤ i → i < D 0 69 → 0 ≤ k → k < D 45 i → D 44 i ≤ D 46 (5 * i + k) ∧ ∀ k', 0 ≤ k' → k' ≤ k → D 46 (5 * i + k') ≤ D 46 (5 * i + k) := h.2.2.2.2
def InvF (D : AM) : Prop :=
  (∀ i, 0 ≤ D 47 i ∧ D 47 i ≤ 8) ∧
  (∀ i, 0 ≤ D 48 i ∧ D 48 i ≤ 99) ∧
  (∀ i, 0 ≤ D 49 i ∧ D 49 i ≤ 999) ∧
  (∀ i, 0 ≤ D 50 i ∧ D 50 i ≤ 99)
theorem InvF_fn {D : AM} (h : InvF D ) : ∀ i, 0 ≤ D 47 i ∧ D 47 i ≤ 8 := h.1
theorem InvF_fm {D : AM} (h : InvF D ) : ∀ i, 0 ≤ D 48 i ∧ D 48 i ≤ 99 := h.2.1
theorem InvF_fa {D : AM} (h : InvF D ) : ∀ i, 0 ≤ D 49 i ∧ D 49 i ≤ 999 := h.2.2.1
theorem InvF_fx {D : AM} (h : InvF D ) : ∀ i, 0 ≤ D 50 i ∧ D 50 i ≤ 99 := h.2.2.2
def InvE (D : AM) : Prop :=
  (0 ≤ D 0 78 ∧ D 0 78 ≤ 16) ∧
  (∀ i, 0 ≤ D 52 i ∧ D 52 i ≤ 99) ∧
  (∀ i, -50 ≤ D 53 i ∧ D 53 i ≤ 50) ∧
  (∀ i, -50 ≤ D 54 i ∧ D 54 i ≤ 50) ∧
  (∀ i, 0 ≤ D 55 i ∧ D 55 i ≤ 30000) ∧
  (∀ i, 0 ≤ D 56 i ∧ D 56 i ≤ 30000) ∧
  (∀ i, D 55 i ≤ D 56 i)
theorem InvE_qn {D : AM} (h : InvE D ) : 0 ≤ D 0 78 ∧ D 0 78 ≤ 16 := h.1
theorem InvE_qm {D : AM} (h : InvE D ) : ∀ i, 0 ≤ D 52 i ∧ D 52 i ≤ 99 := h.2.1
theorem InvE_qx {D : AM} (h : InvE D ) : ∀ i, -50 ≤ D 53 i ∧ D 53 i ≤ 50 := h.2.2.1
theorem InvE_qy {D : AM} (h : InvE D ) : ∀ i, -50 ≤ D 54 i ∧ D 54 i ≤ 50 := h.2.2.2.1
theorem InvE_qf {D : AM} (h : InvE D ) : ∀ i, 0 ≤ D 55 i ∧ D 55 i ≤ 30000 := h.2.2.2.2.1
theorem InvE_qt {D : AM} (h : InvE D ) : ∀ i, 0 ≤ D 56 i ∧ D 56 i ≤ 30000 := h.2.2.2.2.2.1
theorem InvE_qo {D : AM} (h : InvE D ) : ∀ i, D 55 i ≤ D 56 i := h.2.2.2.2.2.2
def Inv (D : AM) : Prop :=
  (0 ≤ D 0 0 ∧ D 0 0 ≤ 30000) ∧
  (InvG D) ∧
  (InvP D) ∧
  (InvL D) ∧
  (InvC D) ∧
  (InvR D) ∧
  (InvS D) ∧
  (InvF D) ∧
  (InvE D)
theorem Inv_now {D : AM} (h : Inv D ) : 0 ≤ D 0 0 ∧ D 0 0 ≤ 30000 := h.1
theorem Inv_G {D : AM} (h : Inv D ) : InvG D := h.2.1
theorem Inv_P {D : AM} (h : Inv D ) : InvP D := h.2.2.1
theorem Inv_L {D : AM} (h : Inv D ) : InvL D := h.2.2.2.1
theorem Inv_C {D : AM} (h : Inv D ) : InvC D := h.2.2.2.2.1
theorem Inv_R {D : AM} (h : Inv D ) : InvR D := h.2.2.2.2.2.1
theorem Inv_S {D : AM} (h : Inv D ) : InvS D := h.2.2.2.2.2.2.1
theorem Inv_F {D : AM} (h : Inv D ) : InvF D := h.2.2.2.2.2.2.2.1
theorem Inv_E {D : AM} (h : Inv D ) : InvE D := h.2.2.2.2.2.2.2.2
theorem Inv_np {D : AM} (h : Inv D ) : 0 ≤ D 0 1 ∧ D 0 1 ≤ 40 := InvG_np (Inv_G h)
theorem Inv_nl {D : AM} (h : Inv D ) : 0 ≤ D 0 3 ∧ D 0 3 ≤ 12 := InvG_nl (Inv_G h)
theorem Inv_est {D : AM} (h : Inv D ) : ∀ i, 0 ≤ D 1 i ∧ D 1 i ≤ 9999 := InvG_est (Inv_G h)
theorem Inv_x {D : AM} (h : Inv D ) : ∀ i, -50 ≤ D 2 i ∧ D 2 i ≤ 50 := InvG_x (Inv_G h)
theorem Inv_y {D : AM} (h : Inv D ) : ∀ i, -50 ≤ D 3 i ∧ D 3 i ≤ 50 := InvG_y (Inv_G h)
theorem Inv_wo {D : AM} (h : Inv D ) : ∀ i, 0 ≤ D 4 i ∧ D 4 i ≤ 999 := InvG_wo (Inv_G h)
theorem Inv_pn {D : AM} (h : Inv D ) : 0 ≤ D 0 7 ∧ D 0 7 ≤ 150 := InvP_pn (Inv_P h)
theorem Inv_pk {D : AM} (h : Inv D ) : ∀ i, 0 ≤ D 5 i ∧ D 5 i ≤ 12 := InvP_pk (Inv_P h)
theorem Inv_pd {D : AM} (h : Inv D ) : ∀ i, 0 ≤ D 6 i ∧ D 6 i ≤ 30000 := InvP_pd (Inv_P h)
theorem Inv_pt {D : AM} (h : Inv D ) : ∀ i, 0 ≤ D 7 i ∧ D 7 i ≤ 30000 := InvP_pt (Inv_P h)
theorem Inv_pl {D : AM} (h : Inv D ) : ∀ i, -1 ≤ D 8 i ∧ D 8 i ≤ 11 := InvP_pl (Inv_P h)
theorem Inv_pp {D : AM} (h : Inv D ) : ∀ i, -1 ≤ D 9 i ∧ D 9 i ≤ 39 := InvP_pp (Inv_P h)
theorem Inv_pq {D : AM} (h : Inv D ) : ∀ i, -4 ≤ D 10 i ∧ D 10 i ≤ 39 := InvP_pq (Inv_P h)
theorem Inv_pv {D : AM} (h : Inv D ) : ∀ i, -1 ≤ D 11 i ∧ D 11 i ≤ 9999 := InvP_pv (Inv_P h)
theorem Inv_hV {D : AM} (h : Inv D ) : ∀ i, 0 ≤ i → i < D 0 7 → D 5 i = 12 → 0 ≤ D 11 i ∧ D 11 i < i := InvP_hV (Inv_P h)
theorem Inv_hL {D : AM} (h : Inv D ) : ∀ i, 0 ≤ i → i < D 0 7 → (D 5 i = 3 ∨ D 5 i = 4 ∨ (7 ≤ D 5 i ∧ D 5 i ≤ 11)) → 0 ≤ D 8 i ∧ D 8 i < D 0 3 := InvL_hL (Inv_L h)
theorem Inv_hP {D : AM} (h : Inv D ) : ∀ i, 0 ≤ i → i < D 0 7 → D 5 i ≤ 9 → 0 ≤ D 9 i ∧ D 9 i < D 0 1 := InvL_hP (Inv_L h)
theorem Inv_hQ {D : AM} (h : Inv D ) : ∀ i, 0 ≤ i → i < D 0 7 → (D 5 i = 6 ∨ D 5 i = 7 ∨ D 5 i = 9) → 0 ≤ D 10 i ∧ D 10 i < D 0 1 := InvL_hQ (Inv_L h)
theorem Inv_hN {D : AM} (h : Inv D ) : ∀ i, 0 ≤ i → i < D 0 7 → ¬(D 5 i = 3 ∨ D 5 i = 4 ∨ (7 ≤ D 5 i ∧ D 5 i ≤ 11)) → D 8 i = -1 := InvL_hN (Inv_L h)
theorem Inv_hT {D : AM} (h : Inv D ) : ∀ i, 0 ≤ i → i < D 0 7 → D 7 i ≤ D 0 0 := InvL_hT (Inv_L h)
theorem Inv_cn {D : AM} (h : Inv D ) : 0 ≤ D 0 18 ∧ D 0 18 ≤ 10 := InvC_cn (Inv_C h)
theorem Inv_cf {D : AM} (h : Inv D ) : ∀ i, 0 ≤ D 14 i ∧ D 14 i ≤ 30000 := InvC_cf (Inv_C h)
theorem Inv_cl {D : AM} (h : Inv D ) : ∀ j, 0 ≤ j → j < D 0 18 → 0 ≤ D 15 j ∧ D 15 j ≤ 12 := InvC_cl (Inv_C h)
theorem Inv_cc {D : AM} (h : Inv D ) : ∀ j, 0 ≤ j → j < D 0 18 → ∀ c, 0 ≤ c → c < D 15 j → clOk D j (12 * j + c) := InvC_cc (Inv_C h)
theorem Inv_rn {D : AM} (h : Inv D ) : 0 ≤ D 0 29 ∧ D 0 29 ≤ 200 := InvR_rn (Inv_R h)
theorem Inv_rb {D : AM} (h : Inv D ) : ∀ i, 0 ≤ D 23 i ∧ D 23 i ≤ 255 := InvR_rb (Inv_R h)
theorem Inv_rw {D : AM} (h : Inv D ) : -1 ≤ D 0 32 ∧ D 0 32 ≤ 200 := InvR_rw (Inv_R h)
theorem Inv_sn {D : AM} (h : Inv D ) : 0 ≤ D 0 69 ∧ D 0 69 ≤ 20 := InvS_sn (Inv_S h)
theorem Inv_sd {D : AM} (h : Inv D ) : ∀ i, 0 ≤ D 44 i ∧ D 44 i ≤ 30000 := InvS_sd (Inv_S h)
theorem Inv_ss {D : AM} (h : Inv D ) : ∀ i, 0 ≤ D 45 i ∧ D 45 i ≤ 5 := InvS_ss (Inv_S h)
theorem Inv_st {D : AM} (h : Inv D ) : ∀ i, 0 ≤ D 46 i ∧ D 46 i ≤ 30000 := InvS_st (Inv_S h)
theorem Inv_so {D : AM} (h : Inv D ) : ∀ i k, 0 ≤ i → i < D 0 69 → 0 ≤ k → k < D 45 i → D 44 i ≤ D 46 (5 * i + k) ∧ ∀ k', 0 ≤ k' → k' ≤ k → D 46 (5 * i + k') ≤ D 46 (5 * i + k) := InvS_so (Inv_S h)
theorem Inv_fn {D : AM} (h : Inv D ) : ∀ i, 0 ≤ D 47 i ∧ D 47 i ≤ 8 := InvF_fn (Inv_F h)
theorem Inv_fm {D : AM} (h : Inv D ) : ∀ i, 0 ≤ D 48 i ∧ D 48 i ≤ 99 := InvF_fm (Inv_F h)
theorem Inv_fa {D : AM} (h : Inv D ) : ∀ i, 0 ≤ D 49 i ∧ D 49 i ≤ 999 := InvF_fa (Inv_F h)
theorem Inv_fx {D : AM} (h : Inv D ) : ∀ i, 0 ≤ D 50 i ∧ D 50 i ≤ 99 := InvF_fx (Inv_F h)
theorem Inv_qn {D : AM} (h : Inv D ) : 0 ≤ D 0 78 ∧ D 0 78 ≤ 16 := InvE_qn (Inv_E h)
theorem Inv_qm {D : AM} (h : Inv D ) : ∀ i, 0 ≤ D 52 i ∧ D 52 i ≤ 99 := InvE_qm (Inv_E h)
theorem Inv_qx {D : AM} (h : Inv D ) : ∀ i, -50 ≤ D 53 i ∧ D 53 i ≤ 50 := InvE_qx (Inv_E h)
theorem Inv_qy {D : AM} (h : Inv D ) : ∀ i, -50 ≤ D 54 i ∧ D 54 i ≤ 50 := InvE_qy (Inv_E h)
theorem Inv_qf {D : AM} (h : Inv D ) : ∀ i, 0 ≤ D 55 i ∧ D 55 i ≤ 30000 := InvE_qf (Inv_E h)
theorem Inv_qt {D : AM} (h : Inv D ) : ∀ i, 0 ≤ D 56 i ∧ D 56 i ≤ 30000 := InvE_qt (Inv_E h)
theorem Inv_qo {D : AM} (h : Inv D ) : ∀ i, D 55 i ≤ D 56 i := InvE_qo (Inv_E h)
theorem clOk_eq {D D' : AM} (d16 : D' 16 = D 16) (d17 : D' 17 = D 17) (d18 : D' 18 = D 18) (d19 : D' 19 = D 19) (d20 : D' 20 = D 20) (d21 : D' 21 = D 21) (d22 : D' 22 = D 22) (j c : Int) : clOk D' j c = clOk D j c := by unfold clOk; simp only [d16, d17, d18, d19, d20, d21, d22]
theorem InvG_fw {D D' : AM} {cs : List Nat} {fs : List (Nat × Int)} (h : InvG D) (g : fr (wr cs fs) D D') (e : sepL [1, 2, 3, 4] [(0, 1), (0, 3)] cs fs = true) : InvG D' := by
  have d1 : D' 1 = D 1 := fr_c g e rfl
  have d2 : D' 2 = D 2 := fr_c g e rfl
  have d3 : D' 3 = D 3 := fr_c g e rfl
  have d4 : D' 4 = D 4 := fr_c g e rfl
  have d0_1 : D' 0 1 = D 0 1 := fr_f g e rfl
  have d0_3 : D' 0 3 = D 0 3 := fr_f g e rfl
  unfold InvG at h ⊢
  simp only [d1, d2, d3, d4, d0_1, d0_3]
  exact h
theorem InvP_fw {D D' : AM} {cs : List Nat} {fs : List (Nat × Int)} (h : InvP D) (g : fr (wr cs fs) D D') (e : sepL [5, 6, 7, 8, 9, 10, 11] [(0, 7)] cs fs = true) : InvP D' := by
  have d5 : D' 5 = D 5 := fr_c g e rfl
  have d6 : D' 6 = D 6 := fr_c g e rfl
  have d7 : D' 7 = D 7 := fr_c g e rfl
  have d8 : D' 8 = D 8 := fr_c g e rfl
  have d9 : D' 9 = D 9 := fr_c g e rfl
  have d10 : D' 10 = D 10 := fr_c g e rfl
  have d11 : D' 11 = D 11 := fr_c g e rfl
  have d0_7 : D' 0 7 = D 0 7 := fr_f g e rfl
  unfold InvP at h ⊢
  simp only [d5, d6, d7, d8, d9, d10, d11, d0_7]
  exact h
theorem InvL_fw {D D' : AM} {cs : List Nat} {fs : List (Nat × Int)} (h : InvL D) (g : fr (wr cs fs) D D') (e : sepL [5, 7, 8, 9, 10, 11] [(0, 0), (0, 1), (0, 3), (0, 7)] cs fs = true) : InvL D' := by
  have d5 : D' 5 = D 5 := fr_c g e rfl
  have d7 : D' 7 = D 7 := fr_c g e rfl
  have d8 : D' 8 = D 8 := fr_c g e rfl
  have d9 : D' 9 = D 9 := fr_c g e rfl
  have d10 : D' 10 = D 10 := fr_c g e rfl
  have d11 : D' 11 = D 11 := fr_c g e rfl
  have d0_0 : D' 0 0 = D 0 0 := fr_f g e rfl
  have d0_1 : D' 0 1 = D 0 1 := fr_f g e rfl
  have d0_3 : D' 0 3 = D 0 3 := fr_f g e rfl
  have d0_7 : D' 0 7 = D 0 7 := fr_f g e rfl
  unfold InvL at h ⊢
  simp only [d5, d7, d8, d9, d10, d11, d0_0, d0_1, d0_3, d0_7]
  exact h
theorem InvC_fw {D D' : AM} {cs : List Nat} {fs : List (Nat × Int)} (h : InvC D) (g : fr (wr cs fs) D D') (e : sepL [14, 15, 16, 17, 18, 19, 20, 21, 22] [(0, 18)] cs fs = true) : InvC D' := by
  have d14 : D' 14 = D 14 := fr_c g e rfl
  have d15 : D' 15 = D 15 := fr_c g e rfl
  have d16 : D' 16 = D 16 := fr_c g e rfl
  have d17 : D' 17 = D 17 := fr_c g e rfl
  have d18 : D' 18 = D 18 := fr_c g e rfl
  have d19 : D' 19 = D 19 := fr_c g e rfl
  have d20 : D' 20 = D 20 := fr_c g e rfl
  have d21 : D' 21 = D 21 := fr_c g e rfl
  have d22 : D' 22 = D 22 := fr_c g e rfl
  have d0_18 : D' 0 18 = D 0 18 := fr_f g e rfl
  unfold InvC at h ⊢
  simp only [d14, d15, d16, d17, d18, d19, d20, d21, d22, d0_18, clOk_eq d16 d17 d18 d19 d20 d21 d22]
  exact h
theorem InvR_fw {D D' : AM} {cs : List Nat} {fs : List (Nat × Int)} (h : InvR D) (g : fr (wr cs fs) D D') (e : sepL [23] [(0, 29), (0, 32)] cs fs = true) : InvR D' := by
  have d23 : D' 23 = D 23 := fr_c g e rfl
  have d0_29 : D' 0 29 = D 0 29 := fr_f g e rfl
  have d0_32 : D' 0 32 = D 0 32 := fr_f g e rfl
  unfold InvR at h ⊢
  simp only [d23, d0_29, d0_32]
  exact h
theorem InvS_fw {D D' : AM} {cs : List Nat} {fs : List (Nat × Int)} (h : InvS D) (g : fr (wr cs fs) D D') (e : sepL [44, 45, 46] [(0, 69)] cs fs = true) : InvS D' := by
  have d44 : D' 44 = D 44 := fr_c g e rfl
  have d45 : D' 45 = D 45 := fr_c g e rfl
  have d46 : D' 46 = D 46 := fr_c g e rfl
  have d0_69 : D' 0 69 = D 0 69 := fr_f g e rfl
  unfold InvS at h ⊢
  simp only [d44, d45, d46, d0_69]
  exact h
theorem InvF_fw {D D' : AM} {cs : List Nat} {fs : List (Nat × Int)} (h : InvF D) (g : fr (wr cs fs) D D') (e : sepL [47, 48, 49, 50] [] cs fs = true) : InvF D' := by
  have d47 : D' 47 = D 47 := fr_c g e rfl
  have d48 : D' 48 = D 48 := fr_c g e rfl
  have d49 : D' 49 = D 49 := fr_c g e rfl
  have d50 : D' 50 = D 50 := fr_c g e rfl
  unfold InvF at h ⊢
  simp only [d47, d48, d49, d50]
  exact h
theorem InvE_fw {D D' : AM} {cs : List Nat} {fs : List (Nat × Int)} (h : InvE D) (g : fr (wr cs fs) D D') (e : sepL [52, 53, 54, 55, 56] [(0, 78)] cs fs = true) : InvE D' := by
  have d52 : D' 52 = D 52 := fr_c g e rfl
  have d53 : D' 53 = D 53 := fr_c g e rfl
  have d54 : D' 54 = D 54 := fr_c g e rfl
  have d55 : D' 55 = D 55 := fr_c g e rfl
  have d56 : D' 56 = D 56 := fr_c g e rfl
  have d0_78 : D' 0 78 = D 0 78 := fr_f g e rfl
  unfold InvE at h ⊢
  simp only [d52, d53, d54, d55, d56, d0_78]
  exact h
-- the reckonings of papers (d days, t told on, k kinds, v which is void, n how many, w as known)
def vstep (t k v : Int → Int) (w i : Int) (V : Int → Int) : Int → Int := if t i ≤ w ∧ k i = 12 ∧ V i = 0 then up1 V (v i) 1 else V
def vmk (t k v : Int → Int) (w : Int) : Nat → (Int → Int) → Int → Int
  | 0, V => V
  | n + 1, V => vmk t k v w n (vstep t k v w n V)
/-- 1 where a paper is void, as known on the day w -/
def vd (D : AM) (w : Int) : Int → Int := vmk (D 7) (D 5) (D 11) w (D 0 7).toNat (fun _ => 0)
def ins (d : Int → Int) (x : Int) (l : List Int) : List Int := l.filter (fun y => decide (d y ≤ d x)) ++ x :: l.filter (fun y => decide (d x < d y))
def srt (d : Int → Int) : Nat → List Int
  | 0 => []
  | n + 1 => ins d n (srt d n)
def inB (D : AM) (w i : Int) : Bool := decide (D 7 i ≤ w ∧ vd D w i = 0)
/-- the book as known on the day w -/
def bk (D : AM) (w : Int) : List Int := (srt (D 6) (D 0 7).toNat).filter (inB D w)
/-- the day of the first paper of a kind of a person in a book -/
def fsP (D : AM) (l : List Int) (k p : Int) : Option Int := l.find? (fun i => decide (D 5 i = k ∧ D 9 i = p))
def dayOn (D : AM) (l : List Int) (k p : Int) : Int := match fsP D l k p with
  | some i => D 6 i
  | none => -1
-- the reckonings of canons
def strk (D : AM) (j c : Int) : Bool := (List.range (D 15 j).toNat).any (fun i => decide (D 16 (12 * j + i) = 2 ∧ D 17 (12 * j + i) = c))
/-- what is not struck on a day by the n last -/
def onmk (D : AM) (day : Int) : Nat → (Int → Bool)
  | 0 => fun _ => true
  | n + 1 => fun c => onmk D day n c && !(decide (D 14 (D 0 18 - n - 1) ≤ day) && onmk D day n (D 0 18 - n - 1) && strk D (D 0 18 - n - 1) c)
def isOn (D : AM) (day c : Int) : Bool := decide (D 14 c ≤ day) && onmk D day (D 0 18).toNat c
def cord (D : AM) (day : Int) : List Int := (srt (D 14) (D 0 18).toNat).filter (isOn D day)
def at0 (name : Int) : Int := if name = 0 then 6 else if name = 1 then 30 else if name = 2 then 100 else 0
/-- the last let of a name: its number and its canon -/
def letIn (D : AM) (name j : Int) (a : Int × Int) (i : Nat) : Int × Int := if D 16 (12 * j + i) = 0 ∧ D 17 (12 * j + i) = name then (D 18 (12 * j + i), j) else a
def force (D : AM) (day name : Int) : Int × Int := (cord D day).foldl (fun a j => (List.range (D 15 j).toNat).foldl (letIn D name j) a) (at0 name, -1)
-- how the first system's looked-up pages are filled
def OpenC (D : AM) (w size : Int) (isV leaf first : Int → Int) : Prop := w = -1 ∨ (0 ≤ w ∧ (∀ i, 0 ≤ i → i < D 0 7 → isV i = vd D w i) ∧ size = (bk D w).length ∧ isL leaf (bk D w) ∧ ∀ k p, 0 ≤ k → k < 6 → 0 ≤ p → p < 40 → first (k * 40 + p) = dayOn D (bk D w) k p)
def SetC (D : AM) (day counting : Int) (number ruler : Int → Int) : Prop := day = -1 ∨ (0 ≤ day ∧ (0 ≤ counting ∧ counting < 1024 ∧ ∀ c : Nat, (c : Int) < D 0 18 → counting.toNat.testBit c = isOn D day c) ∧ ∀ k, 0 ≤ k → k < 8 → number k = (force D day k).1 ∧ ruler k = (force D day k).2)
/-- a clause in the first system -/
def cl1 (D : AM) (j c : Int) (k sj md en : Int) (code : Int → Int) : Prop := k = D 16 c ∧ (k = 0 → sj = D 17 c ∧ md = D 18 c) ∧ (k = 2 → sj = D 17 c) ∧ (k = 1 → (0 ≤ sj ∧ sj < md ∧ md ≤ en ∧ en ≤ 2000) ∧ (∃ l, seg code sj md l ∧ tOk l ∧ ∀ g, evL g [] l = evL g [] (arr (D 22) (140 * j + D 19 c) (D 20 c - D 19 c).toNat)) ∧ (md = en ↔ D 20 c = D 21 c) ∧ (md < en → ∃ l, seg code md en l ∧ tOk l ∧ ∀ g, evL g [] l = evL g [] (arr (D 22) (140 * j + D 20 c) (D 21 c - D 20 c).toNat)))
def can1 (D : AM) (n k sj md en code : Int → Int) : Prop := ∀ j, 0 ≤ j → j < D 0 18 → n j = D 15 j ∧ ∀ c, 0 ≤ c → c < D 15 j → cl1 D j (12 * j + c) (k (12 * j + c)) (sj (12 * j + c)) (md (12 * j + c)) (en (12 * j + c)) code
theorem vd_eq {D D' : AM} (d5 : D' 5 = D 5) (d7 : D' 7 = D 7) (d11 : D' 11 = D 11) (n : D' 0 7 = D 0 7) (w : Int) : vd D' w = vd D w := by unfold vd; rw [d5, d7, d11, n]
theorem bk_eq {D D' : AM} (d5 : D' 5 = D 5) (d6 : D' 6 = D 6) (d7 : D' 7 = D 7) (d11 : D' 11 = D 11) (n : D' 0 7 = D 0 7) (w : Int) : bk D' w = bk D w := by
  have e : inB D' w = inB D w := by funext i; unfold inB; rw [vd_eq d5 d7 d11 n, d7]
  unfold bk; rw [e, d6, n]
theorem dayOn_eq {D D' : AM} (d5 : D' 5 = D 5) (d6 : D' 6 = D 6) (d9 : D' 9 = D 9) (l : List Int) (k p : Int) : dayOn D' l k p = dayOn D l k p := by unfold dayOn fsP; rw [d5, d6, d9]
theorem OpenC_eq {D D' : AM} (d5 : D' 5 = D 5) (d6 : D' 6 = D 6) (d7 : D' 7 = D 7) (d9 : D' 9 = D 9) (d11 : D' 11 = D 11) (n : D' 0 7 = D 0 7) (w size : Int) (a b c : Int → Int) : OpenC D' w size a b c = OpenC D w size a b c := by
  unfold OpenC
  simp only [vd_eq d5 d7 d11 n, bk_eq d5 d6 d7 d11 n, dayOn_eq d5 d6 d9, n]
theorem strk_eq {D D' : AM} (d15 : D' 15 = D 15) (d16 : D' 16 = D 16) (d17 : D' 17 = D 17) (j c : Int) : strk D' j c = strk D j c := by unfold strk; rw [d15, d16, d17]
theorem onmk_eq {D D' : AM} (d14 : D' 14 = D 14) (d15 : D' 15 = D 15) (d16 : D' 16 = D 16) (d17 : D' 17 = D 17) (n : D' 0 18 = D 0 18) (day : Int) : ∀ m, onmk D' day m = onmk D day m
  | 0 => rfl
  | m + 1 => by funext c; unfold onmk; rw [onmk_eq d14 d15 d16 d17 n day m, d14, n, strk_eq d15 d16 d17]
theorem isOn_eq {D D' : AM} (d14 : D' 14 = D 14) (d15 : D' 15 = D 15) (d16 : D' 16 = D 16) (d17 : D' 17 = D 17) (n : D' 0 18 = D 0 18) (day : Int) : isOn D' day = isOn D day := by funext c; unfold isOn; rw [onmk_eq d14 d15 d16 d17 n, d14, n]
theorem cord_eq {D D' : AM} (d14 : D' 14 = D 14) (d15 : D' 15 = D 15) (d16 : D' 16 = D 16) (d17 : D' 17 = D 17) (n : D' 0 18 = D 0 18) (day : Int) : cord D' day = cord D day := by unfold cord; rw [isOn_eq d14 d15 d16 d17 n, d14, n]
theorem force_eq {D D' : AM} (d14 : D' 14 = D 14) (d15 : D' 15 = D 15) (d16 : D' 16 = D 16) (d17 : D' 17 = D 17) (d18 : D' 18 = D 18) (n : D' 0 18 = D 0 18) (day name : Int) : force D' day name = force D day name := by
  unfold force
  rw [cord_eq d14 d15 d16 d17 n, d15]
  have e : letIn D' name = letIn D name := by funext j a i; unfold letIn; rw [d16, d17, d18]
  rw [e]
theorem SetC_eq {D D' : AM} (d14 : D' 14 = D 14) (d15 : D' 15 = D 15) (d16 : D' 16 = D 16) (d17 : D' 17 = D 17) (d18 : D' 18 = D 18) (n : D' 0 18 = D 0 18) (day a : Int) (b c : Int → Int) : SetC D' day a b c = SetC D day a b c := by
  unfold SetC
  simp only [isOn_eq d14 d15 d16 d17 n, force_eq d14 d15 d16 d17 d18 n, n]
theorem can1_eq {D D' : AM} (d15 : D' 15 = D 15) (d16 : D' 16 = D 16) (d17 : D' 17 = D 17) (d18 : D' 18 = D 18) (d19 : D' 19 = D 19) (d20 : D' 20 = D 20) (d21 : D' 21 = D 21) (d22 : D' 22 = D 22) (n : D' 0 18 = D 0 18) (a b c d e f : Int → Int) : can1 D' a b c d e f = can1 D a b c d e f := by
  unfold can1 cl1
  simp only [d15, d16, d17, d18, d19, d20, d21, d22, n]
def G1 (D : AM) (M : AM) : Prop :=
  (M 1 4 = D 0 1) ∧
  (M 1 5 = D 0 3) ∧
  (M 2 = D 1) ∧
  (M 3 = D 2) ∧
  (M 4 = D 3) ∧
  (M 5 = D 4)
theorem G1_np {D : AM} {M : AM} (h : G1 D  M ) : M 1 4 = D 0 1 := h.1
theorem G1_nl {D : AM} {M : AM} (h : G1 D  M ) : M 1 5 = D 0 3 := h.2.1
theorem G1_est {D : AM} {M : AM} (h : G1 D  M ) : M 2 = D 1 := h.2.2.1
theorem G1_x {D : AM} {M : AM} (h : G1 D  M ) : M 3 = D 2 := h.2.2.2.1
theorem G1_y {D : AM} {M : AM} (h : G1 D  M ) : M 4 = D 3 := h.2.2.2.2.1
theorem G1_wo {D : AM} {M : AM} (h : G1 D  M ) : M 5 = D 4 := h.2.2.2.2.2
def P1 (D : AM) (M : AM) : Prop :=
  (M 6 7 = D 0 7) ∧
  (M 7 = D 5) ∧
  (M 8 = D 6) ∧
  (M 9 = D 7) ∧
  (M 10 = D 8) ∧
  (M 11 = D 9) ∧
  (M 12 = D 10) ∧
  (M 13 = D 11) ∧
  (isL (M 14) (srt (D 6) (D 0 7).toNat)) ∧
  (OpenC D (M 6 9) (M 6 12) (M 15) (M 16) (M 17))
theorem P1_pn {D : AM} {M : AM} (h : P1 D  M ) : M 6 7 = D 0 7 := h.1
theorem P1_pk {D : AM} {M : AM} (h : P1 D  M ) : M 7 = D 5 := h.2.1
theorem P1_pd {D : AM} {M : AM} (h : P1 D  M ) : M 8 = D 6 := h.2.2.1
theorem P1_pt {D : AM} {M : AM} (h : P1 D  M ) : M 9 = D 7 := h.2.2.2.1
theorem P1_pl {D : AM} {M : AM} (h : P1 D  M ) : M 10 = D 8 := h.2.2.2.2.1
theorem P1_pp {D : AM} {M : AM} (h : P1 D  M ) : M 11 = D 9 := h.2.2.2.2.2.1
theorem P1_pq {D : AM} {M : AM} (h : P1 D  M ) : M 12 = D 10 := h.2.2.2.2.2.2.1
theorem P1_pv {D : AM} {M : AM} (h : P1 D  M ) : M 13 = D 11 := h.2.2.2.2.2.2.2.1
theorem P1_by {D : AM} {M : AM} (h : P1 D  M ) : isL (M 14) (srt (D 6) (D 0 7).toNat) := h.2.2.2.2.2.2.2.2.1
theorem P1_op {D : AM} {M : AM} (h : P1 D  M ) : OpenC D (M 6 9) (M 6 12) (M 15) (M 16) (M 17) := h.2.2.2.2.2.2.2.2.2
def C1 (D : AM) (M : AM) : Prop :=
  (M 24 0 = D 0 18) ∧
  (M 26 = D 14) ∧
  (isL (M 27) (srt (D 14) (D 0 18).toNat)) ∧
  (can1 D (M 25) (M 28) (M 29) (M 30) (M 31) (M 32)) ∧
  (SetC D (M 24 10) (M 24 11) (M 33) (M 34))
theorem C1_cn {D : AM} {M : AM} (h : C1 D  M ) : M 24 0 = D 0 18 := h.1
theorem C1_cf {D : AM} {M : AM} (h : C1 D  M ) : M 26 = D 14 := h.2.1
theorem C1_cb {D : AM} {M : AM} (h : C1 D  M ) : isL (M 27) (srt (D 14) (D 0 18).toNat) := h.2.2.1
theorem C1_ca {D : AM} {M : AM} (h : C1 D  M ) : can1 D (M 25) (M 28) (M 29) (M 30) (M 31) (M 32) := h.2.2.2.1
theorem C1_se {D : AM} {M : AM} (h : C1 D  M ) : SetC D (M 24 10) (M 24 11) (M 33) (M 34) := h.2.2.2.2
def R1 (D : AM) (M : AM) : Prop :=
  (M 35 2 = D 0 29) ∧
  (M 36 = D 23) ∧
  (M 35 3 = D 0 32)
theorem R1_rn {D : AM} {M : AM} (h : R1 D  M ) : M 35 2 = D 0 29 := h.1
theorem R1_rb {D : AM} {M : AM} (h : R1 D  M ) : M 36 = D 23 := h.2.1
theorem R1_rw {D : AM} {M : AM} (h : R1 D  M ) : M 35 3 = D 0 32 := h.2.2
def S1 (D : AM) (M : AM) : Prop :=
  (M 69 4 = D 0 69) ∧
  (M 70 = D 44) ∧
  (M 71 = D 45) ∧
  (M 72 = D 46)
theorem S1_sn {D : AM} {M : AM} (h : S1 D  M ) : M 69 4 = D 0 69 := h.1
theorem S1_sd {D : AM} {M : AM} (h : S1 D  M ) : M 70 = D 44 := h.2.1
theorem S1_ss {D : AM} {M : AM} (h : S1 D  M ) : M 71 = D 45 := h.2.2.1
theorem S1_st {D : AM} {M : AM} (h : S1 D  M ) : M 72 = D 46 := h.2.2.2
def F1 (D : AM) (M : AM) : Prop :=
  (M 94 = D 47) ∧
  (M 95 = D 48) ∧
  (M 120 = D 49) ∧
  (M 145 = D 50)
theorem F1_fn {D : AM} {M : AM} (h : F1 D  M ) : M 94 = D 47 := h.1
theorem F1_fm {D : AM} {M : AM} (h : F1 D  M ) : M 95 = D 48 := h.2.1
theorem F1_fa {D : AM} {M : AM} (h : F1 D  M ) : M 120 = D 49 := h.2.2.1
theorem F1_fx {D : AM} {M : AM} (h : F1 D  M ) : M 145 = D 50 := h.2.2.2
def E1 (D : AM) (M : AM) : Prop :=
  (M 181 5 = D 0 78) ∧
  (M 182 = D 52) ∧
  (M 183 = D 53) ∧
  (M 184 = D 54) ∧
  (M 185 = D 55) ∧
  (M 186 = D 56)
theorem E1_qn {D : AM} {M : AM} (h : E1 D  M ) : M 181 5 = D 0 78 := h.1
theorem E1_qm {D : AM} {M : AM} (h : E1 D  M ) : M 182 = D 52 := h.2.1
theorem E1_qx {D : AM} {M : AM} (h : E1 D  M ) : M 183 = D 53 := h.2.2.1
theorem E1_qy {D : AM} {M : AM} (h : E1 D  M ) : M 184 = D 54 := h.2.2.2.1
theorem E1_qf {D : AM} {M : AM} (h : E1 D  M ) : M 185 = D 55 := h.2.2.2.2.1
theorem E1_qt {D : AM} {M : AM} (h : E1 D  M ) : M 186 = D 56 := h.2.2.2.2.2
def B1 (D : AM) (M : AM) : Prop :=
  (M 0 10 = D 0 0) ∧
  (G1 D M) ∧
  (P1 D M) ∧
  (C1 D M) ∧
  (R1 D M) ∧
  (S1 D M) ∧
  (F1 D M) ∧
  (E1 D M)
theorem B1_now {D : AM} {M : AM} (h : B1 D  M ) : M 0 10 = D 0 0 := h.1
theorem B1_G {D : AM} {M : AM} (h : B1 D  M ) : G1 D M := h.2.1
theorem B1_P {D : AM} {M : AM} (h : B1 D  M ) : P1 D M := h.2.2.1
theorem B1_C {D : AM} {M : AM} (h : B1 D  M ) : C1 D M := h.2.2.2.1
theorem B1_R {D : AM} {M : AM} (h : B1 D  M ) : R1 D M := h.2.2.2.2.1
theorem B1_S {D : AM} {M : AM} (h : B1 D  M ) : S1 D M := h.2.2.2.2.2.1
theorem B1_F {D : AM} {M : AM} (h : B1 D  M ) : F1 D M := h.2.2.2.2.2.2.1
theorem B1_E {D : AM} {M : AM} (h : B1 D  M ) : E1 D M := h.2.2.2.2.2.2.2
theorem B1_np {D : AM} {M : AM} (h : B1 D  M ) : M 1 4 = D 0 1 := G1_np (B1_G h)
theorem B1_nl {D : AM} {M : AM} (h : B1 D  M ) : M 1 5 = D 0 3 := G1_nl (B1_G h)
theorem B1_est {D : AM} {M : AM} (h : B1 D  M ) : M 2 = D 1 := G1_est (B1_G h)
theorem B1_x {D : AM} {M : AM} (h : B1 D  M ) : M 3 = D 2 := G1_x (B1_G h)
theorem B1_y {D : AM} {M : AM} (h : B1 D  M ) : M 4 = D 3 := G1_y (B1_G h)
theorem B1_wo {D : AM} {M : AM} (h : B1 D  M ) : M 5 = D 4 := G1_wo (B1_G h)
theorem B1_pn {D : AM} {M : AM} (h : B1 D  M ) : M 6 7 = D 0 7 := P1_pn (B1_P h)
theorem B1_pk {D : AM} {M : AM} (h : B1 D  M ) : M 7 = D 5 := P1_pk (B1_P h)
theorem B1_pd {D : AM} {M : AM} (h : B1 D  M ) : M 8 = D 6 := P1_pd (B1_P h)
theorem B1_pt {D : AM} {M : AM} (h : B1 D  M ) : M 9 = D 7 := P1_pt (B1_P h)
theorem B1_pl {D : AM} {M : AM} (h : B1 D  M ) : M 10 = D 8 := P1_pl (B1_P h)
theorem B1_pp {D : AM} {M : AM} (h : B1 D  M ) : M 11 = D 9 := P1_pp (B1_P h)
theorem B1_pq {D : AM} {M : AM} (h : B1 D  M ) : M 12 = D 10 := P1_pq (B1_P h)
theorem B1_pv {D : AM} {M : AM} (h : B1 D  M ) : M 13 = D 11 := P1_pv (B1_P h)
theorem B1_by {D : AM} {M : AM} (h : B1 D  M ) : isL (M 14) (srt (D 6) (D 0 7).toNat) := P1_by (B1_P h)
theorem B1_op {D : AM} {M : AM} (h : B1 D  M ) : OpenC D (M 6 9) (M 6 12) (M 15) (M 16) (M 17) := P1_op (B1_P h)
theorem B1_cn {D : AM} {M : AM} (h : B1 D  M ) : M 24 0 = D 0 18 := C1_cn (B1_C h)
theorem B1_cf {D : AM} {M : AM} (h : B1 D  M ) : M 26 = D 14 := C1_cf (B1_C h)
theorem B1_cb {D : AM} {M : AM} (h : B1 D  M ) : isL (M 27) (srt (D 14) (D 0 18).toNat) := C1_cb (B1_C h)
theorem B1_ca {D : AM} {M : AM} (h : B1 D  M ) : can1 D (M 25) (M 28) (M 29) (M 30) (M 31) (M 32) := C1_ca (B1_C h)
theorem B1_se {D : AM} {M : AM} (h : B1 D  M ) : SetC D (M 24 10) (M 24 11) (M 33) (M 34) := C1_se (B1_C h)
theorem B1_rn {D : AM} {M : AM} (h : B1 D  M ) : M 35 2 = D 0 29 := R1_rn (B1_R h)
theorem B1_rb {D : AM} {M : AM} (h : B1 D  M ) : M 36 = D 23 := R1_rb (B1_R h)
theorem B1_rw {D : AM} {M : AM} (h : B1 D  M ) : M 35 3 = D 0 32 := R1_rw (B1_R h)
theorem B1_sn {D : AM} {M : AM} (h : B1 D  M ) : M 69 4 = D 0 69 := S1_sn (B1_S h)
theorem B1_sd {D : AM} {M : AM} (h : B1 D  M ) : M 70 = D 44 := S1_sd (B1_S h)
theorem B1_ss {D : AM} {M : AM} (h : B1 D  M ) : M 71 = D 45 := S1_ss (B1_S h)
theorem B1_st {D : AM} {M : AM} (h : B1 D  M ) : M 72 = D 46 := S1_st (B1_S h)
theorem B1_fn {D : AM} {M : AM} (h : B1 D  M ) : M 94 = D 47 := F1_fn (B1_F h)
theorem B1_fm {D : AM} {M : AM} (h : B1 D  M ) : M 95 = D 48 := F1_fm (B1_F h)
theorem B1_fa {D : AM} {M : AM} (h : B1 D  M ) : M 120 = D 49 := F1_fa (B1_F h)
theorem B1_fx {D : AM} {M : AM} (h : B1 D  M ) : M 145 = D 50 := F1_fx (B1_F h)
theorem B1_qn {D : AM} {M : AM} (h : B1 D  M ) : M 181 5 = D 0 78 := E1_qn (B1_E h)
theorem B1_qm {D : AM} {M : AM} (h : B1 D  M ) : M 182 = D 52 := E1_qm (B1_E h)
theorem B1_qx {D : AM} {M : AM} (h : B1 D  M ) : M 183 = D 53 := E1_qx (B1_E h)
theorem B1_qy {D : AM} {M : AM} (h : B1 D  M ) : M 184 = D 54 := E1_qy (B1_E h)
theorem B1_qf {D : AM} {M : AM} (h : B1 D  M ) : M 185 = D 55 := E1_qf (B1_E h)
theorem B1_qt {D : AM} {M : AM} (h : B1 D  M ) : M 186 = D 56 := E1_qt (B1_E h)
theorem G1_fw {D D' M M' : AM} {cs cs' : List Nat} {fs fs' : List (Nat × Int)} (h : G1 D M) (g : fr (wr cs fs) D D') (g' : fr (wr cs' fs') M M') (e : (sepL [1, 2, 3, 4] [(0, 1), (0, 3)] cs fs && sepL [2, 3, 4, 5] [(1, 4), (1, 5)] cs' fs') = true) : G1 D' M' := by
  rw [Bool.and_eq_true] at e
  obtain ⟨e, e'⟩ := e
  have d1 : D' 1 = D 1 := fr_c g e rfl
  have d2 : D' 2 = D 2 := fr_c g e rfl
  have d3 : D' 3 = D 3 := fr_c g e rfl
  have d4 : D' 4 = D 4 := fr_c g e rfl
  have d0_1 : D' 0 1 = D 0 1 := fr_f g e rfl
  have d0_3 : D' 0 3 = D 0 3 := fr_f g e rfl
  have m2 : M' 2 = M 2 := fr_c g' e' rfl
  have m3 : M' 3 = M 3 := fr_c g' e' rfl
  have m4 : M' 4 = M 4 := fr_c g' e' rfl
  have m5 : M' 5 = M 5 := fr_c g' e' rfl
  have m1_4 : M' 1 4 = M 1 4 := fr_f g' e' rfl
  have m1_5 : M' 1 5 = M 1 5 := fr_f g' e' rfl
  unfold G1 at h ⊢
  simp only [d1, d2, d3, d4, d0_1, d0_3, m2, m3, m4, m5, m1_4, m1_5]
  exact h
theorem P1_fw {D D' M M' : AM} {cs cs' : List Nat} {fs fs' : List (Nat × Int)} (h : P1 D M) (g : fr (wr cs fs) D D') (g' : fr (wr cs' fs') M M') (e : (sepL [5, 6, 7, 8, 9, 10, 11] [(0, 7)] cs fs && sepL [7, 8, 9, 10, 11, 12, 13, 14, 15, 16, 17] [(6, 7), (6, 9), (6, 12)] cs' fs') = true) : P1 D' M' := by
  rw [Bool.and_eq_true] at e
  obtain ⟨e, e'⟩ := e
  have d5 : D' 5 = D 5 := fr_c g e rfl
  have d6 : D' 6 = D 6 := fr_c g e rfl
  have d7 : D' 7 = D 7 := fr_c g e rfl
  have d8 : D' 8 = D 8 := fr_c g e rfl
  have d9 : D' 9 = D 9 := fr_c g e rfl
  have d10 : D' 10 = D 10 := fr_c g e rfl
  have d11 : D' 11 = D 11 := fr_c g e rfl
  have d0_7 : D' 0 7 = D 0 7 := fr_f g e rfl
  have m7 : M' 7 = M 7 := fr_c g' e' rfl
  have m8 : M' 8 = M 8 := fr_c g' e' rfl
  have m9 : M' 9 = M 9 := fr_c g' e' rfl
  have m10 : M' 10 = M 10 := fr_c g' e' rfl
  have m11 : M' 11 = M 11 := fr_c g' e' rfl
  have m12 : M' 12 = M 12 := fr_c g' e' rfl
  have m13 : M' 13 = M 13 := fr_c g' e' rfl
  have m14 : M' 14 = M 14 := fr_c g' e' rfl
  have m15 : M' 15 = M 15 := fr_c g' e' rfl
  have m16 : M' 16 = M 16 := fr_c g' e' rfl
  have m17 : M' 17 = M 17 := fr_c g' e' rfl
  have m6_7 : M' 6 7 = M 6 7 := fr_f g' e' rfl
  have m6_9 : M' 6 9 = M 6 9 := fr_f g' e' rfl
  have m6_12 : M' 6 12 = M 6 12 := fr_f g' e' rfl
  unfold P1 at h ⊢
  simp only [d5, d6, d7, d8, d9, d10, d11, d0_7, m7, m8, m9, m10, m11, m12, m13, m14, m15, m16, m17, m6_7, m6_9, m6_12, OpenC_eq d5 d6 d7 d9 d11 d0_7]
  exact h
theorem C1_fw {D D' M M' : AM} {cs cs' : List Nat} {fs fs' : List (Nat × Int)} (h : C1 D M) (g : fr (wr cs fs) D D') (g' : fr (wr cs' fs') M M') (e : (sepL [14, 15, 16, 17, 18, 19, 20, 21, 22] [(0, 18)] cs fs && sepL [25, 26, 27, 28, 29, 30, 31, 32, 33, 34] [(24, 0), (24, 10), (24, 11)] cs' fs') = true) : C1 D' M' := by
  rw [Bool.and_eq_true] at e
  obtain ⟨e, e'⟩ := e
  have d14 : D' 14 = D 14 := fr_c g e rfl
  have d15 : D' 15 = D 15 := fr_c g e rfl
  have d16 : D' 16 = D 16 := fr_c g e rfl
  have d17 : D' 17 = D 17 := fr_c g e rfl
  have d18 : D' 18 = D 18 := fr_c g e rfl
  have d19 : D' 19 = D 19 := fr_c g e rfl
  have d20 : D' 20 = D 20 := fr_c g e rfl
  have d21 : D' 21 = D 21 := fr_c g e rfl
  have d22 : D' 22 = D 22 := fr_c g e rfl
  have d0_18 : D' 0 18 = D 0 18 := fr_f g e rfl
  have m25 : M' 25 = M 25 := fr_c g' e' rfl
  have m26 : M' 26 = M 26 := fr_c g' e' rfl
  have m27 : M' 27 = M 27 := fr_c g' e' rfl
  have m28 : M' 28 = M 28 := fr_c g' e' rfl
  have m29 : M' 29 = M 29 := fr_c g' e' rfl
  have m30 : M' 30 = M 30 := fr_c g' e' rfl
  have m31 : M' 31 = M 31 := fr_c g' e' rfl
  have m32 : M' 32 = M 32 := fr_c g' e' rfl
  have m33 : M' 33 = M 33 := fr_c g' e' rfl
  have m34 : M' 34 = M 34 := fr_c g' e' rfl
  have m24_0 : M' 24 0 = M 24 0 := fr_f g' e' rfl
  have m24_10 : M' 24 10 = M 24 10 := fr_f g' e' rfl
  have m24_11 : M' 24 11 = M 24 11 := fr_f g' e' rfl
  unfold C1 at h ⊢
  simp only [d14, d15, d16, d17, d18, d19, d20, d21, d22, d0_18, m25, m26, m27, m28, m29, m30, m31, m32, m33, m34, m24_0, m24_10, m24_11, SetC_eq d14 d15 d16 d17 d18 d0_18, can1_eq d15 d16 d17 d18 d19 d20 d21 d22 d0_18]
  exact h
theorem R1_fw {D D' M M' : AM} {cs cs' : List Nat} {fs fs' : List (Nat × Int)} (h : R1 D M) (g : fr (wr cs fs) D D') (g' : fr (wr cs' fs') M M') (e : (sepL [23] [(0, 29), (0, 32)] cs fs && sepL [36] [(35, 2), (35, 3)] cs' fs') = true) : R1 D' M' := by
  rw [Bool.and_eq_true] at e
  obtain ⟨e, e'⟩ := e
  have d23 : D' 23 = D 23 := fr_c g e rfl
  have d0_29 : D' 0 29 = D 0 29 := fr_f g e rfl
  have d0_32 : D' 0 32 = D 0 32 := fr_f g e rfl
  have m36 : M' 36 = M 36 := fr_c g' e' rfl
  have m35_2 : M' 35 2 = M 35 2 := fr_f g' e' rfl
  have m35_3 : M' 35 3 = M 35 3 := fr_f g' e' rfl
  unfold R1 at h ⊢
  simp only [d23, d0_29, d0_32, m36, m35_2, m35_3]
  exact h
theorem S1_fw {D D' M M' : AM} {cs cs' : List Nat} {fs fs' : List (Nat × Int)} (h : S1 D M) (g : fr (wr cs fs) D D') (g' : fr (wr cs' fs') M M') (e : (sepL [44, 45, 46] [(0, 69)] cs fs && sepL [70, 71, 72] [(69, 4)] cs' fs') = true) : S1 D' M' := by
  rw [Bool.and_eq_true] at e
  obtain ⟨e, e'⟩ := e
  have d44 : D' 44 = D 44 := fr_c g e rfl
  have d45 : D' 45 = D 45 := fr_c g e rfl
  have d46 : D' 46 = D 46 := fr_c g e rfl
  have d0_69 : D' 0 69 = D 0 69 := fr_f g e rfl
  have m70 : M' 70 = M 70 := fr_c g' e' rfl
  have m71 : M' 71 = M 71 := fr_c g' e' rfl
  have m72 : M' 72 = M 72 := fr_c g' e' rfl
  have m69_4 : M' 69 4 = M 69 4 := fr_f g' e' rfl
  unfold S1 at h ⊢
  simp only [d44, d45, d46, d0_69, m70, m71, m72, m69_4]
  exact h
theorem F1_fw {D D' M M' : AM} {cs cs' : List Nat} {fs fs' : List (Nat × Int)} (h : F1 D M) (g : fr (wr cs fs) D D') (g' : fr (wr cs' fs') M M') (e : (sepL [47, 48, 49, 50] [] cs fs && sepL [94, 95, 120, 145] [] cs' fs') = true) : F1 D' M' := by
  rw [Bool.and_eq_true] at e
  obtain ⟨e, e'⟩ := e
  have d47 : D' 47 = D 47 := fr_c g e rfl
  have d48 : D' 48 = D 48 := fr_c g e rfl
  have d49 : D' 49 = D 49 := fr_c g e rfl
  have d50 : D' 50 = D 50 := fr_c g e rfl
  have m94 : M' 94 = M 94 := fr_c g' e' rfl
  have m95 : M' 95 = M 95 := fr_c g' e' rfl
  have m120 : M' 120 = M 120 := fr_c g' e' rfl
  have m145 : M' 145 = M 145 := fr_c g' e' rfl
  unfold F1 at h ⊢
  simp only [d47, d48, d49, d50, m94, m95, m120, m145]
  exact h
theorem E1_fw {D D' M M' : AM} {cs cs' : List Nat} {fs fs' : List (Nat × Int)} (h : E1 D M) (g : fr (wr cs fs) D D') (g' : fr (wr cs' fs') M M') (e : (sepL [52, 53, 54, 55, 56] [(0, 78)] cs fs && sepL [182, 183, 184, 185, 186] [(181, 5)] cs' fs') = true) : E1 D' M' := by
  rw [Bool.and_eq_true] at e
  obtain ⟨e, e'⟩ := e
  have d52 : D' 52 = D 52 := fr_c g e rfl
  have d53 : D' 53 = D 53 := fr_c g e rfl
  have d54 : D' 54 = D 54 := fr_c g e rfl
  have d55 : D' 55 = D 55 := fr_c g e rfl
  have d56 : D' 56 = D 56 := fr_c g e rfl
  have d0_78 : D' 0 78 = D 0 78 := fr_f g e rfl
  have m182 : M' 182 = M 182 := fr_c g' e' rfl
  have m183 : M' 183 = M 183 := fr_c g' e' rfl
  have m184 : M' 184 = M 184 := fr_c g' e' rfl
  have m185 : M' 185 = M 185 := fr_c g' e' rfl
  have m186 : M' 186 = M 186 := fr_c g' e' rfl
  have m181_5 : M' 181 5 = M 181 5 := fr_f g' e' rfl
  unfold E1 at h ⊢
  simp only [d52, d53, d54, d55, d56, d0_78, m182, m183, m184, m185, m186, m181_5]
  exact h
