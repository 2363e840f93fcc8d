/-! THE START: what the Statement gives, the two objects made, the loop entered -/
/-- the first store of the system 1 -/
def m01 : AM := fun q i => cond (Nat.beq q 93) (cond (decide (i = 6)) (-1) (0)) (cond (Nat.beq q 37) (cond (decide (i = 12)) (-1) (cond (decide (i = 11)) (-1) (0))) (cond (Nat.beq q 35) (cond (decide (i = 3)) (-1) (0)) (cond (Nat.beq q 24) (cond (decide (i = 10)) (-1) (0)) (cond (Nat.beq q 6) (cond (decide (i = 9)) (-1) (0)) (0)))))
theorem ws_row (x : Nat) (c : ClassId) (len : Nat) : some (x, (.inl (c, len, .inl (fun _ => 0)) : va_E)) = some (x, .inl (c, len, .inl (fun j => if j < len then Int32.ofInt 0 else 0))) := by
  have e : (fun _ : Nat => (0 : Int32)) = (fun j => if j < len then Int32.ofInt 0 else 0) := by
    funext j
    split <;> rfl
  rw [e]
def aSeg (cA : Nat → ClassId) (u : Nat → Nat) (b n : Nat) : va_W := (List.range n).map fun j => (u (b + j), aw_e s1_G u cA m01 (b + j))
theorem sg_two {cA : Nat → ClassId} {u : Nat → Nat} {b b' n m k : Nat} {X Y : va_W} (h1 : X = aSeg cA u b n) (h2 : Y = aSeg cA u b' m) (hb : b + n = b') (hk : n + m = k) : X ++ Y = aSeg cA u b k := by
  subst hb hk h1 h2
  unfold aSeg
  rw [List.range_add, List.map_append, List.map_map]
  congr 1
  apply List.map_congr_left
  intro j _
  show _ = (u (b + (n + j)), aw_e s1_G u cA m01 (b + (n + j)))
  rw [Nat.add_assoc]
theorem sg_row {cA : Nat → ClassId} {u : Nat → Nat} {b n k len : Nat} (hk : ∀ i, i < n → s1_G.1 (b + i) = kW k i len) (hm : m01 k = fun _ => 0) : (List.range n).map (fun i => (u (b + i), (.inl (cA 0, len, .inl (fun _ => 0)) : va_E))) = aSeg cA u b n := by
  unfold aSeg
  apply List.map_congr_left
  intro i hi
  have h := hk i (List.mem_range.mp hi)
  have e : (fun _ : Nat => (0 : Int32)) = (fun j => if j < len then Int32.ofInt (m01 k (i * len + j)) else 0) := by
    funext j
    rw [hm]
    split <;> rfl
  unfold aw_e
  rw [h]
  show (u (b + i), (.inl (cA 0, len, .inl (fun _ => 0)) : va_E)) = (u (b + i), .inl (cA 0, len, .inl (fun j => if j < len then Int32.ofInt (m01 k (i * len + j)) else 0)))
  rw [← e]
set_option maxRecDepth 100000 in
theorem sg_Register (cA : Nat → ClassId) (u : Nat → Nat) : ctW_Register cA  (fun k => u (1 + k)) = aSeg cA u 1 5 := by
  unfold ctW_Register
  simp only [← Nat.add_assoc, Nat.reduceAdd]
  exact (rfl : _ = aSeg cA u 1 5)
set_option maxRecDepth 100000 in
theorem sg_Papers (cA : Nat → ClassId) (u : Nat → Nat) : ctW_Papers cA  (fun k => u (6 + k)) = aSeg cA u 6 18 := by
  unfold ctW_Papers
  simp only [← Nat.add_assoc, Nat.reduceAdd]
  exact (sg_two (rfl : _ = aSeg cA u 6 12) (sg_row (b := 18) (n := 6) (k := 17) (len := 40) (fun i hi => by match i, hi with | 0, _ => rfl | 1, _ => rfl | 2, _ => rfl | 3, _ => rfl | 4, _ => rfl | 5, _ => rfl | i + 6, hi => exact absurd hi (by omega)) rfl) (b' := 18) rfl (k := 18) rfl)
set_option maxRecDepth 100000 in
theorem sg_Canons (cA : Nat → ClassId) (u : Nat → Nat) : ctW_Canons cA  (fun k => u (24 + k)) = aSeg cA u 24 11 := by
  unfold ctW_Canons
  simp only [← Nat.add_assoc, Nat.reduceAdd]
  exact (rfl : _ = aSeg cA u 24 11)
set_option maxRecDepth 100000 in
theorem sg_Reader (cA : Nat → ClassId) (u : Nat → Nat) : ctW_Reader cA (u 24) (fun k => u (35 + k)) = aSeg cA u 35 2 := by
  unfold ctW_Reader
  simp only [← Nat.add_assoc, Nat.reduceAdd]
  exact (rfl : _ = aSeg cA u 35 2)
set_option maxRecDepth 100000 in
theorem sg_Rights (cA : Nat → ClassId) (u : Nat → Nat) : ctW_Rights cA (u 6) (fun k => u (56 + k)) = aSeg cA u 56 6 := by
  unfold ctW_Rights
  simp only [← Nat.add_assoc, Nat.reduceAdd]
  exact (rfl : _ = aSeg cA u 56 6)
set_option maxRecDepth 100000 in
theorem sg_Changes (cA : Nat → ClassId) (u : Nat → Nat) : ctW_Changes cA  (fun k => u (62 + k)) = aSeg cA u 62 7 := by
  unfold ctW_Changes
  simp only [← Nat.add_assoc, Nat.reduceAdd]
  exact (rfl : _ = aSeg cA u 62 7)
set_option maxRecDepth 100000 in
theorem sg_Story (cA : Nat → ClassId) (u : Nat → Nat) : ctW_Story cA (u 1) (u 6) (u 24) (fun k => u (37 + k)) = aSeg cA u 37 32 := by
  unfold ctW_Story
  simp only [← Nat.add_assoc, Nat.reduceAdd]
  exact (sg_two (sg_two (sg_two (sg_two (rfl : _ = aSeg cA u 37 3) (sg_row (b := 40) (n := 12) (k := 39) (len := 40) (fun i hi => by match i, hi with | 0, _ => rfl | 1, _ => rfl | 2, _ => rfl | 3, _ => rfl | 4, _ => rfl | 5, _ => rfl | 6, _ => rfl | 7, _ => rfl | 8, _ => rfl | 9, _ => rfl | 10, _ => rfl | 11, _ => rfl | i + 12, hi => exact absurd hi (by omega)) rfl) (b' := 40) rfl (k := 15) rfl) (rfl : _ = aSeg cA u 52 4) (b' := 52) rfl (k := 19) rfl) (sg_Rights cA u) (b' := 56) rfl (k := 25) rfl) (sg_Changes cA u) (b' := 62) rfl (k := 32) rfl)
set_option maxRecDepth 100000 in
theorem sg_Suits (cA : Nat → ClassId) (u : Nat → Nat) : ctW_Suits cA (u 24) (fun k => u (69 + k)) = aSeg cA u 69 24 := by
  unfold ctW_Suits
  simp only [← Nat.add_assoc, Nat.reduceAdd]
  exact (sg_two (rfl : _ = aSeg cA u 69 4) (sg_row (b := 73) (n := 20) (k := 72) (len := 5) (fun i hi => by match i, hi with | 0, _ => rfl | 1, _ => rfl | 2, _ => rfl | 3, _ => rfl | 4, _ => rfl | 5, _ => rfl | 6, _ => rfl | 7, _ => rfl | 8, _ => rfl | 9, _ => rfl | 10, _ => rfl | 11, _ => rfl | 12, _ => rfl | 13, _ => rfl | 14, _ => rfl | 15, _ => rfl | 16, _ => rfl | 17, _ => rfl | 18, _ => rfl | 19, _ => rfl | i + 20, hi => exact absurd hi (by omega)) rfl) (b' := 73) rfl (k := 24) rfl)
set_option maxRecDepth 100000 in
theorem sg_Terriers (cA : Nat → ClassId) (u : Nat → Nat) : ctW_Terriers cA  (fun k => u (93 + k)) = aSeg cA u 93 88 := by
  unfold ctW_Terriers
  simp only [← Nat.add_assoc, Nat.reduceAdd]
  exact (sg_two (sg_two (sg_two (sg_two (sg_two (sg_two (sg_two (sg_two (rfl : _ = aSeg cA u 93 3) (sg_row (b := 96) (n := 24) (k := 95) (len := 8) (fun i hi => by match i, hi with | 0, _ => rfl | 1, _ => rfl | 2, _ => rfl | 3, _ => rfl | 4, _ => rfl | 5, _ => rfl | 6, _ => rfl | 7, _ => rfl | 8, _ => rfl | 9, _ => rfl | 10, _ => rfl | 11, _ => rfl | 12, _ => rfl | 13, _ => rfl | 14, _ => rfl | 15, _ => rfl | 16, _ => rfl | 17, _ => rfl | 18, _ => rfl | 19, _ => rfl | 20, _ => rfl | 21, _ => rfl | 22, _ => rfl | 23, _ => rfl | i + 24, hi => exact absurd hi (by omega)) rfl) (b' := 96) rfl (k := 27) rfl) (rfl : _ = aSeg cA u 120 1) (b' := 120) rfl (k := 28) rfl) (sg_row (b := 121) (n := 24) (k := 120) (len := 8) (fun i hi => by match i, hi with | 0, _ => rfl | 1, _ => rfl | 2, _ => rfl | 3, _ => rfl | 4, _ => rfl | 5, _ => rfl | 6, _ => rfl | 7, _ => rfl | 8, _ => rfl | 9, _ => rfl | 10, _ => rfl | 11, _ => rfl | 12, _ => rfl | 13, _ => rfl | 14, _ => rfl | 15, _ => rfl | 16, _ => rfl | 17, _ => rfl | 18, _ => rfl | 19, _ => rfl | 20, _ => rfl | 21, _ => rfl | 22, _ => rfl | 23, _ => rfl | i + 24, hi => exact absurd hi (by omega)) rfl) (b' := 121) rfl (k := 52) rfl) (rfl : _ = aSeg cA u 145 1) (b' := 145) rfl (k := 53) rfl) (sg_row (b := 146) (n := 24) (k := 145) (len := 8) (fun i hi => by match i, hi with | 0, _ => rfl | 1, _ => rfl | 2, _ => rfl | 3, _ => rfl | 4, _ => rfl | 5, _ => rfl | 6, _ => rfl | 7, _ => rfl | 8, _ => rfl | 9, _ => rfl | 10, _ => rfl | 11, _ => rfl | 12, _ => rfl | 13, _ => rfl | 14, _ => rfl | 15, _ => rfl | 16, _ => rfl | 17, _ => rfl | 18, _ => rfl | 19, _ => rfl | 20, _ => rfl | 21, _ => rfl | 22, _ => rfl | 23, _ => rfl | i + 24, hi => exact absurd hi (by omega)) rfl) (b' := 146) rfl (k := 77) rfl) (rfl : _ = aSeg cA u 170 1) (b' := 170) rfl (k := 78) rfl) (sg_row (b := 171) (n := 9) (k := 170) (len := 256) (fun i hi => by match i, hi with | 0, _ => rfl | 1, _ => rfl | 2, _ => rfl | 3, _ => rfl | 4, _ => rfl | 5, _ => rfl | 6, _ => rfl | 7, _ => rfl | 8, _ => rfl | i + 9, hi => exact absurd hi (by omega)) rfl) (b' := 171) rfl (k := 87) rfl) (rfl : _ = aSeg cA u 180 1) (b' := 180) rfl (k := 88) rfl)
set_option maxRecDepth 100000 in
theorem sg_Lives (cA : Nat → ClassId) (u : Nat → Nat) : ctW_Lives cA  (fun k => u (181 + k)) = aSeg cA u 181 9 := by
  unfold ctW_Lives
  simp only [← Nat.add_assoc, Nat.reduceAdd]
  exact (rfl : _ = aSeg cA u 181 9)
set_option maxRecDepth 100000 in
theorem sg_Visitation (cA : Nat → ClassId) (u : Nat → Nat) : ctW_Visitation cA (u 1) (fun k => u (190 + k)) = aSeg cA u 190 14 := by
  unfold ctW_Visitation
  simp only [← Nat.add_assoc, Nat.reduceAdd]
  exact (sg_two (sg_two (rfl : _ = aSeg cA u 190 3) (sg_row (b := 193) (n := 8) (k := 192) (len := 256) (fun i hi => by match i, hi with | 0, _ => rfl | 1, _ => rfl | 2, _ => rfl | 3, _ => rfl | 4, _ => rfl | 5, _ => rfl | 6, _ => rfl | 7, _ => rfl | i + 8, hi => exact absurd hi (by omega)) rfl) (b' := 193) rfl (k := 11) rfl) (rfl : _ = aSeg cA u 201 3) (b' := 201) rfl (k := 14) rfl)
set_option maxRecDepth 100000 in
theorem sg_Book (cA : Nat → ClassId) (u : Nat → Nat) : ctW_Book cA u = aSeg cA u 0 205 := by
  unfold ctW_Book
  exact (sg_two (sg_two (sg_two (sg_two (sg_two (sg_two (sg_two (sg_two (sg_two (sg_two (rfl : _ = aSeg cA u 0 1) (sg_Register cA u) (b' := 1) rfl (k := 6) rfl) (sg_Papers cA u) (b' := 6) rfl (k := 24) rfl) (sg_Canons cA u) (b' := 24) rfl (k := 35) rfl) (sg_Reader cA u) (b' := 35) rfl (k := 37) rfl) (sg_Story cA u) (b' := 37) rfl (k := 69) rfl) (sg_Suits cA u) (b' := 69) rfl (k := 93) rfl) (sg_Terriers cA u) (b' := 93) rfl (k := 181) rfl) (sg_Lives cA u) (b' := 181) rfl (k := 190) rfl) (sg_Visitation cA u) (b' := 190) rfl (k := 204) rfl) (rfl : _ = aSeg cA u 204 1) (b' := 204) rfl (k := 205) rfl)
theorem ws_w1 (cA : Nat → ClassId) (u : Nat → Nat) : ctW_Book cA u = aw s1_G u cA 205 m01 := by
  rw [sg_Book]
  unfold aSeg aw
  simp only [Nat.zero_add]
