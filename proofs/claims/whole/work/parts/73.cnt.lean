/-! CALLS ON THE STORY: count, barred, seat -/
abbrev wS : Nat → Int → Bool := wr [15, 16, 17, 33, 34, 38, 39, 52, 53, 54, 55, 57, 58, 59, 60, 61, 63, 64, 65, 66, 67, 68, 204] [(6, 9), (6, 12), (24, 10), (24, 11), (37, 11), (37, 12), (56, 5), (62, 6)]
abbrev wU2 : Nat → Int → Bool := wr [12, 13, 25, 26, 27, 28, 29, 30, 31, 32, 33, 34, 35, 36, 37, 38, 39, 40, 41, 42, 43] [(0, 17), (0, 41), (0, 42), (0, 51), (0, 52), (0, 57), (0, 58), (0, 62), (0, 63), (0, 64), (0, 65), (0, 66)]
theorem k1_st {D M : AM} {w u : Int} {d : Nat} {Q : AM → Prop} (hd : 13 < d) (hI : Inv D) (hB : B1 D M) (hC : StoC D M) (hw0 : 0 ≤ w) (K : ∀ M1, fr wS M M1 → T1 D w (story D w u) M1 → M1 37 11 = w → M1 37 12 = u → Q M1) : aKv s1_G d 69 [aP 37, aI w, aI u] M Q :=
  aKv_of (s1_Story_tell hI hB hC hw0) hd (fun M1 q => K M1 (fr_mo q.1 rfl) q.2.1 q.2.2.1 q.2.2.2)
theorem k2_st {D M : AM} {w u a b c : Int} {d : Nat} {Q : AM → Prop} (hd : 12 < d) (hI : Inv D) (hL : eqL D M) (hw0 : 0 ≤ w) (K : ∀ M1 ph, fr wU2 M M1 → T2 D w (story D w u) 150 a b c ph M1 → Q M1) : aKv s2_G d 69 [aP 0, aI a, aI b, aI c] M (fun M1 => aKv s2_G d 70 [aP 0, aI w, aI u] M1 Q) :=
  aKv_of s2_watch (by omega) (fun M1 q => aKv_of (s2_tell hI (eqL_fw hL q.1 rfl) hw0 q.2) hd (fun M2 p => by
    obtain ⟨p1, ph, p2⟩ := p
    exact K M2 ph (fr_tr (fr_mo q.1 rfl) (fr_mo p1 rfl)) p2))
theorem StoC_fw {D M M' : AM} {cs : List Nat} {fs : List (Nat × Int)} (h : StoC D M) (g : fr (wr cs fs) M M') (e : sepL [38, 39, 52, 53, 54, 57, 58, 59, 60, 61, 63, 64, 65, 66, 67, 68] [(56, 5), (62, 6), (37, 11), (37, 12)] cs fs = true) : StoC D M' := by
  have n1 : M' 37 11 = M 37 11 := fr_f g e rfl
  have n2 : M' 37 12 = M 37 12 := fr_f g e rfl
  unfold StoC at h ⊢
  rw [n1, n2]
  rcases h with h | h
  · exact Or.inl h
  · refine Or.inr (Q1_fw h g ?_)
    unfold sepL at e ⊢
    simp only [List.all_cons, Bool.and_eq_true] at e ⊢
    exact ⟨e.1, e.2.1, e.2.2.1, by simp⟩
-- count
def lvN (s : Sg) (x : Int) (n : Nat) : Nat := (List.range n).countP (fun l : Nat => decide (min ((s.h (l : Int)).length : Int) 2 = x))
theorem lvN_succ {s : Sg} {x : Int} (n : Nat) : lvN s x (n + 1) = lvN s x n + (if min ((s.h (n : Int)).length : Int) 2 = x then 1 else 0) := by
  unfold lvN
  rw [List.range_succ, List.countP_append, List.countP_cons, List.countP_nil]
  simp
theorem lvN_le (s : Sg) (x : Int) (n : Nat) : lvN s x n ≤ n := by
  have := List.countP_le_length (p := fun l : Nat => decide (min ((s.h (l : Int)).length : Int) 2 = x)) (l := List.range n)
  rw [List.length_range] at this
  exact this
theorem s1_Story_livingsThatAre {D M : AM} {w i x : Int} {s : Sg} (hI : Inv D) (hS : SI D i s) (hT : T1 D w s M) : aCi s1_G 6 78 [aP 37, aI x] M (fun z M' => M' = M ∧ z = lvN s x (D 0 3).toNat) := by
  refine ⟨Nat.le_of_ble_eq_true rfl, fun d hd => ?_⟩
  refine s1_Story_livingsThatAre_0 (by omega) ?_
  have hnl := Inv_nl hI
  have hnp := Inv_np hI
  obtain ⟨hB, hw, hQ⟩ := hT
  have key : ∀ (m k : Nat), (k : Int) + m = D 0 3 → aE s1_G d 78 4 [] [some (aP 37), some (aI x), some (aI (lvN s x k)), some (aI k)] [] M (fun r M' => ∃ z, r = some (aI z) ∧ M' = M ∧ z = lvN s x (D 0 3).toNat) := by
    intro m
    induction m with
    | zero =>
      intro k hk
      refine s1_Story_livingsThatAre_4 (by omega) ?_
      rw [B1_nl hB]
      exact ⟨fun _ => ⟨_, rfl, rfl, by rw [show (D 0 3).toNat = k by omega]⟩, fun h => absurd h (by omega)⟩
    | succ m ih =>
      intro k hk
      have ih := ih (k + 1) (by omega)
      have hle := lvN_le s x k
      rw [lvN_succ] at ih
      refine s1_Story_livingsThatAre_4 (by omega) ?_
      rw [B1_nl hB, x_add (a := (k : Int)) (by omega), show (k : Int) + 1 = ((k + 1 : Nat) : Int) by omega]
      refine ⟨fun h => absurd h (by omega), fun _ => ?_⟩
      refine aKi_of (s1_Story_holderCount (L := s.h k) (Q1_h hQ k (by omega) (by omega)) (by omega) (SI_hn hS k) (fun e he => by have := (SI_hp hS k e.1 e.2 he).2.1; omega)) (by omega) (fun z M1 q => ?_)
      obtain ⟨e1, rfl⟩ := q
      rw [e1]
      have hst : aCi s1_G 4 13 [aI ((s.h k).length : Int)] M (fun z M' => M' = M ∧ z = min ((s.h k).length : Int) 2) := ⟨Nat.le_of_ble_eq_true rfl, fun d hd => s1_Changes_stateOf_0 (by omega) ⟨_, rfl, rfl, by split <;> omega⟩⟩
      refine aKi_of hst (by omega) (fun z M2 q => ?_)
      obtain ⟨e2, rfl⟩ := q
      rw [e2, show a_bl ((0 : Int) ≠ 0) = 0 from rfl, show a_bl ((1 : Int) ≠ 0) = 1 from rfl, x_add (a := (lvN s x k : Int)) (b := 0) (by omega), x_add (a := (lvN s x k : Int)) (b := 1) (by omega)]
      refine ⟨fun h => ?_, fun h => ?_⟩
      · rw [if_neg h] at ih; exact ih
      · rw [if_pos h] at ih; exact ih
  exact key (D 0 3).toNat 0 (by omega)
theorem s2_livingsToday {D M : AM} {x : Int} (hI : Inv D) (hL : eqL D M) (hx : x = 0 ∨ x = 1) : aCi s2_G 13 81 [aP 0, aI x] M (fun z M' => fr wU2 M M' ∧ z = lvN (story D (D 0 0) (D 0 0)) (2 * x) (D 0 3).toNat) := by
  refine ⟨Nat.le_of_ble_eq_true rfl, fun d hd => ?_⟩
  refine s2_livingsToday_0 (by omega) ?_
  have hnl := Inv_nl hI
  have hnow := Inv_now hI
  obtain ⟨s, es⟩ : ∃ s, s = story D (D 0 0) (D 0 0) := ⟨_, rfl⟩
  rw [← es]
  refine aKv_of s2_watch (by omega) (fun M0 q => ?_)
  obtain ⟨q1, q2⟩ := q
  rw [q1 0 0 rfl, L0_0 hL]
  refine aKv_of (s2_tell hI (eqL_fw hL q1 rfl) hnow.1 q2) (by omega) (fun M2 p => ?_)
  obtain ⟨p1, ph, p2⟩ := p
  rw [← es] at p2
  have f2 : fr wU2 M M2 := fr_tr (fr_mo q1 rfl) (fr_mo p1 rfl)
  have key : ∀ (m k : Nat), (k : Int) + m = D 0 3 → aE s2_G d 81 23 [] [some (aP 0), some (aI x), some (aI (lvN s (2 * x) k)), some (aI k)] [] M2 (fun r M' => ∃ z, r = some (aI z) ∧ fr wU2 M M' ∧ z = lvN s (2 * x) (D 0 3).toNat) := by
    intro m
    induction m with
    | zero =>
      intro k hk
      refine s2_livingsToday_23 (by omega) ?_
      rw [L0_3 p2.1]
      exact ⟨fun _ => ⟨_, rfl, f2, by rw [show (D 0 3).toNat = k by omega]⟩, fun h => absurd h (by omega)⟩
    | succ m ih =>
      intro k hk
      have ih := ih (k + 1) (by omega)
      have hle := lvN_le s (2 * x) k
      rw [lvN_succ] at ih
      refine s2_livingsToday_23 (by omega) ?_
      rw [L0_3 p2.1, Q2_hn p2.2.2 k (by omega) (by omega), x_add (a := (k : Int)) (by omega), show (k : Int) + 1 = ((k + 1 : Nat) : Int) by omega, show a_bl ((0 : Int) ≠ 0) = 0 from rfl, show a_bl ((1 : Int) ≠ 0) = 1 from rfl, x_add (a := (lvN s (2 * x) k : Int)) (b := 0) (by omega), x_add (a := (lvN s (2 * x) k : Int)) (b := 1) (by omega)]
      refine ⟨fun h => absurd h (by omega), fun _ => ⟨fun hx0 => ⟨by omega, fun h => ?_, fun h => ?_⟩, fun hx0 => ⟨by omega, fun h => ?_, fun h => ?_⟩⟩⟩
      · rw [if_neg (by omega)] at ih; exact ih
      · rw [if_pos (by omega)] at ih; exact ih
      · rw [if_neg (by omega)] at ih; exact ih
      · rw [if_pos (by omega)] at ih; exact ih
  exact key (D 0 3).toNat 0 (by omega)
def f_count (D : AM) (x : Int) : Int := if x = 0 then D 0 0 else if x = 1 then D 0 1 else if x = 2 then D 0 3 else if x = 3 then D 0 7 else if x = 4 then nvd D (D 0 0) (D 0 7).toNat else if x = 5 then D 0 18 else if x = 6 then D 0 69 else if x = 7 then D 0 78 else if x = 8 then lvN (story D (D 0 0) (D 0 0)) 0 (D 0 3).toNat else if x = 9 then lvN (story D (D 0 0) (D 0 0)) 2 (D 0 3).toNat else if x = 10 then D 0 29 else -100002
theorem c1_count {D M : AM} {x : Int} (hI : Inv D) (hB : B1 D M) (hC : StoC D M) : aCi s1_G 14 115 [aP 0, aI x] M (fun z M' => z = f_count D x ∧ fr wS M M' ∧ B1 D M' ∧ StoC D M') := by
  refine ⟨Nat.le_of_ble_eq_true rfl, fun d hd => ?_⟩
  refine s1_count_0 (by omega) ?_
  have hnow := Inv_now hI
  have hpn := Inv_pn hI
  rw [B1_now hB, B1_np hB, B1_nl hB, B1_pn hB, B1_cn hB, B1_sn hB, B1_qn hB, B1_rn hB]
  unfold f_count
  refine ⟨⟨fun e => ⟨_, rfl, ?_, fr_rf, hB, hC⟩, fun e => ⟨_, rfl, ?_, fr_rf, hB, hC⟩, fun e => ⟨_, rfl, ?_, fr_rf, hB, hC⟩, fun e => ⟨_, rfl, ?_, fr_rf, hB, hC⟩, fun e => ?_, fun e => ⟨_, rfl, ?_, fr_rf, hB, hC⟩, fun e => ⟨_, rfl, ?_, fr_rf, hB, hC⟩, fun e => ⟨_, rfl, ?_, fr_rf, hB, hC⟩, fun e => ?_, fun e => ?_, fun e => ⟨_, rfl, ?_, fr_rf, hB, hC⟩, trivial⟩, fun e => ⟨_, rfl, ?_, fr_rf, hB, hC⟩⟩
  · (repeat (first | rw [if_pos (by omega)] | rw [if_neg (by omega)]))
  · (repeat (first | rw [if_pos (by omega)] | rw [if_neg (by omega)]))
  · (repeat (first | rw [if_pos (by omega)] | rw [if_neg (by omega)]))
  · (repeat (first | rw [if_pos (by omega)] | rw [if_neg (by omega)]))
  · refine aKv_of (s1_Papers_open hI hB hnow.1) (by omega) (fun M1 q => ?_)
    obtain ⟨q1, q2, q3⟩ := q
    obtain ⟨-, hb, -⟩ := B1_page q2 q3 hnow.1
    have hnv := nvd_bk (D := D) (w := D 0 0) (D 0 7).toNat (fun i hi => Inv_hT hI i (by omega) (by omega))
    have hl : ((bk D (D 0 0)).length : Int) = (bkN D (D 0 0) (D 0 7).toNat).length := rfl
    rw [B1_pn q2, hb.1, x_sub (by omega)]
    refine ⟨_, rfl, ?_, fr_mo q1 rfl, q2, StoC_fw hC q1 rfl⟩
    (repeat (first | rw [if_pos (by omega)] | rw [if_neg (by omega)]))
    omega
  · (repeat (first | rw [if_pos (by omega)] | rw [if_neg (by omega)]))
  · (repeat (first | rw [if_pos (by omega)] | rw [if_neg (by omega)]))
  · (repeat (first | rw [if_pos (by omega)] | rw [if_neg (by omega)]))
  · refine k1_st (by omega) hI hB hC hnow.1 (fun M1 f1 hT e1 e2 => ?_)
    refine aKi_of (s1_Story_livingsThatAre hI (SI_story hI) hT) (by omega) (fun z M2 q => ?_)
    obtain ⟨q1, rfl⟩ := q
    rw [q1]
    exact ⟨_, rfl, by (repeat (first | rw [if_pos (by omega)] | rw [if_neg (by omega)])), f1, hT.1, sto_keep hT e1 e2 fr_rf⟩
  · refine k1_st (by omega) hI hB hC hnow.1 (fun M1 f1 hT e1 e2 => ?_)
    refine aKi_of (s1_Story_livingsThatAre hI (SI_story hI) hT) (by omega) (fun z M2 q => ?_)
    obtain ⟨q1, rfl⟩ := q
    rw [q1]
    exact ⟨_, rfl, by (repeat (first | rw [if_pos (by omega)] | rw [if_neg (by omega)])), f1, hT.1, sto_keep hT e1 e2 fr_rf⟩
  · (repeat (first | rw [if_pos (by omega)] | rw [if_neg (by omega)]))
  · (repeat (first | rw [if_pos (by omega)] | rw [if_neg (by omega)]))
theorem c2_count {M : AM} {x : Int} (hI : Inv M) : aCi s2_G 14 82 [aP 0, aI x] M (fun z M' => z = f_count M x ∧ fr wU2 M M') := by
  refine ⟨Nat.le_of_ble_eq_true rfl, fun d hd => ?_⟩
  refine s2_count_0 (by omega) ?_
  unfold f_count
  refine ⟨⟨fun e => ⟨_, rfl, ?_, fr_rf⟩, fun e => ⟨_, rfl, ?_, fr_rf⟩, fun e => ⟨_, rfl, ?_, fr_rf⟩, fun e => ⟨_, rfl, ?_, fr_rf⟩, fun e => ?_, fun e => ⟨_, rfl, ?_, fr_rf⟩, fun e => ⟨_, rfl, ?_, fr_rf⟩, fun e => ⟨_, rfl, ?_, fr_rf⟩, fun e => ?_, fun e => ?_, fun e => ⟨_, rfl, ?_, fr_rf⟩, trivial⟩, fun e => ⟨_, rfl, ?_, fr_rf⟩⟩
  · (repeat (first | rw [if_pos (by omega)] | rw [if_neg (by omega)]))
  · (repeat (first | rw [if_pos (by omega)] | rw [if_neg (by omega)]))
  · (repeat (first | rw [if_pos (by omega)] | rw [if_neg (by omega)]))
  · (repeat (first | rw [if_pos (by omega)] | rw [if_neg (by omega)]))
  · refine aKi_of (s2_findVoid (w := M 0 0) hI eqL_rf) (by omega) (fun z M1 q => ?_)
    obtain ⟨rfl, q2, -⟩ := q
    exact ⟨_, rfl, by (repeat (first | rw [if_pos (by omega)] | rw [if_neg (by omega)])), fr_mo q2 rfl⟩
  · (repeat (first | rw [if_pos (by omega)] | rw [if_neg (by omega)]))
  · (repeat (first | rw [if_pos (by omega)] | rw [if_neg (by omega)]))
  · (repeat (first | rw [if_pos (by omega)] | rw [if_neg (by omega)]))
  · refine aKi_of (s2_livingsToday hI eqL_rf (Or.inl rfl)) (by omega) (fun z M1 q => ?_)
    obtain ⟨q1, rfl⟩ := q
    exact ⟨_, rfl, by ((repeat (first | rw [if_pos (by omega)] | rw [if_neg (by omega)])); rfl), q1⟩
  · refine aKi_of (s2_livingsToday hI eqL_rf (Or.inr rfl)) (by omega) (fun z M1 q => ?_)
    obtain ⟨q1, rfl⟩ := q
    exact ⟨_, rfl, by ((repeat (first | rw [if_pos (by omega)] | rw [if_neg (by omega)])); rfl), q1⟩
  · (repeat (first | rw [if_pos (by omega)] | rw [if_neg (by omega)]))
  · (repeat (first | rw [if_pos (by omega)] | rw [if_neg (by omega)]))
-- barred
def f_barred (D : AM) (p l t w : Int) : Int := if ¬ (0 ≤ p ∧ p < D 0 1) ∨ ¬ (0 ≤ l ∧ l < D 0 3) then -100001 else if ¬ (0 ≤ t ∧ t ≤ 30000) ∨ ¬ (0 ≤ w ∧ w ≤ D 0 0) then -100002 else barS D (bk D w) (story D w t) p l t
theorem c1_barred {D M : AM} {p l t w : Int} (hI : Inv D) (hB : B1 D M) (hC : StoC D M) : aCi s1_G 14 121 [aP 0, aI p, aI l, aI t, aI w] M (fun z M' => z = f_barred D p l t w ∧ fr wS M M' ∧ B1 D M' ∧ StoC D M') := by
  refine ⟨Nat.le_of_ble_eq_true rfl, fun d hd => ?_⟩
  refine s1_barred_0 (by omega) ?_
  have hnp := Inv_np hI
  have hnl := Inv_nl hI
  simp only [a_bl_n, a_bl_z, B1_now hB, B1_np hB, B1_nl hB]
  rw [x_sub (by omega), x_sub (by omega)]
  unfold f_barred
  refine ⟨fun hp => ⟨_, rfl, ?_, fr_rf, hB, hC⟩, fun hp => ⟨fun hl => ⟨fun ht => ⟨_, rfl, ?_, fr_rf, hB, hC⟩, fun ht => ⟨fun hw => ?_, fun hw => ⟨_, rfl, ?_, fr_rf, hB, hC⟩⟩⟩, fun hl => ⟨_, rfl, ?_, fr_rf, hB, hC⟩⟩⟩
  · (repeat (first | rw [if_pos (by omega)] | rw [if_neg (by omega)]))
  · (repeat (first | rw [if_pos (by omega)] | rw [if_neg (by omega)]))
  · refine k1_st (by omega) hI hB hC hw.1 (fun M1 f1 hT e1 e2 => ?_)
    refine aKi_of (s1_Story_barOf hI (SI_story hI) hw.1 hT (by omega) (by omega) ht) (by omega) (fun z M2 q => ?_)
    obtain ⟨q1, q2, rfl⟩ := q
    exact ⟨_, rfl, by (repeat (first | rw [if_pos (by omega)] | rw [if_neg (by omega)])), fr_tr f1 (fr_mo q1 rfl), q2, sto_keep hT e1 e2 q1⟩
  · (repeat (first | rw [if_pos (by omega)] | rw [if_neg (by omega)]))
  · (repeat (first | rw [if_pos (by omega)] | rw [if_neg (by omega)]))
theorem c2_barred {M : AM} {p l t w : Int} (hI : Inv M) : aCi s2_G 14 71 [aP 0, aI p, aI l, aI t, aI w] M (fun z M' => z = f_barred M p l t w ∧ fr wU2 M M') := by
  refine ⟨Nat.le_of_ble_eq_true rfl, fun d hd => ?_⟩
  refine s2_barred_0 (by omega) ?_
  have hnp := Inv_np hI
  have hnl := Inv_nl hI
  simp only [a_bl_n, a_bl_z]
  rw [x_sub (by omega), x_sub (by omega)]
  unfold f_barred
  refine ⟨fun hp => ⟨_, rfl, ?_, fr_rf⟩, fun hp => ⟨fun hl => ⟨fun ht => ⟨_, rfl, ?_, fr_rf⟩, fun ht => ⟨fun hw => ?_, fun hw => ⟨_, rfl, ?_, fr_rf⟩⟩⟩, fun hl => ⟨_, rfl, ?_, fr_rf⟩⟩⟩
  · (repeat (first | rw [if_pos (by omega)] | rw [if_neg (by omega)]))
  · (repeat (first | rw [if_pos (by omega)] | rw [if_neg (by omega)]))
  · refine k2_st (by omega) hI eqL_rf hw.1 (fun M1 ph f1 hT => ?_)
    refine aKi_of (s2_barFor hI (SI_story hI) hT (by omega) ht) (by omega) (fun z M2 q => ?_)
    obtain ⟨q1, rfl⟩ := q
    exact ⟨_, rfl, by (repeat (first | rw [if_pos (by omega)] | rw [if_neg (by omega)])), fr_tr f1 (fr_mo q1 rfl)⟩
  · (repeat (first | rw [if_pos (by omega)] | rw [if_neg (by omega)]))
  · (repeat (first | rw [if_pos (by omega)] | rw [if_neg (by omega)]))
-- seat
def seatS (D : AM) (B : List Int) (s : Sg) (l t x : Int) : Int := if x = 0 then (s.h l).length else if x = 1 then fhS s l else if x = 2 then lowS s l else if x = 3 then s.ef l else if x = 4 then s.eb l else if x = 5 then mayS D B s l t else if x = 6 then turnS s l else unuS D s.so l
def f_seat (D : AM) (l t w x : Int) : Int := if ¬ (0 ≤ l ∧ l < D 0 3) then -100001 else if ¬ ((0 ≤ t ∧ t ≤ 30000) ∧ (0 ≤ w ∧ w ≤ D 0 0) ∧ 0 ≤ x ∧ x ≤ 7) then -100002 else seatS D (bk D w) (story D w t) l t x
theorem c1_seat {D M : AM} {l t w x : Int} (hI : Inv D) (hB : B1 D M) (hC : StoC D M) : aCi s1_G 14 122 [aP 0, aI l, aI t, aI w, aI x] M (fun z M' => z = f_seat D l t w x ∧ fr wS M M' ∧ B1 D M' ∧ StoC D M') := by
  refine ⟨Nat.le_of_ble_eq_true rfl, fun d hd => ?_⟩
  refine s1_seat_0 (by omega) ?_
  have hnp := Inv_np hI
  have hnl := Inv_nl hI
  simp only [a_bl_n, a_bl_z, B1_now hB, B1_nl hB]
  rw [x_sub (by omega)]
  unfold f_seat
  refine ⟨fun hl => ⟨fun ht => ⟨_, rfl, ?_, fr_rf, hB, hC⟩, fun ht => ⟨fun hw => ⟨_, rfl, ?_, fr_rf, hB, hC⟩, fun hw => ⟨fun hx => ?_, fun hx => ⟨_, rfl, ?_, fr_rf, hB, hC⟩⟩⟩⟩, fun hl => ⟨_, rfl, ?_, fr_rf, hB, hC⟩⟩
  · (repeat (first | rw [if_pos (by omega)] | rw [if_neg (by omega)]))
  · (repeat (first | rw [if_pos (by omega)] | rw [if_neg (by omega)]))
  · rw [if_neg (by omega), if_neg (by omega)]
    unfold seatS
    have hS := SI_story (w := w) (u := t) hI
    refine k1_st (by omega) hI hB hC hw.1 (fun M1 f1 hT e1 e2 => ?_)
    obtain ⟨hB1, hw1, hQ⟩ := id hT
    have hlz := Q1_h hQ l (by omega) (by omega)
    have ok := sto_keep hT e1 e2 (fr_rf (W := wQ) (M := M1))
    refine ⟨⟨fun e => ?_, fun e => ?_, fun e => ⟨by omega, _, rfl, ?_, f1, hB1, ok⟩, fun e => ⟨by omega, _, rfl, ?_, f1, hB1, ok⟩, fun e => ⟨by omega, _, rfl, ?_, f1, hB1, ok⟩, fun e => ?_, fun e => ?_, trivial⟩, fun e => ?_⟩
    · refine aKi_of (s1_Story_holderCount (L := (story D w t).h l) hlz (by omega) (SI_hn hS l) (fun e he => by have := (SI_hp hS l e.1 e.2 he).2.1; omega)) (by omega) (fun z M2 q => ?_)
      obtain ⟨q1, rfl⟩ := q
      rw [q1]
      exact ⟨_, rfl, by (repeat (first | rw [if_pos (by omega)] | rw [if_neg (by omega)])), f1, hB1, ok⟩
    · refine aKi_of (s1_Story_firstHolder hI hS hT (by omega)) (by omega) (fun z M2 q => ?_)
      obtain ⟨q1, rfl⟩ := q
      rw [q1]
      exact ⟨_, rfl, by (repeat (first | rw [if_pos (by omega)] | rw [if_neg (by omega)])), f1, hB1, ok⟩
    · (repeat (first | rw [if_pos (by omega)] | rw [if_neg (by omega)]))
      exact low_1 hlz
    · (repeat (first | rw [if_pos (by omega)] | rw [if_neg (by omega)]))
      exact Q1_ef hQ l (by omega) (by omega)
    · (repeat (first | rw [if_pos (by omega)] | rw [if_neg (by omega)]))
      exact Q1_eb hQ l (by omega) (by omega)
    · refine aKi_of (s1_Story_presenter (day := t) hI hS (Int.le_refl _) hw.1 hT (by omega) ht) (by omega) (fun z M2 q => ?_)
      obtain ⟨q1, q2, rfl⟩ := q
      exact ⟨_, rfl, by (repeat (first | rw [if_pos (by omega)] | rw [if_neg (by omega)])), fr_tr f1 (fr_mo q1 rfl), q2, sto_keep hT e1 e2 (fr_mo q1 rfl)⟩
    · refine aKi_of (s1_Rights_turnOf (l := l) hQ (by omega)) (by omega) (fun z M2 q => ?_)
      obtain ⟨q1, rfl⟩ := q
      rw [q1]
      exact ⟨_, rfl, by (repeat (first | rw [if_pos (by omega)] | rw [if_neg (by omega)])), f1, hB1, ok⟩
    · refine aKi_of (s1_Rights_soldLeft (l := l) hI hS (Int.le_refl _) hT) (by omega) (fun z M2 q => ?_)
      obtain ⟨q1, rfl⟩ := q
      rw [q1]
      exact ⟨_, rfl, by (repeat (first | rw [if_pos (by omega)] | rw [if_neg (by omega)])), f1, hB1, ok⟩
  · (repeat (first | rw [if_pos (by omega)] | rw [if_neg (by omega)]))
  · (repeat (first | rw [if_pos (by omega)] | rw [if_neg (by omega)]))
theorem c2_seat {M : AM} {l t w x : Int} (hI : Inv M) : aCi s2_G 14 74 [aP 0, aI l, aI t, aI w, aI x] M (fun z M' => z = f_seat M l t w x ∧ fr wU2 M M') := by
  refine ⟨Nat.le_of_ble_eq_true rfl, fun d hd => ?_⟩
  refine s2_seat_0 (by omega) ?_
  have hnp := Inv_np hI
  have hnl := Inv_nl hI
  simp only [a_bl_n, a_bl_z, Decidable.not_not]
  rw [x_sub (by omega)]
  unfold f_seat
  refine ⟨fun hl => ⟨fun ht => ⟨_, rfl, ?_, fr_rf⟩, fun ht => ⟨fun hw => ⟨_, rfl, ?_, fr_rf⟩, fun hw => ⟨fun hx => ?_, fun hx => ⟨_, rfl, ?_, fr_rf⟩⟩⟩⟩, fun hl => ⟨_, rfl, ?_, fr_rf⟩⟩
  · (repeat (first | rw [if_pos (by omega)] | rw [if_neg (by omega)]))
  · (repeat (first | rw [if_pos (by omega)] | rw [if_neg (by omega)]))
  · rw [if_neg (by omega), if_neg (by omega)]
    unfold seatS
    have hS := SI_story (w := w) (u := t) hI
    refine k2_st (by omega) hI eqL_rf hw.1 (fun M1 ph f1 hT => ?_)
    obtain ⟨hL, hb, hQ⟩ := id hT
    have hlen := Q2_hn hQ l (by omega) (by omega)
    refine ⟨⟨fun e => ⟨by omega, _, rfl, ?_, f1⟩, fun e => ⟨by omega, fun h => ?_, fun h => ⟨_, rfl, ?_, f1⟩⟩, fun e => ?_, fun e => ⟨by omega, _, rfl, ?_, f1⟩, fun e => ⟨by omega, _, rfl, ?_, f1⟩, fun e => ?_, fun e => ?_, trivial⟩, fun e => ?_⟩
    · (repeat (first | rw [if_pos (by omega)] | rw [if_neg (by omega)]))
      exact hlen
    · rw [x_mul (by omega)]
      have h0 := Q2_hp hQ l (by omega) (by omega) 0
      refine ⟨by omega, _, rfl, ?_, f1⟩
      (repeat (first | rw [if_pos (by omega)] | rw [if_neg (by omega)]))
      unfold fhS
      revert h0 hlen
      cases (story M w t).h l with
      | nil => intro h1 _; exact absurd h1 h
      | cons x r =>
        intro _ h0
        have := (h0 (by simp)).1
        rw [show 40 * l + ((0 : Nat) : Int) = 40 * l by omega] at this
        exact this
    · (repeat (first | rw [if_pos (by omega)] | rw [if_neg (by omega)]))
      have : (story M w t).h l = [] := h_emp.mpr (by omega)
      unfold fhS
      rw [this]
    · refine aKi_of (s2_setOf (l := l) hI hS hQ (by omega)) (by omega) (fun z M2 q => ?_)
      obtain ⟨q1, rfl⟩ := q
      rw [q1]
      exact ⟨_, rfl, by (repeat (first | rw [if_pos (by omega)] | rw [if_neg (by omega)])), f1⟩
    · (repeat (first | rw [if_pos (by omega)] | rw [if_neg (by omega)]))
      exact Q2_ef hQ l (by omega) (by omega)
    · (repeat (first | rw [if_pos (by omega)] | rw [if_neg (by omega)]))
      exact Q2_eb hQ l (by omega) (by omega)
    · refine aKi_of (s2_whoMay (day := t) hI hS (Int.le_refl _) hT (by omega) ht) (by omega) (fun z M2 q => ?_)
      obtain ⟨q1, rfl⟩ := q
      exact ⟨_, rfl, by (repeat (first | rw [if_pos (by omega)] | rw [if_neg (by omega)])), fr_tr f1 (fr_mo q1 rfl)⟩
    · refine aKi_of (s2_turnOf (l := l) hI hQ (by omega)) (by omega) (fun z M2 q => ?_)
      obtain ⟨q1, rfl⟩ := q
      rw [q1]
      exact ⟨_, rfl, by (repeat (first | rw [if_pos (by omega)] | rw [if_neg (by omega)])), f1⟩
    · refine aKi_of (s2_unused (l := l) hS (Int.le_refl _) hQ) (by omega) (fun z M2 q => ?_)
      obtain ⟨q1, rfl⟩ := q
      rw [q1]
      exact ⟨_, rfl, by (repeat (first | rw [if_pos (by omega)] | rw [if_neg (by omega)])), f1⟩
  · (repeat (first | rw [if_pos (by omega)] | rw [if_neg (by omega)]))
  · (repeat (first | rw [if_pos (by omega)] | rw [if_neg (by omega)]))
