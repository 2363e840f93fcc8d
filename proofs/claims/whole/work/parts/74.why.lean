/-! CALLS ON THE STORY: why, good, change -/
theorem fallS_rs {D : AM} {s : Sg} {l n why : Int} : (fallS D s l n why).rs = s.rs := by unfold fallS; split <;> rfl
theorem fallN_rs {D : AM} {a b n why : Int} {s : Sg} : ∀ m : Nat, (fallN D a b n why m s).rs = s.rs
  | 0 => rfl
  | m + 1 => by
    unfold fallN
    split
    · exact fallN_rs m
    · rw [fallS_rs]; exact fallN_rs m
theorem useS_rs {D : AM} {s : Sg} {l : Int} : (useS D s l).rs = s.rs := by unfold useS; split <;> rfl
theorem entS_rs {D : AM} {s : Sg} {n i : Int} : (entS D s n i).rs = s.rs := by unfold entS; split <;> rfl
theorem tinS_rs {D : AM} {B : List Int} {s : Sg} {n i : Int} : (tinS D B s n i).rs = up1 s.rs n (whyS D B s n) := by
  unfold tinS
  rw [fallN_rs, entS_rs]
  cases usesB D B s n
  · rfl
  · exact useS_rs
theorem stp_rs {D : AM} {B : List Int} {s : Sg} {n i : Int} : (stpS D B s n i).rs = if D 5 n = 3 then up1 s.rs n (whyS D B s n) else s.rs := by
  unfold stpS
  split
  · exact tinS_rs
  · split
    · exact fallS_rs
    · split
      · exact fallN_rs _
      · split
        · rfl
        · split
          · rfl
          · split <;> rfl
theorem whyS_nn {D : AM} {B : List Int} {s : Sg} {n : Int} : 0 ≤ whyS D B s n ∧ whyS D B s n ≤ 15 := by
  unfold whyS
  have b1 := bI_rg (hadB D B 1 (D 9 n) (D 6 n))
  split <;> split <;> split <;> omega
theorem run_rs0 {D : AM} {B : List Int} {u n : Int} : ∀ (suf : List Int) (i : Int) (s : Sg), (∀ m ∈ suf, ¬ (m = n ∧ D 5 m = 3)) → (runS D B u suf i s).rs n = s.rs n
  | [], _, _, _ => rfl
  | m :: suf, i, s, h => by
    unfold runS
    split
    · rw [run_rs0 suf _ _ (fun x hx => h x (by simp [hx])), stp_rs]
      have := h m (by simp)
      split
      · rw [up1_n (fun q => this ⟨q.symm, by assumption⟩)]
      · rfl
    · rfl
theorem run_rs1 {D : AM} {B : List Int} {u n : Int} : ∀ (suf : List Int) (i : Int) (s : Sg), 0 ≤ s.rs n → 0 ≤ (runS D B u suf i s).rs n
  | [], _, _, h => h
  | m :: suf, i, s, h => by
    unfold runS
    split
    · refine run_rs1 suf _ _ ?_
      rw [stp_rs]
      split
      · unfold up1
        split
        · exact whyS_nn.1
        · exact h
      · exact h
    · exact h
theorem run_rs2 {D : AM} {B : List Int} {u n : Int} (h3 : D 5 n = 3) : ∀ (suf : List Int) (i : Int) (s : Sg), n ∈ suf → (∀ m ∈ suf, D 6 m ≤ u) → 0 ≤ (runS D B u suf i s).rs n
  | [], _, _, h, _ => by cases h
  | m :: suf, i, s, h, hu => by
    unfold runS
    rw [if_pos (hu m (by simp))]
    rcases List.mem_cons.mp h with rfl | h
    · refine run_rs1 suf _ _ ?_
      rw [stp_rs, if_pos h3, up1_s]
      exact whyS_nn.1
    · exact run_rs2 h3 suf _ _ h (fun x hx => hu x (by simp [hx]))
theorem bk_in {D : AM} {w i : Int} (hi : 0 ≤ i ∧ i < D 0 7) : i ∈ bk D w ↔ inB D w i = true := by
  unfold bk
  rw [List.mem_filter, srt_mem]
  exact ⟨fun h => h.2, fun h => ⟨by omega, h⟩⟩
theorem story_rs {D : AM} {w n : Int} (hI : Inv D) (hn : 0 ≤ n ∧ n < D 0 7) (h3 : D 5 n = 3) : (inB D w n = true → 0 ≤ (story D w 30000).rs n) ∧ (inB D w n = false → (story D w 30000).rs n = -1) := by
  constructor
  · intro h
    exact run_rs2 h3 _ _ _ ((bk_in hn).mpr h) (fun m _ => (Inv_pd hI m).2)
  · intro h
    refine (run_rs0 _ _ _ (fun m hm q => ?_)).trans rfl
    rw [q.1] at hm
    rw [(bk_in hn).mp hm] at h
    cases h
def f_why (D : AM) (n w : Int) : Int := if ¬ (0 ≤ n ∧ n < D 0 7) then -100001 else if ¬ (0 ≤ w ∧ w ≤ D 0 0) then -100002 else if D 5 n = 3 ∧ inB D w n = true then (story D w 30000).rs n else -100003
def f_good (D : AM) (n w : Int) : Int := if f_why D n w < 0 then f_why D n w else if f_why D n w = 0 then 1 else 0
theorem s1_refusalOfIn {D M : AM} {n w : Int} (hI : Inv D) (hB : B1 D M) : aCi s1_G 7 125 [aP 0, aI n, aI w] M (fun z M' => fr wO M M' ∧ B1 D M' ∧ ((z = 0 ∧ (0 ≤ n ∧ n < D 0 7) ∧ (0 ≤ w ∧ w ≤ D 0 0) ∧ D 5 n = 3 ∧ inB D w n = true) ∨ (z < 0 ∧ z = f_why D n w))) := by
  refine ⟨Nat.le_of_ble_eq_true rfl, fun d hd => ?_⟩
  refine s1_refusalOfIn_0 (by omega) ?_
  have hpn := Inv_pn hI
  simp only [a_bl_n, a_bl_z, B1_now hB, B1_pn hB]
  rw [x_sub (by omega)]
  refine ⟨fun hn => ⟨fun hw => ?_, fun hw => ⟨_, rfl, fr_rf, hB, Or.inr ⟨by decide, ?_⟩⟩⟩, fun hn => ⟨_, rfl, fr_rf, hB, Or.inr ⟨by decide, ?_⟩⟩⟩
  · refine aKv_of (s1_Papers_open hI hB hw.1) (by omega) (fun M1 q => ?_)
    obtain ⟨q1, q2, q3⟩ := q
    obtain ⟨hv, -, -⟩ := B1_page q2 q3 hw.1
    rw [B1_pk q2]
    refine ⟨by omega, fun h => ⟨_, rfl, q1, q2, Or.inr ⟨by decide, ?_⟩⟩, fun h => ?_⟩
    · unfold f_why
      rw [if_neg (by omega), if_neg (by omega), if_neg (fun q => h q.1)]
    · refine aKi_of (s1_Papers_isInBook (PB_of q2) q3 hv (i := n) (by omega) hpn.2) (by omega) (fun z M2 q => ?_)
      obtain ⟨e, rfl⟩ := q
      rw [e]
      refine ⟨fun g => ⟨_, rfl, q1, q2, Or.inr ⟨by decide, ?_⟩⟩, fun g => ⟨_, rfl, q1, q2, Or.inl ⟨rfl, by omega, hw, h, bI_ne.mp g⟩⟩⟩
      unfold f_why
      rw [if_neg (by omega), if_neg (by omega), if_neg (fun q => by rw [q.2] at g; exact absurd g (by decide))]
  · unfold f_why
    rw [if_neg (by omega), if_pos (by omega)]
  · unfold f_why
    rw [if_pos (by omega)]
theorem c1_why {D M : AM} {n w : Int} (hI : Inv D) (hB : B1 D M) (hC : StoC D M) : aCi s1_G 14 124 [aP 0, aI n, aI w] M (fun z M' => z = f_why D n w ∧ fr wS M M' ∧ B1 D M' ∧ StoC D M') := by
  refine ⟨Nat.le_of_ble_eq_true rfl, fun d hd => ?_⟩
  refine s1_why_0 (by omega) ?_
  have hpn := Inv_pn hI
  refine aKi_of (s1_refusalOfIn hI hB) (by omega) (fun z M1 q => ?_)
  obtain ⟨q1, q2, ⟨rfl, hn, hw, h3, hb⟩ | ⟨hz, rfl⟩⟩ := q
  · refine ⟨fun _ => ?_, fun h => absurd rfl h⟩
    refine k1_st (by omega) hI q2 (StoC_fw hC q1 rfl) hw.1 (fun M2 f2 hT e1 e2 => ?_)
    have hrs := (story_rs hI hn h3).1 hb
    refine ⟨by omega, _, rfl, ?_, fr_tr (fr_mo q1 rfl) f2, hT.1, sto_keep hT e1 e2 fr_rf⟩
    rw [Q1_rs hT.2.2 n (by omega)]
    unfold f_why
    rw [if_neg (by omega), if_neg (by omega), if_pos ⟨h3, hb⟩]
  · exact ⟨fun h => absurd h (by omega), fun _ => ⟨_, rfl, rfl, fr_mo q1 rfl, q2, StoC_fw hC q1 rfl⟩⟩
theorem c1_good {D M : AM} {n w : Int} (hI : Inv D) (hB : B1 D M) (hC : StoC D M) : aCi s1_G 14 123 [aP 0, aI n, aI w] M (fun z M' => z = f_good D n w ∧ fr wS M M' ∧ B1 D M' ∧ StoC D M') := by
  refine ⟨Nat.le_of_ble_eq_true rfl, fun d hd => ?_⟩
  refine s1_good_0 (by omega) ?_
  have hpn := Inv_pn hI
  refine aKi_of (s1_refusalOfIn hI hB) (by omega) (fun z M1 q => ?_)
  obtain ⟨q1, q2, ⟨rfl, hn, hw, h3, hb⟩ | ⟨hz, rfl⟩⟩ := q
  · refine ⟨fun _ => ?_, fun h => absurd rfl h⟩
    refine k1_st (by omega) hI q2 (StoC_fw hC q1 rfl) hw.1 (fun M2 f2 hT e1 e2 => ?_)
    have hrs := (story_rs hI hn h3).1 hb
    have ew : f_why D n w = (story D w 30000).rs n := by
      unfold f_why
      rw [if_neg (by omega), if_neg (by omega), if_pos ⟨h3, hb⟩]
    rw [Q1_rs hT.2.2 n (by omega)]
    unfold f_good
    rw [ew, if_neg (by omega)]
    refine ⟨by omega, fun h => ⟨_, rfl, ?_, fr_tr (fr_mo q1 rfl) f2, hT.1, sto_keep hT e1 e2 fr_rf⟩, fun h => ⟨_, rfl, ?_, fr_tr (fr_mo q1 rfl) f2, hT.1, sto_keep hT e1 e2 fr_rf⟩⟩
    · rw [if_neg h]; rfl
    · rw [if_pos h]; rfl
  · refine ⟨fun h => absurd h (by omega), fun _ => ⟨_, rfl, ?_, fr_mo q1 rfl, q2, StoC_fw hC q1 rfl⟩⟩
    unfold f_good
    rw [if_pos hz]
theorem s2_whyOf {M : AM} {n w : Int} (hI : Inv M) : aCi s2_G 14 75 [aP 0, aI n, aI w] M (fun z M' => z = f_why M n w ∧ fr wU2 M M') := by
  refine ⟨Nat.le_of_ble_eq_true rfl, fun d hd => ?_⟩
  refine s2_whyOf_0 (by omega) ?_
  have hpn := Inv_pn hI
  simp only [a_bl_n, a_bl_z]
  rw [x_sub (by omega)]
  unfold f_why
  refine ⟨fun hn => ⟨fun hw => ⟨by omega, fun h3 => ?_, fun h3 => ⟨_, rfl, ?_, fr_rf⟩⟩, fun hw => ⟨_, rfl, by (repeat (first | rw [if_pos (by omega)] | rw [if_neg (by omega)])), fr_rf⟩⟩, fun hn => ⟨_, rfl, by (repeat (first | rw [if_pos (by omega)] | rw [if_neg (by omega)])), fr_rf⟩⟩
  · refine k2_st (by omega) hI eqL_rf hw.1 (fun M1 ph f1 hT => ?_)
    have hrs := story_rs (w := w) (n := n) hI (by omega) h3
    rw [Q2_wy hT.2.2, if_neg (by omega), if_neg (by omega)]
    cases hb : inB M w n
    · have := hrs.2 hb
      exact ⟨fun h => absurd h (by omega), fun _ => ⟨_, rfl, by rw [if_neg (fun q => by cases q.2)], f1⟩⟩
    · have := hrs.1 hb
      exact ⟨fun _ => ⟨_, rfl, by rw [if_pos ⟨h3, rfl⟩], f1⟩, fun h => absurd h (by omega)⟩
  · rw [if_neg (by omega), if_neg (by omega), if_neg (fun q => h3 q.1)]
theorem c2_why {M : AM} {n w : Int} (hI : Inv M) : aCi s2_G 15 77 [aP 0, aI n, aI w] M (fun z M' => z = f_why M n w ∧ fr wU2 M M') := by
  refine ⟨Nat.le_of_ble_eq_true rfl, fun d hd => ?_⟩
  refine s2_why_0 (by omega) ?_
  refine aKi_of (s2_whyOf hI) (by omega) (fun z M1 q => ?_)
  exact ⟨_, rfl, q⟩
theorem c2_good {M : AM} {n w : Int} (hI : Inv M) : aCi s2_G 15 76 [aP 0, aI n, aI w] M (fun z M' => z = f_good M n w ∧ fr wU2 M M') := by
  refine ⟨Nat.le_of_ble_eq_true rfl, fun d hd => ?_⟩
  refine s2_good_0 (by omega) ?_
  refine aKi_of (s2_whyOf hI) (by omega) (fun z M1 q => ?_)
  obtain ⟨rfl, q⟩ := q
  unfold f_good
  refine ⟨fun h => ⟨fun g => ⟨_, rfl, ?_, q⟩, fun g => ⟨_, rfl, ?_, q⟩⟩, fun h => ⟨_, rfl, ?_, q⟩⟩
  · rw [if_neg (by omega), if_neg g]; rfl
  · rw [if_neg (by omega), if_pos g]; rfl
  · rw [if_pos h]
-- change
def chgS (D : AM) (F : List LE) (i x : Int) : Int := if i < 0 then -1 else match F[i.toNat]? with
  | some e => if x = 0 then D 6 e.2.2.2.1 else if x = 1 then e.2.2.2.2 else e.2.2.2.1
  | none => -1
def f_change (D : AM) (l w i x : Int) : Int := if ¬ (0 ≤ l ∧ l < D 0 3) then -100001 else if ¬ ((0 ≤ w ∧ w ≤ D 0 0) ∧ 0 ≤ x ∧ x ≤ 2) then -100002 else chgS D ((story D w 30000).lg.filter (isAt l)) i x
theorem SL_room {D : AM} {i : Int} {s : Sg} (h : SL D i s) (hi : i ≤ 150) : s.lg.length ≤ 300 := by
  have h1 := SL_bal h
  have h2 := SL_ent h
  have h3 := SL_len h
  omega
theorem s1_Changes_rowOf {D M : AM} {l i : Int} {s : Sg} (hL : SL D 150 s) (hQ : Q1 D s M) : aCi s1_G 4 16 [aP 62, aI l, aI i] M (fun z M' => M' = M ∧ ((∃ (k : Nat) (hk : k < s.lg.length), z = k ∧ 0 ≤ i ∧ (s.lg.filter (isAt l))[i.toNat]? = some s.lg[k]) ∨ (z = -1 ∧ (i < 0 ∨ (s.lg.filter (isAt l))[i.toNat]? = none)))) := by
  refine ⟨Nat.le_of_ble_eq_true rfl, fun d hd => ?_⟩
  refine s1_Changes_rowOf_0 (by omega) ?_
  have hln := SL_room hL (Int.le_refl _)
  have key : ∀ (suf pre : List LE), s.lg = pre ++ suf → (i < 0 ∨ ((pre.filter (isAt l)).length : Int) ≤ i) → aE s1_G d 16 5 [] [some (aP 62), some (aI l), some (aI i), some (aI (pre.filter (isAt l)).length), some (aI pre.length)] [] M (fun r M' => ∃ z, r = some (aI z) ∧ M' = M ∧ ((∃ (k : Nat) (hk : k < s.lg.length), z = k ∧ 0 ≤ i ∧ (s.lg.filter (isAt l))[i.toNat]? = some s.lg[k]) ∨ (z = -1 ∧ (i < 0 ∨ (s.lg.filter (isAt l))[i.toNat]? = none)))) := by
    intro suf
    induction suf with
    | nil =>
      intro pre e hi
      have hl2 : s.lg.length = pre.length := by rw [e]; simp
      rw [List.append_nil] at e
      refine s1_Changes_rowOf_5 (by omega) ?_
      rw [Q1_ln hQ]
      refine ⟨fun _ => ⟨_, rfl, rfl, Or.inr ⟨rfl, ?_⟩⟩, fun h => absurd h (by omega)⟩
      rcases hi with hi | hi
      · exact Or.inl hi
      · rw [e]
        exact Or.inr (List.getElem?_eq_none (by omega))
    | cons x suf ih =>
      intro pre e hi
      have hl2 : s.lg.length = pre.length + 1 + suf.length := by rw [e]; simp; omega
      have hk := Q1_lg hQ pre.length (by omega)
      have ex : s.lg[pre.length]'(by omega) = x := by simp [e]
      rw [ex] at hk
      have ih := ih (pre ++ [x]) (by rw [e]; simp)
      have hfl : (pre.filter (isAt l)).length ≤ pre.length := List.length_filter_le _ _
      refine s1_Changes_rowOf_5 (by omega) ?_
      rw [Q1_ln hQ, hk.1, x_add (a := (pre.length : Int)) (by omega), x_add (a := ((pre.filter (isAt l)).length : Int)) (by omega)]
      refine ⟨fun h => absurd h (by omega), fun _ => ⟨by omega, fun h => ?_, fun h => ⟨fun g => ?_, fun g => ?_⟩⟩⟩
      · have ef : (pre ++ [x]).filter (isAt l) = pre.filter (isAt l) := by
          rw [List.filter_append, List.filter_cons_of_neg (by unfold isAt; simpa using h), List.filter_nil, List.append_nil]
        rw [ef, List.length_append] at ih
        exact ih hi
      · have ef : (pre ++ [x]).filter (isAt l) = pre.filter (isAt l) ++ [x] := by
          rw [List.filter_append, List.filter_cons_of_pos (by unfold isAt; simpa using h), List.filter_nil]
        rw [ef, List.length_append, List.length_append] at ih
        exact ih (by simp; omega)
      · refine ⟨_, rfl, rfl, Or.inl ⟨pre.length, by omega, rfl, by omega, ?_⟩⟩
        have ef : s.lg.filter (isAt l) = pre.filter (isAt l) ++ x :: suf.filter (isAt l) := by
          rw [e, List.filter_append, List.filter_cons_of_pos (by unfold isAt; simpa using h)]
        rw [ef, ← g, show ((pre.filter (isAt l)).length : Int).toNat = (pre.filter (isAt l)).length by omega, ex]
        simp
  exact key s.lg [] rfl (by show i < 0 ∨ (0 : Int) ≤ i; omega)
theorem c1_change {D M : AM} {l w i x : Int} (hI : Inv D) (hB : B1 D M) (hC : StoC D M) : aCi s1_G 14 126 [aP 0, aI l, aI w, aI i, aI x] M (fun z M' => z = f_change D l w i x ∧ fr wS M M' ∧ B1 D M' ∧ StoC D M') := by
  refine ⟨Nat.le_of_ble_eq_true rfl, fun d hd => ?_⟩
  refine s1_change_0 (by omega) ?_
  have hnl := Inv_nl hI
  simp only [a_bl_n, a_bl_z, B1_now hB, B1_nl hB]
  rw [x_sub (by omega)]
  unfold f_change
  refine ⟨fun hl => ⟨fun hw => ⟨_, rfl, by (repeat (first | rw [if_pos (by omega)] | rw [if_neg (by omega)])), fr_rf, hB, hC⟩, fun hw => ⟨fun hx => ?_, fun hx => ⟨_, rfl, by (repeat (first | rw [if_pos (by omega)] | rw [if_neg (by omega)])), fr_rf, hB, hC⟩⟩⟩, fun hl => ⟨_, rfl, by (repeat (first | rw [if_pos (by omega)] | rw [if_neg (by omega)])), fr_rf, hB, hC⟩⟩
  rw [if_neg (by omega), if_neg (by omega)]
  have hL := SL_story (w := w) (u := 30000) hI
  refine k1_st (by omega) hI hB hC hw.1 (fun M1 f1 hT e1 e2 => ?_)
  have hln := SL_room hL (Int.le_refl _)
  have ok := sto_keep hT e1 e2 (fr_rf (W := wQ) (M := M1))
  refine aKi_of (s1_Changes_rowOf (l := l) (i := i) hL hT.2.2) (by omega) (fun z M2 q => ?_)
  obtain ⟨e, q⟩ := q
  rw [e]
  unfold chgS
  rcases q with ⟨k, hk, rfl, hi, q⟩ | ⟨rfl, q⟩
  · have hg := Q1_lg hT.2.2 k hk
    rw [hg.2.2.2.1, hg.2.2.2.2.1, hg.2.2.2.2.2, if_neg (by omega), q]
    dsimp only
    refine ⟨fun _ => ⟨fun h => ⟨by omega, _, rfl, by rw [if_pos h], f1, hT.1, ok⟩, fun h => ⟨fun g => ⟨by omega, _, rfl, by rw [if_neg h, if_pos g], f1, hT.1, ok⟩, fun g => ⟨by omega, _, rfl, by rw [if_neg h, if_neg g], f1, hT.1, ok⟩⟩⟩, fun h => absurd h (by omega)⟩
  · refine ⟨fun h => absurd rfl h, fun _ => ⟨_, rfl, ?_, f1, hT.1, ok⟩⟩
    rcases q with q | q
    · rw [if_pos q]
    · rw [q]; split <;> rfl
theorem c2_change {M : AM} {l w i x : Int} (hI : Inv M) : aCi s2_G 14 78 [aP 0, aI l, aI w, aI i, aI x] M (fun z M' => z = f_change M l w i x ∧ fr wU2 M M') := by
  refine ⟨Nat.le_of_ble_eq_true rfl, fun d hd => ?_⟩
  refine s2_change_0 (by omega) ?_
  have hnl := Inv_nl hI
  simp only [a_bl_n, a_bl_z, Decidable.not_not]
  rw [x_sub (by omega)]
  unfold f_change
  refine ⟨fun hl => ⟨fun hw => ⟨_, rfl, by (repeat (first | rw [if_pos (by omega)] | rw [if_neg (by omega)])), fr_rf⟩, fun hw => ⟨fun hx => ?_, fun hx => ⟨_, rfl, by (repeat (first | rw [if_pos (by omega)] | rw [if_neg (by omega)])), fr_rf⟩⟩⟩, fun hl => ⟨_, rfl, by (repeat (first | rw [if_pos (by omega)] | rw [if_neg (by omega)])), fr_rf⟩⟩
  rw [if_neg (by omega), if_neg (by omega)]
  have hL := SL_story (w := w) (u := 30000) hI
  refine k2_st (by omega) hI eqL_rf hw.1 (fun M1 ph f1 hT => ?_)
  have hln := SL_room hL (Int.le_refl _)
  have hQ := hT.2.2
  have hcn := Q2_cn hQ
  have hcl := SL_liv hL l
  rw [List.countP_eq_length_filter] at hcl
  rw [hcn, x_sub (by omega)]
  unfold chgS
  refine ⟨fun h => ?_, fun h => ⟨_, rfl, ?_, f1⟩⟩
  · have hi : i.toNat < ((story M w 30000).lg.filter (isAt l)).length := by omega
    have hg := Q2_cg hQ i.toNat hi
    rw [show ((i.toNat : Nat) : Int) = i by omega] at hg
    rw [hg.1, hg.2.1, hg.2.2, if_neg (by omega), List.getElem?_eq_getElem hi]
    dsimp only
    refine ⟨fun h => ⟨fun g => ⟨by omega, _, rfl, by rw [if_neg h, if_neg g], f1⟩, fun g => ⟨by omega, _, rfl, by rw [if_neg h, if_pos g], f1⟩⟩, fun h => ⟨by omega, _, rfl, by rw [if_pos h], f1⟩⟩
  · split
    · rfl
    · rw [List.getElem?_eq_none (by omega)]
