/-! the tables' facts, for any system, out of Booleans -/
def gk_q (kd : Nat → AK) (nc q : Nat) : Bool := match kd q with
  | .inl _ => true
  | .inr (.inl (t, n)) => Nat.ble t 3 && Nat.blt n 2147483648
  | .inr (.inr (.inl (n, len, base))) => (List.range n).all (fun r => Nat.blt (base + r) nc && decide (kd (base + r) = kW q r len))
  | .inr (.inr (.inr (.inl (k, r, len)))) => match kd k with
    | .inr (.inr (.inl (n, len', base))) => Nat.beq len' len && Nat.beq q (base + r) && Nat.blt r n
    | _ => false
  | .inr (.inr (.inr (.inr cs))) => cs.all ck_r32
def gk_c (kd : Nat → AK) (q : Nat) : Bool := match kd q with
  | .inr (.inr (.inr (.inr _))) => true
  | _ => false
theorem gk_ok {G : AG} {nc nk : Nat} (h1 : (List.range nk).all (gk_q G.1 nc) = true) (h2 : ((List.range (nk - nc)).map (fun k => k + nc)).all (gk_c G.1) = true) (h3 : ∀ q, nk ≤ q → G.1 q = kC []) (hn : nc ≤ nk) : aGW G nc := by
  have key : ∀ q, q < nk → gk_q G.1 nc q = true := fun q hq => List.all_eq_true.mp h1 q (List.mem_range.mpr hq)
  have sm : ∀ q, (∀ cs, G.1 q ≠ kC cs) → q < nk := fun q h => by
    rcases Nat.lt_or_ge q nk with a | a
    · exact a
    · exact absurd (h3 q a) (h [])
  refine ⟨fun q k r len e => ?_, fun k n len base e r hr => ?_, fun q hq => ?_, fun q cs e z hz => ?_, fun q t n e => ?_⟩
  · have a := key q (sm q (fun cs x => by rw [e] at x; cases x))
    unfold gk_q at a
    rw [e] at a
    dsimp only at a
    split at a
    next n len' base e2 =>
      rw [Bool.and_eq_true, Bool.and_eq_true] at a
      have b1 : len' = len := Nat.eq_of_beq_eq_true a.1.1
      subst b1
      exact ⟨n, base, e2, Nat.eq_of_beq_eq_true a.1.2, Nat.le_of_ble_eq_true a.2⟩
    next => cases a
  · have a := key k (sm k (fun cs x => by rw [e] at x; cases x))
    unfold gk_q at a
    rw [e] at a
    dsimp only at a
    have b := List.all_eq_true.mp a r (List.mem_range.mpr hr)
    rw [Bool.and_eq_true, decide_eq_true_eq] at b
    exact ⟨Nat.le_of_ble_eq_true b.1, b.2⟩
  · rcases Nat.lt_or_ge q nk with a | a
    · have b := List.all_eq_true.mp h2 q (List.mem_map.mpr ⟨q - nc, List.mem_range.mpr (by omega), by omega⟩)
      unfold gk_c at b
      split at b
      next cs e => exact ⟨cs, e⟩
      next => cases b
    · exact ⟨[], h3 q a⟩
  · rcases Nat.lt_or_ge q nk with a | a
    · have b := key q a
      unfold gk_q at b
      rw [e] at b
      exact ck_r32_ok (List.all_eq_true.mp b z hz)
    · rw [h3 q a] at e
      cases e
      cases hz
  · have a := key q (sm q (fun cs x => by rw [e] at x; cases x))
    unfold gk_q at a
    rw [e] at a
    dsimp only at a
    rw [Bool.and_eq_true] at a
    exact ⟨Nat.le_of_ble_eq_true a.1, Nat.le_of_ble_eq_true a.2⟩
def gk_f (kd : Nat → AK) (tf : Nat → u_T × Nat × (Nat → FieldType)) (q : Nat) : Bool := match kd q with
  | .inl (ci, fs) => Nat.blt ci 13 && Nat.beq fs.length (tf ci).2.1 && (List.range fs.length).all (fun k => match fs[k]? with
    | some 0 => decide ((tf ci).2.2 k = .int)
    | some 1 => decide ((tf ci).2.2 k = .boolean)
    | _ => true)
  | _ => true
theorem gk_f_ok {kd : Nat → AK} {tf : Nat → u_T × Nat × (Nat → FieldType)} {nk : Nat} (h1 : (List.range nk).all (gk_f kd tf) = true) (h3 : ∀ q, nk ≤ q → kd q = kC []) : ∀ q ci fs, kd q = kO ci fs → ci < 13 ∧ fs.length = (tf ci).2.1 ∧ ∀ k, (fs[k]? = some 0 → (tf ci).2.2 k = .int) ∧ (fs[k]? = some 1 → (tf ci).2.2 k = .boolean) := by
  intro q ci fs e
  have hq : q < nk := by
    rcases Nat.lt_or_ge q nk with a | a
    · exact a
    · rw [h3 q a] at e; cases e
  have a := List.all_eq_true.mp h1 q (List.mem_range.mpr hq)
  unfold gk_f at a
  rw [e] at a
  dsimp only at a
  rw [Bool.and_eq_true, Bool.and_eq_true] at a
  refine ⟨Nat.le_of_ble_eq_true a.1.1, Nat.eq_of_beq_eq_true a.1.2, fun k => ⟨fun hk => ?_, fun hk => ?_⟩⟩
  · have b := List.all_eq_true.mp a.2 k (List.mem_range.mpr (List.getElem?_eq_some_iff.mp hk).1)
    rw [hk] at b
    simpa using b
  · have b := List.all_eq_true.mp a.2 k (List.mem_range.mpr (List.getElem?_eq_some_iff.mp hk).1)
    rw [hk] at b
    simpa using b
def gk_m (G : AG) (cn : Nat → String) (yn : Nat → MethodName) (bc : Nat → ByteArray) (mi : Nat → Nat × Nat × Nat × Nat) (y : Nat) : Bool :=
  ck_w (mi y).2.1 (Cond.initialized (yn y).cls) && decide ((yn y).cls = aOw G cn y) && plainName (yn y).cls && !decide ((yn y).cls = "java/lang/invoke/MethodHandle") && !decide ((yn y).cls = "java/lang/invoke/VarHandle") && Nat.ble (aMx G y) 80 &&
  (match (G.2.1 y).2.2.2 with
  | 0 => ck_w (mi y).2.2.1 (Cond.static (yn y))
  | _ => Nat.blt (G.2.1 y).1 13 && ck_w (mi y).2.2.1 (Cond.instanceMethod (yn y)) && ck_w (mi y).2.2.2 (Cond.selects (aOw G cn y) (yn y) (yn y)))
theorem gk_m_ok {G : AG} {cn : Nat → String} {yn : Nat → MethodName} {bc : Nat → ByteArray} {mi : Nat → Nat × Nat × Nat × Nat} {nm : Nat} (h : (List.range nm).all (gk_m G cn yn bc mi) = true) (hc : ∀ y, y < nm → Cond.code (yn y) (bc y) (aMx G y) (aRty (G.2.1 y).2.2.1) ∈ aAW) : ∀ y, y < nm → Cond.code (yn y) (bc y) (aMx G y) (aRty (G.2.1 y).2.2.1) ∈ aAW ∧ Cond.initialized (yn y).cls ∈ aAW ∧ (yn y).cls = aOw G cn y ∧ plainName (yn y).cls = true ∧ ((yn y).cls ≠ "java/lang/invoke/MethodHandle" ∧ (yn y).cls ≠ "java/lang/invoke/VarHandle") ∧ aMx G y ≤ 80 ∧ ((G.2.1 y).2.2.2 = 1 → (G.2.1 y).1 < 13 ∧ Cond.instanceMethod (yn y) ∈ aAW ∧ Cond.selects (aOw G cn y) (yn y) (yn y) ∈ aAW) ∧ ((G.2.1 y).2.2.2 = 0 → Cond.static (yn y) ∈ aAW) := by
  intro y hy
  have a := List.all_eq_true.mp h y (List.mem_range.mpr hy)
  unfold gk_m at a
  simp only [Bool.and_eq_true, Bool.not_eq_true', decide_eq_true_eq, decide_eq_false_iff_not] at a
  obtain ⟨⟨⟨⟨⟨⟨a2, a3⟩, a4⟩, a5⟩, a6⟩, a7⟩, a8⟩ := a
  refine ⟨hc y hy, ck_w_ok a2, a3, a4, ⟨a5, a6⟩, Nat.le_of_ble_eq_true a7, fun e => ?_, fun e => ?_⟩
  · rw [e] at a8
    simp only [Bool.and_eq_true] at a8
    exact ⟨Nat.le_of_ble_eq_true a8.1.1, ck_w_ok a8.1.2, ck_w_ok a8.2⟩
  · rw [e] at a8
    exact ck_w_ok a8
def gk_c13 (ci : Nat) (c : String) (T : u_T) (N : Nat) (ty : Nat → FieldType) : Prop := wCl[ci]? = some (c, T, N) ∧ (∀ w ∈ u_ws c T N, w ∈ aAW) ∧ (∀ k, k < N → parseFieldDescriptor (T k).2.2.1 = some (ty k)) ∧ (∀ a, a < N → ∀ b, b < N → a ≠ b → (T a).2.1 ≠ (T b).2.1)
theorem gk_in0 : ∀ w ∈ wsX00, w ∈ lw_tbl := by decide +kernel
theorem gk_gd0 : wsX00.all goodWord = true := by decide +kernel
theorem gk_cl0 : gk_c13 0 RX0 TX0 14 tyX0 := ⟨rfl, fun w hw => List.mem_filter.mpr ⟨gk_in0 w hw, List.all_eq_true.mp gk_gd0 w hw⟩, tyX0_ok, nmX0⟩
theorem gk_in1 : ∀ w ∈ wsX10, w ∈ lw_tbl := by decide +kernel
theorem gk_gd1 : wsX10.all goodWord = true := by decide +kernel
theorem gk_cl1 : gk_c13 1 RX1 TX1 7 tyX1 := ⟨rfl, fun w hw => List.mem_filter.mpr ⟨gk_in1 w hw, List.all_eq_true.mp gk_gd1 w hw⟩, tyX1_ok, nmX1⟩
theorem gk_in2 : ∀ w ∈ wsX20, w ∈ lw_tbl := by decide +kernel
theorem gk_gd2 : wsX20.all goodWord = true := by decide +kernel
theorem gk_cl2 : gk_c13 2 RX2 TX2 12 tyX2 := ⟨rfl, fun w hw => List.mem_filter.mpr ⟨gk_in2 w hw, List.all_eq_true.mp gk_gd2 w hw⟩, tyX2_ok, nmX2⟩
theorem gk_in3 : ∀ w ∈ wsX30, w ∈ lw_tbl := by decide +kernel
theorem gk_gd3 : wsX30.all goodWord = true := by decide +kernel
theorem gk_cl3 : gk_c13 3 RX3 TX3 14 tyX3 := ⟨rfl, fun w hw => List.mem_filter.mpr ⟨gk_in3 w hw, List.all_eq_true.mp gk_gd3 w hw⟩, tyX3_ok, nmX3⟩
theorem gk_in4 : ∀ w ∈ wsX40, w ∈ lw_tbl := by decide +kernel
theorem gk_gd4 : wsX40.all goodWord = true := by decide +kernel
theorem gk_cl4 : gk_c13 4 RX4 TX4 6 tyX4 := ⟨rfl, fun w hw => List.mem_filter.mpr ⟨gk_in4 w hw, List.all_eq_true.mp gk_gd4 w hw⟩, tyX4_ok, nmX4⟩
theorem gk_in5 : ∀ w ∈ wsX50, w ∈ lw_tbl := by decide +kernel
theorem gk_gd5 : wsX50.all goodWord = true := by decide +kernel
theorem gk_cl5 : gk_c13 5 RX5 TX5 6 tyX5 := ⟨rfl, fun w hw => List.mem_filter.mpr ⟨gk_in5 w hw, List.all_eq_true.mp gk_gd5 w hw⟩, tyX5_ok, nmX5⟩
