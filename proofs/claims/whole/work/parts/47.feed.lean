/-! THE TEXT: feed -/
abbrev wdR : Nat → Int → Bool := wr [23] [(0, 29), (0, 32)]
abbrev wmR : Nat → Int → Bool := wr [36] [(35, 2), (35, 3)]
theorem B1_rdr {D D' M M' : AM} (hB : B1 D M) (gD : fr wdR D D') (gM : fr wmR M M') (hR : R1 D' M') : B1 D' M' := by
  refine ⟨?_, G1_fw (B1_G hB) gD gM rfl, P1_fw (B1_P hB) gD gM rfl, C1_fw (B1_C hB) gD gM rfl, hR, S1_fw (B1_S hB) gD gM rfl, F1_fw (B1_F hB) gD gM rfl, E1_fw (B1_E hB) gD gM rfl⟩
  rw [gD 0 0 rfl, gM 0 10 rfl]
  exact B1_now hB
theorem Inv_rdr {D D' : AM} (hI : Inv D) (gD : fr wdR D D') (hR : InvR D') : Inv D' := by
  refine ⟨?_, InvG_fw (Inv_G hI) gD rfl, InvP_fw (Inv_P hI) gD rfl, InvL_fw (Inv_L hI) gD rfl, InvC_fw (Inv_C hI) gD rfl, hR, InvS_fw (Inv_S hI) gD rfl, InvF_fw (Inv_F hI) gD rfl, InvE_fw (Inv_E hI) gD rfl⟩
  rw [gD 0 0 rfl]
  exact Inv_now hI
/-- the k-th byte of a long -/
def fbyte (x k : Int) : Int := a_l2i (a_land (a_lshr x (8 * k)) 255)
theorem and255 (b : Int32) : 0 ≤ (b &&& 255).toInt ∧ (b &&& 255).toInt ≤ 255 := by
  have h1 : (b &&& 255).toBitVec.toNat ≤ 255 := by
    rw [Int32.toBitVec_and, BitVec.toNat_and]
    exact Nat.and_le_right
  have h2 : (b &&& 255).toInt = ((b &&& 255).toBitVec.toNat : Int) := by
    show (b &&& 255).toBitVec.toInt = _
    rw [BitVec.toInt_eq_toNat_of_lt (by omega)]
  omega
theorem fb_mask (w : Nat) (i : Nat) (h8 : 8 ≤ w) : (BitVec.ofNat w 255).getLsbD i = decide (i < 8) := by
  rw [BitVec.getLsbD_ofNat, show (255 : Nat) = 2 ^ 8 - 1 from rfl, Nat.testBit_two_pow_sub_one]
  by_cases h : i < 8
  · simp [h]; omega
  · simp [h]
theorem fb_bits (X : BitVec 64) (k : Nat) (hk : k < 8) : ((X >>> (8 * k)).setWidth 32 &&& 255#32) = ((X.sshiftRight (8 * k)) &&& 255#64).setWidth 32 := by
  apply BitVec.eq_of_getLsbD_eq
  intro i hi
  rw [BitVec.getLsbD_and, BitVec.getLsbD_setWidth, BitVec.getLsbD_setWidth, BitVec.getLsbD_and, fb_mask 32 i (by omega), fb_mask 64 i (by omega), BitVec.getLsbD_ushiftRight, BitVec.getLsbD_sshiftRight]
  by_cases h : i < 8
  · have e1 : (8 * k + i < 64) := by omega
    simp [h, hi, e1, show ¬ (64 ≤ i) by omega]
  · simp [h]
theorem sh1 (k : Nat) (hk : k < 8) : ((Int32.ofInt (8 * (k : Int))).toInt64 &&& 63) = Int64.ofNat (8 * k) := by
  have key : ∀ m : Fin 8, ((Int32.ofInt (8 * (m.val : Int))).toInt64 &&& 63) = Int64.ofNat (8 * m.val) := by decide +kernel
  exact key ⟨k, hk⟩
theorem sh2 (k : Nat) (hk : k < 8) : ((Int32.ofInt (8 * (k : Int))).toInt64.toUInt64 &&& Int64.toUInt64 63) = UInt64.ofNat (8 * k) := by
  have key : ∀ m : Fin 8, ((Int32.ofInt (8 * (m.val : Int))).toInt64.toUInt64 &&& Int64.toUInt64 63) = UInt64.ofNat (8 * m.val) := by decide +kernel
  exact key ⟨k, hk⟩
theorem sh3 (k : Nat) (hk : k < 8) : ((Int64.ofNat (8 * k)).toBitVec.smod 64).toNat = 8 * k := by
  have key : ∀ m : Fin 8, ((Int64.ofNat (8 * m.val)).toBitVec.smod 64).toNat = 8 * m.val := by decide +kernel
  exact key ⟨k, hk⟩
theorem sh4 (k : Nat) (hk : k < 8) : ((UInt64.ofNat (8 * k)).toBitVec % 64).toNat = 8 * k := by
  have key : ∀ m : Fin 8, ((UInt64.ofNat (8 * m.val)).toBitVec % 64).toNat = 8 * m.val := by decide +kernel
  exact key ⟨k, hk⟩
theorem fbx (X : Int64) (k : Nat) (hk : k < 8) (hb : ((X.toBitVec >>> (8 * k)).setWidth 32 &&& 255#32) = ((X.toBitVec.sshiftRight (8 * k)) &&& 255#64).setWidth 32) : ((X.toUInt64 >>> ((Int32.ofInt (8 * (k : Int))).toInt64.toUInt64 &&& Int64.toUInt64 63)).toInt64.toInt32 &&&
        Int32.ofInt 255).toBitVec =
    (X >>> ((Int32.ofInt (8 * (k : Int))).toInt64 &&& 63) &&& Int64.ofInt 255).toInt32.toBitVec := by
  rw [sh1 k hk, sh2 k hk]
  have e1 : (X >>> Int64.ofNat (8 * k)).toBitVec = X.toBitVec.sshiftRight (8 * k) := by
    rw [← sh3 k hk]
    rw [sh3 k hk]
    show X.toBitVec.sshiftRight ((Int64.ofNat (8 * k)).toBitVec.smod 64).toNat = _
    rw [sh3 k hk]
  have e2 : (X.toUInt64 >>> UInt64.ofNat (8 * k)).toBitVec = X.toBitVec >>> (8 * k) := by
    show X.toBitVec >>> ((UInt64.ofNat (8 * k)).toBitVec % 64) = _
    rw [BitVec.ushiftRight_eq', sh4 k hk]
  show ((X.toUInt64 >>> UInt64.ofNat (8 * k)).toBitVec.signExtend 32 &&& 255#32) = ((X >>> Int64.ofNat (8 * k)).toBitVec &&& 255#64).signExtend 32
  rw [e1, e2, BitVec.signExtend_eq_setWidth_of_le _ (by decide), BitVec.signExtend_eq_setWidth_of_le _ (by decide)]
  exact hb
theorem fb_eq (x : Int) (k : Nat) (hk : k < 8) : a_and (a_l2i (a_lushr x (8 * k))) 255 = fbyte x k := by
  unfold fbyte a_and a_l2i a_lushr a_land a_lshr
  simp only [Int64.ofInt_toInt, Int32.ofInt_toInt]
  congr 1
  apply Int32.toBitVec_inj.mp
  exact fbx (Int64.ofInt x) k hk (fb_bits (Int64.ofInt x).toBitVec k hk)
theorem fbyte_rg (x : Int) (k : Nat) (hk : k < 8) : 0 ≤ fbyte x k ∧ fbyte x k ≤ 255 := by
  rw [← fb_eq x k hk]
  exact and255 _
theorem i2c_small {z : Int} (h : 0 ≤ z ∧ z ≤ 255) : a_i2c z = z := by
  obtain ⟨n, rfl⟩ := Int.eq_ofNat_of_zero_le h.1
  have hn : n < 256 := by omega
  have key : ∀ m : Fin 256, a_i2c (m.val : Int) = (m.val : Int) := by decide +kernel
  exact key ⟨n, hn⟩
def fdN (x : Int) : Nat → AM → AM
  | 0, D => D
  | k + 1, D => fdN x k (am_up (am_up D 23 (D 0 29) (fbyte x k)) 0 29 (D 0 29 + 1))
def fdM (x : Int) : Nat → AM → AM
  | 0, M => M
  | k + 1, M => fdM x k (am_up (am_up M 36 (M 35 2) (fbyte x k)) 35 2 (M 35 2 + 1))
def f_feed (D : AM) (n x : Int) : Int × AM :=
  if ¬ (1 ≤ n ∧ n ≤ 8) then (-100002, D) else if 200 < D 0 29 + n then (-100004, D) else (D 0 29 + n, fdN x n.toNat D)
def f1_feed (D M : AM) (n x : Int) : AM := if (1 ≤ n ∧ n ≤ 8) ∧ D 0 29 + n ≤ 200 then fdM x n.toNat M else M
theorem s1_Reader_append {M : AM} {z : Int} (h0 : 0 ≤ M 35 2) (h1 : M 35 2 < 200) (hz : 0 ≤ z ∧ z ≤ 255) : aCv s1_G 4 37 [aP 35, aI z] M (fun M' => M' = am_up (am_up M 36 (M 35 2) z) 35 2 (M 35 2 + 1)) := by
  refine ⟨Nat.le_of_ble_eq_true rfl, fun d hd => ?_⟩
  refine s1_Reader_append_0 (by omega) ?_
  simp (decide := true) only [x_uc, i2c_small hz]
  rw [x_add (by omega)]
  (repeat' (with_reducible first | refine And.intro ?_ ?_ | intro _))
  all_goals (try first | with_reducible rfl | with_reducible exact True.intro | with_reducible exact Or.inl True.intro | with_reducible exact Or.inr True.intro | omega | (exfalso; with_reducible assumption))
theorem s1_feed_loop {x : Int} {d : Nat} (hd : 8 ≤ d) : ∀ (k : Nat) (M : AM), k ≤ 8 → 0 ≤ M 35 2 → M 35 2 + k ≤ 200 → aE s1_G d 116 36 [] [some (aP 0), none, some (aL x), none, some (aI (k - 1))] [] M (fun r M' => ∃ z, r = some (aI z) ∧ z = M 35 2 + k ∧ M' = fdM x k M)
  | 0, M, hk, h0, h1 => by
    refine s1_feed_36 (by omega) ?_
    (repeat' (with_reducible first | refine And.intro ?_ ?_ | intro _))
    all_goals (try first | with_reducible rfl | with_reducible exact True.intro | with_reducible exact Or.inl True.intro | with_reducible exact Or.inr True.intro | omega | (exfalso; with_reducible assumption))
    exact ⟨_, rfl, by omega, rfl⟩
  | k + 1, M, hk, h0, h1 => by
    refine s1_feed_36 (by omega) ?_
    rw [x_mul (by omega), x_add (by omega), show ((k + 1 : Nat) : Int) - 1 = (k : Int) by omega, fb_eq x k (by omega)]
    (repeat' (with_reducible first | refine And.intro ?_ ?_ | intro _))
    all_goals (try first | with_reducible rfl | with_reducible exact True.intro | with_reducible exact Or.inl True.intro | with_reducible exact Or.inr True.intro | omega | (exfalso; with_reducible assumption))
    refine aKv_of (s1_Reader_append h0 (by omega) (fbyte_rg x k (by omega))) (by omega) (fun M' q => ?_)
    subst q
    have e : (am_up (am_up M 36 (M 35 2) (fbyte x k)) 35 2 (M 35 2 + 1)) 35 2 = M 35 2 + 1 := x_us
    have h := s1_feed_loop (x := x) hd k (am_up (am_up M 36 (M 35 2) (fbyte x k)) 35 2 (M 35 2 + 1)) (by omega) (by rw [e]; omega) (by rw [e]; omega)
    rw [e] at h
    refine aE_mono _ _ _ _ _ _ _ _ _ (fun r M' q => ?_) h
    obtain ⟨z, q1, q2, q3⟩ := q
    exact ⟨z, q1, by omega, q3⟩
theorem s2_feed_loop {x : Int} {d : Nat} (hd : 8 ≤ d) : ∀ (k : Nat) (M : AM), k ≤ 8 → 0 ≤ M 0 29 → M 0 29 + k ≤ 200 → aE s2_G d 27 35 [] [some (aP 0), none, some (aL x), none, some (aI (k - 1))] [] M (fun r M' => ∃ z, r = some (aI z) ∧ z = M 0 29 + k ∧ M' = fdN x k M)
  | 0, M, hk, h0, h1 => by
    refine s2_feed_35 (by omega) ?_
    (repeat' (with_reducible first | refine And.intro ?_ ?_ | intro _))
    all_goals (try first | with_reducible rfl | with_reducible exact True.intro | with_reducible exact Or.inl True.intro | with_reducible exact Or.inr True.intro | omega | (exfalso; with_reducible assumption))
    exact ⟨_, rfl, by omega, rfl⟩
  | k + 1, M, hk, h0, h1 => by
    refine s2_feed_35 (by omega) ?_
    rw [x_mul (by omega), x_add (a := ((k + 1 : Nat) : Int) - 1) (by omega), show ((k + 1 : Nat) : Int) - 1 = (k : Int) by omega]
    rw [show a_l2i (a_land (a_lshr x (8 * (k : Int))) 255) = fbyte x k from rfl]
    have e0 : (am_up M 23 (M 0 29) (fbyte x k)) 0 29 = M 0 29 := x_uc (by decide)
    rw [e0, x_add (by omega)]
    (repeat' (with_reducible first | refine And.intro ?_ ?_ | intro _))
    all_goals (try first | with_reducible rfl | with_reducible exact True.intro | with_reducible exact Or.inl True.intro | with_reducible exact Or.inr True.intro | omega | (exfalso; with_reducible assumption))
    have e : (am_up (am_up M 23 (M 0 29) (fbyte x k)) 0 29 (M 0 29 + 1)) 0 29 = M 0 29 + 1 := x_us
    have h := s2_feed_loop (x := x) hd k (am_up (am_up M 23 (M 0 29) (fbyte x k)) 0 29 (M 0 29 + 1)) (by omega) (by rw [e]; omega) (by rw [e]; omega)
    rw [e] at h
    refine aE_mono _ _ _ _ _ _ _ _ _ (fun r M' q => ?_) h
    obtain ⟨z, q1, q2, q3⟩ := q
    exact ⟨z, q1, by omega, q3⟩
theorem c1_feed {D M : AM} {n x : Int} (hI : Inv D) (hB : B1 D M) (hn : aR32 n) : aCi s1_G 8 116 [aP 0, aI n, aL x] M (fun z M' => z = (f_feed D n x).1 ∧ M' = f1_feed D M n x) := by
  refine ⟨Nat.le_of_ble_eq_true rfl, fun d hd => ?_⟩
  refine s1_feed_0 (by omega) ?_
  have h1 := Inv_rn hI
  simp only [a_bl_n, a_bl_z, B1_rn hB]
  by_cases hr : 1 ≤ n ∧ n ≤ 8
  · rw [x_add (by omega), x_sub (by omega)]
    unfold f_feed f1_feed
    (repeat' (with_reducible first | refine And.intro ?_ ?_ | intro _))
    all_goals (try first | with_reducible rfl | with_reducible exact True.intro | with_reducible exact Or.inl True.intro | with_reducible exact Or.inr True.intro | omega | (exfalso; with_reducible assumption))
    · have h := s1_feed_loop (x := x) hd n.toNat M (by omega) (by rw [B1_rn hB]; omega) (by rw [B1_rn hB]; omega)
      rw [B1_rn hB, show ((n.toNat : Nat) : Int) = n by omega] at h
      refine aE_mono _ _ _ _ _ _ _ _ _ (fun r M' q => ?_) h
      obtain ⟨z, q1, q2, q3⟩ := q
      refine ⟨z, q1, ?_⟩
      (repeat (first | rw [if_pos (by omega)] | rw [if_neg (by omega)]))
      exact ⟨q2, q3⟩
    · refine ⟨_, rfl, ?_⟩; (repeat (first | rw [if_pos (by omega)] | rw [if_neg (by omega)])); first | exact ⟨rfl, rfl⟩ | exact ⟨trivial, rfl⟩ | exact ⟨by omega, rfl⟩ | exact ⟨trivial, trivial⟩ | trivial
  · unfold f_feed f1_feed
    (repeat' (with_reducible first | refine And.intro ?_ ?_ | intro _))
    all_goals (try first | with_reducible rfl | with_reducible exact True.intro | with_reducible exact Or.inl True.intro | with_reducible exact Or.inr True.intro | omega | (exfalso; with_reducible assumption))
    refine ⟨_, rfl, ?_⟩; (repeat (first | rw [if_pos (by omega)] | rw [if_neg (by omega)])); first | exact ⟨rfl, rfl⟩ | exact ⟨trivial, rfl⟩ | exact ⟨by omega, rfl⟩ | exact ⟨trivial, trivial⟩ | trivial
theorem c2_feed {M : AM} {n x : Int} (hI : Inv M) (hn : aR32 n) : aCi s2_G 8 27 [aP 0, aI n, aL x] M (fun z M' => z = (f_feed M n x).1 ∧ M' = (f_feed M n x).2) := by
  refine ⟨Nat.le_of_ble_eq_true rfl, fun d hd => ?_⟩
  refine s2_feed_0 (by omega) ?_
  have h1 := Inv_rn hI
  simp only [a_bl_n, a_bl_z]
  by_cases hr : 1 ≤ n ∧ n ≤ 8
  · rw [x_add (by omega), x_sub (by omega)]
    unfold f_feed
    (repeat' (with_reducible first | refine And.intro ?_ ?_ | intro _))
    all_goals (try first | with_reducible rfl | with_reducible exact True.intro | with_reducible exact Or.inl True.intro | with_reducible exact Or.inr True.intro | omega | (exfalso; with_reducible assumption))
    · have h := s2_feed_loop (x := x) hd n.toNat M (by omega) (by omega) (by omega)
      rw [show ((n.toNat : Nat) : Int) = n by omega] at h
      refine aE_mono _ _ _ _ _ _ _ _ _ (fun r M' q => ?_) h
      obtain ⟨z, q1, q2, q3⟩ := q
      refine ⟨z, q1, ?_⟩
      (repeat (first | rw [if_pos (by omega)] | rw [if_neg (by omega)]))
      exact ⟨q2, q3⟩
    · refine ⟨_, rfl, ?_⟩; (repeat (first | rw [if_pos (by omega)] | rw [if_neg (by omega)])); first | exact ⟨rfl, rfl⟩ | exact ⟨trivial, rfl⟩ | exact ⟨by omega, rfl⟩ | exact ⟨trivial, trivial⟩ | trivial
  · unfold f_feed
    (repeat' (with_reducible first | refine And.intro ?_ ?_ | intro _))
    all_goals (try first | with_reducible rfl | with_reducible exact True.intro | with_reducible exact Or.inl True.intro | with_reducible exact Or.inr True.intro | omega | (exfalso; with_reducible assumption))
    refine ⟨_, rfl, ?_⟩; (repeat (first | rw [if_pos (by omega)] | rw [if_neg (by omega)])); first | exact ⟨rfl, rfl⟩ | exact ⟨trivial, rfl⟩ | exact ⟨by omega, rfl⟩ | exact ⟨trivial, trivial⟩ | trivial
theorem fdN_fr {x : Int} : ∀ (k : Nat) (D : AM), fr wdR D (fdN x k D)
  | 0, _ => fr_rf
  | k + 1, D => fr_tr (fr_up (fr_up fr_rf rfl) rfl) (fdN_fr k _)
theorem fdM_fr {x : Int} : ∀ (k : Nat) (M : AM), fr wmR M (fdM x k M)
  | 0, _ => fr_rf
  | k + 1, M => fr_tr (fr_up (fr_up fr_rf rfl) rfl) (fdM_fr k _)
theorem fd_B1 {x : Int} : ∀ (k : Nat) (D M : AM), B1 D M → B1 (fdN x k D) (fdM x k M)
  | 0, _, _, h => h
  | k + 1, D, M, h => by
    refine fd_B1 k _ _ (B1_rdr h (fr_up (fr_up fr_rf rfl) rfl) (fr_up (fr_up fr_rf rfl) rfl) ?_)
    unfold R1
    simp (decide := true) only [x_uc, x_us, x_uf, x_uk, x_uu, up1_s, up1_n, B1_rn h, B1_rb h, B1_rw h]
theorem fd_Inv {x : Int} : ∀ (k : Nat) (D : AM), k ≤ 8 → D 0 29 + k ≤ 200 → Inv D → Inv (fdN x k D)
  | 0, _, _, _, h => h
  | k + 1, D, hk, hn, h => by
    have h1 := Inv_rn h
    refine fd_Inv k _ (by omega) (by rw [x_us]; omega) (Inv_rdr h (fr_up (fr_up fr_rf rfl) rfl) ?_)
    unfold InvR
    simp (decide := true) only [x_uc, x_us, x_uf, x_uk, x_uu, up1_s, up1_n]
    exact ⟨by omega, up1_rg (Inv_rb h) (fbyte_rg x k (by omega)), Inv_rw h⟩
theorem f_feed_fr {D : AM} {n x : Int} : fr wdR D (f_feed D n x).2 := by
  unfold f_feed
  (repeat' split) <;> first | exact fr_rf | exact fdN_fr _ _
theorem f1_feed_fr {D M : AM} {n x : Int} : fr wmR M (f1_feed D M n x) := by
  unfold f1_feed
  split
  · exact fdM_fr _ _
  · exact fr_rf
theorem f_feed_B1 {D M : AM} {n x : Int} (hB : B1 D M) : B1 (f_feed D n x).2 (f1_feed D M n x) := by
  unfold f_feed f1_feed
  by_cases h : (1 ≤ n ∧ n ≤ 8) ∧ D 0 29 + n ≤ 200
  · (repeat (first | rw [if_pos (by omega)] | rw [if_neg (by omega)]))
    exact fd_B1 _ _ _ hB
  · rw [if_neg h]
    (repeat' split) <;> first | exact hB | (exfalso; omega)
theorem f_feed_Inv {D : AM} {n x : Int} (hI : Inv D) : Inv (f_feed D n x).2 := by
  unfold f_feed
  (repeat' split) <;> first | exact hI | exact fd_Inv _ _ (by omega) (by omega) hI
