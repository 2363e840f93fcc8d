/-! CALLS ON THE STORY: days -/
-- the log by days
def lgA (s t : Sg) (n : Int) : Prop := ∃ L : List LE, t.lg = s.lg ++ L ∧ ∀ e ∈ L, e.2.2.2.1 = n
theorem lgA_rf {s t : Sg} {n : Int} (h : t.lg = s.lg) : lgA s t n := ⟨[], by rw [h, List.append_nil], fun e he => by cases he⟩
theorem lgA_tr {s t v : Sg} {n : Int} (h : lgA s t n) (g : lgA t v n) : lgA s v n := by
  obtain ⟨L, e1, h1⟩ := h
  obtain ⟨L', e2, h2⟩ := g
  refine ⟨L ++ L', by rw [e2, e1, List.append_assoc], fun e he => ?_⟩
  rcases List.mem_append.mp he with he | he
  · exact h1 e he
  · exact h2 e he
theorem lgA_fall {D : AM} {s : Sg} {l n why : Int} : lgA s (fallS D s l n why) n := by
  unfold fallS
  split
  · exact ⟨_, rfl, fun e he => by simp at he; rw [he]⟩
  · exact lgA_rf rfl
theorem lgA_fallN {D : AM} {a b n why : Int} {s : Sg} : ∀ m : Nat, lgA s (fallN D a b n why m s) n
  | 0 => lgA_rf rfl
  | m + 1 => by
    unfold fallN
    split
    · exact lgA_fallN m
    · exact lgA_tr (lgA_fallN m) lgA_fall
theorem lgA_ent {D : AM} {s : Sg} {n i : Int} : lgA s (entS D s n i) n := by
  unfold entS
  split
  · exact lgA_rf rfl
  · exact ⟨_, rfl, fun e he => by simp at he; rw [he]⟩
theorem lgA_tin {D : AM} {B : List Int} {s : Sg} {n i : Int} : lgA s (tinS D B s n i) n := by
  unfold tinS
  have h0 : lgA s (cond (usesB D B s n) (useS D (rsS s n (whyS D B s n)) (D 8 n)) (rsS s n (whyS D B s n))) n := by
    cases usesB D B s n
    · exact lgA_rf rfl
    · exact lgA_rf (useS_lg (D := D) (s := rsS s n (whyS D B s n)) (l := D 8 n)).1
  dsimp only
  generalize cond (usesB D B s n) (useS D (rsS s n (whyS D B s n)) (D 8 n)) (rsS s n (whyS D B s n)) = t at h0 ⊢
  exact lgA_tr h0 (lgA_tr lgA_ent (lgA_fallN 12))
theorem lgA_stp {D : AM} {B : List Int} {s : Sg} {n i : Int} : lgA s (stpS D B s n i) n := by
  unfold stpS
  split
  · exact lgA_tin
  · split
    · exact lgA_fall
    · split
      · exact lgA_fallN 12
      · split
        · exact lgA_rf rfl
        · split
          · exact lgA_rf rfl
          · split <;> exact lgA_rf rfl
def LSo (D : AM) (L : List LE) : Prop := L.Pairwise (fun a b => D 6 a.2.2.2.1 ≤ D 6 b.2.2.2.1)
theorem run_lg {D : AM} {B : List Int} {u : Int} : ∀ (suf : List Int) (i : Int) (s : Sg), Srt (D 6) suf → LSo D s.lg → (∀ e ∈ s.lg, ∀ n ∈ suf, D 6 e.2.2.2.1 ≤ D 6 n) → LSo D (runS D B u suf i s).lg
  | [], _, _, _, h, _ => h
  | n :: suf, i, s, hs, h, hb => by
    have hp := List.pairwise_cons.mp hs
    unfold runS
    split
    · obtain ⟨L, e, hL⟩ := lgA_stp (D := D) (B := B) (s := s) (n := n) (i := i)
      refine run_lg suf _ _ hp.2 ?_ (fun x hx m hm => ?_)
      · rw [e]
        unfold LSo
        rw [List.pairwise_append]
        refine ⟨h, ?_, fun a ha b hb' => ?_⟩
        · have : ∀ (L : List LE), (∀ e ∈ L, e.2.2.2.1 = n) → L.Pairwise (fun a b => D 6 a.2.2.2.1 ≤ D 6 b.2.2.2.1) := by
            intro L
            induction L with
            | nil => exact fun _ => List.Pairwise.nil
            | cons x L ih =>
              intro h
              refine List.pairwise_cons.mpr ⟨fun y hy => ?_, ih (fun y hy => h y (by simp [hy]))⟩
              rw [h x (by simp), h y (by simp [hy])]
              exact Int.le_refl _
          exact this L hL
        · rw [hL b hb']
          exact hb a ha n (by simp)
      · rw [e] at hx
        rcases List.mem_append.mp hx with hx | hx
        · exact hb x hx m (by simp [hm])
        · rw [hL x hx]
          exact hp.1 m hm
    · exact h
theorem bk_sorted {D : AM} {w : Int} : Srt (D 6) (bk D w) := bkN_sorted (D := D) (w := w) (D 0 7).toNat
theorem story_lg {D : AM} {w u : Int} : LSo D (story D w u).lg := by
  show LSo D (runS D (bk D w) u (bk D w) 0 s0S).lg
  exact run_lg (bk D w) 0 s0S bk_sorted List.Pairwise.nil (fun e he => by cases he)
-- counting days
def cntD (P : Int → Bool) : Int → Nat → Nat
  | _, 0 => 0
  | lo, n + 1 => (if P lo then 1 else 0) + cntD P (lo + 1) n
def cI (P : Int → Bool) (lo hi : Int) : Nat := cntD P lo (hi + 1 - lo).toNat
theorem cntD_le (P : Int → Bool) : ∀ (n : Nat) (lo : Int), cntD P lo n ≤ n
  | 0, _ => Nat.le_refl _
  | n + 1, lo => by
    have := cntD_le P n (lo + 1)
    unfold cntD
    split <;> omega
theorem cntD_add (P : Int → Bool) : ∀ (m n : Nat) (lo : Int), cntD P lo (m + n) = cntD P lo m + cntD P (lo + m) n
  | 0, n, lo => by
    rw [Nat.zero_add]
    show _ = 0 + cntD P (lo + ((0 : Nat) : Int)) n
    rw [show lo + ((0 : Nat) : Int) = lo by omega, Nat.zero_add]
  | m + 1, n, lo => by
    have ih := cntD_add P m n (lo + 1)
    rw [show m + 1 + n = (m + n) + 1 by omega]
    show (if P lo then 1 else 0) + cntD P (lo + 1) (m + n) = (if P lo then 1 else 0) + cntD P (lo + 1) m + _
    rw [ih, show lo + 1 + (m : Int) = lo + ((m + 1 : Nat) : Int) by omega]
    omega
theorem cntD_cg {P Q : Int → Bool} : ∀ (n : Nat) (lo : Int), (∀ d, lo ≤ d → d < lo + n → P d = Q d) → cntD P lo n = cntD Q lo n
  | 0, _, _ => rfl
  | n + 1, lo, h => by
    unfold cntD
    rw [h lo (by omega) (by omega), cntD_cg n (lo + 1) (fun d h1 h2 => h d (by omega) (by omega))]
theorem cntD_const {P : Int → Bool} {v : Bool} : ∀ (n : Nat) (lo : Int), (∀ d, lo ≤ d → d < lo + n → P d = v) → cntD P lo n = if v then n else 0
  | 0, _, _ => by cases v <;> rfl
  | n + 1, lo, h => by
    unfold cntD
    rw [h lo (by omega) (by omega), cntD_const n (lo + 1) (fun d h1 h2 => h d (by omega) (by omega))]
    cases v
    · rfl
    · simp; omega
theorem cI_split {P : Int → Bool} {lo m hi : Int} (h : lo ≤ m) (g : m ≤ hi + 1) : cI P lo hi = cI P lo (m - 1) + cI P m hi := by
  unfold cI
  rw [show (hi + 1 - lo).toNat = (m - 1 + 1 - lo).toNat + (hi + 1 - m).toNat by omega, cntD_add]
  rw [show lo + ((m - 1 + 1 - lo).toNat : Int) = m by omega]
theorem cI_cg {P Q : Int → Bool} {lo hi : Int} (h : ∀ d, lo ≤ d → d ≤ hi → P d = Q d) : cI P lo hi = cI Q lo hi := cntD_cg _ _ (fun d h1 h2 => h d h1 (by omega))
theorem cI_const {P : Int → Bool} {lo hi : Int} {v : Bool} (h : ∀ d, lo ≤ d → d ≤ hi → P d = v) : cI P lo hi = if v then (hi + 1 - lo).toNat else 0 := cntD_const _ _ (fun d h1 h2 => h d h1 (by omega))
theorem cI_no {P : Int → Bool} {lo hi : Int} (h : hi < lo) : cI P lo hi = 0 := by
  unfold cI
  rw [show (hi + 1 - lo).toNat = 0 by omega]
  rfl
/-- how many there are on a day -/
def stD (D : AM) : List LE → Int → Int → Int
  | [], _, c => c
  | e :: F, d, c => if D 6 e.2.2.2.1 ≤ d then stD D F d e.2.2.2.2 else c
def dyP (D : AM) (F : List LE) (c x d : Int) : Bool := decide (min (stD D F d c) 2 = x)
theorem dys_step {D : AM} {e : LE} {F : List LE} {c x since a b : Int} (hs : since ≤ D 6 e.2.2.2.1) : (cI (dyP D (e :: F) c x) (max since a) b : Int) = (if min c 2 = x then max 0 (min (D 6 e.2.2.2.1 - 1) b - max since a + 1) else 0) + cI (dyP D F e.2.2.2.2 x) (max (D 6 e.2.2.2.1) a) b := by
  obtain ⟨t, et⟩ : ∃ t, t = D 6 e.2.2.2.1 := ⟨_, rfl⟩
  rw [← et] at hs ⊢
  have p1 : ∀ d, d < t → dyP D (e :: F) c x d = decide (min c 2 = x) := fun d h => by
    unfold dyP stD
    rw [← et, if_neg (by omega)]
  have p2 : ∀ d, t ≤ d → dyP D (e :: F) c x d = dyP D F e.2.2.2.2 x d := fun d h => by
    show decide (min (stD D (e :: F) d c) 2 = x) = decide (min (stD D F d e.2.2.2.2) 2 = x)
    rw [show stD D (e :: F) d c = if D 6 e.2.2.2.1 ≤ d then stD D F d e.2.2.2.2 else c from rfl, ← et, if_pos h]
  by_cases h1 : t ≤ max since a
  · have el : max t a = max since a := by omega
    rw [el, cI_cg (Q := dyP D F e.2.2.2.2 x) (fun d h _ => p2 d (by omega))]
    split <;> omega
  · by_cases h2 : b < t
    · rw [cI_const (v := decide (min c 2 = x)) (fun d _ h => p1 d (by omega)), cI_no (P := dyP D F e.2.2.2.2 x) (lo := max t a) (by omega)]
      by_cases hc : min c 2 = x
      · rw [if_pos (by simpa using hc), if_pos hc]; omega
      · rw [if_neg (by simpa using hc), if_neg hc]; omega
    · rw [cI_split (m := t) (by omega) (by omega), cI_const (v := decide (min c 2 = x)) (lo := max since a) (fun d _ h => p1 d (by omega)), cI_cg (P := dyP D (e :: F) c x) (Q := dyP D F e.2.2.2.2 x) (fun d h _ => p2 d (by omega)), show max t a = t by omega]
      by_cases hc : min c 2 = x
      · rw [if_pos (by simpa using hc), if_pos hc]; omega
      · rw [if_neg (by simpa using hc), if_neg hc]; omega
theorem dys_end {D : AM} {c x since a b : Int} (hb : b ≤ 30000) : (cI (dyP D [] c x) (max since a) b : Int) = if min c 2 = x then max 0 (min 30000 b - max since a + 1) else 0 := by
  rw [cI_const (P := dyP D [] c x) (v := decide (min c 2 = x)) (fun d _ _ => rfl)]
  by_cases hc : min c 2 = x
  · rw [if_pos (by simpa using hc), if_pos hc]; omega
  · rw [if_neg (by simpa using hc), if_neg hc]; rfl
def f_days (D : AM) (l a b w x : Int) : Int := if ¬ (0 ≤ l ∧ l < D 0 3) then -100001 else if ¬ ((0 ≤ a ∧ a ≤ 30000) ∧ (0 ≤ b ∧ b ≤ 30000) ∧ (a ≤ b ∧ b - a ≤ 5000) ∧ (0 ≤ w ∧ w ≤ D 0 0) ∧ 0 ≤ x ∧ x ≤ 2) then -100002 else cI (dyP D ((story D w 30000).lg.filter (isAt l)) 0 x) a b
theorem s1_Changes_common {M : AM} {f t a b : Int} (hf : 0 ≤ f ∧ f ≤ 30000) (ht : -1 ≤ t ∧ t ≤ 30000) (ha : 0 ≤ a ∧ a ≤ 30000) (hb : 0 ≤ b ∧ b ≤ 30000) : aCi s1_G 4 19 [aI f, aI t, aI a, aI b] M (fun z M' => M' = M ∧ z = max 0 (min t b - max f a + 1)) := by
  refine ⟨Nat.le_of_ble_eq_true rfl, fun d hd => ?_⟩
  refine s1_Changes_common_0 (by omega) ?_
  rw [show (if t ≤ b then t else b) = min t b by split <;> omega, show (if a ≤ f then f else a) = max f a by split <;> omega, x_sub (by omega), x_add (by omega)]
  exact ⟨_, rfl, rfl, by split <;> omega⟩
theorem s1_Changes_daysOf {D M : AM} {l a b x : Int} {s : Sg} (hI : Inv D) (hL : SL D 150 s) (hs : LSo D s.lg) (hQ : Q1 D s M) (ha : 0 ≤ a ∧ a ≤ b) (hb : b ≤ 30000) (hab : b - a ≤ 5000) : aCi s1_G 5 18 [aP 62, aI l, aI a, aI b, aI x] M (fun z M' => M' = M ∧ z = cI (dyP D (s.lg.filter (isAt l)) 0 x) a b) := by
  refine ⟨Nat.le_of_ble_eq_true rfl, fun d hd => ?_⟩
  refine s1_Changes_daysOf_0 (by omega) ?_
  have hln := SL_room hL (Int.le_refl _)
  obtain ⟨N, eN⟩ : ∃ N, N = cI (dyP D (s.lg.filter (isAt l)) 0 x) a b := ⟨_, rfl⟩
  have hN : N ≤ 5001 := by
    rw [eN]
    have := cntD_le (dyP D (s.lg.filter (isAt l)) 0 x) (b + 1 - a).toNat a
    unfold cI
    omega
  rw [← eN]
  have key : ∀ (suf pre : List LE) (T : Nat) (since c : Int), s.lg = pre ++ suf → (0 ≤ since ∧ since ≤ 30000) → (∀ e ∈ suf, since ≤ D 6 e.2.2.2.1) → ((T : Int) + (cI (dyP D (suf.filter (isAt l)) c x) (max since a) b) = N) → aE s1_G d 18 12 [] [some (aP 62), some (aI l), some (aI a), some (aI b), some (aI x), some (aI T), some (aI since), some (aI (min c 2)), some (aI pre.length)] [] M (fun r M' => ∃ z, r = some (aI z) ∧ M' = M ∧ z = N) := by
    intro suf
    induction suf with
    | nil =>
      intro pre T since c e hsi hsu hT
      have hl2 : s.lg.length = pre.length := by rw [e]; simp
      refine s1_Changes_daysOf_12 (by omega) ?_
      rw [List.filter_nil, dys_end hb] at hT
      rw [Q1_ln hQ]
      refine ⟨fun _ => ⟨fun h => ⟨_, rfl, rfl, ?_⟩, fun h => ?_⟩, fun h => absurd h (by omega)⟩
      · rw [if_neg h] at hT
        rw [x_add (by omega)]
        omega
      · refine aKi_of (s1_Changes_common (M := M) hsi (t := 30000) (by omega) (a := a) (b := b) (by omega) (by omega)) (by omega) (fun z M1 q => ?_)
        obtain ⟨e1, rfl⟩ := q
        rw [if_pos h] at hT
        rw [x_add (by omega)]
        exact ⟨_, rfl, e1, by omega⟩
    | cons e0 suf ih =>
      intro pre T since c e hsi hsu hT
      have hl2 : s.lg.length = pre.length + 1 + suf.length := by rw [e]; simp; omega
      have hk := Q1_lg hQ pre.length (by omega)
      have ex : s.lg[pre.length]'(by omega) = e0 := by simp [e]
      rw [ex] at hk
      have ih := ih (pre ++ [e0])
      rw [List.length_append] at ih
      have hd6 := Inv_pd hI e0.2.2.2.1
      have hle := hsu e0 (by simp)
      have hso : ∀ e ∈ suf, D 6 e0.2.2.2.1 ≤ D 6 e.2.2.2.1 := by
        have h1 := hs
        unfold LSo at h1
        rw [e, List.pairwise_append] at h1
        exact (List.pairwise_cons.mp h1.2.1).1
      have hst : ∀ (M : AM) (v : Int), aCi s1_G 4 13 [aI v] M (fun z M' => M' = M ∧ z = min v 2) := fun M v => ⟨Nat.le_of_ble_eq_true rfl, fun d hd => s1_Changes_stateOf_0 (by omega) ⟨_, rfl, rfl, by split <;> omega⟩⟩
      refine s1_Changes_daysOf_12 (by omega) ?_
      rw [Q1_ln hQ, hk.1, hk.2.2.2.2.1, hk.2.2.2.2.2, x_add (a := (pre.length : Int)) (by omega)]
      refine ⟨fun h => absurd h (by omega), fun _ => ⟨by omega, fun h => ?_, fun h => ?_⟩⟩
      · rw [List.filter_cons_of_neg (by unfold isAt; simpa using h)] at hT
        exact ih T since c (by rw [e]; simp) hsi (fun y hy => hsu y (by simp [hy])) hT
      · rw [List.filter_cons_of_pos (by unfold isAt; simpa using h), dys_step hle] at hT
        refine ⟨fun g => ⟨by omega, by omega, ?_⟩, fun g => ⟨by omega, ?_⟩⟩
        · refine aKi_of (hst M e0.2.2.2.2) (by omega) (fun z M1 q => ?_)
          obtain ⟨e1, rfl⟩ := q
          rw [if_neg g] at hT
          rw [e1, x_add (a := (T : Int)) (b := 0) (by omega), Int.add_zero]
          exact ih T _ _ (by rw [e]; simp) hd6 hso (by omega)
        · rw [if_pos g] at hT
          rw [x_sub (by omega)]
          refine aKi_of (s1_Changes_common (M := M) hsi (t := D 6 e0.2.2.2.1 - 1) (by omega) (a := a) (b := b) (by omega) (by omega)) (by omega) (fun z M1 q => ?_)
          obtain ⟨e1, ez⟩ := q
          rw [e1, hk.2.2.2.2.1, hk.2.2.2.2.2]
          refine ⟨by omega, by omega, ?_⟩
          refine aKi_of (hst M e0.2.2.2.2) (by omega) (fun z2 M2 q => ?_)
          obtain ⟨e2, rfl⟩ := q
          rw [e2]
          obtain ⟨Z, eZ⟩ : ∃ Z : Nat, z = Z := ⟨z.toNat, by omega⟩
          rw [eZ, x_add (a := (T : Int)) (b := (Z : Int)) (by omega), show (T : Int) + Z = ((T + Z : Nat) : Int) by omega]
          exact ih (T + Z) _ _ (by rw [e]; simp) hd6 hso (by omega)
  exact key s.lg [] 0 0 0 rfl (by omega) (fun e he => (Inv_pd hI _).1) (by rw [eN, show max 0 a = a by omega]; omega)
theorem c1_days {D M : AM} {l a b w x : Int} (ra : aR32 a) (rb : aR32 b) (hI : Inv D) (hB : B1 D M) (hC : StoC D M) : aCi s1_G 14 127 [aP 0, aI l, aI a, aI b, aI w, aI x] M (fun z M' => z = f_days D l a b w x ∧ fr wS M M' ∧ B1 D M' ∧ StoC D M') := by
  refine ⟨Nat.le_of_ble_eq_true rfl, fun d hd => ?_⟩
  refine s1_days_0 (by omega) ?_
  have hnl := Inv_nl hI
  simp only [a_bl_n, a_bl_z, B1_now hB, B1_nl hB]
  rw [x_sub (a := D 0 3) (by omega)]
  unfold f_days
  refine ⟨fun hl => ⟨fun ha => ⟨_, rfl, by (repeat (first | rw [if_pos (by omega)] | rw [if_neg (by omega)])), fr_rf, hB, hC⟩, fun ha => ⟨fun hb => ⟨_, rfl, by (repeat (first | rw [if_pos (by omega)] | rw [if_neg (by omega)])), fr_rf, hB, hC⟩, fun hb => ?_⟩⟩, fun hl => ⟨_, rfl, by (repeat (first | rw [if_pos (by omega)] | rw [if_neg (by omega)])), fr_rf, hB, hC⟩⟩
  rw [x_sub (by omega)]
  refine ⟨fun hab => ⟨_, rfl, by (repeat (first | rw [if_pos (by omega)] | rw [if_neg (by omega)])), fr_rf, hB, hC⟩, fun hab => ⟨fun hw => ⟨_, rfl, by (repeat (first | rw [if_pos (by omega)] | rw [if_neg (by omega)])), fr_rf, hB, hC⟩, fun hw => ⟨fun hx => ?_, fun hx => ⟨_, rfl, by (repeat (first | rw [if_pos (by omega)] | rw [if_neg (by omega)])), fr_rf, hB, hC⟩⟩⟩⟩
  rw [if_neg (by omega), if_neg (by omega)]
  refine k1_st (by omega) hI hB hC hw.1 (fun M1 f1 hT e1 e2 => ?_)
  refine aKi_of (s1_Changes_daysOf (l := l) (x := x) hI (SL_story hI) story_lg hT.2.2 (a := a) (b := b) (by omega) (by omega) (by omega)) (by omega) (fun z M2 q => ?_)
  obtain ⟨e, rfl⟩ := q
  rw [e]
  exact ⟨_, rfl, rfl, f1, hT.1, sto_keep hT e1 e2 fr_rf⟩
theorem stD_mid {D : AM} {e : LE} {F : List LE} {d c : Int} : stD D (e :: F) d c = if D 6 e.2.2.2.1 ≤ d then stD D F d e.2.2.2.2 else c := rfl
theorem c2_days {M : AM} {l a b w x : Int} (ra : aR32 a) (rb : aR32 b) (hI : Inv M) : aCi s2_G 14 79 [aP 0, aI l, aI a, aI b, aI w, aI x] M (fun z M' => z = f_days M l a b w x ∧ fr wU2 M M') := by
  refine ⟨Nat.le_of_ble_eq_true rfl, fun d hd => ?_⟩
  refine s2_days_0 (by omega) ?_
  have hnl := Inv_nl hI
  simp only [a_bl_n, a_bl_z, Decidable.not_not]
  rw [x_sub (a := M 0 3) (by omega)]
  unfold f_days
  refine ⟨fun hl => ⟨fun ha => ⟨_, rfl, by (repeat (first | rw [if_pos (by omega)] | rw [if_neg (by omega)])), fr_rf⟩, fun ha => ⟨fun hb => ⟨_, rfl, by (repeat (first | rw [if_pos (by omega)] | rw [if_neg (by omega)])), fr_rf⟩, fun hb => ⟨fun hab => ⟨_, rfl, by (repeat (first | rw [if_pos (by omega)] | rw [if_neg (by omega)])), fr_rf⟩, fun hab => ?_⟩⟩⟩, fun hl => ⟨_, rfl, by (repeat (first | rw [if_pos (by omega)] | rw [if_neg (by omega)])), fr_rf⟩⟩
  rw [x_sub (by omega)]
  refine ⟨fun hab5 => ⟨_, rfl, by (repeat (first | rw [if_pos (by omega)] | rw [if_neg (by omega)])), fr_rf⟩, fun hab5 => ⟨fun hw => ⟨_, rfl, by (repeat (first | rw [if_pos (by omega)] | rw [if_neg (by omega)])), fr_rf⟩, fun hw => ⟨fun hx => ?_, fun hx => ⟨_, rfl, by (repeat (first | rw [if_pos (by omega)] | rw [if_neg (by omega)])), fr_rf⟩⟩⟩⟩
  rw [if_neg (by omega), if_neg (by omega)]
  have hL := SL_story (w := w) (u := 30000) hI
  refine k2_st (by omega) hI eqL_rf hw.1 (fun M1 ph f1 hT => ?_)
  obtain ⟨F, eF⟩ : ∃ F, F = (story M w 30000).lg.filter (isAt l) := ⟨_, rfl⟩
  have hQ := hT.2.2
  have hcn := Q2_cn hQ
  have hcg := Q2_cg hQ
  have hcl := SL_liv hL l
  have hmo : ∀ e ∈ F, 0 ≤ e.2.2.2.2 ∧ e.2.2.2.2 ≤ 40 := fun e he => by
    rw [eF] at he
    exact (SL_ok hL e (List.mem_filter.mp he).1).2.1
  rw [List.countP_eq_length_filter] at hcl
  rw [← eF] at hcn hcg hcl ⊢
  obtain ⟨N, eN⟩ : ∃ N, N = cI (dyP M F 0 x) a b := ⟨_, rfl⟩
  have hN : N ≤ 5001 := by
    rw [eN]
    have := cntD_le (dyP M F 0 x) (b + 1 - a).toNat a
    unfold cI
    omega
  rw [← eN]
  -- from a day on
  have key : ∀ (m : Nat) (day : Int) (pre suf : List LE) (c : Int) (T : Nat), day + m = b + 1 → 0 ≤ day → F = pre ++ suf → (0 ≤ c ∧ c ≤ 40) → (∀ d', day ≤ d' → stD M F d' 0 = stD M suf d' c) → (T + cI (dyP M F 0 x) (max day a) b = N) → aE s2_G d 79 92 [] [some (aP 0), none, some (aI a), some (aI b), none, some (aI x), some (aI T), some (aI pre.length), some (aI c), some (aI day), none] [] M1 (fun r M' => ∃ z, r = some (aI z) ∧ z = N ∧ fr wU2 M M') := by
    intro m
    induction m with
    | zero =>
      intro day pre suf c T hm h0 e hc hst hT
      refine s2_days_92 (by omega) ⟨fun _ => ⟨_, rfl, ?_, f1⟩, fun h => absurd h (by omega)⟩
      rw [cI_no (by omega)] at hT
      omega
    | succ m ih =>
      intro day pre suf c T hm h0 e hc hst hT
      refine s2_days_92 (by omega) ⟨fun h => absurd h (by omega), fun _ => ?_⟩
      -- within a day
      have inn : ∀ (suf pre : List LE) (c : Int), F = pre ++ suf → (0 ≤ c ∧ c ≤ 40) → (∀ d', day ≤ d' → stD M F d' 0 = stD M suf d' c) → aE s2_G d 79 98 [] [some (aP 0), none, some (aI a), some (aI b), none, some (aI x), some (aI T), some (aI pre.length), some (aI c), some (aI day), none] [] M1 (fun r M' => ∃ z, r = some (aI z) ∧ z = N ∧ fr wU2 M M') := by
        intro suf
        have ev : ∀ (suf pre : List LE) (c : Int), F = pre ++ suf → (0 ≤ c ∧ c ≤ 40) → (∀ d', day ≤ d' → stD M F d' 0 = stD M suf d' c) → stD M suf day c = c → ((c ≤ 1 → (day < a → aE s2_G d 79 92 [] [some (aP 0), none, some (aI a), some (aI b), none, some (aI x), some (aI (a_add T (a_bl ((0 : Int) ≠ 0)))), some (aI pre.length), some (aI c), some (aI (a_add day 1)), none] [] M1 (fun r M' => ∃ z, r = some (aI z) ∧ z = N ∧ fr wU2 M M')) ∧ (a ≤ day → (c ≠ x → aE s2_G d 79 92 [] [some (aP 0), none, some (aI a), some (aI b), none, some (aI x), some (aI (a_add T (a_bl ((0 : Int) ≠ 0)))), some (aI pre.length), some (aI c), some (aI (a_add day 1)), none] [] M1 (fun r M' => ∃ z, r = some (aI z) ∧ z = N ∧ fr wU2 M M')) ∧ (c = x → aE s2_G d 79 92 [] [some (aP 0), none, some (aI a), some (aI b), none, some (aI x), some (aI (a_add T (a_bl ((1 : Int) ≠ 0)))), some (aI pre.length), some (aI c), some (aI (a_add day 1)), none] [] M1 (fun r M' => ∃ z, r = some (aI z) ∧ z = N ∧ fr wU2 M M')))) ∧ (1 < c → (day < a → aE s2_G d 79 92 [] [some (aP 0), none, some (aI a), some (aI b), none, some (aI x), some (aI (a_add T (a_bl ((0 : Int) ≠ 0)))), some (aI pre.length), some (aI c), some (aI (a_add day 1)), none] [] M1 (fun r M' => ∃ z, r = some (aI z) ∧ z = N ∧ fr wU2 M M')) ∧ (a ≤ day → (2 ≠ x → aE s2_G d 79 92 [] [some (aP 0), none, some (aI a), some (aI b), none, some (aI x), some (aI (a_add T (a_bl ((0 : Int) ≠ 0)))), some (aI pre.length), some (aI c), some (aI (a_add day 1)), none] [] M1 (fun r M' => ∃ z, r = some (aI z) ∧ z = N ∧ fr wU2 M M')) ∧ (2 = x → aE s2_G d 79 92 [] [some (aP 0), none, some (aI a), some (aI b), none, some (aI x), some (aI (a_add T (a_bl ((1 : Int) ≠ 0)))), some (aI pre.length), some (aI c), some (aI (a_add day 1)), none] [] M1 (fun r M' => ∃ z, r = some (aI z) ∧ z = N ∧ fr wU2 M M'))))) := by
          intro suf pre c e hc hst hd'
          have hTN : T ≤ N := by omega
          have hP : dyP M F 0 x day = decide (min c 2 = x) := by unfold dyP; rw [hst day (Int.le_refl _), hd']
          have hst' : ∀ d', day + 1 ≤ d' → stD M F d' 0 = stD M suf d' c := fun d' h => hst d' (by omega)
          rw [x_add (a := day) (by omega), show a_bl ((0 : Int) ≠ 0) = 0 from rfl, show a_bl ((1 : Int) ≠ 0) = 1 from rfl, x_add (a := (T : Int)) (b := 0) (by omega), x_add (a := (T : Int)) (b := 1) (by omega), Int.add_zero]
          have lo : day < a → aE s2_G d 79 92 [] [some (aP 0), none, some (aI a), some (aI b), none, some (aI x), some (aI T), some (aI pre.length), some (aI c), some (aI (day + 1)), none] [] M1 (fun r M' => ∃ z, r = some (aI z) ∧ z = N ∧ fr wU2 M M') := fun h => by
            refine ih (day + 1) pre suf c T (by omega) (by omega) e hc hst' ?_
            rw [show max (day + 1) a = max day a by omega]
            exact hT
          have one : a ≤ day → T + (if min c 2 = x then 1 else 0) + cI (dyP M F 0 x) (max (day + 1) a) b = N := fun h => by
            rw [show max day a = day by omega, cI_split (m := day + 1) (by omega) (by omega)] at hT
            rw [show max (day + 1) a = day + 1 by omega]
            have : cI (dyP M F 0 x) day (day + 1 - 1) = if min c 2 = x then 1 else 0 := by
              unfold cI
              rw [show (day + 1 - 1 + 1 - day).toNat = 1 by omega]
              unfold cntD
              rw [hP]
              by_cases hh : min c 2 = x
              · rw [if_pos (by simpa using hh), if_pos hh]; rfl
              · rw [if_neg (by simpa using hh), if_neg hh]; rfl
            omega
          have no : a ≤ day → ¬ min c 2 = x → aE s2_G d 79 92 [] [some (aP 0), none, some (aI a), some (aI b), none, some (aI x), some (aI T), some (aI pre.length), some (aI c), some (aI (day + 1)), none] [] M1 (fun r M' => ∃ z, r = some (aI z) ∧ z = N ∧ fr wU2 M M') := fun h g => by
            have := one h
            rw [if_neg g] at this
            exact ih (day + 1) pre suf c T (by omega) (by omega) e hc hst' this
          have ye : a ≤ day → min c 2 = x → aE s2_G d 79 92 [] [some (aP 0), none, some (aI a), some (aI b), none, some (aI x), some (aI ((T : Int) + 1)), some (aI pre.length), some (aI c), some (aI (day + 1)), none] [] M1 (fun r M' => ∃ z, r = some (aI z) ∧ z = N ∧ fr wU2 M M') := fun h g => by
            have := one h
            rw [if_pos g] at this
            exact ih (day + 1) pre suf c (T + 1) (by omega) (by omega) e hc hst' this
          exact ⟨fun h1 => ⟨lo, fun h2 => ⟨fun h3 => no h2 (by omega), fun h3 => ye h2 (by omega)⟩⟩, fun h1 => ⟨lo, fun h2 => ⟨fun h3 => no h2 (by omega), fun h3 => ye h2 (by omega)⟩⟩⟩
        induction suf with
        | nil =>
          intro pre c e hc hst
          have hl2 : F.length = pre.length := by rw [e]; simp
          refine s2_days_98 (by omega) ?_
          rw [hcn]
          exact ⟨fun _ => ev [] pre c e hc hst rfl, fun h => absurd h (by omega)⟩
        | cons e0 suf ih2 =>
          intro pre c e hc hst
          have hl2 : F.length = pre.length + 1 + suf.length := by rw [e]; simp; omega
          have hk := hcg pre.length (by omega)
          have ex : F[pre.length]'(by omega) = e0 := by simp [e]
          rw [ex] at hk
          refine s2_days_98 (by omega) ?_
          rw [hcn, hk.1, hk.2.1, x_add (a := (pre.length : Int)) (by omega)]
          refine ⟨fun h => absurd h (by omega), fun _ => ⟨by omega, fun h => ev (e0 :: suf) pre c e hc hst (by rw [stD_mid, if_neg (by omega)]), fun h => ⟨by omega, ?_⟩⟩⟩
          have ih2 := ih2 (pre ++ [e0]) e0.2.2.2.2 (by rw [e]; simp) (hmo e0 (by rw [e]; simp)) (fun d' hd' => by rw [hst d' hd', stD_mid, if_pos (by omega)])
          rw [List.length_append] at ih2
          exact ih2
      exact inn suf pre c e hc hst
  exact key (b + 1).toNat 0 [] F 0 0 (by omega) (by omega) rfl (by omega) (fun _ _ => rfl) (by rw [eN, show max 0 a = a by omega]; omega)
