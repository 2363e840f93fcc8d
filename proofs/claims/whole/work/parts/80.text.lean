/-! THE TEXT: blanks, words, signs, NUMBERS -/
def sk : List Int → List Int
  | [] => []
  | c :: r => if c = 32 then sk r else c :: r
def wd : List Int → List Int
  | [] => []
  | c :: r => if 97 ≤ c ∧ c ≤ 122 then c :: wd r else []
def we : List Int → List Int
  | [] => []
  | c :: r => if 97 ≤ c ∧ c ≤ 122 then we r else c :: r
def dgs : List Int → List Int
  | [] => []
  | c :: r => if 48 ≤ c ∧ c ≤ 57 then c :: dgs r else []
def dge : List Int → List Int
  | [] => []
  | c :: r => if 48 ≤ c ∧ c ≤ 57 then dge r else c :: r
theorem sk_pre : ∀ s : List Int, ∃ p, s = p ++ sk s
  | [] => ⟨[], rfl⟩
  | c :: r => by
    unfold sk
    split
    · obtain ⟨p, h⟩ := sk_pre r
      exact ⟨c :: p, by rw [List.cons_append, ← h]⟩
    · exact ⟨[], rfl⟩
theorem sk_sk : ∀ s : List Int, sk (sk s) = sk s
  | [] => rfl
  | c :: r => by
    by_cases h : c = 32
    · rw [show sk (c :: r) = sk r from if_pos h]; exact sk_sk r
    · rw [show sk (c :: r) = c :: r from if_neg h]; exact if_neg h
theorem sk_len (s : List Int) : (sk s).length ≤ s.length := by
  obtain ⟨p, h⟩ := sk_pre s
  have := congrArg List.length h
  rw [List.length_append] at this
  omega
theorem wd_we : ∀ s : List Int, wd s ++ we s = s
  | [] => rfl
  | c :: r => by
    unfold wd we
    split
    · rw [List.cons_append, wd_we r]
    · rfl
theorem dgs_dge : ∀ s : List Int, dgs s ++ dge s = s
  | [] => rfl
  | c :: r => by
    unfold dgs dge
    split
    · rw [List.cons_append, dgs_dge r]
    · rfl
theorem we_len (s : List Int) : (wd s).length + (we s).length = s.length := by rw [← List.length_append, wd_we]
theorem dge_len (s : List Int) : (dgs s).length + (dge s).length = s.length := by rw [← List.length_append, dgs_dge]
/-- what is left of a text at a place -/
def Sfx (X s : List Int) (a : Int) : Prop := ∃ p : List Int, X = p ++ s ∧ a = p.length
theorem Sfx_rg {X s : List Int} {a : Int} (h : Sfx X s a) : 0 ≤ a ∧ a + s.length = X.length := by
  obtain ⟨p, e, rfl⟩ := h
  rw [e, List.length_append]
  omega
theorem Sfx_pl {X s : List Int} {a : Int} (h : Sfx X s a) : a = X.length - s.length := by have := Sfx_rg h; omega
theorem Sfx_at {X r : List Int} {c a : Int} {f : Int → Int} (h : Sfx X (c :: r) a) (g : isL f X) : f a = c := by
  obtain ⟨p, e, rfl⟩ := h
  rw [e] at g
  exact isL_mid g
theorem Sfx_nx {X r : List Int} {c a : Int} (h : Sfx X (c :: r) a) : Sfx X r (a + 1) := by
  obtain ⟨p, e, rfl⟩ := h
  exact ⟨p ++ [c], by rw [e]; simp, by simp⟩
theorem Sfx_go {X u v : List Int} {a : Int} (h : Sfx X (u ++ v) a) : Sfx X v (a + u.length) := by
  obtain ⟨p, e, rfl⟩ := h
  exact ⟨p ++ u, by rw [e, List.append_assoc], by rw [List.length_append]; omega⟩
theorem up_up {M : AM} {k : Nat} {i a b : Int} : am_up (am_up M k i a) k i b = am_up M k i b := by
  funext k' i'
  unfold am_up
  split <;> rfl
theorem up_self {M : AM} {k : Nat} {i : Int} : am_up M k i (M k i) = M := by
  funext k' i'
  unfold am_up
  split
  next h => rw [h.1, h.2]
  · rfl
-- the first system's text
def Tx1 (X : List Int) (M : AM) : Prop := M 35 2 = X.length ∧ isL (M 36) X ∧ X.length ≤ 200
theorem Tx1_up {X : List Int} {M : AM} {a : Int} (h : Tx1 X M) : Tx1 X (am_up M 35 5 a) := ⟨(x_uf (by decide)).trans h.1, by rw [x_uk (by decide)]; exact h.2.1, h.2.2⟩
theorem s1_Reader_skipBlanks {X : List Int} : ∀ (s : List Int) (M : AM), Tx1 X M → Sfx X s (M 35 5) → aCv s1_G 4 50 [aP 35] M (fun M' => ∃ a, M' = am_up M 35 5 a ∧ Sfx X (sk s) a) := by
  intro s M hT hs
  refine ⟨Nat.le_of_ble_eq_true rfl, fun d hd => ?_⟩
  have key : ∀ (s : List Int) (a : Int), Sfx X s a → aE s1_G d 50 0 [] [some (aP 35)] [] (am_up M 35 5 a) (fun r M' => r = none ∧ ∃ a, M' = am_up M 35 5 a ∧ Sfx X (sk s) a) := by
    intro s
    induction s with
    | nil =>
      intro a hs
      have hr := Sfx_rg hs
      refine s1_Reader_skipBlanks_0 (by omega) ?_
      rw [(Tx1_up hT).1, x_us]
      simp only [List.length_nil] at hr
      exact ⟨fun _ => ⟨rfl, a, rfl, hs⟩, fun h => absurd h (by omega)⟩
    | cons c r ih =>
      intro a hs
      have hr := Sfx_rg hs
      simp only [List.length_cons] at hr
      have hl := hT.2.2
      have hc := Sfx_at hs (Tx1_up (a := a) hT).2.1
      refine s1_Reader_skipBlanks_0 (by omega) ?_
      rw [(Tx1_up hT).1, x_us, hc, x_add (by omega), up_up]
      refine ⟨fun h => absurd h (by omega), fun _ => ⟨by omega, fun h => ⟨rfl, a, rfl, ?_⟩, fun h => ?_⟩⟩
      · rw [show sk (c :: r) = c :: r from if_neg h]; exact hs
      · rw [show sk (c :: r) = sk r from if_pos h]; exact ih (a + 1) (Sfx_nx hs)
  have := key s (M 35 5) hs
  rw [up_self] at this
  exact this
def tSg (c : Int) (s : List Int) : Bool × List Int := match sk s with
  | [] => (false, [])
  | x :: r => if x = c then (true, r) else (false, x :: r)
theorem tSg_n {c : Int} {s : List Int} (e : sk s = []) : tSg c s = (false, []) := by unfold tSg; rw [e]
theorem tSg_c {c x : Int} {s r : List Int} (e : sk s = x :: r) : tSg c s = if x = c then (true, r) else (false, x :: r) := by unfold tSg; rw [e]
theorem s1_Reader_takeSign {X s : List Int} {M : AM} {c : Int} (hT : Tx1 X M) (hs : Sfx X s (M 35 5)) : aCi s1_G 5 48 [aP 35, aI c] M (fun z M' => z = bI (tSg c s).1 ∧ ∃ a, M' = am_up M 35 5 a ∧ Sfx X (tSg c s).2 a) := by
  refine ⟨Nat.le_of_ble_eq_true rfl, fun d hd => ?_⟩
  refine s1_Reader_takeSign_0 (by omega) ?_
  refine aKv_of (s1_Reader_skipBlanks s M hT hs) (by omega) (fun M1 q => ?_)
  obtain ⟨a, rfl, ha⟩ := q
  have hr := Sfx_rg ha
  have hl := hT.2.2
  rw [(Tx1_up hT).1, x_us, up_up]
  match e : sk s with
  | [] =>
    rw [tSg_n e]
    rw [e] at ha hr
    simp only [List.length_nil] at hr
    exact ⟨fun _ => ⟨(by first | exact True.intro | exact Or.inl True.intro | exact Or.inr True.intro | omega), _, rfl, rfl, a, rfl, ha⟩, fun h => absurd h (by omega)⟩
  | x :: r =>
    rw [tSg_c e]
    rw [e] at ha hr
    simp only [List.length_cons] at hr
    rw [Sfx_at ha (Tx1_up (a := a) hT).2.1, x_add (by omega)]
    refine ⟨fun h => absurd h (by omega), fun _ => ⟨by omega, fun h => ⟨(by first | exact True.intro | exact Or.inl True.intro | exact Or.inr True.intro | omega), _, rfl, ?_⟩, fun h => ⟨(by first | exact True.intro | exact Or.inl True.intro | exact Or.inr True.intro | omega), _, rfl, ?_⟩⟩⟩
    · rw [if_neg h]; exact ⟨rfl, a, rfl, ha⟩
    · rw [if_pos h]; exact ⟨rfl, a + 1, rfl, Sfx_nx ha⟩
def tWd (w s : List Int) : Bool × List Int := if wd (sk s) = w then (true, we (sk s)) else (false, sk s)
theorem s1_Reader_takeWord {X s : List Int} {M : AM} {k : Nat} (hT : Tx1 X M) (hs : Sfx X s (M 35 5)) : aCi s1_G 5 49 [aP 35, aS k] M (fun z M' => z = bI (tWd (s1_st k) s).1 ∧ ∃ a, M' = am_up M 35 5 a ∧ Sfx X (tWd (s1_st k) s).2 a) := by
  refine ⟨Nat.le_of_ble_eq_true rfl, fun d hd => ?_⟩
  refine s1_Reader_takeWord_0 (by omega) ?_
  refine aKv_of (s1_Reader_skipBlanks s M hT hs) (by omega) (fun M1 q => ?_)
  obtain ⟨a, rfl, ha⟩ := q
  have hl := hT.2.2
  have hr := Sfx_rg ha
  obtain ⟨W, eW⟩ : ∃ W, W = s1_st k := ⟨_, rfl⟩
  obtain ⟨u, eu⟩ : ∃ u, u = sk s := ⟨_, rfl⟩
  have hX := (Tx1_up (a := a) hT).2.1
  rw [x_us]
  unfold tWd
  rw [← eW]
  rw [← eu] at ha hr ⊢
  -- letter by letter
  have cmp : ∀ (t : List Int), t = we u → (wd u).length = W.length → ∀ (v w pre : List Int), wd u = pre ++ v → W = pre ++ w → aE s1_G d 49 62 [] [some (aP 35), some (aS k), some (aI (a + (wd u).length)), some (aI pre.length)] [] (am_up M 35 5 a) (fun r M' => ∃ z, r = some (aI z) ∧ z = bI (if wd u = W then (true, we u) else (false, u)).1 ∧ ∃ a', M' = am_up M 35 5 a' ∧ Sfx X (if wd u = W then (true, we u) else (false, u)).2 a') := by
    intro t et hlen v
    induction v with
    | nil =>
      intro w pre e1 e2
      have hw : w = [] := by
        have h1 := congrArg List.length e1
        have h2 := congrArg List.length e2
        rw [List.length_append] at h1 h2
        simp only [List.length_nil] at h1
        exact List.length_eq_zero_iff.mp (by omega)
      subst hw
      refine s1_Reader_takeWord_62 (by omega) ?_
      rw [← eW, up_up]
      have h2 := congrArg List.length e2
      rw [List.length_append] at h2
      simp only [List.length_nil] at h2
      refine ⟨fun _ => ⟨(by first | exact True.intro | exact Or.inl True.intro | exact Or.inr True.intro | omega), _, rfl, ?_⟩, fun h => absurd h (by omega)⟩
      rw [if_pos (by rw [e1, e2])]
      refine ⟨rfl, _, rfl, ?_⟩
      have h3 := ha
      rw [← wd_we u] at h3
      exact Sfx_go h3
    | cons x v ih =>
      intro w pre e1 e2
      match w, e2 with
      | [], e2 =>
        have h1 := congrArg List.length e1
        have h2 := congrArg List.length e2
        simp at h1 h2
        omega
      | y :: w, e2 =>
        have h1 := congrArg List.length e1
        have h2 := congrArg List.length e2
        rw [List.length_append] at h1 h2
        simp only [List.length_cons] at h1 h2
        have hu := we_len u
        refine s1_Reader_takeWord_62 (by omega) ?_
        rw [← eW, x_us, x_add (a := a) (by omega), x_add (a := (pre.length : Int)) (by omega)]
        have hx : (am_up M 35 5 a) 36 (a + pre.length) = x := by
          refine Sfx_at (X := X) (r := v ++ we u) (Sfx_go (u := pre) ?_) hX
          have h3 := ha
          rw [← wd_we u, e1] at h3
          simpa using h3
        have hy : W.getD ((pre.length : Int).toNat) 0 = y := by rw [e2]; simp
        rw [hx, hy]
        refine ⟨fun h => absurd h (by omega), fun _ => ⟨by omega, by omega, fun h => ?_, fun h => ⟨(by first | exact True.intro | exact Or.inl True.intro | exact Or.inr True.intro | omega), _, rfl, ?_⟩⟩⟩
        · have := ih w (pre ++ [x]) (by rw [e1]; simp) (by rw [e2, h]; simp)
          rw [List.length_append] at this
          exact this
        · rw [if_neg (fun q => by
            rw [e1, e2] at q
            exact h (List.cons.inj (List.append_cancel_left q)).1)]
          exact ⟨rfl, a, rfl, ha⟩
  -- to the word's end
  have fin : ∀ t : List Int, wd t = [] → (pre : List Int) → u = pre ++ t → wd u = pre → ((a_sub (a + pre.length) a = (W.length : Nat) → aE s1_G d 49 62 [] [some (aP 35), some (aS k), some (aI (a + pre.length)), some (aI 0)] [] (am_up M 35 5 a) (fun r M' => ∃ z, r = some (aI z) ∧ z = bI (if wd u = W then (true, we u) else (false, u)).1 ∧ ∃ a', M' = am_up M 35 5 a' ∧ Sfx X (if wd u = W then (true, we u) else (false, u)).2 a')) ∧ (a_sub (a + pre.length) a ≠ (W.length : Nat) → ((0 : Int) = 0 ∨ (0 : Int) = 1) ∧ ∃ z, (some (aI 0) : Option AV) = some (aI z) ∧ z = bI (if wd u = W then (true, we u) else (false, u)).1 ∧ ∃ a', am_up M 35 5 a = am_up M 35 5 a' ∧ Sfx X (if wd u = W then (true, we u) else (false, u)).2 a')) := by
    intro t ht pre e1 e2
    have h1 := congrArg List.length e1
    rw [List.length_append] at h1
    rw [x_sub (by omega)]
    refine ⟨fun h => ?_, fun h => ⟨Or.inl rfl, _, rfl, ?_⟩⟩
    · have := cmp (we u) rfl (by rw [e2]; omega) (wd u) W [] rfl rfl
      rw [e2] at this ⊢
      exact this
    · rw [if_neg (fun q => by rw [e2] at q; rw [q] at h; omega)]
      exact ⟨rfl, a, rfl, ha⟩
  have key : ∀ (t pre : List Int), u = pre ++ t → wd u = pre ++ wd t → aE s1_G d 49 9 [] [some (aP 35), some (aS k), some (aI (a + pre.length)), none] [] (am_up M 35 5 a) (fun r M' => ∃ z, r = some (aI z) ∧ z = bI (if wd u = W then (true, we u) else (false, u)).1 ∧ ∃ a', M' = am_up M 35 5 a' ∧ Sfx X (if wd u = W then (true, we u) else (false, u)).2 a') := by
    intro t
    induction t with
    | nil =>
      intro pre e1 e2
      have h1 := congrArg List.length e1
      rw [List.length_append] at h1
      simp only [List.length_nil] at h1
      have e3 : wd u = pre := by rw [e2]; simp [wd]
      refine s1_Reader_takeWord_9 (by omega) ?_
      rw [(Tx1_up hT).1, x_us, ← eW]
      exact ⟨fun _ => fin [] rfl pre e1 e3, fun h => absurd h (by omega)⟩
    | cons c t ih =>
      intro pre e1 e2
      have h1 := congrArg List.length e1
      rw [List.length_append] at h1
      simp only [List.length_cons] at h1
      have hc : (am_up M 35 5 a) 36 (a + pre.length) = c := Sfx_at (X := X) (Sfx_go (u := pre) (by rw [← e1]; exact ha)) hX
      refine s1_Reader_takeWord_9 (by omega) ?_
      rw [(Tx1_up hT).1, x_us, ← eW, hc, x_add (by omega)]
      have no : ¬ (97 ≤ c ∧ c ≤ 122) → wd (c :: t) = [] := fun h => if_neg h
      refine ⟨fun h => absurd h (by omega), fun _ => ⟨by omega, fun h => ?_, fun h => ⟨by omega, fun g => ?_, fun g => ?_⟩⟩⟩
      · have hn := no (by omega)
        exact fin (c :: t) hn pre e1 (by rw [e2, hn]; simp)
      · have hn := no (by omega)
        exact fin (c :: t) hn pre e1 (by rw [e2, hn]; simp)
      · have hy : wd (c :: t) = c :: wd t := if_pos ⟨h, g⟩
        have := ih (pre ++ [c]) (by rw [e1]; simp) (by rw [e2, hy]; simp)
        rw [List.length_append] at this
        rw [show a + (pre.length : Int) + 1 = a + ((pre.length + [c].length : Nat) : Int) by simp; omega]
        exact this
  have := key u [] rfl rfl
  simpa using this
