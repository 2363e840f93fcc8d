/-! THE READER in the first system: words, signs, NUMBERS, faults -/
def nmZ (w : List Int) : Int := if w = [108, 97, 112, 115, 101] then 0 else if w = [109, 105, 108, 101, 115] then 1 else if w = [119, 111, 114, 116, 104] then 2 else if w = [118, 111, 105, 100] then 3 else if w = [108, 97, 112, 115, 101, 100] then 4 else if w = [100, 101, 99, 97, 121] then 5 else if w = [115, 116, 101, 112, 115] then 6 else if w = [102, 101, 101] then 7 else -1
def fcZ (w : List Int) : Int := if w = [97, 103, 101] then 0 else if w = [111, 114, 100, 101, 114, 115] then 1 else if w = [104, 111, 108, 100, 115] then 2 else if w = [102, 97, 114] then 3 else if w = [114, 105, 99, 104] then 4 else if w = [108, 101, 97, 118, 101] then 5 else -1
def clZ (w : List Int) : Int := if w = [108, 101, 116] then 0 else if w = [98, 97, 114] then 1 else if w = [115, 116, 114, 105, 107, 101] then 2 else -1
theorem k1_tw {X s : List Int} {M : AM} {k d : Nat} {Q : Int → AM → Prop} (w : List Int) (hw : s1_st k = w) (hd : 5 < d) (hT : Tx1 X M) (hs : Sfx X s (M 35 5)) (Ky : wd (sk s) = w → ∀ a, Sfx X (we (sk s)) a → Q 1 (am_up M 35 5 a)) (Kn : wd (sk s) ≠ w → ∀ a, Sfx X (sk s) a → Q 0 (am_up M 35 5 a)) : aKi s1_G d 49 [aP 35, aS k] M Q :=
  aKi_of (s1_Reader_takeWord hT hs) hd (fun z M1 q => by
    obtain ⟨rfl, a, rfl, ha⟩ := q
    rw [hw] at ha ⊢
    unfold tWd at ha ⊢
    by_cases h : wd (sk s) = w
    · rw [if_pos h] at ha ⊢
      exact Ky h a ha
    · rw [if_neg h] at ha ⊢
      exact Kn h a ha)
theorem k1_ts {X s : List Int} {M : AM} {c : Int} {d : Nat} {Q : Int → AM → Prop} (hd : 5 < d) (hT : Tx1 X M) (hs : Sfx X s (M 35 5)) (Ky : ∀ r, sk s = c :: r → ∀ a, Sfx X r a → Q 1 (am_up M 35 5 a)) (Kn : (∀ r, sk s ≠ c :: r) → ∀ a, Sfx X (sk s) a → Q 0 (am_up M 35 5 a)) : aKi s1_G d 48 [aP 35, aI c] M Q :=
  aKi_of (s1_Reader_takeSign hT hs) hd (fun z M1 q => by
    obtain ⟨rfl, a, rfl, ha⟩ := q
    match e : sk s with
    | [] =>
      rw [tSg_n e] at ha ⊢
      rw [← e] at ha
      exact Kn (fun r => by rw [e]; simp) a ha
    | x :: r =>
      rw [tSg_c e] at ha ⊢
      by_cases h : x = c
      · rw [if_pos h] at ha ⊢
        exact Ky r (by rw [e, h]) a ha
      · rw [if_neg h] at ha ⊢
        rw [← e] at ha
        exact Kn (fun r' q => h (by rw [e] at q; exact (List.cons.inj q).1)) a ha)
theorem s1_Reader_factWord {X s : List Int} {M : AM} (hT : Tx1 X M) (hs : Sfx X s (M 35 5)) : aCi s1_G 6 53 [aP 35] M (fun z M' => z = fcZ (wd (sk s)) ∧ ∃ a, M' = am_up M 35 5 a ∧ Sfx X (if fcZ (wd (sk s)) = -1 then sk s else we (sk s)) a) := by
  refine ⟨Nat.le_of_ble_eq_true rfl, fun d hd => ?_⟩
  refine s1_Reader_factWord_0 (by omega) ?_
  obtain ⟨w, ew⟩ : ∃ w, w = wd (sk s) := ⟨_, rfl⟩
  have nx : ∀ a, Sfx X (sk s) a → Sfx X (sk s) ((am_up M 35 5 a) 35 5) := fun a h => by rw [x_us]; exact h
  rw [← ew]
  refine k1_tw [97, 103, 101] rfl (by omega) hT hs (fun e a ha => ?_) (fun n0 a0 h0 => ?_)
  · have ez : fcZ w = 0 := by unfold fcZ; rw [if_pos (by rw [ew]; exact e)]
    exact ⟨fun h => absurd h (by decide), fun _ => ⟨_, rfl, ez.symm, a, rfl, by rw [ez]; exact ha⟩⟩
  rw [← ew] at n0
  refine ⟨fun _ => ?_, fun h => absurd rfl h⟩
  refine k1_tw (s := sk s) [111, 114, 100, 101, 114, 115] rfl (by omega) (Tx1_up hT) (nx a0 h0) (fun e a ha => ?_) (fun n1 a1 h1 => ?_)
  · rw [sk_sk] at e ha
    have ez : fcZ w = 1 := by unfold fcZ; rw [if_neg n0, if_pos (by rw [ew]; exact e)]
    exact ⟨fun h => absurd h (by decide), fun _ => ⟨_, rfl, ez.symm, a, up_up, by rw [ez]; exact ha⟩⟩
  rw [sk_sk] at n1 h1
  rw [← ew] at n1
  rw [up_up]
  refine ⟨fun _ => ?_, fun h => absurd rfl h⟩
  refine k1_tw (s := sk s) [104, 111, 108, 100, 115] rfl (by omega) (Tx1_up hT) (nx a1 h1) (fun e a ha => ?_) (fun n2 a2 h2 => ?_)
  · rw [sk_sk] at e ha
    have ez : fcZ w = 2 := by unfold fcZ; rw [if_neg n0, if_neg n1, if_pos (by rw [ew]; exact e)]
    exact ⟨fun h => absurd h (by decide), fun _ => ⟨_, rfl, ez.symm, a, up_up, by rw [ez]; exact ha⟩⟩
  rw [sk_sk] at n2 h2
  rw [← ew] at n2
  rw [up_up]
  refine ⟨fun _ => ?_, fun h => absurd rfl h⟩
  refine k1_tw (s := sk s) [102, 97, 114] rfl (by omega) (Tx1_up hT) (nx a2 h2) (fun e a ha => ?_) (fun n3 a3 h3 => ?_)
  · rw [sk_sk] at e ha
    have ez : fcZ w = 3 := by unfold fcZ; rw [if_neg n0, if_neg n1, if_neg n2, if_pos (by rw [ew]; exact e)]
    exact ⟨fun h => absurd h (by decide), fun _ => ⟨_, rfl, ez.symm, a, up_up, by rw [ez]; exact ha⟩⟩
  rw [sk_sk] at n3 h3
  rw [← ew] at n3
  rw [up_up]
  refine ⟨fun _ => ?_, fun h => absurd rfl h⟩
  refine k1_tw (s := sk s) [114, 105, 99, 104] rfl (by omega) (Tx1_up hT) (nx a3 h3) (fun e a ha => ?_) (fun n4 a4 h4 => ?_)
  · rw [sk_sk] at e ha
    have ez : fcZ w = 4 := by unfold fcZ; rw [if_neg n0, if_neg n1, if_neg n2, if_neg n3, if_pos (by rw [ew]; exact e)]
    exact ⟨fun h => absurd h (by decide), fun _ => ⟨_, rfl, ez.symm, a, up_up, by rw [ez]; exact ha⟩⟩
  rw [sk_sk] at n4 h4
  rw [← ew] at n4
  rw [up_up]
  refine ⟨fun _ => ?_, fun h => absurd rfl h⟩
  refine k1_tw (s := sk s) [108, 101, 97, 118, 101] rfl (by omega) (Tx1_up hT) (nx a4 h4) (fun e a ha => ?_) (fun n5 a5 h5 => ?_)
  · rw [sk_sk] at e ha
    have ez : fcZ w = 5 := by unfold fcZ; rw [if_neg n0, if_neg n1, if_neg n2, if_neg n3, if_neg n4, if_pos (by rw [ew]; exact e)]
    exact ⟨fun h => absurd h (by decide), fun _ => ⟨_, rfl, ez.symm, a, up_up, by rw [ez]; exact ha⟩⟩
  rw [sk_sk] at n5 h5
  rw [← ew] at n5
  rw [up_up]
  have ez : fcZ w = -1 := by unfold fcZ; rw [if_neg n0, if_neg n1, if_neg n2, if_neg n3, if_neg n4, if_neg n5]
  exact ⟨fun _ => ⟨_, rfl, ez.symm, a5, rfl, by rw [ez]; exact h5⟩, fun h => absurd rfl h⟩
theorem s1_Reader_nameWord {X s : List Int} {M : AM} (hT : Tx1 X M) (hs : Sfx X s (M 35 5)) : aCi s1_G 6 52 [aP 35] M (fun z M' => z = nmZ (wd (sk s)) ∧ ∃ a, M' = am_up M 35 5 a ∧ Sfx X (if nmZ (wd (sk s)) = -1 then sk s else we (sk s)) a) := by
  refine ⟨Nat.le_of_ble_eq_true rfl, fun d hd => ?_⟩
  refine s1_Reader_nameWord_0 (by omega) ?_
  obtain ⟨w, ew⟩ : ∃ w, w = wd (sk s) := ⟨_, rfl⟩
  have nx : ∀ a, Sfx X (sk s) a → Sfx X (sk s) ((am_up M 35 5 a) 35 5) := fun a h => by rw [x_us]; exact h
  rw [← ew]
  refine k1_tw [108, 97, 112, 115, 101] rfl (by omega) hT hs (fun e a ha => ?_) (fun n0 a0 h0 => ?_)
  · have ez : nmZ w = 0 := by unfold nmZ; rw [if_pos (by rw [ew]; exact e)]
    exact ⟨fun h => absurd h (by decide), fun _ => ⟨_, rfl, ez.symm, a, rfl, by rw [ez]; exact ha⟩⟩
  rw [← ew] at n0
  refine ⟨fun _ => ?_, fun h => absurd rfl h⟩
  refine k1_tw (s := sk s) [109, 105, 108, 101, 115] rfl (by omega) (Tx1_up hT) (nx a0 h0) (fun e a ha => ?_) (fun n1 a1 h1 => ?_)
  · rw [sk_sk] at e ha
    have ez : nmZ w = 1 := by unfold nmZ; rw [if_neg n0, if_pos (by rw [ew]; exact e)]
    exact ⟨fun h => absurd h (by decide), fun _ => ⟨_, rfl, ez.symm, a, up_up, by rw [ez]; exact ha⟩⟩
  rw [sk_sk] at n1 h1
  rw [← ew] at n1
  rw [up_up]
  refine ⟨fun _ => ?_, fun h => absurd rfl h⟩
  refine k1_tw (s := sk s) [119, 111, 114, 116, 104] rfl (by omega) (Tx1_up hT) (nx a1 h1) (fun e a ha => ?_) (fun n2 a2 h2 => ?_)
  · rw [sk_sk] at e ha
    have ez : nmZ w = 2 := by unfold nmZ; rw [if_neg n0, if_neg n1, if_pos (by rw [ew]; exact e)]
    exact ⟨fun h => absurd h (by decide), fun _ => ⟨_, rfl, ez.symm, a, up_up, by rw [ez]; exact ha⟩⟩
  rw [sk_sk] at n2 h2
  rw [← ew] at n2
  rw [up_up]
  refine ⟨fun _ => ?_, fun h => absurd rfl h⟩
  refine k1_tw (s := sk s) [118, 111, 105, 100] rfl (by omega) (Tx1_up hT) (nx a2 h2) (fun e a ha => ?_) (fun n3 a3 h3 => ?_)
  · rw [sk_sk] at e ha
    have ez : nmZ w = 3 := by unfold nmZ; rw [if_neg n0, if_neg n1, if_neg n2, if_pos (by rw [ew]; exact e)]
    exact ⟨fun h => absurd h (by decide), fun _ => ⟨_, rfl, ez.symm, a, up_up, by rw [ez]; exact ha⟩⟩
  rw [sk_sk] at n3 h3
  rw [← ew] at n3
  rw [up_up]
  refine ⟨fun _ => ?_, fun h => absurd rfl h⟩
  refine k1_tw (s := sk s) [108, 97, 112, 115, 101, 100] rfl (by omega) (Tx1_up hT) (nx a3 h3) (fun e a ha => ?_) (fun n4 a4 h4 => ?_)
  · rw [sk_sk] at e ha
    have ez : nmZ w = 4 := by unfold nmZ; rw [if_neg n0, if_neg n1, if_neg n2, if_neg n3, if_pos (by rw [ew]; exact e)]
    exact ⟨fun h => absurd h (by decide), fun _ => ⟨_, rfl, ez.symm, a, up_up, by rw [ez]; exact ha⟩⟩
  rw [sk_sk] at n4 h4
  rw [← ew] at n4
  rw [up_up]
  refine ⟨fun _ => ?_, fun h => absurd rfl h⟩
  refine k1_tw (s := sk s) [100, 101, 99, 97, 121] rfl (by omega) (Tx1_up hT) (nx a4 h4) (fun e a ha => ?_) (fun n5 a5 h5 => ?_)
  · rw [sk_sk] at e ha
    have ez : nmZ w = 5 := by unfold nmZ; rw [if_neg n0, if_neg n1, if_neg n2, if_neg n3, if_neg n4, if_pos (by rw [ew]; exact e)]
    exact ⟨fun h => absurd h (by decide), fun _ => ⟨_, rfl, ez.symm, a, up_up, by rw [ez]; exact ha⟩⟩
  rw [sk_sk] at n5 h5
  rw [← ew] at n5
  rw [up_up]
  refine ⟨fun _ => ?_, fun h => absurd rfl h⟩
  refine k1_tw (s := sk s) [115, 116, 101, 112, 115] rfl (by omega) (Tx1_up hT) (nx a5 h5) (fun e a ha => ?_) (fun n6 a6 h6 => ?_)
  · rw [sk_sk] at e ha
    have ez : nmZ w = 6 := by unfold nmZ; rw [if_neg n0, if_neg n1, if_neg n2, if_neg n3, if_neg n4, if_neg n5, if_pos (by rw [ew]; exact e)]
    exact ⟨fun h => absurd h (by decide), fun _ => ⟨_, rfl, ez.symm, a, up_up, by rw [ez]; exact ha⟩⟩
  rw [sk_sk] at n6 h6
  rw [← ew] at n6
  rw [up_up]
  refine ⟨fun _ => ?_, fun h => absurd rfl h⟩
  refine k1_tw (s := sk s) [102, 101, 101] rfl (by omega) (Tx1_up hT) (nx a6 h6) (fun e a ha => ?_) (fun n7 a7 h7 => ?_)
  · rw [sk_sk] at e ha
    have ez : nmZ w = 7 := by unfold nmZ; rw [if_neg n0, if_neg n1, if_neg n2, if_neg n3, if_neg n4, if_neg n5, if_neg n6, if_pos (by rw [ew]; exact e)]
    exact ⟨fun h => absurd h (by decide), fun _ => ⟨_, rfl, ez.symm, a, up_up, by rw [ez]; exact ha⟩⟩
  rw [sk_sk] at n7 h7
  rw [← ew] at n7
  rw [up_up]
  have ez : nmZ w = -1 := by unfold nmZ; rw [if_neg n0, if_neg n1, if_neg n2, if_neg n3, if_neg n4, if_neg n5, if_neg n6, if_neg n7]
  exact ⟨fun _ => ⟨_, rfl, ez.symm, a7, rfl, by rw [ez]; exact h7⟩, fun h => absurd rfl h⟩
theorem s1_Reader_clauseWord {X s : List Int} {M : AM} (hT : Tx1 X M) (hs : Sfx X s (M 35 5)) : aCi s1_G 6 51 [aP 35] M (fun z M' => z = clZ (wd (sk s)) ∧ ∃ a, M' = am_up M 35 5 a ∧ Sfx X (if clZ (wd (sk s)) = -1 then sk s else we (sk s)) a) := by
  refine ⟨Nat.le_of_ble_eq_true rfl, fun d hd => ?_⟩
  refine s1_Reader_clauseWord_0 (by omega) ?_
  obtain ⟨w, ew⟩ : ∃ w, w = wd (sk s) := ⟨_, rfl⟩
  have nx : ∀ a, Sfx X (sk s) a → Sfx X (sk s) ((am_up M 35 5 a) 35 5) := fun a h => by rw [x_us]; exact h
  rw [← ew]
  refine k1_tw [108, 101, 116] rfl (by omega) hT hs (fun e a ha => ?_) (fun n0 a0 h0 => ?_)
  · have ez : clZ w = 0 := by unfold clZ; rw [if_pos (by rw [ew]; exact e)]
    exact ⟨fun h => absurd h (by decide), fun _ => ⟨_, rfl, ez.symm, a, rfl, by rw [ez]; exact ha⟩⟩
  rw [← ew] at n0
  refine ⟨fun _ => ?_, fun h => absurd rfl h⟩
  refine k1_tw (s := sk s) [98, 97, 114] rfl (by omega) (Tx1_up hT) (nx a0 h0) (fun e a ha => ?_) (fun n1 a1 h1 => ?_)
  · rw [sk_sk] at e ha
    have ez : clZ w = 1 := by unfold clZ; rw [if_neg n0, if_pos (by rw [ew]; exact e)]
    exact ⟨fun h => absurd h (by decide), fun _ => ⟨_, rfl, ez.symm, a, up_up, by rw [ez]; exact ha⟩⟩
  rw [sk_sk] at n1 h1
  rw [← ew] at n1
  rw [up_up]
  refine ⟨fun _ => ?_, fun h => absurd rfl h⟩
  refine k1_tw (s := sk s) [115, 116, 114, 105, 107, 101] rfl (by omega) (Tx1_up hT) (nx a1 h1) (fun e a ha => ?_) (fun n2 a2 h2 => ?_)
  · rw [sk_sk] at e ha
    have ez : clZ w = 2 := by unfold clZ; rw [if_neg n0, if_neg n1, if_pos (by rw [ew]; exact e)]
    exact ⟨fun h => absurd h (by decide), fun _ => ⟨_, rfl, ez.symm, a, up_up, by rw [ez]; exact ha⟩⟩
  rw [sk_sk] at n2 h2
  rw [← ew] at n2
  rw [up_up]
  have ez : clZ w = -1 := by unfold clZ; rw [if_neg n0, if_neg n1, if_neg n2]
  exact ⟨fun _ => ⟨_, rfl, ez.symm, a2, rfl, by rw [ez]; exact h2⟩, fun h => absurd rfl h⟩
/-- the sign of a comparison; -1 -/
def sgZ : List Int → Int
  | [] => -1
  | c :: _ => if c = 60 then 0 else if c = 62 then 1 else if c = 61 then 2 else -1
def sgR (u : List Int) : List Int := if sgZ u = -1 then u else u.tail
theorem s1_Reader_compareSign {X s : List Int} {M : AM} (hT : Tx1 X M) (hs : Sfx X s (M 35 5)) : aCi s1_G 6 54 [aP 35] M (fun z M' => z = sgZ (sk s) ∧ ∃ a, M' = am_up M 35 5 a ∧ Sfx X (sgR (sk s)) a) := by
  refine ⟨Nat.le_of_ble_eq_true rfl, fun d hd => ?_⟩
  refine s1_Reader_compareSign_0 (by omega) ?_
  have nx : ∀ a, Sfx X (sk s) a → Sfx X (sk s) ((am_up M 35 5 a) 35 5) := fun a h => by rw [x_us]; exact h
  unfold sgR
  refine k1_ts (by omega) hT hs (fun r e a ha => ?_) (fun n0 a0 h0 => ?_)
  · rw [e]
    exact ⟨fun h => absurd h (by decide), fun _ => ⟨_, rfl, rfl, a, rfl, ha⟩⟩
  refine ⟨fun _ => ?_, fun h => absurd rfl h⟩
  refine k1_ts (s := sk s) (by omega) (Tx1_up hT) (nx a0 h0) (fun r e a ha => ?_) (fun n1 a1 h1 => ?_)
  · rw [sk_sk] at e
    rw [e]
    exact ⟨fun h => absurd h (by decide), fun _ => ⟨_, rfl, rfl, a, up_up, ha⟩⟩
  rw [sk_sk] at n1 h1
  rw [up_up]
  refine ⟨fun _ => ?_, fun h => absurd rfl h⟩
  refine k1_ts (s := sk s) (by omega) (Tx1_up hT) (nx a1 h1) (fun r e a ha => ?_) (fun n2 a2 h2 => ?_)
  · rw [sk_sk] at e
    rw [e]
    exact ⟨fun h => absurd h (by decide), fun _ => ⟨_, rfl, rfl, a, up_up, ha⟩⟩
  rw [sk_sk] at n2 h2
  rw [up_up]
  have ez : sgZ (sk s) = -1 := by
    match e : sk s with
    | [] => rfl
    | c :: r =>
      show (if c = 60 then (0 : Int) else if c = 62 then 1 else if c = 61 then 2 else -1) = -1
      rw [if_neg (fun q => n0 r (by rw [e, q])), if_neg (fun q => n1 r (by rw [e, q])), if_neg (fun q => n2 r (by rw [e, q]))]
  exact ⟨fun _ => ⟨_, rfl, ez.symm, a2, rfl, by rw [if_pos ez]; exact h2⟩, fun h => absurd rfl h⟩
-- NUMBERS
def numV (l : List Int) : Int := l.foldl (fun v c => 10 * v + c - 48) 0
theorem numV_snoc {l : List Int} {c : Int} : numV (l ++ [c]) = 10 * numV l + c - 48 := by unfold numV; rw [List.foldl_append]; rfl
theorem dgs_all : ∀ (s : List Int), ∀ c ∈ dgs s, 48 ≤ c ∧ c ≤ 57
  | [], c, h => by cases h
  | x :: r, c, h => by
    unfold dgs at h
    split at h
    next g =>
      rcases List.mem_cons.mp h with rfl | h
      · exact g
      · exact dgs_all r c h
    · cases h
theorem numV_rg (l : List Int) : ∀ n : Nat, n ≤ l.length → (∀ c ∈ l, 48 ≤ c ∧ c ≤ 57) → 0 ≤ numV (l.take n) ∧ numV (l.take n) < 10 ^ n
  | 0, _, _ => by rw [List.take_zero]; exact ⟨Int.le_refl _, by decide⟩
  | n + 1, hn, h => by
    have ih := numV_rg l n (by omega) h
    rw [List.take_succ_eq_append_getElem (by omega), numV_snoc]
    have hc := h l[n] (List.getElem_mem (by omega))
    rw [Int.pow_succ]
    omega
theorem numV_4 {s : List Int} : 0 ≤ numV ((dgs s).take 4) ∧ numV ((dgs s).take 4) ≤ 9999 := by
  by_cases h : 4 ≤ (dgs s).length
  · have := numV_rg (dgs s) 4 h (dgs_all s)
    omega
  · have := numV_rg (dgs s) (dgs s).length (Nat.le_refl _) (dgs_all s)
    rw [List.take_length] at this
    rw [List.take_of_length_le (by omega)]
    have h3 : (dgs s).length = 0 ∨ (dgs s).length = 1 ∨ (dgs s).length = 2 ∨ (dgs s).length = 3 := by omega
    rcases h3 with h3 | h3 | h3 | h3 <;> rw [h3] at this <;> omega
def nmF (most : Int) (l : List Int) : Int := if l = [] then 1 else if 4 < l.length ∨ most < numV (l.take 4) then 2 else 0
theorem s1_Reader_fail {M : AM} {f p : Int} : aCv s1_G 4 40 [aP 35, aI f, aI p] M (fun M' => M' = if M 35 4 = 0 then am_up (am_up M 35 4 f) 35 3 p else M) := by
  refine ⟨Nat.le_of_ble_eq_true rfl, fun d hd => ?_⟩
  refine s1_Reader_fail_0 (by omega) ?_
  exact ⟨fun h => ⟨rfl, by rw [if_neg h]⟩, fun h => ⟨rfl, by rw [if_pos h]⟩⟩
def flt1 (f p : Int) (M : AM) : AM := if f = 0 then M else am_up (am_up M 35 4 f) 35 3 p
theorem s1_Reader_readNumber {X s : List Int} {M : AM} {most : Int} (hT : Tx1 X M) (hs : Sfx X s (M 35 5)) (h0 : M 35 4 = 0) : aCi s1_G 5 46 [aP 35, aI most] M (fun z M' => z = numV ((dgs (sk s)).take 4) ∧ ∃ a, Sfx X (dge (sk s)) a ∧ M' = flt1 (nmF most (dgs (sk s))) (X.length - (sk s).length) (am_up M 35 5 a)) := by
  refine ⟨Nat.le_of_ble_eq_true rfl, fun d hd => ?_⟩
  refine s1_Reader_readNumber_0 (by omega) ?_
  refine aKv_of (s1_Reader_skipBlanks s M hT hs) (by omega) (fun M1 q => ?_)
  obtain ⟨a, rfl, ha⟩ := q
  have hl := hT.2.2
  have hr := Sfx_rg ha
  obtain ⟨u, eu⟩ : ∃ u, u = sk s := ⟨_, rfl⟩
  rw [x_us]
  rw [← eu] at ha hr ⊢
  have hX : isL (M 36) X := hT.2.1
  have fin : ∀ (pre t : List Int), u = pre ++ t → dgs u = pre → (a + (pre.length : Int) ≠ a → (4 < a_sub (a + pre.length) a → aKv s1_G d 40 [aP 35, aI 2, aI a] (am_up M 35 5 (a + pre.length)) (fun M1 => ∃ z, (some (aI (numV (pre.take 4))) : Option AV) = some (aI z) ∧ z = numV ((dgs u).take 4) ∧ ∃ a', Sfx X (dge u) a' ∧ M1 = flt1 (nmF most (dgs u)) (X.length - u.length) (am_up M 35 5 a'))) ∧ (a_sub (a + pre.length) a ≤ 4 → (numV (pre.take 4) ≤ most → ∃ z, (some (aI (numV (pre.take 4))) : Option AV) = some (aI z) ∧ z = numV ((dgs u).take 4) ∧ ∃ a', Sfx X (dge u) a' ∧ am_up M 35 5 (a + pre.length) = flt1 (nmF most (dgs u)) (X.length - u.length) (am_up M 35 5 a')) ∧ (most < numV (pre.take 4) → aKv s1_G d 40 [aP 35, aI 2, aI a] (am_up M 35 5 (a + pre.length)) (fun M1 => ∃ z, (some (aI (numV (pre.take 4))) : Option AV) = some (aI z) ∧ z = numV ((dgs u).take 4) ∧ ∃ a', Sfx X (dge u) a' ∧ M1 = flt1 (nmF most (dgs u)) (X.length - u.length) (am_up M 35 5 a'))))) ∧ (a + (pre.length : Int) = a → aKv s1_G d 40 [aP 35, aI 1, aI a] (am_up M 35 5 (a + pre.length)) (fun M1 => ∃ z, (some (aI (numV (pre.take 4))) : Option AV) = some (aI z) ∧ z = numV ((dgs u).take 4) ∧ ∃ a', Sfx X (dge u) a' ∧ M1 = flt1 (nmF most (dgs u)) (X.length - u.length) (am_up M 35 5 a'))) := by
    intro pre t e1 e2
    have h1 := congrArg List.length e1
    rw [List.length_append] at h1
    have hde : dge u = t := by
      have := dgs_dge u
      rw [e2] at this
      rw [e1] at this ⊢
      exact List.append_cancel_left this
    have hsf : Sfx X (dge u) (a + pre.length) := by
      rw [hde]
      rw [e1] at ha
      exact Sfx_go ha
    have hpl : a = X.length - u.length := Sfx_pl ha
    have bad : ∀ f, f ≠ 0 → nmF most (dgs u) = f → aKv s1_G d 40 [aP 35, aI f, aI a] (am_up M 35 5 (a + pre.length)) (fun M1 => ∃ z, (some (aI (numV (pre.take 4))) : Option AV) = some (aI z) ∧ z = numV ((dgs u).take 4) ∧ ∃ a', Sfx X (dge u) a' ∧ M1 = flt1 (nmF most (dgs u)) (X.length - u.length) (am_up M 35 5 a')) := by
      intro f hf hn
      refine aKv_of s1_Reader_fail (by omega) (fun M1 q => ?_)
      rw [x_uf (by decide), if_pos h0] at q
      refine ⟨_, rfl, by rw [e2], _, hsf, ?_⟩
      rw [q, hn]
      unfold flt1
      rw [if_neg hf, ← hpl]
    rw [x_sub (by omega)]
    refine ⟨fun g1 => ⟨fun g2 => bad 2 (by decide) ?_, fun g2 => ⟨fun g3 => ⟨_, rfl, by rw [e2], _, hsf, ?_⟩, fun g3 => bad 2 (by decide) ?_⟩⟩, fun g1 => bad 1 (by decide) ?_⟩
    · unfold nmF
      rw [e2, if_neg (fun q => by rw [q] at g1; exact g1 (by simp)), if_pos (Or.inl (by omega))]
    · have : nmF most (dgs u) = 0 := by
        unfold nmF
        rw [e2, if_neg (fun q => by rw [q] at g1; exact g1 (by simp)), if_neg (by omega)]
      rw [this]
      rfl
    · unfold nmF
      rw [e2, if_neg (fun q => by rw [q] at g1; exact g1 (by simp)), if_pos (Or.inr g3)]
    · unfold nmF
      rw [e2, if_pos (List.length_eq_zero_iff.mp (by omega))]
  have key : ∀ (t pre : List Int), u = pre ++ t → dgs u = pre ++ dgs t → aE s1_G d 46 11 [] [some (aP 35), some (aI most), some (aI a), some (aI (numV (pre.take 4)))] [] (am_up M 35 5 (a + pre.length)) (fun r M' => ∃ z, r = some (aI z) ∧ z = numV ((dgs u).take 4) ∧ ∃ a', Sfx X (dge u) a' ∧ M' = flt1 (nmF most (dgs u)) (X.length - u.length) (am_up M 35 5 a')) := by
    intro t
    induction t with
    | nil =>
      intro pre e1 e2
      have h1 := congrArg List.length e1
      rw [List.length_append] at h1
      simp only [List.length_nil] at h1
      refine s1_Reader_readNumber_11 (by omega) ?_
      rw [(Tx1_up hT).1, x_us]
      exact ⟨fun _ => fin pre [] e1 (by rw [e2]; simp [dgs]), fun h => absurd h (by omega)⟩
    | cons c t ih =>
      intro pre e1 e2
      have h1 := congrArg List.length e1
      rw [List.length_append] at h1
      simp only [List.length_cons] at h1
      have hc : (am_up M 35 5 (a + pre.length)) 36 (a + pre.length) = c := by
        rw [x_uk (by decide)]
        exact Sfx_at (X := X) (Sfx_go (u := pre) (by rw [← e1]; exact ha)) hX
      have no : ¬ (48 ≤ c ∧ c ≤ 57) → dgs u = pre := fun h => by rw [e2, show dgs (c :: t) = [] from if_neg h]; simp
      refine s1_Reader_readNumber_11 (by omega) ?_
      rw [(Tx1_up hT).1, x_us, hc]
      refine ⟨fun h => absurd h (by omega), fun _ => ⟨by omega, fun h => fin pre (c :: t) e1 (no (by omega)), fun h => ⟨by omega, fun g => fin pre (c :: t) e1 (no (by omega)), fun g => ?_⟩⟩⟩
      have hy : dgs (c :: t) = c :: dgs t := if_pos ⟨h, g⟩
      have hall : ∀ x ∈ pre, 48 ≤ x ∧ x ≤ 57 := fun x hx => dgs_all u x (by rw [e2]; simp [hx])
      have ih := ih (pre ++ [c]) (by rw [e1]; simp) (by rw [e2, hy]; simp)
      rw [List.length_append] at ih
      rw [x_sub (a := a + pre.length) (by omega), x_add (a := a + pre.length) (by omega), up_up]
      rw [show a + (pre.length : Int) + 1 = a + ((pre.length + [c].length : Nat) : Int) by simp; omega]
      refine ⟨fun k => ?_, fun k => ⟨by omega, ?_⟩⟩
      · rw [List.take_append_of_le_length (by omega)] at ih
        exact ih
      · have e4 : pre.take 4 = pre := List.take_of_length_le (by omega)
        have hv := numV_rg pre pre.length (Nat.le_refl _) hall
        rw [List.take_length] at hv
        have hv2 : numV pre ≤ 9999 := by
          have h3 : pre.length = 0 ∨ pre.length = 1 ∨ pre.length = 2 ∨ pre.length = 3 := by omega
          rcases h3 with h3 | h3 | h3 | h3 <;> rw [h3] at hv <;> omega
        rw [e4, x_mul (by omega), x_add (by omega), x_sub (by omega)]
        rw [List.take_of_length_le (by simp; omega), numV_snoc] at ih
        exact ih
  have := key u [] rfl rfl
  simpa [numV] using this
