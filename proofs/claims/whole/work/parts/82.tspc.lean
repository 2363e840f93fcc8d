/-! TESTS, abstractly: a text read into codes; 'cs' as the first system writes them, 'rs' as the second -/
abbrev TR : Type := Int × List Int × List Int × List Int × List Int
abbrev TR.f (R : TR) : Int := R.1
abbrev TR.q (R : TR) : List Int := R.2.1
abbrev TR.s (R : TR) : List Int := R.2.2.1
abbrev TR.cs (R : TR) : List Int := R.2.2.2.1
abbrev TR.rs (R : TR) : List Int := R.2.2.2.2
def wNOT : List Int := [110, 111, 116]
def wAND : List Int := [97, 110, 100]
def wOR : List Int := [111, 114]
def wUNL : List Int := [117, 110, 108, 101, 115, 115]
def cK (k : Nat) : List Int := if k % 2 = 1 then [-3] else []
def jA (b : Bool) : List Int := if b then [-1] else []
def jO (b : Bool) : List Int := if b then [-2] else []
def bN (b : Bool) : Nat := if b then 1 else 0
/-- behind an operand; 'rec' reads the next -/
def aftT (rec : Bool → Bool → List Int → List Int → List Int → TR) (ja jo : Bool) (k : Nat) (s cs rs : List Int) : TR :=
  if wd (sk s) = wAND then rec true jo (we (sk s)) (cs ++ cK k ++ jA ja) (rs ++ List.replicate k (-3) ++ jA ja)
  else if wd (sk s) = wOR then rec false true (we (sk s)) (cs ++ cK k ++ jA ja ++ jO jo) (rs ++ List.replicate k (-3) ++ jA ja ++ jO jo)
  else (0, [], sk s, cs ++ cK k ++ jA ja ++ jO jo, rs ++ List.replicate k (-3) ++ jA ja ++ jO jo)
/-- a comparison: its fault and where, what is left, its code -/
def cmpT (s : List Int) : Int × List Int × List Int × Int :=
  if fcZ (wd (sk s)) = -1 then (1, sk s, sk s, 0)
  else if sgZ (sk (we (sk s))) = -1 then (1, sk (we (sk s)), sk (we (sk s)), 0)
  else (nmF 9999 (dgs (sk (sk (we (sk s))).tail)), sk (sk (we (sk s))).tail, dge (sk (sk (we (sk s))).tail), (fcZ (wd (sk s)) * 3 + sgZ (sk (we (sk s)))) * 10000 + numV ((dgs (sk (sk (we (sk s))).tail)).take 4))
def rT : Nat → Nat → Bool → Bool → Nat → List Int → List Int → List Int → TR
  | 0, _, _, _, _, s, cs, rs => (1, [], s, cs, rs)
  | f + 1, o, ja, jo, k, s, cs, rs =>
    if wd (sk s) = wNOT then rT f o ja jo (k + 1) (we (sk s)) cs rs
    else if (tSg 40 s).1 then
      (if 8 ≤ o then (5, sk s, sk s, cs, rs)
      else if (rT f (o + 1) false false 0 (tSg 40 s).2 cs rs).f ≠ 0 then rT f (o + 1) false false 0 (tSg 40 s).2 cs rs
      else if (tSg 41 (rT f (o + 1) false false 0 (tSg 40 s).2 cs rs).s).1 then aftT (fun ja jo s cs rs => rT f o ja jo 0 s cs rs) ja jo k (tSg 41 (rT f (o + 1) false false 0 (tSg 40 s).2 cs rs).s).2 (rT f (o + 1) false false 0 (tSg 40 s).2 cs rs).cs (rT f (o + 1) false false 0 (tSg 40 s).2 cs rs).rs
      else (1, sk (rT f (o + 1) false false 0 (tSg 40 s).2 cs rs).s, sk (rT f (o + 1) false false 0 (tSg 40 s).2 cs rs).s, cs, rs))
    else if (cmpT s).1 ≠ 0 then ((cmpT s).1, (cmpT s).2.1, (cmpT s).2.2.1, cs, rs)
    else aftT (fun ja jo s cs rs => rT f o ja jo 0 s cs rs) ja jo k (cmpT s).2.2.1 (cs ++ [(cmpT s).2.2.2]) (rs ++ [(cmpT s).2.2.2])
-- lengths
theorem tSg_t {c : Int} {s : List Int} (h : (tSg c s).1 = true) : sk s = c :: (tSg c s).2 := by
  match e : sk s with
  | [] => rw [tSg_n e] at h; cases h
  | x :: r =>
    rw [tSg_c e] at h ⊢
    split at h
    next g => rw [if_pos g, g]
    · cases h
theorem tSg_f {c : Int} {s : List Int} (h : (tSg c s).1 = false) : (tSg c s).2 = sk s ∧ ∀ r, sk s ≠ c :: r := by
  match e : sk s with
  | [] => rw [tSg_n e]; exact ⟨rfl, fun r => by simp⟩
  | x :: r =>
    rw [tSg_c e] at h ⊢
    split at h
    · cases h
    next g =>
      rw [if_neg g]
      exact ⟨rfl, fun r' q => g (List.cons.inj q).1⟩
theorem cK_le (k : Nat) : (cK k).length ≤ k := by
  unfold cK
  split
  · simp; omega
  · simp
theorem jA_len (b : Bool) : (jA b).length = bN b := by cases b <;> rfl
theorem jO_len (b : Bool) : (jO b).length = bN b := by cases b <;> rfl
theorem fcZ_len {w : List Int} (h : fcZ w ≠ -1) : 3 ≤ w.length := by
  unfold fcZ at h
  split at h
  next e => rw [e]; decide
  · split at h
    next e => rw [e]; decide
    · split at h
      next e => rw [e]; decide
      · split at h
        next e => rw [e]; decide
        · split at h
          next e => rw [e]; decide
          · split at h
            next e => rw [e]; decide
            · exact absurd rfl h
theorem fcZ_rg (w : List Int) : -1 ≤ fcZ w ∧ fcZ w ≤ 5 := by
  unfold fcZ
  repeat' (first | omega | split)
theorem sgZ_rg (u : List Int) : -1 ≤ sgZ u ∧ sgZ u ≤ 2 := by
  match u with
  | [] => decide
  | c :: r =>
    show -1 ≤ (if c = 60 then (0 : Int) else if c = 62 then 1 else if c = 61 then 2 else -1) ∧ (if c = 60 then (0 : Int) else if c = 62 then 1 else if c = 61 then 2 else -1) ≤ 2
    repeat' (first | omega | split)
theorem cmp_len {s : List Int} (h : (cmpT s).1 = 0) : (cmpT s).2.2.1.length + 5 ≤ s.length ∧ 0 ≤ (cmpT s).2.2.2 ∧ (cmpT s).2.2.2 < 180000 := by
  unfold cmpT at h ⊢
  split at h
  · cases h
  next h1 =>
    rw [if_neg h1]
    split at h
    · cases h
    next h2 =>
      rw [if_neg h2]
      dsimp only at h ⊢
      have a1 := sk_len s
      have a2 := we_len (sk s)
      have a3 := fcZ_len h1
      have a4 := sk_len (we (sk s))
      have a5 := sk_len (sk (we (sk s))).tail
      have a6 := dge_len (sk (sk (we (sk s))).tail)
      have a7 := List.length_tail (l := sk (we (sk s)))
      have a8 : 0 < (sk (we (sk s))).length := by
        cases e : sk (we (sk s)) with
        | nil => rw [e] at h2; exact absurd rfl h2
        | cons c r => simp
      have a9 : 0 < (dgs (sk (sk (we (sk s))).tail)).length := by
        cases e : dgs (sk (sk (we (sk s))).tail) with
        | nil => rw [e] at h; exact absurd h (by decide)
        | cons c r => simp
      have b1 := fcZ_rg (wd (sk s))
      have b2 := sgZ_rg (sk (we (sk s)))
      have b3 := numV_4 (s := sk (sk (we (sk s))).tail)
      omega
/-- what the reading of a test keeps to -/
def rLen (k ja jo : Nat) (s cs rs : List Int) (R : TR) : Prop := R.s.length ≤ s.length ∧ 2 * R.cs.length + R.s.length ≤ 2 * cs.length + 2 * k + 2 * ja + 2 * jo + s.length ∧ 2 * R.rs.length + R.s.length ≤ 2 * rs.length + 2 * k + 2 * ja + 2 * jo + s.length ∧ sk R.s = R.s ∧ wd R.s ≠ wAND ∧ wd R.s ≠ wOR
theorem aft_len {rec : Bool → Bool → List Int → List Int → List Int → TR} {ja jo : Bool} {k : Nat} {s cs rs : List Int} (hr : ∀ ja jo s cs rs, (rec ja jo s cs rs).f = 0 → rLen 0 (bN ja) (bN jo) s cs rs (rec ja jo s cs rs)) (h : (aftT rec ja jo k s cs rs).f = 0) : rLen k (bN ja) (bN jo) s cs rs (aftT rec ja jo k s cs rs) := by
  have a1 := sk_len s
  have a2 := we_len (sk s)
  have a3 := cK_le k
  have a4 := jA_len ja
  have a5 := jO_len jo
  unfold aftT at h ⊢
  split at h
  next e =>
    rw [if_pos e]
    have := hr _ _ _ _ _ h
    unfold rLen at this ⊢
    have e3 : (wd (sk s)).length = 3 := by rw [e]; rfl
    simp only [List.length_append, List.length_replicate] at this
    rw [show bN true = 1 from rfl] at this
    refine ⟨by omega, by omega, by omega, this.2.2.2⟩
  next e =>
    rw [if_neg e]
    split at h
    next e2 =>
      rw [if_pos e2]
      have := hr _ _ _ _ _ h
      unfold rLen at this ⊢
      have e3 : (wd (sk s)).length = 2 := by rw [e2]; rfl
      simp only [List.length_append, List.length_replicate] at this
      rw [show bN true = 1 from rfl, show bN false = 0 from rfl] at this
      refine ⟨by omega, by omega, by omega, this.2.2.2⟩
    next e2 =>
      rw [if_neg e2]
      unfold rLen
      simp only [TR.s, TR.cs, TR.rs, List.length_append, List.length_replicate]
      exact ⟨a1, by omega, by omega, sk_sk s, e, e2⟩
theorem rT_len : ∀ (f o : Nat) (ja jo : Bool) (k : Nat) (s cs rs : List Int), (rT f o ja jo k s cs rs).f = 0 → rLen k (bN ja) (bN jo) s cs rs (rT f o ja jo k s cs rs)
  | 0, _, _, _, _, _, _, _, h => by cases h
  | f + 1, o, ja, jo, k, s, cs, rs, h => by
    have a1 := sk_len s
    have a2 := we_len (sk s)
    unfold rT at h ⊢
    split at h
    next e =>
      rw [if_pos e]
      have := rT_len f o ja jo (k + 1) (we (sk s)) cs rs h
      have e3 : (wd (sk s)).length = 3 := by rw [e]; rfl
      unfold rLen at this ⊢
      refine ⟨by omega, by omega, by omega, this.2.2.2⟩
    next e =>
      rw [if_neg e]
      split at h
      next e2 =>
        rw [if_pos e2]
        split at h
        · cases h
        next e3 =>
          rw [if_neg e3]
          split at h
          next e4 => exact absurd h e4
          next e4 =>
            rw [if_neg e4]
            have e4' := Decidable.not_not.mp e4
            have i1 := rT_len f (o + 1) false false 0 (tSg 40 s).2 cs rs e4'
            have b1 := congrArg List.length (tSg_t e2)
            split at h
            next e5 =>
              rw [if_pos e5]
              have i2 := aft_len (k := k) (fun ja jo s cs rs hh => rT_len f o ja jo 0 s cs rs hh) h
              have b2 := congrArg List.length (tSg_t e5)
              have b3 := sk_len (rT f (o + 1) false false 0 (tSg 40 s).2 cs rs).s
              simp only [List.length_cons] at b1 b2
              generalize aftT (fun ja jo s cs rs => rT f o ja jo 0 s cs rs) ja jo k (tSg 41 (rT f (o + 1) false false 0 (tSg 40 s).2 cs rs).s).2 (rT f (o + 1) false false 0 (tSg 40 s).2 cs rs).cs (rT f (o + 1) false false 0 (tSg 40 s).2 cs rs).rs = R2 at i2 ⊢
              generalize rT f (o + 1) false false 0 (tSg 40 s).2 cs rs = R at i1 i2 b2 b3
              unfold rLen at i1 i2 ⊢
              rw [show bN false = 0 from rfl] at i1
              refine ⟨by omega, by omega, by omega, i2.2.2.2⟩
            · cases h
      next e2 =>
        rw [if_neg e2]
        split at h
        next e3 => exact absurd h e3
        next e3 =>
          rw [if_neg e3]
          have c1 := cmp_len (Decidable.not_not.mp e3)
          have i2 := aft_len (k := k) (fun ja jo s cs rs hh => rT_len f o ja jo 0 s cs rs hh) h
          generalize aftT (fun ja jo s cs rs => rT f o ja jo 0 s cs rs) ja jo k (cmpT s).2.2.1 (cs ++ [(cmpT s).2.2.2]) (rs ++ [(cmpT s).2.2.2]) = R2 at i2 ⊢
          unfold rLen at i2 ⊢
          simp only [List.length_append, List.length_cons, List.length_nil] at i2
          refine ⟨by omega, by omega, by omega, i2.2.2.2⟩
-- what the codes say
/-- two lists of codes of one truth -/
def eqC (n : Nat) (cs rs : List Int) : Prop := (∃ m, m ≤ 40 ∧ dpL cs = some (n, m)) ∧ (∃ m, m ≤ 40 ∧ dpL rs = some (n, m)) ∧ ∀ g, evL g [] cs = evL g [] rs
theorem dpL_app {a b : List Int} : dpL (a ++ b) = b.foldl dpC (dpL a) := by unfold dpL; rw [List.foldl_append]
theorem evL_app {g : Int → Bool} {st : List Bool} {a b : List Int} : evL g st (a ++ b) = evL g (evL g st a) b := by unfold evL; rw [List.foldl_append]
theorem eqC_len {n : Nat} {cs rs : List Int} (h : eqC n cs rs) (g : Int → Bool) : (evL g [] cs).length = n := by
  obtain ⟨⟨m, _, hm⟩, _⟩ := h
  exact evL_len g cs [] 0 n m hm
theorem eqC_cmp {n : Nat} {cs rs : List Int} {v : Int} (h : eqC n cs rs) (hn : n < 40) (hv : 0 ≤ v ∧ v < 180000) : eqC (n + 1) (cs ++ [v]) (rs ++ [v]) := by
  obtain ⟨⟨m, h1, h2⟩, ⟨m', h3, h4⟩, h5⟩ := h
  have key : ∀ k, some (n, k) = some (n, k) → [v].foldl dpC (some (n, k)) = some (n + 1, max k (n + 1)) := fun k _ => by
    show dpC (some (n, k)) v = _
    rw [dpC_s, if_neg (by omega), if_neg (by omega), if_pos hv]
  refine ⟨⟨max m (n + 1), by omega, by rw [dpL_app, h2, key m rfl]⟩, ⟨max m' (n + 1), by omega, by rw [dpL_app, h4, key m' rfl]⟩, fun g => ?_⟩
  rw [evL_app, evL_app, h5 g]
theorem eqC_two {n : Nat} {cs rs : List Int} {v : Int} (h : eqC (n + 2) cs rs) (hv : v = -1 ∨ v = -2) : eqC (n + 1) (cs ++ [v]) (rs ++ [v]) := by
  obtain ⟨⟨m, h1, h2⟩, ⟨m', h3, h4⟩, h5⟩ := h
  have key : ∀ k, [v].foldl dpC (some (n + 2, k)) = some (n + 1, k) := fun k => by
    show dpC (some (n + 2, k)) v = _
    rw [dpC_s, if_neg (by omega), if_pos hv, if_neg (by omega)]
    rfl
  refine ⟨⟨m, h1, by rw [dpL_app, h2, key]⟩, ⟨m', h3, by rw [dpL_app, h4, key]⟩, fun g => ?_⟩
  rw [evL_app, evL_app, h5 g]
theorem dp_nots (n m : Nat) : ∀ k : Nat, (List.replicate k (-3 : Int)).foldl dpC (some (n + 1, m)) = some (n + 1, m)
  | 0 => rfl
  | k + 1 => by
    rw [List.replicate_succ, List.foldl_cons, dpC_s, if_pos rfl, if_neg (by omega)]
    exact dp_nots n m k
theorem ev_nots (g : Int → Bool) (r : List Bool) : ∀ (k : Nat) (a : Bool), evL g (a :: r) (List.replicate k (-3)) = (if k % 2 = 1 then !a else a) :: r
  | 0, _ => rfl
  | k + 1, a => by
    rw [List.replicate_succ]
    show evL g (evC g (a :: r) (-3)) (List.replicate k (-3)) = _
    rw [evC_i rfl, ev_nots g r k (!a)]
    by_cases h : k % 2 = 1
    · rw [if_pos h, if_neg (by omega), Bool.not_not]
    · rw [if_neg h, if_pos (by omega)]
theorem eqC_nots {n k : Nat} {cs rs : List Int} (h : eqC (n + 1) cs rs) : eqC (n + 1) (cs ++ cK k) (rs ++ List.replicate k (-3)) := by
  have hl := fun g => eqC_len h g
  obtain ⟨⟨m, h1, h2⟩, ⟨m', h3, h4⟩, h5⟩ := h
  refine ⟨⟨m, h1, ?_⟩, ⟨m', h3, by rw [dpL_app, h4, dp_nots]⟩, fun g => ?_⟩
  · unfold cK
    split
    · rw [dpL_app, h2]
      exact dp_nots n m 1
    · rw [List.append_nil]; exact h2
  · rw [evL_app, evL_app, ← h5 g]
    match e : evL g [] cs with
    | [] => have := hl g; rw [e] at this; cases this
    | a :: r =>
      rw [ev_nots]
      unfold cK
      split
      · exact ev_nots g r 1 a
      · rfl
theorem eqC_A {n : Nat} {cs rs : List Int} {b : Bool} (h : eqC (n + 1 + bN b) cs rs) : eqC (n + 1) (cs ++ jA b) (rs ++ jA b) := by
  cases b
  · rw [show jA false = [] from rfl, List.append_nil, List.append_nil]; exact h
  · exact eqC_two h (Or.inl rfl)
theorem eqC_O {n : Nat} {cs rs : List Int} {b : Bool} (h : eqC (n + 1 + bN b) cs rs) : eqC (n + 1) (cs ++ jO b) (rs ++ jO b) := by
  cases b
  · rw [show jO false = [] from rfl, List.append_nil, List.append_nil]; exact h
  · exact eqC_two h (Or.inr rfl)
theorem bN_le (b : Bool) : bN b ≤ 1 := by cases b <;> decide
theorem aft_eq {rec : Bool → Bool → List Int → List Int → List Int → TR} {ja jo : Bool} {k b : Nat} {s cs rs : List Int} (hr : ∀ ja jo s cs rs, eqC (b + bN ja + bN jo) cs rs → (rec ja jo s cs rs).f = 0 → eqC (b + 1) (rec ja jo s cs rs).cs (rec ja jo s cs rs).rs) (hc : eqC (b + bN ja + bN jo + 1) cs rs) (h : (aftT rec ja jo k s cs rs).f = 0) : eqC (b + 1) (aftT rec ja jo k s cs rs).cs (aftT rec ja jo k s cs rs).rs := by
  have c1 : eqC (b + bN jo + 1) (cs ++ cK k ++ jA ja) (rs ++ List.replicate k (-3) ++ jA ja) := by
    refine eqC_A ?_
    rw [show b + bN jo + 1 + bN ja = b + bN ja + bN jo + 1 by omega]
    exact eqC_nots hc
  have c2 : eqC (b + 1) (cs ++ cK k ++ jA ja ++ jO jo) (rs ++ List.replicate k (-3) ++ jA ja ++ jO jo) := by
    refine eqC_O ?_
    rw [show b + 1 + bN jo = b + bN jo + 1 by omega]
    exact c1
  unfold aftT at h ⊢
  split at h
  next e =>
    rw [if_pos e]
    refine hr _ _ _ _ _ ?_ h
    rw [show b + bN true + bN jo = b + bN jo + 1 by rw [show bN true = 1 from rfl]; omega]
    exact c1
  next e =>
    rw [if_neg e]
    split at h
    next e2 =>
      rw [if_pos e2]
      refine hr _ _ _ _ _ ?_ h
      exact c2
    next e2 =>
      rw [if_neg e2]
      exact c2
theorem rT_eq : ∀ (f o : Nat) (ja jo : Bool) (k : Nat) (s cs rs : List Int) (b : Nat), o ≤ 8 → b ≤ 2 * o → eqC (b + bN ja + bN jo) cs rs → (rT f o ja jo k s cs rs).f = 0 → eqC (b + 1) (rT f o ja jo k s cs rs).cs (rT f o ja jo k s cs rs).rs
  | 0, _, _, _, _, _, _, _, _, _, _, _, h => by cases h
  | f + 1, o, ja, jo, k, s, cs, rs, b, ho, hb, hc, h => by
    have n1 := bN_le ja
    have n2 := bN_le jo
    unfold rT at h ⊢
    split at h
    next e =>
      rw [if_pos e]
      exact rT_eq f o ja jo (k + 1) _ cs rs b ho hb hc h
    next e =>
      rw [if_neg e]
      split at h
      next e2 =>
        rw [if_pos e2]
        split at h
        · cases h
        next e3 =>
          rw [if_neg e3]
          split at h
          next e4 => exact absurd h e4
          next e4 =>
            rw [if_neg e4]
            have i1 := rT_eq f (o + 1) false false 0 (tSg 40 s).2 cs rs (b + bN ja + bN jo) (by omega) (by omega) hc (Decidable.not_not.mp e4)
            split at h
            next e5 =>
              rw [if_pos e5]
              exact aft_eq (fun ja jo s cs rs hc2 hh => rT_eq f o ja jo 0 s cs rs b ho hb hc2 hh) i1 h
            · cases h
      next e2 =>
        rw [if_neg e2]
        split at h
        next e3 => exact absurd h e3
        next e3 =>
          rw [if_neg e3]
          have c1 := cmp_len (Decidable.not_not.mp e3)
          exact aft_eq (fun ja jo s cs rs hc2 hh => rT_eq f o ja jo 0 s cs rs b ho hb hc2 hh) (eqC_cmp hc (by omega) c1.2) h
theorem eqC_0 : eqC 0 [] [] := ⟨⟨0, by decide, rfl⟩, ⟨0, by decide, rfl⟩, fun _ => rfl⟩
theorem eqC_tOk {cs rs : List Int} (h : eqC 1 cs rs) : tOk cs ∧ tOk rs ∧ ∀ g, evL g [] cs = evL g [] rs := ⟨h.1, h.2.1, h.2.2⟩
