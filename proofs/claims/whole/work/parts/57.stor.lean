/-! THE STORY, abstractly; tests worked off -/
-- tests
theorem dpC_none : ∀ l : List Int, l.foldl dpC none = none
  | [] => rfl
  | v :: l => dpC_none l
theorem dpC_s (n m : Nat) (v : Int) : dpC (some (n, m)) v = (if v = -3 then (if n = 0 then none else some (n, m)) else if v = -1 ∨ v = -2 then (if n < 2 then none else some (n - 1, m)) else if 0 ≤ v ∧ v < 180000 then some (n + 1, max m (n + 1)) else none) := rfl
theorem evC_i {g : Int → Bool} {a : Bool} {r : List Bool} {v : Int} (h : v = -3) : evC g (a :: r) v = (!a) :: r := by subst h; rfl
theorem evC_b {g : Int → Bool} {a b : Bool} {r : List Bool} {v : Int} (h : v = -1 ∨ v = -2) : evC g (b :: a :: r) v = (if v = -1 then a && b else a || b) :: r := by
  unfold evC
  dsimp only
  rw [if_neg (by omega), if_pos (by omega)]
theorem evC_c {g : Int → Bool} {st : List Bool} {v : Int} (h : 0 ≤ v) : evC g st v = g v :: st := by
  unfold evC
  dsimp only
  rw [if_neg (by omega), if_neg (by omega)]
theorem dpC_up : ∀ (l : List Int) (n k n' k' : Nat), l.foldl dpC (some (n, k)) = some (n', k') → n ≤ k → n' ≤ k' ∧ k ≤ k'
  | [], n, k, n', k', h, hn => by cases h; exact ⟨hn, Nat.le_refl _⟩
  | v :: l, n, k, n', k', h, hn => by
    rw [List.foldl_cons, dpC_s] at h
    split at h
    · split at h
      · rw [dpC_none] at h; cases h
      · exact dpC_up l _ _ _ _ h hn
    · split at h
      · split at h
        · rw [dpC_none] at h; cases h
        · exact dpC_up l _ _ _ _ h (by omega)
      · split at h
        · have := dpC_up l _ _ _ _ h (by omega)
          exact ⟨this.1, by omega⟩
        · rw [dpC_none] at h; cases h
theorem evL_len (g : Int → Bool) : ∀ (l : List Int) (st : List Bool) (k n' k' : Nat), l.foldl dpC (some (st.length, k)) = some (n', k') → (evL g st l).length = n'
  | [], st, k, n', k', h => by cases h; rfl
  | v :: l, st, k, n', k', h => by
    rw [List.foldl_cons, dpC_s] at h
    unfold evL
    rw [List.foldl_cons]
    split at h
    next e1 =>
      split at h
      · rw [dpC_none] at h; cases h
      next e2 =>
        cases st with
        | nil => exact absurd rfl e2
        | cons a r =>
          rw [evC_i e1]
          exact evL_len g l _ _ _ _ (by simpa using h)
    next e1 =>
      split at h
      next e2 =>
        split at h
        · rw [dpC_none] at h; cases h
        next e3 =>
          match st, h, e3 with
          | b :: a :: r, h, _ =>
            rw [evC_b e2]
            exact evL_len g l _ _ _ _ (by simpa using h)
          | [_], _, h => exact absurd (show (1 : Nat) < 2 by decide) h
          | [], _, h => exact absurd (show (0 : Nat) < 2 by decide) h
      next e2 =>
        split at h
        next e3 =>
          rw [evC_c e3.1]
          exact evL_len g l _ _ _ _ (by simpa using h)
        · rw [dpC_none] at h; cases h
/-- at each code of a test: the stack, and what the code finds there -/
theorem tOk_at {pre suf : List Int} {v : Int} (g : Int → Bool) (h : tOk (pre ++ v :: suf)) : (evL g [] pre).length ≤ 40 ∧ (v = -3 ∨ v = -1 ∨ v = -2 ∨ (0 ≤ v ∧ v < 180000)) ∧ (v = -3 → ∃ a r, evL g [] pre = a :: r) ∧ (v = -1 ∨ v = -2 → ∃ b a r, evL g [] pre = b :: a :: r) ∧ (0 ≤ v → (evL g [] pre).length < 40) := by
  obtain ⟨m, hm, h⟩ := h
  unfold dpL at h
  rw [List.foldl_append] at h
  match hp : pre.foldl dpC (some (0, 0)), h with
  | none, h => rw [dpC_none] at h; cases h
  | some (n, k), h =>
    have hl := evL_len g pre [] 0 n k hp
    have hk := dpC_up pre 0 0 n k hp (Nat.le_refl _)
    have hkm := dpC_up (v :: suf) n k 1 m h hk.1
    rw [List.foldl_cons, dpC_s] at h
    refine ⟨by omega, ?_⟩
    split at h
    next e1 =>
      split at h
      · rw [dpC_none] at h; cases h
      next e2 =>
        refine ⟨Or.inl e1, fun _ => ?_, fun q => by omega, fun q => by omega⟩
        match hs : evL g [] pre with
        | [] => rw [hs] at hl; exact absurd hl.symm e2
        | a :: r => exact ⟨a, r, rfl⟩
    next e1 =>
      split at h
      next e2 =>
        split at h
        · rw [dpC_none] at h; cases h
        next e3 =>
          refine ⟨by omega, fun q => absurd q e1, fun _ => ?_, fun q => by omega⟩
          match hs : evL g [] pre with
          | [] => rw [hs] at hl; exact absurd (by have : n = 0 := hl.symm; omega) e3
          | [_] => rw [hs] at hl; exact absurd (by have : n = 1 := hl.symm; omega) e3
          | b :: a :: r => exact ⟨b, a, r, rfl⟩
      next e2 =>
        split at h
        next e3 =>
          refine ⟨by omega, fun q => absurd q e1, fun q => by omega, fun _ => ?_⟩
          have := dpC_up suf _ _ 1 m h (by omega)
          omega
        · rw [dpC_none] at h; cases h
theorem tOk_end {l : List Int} (g : Int → Bool) (h : tOk l) : ∃ a, evL g [] l = [a] := by
  obtain ⟨m, _, h⟩ := h
  have := evL_len g l [] 0 1 m h
  match hs : evL g [] l with
  | [] => rw [hs] at this; cases this
  | [a] => exact ⟨a, rfl⟩
  | _ :: _ :: _ => rw [hs] at this; simp at this
theorem evL_snoc {g : Int → Bool} {st : List Bool} {l : List Int} {v : Int} : evL g st (l ++ [v]) = evC g (evL g st l) v := by unfold evL; rw [List.foldl_append]; rfl
def cmpv (F : Int → Int) (v : Int) : Bool := !(decide (F (v / 30000) = -1)) && (if v / 10000 % 3 = 0 then decide (F (v / 30000) < v % 10000) else if v / 10000 % 3 = 1 then decide (v % 10000 < F (v / 30000)) else decide (F (v / 30000) = v % 10000))
-- the story
abbrev Sg : Type := (Int → List (Int × Int)) × (Int → Int) × (Int → Int) × (Int → Int) × (Int → Int) × (Int → Int) × List (Int × Int) × List (Int × Int × Int × Int × Int) × (Int → Int)
abbrev Sg.h (s : Sg) : Int → List (Int × Int) := s.1
abbrev Sg.ef (s : Sg) : Int → Int := s.2.1
abbrev Sg.eb (s : Sg) : Int → Int := s.2.2.1
abbrev Sg.ra (s : Sg) : Int → Int := s.2.2.2.1
abbrev Sg.rb (s : Sg) : Int → Int := s.2.2.2.2.1
abbrev Sg.tn (s : Sg) : Int → Int := s.2.2.2.2.2.1
abbrev Sg.so (s : Sg) : List (Int × Int) := s.2.2.2.2.2.2.1
abbrev Sg.lg (s : Sg) : List (Int × Int × Int × Int × Int) := s.2.2.2.2.2.2.2.1
abbrev Sg.rs (s : Sg) : Int → Int := s.2.2.2.2.2.2.2.2
def upl (f : Int → List (Int × Int)) (i : Int) (v : List (Int × Int)) : Int → List (Int × Int) := fun j => if j = i then v else f j
theorem upl_s {f : Int → List (Int × Int)} {i : Int} {v : List (Int × Int)} : upl f i v i = v := by simp [upl]
theorem upl_n {f : Int → List (Int × Int)} {i j : Int} {v : List (Int × Int)} (h : j ≠ i) : upl f i v j = f j := by simp [upl, h]
def hasH (l : List (Int × Int)) (p : Int) : Bool := l.any (fun e => decide (e.1 = p))
theorem hasH_t {l : List (Int × Int)} {p : Int} : hasH l p = true ↔ ∃ c, (p, c) ∈ l := by
  unfold hasH
  rw [List.any_eq_true]
  constructor
  · rintro ⟨⟨q, c⟩, h, e⟩
    rw [decide_eq_true_eq] at e
    exact ⟨c, by rw [← e]; exact h⟩
  · rintro ⟨c, h⟩
    exact ⟨_, h, by simp⟩
def delH (l : List (Int × Int)) (p : Int) : List (Int × Int) := l.filter (fun e => !decide (e.1 = p))
/-- a person falls from a living, by a paper -/
def fallS (D : AM) (s : Sg) (l n why : Int) : Sg :=
  if hasH (s.h l) (D 9 n) then
    (upl s.h l (delH (s.h l) (D 9 n)), (if delH (s.h l) (D 9 n) = [] then up1 s.ef l (D 6 n) else s.ef), (if delH (s.h l) (D 9 n) = [] then up1 s.eb l why else s.eb), s.ra, s.rb, s.tn, s.so, s.lg ++ [(l, D 9 n, 1, n, ((delH (s.h l) (D 9 n)).length : Int))], s.rs)
  else s
/-- from all of the first m livings but two -/
def fallN (D : AM) (a b n why : Int) : Nat → Sg → Sg
  | 0, s => s
  | m + 1, s => if (m : Int) = a ∨ (m : Int) = b then fallN D a b n why m s else fallS D (fallN D a b n why m s) m n why
def turnS (s : Sg) (l : Int) : Int := if s.tn l = 0 then s.ra l else s.rb l
/-- the first turn sold and not used: its place and its paper -/
def sldF (D : AM) (l p : Int) : List (Int × Int) → Nat → Option (Nat × Int)
  | [], _ => none
  | e :: r, i => if D 8 e.1 = l ∧ D 9 e.1 = p ∧ e.2 = 0 then some (i, e.1) else sldF D l p r (i + 1)
def wkH (D : AM) (B : List Int) (day : Int) : Nat → Int → Int
  | 0, p => if hadB D B 1 p day then -4 else p
  | n + 1, p => if hadB D B 1 p day then (if heirL D B p day = -1 then -4 else wkH D B day n (heirL D B p day)) else p
def buyS (D : AM) (s : Sg) (l : Int) : Int := match sldF D l (turnS s l) s.so 0 with
  | some (_, n) => D 10 n
  | none => turnS s l
def patS (D : AM) (B : List Int) (s : Sg) (l day : Int) : Int := if turnS s l = -1 then -4 else wkH D B day 12 (buyS D s l)
def frS (D : AM) (B : List Int) (s : Sg) (l : Int) : Int := if s.eb l = 2 then notL D B l (s.ef l) else s.ef l
def lapS (D : AM) (B : List Int) (s : Sg) (l day : Int) : Int := if frS D B s l < 0 ∨ (force D (s.ef l) 0).1 = 0 ∨ day < frS D B s l then 0 else min ((day - frS D B s l) / (30 * (force D (s.ef l) 0).1)) 3
def mayS (D : AM) (B : List Int) (s : Sg) (l day : Int) : Int := if s.h l ≠ [] then -1 else if lapS D B s l day = 0 then patS D B s l day else if lapS D B s l day = 1 then -2 else if lapS D B s l day = 2 then -3 else -4
def mlsD (D : AM) (a b : Int) : Int := absI (D 2 a - D 2 b) + absI (D 3 a - D 3 b)
/-- how many other livings a person holds, of the first m; the farthest -/
def mnyN (s : Sg) (p l : Int) : Nat → Int
  | 0 => 0
  | m + 1 => mnyN s p l m + (if (m : Int) ≠ l ∧ hasH (s.h m) p then 1 else 0)
def farN (D : AM) (s : Sg) (p l : Int) : Nat → Int
  | 0 => 0
  | m + 1 => if (m : Int) ≠ l ∧ hasH (s.h m) p then max (farN D s p l m) (mlsD D m l) else farN D s p l m
def factS (D : AM) (B : List Int) (s : Sg) (p l day f : Int) : Int :=
  if f = 0 then (if hadB D B 0 p day then (day - dayOn D B 0 p) / 360 else -1) else if f = 1 then (if hadB D B 2 p day then day - dayOn D B 2 p else -1) else
  if f = 2 then mnyN s p l 12 else if f = 3 then farN D s p l 12 else if f = 4 then D 4 l else bI (hadB D B 5 p day)
def tstD (D : AM) (j a b : Int) : List Int := arr (D 22) (140 * j + a) (b - a).toNat
def metS (D : AM) (j a b : Int) (g : Int → Bool) : Bool := (evL g [] (tstD D j a b)).headD false
def brC (D : AM) (g : Int → Bool) (j c : Int) : Bool := decide (D 16 c = 1) && metS D j (D 19 c) (D 20 c) g && (decide (D 21 c = D 20 c) || !metS D j (D 20 c) (D 21 c) g)
def brF (D : AM) (g : Int → Bool) (j : Int) : Nat → Nat → Option Int
  | _, 0 => none
  | n, m + 1 => if brC D g j (12 * j + n) then some (100 * j + n) else brF D g j (n + 1) m
def brL (D : AM) (g : Int → Bool) : List Int → Int
  | [] => -1
  | j :: l => match brF D g j 0 (D 15 j).toNat with
    | some z => z
    | none => brL D g l
def barS (D : AM) (B : List Int) (s : Sg) (p l day : Int) : Int := brL D (cmpv (factS D B s p l day)) (cord D day)
def useS (D : AM) (s : Sg) (l : Int) : Sg :=
  if turnS s l = -1 then s else
  (s.h, s.ef, s.eb, s.ra, s.rb, (if s.rb l = -1 then s.tn else up1 s.tn l (1 - s.tn l)), (match sldF D l (turnS s l) s.so 0 with
    | some (k, n) => s.so.set k (n, 1)
    | none => s.so), s.lg, s.rs)
def whyS (D : AM) (B : List Int) (s : Sg) (n : Int) : Int := (if s.h (D 8 n) ≠ [] then 1 else 0) + 2 * bI (hadB D B 1 (D 9 n) (D 6 n)) + 4 * (if barS D B s (D 9 n) (D 8 n) (D 6 n) = -1 then 0 else 1) + 8 * (if mayS D B s (D 8 n) (D 6 n) = D 10 n then 0 else 1)
def entS (D : AM) (s : Sg) (n i : Int) : Sg :=
  if hasH (s.h (D 8 n)) (D 9 n) then s else
  (upl s.h (D 8 n) (s.h (D 8 n) ++ [(D 9 n, i)]), up1 s.ef (D 8 n) (-1), up1 s.eb (D 8 n) (-1), s.ra, s.rb, s.tn, s.so, s.lg ++ [(D 8 n, D 9 n, 0, n, ((s.h (D 8 n)).length : Int) + 1)], s.rs)
/-- when a person came; -1 -/
def comC (l : List (Int × Int)) (p : Int) : Int := match l.find? (fun e => decide (e.1 = p)) with
  | some e => e.2
  | none => -1
def lasS (s : Sg) (l p : Int) : Nat → Int × Int
  | 0 => (-1, -1)
  | m + 1 => if (m : Int) ≠ l ∧ (lasS s l p m).2 < comC (s.h m) p then ((m : Int), comC (s.h m) p) else lasS s l p m
def kepS (D : AM) (B : List Int) (s : Sg) (l p day : Int) : Int :=
  if (lasS s l p 12).1 ≠ -1 ∧ hadB D B 5 p day = true ∧ mlsD D l (lasS s l p 12).1 ≤ (force D day 1).1 ∧ D 4 l ≤ (force D day 2).1 ∧ D 4 (lasS s l p 12).1 ≤ (force D day 2).1 then (lasS s l p 12).1 else -1
def usesS (D : AM) (B : List Int) (s : Sg) (n : Int) : Prop := ((whyS D B s n = 0 ∨ (force D (D 6 n) 3).1 = 1) ∧ D 10 n = patS D B s (D 8 n) (D 6 n)) ∨ (whyS D B s n = 0 ∧ lapS D B s (D 8 n) (D 6 n) ≠ 0 ∧ (force D (D 6 n) 4).1 = 1)
def usesB (D : AM) (B : List Int) (s : Sg) (n : Int) : Bool := ((decide (whyS D B s n = 0) || decide ((force D (D 6 n) 3).1 = 1)) && decide (D 10 n = patS D B s (D 8 n) (D 6 n))) || (decide (whyS D B s n = 0) && decide (lapS D B s (D 8 n) (D 6 n) ≠ 0) && decide ((force D (D 6 n) 4).1 = 1))
def rsS (s : Sg) (n z : Int) : Sg := (s.h, s.ef, s.eb, s.ra, s.rb, s.tn, s.so, s.lg, up1 s.rs n z)
def tinS (D : AM) (B : List Int) (s : Sg) (n i : Int) : Sg :=
  let s1 := rsS s n (whyS D B s n)
  let s2 := cond (usesB D B s n) (useS D s1 (D 8 n)) s1
  let s3 := entS D s2 n i
  fallN D (D 8 n) (kepS D B s3 (D 8 n) (D 9 n) (D 6 n)) n 3 12 s3
def layS (s : Sg) (l a b : Int) : Sg := (s.h, s.ef, s.eb, up1 s.ra l a, up1 s.rb l b, up1 s.tn l 0, s.so, s.lg, s.rs)
def selS (s : Sg) (n : Int) : Sg := (s.h, s.ef, s.eb, s.ra, s.rb, s.tn, s.so ++ [(n, 0)], s.lg, s.rs)
def stpS (D : AM) (B : List Int) (s : Sg) (n i : Int) : Sg :=
  if D 5 n = 3 then tinS D B s n i else if D 5 n = 4 then fallS D s (D 8 n) n 2 else if D 5 n = 1 then fallN D (-1) (-1) n 1 12 s else
  if D 5 n = 7 then layS s (D 8 n) (D 9 n) (D 10 n) else if D 5 n = 8 then layS s (D 8 n) (D 9 n) (-1) else if D 5 n = 9 then selS s n else s
def s0S : Sg := (fun _ => [], fun _ => 0, fun _ => 0, fun _ => -1, fun _ => -1, fun _ => 0, [], [], fun _ => -1)
def runS (D : AM) (B : List Int) (u : Int) : List Int → Int → Sg → Sg
  | [], _, s => s
  | n :: l, i, s => if D 6 n ≤ u then runS D B u l (i + 1) (stpS D B s n i) else s
/-- the story by the book of a day up to a day -/
def story (D : AM) (w u : Int) : Sg := runS D (bk D w) u (bk D w) 0 s0S
