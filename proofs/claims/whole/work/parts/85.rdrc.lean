/-! CLAUSES, abstractly; THE READER in the first system: clauses -/
abbrev CL : Type := Int × Int × Int × List Int × List Int × List Int × List Int
abbrev CL.k (c : CL) : Int := c.1
abbrev CL.a (c : CL) : Int := c.2.1
abbrev CL.b (c : CL) : Int := c.2.2.1
abbrev CL.c1 (c : CL) : List Int := c.2.2.2.1
abbrev CL.r1 (c : CL) : List Int := c.2.2.2.2.1
abbrev CL.c2 (c : CL) : List Int := c.2.2.2.2.2.1
abbrev CL.r2 (c : CL) : List Int := c.2.2.2.2.2.2
abbrev PR : Type := Int × List Int × List Int × CL
abbrev PR.f (r : PR) : Int := r.1
abbrev PR.q (r : PR) : List Int := r.2.1
abbrev PR.s (r : PR) : List Int := r.2.2.1
abbrev PR.c (r : PR) : CL := r.2.2.2
def bnd (n : Int) : Int := List.getD [24, 99, 999, 1, 1, 2, 999, 999] n.toNat 0
/-- the end of a clause -/
def endC (s : List Int) (c : CL) : PR := if (tSg 59 s).1 then (0, [], (tSg 59 s).2, c) else (1, sk s, sk s, c)
def cl0 : CL := (0, 0, 0, [], [], [], [])
def pLet (s : List Int) : PR :=
  if nmZ (wd (sk s)) = -1 then (1, sk s, sk s, cl0)
  else if nmF (bnd (nmZ (wd (sk s)))) (dgs (sk (we (sk s)))) ≠ 0 then (nmF (bnd (nmZ (wd (sk s)))) (dgs (sk (we (sk s)))), sk (we (sk s)), dge (sk (we (sk s))), cl0)
  else endC (dge (sk (we (sk s)))) (0, nmZ (wd (sk s)), numV ((dgs (sk (we (sk s)))).take 4), [], [], [], [])
def pStr (cn : Int) (s : List Int) : PR :=
  if nmF 9999 (dgs (sk s)) ≠ 0 then (nmF 9999 (dgs (sk s)), sk s, dge (sk s), cl0)
  else if cn ≤ numV ((dgs (sk s)).take 4) then (3, sk s, dge (sk s), cl0)
  else endC (dge (sk s)) (2, numV ((dgs (sk s)).take 4), 0, [], [], [], [])
def tst0 (s : List Int) : TR := rT 201 0 false false 0 s [] []
def pBar (s : List Int) : PR :=
  if (tst0 s).f ≠ 0 then ((tst0 s).f, (tst0 s).q, (tst0 s).s, cl0)
  else if wd (sk (tst0 s).s) = wUNL then
    (if (tst0 (we (sk (tst0 s).s))).f ≠ 0 then ((tst0 (we (sk (tst0 s).s))).f, (tst0 (we (sk (tst0 s).s))).q, (tst0 (we (sk (tst0 s).s))).s, cl0)
    else endC (tst0 (we (sk (tst0 s).s))).s (1, 0, 0, (tst0 s).cs, (tst0 s).rs, (tst0 (we (sk (tst0 s).s))).cs, (tst0 (we (sk (tst0 s).s))).rs))
  else endC (tst0 s).s (1, 0, 0, (tst0 s).cs, (tst0 s).rs, [], [])
def pCl (k cn : Int) (s : List Int) : PR := if k = 0 then pLet s else if k = 1 then pBar s else pStr cn s
/-- the whole text, 'm' more clauses at most -/
def pAll (cn : Int) : Nat → List Int → List CL → Int × List Int × List CL
  | 0, _, acc => (0, [], acc)
  | m + 1, s, acc =>
    if sk s = [] then (0, [], acc)
    else if clZ (wd (sk s)) = -1 then (1, sk s, acc)
    else if 12 ≤ acc.length then (4, sk s, acc)
    else if (pCl (clZ (wd (sk s))) cn (we (sk s))).f ≠ 0 then ((pCl (clZ (wd (sk s))) cn (we (sk s))).f, (pCl (clZ (wd (sk s))) cn (we (sk s))).q, acc)
    else pAll cn m (pCl (clZ (wd (sk s))) cn (we (sk s))).s (acc ++ [(pCl (clZ (wd (sk s))) cn (we (sk s))).c])
/-- what a clause read is -/
def clG (cn : Int) (c : CL) : Prop := (c.k = 0 ∧ (0 ≤ c.a ∧ c.a < 8) ∧ (0 ≤ c.b ∧ c.b ≤ 999) ∧ c.c1 = [] ∧ c.r1 = [] ∧ c.c2 = [] ∧ c.r2 = []) ∨ (c.k = 2 ∧ (0 ≤ c.a ∧ c.a < cn) ∧ c.c1 = [] ∧ c.r1 = [] ∧ c.c2 = [] ∧ c.r2 = []) ∨ (c.k = 1 ∧ eqC 1 c.c1 c.r1 ∧ ((c.c2 = [] ∧ c.r2 = []) ∨ eqC 1 c.c2 c.r2))
theorem nmZ_rg (w : List Int) : -1 ≤ nmZ w ∧ nmZ w ≤ 7 := by
  unfold nmZ
  repeat' (first | omega | split)
theorem clZ_rg (w : List Int) : -1 ≤ clZ w ∧ clZ w ≤ 2 := by
  unfold clZ
  repeat' (first | omega | split)
theorem bnd_le {n : Int} (h : 0 ≤ n ∧ n ≤ 7) : 0 ≤ bnd n ∧ bnd n ≤ 999 := by
  have h1 : n = 0 ∨ n = 1 ∨ n = 2 ∨ n = 3 ∨ n = 4 ∨ n = 5 ∨ n = 6 ∨ n = 7 := by omega
  rcases h1 with rfl | rfl | rfl | rfl | rfl | rfl | rfl | rfl <;> decide
theorem endC_ok {s : List Int} {c : CL} (h : (endC s c).f = 0) : (tSg 59 s).1 = true ∧ (endC s c).s = (tSg 59 s).2 ∧ (endC s c).c = c ∧ (tSg 59 s).2.length + 1 ≤ s.length := by
  unfold endC at h ⊢
  split at h
  next e =>
    rw [if_pos e]
    have h1 := congrArg List.length (tSg_t e)
    have h2 := sk_len s
    simp only [List.length_cons] at h1
    exact ⟨e, rfl, rfl, by omega⟩
  · cases h
theorem nmF_ok {most : Int} {l : List Int} (h : nmF most l = 0) : numV (l.take 4) ≤ most := by
  unfold nmF at h
  split at h
  · cases h
  · split at h
    · cases h
    · omega
/-- a clause read without a fault -/
theorem pCl_ok {k cn : Int} {s : List Int} (hk : 0 ≤ k ∧ k ≤ 2) (h : (pCl k cn s).f = 0) : clG cn (pCl k cn s).c ∧ (pCl k cn s).c.k = k ∧ 2 * ((pCl k cn s).c.c1.length + (pCl k cn s).c.c2.length) + (pCl k cn s).s.length ≤ s.length ∧ 2 * ((pCl k cn s).c.r1.length + (pCl k cn s).c.r2.length) + (pCl k cn s).s.length ≤ s.length := by
  have a1 := sk_len s
  unfold pCl at h ⊢
  split at h
  next e =>
    rw [if_pos e]
    unfold pLet at h ⊢
    have b1 := nmZ_rg (wd (sk s))
    have b2 := numV_4 (s := sk (we (sk s)))
    have a2 := we_len (sk s)
    have a3 := sk_len (we (sk s))
    have a4 := dge_len (sk (we (sk s)))
    split at h
    · cases h
    next h1 =>
      rw [if_neg h1]
      split at h
      next h2 => exact absurd h h2
      next h2 =>
        rw [if_neg h2]
        have b3 := nmF_ok (Decidable.not_not.mp h2)
        have b4 := bnd_le (n := nmZ (wd (sk s))) (by omega)
        obtain ⟨_, e2, e3, e4⟩ := endC_ok h
        rw [e3, e2]
        exact ⟨Or.inl ⟨rfl, ⟨by show 0 ≤ nmZ _; omega, by show nmZ _ < 8; omega⟩, ⟨b2.1, by show numV _ ≤ 999; omega⟩, rfl, rfl, rfl, rfl⟩, e.symm, by show 2 * (0 + 0) + _ ≤ _; omega, by show 2 * (0 + 0) + _ ≤ _; omega⟩
  next e =>
    rw [if_neg e]
    split at h
    next e1 =>
      rw [if_pos e1]
      unfold pBar at h ⊢
      split at h
      next h1 => exact absurd h h1
      next h1 =>
        rw [if_neg h1]
        have h1' := Decidable.not_not.mp h1
        have l1 := rT_len 201 0 false false 0 s [] [] h1'
        have q1 := rT_eq 201 0 false false 0 s [] [] 0 (by decide) (by decide) eqC_0 h1'
        unfold tst0 at h ⊢
        generalize rT 201 0 false false 0 s [] [] = R at h l1 q1 ⊢
        unfold rLen at l1
        simp only [List.length_nil, show bN false = 0 from rfl] at l1
        split at h
        next h2 =>
          rw [if_pos h2]
          split at h
          next h3 => exact absurd h h3
          next h3 =>
            rw [if_neg h3]
            have h3' := Decidable.not_not.mp h3
            have l2 := rT_len 201 0 false false 0 (we (sk R.s)) [] [] h3'
            have q2 := rT_eq 201 0 false false 0 (we (sk R.s)) [] [] 0 (by decide) (by decide) eqC_0 h3'
            generalize rT 201 0 false false 0 (we (sk R.s)) [] [] = R2 at h l2 q2 ⊢
            unfold rLen at l2
            simp only [List.length_nil, show bN false = 0 from rfl] at l2
            have a3 := sk_len R.s
            have a4 := we_len (sk R.s)
            obtain ⟨_, e2, e3, e4⟩ := endC_ok h
            rw [e3, e2]
            exact ⟨Or.inr (Or.inr ⟨rfl, q1, Or.inr q2⟩), e1.symm, by show 2 * (R.cs.length + R2.cs.length) + _ ≤ _; omega, by show 2 * (R.rs.length + R2.rs.length) + _ ≤ _; omega⟩
        next h2 =>
          rw [if_neg h2]
          obtain ⟨_, e2, e3, e4⟩ := endC_ok h
          rw [e3, e2]
          exact ⟨Or.inr (Or.inr ⟨rfl, q1, Or.inl ⟨rfl, rfl⟩⟩), e1.symm, by show 2 * (R.cs.length + 0) + _ ≤ _; omega, by show 2 * (R.rs.length + 0) + _ ≤ _; omega⟩
    next e1 =>
      rw [if_neg e1]
      unfold pStr at h ⊢
      have b2 := numV_4 (s := sk s)
      have a4 := dge_len (sk s)
      split at h
      next h2 => exact absurd h h2
      next h2 =>
        rw [if_neg h2]
        split at h
        · cases h
        next h3 =>
          rw [if_neg h3]
          obtain ⟨_, e2, e3, e4⟩ := endC_ok h
          rw [e3, e2]
          exact ⟨Or.inr (Or.inl ⟨rfl, ⟨b2.1, by show numV _ < cn; omega⟩, rfl, rfl, rfl, rfl⟩), by show 2 = k; omega, by show 2 * (0 + 0) + _ ≤ _; omega, by show 2 * (0 + 0) + _ ≤ _; omega⟩
-- a clause written down in the first system
def adr (M : AM) (row cn k a b c e : Int) : AM := am_up (am_up (am_up (am_up (am_up M 28 row a) 29 row b) 30 row c) 31 row e) 25 cn (k + 1)
theorem s1_Canons_addClause {M : AM} {cn k a b c e : Int} (h0 : M 24 0 = cn) (hc : 0 ≤ cn ∧ cn < 10) (hk : M 25 cn = k) (hk0 : 0 ≤ k ∧ k ≤ 12) : aCv s1_G 4 1 [aP 24, aI a, aI b, aI c, aI e] M (fun M' => M' = if k < 12 then adr M (12 * cn + k) cn k a b c e else M) := by
  refine ⟨Nat.le_of_ble_eq_true rfl, fun d hd => ?_⟩
  refine s1_Canons_addClause_0 (by omega) ?_
  simp (decide := true) only [x_uc]
  rw [h0, hk, x_mul (by omega), x_add (a := cn * 12) (by omega), x_add (a := k) (by omega)]
  refine ⟨fun g => absurd g (by omega), fun _ => ⟨by omega, fun g => ⟨by trivial, by rw [if_neg (by omega)]⟩, fun g => ⟨by omega, by omega, by omega, by omega, by omega, by omega, by omega, by trivial, ?_⟩⟩⟩
  rw [if_pos g, show cn * 12 + k = 12 * cn + k by omega]
  rfl
/-- what is left of a clause: its row, or a fault -/
def RC (X : List Int) (cn : Int) (M : AM) (C : List Int) (k : Int) (r : PR) (M' : AM) : Prop :=
  (r.f = 0 ∧ ∃ M1, St1 X cn M M1 0 (-1) r.s (C ++ r.c.c1 ++ r.c.c2) ∧ ∃ x y e, M' = adr M1 (12 * cn + k) cn k r.c.k x y e ∧ (r.c.k = 0 → x = r.c.a ∧ y = r.c.b) ∧ (r.c.k = 2 → x = r.c.a) ∧ (r.c.k = 1 → x = 200 * cn + C.length ∧ y = 200 * cn + C.length + r.c.c1.length ∧ e = 200 * cn + C.length + r.c.c1.length + r.c.c2.length)) ∨
  (r.f ≠ 0 ∧ ∃ M1, Fb X cn M M1 r.f (X.length - r.q.length) ∧ (M' = M1 ∨ ∃ a x y e, M' = adr M1 (12 * cn + k) cn k a x y e))
theorem k1_clause {X : List Int} {cn k a x y e : Int} {M M1 : AM} {d : Nat} {Q : AM → Prop} (hd : 4 < d) (hk : M 25 cn = k) (hk0 : 0 ≤ k ∧ k < 12) (hf : fr wRd M M1) (hc : M1 24 0 = cn ∧ 0 ≤ cn ∧ cn < 10) (K : Q (adr M1 (12 * cn + k) cn k a x y e)) : aKv s1_G d 1 [aP 24, aI a, aI x, aI y, aI e] M1 Q := by
  refine aKv_of (s1_Canons_addClause hc.1 hc.2 (k := k) (by rw [hf 25 cn rfl]; exact hk) (by omega)) hd (fun M' q => ?_)
  rw [if_pos hk0.2] at q
  rw [q]
  exact K
theorem kb_clause {X C : List Int} {cn k a x y e : Int} {M M1 : AM} {r : PR} {d : Nat} {Q : AM → Prop} (hd : 4 < d) (hk : M 25 cn = k) (hk0 : 0 ≤ k ∧ k < 12) (hc : 0 ≤ cn ∧ cn < 10) (h : Fb X cn M M1 r.f (X.length - r.q.length)) (K : ∀ M', RC X cn M C k r M' → Q M') : aKv s1_G d 1 [aP 24, aI a, aI x, aI y, aI e] M1 Q := by
  obtain ⟨h0, s, cs, h'⟩ := id h
  exact k1_clause (X := X) hd hk hk0 (St1_fr h') (St1_cn h') (K _ (Or.inr ⟨h0, M1, h, Or.inr ⟨a, x, y, e, rfl⟩⟩))
