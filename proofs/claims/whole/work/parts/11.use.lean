/-! THE ABSTRACT MACHINE, how it is used: a block's run read off as a proposition. -/
section US
variable {G : AG}
theorem a_tsw_mono {nx nx' : Nat → Prop} (h : ∀ t, nx t → nx' t) {pc : Nat} {a : Int} : ∀ (os : List Int) (lo : Int), a_tsw nx pc a lo os → a_tsw nx' pc a lo os
  | [], _, _ => trivial
  | _ :: os, lo, hs => ⟨fun e => h _ (hs.1 e), a_tsw_mono h os (lo + 1) hs.2⟩
theorem a_lsw_mono {nx nx' : Nat → Prop} (h : ∀ t, nx t → nx' t) {pc : Nat} {a d : Int} : ∀ (ps : List (Int × Int)), a_lsw nx pc a d ps → a_lsw nx' pc a d ps
  | [], hs => h _ hs
  | _ :: ps, hs => ⟨fun e => h _ (hs.1 e), fun e => a_lsw_mono h ps (hs.2 e)⟩
theorem a_cnd_mono {c : Jvm.ClassFile.Cond} {a b : Int} {A B A' B' : Prop} (hA : A → A') (hB : B → B') (h : a_cnd c a b A B) : a_cnd c a b A' B' := by
  cases c <;> exact ⟨fun e => hA (h.1 e), fun e => hB (h.2 e)⟩
set_option maxHeartbeats 4000000 in
theorem a_step_mono {run run' : Nat → List AV → AM → (Option AV → AM → Prop) → Prop} {nx nx' : Nat → AB → AL → List AV → AM → Prop} (hr : ∀ y as M K K', (∀ r M', K r M' → K' r M') → run y as M K → run' y as M K') (hn : ∀ pc rs ls st M, nx pc rs ls st M → nx' pc rs ls st M)
    {rk : Nat} {Q : Option AV → AM → Prop} {pc : Nat} {ins : Jvm.ClassFile.Instr} {x : AX} {rs : AB} {ls : AL} {st : List AV} {M : AM} (h : a_step G run nx rk Q pc ins x rs ls st M) : a_step G run' nx' rk Q pc ins x rs ls st M := by
  unfold a_step at h ⊢
  cases ins <;> dsimp only [a_bin, a_binL, a_shL] at h ⊢
  all_goals first
    | exact h
    | exact hn _ _ _ _ _ h
    | skip
  all_goals (revert h)
  all_goals repeat' (first
    | exact fun h => h.elim
    | exact fun h => hn _ _ _ _ _ h
    | exact fun h => ⟨h.1, hn _ _ _ _ _ h.2⟩
    | exact fun h => ⟨h.1, h.2.1, hn _ _ _ _ _ h.2.2⟩
    | exact fun h => a_cnd_mono (hn _ _ _ _ _) (hn _ _ _ _ _) h
    | exact fun h => ⟨a_tsw_mono (fun t => hn _ _ _ _ _) _ _ h.1, fun e => hn _ _ _ _ _ (h.2 e)⟩
    | exact fun h => a_lsw_mono (fun t => hn _ _ _ _ _) _ h
    | exact fun h => hr _ _ _ _ _ (fun r M' => hn _ _ _ _ _) h
    | exact fun h => h
    | (refine fun h => ?_; obtain ⟨h1, h⟩ := a_cond h; rw [h1]; revert h; dsimp only [cond])
    | split)
end US
section UT
variable {G : AG}
theorem aE_mono : a_Mono (aE G) := fun d y pc rs ls st M Q Q' hQ h R m n s => m _ _ _ _ _ _ _ _ _ hQ (h R m n s)
theorem aE_nil : a_Nil G (aE G) := fun d y pc ls st M Q h R m n s => n _ _ _ _ _ _ _ (h R m n s)
theorem aE_stp : a_Stp G (aE G) := fun d y pc ins x rs ls st M Q h R m n s => s _ _ _ _ _ _ _ _ _ _ (a_step_mono (fun _ _ _ _ _ hK h => by
  obtain ⟨d', e1, e2, h3⟩ := h
  exact ⟨d', e1, e2, m _ _ _ _ _ _ _ _ _ hK (h3 R m n s)⟩) (fun _ _ _ _ _ h => h R m n s) h)
/-- the method y called at the depth d -/
def aK (G : AG) (d y : Nat) (as : List AV) (M : AM) (K : Option AV → AM → Prop) : Prop := a_Kof G (aE G) d y as M K
theorem aK_of {h d y : Nat} {as : List AV} {M : AM} {K K' : Option AV → AM → Prop} (hc : aC G h y as M K) (hd : h < d) (hK : ∀ r M', K r M' → K' r M') : aK G d y as M K' := by
  obtain ⟨h1, h2⟩ := hc
  cases d with
  | zero => omega
  | succ d => exact ⟨d, rfl, h1, aE_mono _ _ _ _ _ _ _ _ _ hK (h2 d (by omega))⟩
theorem aC_mono {h h' y : Nat} {as : List AV} {M : AM} {K K' : Option AV → AM → Prop} (hc : aC G h y as M K) (hd : h ≤ h') (hK : ∀ r M', K r M' → K' r M') : aC G h' y as M K' := ⟨hc.1, fun d h2 => aE_mono _ _ _ _ _ _ _ _ _ hK (hc.2 d (by omega))⟩
/-- calls of which the answer is known: by the table 'pu' -/
abbrev AP : Type := Nat → List AV → AM → Option (Option AV)
/-- a call that answers an int; one that answers nothing -/
def aKi (G : AG) (d y : Nat) (as : List AV) (M : AM) (K : Int → AM → Prop) : Prop := aK G d y as M (fun r M' => ∃ z, r = some (aI z) ∧ K z M')
def aKv (G : AG) (d y : Nat) (as : List AV) (M : AM) (K : AM → Prop) : Prop := aK G d y as M (fun r M' => r = none ∧ K M')
def aKp (G : AG) (pu : AP) (d y : Nat) (as : List AV) (M : AM) (K : Option AV → AM → Prop) : Prop := match pu y as M with
  | some r => K r M
  | none => match (G.2.1 y).2.2.1 with
    | 0 => aKv G d y as M (fun M' => K none M')
    | _ => aKi G d y as M (fun z M' => K (some (aI z)) M')
/-- contracts of methods that answer an int, or nothing -/
def aCi (G : AG) (h y : Nat) (as : List AV) (M : AM) (K : Int → AM → Prop) : Prop := aC G h y as M (fun r M' => ∃ z, r = some (aI z) ∧ K z M')
def aCv (G : AG) (h y : Nat) (as : List AV) (M : AM) (K : AM → Prop) : Prop := aC G h y as M (fun r M' => r = none ∧ K M')
theorem aKi_of {h d y : Nat} {as : List AV} {M : AM} {K K' : Int → AM → Prop} (hc : aCi G h y as M K) (hd : h < d) (hK : ∀ z M', K z M' → K' z M') : aKi G d y as M K' := aK_of hc hd (fun r M' q => by
  obtain ⟨z, e, k⟩ := q
  exact ⟨z, e, hK _ _ k⟩)
theorem aKv_of {h d y : Nat} {as : List AV} {M : AM} {K K' : AM → Prop} (hc : aCv G h y as M K) (hd : h < d) (hK : ∀ M', K M' → K' M') : aKv G d y as M K' := aK_of hc hd (fun r M' q => ⟨q.1, hK _ q.2⟩)
/-- the truth of c as an int -/
def a_bl (c : Prop) [Decidable c] : Int := if c then 1 else 0
theorem a_bl0 {c : Prop} [Decidable c] : a_bl c = 0 ↔ ¬ c := by unfold a_bl; split <;> simp [*]
theorem a_bl1 {c : Prop} [Decidable c] : a_bl c = 1 ↔ c := by unfold a_bl; split <;> simp [*]
theorem a_bl01 {c : Prop} [Decidable c] : a_bl c = 0 ∨ a_bl c = 1 := by unfold a_bl; split <;> simp
/-- locals of which less is known -/
def al_le (ls ls' : AL) : Prop := ls.length = ls'.length ∧ ∀ (i : Nat) (v : AV), ls[i]? = some (some v) → ls'[i]? = some (some v)
theorem al_le_kill {ls ls' : AL} (h : al_le ls ls') (i : Nat) : al_le (al_kill ls i) (al_kill ls' i) := by
  have hl : ∀ (l : AL), (al_kill l i).length = l.length := fun l => by
    unfold al_kill
    split
    · rfl
    · split <;> simp
  refine ⟨by rw [hl, hl, h.1], fun j v hj => ?_⟩
  obtain ⟨h1, h2⟩ := al_kill_get hj
  have h3 := h.2 j v h1
  unfold al_kill
  split
  · exact h3
  next k =>
    split
    next z e =>
      rw [List.getElem?_set]
      split
      next e2 =>
        subst e2
        rw [h3] at e
        cases e
        exact absurd ⟨rfl, z, rfl⟩ h2
      · exact h3
    · exact h3
theorem al_le_set {ls ls' : AL} (h : al_le ls ls') (i : Nat) (v : Option AV) : al_le (ls.set i v) (ls'.set i v) := by
  refine ⟨by simp [h.1], fun j w hj => ?_⟩
  rw [List.getElem?_set] at hj ⊢
  split at hj
  next e =>
    rw [if_pos e]
    split at hj
    next hl => rw [if_pos (by rw [← h.1]; exact hl)]; exact hj
    · cases hj
  next e => rw [if_neg e]; exact h.2 j w hj
theorem al_le_set1 {ls ls' : AL} (h : al_le ls ls') (i : Nat) (v : AV) : al_le (al_set1 ls i v) (al_set1 ls' i v) := al_le_set (al_le_kill h i) i _
theorem al_le_set2 {ls ls' : AL} (h : al_le ls ls') (i : Nat) (v : AV) : al_le (al_set2 ls i v) (al_set2 ls' i v) := al_le_set (al_le_set (al_le_kill h i) i _) (i + 1) _
set_option maxHeartbeats 4000000 in
theorem a_step_le {run : Nat → List AV → AM → (Option AV → AM → Prop) → Prop} {nx : Nat → AB → AL → List AV → AM → Prop} {rk : Nat} {Q : Option AV → AM → Prop} {pc : Nat} {ins : Jvm.ClassFile.Instr} {x : AX} {rs : AB} {ls ls' : AL} {st : List AV} {M : AM} (hle : al_le ls ls') (h : a_step G run (fun pc rs l st M => ∀ l', al_le l l' → nx pc rs l' st M) rk Q pc ins x rs ls st M)
    (hr : ∀ y as M K K', (∀ r M', K r M' → K' r M') → run y as M K → run y as M K') : a_step G run nx rk Q pc ins x rs ls' st M := by
  have ld : ∀ {k : Nat} {v : AV}, ls[k]? = some (some v) → ls'[k]? = some (some v) := fun h => hle.2 _ _ h
  unfold a_step at h ⊢
  cases ins
  case iload_n k =>
    dsimp only at h ⊢
    split at h
    next z e => rw [ld e]; exact h _ hle
    next => exact h.elim
  case iload k =>
    dsimp only at h ⊢
    split at h
    next z e => rw [ld e]; exact h _ hle
    next => exact h.elim
  case lload_n k =>
    dsimp only at h ⊢
    split at h
    next z e => rw [ld e]; exact h _ hle
    next => exact h.elim
  case lload k =>
    dsimp only at h ⊢
    split at h
    next z e => rw [ld e]; exact h _ hle
    next => exact h.elim
  case aload_n k =>
    dsimp only at h ⊢
    split at h
    next z e => rw [ld e]; exact h _ hle
    next => exact h.elim
  case aload k =>
    dsimp only at h ⊢
    split at h
    next z e => rw [ld e]; exact h _ hle
    next => exact h.elim
  case iinc k n =>
    dsimp only at h ⊢
    split at h
    next z e => rw [ld e]; exact h _ (al_le_set1 hle _ _)
    next => exact h.elim
  all_goals dsimp only [a_bin, a_binL, a_shL] at h ⊢
  all_goals first
    | exact h
    | exact h _ hle
    | skip
  all_goals (revert h)
  all_goals repeat' (first
    | exact fun h => h.elim
    | exact fun h => h _ hle
    | exact fun h => h _ (al_le_set1 hle _ _)
    | exact fun h => h _ (al_le_set2 hle _ _)
    | exact fun h => ⟨h.1, h.2 _ hle⟩
    | exact fun h => ⟨h.1, h.2.1, h.2.2 _ hle⟩
    | exact fun h => a_cnd_mono (fun k => k _ hle) (fun k => k _ hle) h
    | exact fun h => ⟨a_tsw_mono (fun t k => k _ hle) _ _ h.1, fun e => h.2 e _ hle⟩
    | exact fun h => a_lsw_mono (fun t k => k _ hle) _ h
    | exact fun h => hr _ _ _ _ _ (fun r M' k => k _ hle) h
    | exact fun h => h
    | (refine fun h => ?_; obtain ⟨h1, h⟩ := a_cond h; rw [h1]; revert h; dsimp only [cond])
    | split)
theorem aE_le {d y pc : Nat} {rs : AB} {ls ls' : AL} {st : List AV} {M : AM} {Q : Option AV → AM → Prop} (hle : al_le ls ls') (h : aE G d y pc rs ls st M Q) : aE G d y pc rs ls' st M Q := by
  refine h (fun d y pc rs ls st M Q => ∀ ls', al_le ls ls' → aE G d y pc rs ls' st M Q) ?_ ?_ ?_ ls' hle
  · intro d y pc rs ls st M Q Q' hQ h ls' hl
    exact aE_mono _ _ _ _ _ _ _ _ _ hQ (h ls' hl)
  · intro d y pc ls st M Q h ls' hl
    exact aE_nil _ _ _ _ _ _ _ (h ls' hl)
  · intro d y pc ins x rs ls st M Q h ls' hl
    refine aE_stp _ _ _ _ _ _ _ _ _ _ (a_step_le hl (a_step_mono (fun y as M K K' hK h => ?_) (fun pc rs l st M h l' hl' => h l' hl') h) (fun y as M K K' hK h => ?_))
    · obtain ⟨d', e1, e2, h3⟩ := h
      exact ⟨d', e1, e2, aE_mono _ _ _ _ _ _ _ _ _ hK (h3 _ ⟨rfl, fun _ _ q => q⟩)⟩
    · obtain ⟨d', e1, e2, h3⟩ := h
      exact ⟨d', e1, e2, aE_mono _ _ _ _ _ _ _ _ _ hK h3⟩
/-- locals, but those that nobody reads again -/
def al_mask : List Bool → AL → AL
  | [], _ => []
  | _ :: _, [] => []
  | true :: bs, v :: ls => v :: al_mask bs ls
  | false :: bs, _ :: ls => none :: al_mask bs ls
theorem al_mask_le : ∀ (bs : List Bool) (ls : AL), bs.length = ls.length → al_le (al_mask bs ls) ls
  | [], [], _ => ⟨rfl, fun i v h => h⟩
  | [], _ :: _, h => by cases h
  | _ :: _, [], h => by cases h
  | b :: bs, v :: ls, h => by
    obtain ⟨h1, h2⟩ := al_mask_le bs ls (Nat.succ.inj h)
    cases b
    · refine ⟨by simp [al_mask, h1], fun i w hi => ?_⟩
      cases i with
      | zero => simp [al_mask] at hi
      | succ i => simp only [al_mask, List.getElem?_cons_succ] at hi ⊢; exact h2 i w hi
    · refine ⟨by simp [al_mask, h1], fun i w hi => ?_⟩
      cases i with
      | zero => simpa [al_mask] using hi
      | succ i => simp only [al_mask, List.getElem?_cons_succ] at hi ⊢; exact h2 i w hi
def a_stop (pc : Nat) : List (Nat × List Bool) → Option (List Bool)
  | [] => none
  | (q, b) :: r => cond (Nat.beq pc q) (some b) (a_stop pc r)
/-- a block run, up to the places 'stops' (there with what is read again alone) -/
def aB (G : AG) (pu : AP) (stops : List (Nat × List Bool)) (d y : Nat) (Q : Option AV → AM → Prop) : Nat → Nat → AB → AL → List AV → AM → Prop
  | 0, pc, rs, ls, st, M => aE G d y pc rs ls st M Q
  | n + 1, pc, rs, ls, st, M => match rs with
    | [] => match a_stop pc stops with
      | some b => cond (Nat.beq b.length ls.length) (aE G d y pc [] (al_mask b ls) st M Q) False
      | none => aB G pu stops d y Q n pc (G.2.2.1 y pc) ls st M
    | (ins, x) :: rs => a_step G (aKp G pu d) (fun pc' rs' ls' st' M' => aB G pu stops d y Q n pc' rs' ls' st' M') (G.2.1 y).2.2.1 Q pc ins x rs ls st M
/-- what the table of known answers must hold to, p deep -/
def aPu (G : AG) (pu : AP) (p : Nat) : Prop := ∀ y as M r, pu y as M = some r → aC G p y as M (fun r' M' => r' = r ∧ M' = M)
theorem aB_ok {pu : AP} {p : Nat} (hpu : aPu G pu p) {stops : List (Nat × List Bool)} {d y : Nat} (hd : p < d) {Q : Option AV → AM → Prop} : ∀ (n pc : Nat) (rs : AB) (ls : AL) (st : List AV) (M : AM), aB G pu stops d y Q n pc rs ls st M → aE G d y pc rs ls st M Q := by
  intro n
  induction n with
  | zero => intro pc rs ls st M h; exact h
  | succ n ih =>
    intro pc rs ls st M h
    unfold aB at h
    split at h
    · split at h
      next b hs =>
        replace h := a_cond h
        exact aE_le (al_mask_le _ _ (Nat.eq_of_beq_eq_true h.1)) h.2
      next hs => exact aE_nil _ _ _ _ _ _ _ (ih _ _ _ _ _ h)
    · refine aE_stp _ _ _ _ _ _ _ _ _ _ (a_step_mono (fun y as M K K' hK h => ?_) (fun _ _ _ _ _ h => ih _ _ _ _ _ h) h)
      unfold aKp at h
      split at h
      next r e => exact aK_of (hpu _ _ _ _ e) hd (fun r' M' hh => by rw [hh.1, hh.2]; exact hK _ _ h)
      next e =>
        split at h
        · obtain ⟨d', e1, e2, h3⟩ := h
          exact ⟨d', e1, e2, aE_mono _ _ _ _ _ _ _ _ _ (fun r M' q => hK _ _ (by rw [q.1]; exact q.2)) h3⟩
        · obtain ⟨d', e1, e2, h3⟩ := h
          exact ⟨d', e1, e2, aE_mono _ _ _ _ _ _ _ _ _ (fun r M' q => by
            obtain ⟨z, e, k⟩ := q
            exact hK _ _ (by rw [e]; exact k)) h3⟩
/-- from a block's begin -/
theorem aE_go {pu : AP} {p : Nat} (hpu : aPu G pu p) (stops : List (Nat × List Bool)) (n : Nat) {d y pc : Nat} (hd : p < d) {ls : AL} {st : List AV} {M : AM} {Q : Option AV → AM → Prop} (h : aB G pu stops d y Q n pc (G.2.2.1 y pc) ls st M) : aE G d y pc [] ls st M Q := aE_nil _ _ _ _ _ _ _ (aB_ok hpu hd n _ _ _ _ _ h)
end UT
