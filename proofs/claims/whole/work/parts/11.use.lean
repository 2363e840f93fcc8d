/-! THE ABSTRACT MACHINE, how it is used: a block's run read off as a proposition. -/
section US
variable {G : AG}
theorem a_tsw_mono {nx nx' : Nat → Prop} (h : ∀ t, nx t → nx' t) {pc : Nat} {a : Int} : ∀ (os : List Int) (lo : Int), a_tsw nx pc a lo os → a_tsw nx' pc a lo os
  | [], _, _ => trivial
  | _ :: os, lo, hs => ⟨fun e => h _ (hs.1 e), a_tsw_mono h os (lo + 1) hs.2⟩
theorem a_lsw_mono {nx nx' : Nat → Prop} (h : ∀ t, nx t → nx' t) {pc : Nat} {a d : Int} : ∀ (ps : List (Int × Int)), a_lsw nx pc a d ps → a_lsw nx' pc a d ps
  | [], hs => h _ hs
  | _ :: ps, hs => ⟨fun e => h _ (hs.1 e), fun e => a_lsw_mono h ps (hs.2 e)⟩
theorem a_cnd_mono {c : Jvm.ClassFile.Cond} {a b : Int} {A B A' B' : Prop} (hA : A → A') (hB : B → B') (h : a_cnd c a b A B) : a_cnd c a b A' B' := by
  cases c <;> exact ⟨fun e => hA (h.1 e), fun e => hB (h.2 e)⟩
set_option maxHeartbeats 4000000 in
theorem a_step_mono {run run' : Nat → List AV → AM → (Option AV → AM → Prop) → Prop} {nx nx' : Nat → AB → AL → List AV → AM → Prop} (hr : ∀ y as M K K', (∀ r M', K r M' → K' r M') → run y as M K → run' y as M K') (hn : ∀ pc rs ls st M, nx pc rs ls st M → nx' pc rs ls st M)
    {rk : Nat} {Q : Option AV → AM → Prop} {pc : Nat} {ins : Jvm.ClassFile.Instr} {x : AX} {rs : AB} {ls : AL} {st : List AV} {M : AM} (h : a_step G run nx rk Q pc ins x rs ls st M) : a_step G run' nx' rk Q pc ins x rs ls st M := by
  unfold a_step at h ⊢
  cases ins <;> dsimp only [a_bin, a_binL, a_shL] at h ⊢
  all_goals first
    | exact h
    | exact hn _ _ _ _ _ h
    | skip
  all_goals (revert h)
  all_goals repeat' (first
    | exact fun h => h.elim
    | exact fun h => hn _ _ _ _ _ h
    | exact fun h => ⟨h.1, hn _ _ _ _ _ h.2⟩
    | exact fun h => ⟨h.1, h.2.1, hn _ _ _ _ _ h.2.2⟩
    | exact fun h => a_cnd_mono (hn _ _ _ _ _) (hn _ _ _ _ _) h
    | exact fun h => ⟨a_tsw_mono (fun t => hn _ _ _ _ _) _ _ h.1, fun e => hn _ _ _ _ _ (h.2 e)⟩
    | exact fun h => a_lsw_mono (fun t => hn _ _ _ _ _) _ h
    | exact fun h => hr _ _ _ _ _ (fun r M' => hn _ _ _ _ _) h
    | exact fun h => h
    | (refine fun h => ?_; obtain ⟨h1, h⟩ := a_cond h; rw [h1]; revert h; dsimp only [cond])
    | split)
end US
section UT
variable {G : AG}
theorem aE_mono : a_Mono (aE G) := fun d y pc rs ls st M Q Q' hQ h R m n s => m _ _ _ _ _ _ _ _ _ hQ (h R m n s)
theorem aE_nil : a_Nil G (aE G) := fun d y pc ls st M Q h R m n s => n _ _ _ _ _ _ _ (h R m n s)
theorem aE_stp : a_Stp G (aE G) := fun d y pc ins x rs ls st M Q h R m n s => s _ _ _ _ _ _ _ _ _ _ (a_step_mono (fun _ _ _ _ _ hK h => by
  obtain ⟨d', e1, e2, h3⟩ := h
  exact ⟨d', e1, e2, m _ _ _ _ _ _ _ _ _ hK (h3 R m n s)⟩) (fun _ _ _ _ _ h => h R m n s) h)
/-- the method y called at the depth d -/
def aK (G : AG) (d y : Nat) (as : List AV) (M : AM) (K : Option AV → AM → Prop) : Prop := a_Kof G (aE G) d y as M K
theorem aK_of {h d y : Nat} {as : List AV} {M : AM} {K K' : Option AV → AM → Prop} (hc : aC G h y as M K) (hd : h < d) (hK : ∀ r M', K r M' → K' r M') : aK G d y as M K' := by
  obtain ⟨h1, h2⟩ := hc
  cases d with
  | zero => omega
  | succ d => exact ⟨d, rfl, h1, aE_mono _ _ _ _ _ _ _ _ _ hK (h2 d (by omega))⟩
theorem aC_mono {h h' y : Nat} {as : List AV} {M : AM} {K K' : Option AV → AM → Prop} (hc : aC G h y as M K) (hd : h ≤ h') (hK : ∀ r M', K r M' → K' r M') : aC G h' y as M K' := ⟨hc.1, fun d h2 => aE_mono _ _ _ _ _ _ _ _ _ hK (hc.2 d (by omega))⟩
/-- calls of which the answer is known: by the table 'pu' -/
abbrev AP : Type := Nat → List AV → AM → Option (Option AV)
def aKp (G : AG) (pu : AP) (d y : Nat) (as : List AV) (M : AM) (K : Option AV → AM → Prop) : Prop := match pu y as M with
  | some r => K r M
  | none => aK G d y as M K
/-- a block run, up to the places 'stops' -/
def aB (G : AG) (pu : AP) (stops : List Nat) (d y : Nat) (Q : Option AV → AM → Prop) : Nat → Nat → AB → AL → List AV → AM → Prop
  | 0, pc, rs, ls, st, M => aE G d y pc rs ls st M Q
  | n + 1, pc, rs, ls, st, M => match rs with
    | [] => cond (stops.elem pc) (aE G d y pc [] ls st M Q) (aB G pu stops d y Q n pc (G.2.2.1 y pc) ls st M)
    | (ins, x) :: rs => a_step G (aKp G pu d) (fun pc' rs' ls' st' M' => aB G pu stops d y Q n pc' rs' ls' st' M') (G.2.1 y).2.2.1 Q pc ins x rs ls st M
/-- what the table of known answers must hold to, p deep -/
def aPu (G : AG) (pu : AP) (p : Nat) : Prop := ∀ y as M r, pu y as M = some r → aC G p y as M (fun r' M' => r' = r ∧ M' = M)
theorem aB_ok {pu : AP} {p : Nat} (hpu : aPu G pu p) {stops : List Nat} {d y : Nat} (hd : p < d) {Q : Option AV → AM → Prop} : ∀ (n pc : Nat) (rs : AB) (ls : AL) (st : List AV) (M : AM), aB G pu stops d y Q n pc rs ls st M → aE G d y pc rs ls st M Q := by
  intro n
  induction n with
  | zero => intro pc rs ls st M h; exact h
  | succ n ih =>
    intro pc rs ls st M h
    unfold aB at h
    split at h
    · cases hs : stops.elem pc
      · rw [hs] at h; exact aE_nil _ _ _ _ _ _ _ (ih _ _ _ _ _ h)
      · rw [hs] at h; exact h
    · refine aE_stp _ _ _ _ _ _ _ _ _ _ (a_step_mono (fun y as M K K' hK h => ?_) (fun _ _ _ _ _ h => ih _ _ _ _ _ h) h)
      unfold aKp at h
      split at h
      next r e => exact aK_of (hpu _ _ _ _ e) hd (fun r' M' hh => by rw [hh.1, hh.2]; exact hK _ _ h)
      next e =>
        obtain ⟨d', e1, e2, h3⟩ := h
        exact ⟨d', e1, e2, aE_mono _ _ _ _ _ _ _ _ _ hK h3⟩
/-- from a block's begin -/
theorem aE_go {pu : AP} {p : Nat} (hpu : aPu G pu p) (stops : List Nat) (n : Nat) {d y pc : Nat} (hd : p < d) {ls : AL} {st : List AV} {M : AM} {Q : Option AV → AM → Prop} (h : aB G pu stops d y Q n pc (G.2.2.1 y pc) ls st M) : aE G d y pc [] ls st M Q := aE_nil _ _ _ _ _ _ _ (aB_ok hpu hd n _ _ _ _ _ h)
end UT
