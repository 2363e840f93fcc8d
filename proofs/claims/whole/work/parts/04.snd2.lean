/-! THE ABSTRACT MACHINE IS SOUND, second: locals, the words, one method's walk. -/
/-- the locals hold what the abstract ones say -/
def aLoc (cv : AV → Value) (lsC : Array Slot) (nL : Nat) (ls : AL) : Prop := lsC.size = nL ∧ lv_wf lsC ∧ ∀ (i : Nat) (v : AV), ls[i]? = some (some v) → lsC[i]? = some (.val (cv v))
/-- the same as the kit's rows ask for it -/
def al_prs (cv : AV → Value) (ls : AL) : List (Nat × Value) := (List.range ls.length).filterMap fun i => match ls[i]? with
  | some (some v) => some (i, cv v)
  | _ => none
theorem al_mem {cv : AV → Value} {ls : AL} {i : Nat} {w : Value} : (i, w) ∈ al_prs cv ls ↔ ∃ v, ls[i]? = some (some v) ∧ w = cv v := by
  unfold al_prs
  rw [List.mem_filterMap]
  constructor
  · rintro ⟨j, -, h⟩
    split at h
    next v e => cases h; exact ⟨v, e, rfl⟩
    next => cases h
  · rintro ⟨v, h, rfl⟩
    refine ⟨i, List.mem_range.mpr (List.getElem?_eq_some_iff.mp h).1, ?_⟩
    rw [h]
theorem al_has {cv : AV → Value} {lsC : Array Slot} {nL : Nat} {ls : AL} (h : aLoc cv lsC nL ls) : lv_has lsC nL (al_prs cv ls) := by
  refine ⟨h.1, h.2.1, fun q hq => ?_⟩
  obtain ⟨v, h1, h2⟩ := al_mem.mp (show (q.1, q.2) ∈ _ from hq)
  rw [h2]
  exact h.2.2 q.1 v h1
theorem al_kill_get {ls : AL} {i j : Nat} {w : AV} (h : (al_kill ls i)[j]? = some (some w)) : ls[j]? = some (some w) ∧ ¬ (j + 1 = i ∧ ∃ z, w = aL z) := by
  unfold al_kill at h
  split at h
  · exact ⟨h, fun x => by omega⟩
  next k =>
    split at h
    next z e =>
      rw [List.getElem?_set] at h
      split at h
      · split at h <;> cases h
      next hne => exact ⟨h, fun x => hne (by omega)⟩
    next hn =>
      refine ⟨h, fun x => ?_⟩
      obtain ⟨x1, z, x2⟩ := x
      have : j = k := by omega
      subst this
      subst x2
      exact hn z h
theorem acv_cat {G : AG} {ad : Nat → Nat} {v : AV} : (acv G ad v).category = 2 ↔ ∃ z, v = aL z := by
  rcases v with z | z | k | ⟨k, i⟩ | k <;> simp [acv, Value.category]
theorem acv_catN {G : AG} {ad : Nat → Nat} (v : AV) : (acv G ad v).category = av_cat v := by
  rcases v with z | z | k | ⟨k, i⟩ | k <;> rfl
theorem acv_cats {G : AG} {ad : Nat → Nat} (st : List AV) : ((st.map (acv G ad)).map fun v => v.category).sum = av_cats st := by
  induction st with
  | nil => rfl
  | cons v r ih => simp only [List.map_cons, List.sum_cons, av_cats]; rw [acv_catN, ← ih]
theorem al_store1 {G : AG} {ad : Nat → Nat} {lsC : Array Slot} {nL i : Nat} {ls : AL} {v : AV} (h : lv_has lsC nL ((i, acv G ad v) :: (al_prs (acv G ad) ls).filter (fun q => !(q.1 == i) && !(q.1 + 1 == i && q.2.category == 2)))) : aLoc (acv G ad) lsC nL (al_set1 ls i v) := by
  refine ⟨h.1, h.2.1, fun j w hj => ?_⟩
  unfold al_set1 at hj
  rw [List.getElem?_set] at hj
  split at hj
  next e =>
    subst e
    split at hj
    · cases hj
      exact h.2.2 (i, acv G ad v) List.mem_cons_self
    · cases hj
  next e =>
    obtain ⟨h1, h2⟩ := al_kill_get hj
    refine h.2.2 (j, acv G ad w) (List.mem_cons_of_mem _ (List.mem_filter.mpr ⟨al_mem.mpr ⟨w, h1, rfl⟩, ?_⟩))
    have e2 : (j == i) = false := by simp; omega
    by_cases hji : j + 1 = i
    · have : ¬ (acv G ad w).category = 2 := fun x => h2 ⟨hji, acv_cat.mp x⟩
      simp [e2, this]
    · simp [e2, hji]
theorem al_store2 {G : AG} {ad : Nat → Nat} {lsC : Array Slot} {nL i : Nat} {ls : AL} {v : AV} (h : lv_has lsC nL ((i, acv G ad v) :: (al_prs (acv G ad) ls).filter (fun q => !(q.1 == i) && (!(q.1 == i + 1) && !(q.1 + 1 == i && q.2.category == 2))))) : aLoc (acv G ad) lsC nL (al_set2 ls i v) := by
  refine ⟨h.1, h.2.1, fun j w hj => ?_⟩
  unfold al_set2 at hj
  rw [List.getElem?_set] at hj
  split at hj
  next e => split at hj <;> cases hj
  next e0 =>
  rw [List.getElem?_set] at hj
  split at hj
  next e =>
    subst e
    split at hj
    · cases hj
      exact h.2.2 (i, acv G ad v) List.mem_cons_self
    · cases hj
  next e =>
    obtain ⟨h1, h2⟩ := al_kill_get hj
    refine h.2.2 (j, acv G ad w) (List.mem_cons_of_mem _ (List.mem_filter.mpr ⟨al_mem.mpr ⟨w, h1, rfl⟩, ?_⟩))
    have e2 : (j == i) = false := by simp; omega
    have e3 : (j == i + 1) = false := by simp; omega
    by_cases hji : j + 1 = i
    · have : ¬ (acv G ad w).category = 2 := fun x => h2 ⟨hji, acv_cat.mp x⟩
      simp [e2, e3, this]
    · simp [e2, e3, hji]
/-- which values the locals have is kept by a store -/
theorem al_set1_ok {P : AV → Prop} {ls : AL} {i : Nat} {v : AV} (h : ∀ w, some w ∈ ls → P w) (hv : P v) : ∀ w, some w ∈ al_set1 ls i v → P w := by
  intro w hw
  obtain ⟨j, hj⟩ := List.getElem?_of_mem hw
  unfold al_set1 at hj
  rw [List.getElem?_set] at hj
  split at hj
  · split at hj
    · cases hj; exact hv
    · cases hj
  · exact h w (List.mem_of_getElem? (al_kill_get hj).1)
theorem al_set2_ok {P : AV → Prop} {ls : AL} {i : Nat} {v : AV} (h : ∀ w, some w ∈ ls → P w) (hv : P v) : ∀ w, some w ∈ al_set2 ls i v → P w := by
  intro w hw
  obtain ⟨j, hj⟩ := List.getElem?_of_mem hw
  unfold al_set2 at hj
  rw [List.getElem?_set] at hj
  split at hj
  · split at hj <;> cases hj
  · rw [List.getElem?_set] at hj
    split at hj
    · split at hj
      · cases hj; exact hv
      · cases hj
    · exact h w (List.mem_of_getElem? (al_kill_get hj).1)
/-- the locals at the begin -/
theorem al_args_ok {P : AV → Prop} : ∀ (vs : List AV) (n : Nat), (∀ v ∈ vs, P v) → ∀ w, some w ∈ al_args n vs → P w := by
  intro vs
  induction vs with
  | nil => intro n _ w hw; have := List.eq_of_mem_replicate hw; cases this
  | cons v vs ih =>
    intro n hv w hw
    unfold al_args at hw
    split at hw
    · rcases List.mem_cons.mp hw with h | h
      · cases h; exact hv _ List.mem_cons_self
      · rcases List.mem_cons.mp h with h | h
        · cases h
        · exact ih _ (fun u hu => hv u (List.mem_cons_of_mem _ hu)) w h
    · rcases List.mem_cons.mp hw with h | h
      · cases h; exact hv _ List.mem_cons_self
      · exact ih _ (fun u hu => hv u (List.mem_cons_of_mem _ hu)) w h
theorem al_args_get {G : AG} {ad : Nat → Nat} : ∀ (vs : List AV) (n k i : Nat) (w : AV), (al_args n vs)[i]? = some (some w) → (k + i, acv G ad w) ∈ lv_args k (vs.map (acv G ad)) := by
  intro vs
  induction vs with
  | nil => intro n k i w h; have := List.eq_of_mem_replicate (List.mem_of_getElem? (show (List.replicate n none)[i]? = some (some w) from h)); cases this
  | cons v vs ih =>
    intro n k i w h
    rw [List.map_cons]
    unfold lv_args
    unfold al_args at h
    split at h
    next z =>
      rw [if_pos (show (acv G ad (Sum.inr (Sum.inl z))).category = 2 from rfl)]
      match i, h with
      | 0, h => cases h; exact List.mem_cons_self
      | 1, h => cases h
      | i + 2, h => rw [show k + (i + 2) = k + 2 + i by omega]; exact List.mem_cons_of_mem _ (ih _ _ _ _ h)
    next hn =>
      rw [if_neg (fun x => by obtain ⟨z, hz⟩ := acv_cat.mp x; exact hn z hz)]
      match i, h with
      | 0, h => cases h; exact List.mem_cons_self
      | i + 1, h => rw [show k + (i + 1) = k + 1 + i by omega]; exact List.mem_cons_of_mem _ (ih _ _ _ _ h)
theorem al_sl {G : AG} {ad : Nat → Nat} (vs : List AV) : (lg_sl (vs.map (acv G ad))).length = av_cats vs := by
  induction vs with
  | nil => rfl
  | cons v vs ih =>
    have e : lg_sl ((v :: vs).map (acv G ad)) = (if (acv G ad v).category = 2 then [.val (acv G ad v), .second] else [.val (acv G ad v)]) ++ lg_sl (vs.map (acv G ad)) := by simp [lg_sl]
    rw [e, List.length_append, ih]
    rcases v with z | z | k | ⟨k, i⟩ | k <;> simp [acv, Value.category, av_cats, av_cat]
theorem al_entry {G : AG} {ad : Nat → Nat} {vs : List AV} {n : Nat} (h : av_cats vs ≤ n) : aLoc (acv G ad) ((lg_sl (vs.map (acv G ad)) ++ List.replicate (n - (lg_sl (vs.map (acv G ad))).length) Slot.unset).toArray) n (al_args n vs) := by
  have h1 := lv_entry (vs.map (acv G ad)) (n := n) (by rw [al_sl]; exact h)
  refine ⟨h1.1, h1.2.1, fun i w hi => ?_⟩
  have h2 := al_args_get (G := G) (ad := ad) vs n 0 i w hi
  rw [Nat.zero_add] at h2
  exact h1.2.2 _ h2
