/-! What a story is told from -/
def eqS (D : AM) (D' : AM) : Prop :=
  (D' 0 7 = D 0 7) ∧
  (D' 0 18 = D 0 18) ∧
  (∀ i, 0 ≤ i → i < D 0 3 → D' 2 i = D 2 i) ∧
  (∀ i, 0 ≤ i → i < D 0 3 → D' 3 i = D 3 i) ∧
  (∀ i, 0 ≤ i → i < D 0 3 → D' 4 i = D 4 i) ∧
  (D' 5 = D 5) ∧
  (D' 6 = D 6) ∧
  (D' 7 = D 7) ∧
  (D' 8 = D 8) ∧
  (D' 9 = D 9) ∧
  (D' 10 = D 10) ∧
  (D' 11 = D 11) ∧
  (D' 14 = D 14) ∧
  (∀ i, 0 ≤ i → i < D 0 18 → D' 15 i = D 15 i) ∧
  (∀ i, i < 12 * D 0 18 → D' 16 i = D 16 i ∧ D' 17 i = D 17 i ∧ D' 18 i = D 18 i ∧ D' 19 i = D 19 i ∧ D' 20 i = D 20 i ∧ D' 21 i = D 21 i) ∧
  (∀ i, i < 140 * D 0 18 → D' 22 i = D 22 i)
theorem eqS_n7 {D : AM} {D' : AM} (h : eqS D  D' ) : D' 0 7 = D 0 7 := h.1
theorem eqS_n18 {D : AM} {D' : AM} (h : eqS D  D' ) : D' 0 18 = D 0 18 := h.2.1
theorem eqS_c2 {D : AM} {D' : AM} (h : eqS D  D' ) : ∀ i, 0 ≤ i → i < D 0 3 → D' 2 i = D 2 i := h.2.2.1
theorem eqS_c3 {D : AM} {D' : AM} (h : eqS D  D' ) : ∀ i, 0 ≤ i → i < D 0 3 → D' 3 i = D 3 i := h.2.2.2.1
theorem eqS_c4 {D : AM} {D' : AM} (h : eqS D  D' ) : ∀ i, 0 ≤ i → i < D 0 3 → D' 4 i = D 4 i := h.2.2.2.2.1
theorem eqS_c5 {D : AM} {D' : AM} (h : eqS D  D' ) : D' 5 = D 5 := h.2.2.2.2.2.1
theorem eqS_c6 {D : AM} {D' : AM} (h : eqS D  D' ) : D' 6 = D 6 := h.2.2.2.2.2.2.1
theorem eqS_c7 {D : AM} {D' : AM} (h : eqS D  D' ) : D' 7 = D 7 := h.2.2.2.2.2.2.2.1
theorem eqS_c8 {D : AM} {D' : AM} (h : eqS D  D' ) : D' 8 = D 8 := h.2.2.2.2.2.2.2.2.1
theorem eqS_c9 {D : AM} {D' : AM} (h : eqS D  D' ) : D' 9 = D 9 := h.2.2.2.2.2.2.2.2.2.1
theorem eqS_c10 {D : AM} {D' : AM} (h : eqS D  D' ) : D' 10 = D 10 := h.2.2.2.2.2.2.2.2.2.2.1
theorem eqS_c11 {D : AM} {D' : AM} (h : eqS D  D' ) : D' 11 = D 11 := h.2.2.2.2.2.2.2.2.2.2.2.1
theorem eqS_c14 {D : AM} {D' : AM} (h : eqS D  D' ) : D' 14 = D 14 := h.2.2.2.2.2.2.2.2.2.2.2.2.1
theorem eqS_c15 {D : AM} {D' : AM} (h : eqS D  D' ) : ∀ i, 0 ≤ i → i < D 0 18 → D' 15 i = D 15 i := h.2.2.2.2.2.2.2.2.2.2.2.2.2.1
theorem eqS_rw {D : AM} {D' : AM} (h : eqS D  D' ) : ∀ i, i < 12 * D 0 18 → D' 16 i = D 16 i ∧ D' 17 i = D 17 i ∧ D' 18 i = D 18 i ∧ D' 19 i = D 19 i ∧ D' 20 i = D 20 i ∧ D' 21 i = D 21 i := h.2.2.2.2.2.2.2.2.2.2.2.2.2.2.1
theorem eqS_cd {D : AM} {D' : AM} (h : eqS D  D' ) : ∀ i, i < 140 * D 0 18 → D' 22 i = D 22 i := h.2.2.2.2.2.2.2.2.2.2.2.2.2.2.2
theorem eqS_rows {D D' : AM} {j : Int} {i : Nat} (hI : Inv D) (E : eqS D D') (hj : 0 ≤ j ∧ j < D 0 18) (hi : i < (D 15 j).toNat) : D' 16 (12 * j + i) = D 16 (12 * j + i) ∧ D' 17 (12 * j + i) = D 17 (12 * j + i) ∧ D' 18 (12 * j + i) = D 18 (12 * j + i) ∧ D' 19 (12 * j + i) = D 19 (12 * j + i) ∧ D' 20 (12 * j + i) = D 20 (12 * j + i) ∧ D' 21 (12 * j + i) = D 21 (12 * j + i) := by
  have := Inv_cl hI j hj.1 hj.2
  exact eqS_rw E _ (by omega)
theorem any_cg {p q : Nat → Bool} : ∀ l : List Nat, (∀ x ∈ l, p x = q x) → l.any p = l.any q
  | [], _ => rfl
  | a :: l, h => by
    rw [List.any_cons, List.any_cons, h a (by simp), any_cg l (fun x hx => h x (by simp [hx]))]
theorem strk_cg {D D' : AM} {j c : Int} (hI : Inv D) (E : eqS D D') (hj : 0 ≤ j ∧ j < D 0 18) : strk D' j c = strk D j c := by
  unfold strk
  rw [eqS_c15 E j hj.1 hj.2]
  refine any_cg _ (fun i hi => ?_)
  have := eqS_rows (i := i) hI E hj (List.mem_range.mp hi)
  rw [this.1, this.2.1]
theorem onmk_cg {D D' : AM} {day : Int} (hI : Inv D) (E : eqS D D') : ∀ m : Nat, (m : Int) ≤ D 0 18 → onmk D' day m = onmk D day m
  | 0, _ => rfl
  | m + 1, h => by
    funext c
    unfold onmk
    rw [onmk_cg hI E m (by omega), eqS_c14 E, eqS_n18 E, strk_cg hI E (by omega)]
theorem isOn_cg {D D' : AM} {day : Int} (hI : Inv D) (E : eqS D D') : isOn D' day = isOn D day := by
  have hn := Inv_cn hI
  funext c
  unfold isOn
  rw [eqS_n18 E, onmk_cg hI E _ (by omega), eqS_c14 E]
theorem cord_cg {D D' : AM} {day : Int} (hI : Inv D) (E : eqS D D') : cord D' day = cord D day := by unfold cord; rw [isOn_cg hI E, eqS_c14 E, eqS_n18 E]
theorem foldl_cg {α β : Type} {f g : α → β → α} : ∀ (l : List β) (a : α), (∀ x ∈ l, ∀ a, f a x = g a x) → l.foldl f a = l.foldl g a
  | [], _, _ => rfl
  | x :: l, a, h => by
    rw [List.foldl_cons, List.foldl_cons, h x (by simp), foldl_cg l _ (fun y hy => h y (by simp [hy]))]
theorem force_cg {D D' : AM} {day name : Int} (hI : Inv D) (E : eqS D D') : force D' day name = force D day name := by
  unfold force
  rw [cord_cg hI E]
  refine foldl_cg _ _ (fun j hj a => ?_)
  have hjr := (cord_mem hj).1
  rw [eqS_c15 E j hjr.1 hjr.2]
  refine foldl_cg _ _ (fun i hi a => ?_)
  have := eqS_rows (i := i) hI E hjr (List.mem_range.mp hi)
  unfold letIn
  rw [this.1, this.2.1, this.2.2.1]
theorem SetC_cg {D D' : AM} (hI : Inv D) (E : eqS D D') (day a : Int) (b c : Int → Int) : SetC D' day a b c = SetC D day a b c := by
  unfold SetC
  simp only [isOn_cg hI E, force_cg hI E, eqS_n18 E]
theorem arr_cg {f g : Int → Int} {a : Int} {n : Nat} (h : ∀ i : Nat, i < n → f (a + i) = g (a + i)) : arr f a n = arr g a n := by
  unfold arr
  exact List.map_congr_left (fun i hi => h i (List.mem_range.mp hi))
theorem tstD_cg {D D' : AM} {j a b : Int} (E : eqS D D') (hj : 0 ≤ j ∧ j < D 0 18) (ha : 0 ≤ a) (hb : b ≤ 140) : tstD D' j a b = tstD D j a b := by
  unfold tstD
  refine arr_cg (fun i hi => eqS_cd E _ (by omega))
theorem brC_cg2 {D D' : AM} {g : Int → Bool} {j : Int} {n : Nat} (hI : Inv D) (E : eqS D D') (hj : 0 ≤ j ∧ j < D 0 18) (hn : (n : Int) < D 15 j) : brC D' g j (12 * j + n) = brC D g j (12 * j + n) := by
  have h := eqS_rows (i := n) hI E hj (by omega)
  have hok := Inv_cc hI j hj.1 hj.2 n (by omega) hn
  unfold brC metS
  rw [h.1, h.2.2.2.1, h.2.2.2.2.1, h.2.2.2.2.2]
  by_cases e : D 16 (12 * j + n) = 1
  · rcases hok with ⟨q, _⟩ | ⟨q, _⟩ | ⟨_, q, _⟩
    · omega
    · omega
    · rw [tstD_cg E hj q.1 (by omega), tstD_cg E hj (by omega) q.2.2.2]
  · rw [show decide (D 16 (12 * j + (n : Int)) = 1) = false by simpa using e, Bool.false_and, Bool.false_and, Bool.false_and, Bool.false_and]
theorem brF_cg2 {D D' : AM} {g : Int → Bool} {j : Int} (hI : Inv D) (E : eqS D D') (hj : 0 ≤ j ∧ j < D 0 18) : ∀ (m n : Nat), (n : Int) + m ≤ D 15 j → brF D' g j n m = brF D g j n m
  | 0, _, _ => rfl
  | m + 1, n, h => by
    unfold brF
    rw [brC_cg2 hI E hj (by omega), brF_cg2 hI E hj m (n + 1) (by omega)]
theorem brL_cg2 {D D' : AM} {g : Int → Bool} (hI : Inv D) (E : eqS D D') : ∀ l : List Int, (∀ j ∈ l, 0 ≤ j ∧ j < D 0 18) → brL D' g l = brL D g l
  | [], _ => rfl
  | j :: l, h => by
    have hj := h j (by simp)
    have hc := Inv_cl hI j hj.1 hj.2
    unfold brL
    rw [eqS_c15 E j hj.1 hj.2, brF_cg2 hI E hj _ 0 (by omega), brL_cg2 hI E l (fun x hx => h x (by simp [hx]))]
theorem dayOn_cg {D D' : AM} (E : eqS D D') (l : List Int) (k p : Int) : dayOn D' l k p = dayOn D l k p := dayOn_eq (eqS_c5 E) (eqS_c6 E) (eqS_c9 E) l k p
theorem bk_cg {D D' : AM} (E : eqS D D') (w : Int) : bk D' w = bk D w := bk_eq (eqS_c5 E) (eqS_c6 E) (eqS_c7 E) (eqS_c11 E) (eqS_n7 E) w
theorem hadB_cg {D D' : AM} (E : eqS D D') (l : List Int) (k p t : Int) : hadB D' l k p t = hadB D l k p t := by unfold hadB; rw [dayOn_cg E]
theorem heirL_cg {D D' : AM} (E : eqS D D') (l : List Int) (p t : Int) : heirL D' l p t = heirL D l p t := by
  have e : hrs D' p t = hrs D p t := by funext h i; unfold hrs; rw [eqS_c5 E, eqS_c9 E, eqS_c6 E, eqS_c10 E]
  unfold heirL
  rw [e]
theorem notL_cg {D D' : AM} (E : eqS D D') (l : List Int) (lv t : Int) : notL D' l lv t = notL D l lv t := by unfold notL; rw [eqS_c5 E, eqS_c8 E, eqS_c6 E]
theorem fallS_cg {D D' : AM} (E : eqS D D') (s : Sg) (l n why : Int) : fallS D' s l n why = fallS D s l n why := by unfold fallS; rw [eqS_c9 E, eqS_c6 E]
theorem fallN_cg {D D' : AM} (E : eqS D D') (a b n why : Int) (s : Sg) : ∀ m : Nat, fallN D' a b n why m s = fallN D a b n why m s
  | 0 => rfl
  | m + 1 => by unfold fallN; rw [fallN_cg E a b n why s m, fallS_cg E]
theorem sldF_cg {D D' : AM} (E : eqS D D') (l p : Int) : ∀ (r : List (Int × Int)) (i : Nat), sldF D' l p r i = sldF D l p r i
  | [], _ => rfl
  | e :: r, i => by unfold sldF; rw [sldF_cg E l p r (i + 1), eqS_c8 E, eqS_c9 E]
theorem wkH_cg {D D' : AM} (E : eqS D D') (B : List Int) (day : Int) : ∀ (n : Nat) (p : Int), wkH D' B day n p = wkH D B day n p
  | 0, p => by unfold wkH; rw [hadB_cg E]
  | n + 1, p => by unfold wkH; rw [hadB_cg E, heirL_cg E, wkH_cg E B day n]
theorem buyS_cg {D D' : AM} (E : eqS D D') (s : Sg) (l : Int) : buyS D' s l = buyS D s l := by unfold buyS; rw [sldF_cg E, eqS_c10 E]
theorem patS_cg {D D' : AM} (E : eqS D D') (B : List Int) (s : Sg) (l day : Int) : patS D' B s l day = patS D B s l day := by unfold patS; rw [wkH_cg E, buyS_cg E]
theorem frS_cg {D D' : AM} (E : eqS D D') (B : List Int) (s : Sg) (l : Int) : frS D' B s l = frS D B s l := by unfold frS; rw [notL_cg E]
theorem lapS_cg {D D' : AM} (hI : Inv D) (E : eqS D D') (B : List Int) (s : Sg) (l day : Int) : lapS D' B s l day = lapS D B s l day := by unfold lapS; rw [frS_cg E, force_cg hI E]
theorem mayS_cg {D D' : AM} (hI : Inv D) (E : eqS D D') (B : List Int) (s : Sg) (l day : Int) : mayS D' B s l day = mayS D B s l day := by unfold mayS; rw [lapS_cg hI E, patS_cg E]
theorem mlsD_cg {D D' : AM} {a b : Int} (E : eqS D D') (ha : 0 ≤ a ∧ a < D 0 3) (hb : 0 ≤ b ∧ b < D 0 3) : mlsD D' a b = mlsD D a b := by unfold mlsD; rw [eqS_c2 E a ha.1 ha.2, eqS_c2 E b hb.1 hb.2, eqS_c3 E a ha.1 ha.2, eqS_c3 E b hb.1 hb.2]
theorem farN_cg {D D' : AM} {i l p : Int} {s : Sg} (E : eqS D D') (hS : SI D i s) (hl : 0 ≤ l ∧ l < D 0 3) : ∀ m : Nat, farN D' s p l m = farN D s p l m
  | 0 => rfl
  | m + 1 => by
    unfold farN
    rw [farN_cg E hS hl m]
    by_cases q : (m : Int) ≠ l ∧ hasH (s.h m) p = true
    · obtain ⟨c, hc⟩ := hasH_t.mp q.2
      have := (SI_hp hS m p c hc).1
      rw [if_pos q, if_pos q, mlsD_cg E this hl]
    · rw [if_neg q, if_neg q]
theorem factS_cg {D D' : AM} {i l p : Int} {s : Sg} (E : eqS D D') (hS : SI D i s) (hl : 0 ≤ l ∧ l < D 0 3) (B : List Int) (day : Int) : factS D' B s p l day = factS D B s p l day := by
  funext f
  unfold factS
  rw [hadB_cg E, hadB_cg E, hadB_cg E, dayOn_cg E, dayOn_cg E, farN_cg E hS hl, eqS_c4 E l hl.1 hl.2]
theorem barS_cg {D D' : AM} {i l p : Int} {s : Sg} (hI : Inv D) (E : eqS D D') (hS : SI D i s) (hl : 0 ≤ l ∧ l < D 0 3) (B : List Int) (day : Int) : barS D' B s p l day = barS D B s p l day := by
  unfold barS
  rw [factS_cg E hS hl, cord_cg hI E]
  exact brL_cg2 hI E _ (fun j hj => (cord_mem hj).1)
theorem useS_cg {D D' : AM} (E : eqS D D') (s : Sg) (l : Int) : useS D' s l = useS D s l := by unfold useS; rw [sldF_cg E]
theorem whyS_cg {D D' : AM} {i n : Int} {s : Sg} (hI : Inv D) (E : eqS D D') (hS : SI D i s) (hl : 0 ≤ D 8 n ∧ D 8 n < D 0 3) (B : List Int) : whyS D' B s n = whyS D B s n := by unfold whyS; rw [eqS_c8 E, eqS_c9 E, eqS_c6 E, eqS_c10 E, hadB_cg E, barS_cg hI E hS hl, mayS_cg hI E]
theorem entS_cg {D D' : AM} (E : eqS D D') (s : Sg) (n i : Int) : entS D' s n i = entS D s n i := by unfold entS; rw [eqS_c8 E, eqS_c9 E]
theorem kepS_cg {D D' : AM} {i l p : Int} {s : Sg} (hI : Inv D) (E : eqS D D') (hS : SI D i s) (hl : 0 ≤ l ∧ l < D 0 3) (B : List Int) (day : Int) : kepS D' B s l p day = kepS D B s l p day := by
  unfold kepS
  rcases lasS_inv (l := l) (p := p) hS 12 with q | q
  · rw [if_neg (fun z => z.1 q.1), if_neg (fun z => z.1 q.1)]
  · obtain ⟨c, hc⟩ := hasH_t.mp q.2.1
    have hr := (SI_hp hS _ p c hc).1
    rw [hadB_cg E, mlsD_cg E hl hr, force_cg hI E, force_cg hI E, eqS_c4 E l hl.1 hl.2, eqS_c4 E _ hr.1 hr.2]
theorem usesB_cg {D D' : AM} {i n : Int} {s : Sg} (hI : Inv D) (E : eqS D D') (hS : SI D i s) (hl : 0 ≤ D 8 n ∧ D 8 n < D 0 3) (B : List Int) : usesB D' B s n = usesB D B s n := by unfold usesB; rw [whyS_cg hI E hS hl, eqS_c6 E, eqS_c10 E, eqS_c8 E, force_cg hI E, force_cg hI E, patS_cg E, lapS_cg hI E]
theorem tinS_cg {D D' : AM} {i n : Int} {s : Sg} (hI : Inv D) (E : eqS D D') (hS : SI D i s) (h0 : 0 ≤ i) (hl : 0 ≤ D 8 n ∧ D 8 n < D 0 3) (hp : 0 ≤ D 9 n ∧ D 9 n < D 0 1) (B : List Int) : tinS D' B s n i = tinS D B s n i := by
  have h3 : SI D (i + 1) (entS D (cond (usesB D B s n) (useS D (rsS s n (whyS D B s n)) (D 8 n)) (rsS s n (whyS D B s n))) n i) := by
    refine SI_ent ?_ h0 hl hp
    cases usesB D B s n
    · exact SI_rs hS
    · exact SI_use (SI_rs hS)
  unfold tinS
  dsimp only
  rw [whyS_cg hI E hS hl, usesB_cg hI E hS hl, eqS_c8 E, useS_cg E, entS_cg E, kepS_cg hI E h3 hl, fallN_cg E, eqS_c9 E, eqS_c6 E]
theorem stpS_cg {D D' : AM} {i n : Int} {s : Sg} (hI : Inv D) (E : eqS D D') (hS : SI D i s) (h0 : 0 ≤ i) (hn : 0 ≤ n ∧ n < D 0 7) (B : List Int) : stpS D' B s n i = stpS D B s n i := by
  unfold stpS
  rw [fallS_cg E, fallN_cg E, eqS_c5 E, eqS_c8 E, eqS_c9 E, eqS_c10 E]
  by_cases q : D 5 n = 3
  · rw [if_pos q, if_pos q]
    exact tinS_cg hI E hS h0 (Inv_hL hI n hn.1 hn.2 (Or.inl q)) (Inv_hP hI n hn.1 hn.2 (by omega)) B
  · rw [if_neg q, if_neg q]
theorem runS_cg {D D' : AM} {w : Int} (hI : Inv D) (E : eqS D D') (B : List Int) (u : Int) : ∀ (l : List Int) (i : Int) (s : Sg), (∀ n ∈ l, n ∈ bk D w) → 0 ≤ i → SI D i s → runS D' B u l i s = runS D B u l i s
  | [], _, _, _, _, _ => rfl
  | n :: l, i, s, hl, h0, hS => by
    have hn := bk_mem (D := D) (w := w) (hl n (by simp))
    unfold runS
    rw [eqS_c6 E, stpS_cg hI E hS h0 hn]
    split
    · exact runS_cg hI E B u l (i + 1) _ (fun m hm => hl m (by simp [hm])) (by omega) (SI_stp hI hS h0 hn)
    · rfl
theorem story_cg {D D' : AM} (hI : Inv D) (E : eqS D D') (w u : Int) : story D' w u = story D w u := by
  unfold story
  rw [bk_cg E, runS_cg (w := w) hI E (bk D w) u (bk D w) 0 s0S (fun n hn => hn) (Int.le_refl 0) (SI_0 hI)]
theorem StoC_cg {D D' M M' : AM} {cs : List Nat} {fs : List (Nat × Int)} (hI : Inv D) (E : eqS D D') (h : StoC D M) (g : fr (wr cs fs) M M') (e : sepL [38, 39, 52, 53, 54, 57, 58, 59, 60, 61, 63, 64, 65, 66, 67, 68] [(56, 5), (62, 6), (37, 11), (37, 12)] cs fs = true) : StoC D' M' := by
  have h1 := StoC_fw h g e
  unfold StoC at h1 ⊢
  rcases h1 with h1 | h1
  · exact Or.inl h1
  · refine Or.inr ?_
    rw [story_cg hI E]
    unfold Q1 at h1 ⊢
    rw [eqS_c6 E]
    exact h1
