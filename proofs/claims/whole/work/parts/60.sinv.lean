/-! THE STORY: what holds of it all along -/
theorem SI_mono {D : AM} {i j : Int} {s : Sg} (h : SI D i s) (hij : i ≤ j) : SI D j s := by
  refine ⟨fun l p c hm => ?_, SI_hs (s := s) h, SI_hn (s := s) h, SI_hu (s := s) h, SI_ef (s := s) h, SI_e0 (s := s) h, SI_eb (s := s) h, SI_ra (s := s) h, SI_rb (s := s) h, SI_tn (s := s) h, by have := SI_so (s := s) h; omega, SI_sv (s := s) h⟩
  have := SI_hp (s := s) h l p c hm
  omega
theorem delH_mem {l : List (Int × Int)} {p : Int} {e : Int × Int} (h : e ∈ delH l p) : e ∈ l ∧ e.1 ≠ p := by
  unfold delH at h
  obtain ⟨h1, h2⟩ := List.mem_filter.mp h
  exact ⟨h1, by simpa using h2⟩
theorem delH_len {p : Int} : ∀ {l : List (Int × Int)}, l.Pairwise (fun a b => a.1 ≠ b.1) → hasH l p = true → (delH l p).length + 1 = l.length
  | [], _, h => by cases h
  | e :: l, hn, h => by
    unfold delH
    have hn' := List.pairwise_cons.mp hn
    by_cases hc : e.1 = p
    · rw [List.filter_cons_of_neg (by simp [hc])]
      have : l.filter (fun e => !decide (e.1 = p)) = l := List.filter_eq_self.mpr (fun x hx => by
        have := hn'.1 x hx
        simp
        rw [← hc]
        exact fun q => this q.symm)
      rw [this]
      rfl
    · rw [List.filter_cons_of_pos (by simp [hc])]
      have h2 : hasH l p = true := by
        unfold hasH at h ⊢
        rw [List.any_cons] at h
        simpa [hc] using h
      have := delH_len hn'.2 h2
      unfold delH at this
      simp only [List.length_cons]
      omega
theorem SI_fall {D : AM} {i l n why : Int} {s : Sg} (hI : Inv D) (h : SI D i s) (hw : -1 ≤ why ∧ why ≤ 3) : SI D i (fallS D s l n why) := by
  unfold fallS
  split
  next hh =>
    have hd := Inv_pd hI n
    refine ⟨fun x p c hm => ?_, fun x => ?_, fun x => ?_, fun x y p q c h1 h2 => ?_, fun x => ?_, fun x hx => ?_, fun x => ?_, SI_ra (s := s) h, SI_rb (s := s) h, SI_tn (s := s) h, SI_so (s := s) h, SI_sv (s := s) h⟩
    · dsimp only [Sg.h] at hm
      unfold upl at hm
      split at hm
      next e => rw [e]; exact SI_hp (s := s) h l p c (delH_mem hm).1
      · exact SI_hp (s := s) h x p c hm
    · dsimp only [Sg.h]
      unfold upl
      split
      · exact (SI_hs (s := s) h l).filter _
      · exact SI_hs (s := s) h x
    · dsimp only [Sg.h]
      unfold upl
      split
      · exact (SI_hn (s := s) h l).filter _
      · exact SI_hn (s := s) h x
    · dsimp only [Sg.h] at h1 h2
      have g1 : (p, c) ∈ s.h x := by
        unfold upl at h1
        split at h1
        next e => rw [e]; exact (delH_mem h1).1
        · exact h1
      have g2 : (q, c) ∈ s.h y := by
        unfold upl at h2
        split at h2
        next e => rw [e]; exact (delH_mem h2).1
        · exact h2
      exact SI_hu (s := s) h x y p q c g1 g2
    · dsimp only [Sg.ef]
      split
      · exact up1_rg (SI_ef (s := s) h) (by omega) x
      · exact SI_ef (s := s) h x
    · dsimp only [Sg.h] at hx
      dsimp only [Sg.ef]
      by_cases e : x = l
      · subst e
        rw [upl_s] at hx
        rw [if_pos hx, up1_s]
        exact hd.1
      · rw [upl_n e] at hx
        split
        · rw [up1_n e]; exact SI_e0 (s := s) h x hx
        · exact SI_e0 (s := s) h x hx
    · dsimp only [Sg.eb]
      split
      · exact up1_rg (SI_eb (s := s) h) hw x
      · exact SI_eb (s := s) h x
  · exact h
theorem SI_fallN {D : AM} {i a b n why : Int} (hI : Inv D) (hw : -1 ≤ why ∧ why ≤ 3) : ∀ (m : Nat) (s : Sg), SI D i s → SI D i (fallN D a b n why m s)
  | 0, s, h => h
  | m + 1, s, h => by
    unfold fallN
    split
    · exact SI_fallN hI hw m s h
    · exact SI_fall hI (SI_fallN hI hw m s h) hw
theorem SI_rs {D : AM} {i n z : Int} {s : Sg} (h : SI D i s) : SI D i (rsS s n z) := ⟨SI_hp (s := s) h, SI_hs (s := s) h, SI_hn (s := s) h, SI_hu (s := s) h, SI_ef (s := s) h, SI_e0 (s := s) h, SI_eb (s := s) h, SI_ra (s := s) h, SI_rb (s := s) h, SI_tn (s := s) h, SI_so (s := s) h, SI_sv (s := s) h⟩
theorem SI_use {D : AM} {i l : Int} {s : Sg} (h : SI D i s) : SI D i (useS D s l) := by
  have ht := turnS_rg (l := l) h
  unfold useS
  split
  · exact h
  next hne =>
    refine ⟨SI_hp (s := s) h, SI_hs (s := s) h, SI_hn (s := s) h, SI_hu (s := s) h, SI_ef (s := s) h, SI_e0 (s := s) h, SI_eb (s := s) h, SI_ra (s := s) h, SI_rb (s := s) h, fun x => ?_, ?_, fun e he => ?_⟩
    · dsimp only [Sg.tn, Sg.rb, Sg.ra]
      split
      · exact SI_tn (s := s) h x
      next hb =>
        by_cases e : x = l
        · subst e
          rw [up1_s]
          have h1 := SI_tn (s := s) h x
          have h2 := SI_rb (s := s) h x
          have h3 := SI_ra (s := s) h x
          dsimp only [Sg.tn, Sg.rb, Sg.ra] at h1 h2 h3 hb
          have h4 := ht.2
          dsimp only [Sg.ra] at h4
          omega
        · rw [up1_n e]; exact SI_tn (s := s) h x
    · dsimp only [Sg.so]
      split
      · rw [List.length_set]; exact SI_so (s := s) h
      · exact SI_so (s := s) h
    · dsimp only [Sg.so] at he
      split at he
      next k n e1 =>
        obtain ⟨-, hk, e2, -⟩ := sldF_at _ _ _ _ e1
        rcases List.mem_or_eq_of_mem_set he with he | he
        · exact SI_sv (s := s) h e he
        · have := SI_sv (s := s) h _ (List.getElem_mem hk)
          rw [e2] at this
          rw [he]
          exact ⟨this.1, Or.inr rfl⟩
      · exact SI_sv (s := s) h e he
theorem SI_ent {D : AM} {i n : Int} {s : Sg} (h : SI D i s) (h0 : 0 ≤ i) (hl : 0 ≤ D 8 n ∧ D 8 n < D 0 3) (hp : 0 ≤ D 9 n ∧ D 9 n < D 0 1) : SI D (i + 1) (entS D s n i) := by
  unfold entS
  split
  · exact SI_mono h (by omega)
  next hh =>
    refine ⟨fun x p c hm => ?_, fun x => ?_, fun x => ?_, fun x y p q c h1 h2 => ?_, fun x => up1_rg (SI_ef (s := s) h) (by omega) x, fun x hx => ?_, fun x => up1_rg (SI_eb (s := s) h) (by omega) x, SI_ra (s := s) h, SI_rb (s := s) h, SI_tn (s := s) h, by have := SI_so (s := s) h; show ((s.so.length : Nat) : Int) ≤ i + 1; omega, SI_sv (s := s) h⟩
    · dsimp only [Sg.h] at hm
      by_cases e : x = D 8 n
      · subst e
        rw [upl_s] at hm
        rcases List.mem_append.mp hm with hm | hm
        · have := SI_hp (s := s) h _ p c hm; omega
        · simp at hm; omega
      · rw [upl_n e] at hm
        have := SI_hp (s := s) h x p c hm
        omega
    · dsimp only [Sg.h]
      by_cases e : x = D 8 n
      · subst e
        rw [upl_s, List.pairwise_append]
        refine ⟨SI_hs (s := s) h _, List.pairwise_singleton _ _, fun a ha b hb => ?_⟩
        simp at hb
        subst hb
        exact (SI_hp (s := s) h _ a.1 a.2 ha).2.2.2
      · rw [upl_n e]; exact SI_hs (s := s) h x
    · dsimp only [Sg.h]
      by_cases e : x = D 8 n
      · subst e
        rw [upl_s, List.pairwise_append]
        refine ⟨SI_hn (s := s) h _, List.pairwise_singleton _ _, fun a ha b hb => ?_⟩
        simp at hb
        subst hb
        intro q
        exact hh (hasH_t.mpr ⟨a.2, by rw [← show a.1 = D 9 n from q]; exact ha⟩)
      · rw [upl_n e]; exact SI_hn (s := s) h x
    · dsimp only [Sg.h] at h1 h2
      have key : ∀ z r, (r, c) ∈ upl s.h (D 8 n) (s.h (D 8 n) ++ [(D 9 n, i)]) z → ((r, c) ∈ s.h z ∧ c < i) ∨ (z = D 8 n ∧ c = i) := by
        intro z r hz
        by_cases e : z = D 8 n
        · subst e
          rw [upl_s] at hz
          rcases List.mem_append.mp hz with hz | hz
          · exact Or.inl ⟨hz, (SI_hp (s := s) h _ r c hz).2.2.2⟩
          · simp at hz; exact Or.inr ⟨rfl, hz.2⟩
        · rw [upl_n e] at hz
          exact Or.inl ⟨hz, (SI_hp (s := s) h z r c hz).2.2.2⟩
      rcases key x p h1 with ⟨g1, g2⟩ | ⟨g1, g2⟩ <;> rcases key y q h2 with ⟨k1, k2⟩ | ⟨k1, k2⟩
      · exact SI_hu (s := s) h x y p q c g1 k1
      · omega
      · omega
      · rw [g1, k1]
    · dsimp only [Sg.h] at hx
      dsimp only [Sg.ef]
      by_cases e : x = D 8 n
      · subst e; rw [upl_s] at hx; simp at hx
      · rw [upl_n e] at hx
        rw [up1_n e]
        exact SI_e0 (s := s) h x hx
theorem SI_lay {D : AM} {i l a b : Int} {s : Sg} (h : SI D i s) (ha : 0 ≤ a ∧ a < D 0 1) (hb : -1 ≤ b ∧ b < D 0 1) : SI D i (layS s l a b) := by
  refine ⟨SI_hp (s := s) h, SI_hs (s := s) h, SI_hn (s := s) h, SI_hu (s := s) h, SI_ef (s := s) h, SI_e0 (s := s) h, SI_eb (s := s) h, fun x => ?_, fun x => ?_, fun x => ?_, SI_so (s := s) h, SI_sv (s := s) h⟩
  · show -1 ≤ up1 s.ra l a x ∧ up1 s.ra l a x < D 0 1
    unfold up1
    split
    · omega
    · exact SI_ra (s := s) h x
  · show -1 ≤ up1 s.rb l b x ∧ up1 s.rb l b x < D 0 1
    unfold up1
    split
    · omega
    · exact SI_rb (s := s) h x
  · show up1 s.tn l 0 x = 0 ∨ (up1 s.tn l 0 x = 1 ∧ 0 ≤ up1 s.rb l b x ∧ 0 ≤ up1 s.ra l a x)
    by_cases e : x = l
    · subst e; exact Or.inl up1_s
    · rw [up1_n e, up1_n e, up1_n e]; exact SI_tn (s := s) h x
theorem SI_sel {D : AM} {i n : Int} {s : Sg} (h : SI D i s) (hn : 0 ≤ n ∧ n < D 0 7) (hk : D 5 n = 9) : SI D (i + 1) (selS s n) := by
  refine ⟨fun l p c hm => ?_, SI_hs (s := s) h, SI_hn (s := s) h, SI_hu (s := s) h, SI_ef (s := s) h, SI_e0 (s := s) h, SI_eb (s := s) h, SI_ra (s := s) h, SI_rb (s := s) h, SI_tn (s := s) h, ?_, fun e he => ?_⟩
  · have := SI_hp (s := s) h l p c hm; omega
  · show (((s.so ++ [(n, 0)]).length : Nat) : Int) ≤ i + 1
    have := SI_so (s := s) h
    rw [List.length_append]
    simp
    omega
  · rcases List.mem_append.mp he with he | he
    · exact SI_sv (s := s) h e he
    · simp at he
      subst he
      exact ⟨⟨hn, hk⟩, Or.inl rfl⟩
theorem SI_stp {D : AM} {B : List Int} {i n : Int} {s : Sg} (hI : Inv D) (h : SI D i s) (h0 : 0 ≤ i) (hn : 0 ≤ n ∧ n < D 0 7) : SI D (i + 1) (stpS D B s n i) := by
  unfold stpS
  split
  next hk =>
    have hl := Inv_hL hI n hn.1 hn.2 (Or.inl hk)
    have hp := Inv_hP hI n hn.1 hn.2 (by omega)
    unfold tinS
    refine SI_fallN hI (by omega) 12 _ (SI_ent ?_ h0 hl hp)
    cases usesB D B s n
    · exact SI_rs h
    · exact SI_use (SI_rs h)
  · split
    · exact SI_mono (SI_fall hI h (by omega)) (by omega)
    · split
      · exact SI_mono (SI_fallN hI (by omega) 12 s h) (by omega)
      · split
        next hk =>
          have hp := Inv_hP hI n hn.1 hn.2 (by omega)
          have hq := Inv_hQ hI n hn.1 hn.2 (Or.inr (Or.inl hk))
          exact SI_mono (SI_lay h hp (by omega)) (by omega)
        · split
          next hk =>
            have hp := Inv_hP hI n hn.1 hn.2 (by omega)
            have hnp := Inv_np hI
            exact SI_mono (SI_lay h hp (by omega)) (by omega)
          · split
            next hk => exact SI_sel h hn hk
            · exact SI_mono h (by omega)
theorem SI_0 {D : AM} (hI : Inv D) : SI D 0 s0S := by
  have := Inv_np hI
  refine ⟨fun l p c hm => (by cases hm), fun l => List.Pairwise.nil, fun l => List.Pairwise.nil, fun l m p q c hm => (by cases hm), fun l => ?_, fun l _ => ?_, fun l => ?_, fun l => ?_, fun l => ?_, fun l => Or.inl rfl, ?_, fun e he => (by cases he)⟩
  · show -1 ≤ (0 : Int) ∧ (0 : Int) ≤ 30000; omega
  · show (0 : Int) ≤ 0; omega
  · show -1 ≤ (0 : Int) ∧ (0 : Int) ≤ 3; omega
  · show -1 ≤ (-1 : Int) ∧ (-1 : Int) < D 0 1; omega
  · show -1 ≤ (-1 : Int) ∧ (-1 : Int) < D 0 1; omega
  · show ((0 : Nat) : Int) ≤ 0; omega
-- the log
def totN (h : Int → List (Int × Int)) : Nat → Nat
  | 0 => 0
  | m + 1 => totN h m + (h m).length
theorem totN_upl {h : Int → List (Int × Int)} {l : Int} {v : List (Int × Int)} (h0 : 0 ≤ l) : ∀ m : Nat, totN (upl h l v) m + (if l < m then (h l).length else 0) = totN h m + (if l < m then v.length else 0)
  | 0 => by
    rw [if_neg (by omega), if_neg (by omega)]; rfl
  | m + 1 => by
    have ih := totN_upl (h := h) (v := v) h0 m
    unfold totN
    by_cases e : (m : Int) = l
    · rw [if_neg (by omega), if_neg (by omega)] at ih
      rw [if_pos (by omega), if_pos (by omega), e, upl_s]
      omega
    · rw [upl_n e]
      by_cases g : l < m
      · rw [if_pos g, if_pos g] at ih
        rw [if_pos (by omega), if_pos (by omega)]
        omega
      · rw [if_neg g, if_neg g] at ih
        rw [if_neg (by omega), if_neg (by omega)]
        omega
abbrev LE : Type := Int × Int × Int × Int × Int
def isF (e : LE) : Bool := decide (e.2.2.1 = 1)
def isE (e : LE) : Bool := decide (e.2.2.1 = 0)
def isAt (l : Int) (e : LE) : Bool := decide (e.1 = l)
def SL (D : AM) (i : Int) (s : Sg) : Prop :=
  (s.lg.countP isF + totN s.h 12 = s.lg.countP isE) ∧
  (((s.lg.countP isE : Nat) : Int) ≤ i) ∧
  (s.lg.length = s.lg.countP isF + s.lg.countP isE) ∧
  (∀ l, ((s.lg.countP (isAt l) : Nat) : Int) ≤ i) ∧
  (∀ e ∈ s.lg, (0 ≤ e.2.2.2.1 ∧ e.2.2.2.1 < D 0 7) ∧ (0 ≤ e.2.2.2.2 ∧ e.2.2.2.2 ≤ 40) ∧ (e.2.2.1 = 0 ∨ e.2.2.1 = 1) ∧ (0 ≤ e.1 ∧ e.1 < 12) ∧ 0 ≤ e.2.1 ∧ e.2.1 < 40)
theorem SL_bal {D : AM} {i : Int} {s : Sg} (h : SL D  i  s ) : s.lg.countP isF + totN s.h 12 = s.lg.countP isE := h.1
theorem SL_ent {D : AM} {i : Int} {s : Sg} (h : SL D  i  s ) : ((s.lg.countP isE : Nat) : Int) ≤ i := h.2.1
theorem SL_len {D : AM} {i : Int} {s : Sg} (h : SL D  i  s ) : s.lg.length = s.lg.countP isF + s.lg.countP isE := h.2.2.1
theorem SL_liv {D : AM} {i : Int} {s : Sg} (h : SL D  i  s ) : ∀ l, ((s.lg.countP (isAt l) : Nat) : Int) ≤ i := h.2.2.2.1
theorem SL_ok {D : AM} {i : Int} {s : Sg} (h : SL D  i  s ) : ∀ e ∈ s.lg, (0 ≤ e.2.2.2.1 ∧ e.2.2.2.1 < D 0 7) ∧ (0 ≤ e.2.2.2.2 ∧ e.2.2.2.2 ≤ 40) ∧ (e.2.2.1 = 0 ∨ e.2.2.1 = 1) ∧ (0 ≤ e.1 ∧ e.1 < 12) ∧ 0 ≤ e.2.1 ∧ e.2.1 < 40 := h.2.2.2.2
/-- persons of a living are not more than forty -/
theorem nodup_len : ∀ (n : Nat) (l : List (Int × Int)), l.Pairwise (fun a b => a.1 ≠ b.1) → (∀ e ∈ l, 0 ≤ e.1 ∧ e.1 < n) → l.length ≤ n
  | 0, l, _, h => by
    match l with
    | [] => exact Nat.le_refl _
    | e :: _ => have := h e (by simp); omega
  | n + 1, l, hn, h => by
    by_cases hh : hasH l n = true
    · have h1 := delH_len hn hh
      have h2 := nodup_len n (delH l n) (hn.filter _) (fun e he => by
        obtain ⟨a, b⟩ := delH_mem he
        have := h e a
        omega)
      omega
    · have h2 := nodup_len n l hn (fun e he => by
        have := h e he
        have : e.1 ≠ n := fun q => hh (hasH_t.mpr ⟨e.2, by rw [← q]; exact he⟩)
        omega)
      omega
theorem SI_len {D : AM} {i : Int} {s : Sg} (hI : Inv D) (h : SI D i s) (l : Int) : (s.h l).length ≤ 40 := by
  have hnp := Inv_np hI
  exact nodup_len 40 _ (SI_hn (s := s) h l) (fun e he => by have := (SI_hp (s := s) h l e.1 e.2 he).2.1; omega)
theorem SI_len2 {D : AM} {i l p : Int} {s : Sg} (hI : Inv D) (h : SI D i s) (hp : 0 ≤ p ∧ p < D 0 1) (hh : hasH (s.h l) p = false) : (s.h l).length ≤ 39 := by
  have hnp := Inv_np hI
  have := nodup_len 40 ((p, 0) :: s.h l) (List.pairwise_cons.mpr ⟨fun e he q => absurd (show hasH (s.h l) p = true from hasH_t.mpr ⟨e.2, by rw [show p = e.1 from q]; exact he⟩) (by rw [hh]; simp), SI_hn (s := s) h l⟩) (fun e he => by
      rcases List.mem_cons.mp he with rfl | he
      · exact ⟨hp.1, by show p < 40; omega⟩
      · have := (SI_hp (s := s) h l e.1 e.2 he).2.1; omega)
  simp at this
  omega
/-- the log after some falls: j more for a living at most -/
theorem SL_fall {D : AM} {i j l n why : Int} {s : Sg} (hI : Inv D) (hS : SI D j s) (h : SL D i s) (hn : 0 ≤ n ∧ n < D 0 7) (hl : 0 ≤ l ∧ l < 12) (hat : ((s.lg.countP (isAt l) : Nat) : Int) + 1 ≤ i) : SL D i (fallS D s l n why) := by
  unfold fallS
  split
  next hh =>
    obtain ⟨c, hc⟩ := hasH_t.mp hh
    have hp := (SI_hp hS l _ c hc).2.1
    have hnp := Inv_np hI
    have hdl := delH_len (SI_hn hS l) hh
    have hl40 := SI_len hI hS l
    have ht := totN_upl (h := s.h) (l := l) (v := delH (s.h l) (D 9 n)) hl.1 12
    rw [if_pos (by omega), if_pos (by omega)] at ht
    have h1 := SL_bal h
    have h2 := SL_ent h
    have h3 := SL_len h
    refine ⟨?_, ?_, ?_, fun x => ?_, fun e he => ?_⟩
    · show (s.lg ++ [_]).countP isF + totN (upl s.h l _) 12 = (s.lg ++ [_]).countP isE
      rw [List.countP_append, List.countP_append]
      simp only [List.countP_cons, List.countP_nil, isF, isE]
      simp
      omega
    · show (((s.lg ++ [_]).countP isE : Nat) : Int) ≤ i
      rw [List.countP_append]
      simp only [List.countP_cons, List.countP_nil, isE]
      simp
      exact h2
    · show (s.lg ++ [_]).length = (s.lg ++ [_]).countP isF + (s.lg ++ [_]).countP isE
      rw [List.countP_append, List.countP_append, List.length_append]
      simp only [List.countP_cons, List.countP_nil, isF, isE, List.length_cons, List.length_nil]
      simp
      omega
    · show (((s.lg ++ [_]).countP (isAt x) : Nat) : Int) ≤ i
      have h4 := SL_liv h x
      rw [List.countP_append]
      simp only [List.countP_cons, List.countP_nil, isAt]
      by_cases e : l = x
      · subst e
        simp
        omega
      · simp [e]
        exact h4
    · rcases List.mem_append.mp he with he | he
      · exact SL_ok h e he
      · simp only [List.mem_singleton] at he
        subst he
        exact ⟨hn, ⟨Int.natCast_nonneg _, by dsimp only; omega⟩, Or.inr rfl, hl, by dsimp only; omega⟩
  · exact h
theorem fallS_at {D : AM} {l n why x : Int} {s : Sg} (h : x ≠ l) : (fallS D s l n why).lg.countP (isAt x) = s.lg.countP (isAt x) := by
  unfold fallS
  split
  · show (s.lg ++ [_]).countP (isAt x) = _
    rw [List.countP_append]
    simp only [List.countP_cons, List.countP_nil, isAt]
    have hne : ¬ l = x := fun q => h q.symm
    simp [hne]
  · rfl
theorem fallN_at {D : AM} {a b n why x : Int} : ∀ (m : Nat) (s : Sg), (m : Int) ≤ x ∨ x = a → (fallN D a b n why m s).lg.countP (isAt x) = s.lg.countP (isAt x)
  | 0, s, _ => rfl
  | m + 1, s, h => by
    unfold fallN
    split
    · exact fallN_at m s (by omega)
    · rw [fallS_at (by omega)]
      exact fallN_at m s (by omega)
theorem SL_fallN {D : AM} {i j a b n why : Int} (hI : Inv D) (hw : -1 ≤ why ∧ why ≤ 3) (hn : 0 ≤ n ∧ n < D 0 7) : ∀ (m : Nat) (s : Sg), m ≤ 12 → SI D j s → SL D i s → (∀ x, x ≠ a → ((s.lg.countP (isAt x) : Nat) : Int) + 1 ≤ i) → SL D i (fallN D a b n why m s)
  | 0, s, _, _, h, _ => h
  | m + 1, s, hm, hS, h, hx => by
    unfold fallN
    split
    · exact SL_fallN hI hw hn m s (by omega) hS h hx
    · refine SL_fall hI (SI_fallN hI hw m s hS) (SL_fallN hI hw hn m s (by omega) hS h hx) hn (by omega) ?_
      rw [fallN_at m s (Or.inl (Int.le_refl _))]
      exact hx m (by omega)
theorem SL_mono {D : AM} {i j : Int} {s : Sg} (h : SL D i s) (hij : i ≤ j) : SL D j s := ⟨SL_bal h, by have := SL_ent h; omega, SL_len h, fun l => by have := SL_liv h l; omega, SL_ok h⟩
theorem SL_ent' {D : AM} {i n : Int} {s : Sg} (hI : Inv D) (hS : SI D i s) (h : SL D i s) (hn : 0 ≤ n ∧ n < D 0 7) (hl : 0 ≤ D 8 n ∧ D 8 n < D 0 3) (hp : 0 ≤ D 9 n ∧ D 9 n < D 0 1) : SL D (i + 1) (entS D s n i) ∧ ∀ x, x ≠ D 8 n → (entS D s n i).lg.countP (isAt x) = s.lg.countP (isAt x) := by
  unfold entS
  have hnl := Inv_nl hI
  have hnp := Inv_np hI
  cases hh : hasH (s.h (D 8 n)) (D 9 n)
  · rw [if_neg (by simp)]
    have hl39 := SI_len2 hI hS hp hh
    have ht := totN_upl (h := s.h) (l := D 8 n) (v := s.h (D 8 n) ++ [(D 9 n, i)]) hl.1 12
    rw [if_pos (by omega), if_pos (by omega), List.length_append] at ht
    simp only [List.length_cons, List.length_nil] at ht
    have h1 := SL_bal h
    have h2 := SL_ent h
    have h3 := SL_len h
    refine ⟨⟨?_, ?_, ?_, fun x => ?_, fun e he => ?_⟩, fun x hx => ?_⟩
    · show (s.lg ++ [_]).countP isF + totN (upl s.h (D 8 n) _) 12 = (s.lg ++ [_]).countP isE
      rw [List.countP_append, List.countP_append]
      simp only [List.countP_cons, List.countP_nil, isF, isE]
      simp
      omega
    · show (((s.lg ++ [_]).countP isE : Nat) : Int) ≤ i + 1
      rw [List.countP_append]
      simp only [List.countP_cons, List.countP_nil, isE]
      simp
      omega
    · show (s.lg ++ [_]).length = (s.lg ++ [_]).countP isF + (s.lg ++ [_]).countP isE
      rw [List.countP_append, List.countP_append, List.length_append]
      simp only [List.countP_cons, List.countP_nil, isF, isE, List.length_cons, List.length_nil]
      simp
      omega
    · show (((s.lg ++ [_]).countP (isAt x) : Nat) : Int) ≤ i + 1
      have h4 := SL_liv h x
      rw [List.countP_append]
      simp only [List.countP_cons, List.countP_nil, isAt]
      by_cases e : D 8 n = x
      · simp [e]; omega
      · simp [e]; omega
    · rcases List.mem_append.mp he with he | he
      · exact SL_ok h e he
      · simp only [List.mem_singleton] at he
        subst he
        exact ⟨hn, ⟨by dsimp only; omega, by dsimp only; omega⟩, Or.inl rfl, ⟨hl.1, by dsimp only; omega⟩, by dsimp only; omega⟩
    · show (s.lg ++ [_]).countP (isAt x) = _
      rw [List.countP_append]
      simp only [List.countP_cons, List.countP_nil, isAt]
      have hne : ¬ D 8 n = x := fun q => hx q.symm
      simp [hne]
  · rw [if_pos rfl]
    exact ⟨SL_mono h (by omega), fun x _ => rfl⟩
theorem useS_lg {D : AM} {s : Sg} {l : Int} : (useS D s l).lg = s.lg ∧ (useS D s l).h = s.h := by
  unfold useS
  split <;> exact ⟨rfl, rfl⟩
theorem SL_of {D : AM} {i : Int} {s t : Sg} (h : SL D i s) (e1 : t.lg = s.lg) (e2 : t.h = s.h) : SL D i t := by
  unfold SL at h ⊢
  rw [e1, e2]
  exact h
theorem SL_stp {D : AM} {B : List Int} {i n : Int} {s : Sg} (hI : Inv D) (hS : SI D i s) (h : SL D i s) (h0 : 0 ≤ i) (hn : 0 ≤ n ∧ n < D 0 7) : SL D (i + 1) (stpS D B s n i) := by
  have hx : ∀ x, ((s.lg.countP (isAt x) : Nat) : Int) + 1 ≤ i + 1 := fun x => by have := SL_liv h x; omega
  have hnl := Inv_nl hI
  unfold stpS
  split
  next hk =>
    have hl := Inv_hL hI n hn.1 hn.2 (Or.inl hk)
    have hp := Inv_hP hI n hn.1 hn.2 (by omega)
    unfold tinS
    have key : ∀ t : Sg, SI D i t → SL D i t → t.lg = s.lg → ∀ b, SL D (i + 1) (fallN D (D 8 n) b n 3 12 (entS D t n i)) := by
      intro t ht hL e b
      obtain ⟨g1, g2⟩ := SL_ent' hI ht hL hn hl hp
      refine SL_fallN hI (by omega) hn 12 _ (Nat.le_refl _) (SI_ent ht h0 hl hp) g1 (fun x hne => ?_)
      rw [g2 x hne, e]
      exact hx x
    cases usesB D B s n
    · exact key _ (SI_rs hS) (SL_of h rfl rfl) rfl _
    · exact key _ (SI_use (SI_rs hS)) (SL_of h (useS_lg (D := D) (s := rsS s n _)).1 (useS_lg (D := D) (s := rsS s n _)).2) (useS_lg (D := D) (s := rsS s n _)).1 _
  · split
    next hk =>
      have hl := Inv_hL hI n hn.1 hn.2 (Or.inr (Or.inl hk))
      exact SL_fall hI hS (SL_mono h (by omega)) hn (by omega) (hx _)
    · split
      · exact SL_fallN hI (by omega) hn 12 s (Nat.le_refl _) hS (SL_mono h (by omega)) (fun x _ => hx x)
      · split
        · exact SL_of (SL_mono h (by omega)) rfl rfl
        · split
          · exact SL_of (SL_mono h (by omega)) rfl rfl
          · split
            · exact SL_of (SL_mono h (by omega)) rfl rfl
            · exact SL_mono h (by omega)
theorem SL_0 {D : AM} : SL D 0 s0S := ⟨rfl, Int.le_refl _, rfl, fun _ => Int.le_refl _, fun e he => by cases he⟩
