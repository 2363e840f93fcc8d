/-! CALLS ON THE STORY: decay -/
def InvV (D : AM) : Prop := ∀ i, 0 ≤ i → i < D 0 7 → D 5 i = 11 → 0 ≤ D 11 i
def isSv (D : AM) (l e n : Int) : Bool := decide (D 5 n = 11 ∧ D 8 n = l ∧ e ≤ D 6 n ∧ D 6 n ≤ e + 90)
def srvL (D : AM) (B : List Int) (l e : Int) : List Int := (B.filter (isSv D l e)).map (D 11)
def bothS (a b r : Int) : Int := if r = 0 then min a b else if r = 1 then max a b else (a + b) / 2
def svS (r : Int) : List Int → Int
  | [] => 0
  | [a] => a
  | a :: b :: _ => bothS a b r
def decS (D : AM) (B : List Int) (lg : List LE) (p l : Int) : Int := if felD D lg l p < 0 then 0 else svS (force D (felD D lg l p) 5).1 (srvL D B l (felD D lg l p))
theorem felD_rg {D : AM} (hI : Inv D) (l p : Int) : ∀ (L : List LE), -1 ≤ felD D L l p ∧ felD D L l p ≤ 30000 := by
  have key : ∀ (L : List LE) (z : Int), -1 ≤ z ∧ z ≤ 30000 → -1 ≤ L.foldl (fun a e => if e.1 = l ∧ e.2.2.1 = 1 ∧ e.2.1 = p then D 6 e.2.2.2.1 else a) z ∧ L.foldl (fun a e => if e.1 = l ∧ e.2.2.1 = 1 ∧ e.2.1 = p then D 6 e.2.2.2.1 else a) z ≤ 30000 := by
    intro L
    induction L with
    | nil => exact fun z h => h
    | cons e L ih =>
      intro z h
      rw [List.foldl_cons]
      refine ih _ ?_
      have := Inv_pd hI e.2.2.2.1
      split <;> omega
  exact fun L => key L (-1) (by omega)
theorem srvL_mem {D : AM} {w l e a : Int} (hI : Inv D) (hV : InvV D) (h : a ∈ srvL D (bk D w) l e) : 0 ≤ a ∧ a ≤ 9999 := by
  unfold srvL at h
  obtain ⟨n, hn, rfl⟩ := List.mem_map.mp h
  obtain ⟨h1, h2⟩ := List.mem_filter.mp hn
  have hr := bk_mem h1
  unfold isSv at h2
  simp at h2
  exact ⟨hV n hr.1 hr.2 h2.1, (Inv_pv hI n).2⟩
theorem svS_rg {r : Int} : ∀ L : List Int, (∀ a ∈ L, 0 ≤ a ∧ a ≤ 9999) → 0 ≤ svS r L ∧ svS r L ≤ 9999
  | [], _ => by show (0 : Int) ≤ 0 ∧ (0 : Int) ≤ 9999; omega
  | [a], h => h a (by simp)
  | a :: b :: L, h => by
    have h1 := h a (by simp)
    have h2 := h b (by simp)
    show 0 ≤ bothS a b r ∧ bothS a b r ≤ 9999
    unfold bothS
    split
    · omega
    · split <;> omega
theorem decS_rg {D : AM} {w p l : Int} (hI : Inv D) (hV : InvV D) (lg : List LE) : 0 ≤ decS D (bk D w) lg p l ∧ decS D (bk D w) lg p l ≤ 9999 := by
  unfold decS
  split
  · omega
  · exact svS_rg _ (fun a ha => srvL_mem hI hV ha)
theorem srvL_snoc {D : AM} {B : List Int} {l e n : Int} : srvL D (B ++ [n]) l e = srvL D B l e ++ (if isSv D l e n then [D 11 n] else []) := by
  unfold srvL
  rw [List.filter_append, List.map_append]
  cases h : isSv D l e n
  · rw [List.filter_cons_of_neg (by rw [h]; decide)]; rfl
  · rw [List.filter_cons_of_pos h]; rfl
def lefN (D : AM) (B : List Int) (lg : List LE) (p : Int) : Nat → Int
  | 0 => D 1 p
  | k + 1 => lefN D B lg p k - min (lefN D B lg p k) (decS D B lg p k)
theorem lefN_rg {D : AM} {w p : Int} (hI : Inv D) (hV : InvV D) (lg : List LE) : ∀ k : Nat, 0 ≤ lefN D (bk D w) lg p k ∧ lefN D (bk D w) lg p k ≤ 9999
  | 0 => Inv_est hI p
  | k + 1 => by
    have ih := lefN_rg (w := w) (p := p) hI hV lg k
    have := decS_rg (w := w) (p := p) (l := k) hI hV lg
    unfold lefN
    omega
def f_decay (D : AM) (p l w x : Int) : Int := if ¬ (0 ≤ p ∧ p < D 0 1) ∨ ¬ (0 ≤ l ∧ l < D 0 3) then -100001 else if ¬ ((0 ≤ w ∧ w ≤ D 0 0) ∧ 0 ≤ x ∧ x ≤ 3) then -100002 else
  if x = 0 then felD D (story D w 30000).lg l p else if x = 1 then decS D (bk D w) (story D w 30000).lg p l else if x = 2 then min (lefN D (bk D w) (story D w 30000).lg p l.toNat) (decS D (bk D w) (story D w 30000).lg p l) else decS D (bk D w) (story D w 30000).lg p l - min (lefN D (bk D w) (story D w 30000).lg p l.toNat) (decS D (bk D w) (story D w 30000).lg p l)
theorem s1_Changes_lastFall {D M : AM} {p l : Int} {s : Sg} (hL : SL D 150 s) (hQ : Q1 D s M) : aCi s1_G 4 17 [aP 62, aI p, aI l] M (fun z M' => M' = M ∧ z = felD D s.lg l p) := by
  refine ⟨Nat.le_of_ble_eq_true rfl, fun d hd => ?_⟩
  refine s1_Changes_lastFall_0 (by omega) ?_
  have hln := SL_room hL (Int.le_refl _)
  rw [Q1_ln hQ, x_sub (by omega)]
  have key : ∀ (k : Nat), k ≤ s.lg.length → felD D (s.lg.take k) l p = felD D s.lg l p → aE s1_G d 17 7 [] [some (aP 62), some (aI p), some (aI l), some (aI ((k : Int) - 1))] [] M (fun r M' => ∃ z, r = some (aI z) ∧ M' = M ∧ z = felD D s.lg l p) := by
    intro k
    induction k with
    | zero =>
      intro _ h
      refine s1_Changes_lastFall_7 (by omega) ⟨fun _ => ⟨_, rfl, rfl, ?_⟩, fun h => absurd h (by omega)⟩
      rw [← h]
      rfl
    | succ k ih =>
      intro hk h
      have ht : s.lg.take (k + 1) = s.lg.take k ++ [s.lg[k]] := List.take_succ_eq_append_getElem (by omega)
      rw [ht, felD_snoc] at h
      have hg := Q1_lg hQ k (by omega)
      have ih := ih (by omega)
      refine s1_Changes_lastFall_7 (by omega) ?_
      rw [show ((k + 1 : Nat) : Int) - 1 = k by omega, hg.1, hg.2.1, hg.2.2.1, hg.2.2.2.2.2]
      rw [show a_add (k : Int) (-1) = (k : Int) - 1 from by rw [x_add (by omega)]; omega]
      refine ⟨fun h => absurd h (by omega), fun _ => ⟨by omega, fun h1 => ?_, fun h1 => ⟨by omega, fun h2 => ?_, fun h2 => ⟨by omega, fun h3 => ?_, fun h3 => ⟨by omega, _, rfl, rfl, ?_⟩⟩⟩⟩⟩
      · rw [if_neg (fun q => h1 q.1)] at h; exact ih h
      · rw [if_neg (fun q => h2 q.2.2)] at h; exact ih h
      · rw [if_neg (fun q => by have := q.2.1; omega)] at h; exact ih h
      · have hf := (SL_ok hL s.lg[k] (List.getElem_mem _)).2.2.1
        rw [if_pos ⟨h1, by omega, h2⟩] at h
        exact h
  exact key s.lg.length (Nat.le_refl _) (by rw [List.take_length])
theorem s1_Story_ofBoth {M : AM} {a b r : Int} (ha : 0 ≤ a ∧ a ≤ 9999) (hb : 0 ≤ b ∧ b ≤ 9999) : aCi s1_G 4 84 [aI a, aI b, aI r] M (fun z M' => M' = M ∧ z = bothS a b r) := by
  refine ⟨Nat.le_of_ble_eq_true rfl, fun d hd => ?_⟩
  refine s1_Story_ofBoth_0 (by omega) ?_
  unfold bothS
  rw [x_add (by omega), x_div (by omega) (by omega) (by omega) (by omega)]
  refine ⟨fun h => ⟨_, rfl, rfl, by rw [if_pos h]; split <;> omega⟩, fun h => ⟨fun g => ⟨_, rfl, rfl, by rw [if_neg h, if_pos g]; split <;> omega⟩, fun g => ⟨by decide, _, rfl, rfl, by rw [if_neg h, if_neg g]⟩⟩⟩
theorem s1_Story_decayOf {D M : AM} {w p l : Int} {s : Sg} (hI : Inv D) (hV : InvV D) (hw0 : 0 ≤ w) (hL : SL D 150 s) (hT : T1 D w s M) : aCi s1_G 8 83 [aP 37, aI p, aI l] M (fun z M' => fr wC M M' ∧ B1 D M' ∧ z = decS D (bk D w) s.lg p l) := by
  refine ⟨Nat.le_of_ble_eq_true rfl, fun d hd => ?_⟩
  refine s1_Story_decayOf_0 (by omega) ?_
  have hpn := Inv_pn hI
  have hbl := bk_len (D := D) (w := w) hpn.1
  obtain ⟨hB, hw, hQ⟩ := id hT
  obtain ⟨-, hb, -⟩ := B1_page hB hw hw0
  refine aKi_of (s1_Changes_lastFall (p := p) (l := l) hL hQ) (by omega) (fun z M1 q => ?_)
  obtain ⟨e1, rfl⟩ := q
  rw [e1]
  have hf := felD_rg hI l p s.lg
  obtain ⟨e, ee⟩ : ∃ e, e = felD D s.lg l p := ⟨_, rfl⟩
  have hdec : decS D (bk D w) s.lg p l = if e < 0 then 0 else svS (force D e 5).1 (srvL D (bk D w) l e) := by rw [ee]; rfl
  rw [hdec]
  rw [← ee] at hf ⊢
  refine ⟨fun h => ?_, fun h => ⟨_, rfl, fr_rf, hB, by rw [if_pos (by omega)]⟩⟩
  rw [if_neg (by omega)]
  have key : ∀ (suf pre : List Int) (one : Int), bk D w = pre ++ suf → ((one = -1 ∧ srvL D pre l e = []) ∨ (0 ≤ one ∧ srvL D pre l e = [one])) → aE s1_G d 83 23 [] [some (aP 37), none, some (aI l), some (aI e), some (aI one), some (aI pre.length), none] [] M (fun r M' => ∃ z, r = some (aI z) ∧ fr wC M M' ∧ B1 D M' ∧ z = svS (force D e 5).1 (srvL D (bk D w) l e)) := by
    intro suf
    induction suf with
    | nil =>
      intro pre one e1 ho
      have hl2 : (bk D w).length = pre.length := by rw [e1]; simp
      rw [List.append_nil] at e1
      refine s1_Story_decayOf_23 (by omega) ?_
      rw [hb.1, e1]
      refine ⟨fun _ => ⟨_, rfl, fr_rf, hB, ?_⟩, fun h => absurd h (by omega)⟩
      rcases ho with ⟨rfl, ho⟩ | ⟨h0, ho⟩
      · rw [ho]; rfl
      · rw [ho, if_pos h0]; rfl
    | cons n suf ih =>
      intro pre one e1 ho
      have hl2 : (bk D w).length = pre.length + 1 + suf.length := by rw [e1]; simp; omega
      have hn : M 16 pre.length = n := isL_mid (by rw [← e1]; exact hb.2)
      have hnr := bk_mem (D := D) (w := w) (i := n) (by rw [e1]; simp)
      have hd6 := Inv_pd hI n
      have ih := fun one => ih (pre ++ [n]) one (by rw [e1]; simp)
      rw [List.length_append, srvL_snoc] at ih
      have hr : 0 ≤ n ∧ n < 150 := by omega
      refine s1_Story_decayOf_23 (by omega) ?_
      rw [hb.1, hn, B1_pk hB, B1_pl hB, B1_pd hB, B1_pv hB, x_add (a := (pre.length : Int)) (by omega), x_add (a := e) (by omega)]
      simp only [a_bl_n, a_bl_z]
      have no : isSv D l e n = false → aE s1_G d 83 23 [] [some (aP 37), none, some (aI l), some (aI e), some (aI one), some (aI ((pre.length : Int) + 1)), none] [] M (fun r M' => ∃ z, r = some (aI z) ∧ fr wC M M' ∧ B1 D M' ∧ z = svS (force D e 5).1 (srvL D (bk D w) l e)) := fun h => by
        rw [h] at ih
        exact ih one (by simpa using ho)
      refine ⟨fun h => absurd h (by omega), fun _ => ⟨by omega, hr, fun h1 => no ?_, fun h1 => ⟨hr, fun h2 => no ?_, fun h2 => ⟨hr, fun h3 => no ?_, fun h3 => ?_⟩⟩⟩⟩
      · unfold isSv; simp; omega
      · unfold isSv; simp; omega
      · unfold isSv; simp; omega
      · have hy : isSv D l e n = true := by unfold isSv; simp; omega
        have hv := hV n hnr.1 hnr.2 h1
        have hv2 := (Inv_pv hI n).2
        rw [hy] at ih
        refine ⟨fun h4 => ⟨hr, ih _ (Or.inr ⟨hv, ?_⟩)⟩, fun h4 => ⟨hr, ?_⟩⟩
        · rcases ho with ⟨_, ho⟩ | ⟨h0, _⟩
          · rw [ho]; rfl
          · omega
        · rcases ho with ⟨h0, _⟩ | ⟨h0, ho⟩
          · exact absurd h0 h4
          · have hone : one ≤ 9999 := (srvL_mem (w := w) (l := l) (e := e) hI hV (by
              rw [e1]
              unfold srvL at ho ⊢
              rw [List.filter_append, List.map_append, ho]
              simp)).2
            refine aKi_of (s1_Canons_numberOn (name := 5) (day := e) hI hB (by omega) (by omega)) (by omega) (fun z M2 q => ?_)
            obtain ⟨p1, p2, p3, rfl⟩ := q
            refine aKi_of (s1_Story_ofBoth (r := (force D e 5).1) ⟨h0, hone⟩ ⟨hv, hv2⟩) (by omega) (fun z M3 q => ?_)
            obtain ⟨e3, rfl⟩ := q
            rw [e3]
            refine ⟨_, rfl, p1, p2, ?_⟩
            have es : srvL D (bk D w) l e = one :: D 11 n :: srvL D suf l e := by
              rw [e1]
              unfold srvL at ho ⊢
              rw [List.filter_append, List.map_append, ho, List.filter_cons_of_pos hy]
              rfl
            rw [es]
            rfl
  exact key (bk D w) [] (-1) rfl (Or.inl ⟨rfl, rfl⟩)
theorem c1_decay {D M : AM} {p l w x : Int} (hI : Inv D) (hV : InvV D) (hB : B1 D M) (hC : StoC D M) : aCi s1_G 14 133 [aP 0, aI p, aI l, aI w, aI x] M (fun z M' => z = f_decay D p l w x ∧ fr wS M M' ∧ B1 D M' ∧ StoC D M') := by
  refine ⟨Nat.le_of_ble_eq_true rfl, fun d hd => ?_⟩
  refine s1_decay_0 (by omega) ?_
  have hnl := Inv_nl hI
  have hnp := Inv_np hI
  simp only [a_bl_n, a_bl_z, B1_now hB, B1_nl hB, B1_np hB]
  rw [x_sub (by omega), x_sub (by omega)]
  unfold f_decay
  refine ⟨fun hp => ⟨_, rfl, by (repeat (first | rw [if_pos (by omega)] | rw [if_neg (by omega)])), fr_rf, hB, hC⟩, fun hp => ⟨fun hl => ⟨fun hw => ⟨_, rfl, by (repeat (first | rw [if_pos (by omega)] | rw [if_neg (by omega)])), fr_rf, hB, hC⟩, fun hw => ⟨fun hx => ?_, fun hx => ⟨_, rfl, by (repeat (first | rw [if_pos (by omega)] | rw [if_neg (by omega)])), fr_rf, hB, hC⟩⟩⟩, fun hl => ⟨_, rfl, by (repeat (first | rw [if_pos (by omega)] | rw [if_neg (by omega)])), fr_rf, hB, hC⟩⟩⟩
  rw [if_neg (by omega), if_neg (by omega)]
  have hL := SL_story (w := w) (u := 30000) hI
  refine k1_st (by omega) hI hB hC hw.1 (fun M1 f1 hT e1 e2 => ?_)
  obtain ⟨lg, elg⟩ : ∃ lg, lg = (story D w 30000).lg := ⟨_, rfl⟩
  rw [← elg]
  refine ⟨fun h0 => ⟨by omega, ?_⟩, fun h0 => ?_⟩
  · rw [if_neg h0, show M1 2 = D 1 from B1_est hT.1]
    have key : ∀ (m k : Nat) (M2 : AM), (k : Int) + m = l → fr wC M1 M2 → B1 D M2 → aE s1_G d 133 83 [] [some (aP 0), some (aI p), some (aI l), none, some (aI x), some (aI (lefN D (bk D w) lg p k)), some (aI k), none] [] M2 (fun r M' => ∃ z, r = some (aI z) ∧ z = (if x = 1 then decS D (bk D w) lg p l else if x = 2 then min (lefN D (bk D w) lg p l.toNat) (decS D (bk D w) lg p l) else decS D (bk D w) lg p l - min (lefN D (bk D w) lg p l.toNat) (decS D (bk D w) lg p l)) ∧ fr wS M M' ∧ B1 D M' ∧ StoC D M') := by
      intro m
      induction m with
      | zero =>
        intro k M2 hk f2 b2
        have hT2 := T1_c hT f2 b2
        have hr := decS_rg (w := w) (p := p) (l := l) hI hV lg
        have hlr := lefN_rg (w := w) (p := p) hI hV lg k
        refine s1_decay_83 (by omega) ⟨fun _ => ?_, fun h => absurd h (by omega)⟩
        refine aKi_of (s1_Story_decayOf (p := p) (l := l) hI hV hw.1 hL hT2) (by omega) (fun z M3 q => ?_)
        obtain ⟨q1, q2, rfl⟩ := q
        rw [← elg, show l.toNat = k by omega]
        have f3 := fr_tr f2 q1
        have fin : fr wS M M3 ∧ B1 D M3 ∧ StoC D M3 := ⟨fr_tr f1 (fr_mo f3 rfl), q2, sto_keep hT e1 e2 (fr_mo f3 rfl)⟩
        rw [show (if lefN D (bk D w) lg p k ≤ decS D (bk D w) lg p l then lefN D (bk D w) lg p k else decS D (bk D w) lg p l) = min (lefN D (bk D w) lg p k) (decS D (bk D w) lg p l) from by split <;> omega]
        refine ⟨fun h => ⟨_, rfl, by rw [if_pos h], fin⟩, fun h => ⟨fun g => ⟨_, rfl, by rw [if_neg h, if_pos g], fin⟩, fun g => ⟨_, rfl, by rw [if_neg h, if_neg g, x_sub (by omega)], fin⟩⟩⟩
      | succ m ih =>
        intro k M2 hk f2 b2
        have hT2 := T1_c hT f2 b2
        have hr := decS_rg (w := w) (p := p) (l := k) hI hV lg
        have hlr := lefN_rg (w := w) (p := p) hI hV lg k
        refine s1_decay_83 (by omega) ⟨fun h => absurd h (by omega), fun _ => ?_⟩
        refine aKi_of (s1_Story_decayOf (p := p) (l := (k : Int)) hI hV hw.1 hL hT2) (by omega) (fun z M3 q => ?_)
        obtain ⟨q1, q2, rfl⟩ := q
        rw [← elg, show (if lefN D (bk D w) lg p k ≤ decS D (bk D w) lg p k then lefN D (bk D w) lg p k else decS D (bk D w) lg p k) = min (lefN D (bk D w) lg p k) (decS D (bk D w) lg p k) from by split <;> omega, x_sub (by omega), x_add (by omega), show (k : Int) + 1 = ((k + 1 : Nat) : Int) by omega]
        exact ih (k + 1) M3 (by omega) (fr_tr f2 q1) q2
    exact key l.toNat 0 M1 (by omega) fr_rf hT.1
  · refine aKi_of (s1_Changes_lastFall (p := p) (l := l) hL hT.2.2) (by omega) (fun z M2 q => ?_)
    obtain ⟨q1, rfl⟩ := q
    rw [q1]
    exact ⟨_, rfl, by rw [if_pos h0, elg], f1, hT.1, sto_keep hT e1 e2 fr_rf⟩
-- in the second system
def stR (L : List Int) : Int × Int × Int := match L with
  | [] => (0, 0, 0)
  | [a] => (1, a, 0)
  | a :: b :: _ => (2, a, b)
theorem s2_decayOf {D M : AM} {w p l : Int} (hI : Inv D) (hV : InvV D) (hL : eqL D M) (hw0 : 0 ≤ w) : aCi s2_G 13 88 [aP 0, aI p, aI l, aI w] M (fun z M' => fr wU2 M M' ∧ M' 0 65 = felD D (story D w 30000).lg l p ∧ z = decS D (bk D w) (story D w 30000).lg p l) := by
  refine ⟨Nat.le_of_ble_eq_true rfl, fun d hd => ?_⟩
  refine s2_decayOf_0 (by omega) ?_
  have hpn := Inv_pn hI
  have hbl := bk_len (D := D) (w := w) hpn.1
  refine k2_st (by omega) hI hL hw0 (fun M1 ph f1 hT => ?_)
  obtain ⟨lg, elg⟩ : ∃ lg, lg = (story D w 30000).lg := ⟨_, rfl⟩
  have hfe := Q2_fe hT.2.2
  obtain ⟨hL1, hb, -⟩ := hT
  rw [← elg] at hfe ⊢
  have hf := felD_rg hI l p lg
  have hdec : decS D (bk D w) lg p l = if felD D lg l p < 0 then 0 else svS (force D (felD D lg l p) 5).1 (srvL D (bk D w) l (felD D lg l p)) := rfl
  rw [hdec]
  obtain ⟨e, ee⟩ : ∃ e, e = felD D lg l p := ⟨_, rfl⟩
  rw [← ee] at hf hfe ⊢
  rw [hfe]
  refine ⟨fun h => ?_, fun h => ⟨_, rfl, f1, hfe, by rw [if_pos h]⟩⟩
  rw [if_neg (by omega)]
  have key : ∀ (suf pre : List Int), bk D w = pre ++ suf → aE s2_G d 88 36 [] [some (aP 0), none, some (aI l), none, some (aI (stR (srvL D pre l e)).1), some (aI (stR (srvL D pre l e)).2.1), some (aI (stR (srvL D pre l e)).2.2), some (aI pre.length), none, none] [] M1 (fun r M' => ∃ z, r = some (aI z) ∧ fr wU2 M M' ∧ M' 0 65 = e ∧ z = svS (force D e 5).1 (srvL D (bk D w) l e)) := by
    intro suf
    induction suf with
    | nil =>
      intro pre e1
      have hl2 : (bk D w).length = pre.length := by rw [e1]; simp
      rw [List.append_nil] at e1
      refine s2_decayOf_36 (by omega) ?_
      rw [hb.1, hfe]
      refine ⟨fun _ => ?_, fun h => absurd h (by omega)⟩
      refine aKi_of (s2_forceOf (name := 5) (day := e) hI hL1) (by omega) (fun z M2 q => ?_)
      obtain ⟨q1, rfl, -⟩ := q
      have f2 : fr wU2 M M2 := fr_tr f1 (fr_mo q1 rfl)
      have h65 : M2 0 65 = e := (q1 0 65 rfl).trans hfe
      have hmem := fun a (ha : a ∈ srvL D (bk D w) l e) => srvL_mem hI hV ha
      rw [← e1]
      match hs : srvL D (bk D w) l e with
      | [] =>
        show (0 ≤ 0 → _) ∧ _
        exact ⟨fun _ => ⟨fun _ => ⟨fun h => absurd h (by decide), fun _ => ⟨_, rfl, f2, h65, rfl⟩⟩, fun h => absurd h (by decide)⟩, fun h => absurd h (by decide)⟩
      | [a] =>
        have ha := hmem a (by rw [hs]; simp)
        show (0 ≤ a → _) ∧ _
        rw [show (stR [a]).1 = 1 from rfl]
        exact ⟨fun _ => ⟨fun _ => ⟨fun h => absurd h (by decide), fun _ => ⟨_, rfl, f2, h65, rfl⟩⟩, fun h => absurd h (by show ¬ a < 0; omega)⟩, fun h => absurd h (by show ¬ a < 0; omega)⟩
      | a :: b :: r =>
        have ha := hmem a (by rw [hs]; simp)
        have hb := hmem b (by rw [hs]; simp)
        show (b ≤ a → _) ∧ _
        obtain ⟨r5, er5⟩ : ∃ r5, r5 = (force D e 5).1 := ⟨_, rfl⟩
        rw [← er5]
        have es : svS r5 (a :: b :: r) = bothS a b r5 := rfl
        have e2 : (stR (a :: b :: r)).1 = 2 := rfl
        have e3 : (stR (a :: b :: r)).2.1 = a := rfl
        have e4 : (stR (a :: b :: r)).2.2 = b := rfl
        rw [es, e2, e3, e4, x_add (by omega), x_div (by omega) (by omega) (by omega) (by omega)]
        unfold bothS
        refine ⟨fun h1 => ⟨fun h2 => ⟨fun _ => ⟨fun h3 => ⟨fun h4 => ⟨by decide, _, rfl, f2, h65, ?_⟩, fun h4 => ⟨_, rfl, f2, h65, ?_⟩⟩, fun h3 => ⟨_, rfl, f2, h65, ?_⟩⟩, fun h => absurd h (by decide)⟩, fun h2 => absurd h2 (by omega)⟩, fun h1 => ⟨fun h2 => absurd h2 (by omega), fun h2 => ⟨fun _ => ⟨fun h3 => ⟨fun h4 => ⟨by decide, _, rfl, f2, h65, ?_⟩, fun h4 => ⟨_, rfl, f2, h65, ?_⟩⟩, fun h3 => ⟨_, rfl, f2, h65, ?_⟩⟩, fun h => absurd h (by decide)⟩⟩⟩
        · rw [if_neg h3, if_neg h4]
        · rw [if_neg h3, if_pos h4]; omega
        · rw [if_pos h3]; omega
        · rw [if_neg h3, if_neg h4]
        · rw [if_neg h3, if_pos h4]; omega
        · rw [if_pos h3]; omega
    | cons n suf ih =>
      intro pre e1
      have hl2 : (bk D w).length = pre.length + 1 + suf.length := by rw [e1]; simp; omega
      have hn : M1 13 pre.length = n := isL_mid (by rw [← e1]; exact hb.2)
      have hnr := bk_mem (D := D) (w := w) (i := n) (by rw [e1]; simp)
      have hd6 := Inv_pd hI n
      have ih := ih (pre ++ [n]) (by rw [e1]; simp)
      rw [List.length_append, srvL_snoc] at ih
      have hr : 0 ≤ n ∧ n < 150 := by omega
      refine s2_decayOf_36 (by omega) ?_
      rw [hb.1, hn, hfe, L_5 hL1, L_8 hL1, L_6 hL1, L_11 hL1, x_add (a := (pre.length : Int)) (by omega), x_add (a := e) (by omega)]
      simp only [a_bl_n, a_bl_z]
      have no : isSv D l e n = false → aE s2_G d 88 36 [] [some (aP 0), none, some (aI l), none, some (aI (stR (srvL D pre l e)).1), some (aI (stR (srvL D pre l e)).2.1), some (aI (stR (srvL D pre l e)).2.2), some (aI ((pre.length : Int) + 1)), none, none] [] M1 (fun r M' => ∃ z, r = some (aI z) ∧ fr wU2 M M' ∧ M' 0 65 = e ∧ z = svS (force D e 5).1 (srvL D (bk D w) l e)) := fun h => by
        rw [h, if_neg (by decide), List.append_nil] at ih
        exact ih
      refine ⟨fun h => absurd h (by omega), fun _ => ⟨by omega, hr, fun h1 => no ?_, fun h1 => ⟨hr, fun h2 => no ?_, fun h2 => ⟨hr, fun h3 => no ?_, fun h3 => ?_⟩⟩⟩⟩
      · unfold isSv; simp; omega
      · unfold isSv; simp; omega
      · unfold isSv; simp; omega
      · have hy : isSv D l e n = true := by unfold isSv; simp; omega
        rw [hy, if_pos rfl] at ih
        match hs : srvL D pre l e, ih with
        | [], ih =>
          refine ⟨fun h => absurd h (by decide), fun _ => ⟨fun h => absurd rfl h, fun _ => ⟨hr, fun _ => ih, fun h => absurd h (by decide)⟩⟩⟩
        | [a], ih =>
          rw [show (stR [a]).1 = 1 from rfl]
          refine ⟨fun h => absurd h (by decide), fun _ => ⟨fun _ => ⟨fun h => absurd rfl h, fun _ => ⟨hr, ih⟩⟩, fun h => absurd h (by decide)⟩⟩
        | a :: b :: r, ih =>
          rw [show (stR (a :: b :: r)).1 = 2 from rfl]
          exact ⟨fun _ => ih, fun h => absurd h (by decide)⟩
  exact key (bk D w) [] rfl
theorem c2_decay {M : AM} {p l w x : Int} (hI : Inv M) (hV : InvV M) : aCi s2_G 14 89 [aP 0, aI p, aI l, aI w, aI x] M (fun z M' => z = f_decay M p l w x ∧ fr wU2 M M') := by
  refine ⟨Nat.le_of_ble_eq_true rfl, fun d hd => ?_⟩
  refine s2_decay_0 (by omega) ?_
  have hnl := Inv_nl hI
  have hnp := Inv_np hI
  simp only [a_bl_n, a_bl_z, Decidable.not_not]
  rw [x_sub (by omega), x_sub (by omega)]
  unfold f_decay
  refine ⟨fun hp => ⟨_, rfl, by (repeat (first | rw [if_pos (by omega)] | rw [if_neg (by omega)])), fr_rf⟩, fun hp => ⟨fun hl => ⟨fun hw => ⟨_, rfl, by (repeat (first | rw [if_pos (by omega)] | rw [if_neg (by omega)])), fr_rf⟩, fun hw => ⟨fun hx => ?_, fun hx => ⟨_, rfl, by (repeat (first | rw [if_pos (by omega)] | rw [if_neg (by omega)])), fr_rf⟩⟩⟩, fun hl => ⟨_, rfl, by (repeat (first | rw [if_pos (by omega)] | rw [if_neg (by omega)])), fr_rf⟩⟩⟩
  rw [if_neg (by omega), if_neg (by omega)]
  obtain ⟨lg, elg⟩ : ∃ lg, lg = (story M w 30000).lg := ⟨_, rfl⟩
  rw [← elg]
  refine ⟨by omega, ?_⟩
  have key : ∀ (m k : Nat) (M2 : AM), (k : Int) + m = l → fr wU2 M M2 → aE s2_G d 89 54 [] [some (aP 0), some (aI p), some (aI l), some (aI w), some (aI x), some (aI (lefN M (bk M w) lg p k)), some (aI k), none] [] M2 (fun r M' => ∃ z, r = some (aI z) ∧ z = (if x = 0 then felD M lg l p else if x = 1 then decS M (bk M w) lg p l else if x = 2 then min (lefN M (bk M w) lg p l.toNat) (decS M (bk M w) lg p l) else decS M (bk M w) lg p l - min (lefN M (bk M w) lg p l.toNat) (decS M (bk M w) lg p l)) ∧ fr wU2 M M') := by
    intro m
    induction m with
    | zero =>
      intro k M2 hk f2
      have hr := decS_rg (w := w) (p := p) (l := l) hI hV lg
      have hlr := lefN_rg (w := w) (p := p) hI hV lg k
      refine s2_decay_54 (by omega) ⟨fun _ => ?_, fun h => absurd h (by omega)⟩
      refine aKi_of (s2_decayOf (p := p) (l := l) hI hV (eqL_fw eqL_rf f2 rfl) hw.1) (by omega) (fun z M3 q => ?_)
      obtain ⟨q1, q2, rfl⟩ := q
      rw [← elg] at q2 ⊢
      rw [show l.toNat = k by omega, q2, x_sub (by omega), x_sub (by omega)]
      have f3 : fr wU2 M M3 := fr_tr f2 q1
      refine ⟨fun g => ⟨fun h0 => ⟨fun h1 => ⟨fun h2 => ⟨_, rfl, ?_, f3⟩, fun h2 => ⟨_, rfl, ?_, f3⟩⟩, fun h1 => ⟨_, rfl, ?_, f3⟩⟩, fun h0 => ⟨_, rfl, ?_, f3⟩⟩, fun g => ⟨fun h0 => ⟨fun h1 => ⟨fun h2 => ⟨_, rfl, ?_, f3⟩, fun h2 => ⟨_, rfl, ?_, f3⟩⟩, fun h1 => ⟨_, rfl, ?_, f3⟩⟩, fun h0 => ⟨_, rfl, ?_, f3⟩⟩⟩
      · rw [if_neg h0, if_neg h1, if_neg h2]; omega
      · rw [if_neg h0, if_neg h1, if_pos h2]; omega
      · rw [if_neg h0, if_pos h1]
      · rw [if_pos h0]
      · rw [if_neg h0, if_neg h1, if_neg h2]; omega
      · rw [if_neg h0, if_neg h1, if_pos h2]; omega
      · rw [if_neg h0, if_pos h1]
      · rw [if_pos h0]
    | succ m ih =>
      intro k M2 hk f2
      have hr := decS_rg (w := w) (p := p) (l := k) hI hV lg
      have hlr := lefN_rg (w := w) (p := p) hI hV lg k
      have hstep : lefN M (bk M w) lg p (k + 1) = lefN M (bk M w) lg p k - min (lefN M (bk M w) lg p k) (decS M (bk M w) lg p k) := rfl
      have ih := fun M3 => ih (k + 1) M3 (by omega)
      rw [hstep] at ih
      refine s2_decay_54 (by omega) ⟨fun h => absurd h (by omega), fun _ => ?_⟩
      refine aKi_of (s2_decayOf (p := p) (l := (k : Int)) hI hV (eqL_fw eqL_rf f2 rfl) hw.1) (by omega) (fun z M3 q => ?_)
      obtain ⟨q1, q2, rfl⟩ := q
      rw [← elg, x_sub (by omega), x_sub (by omega), x_add (by omega), show (k : Int) + 1 = ((k + 1 : Nat) : Int) by omega]
      have ih := ih M3 (fr_tr f2 q1)
      refine ⟨fun g => ?_, fun g => ?_⟩
      · rw [show min (lefN M (bk M w) lg p k) (decS M (bk M w) lg p k) = lefN M (bk M w) lg p k by omega] at ih
        exact ih
      · rw [show min (lefN M (bk M w) lg p k) (decS M (bk M w) lg p k) = decS M (bk M w) lg p k by omega] at ih
        exact ih
  exact key l.toNat 0 M (by omega) fr_rf
