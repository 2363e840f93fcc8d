/-! THE STORY in the first system: what happens -/
abbrev wE : Nat → Int → Bool := wr [33, 34, 38, 39, 52, 53, 54, 55, 57, 58, 59, 60, 61, 63, 64, 65, 66, 67, 68] [(24, 10), (24, 11), (56, 5), (62, 6)]
theorem B1_wE0 {D M M' : AM} {cs : List Nat} {fs : List (Nat × Int)} (hB : B1 D M) (g : fr (wr cs fs) M M') (e : wrL cs fs [38, 39, 52, 53, 54, 55, 57, 58, 59, 60, 61, 63, 64, 65, 66, 67, 68] [(56, 5), (62, 6)] = true) : B1 D M' := by
  have g := fr_mo g e
  have gD : fr (wr [] []) D D := fr_rf
  refine ⟨?_, G1_fw (B1_G hB) gD g rfl, P1_fw (B1_P hB) gD g rfl, C1_fw (B1_C hB) gD g rfl, R1_fw (B1_R hB) gD g rfl, S1_fw (B1_S hB) gD g rfl, F1_fw (B1_F hB) gD g rfl, E1_fw (B1_E hB) gD g rfl⟩
  rw [g 0 10 rfl]; exact B1_now hB
/-- how many holders, counted by bits -/
theorem cntB_H : ∀ (n : Nat) (l : List (Int × Int)), l.Pairwise (fun a b => a.1 ≠ b.1) → (∀ e ∈ l, 0 ≤ e.1 ∧ e.1 < n) → cntB (fun p => hasH l p) n = l.length
  | 0, l, _, h => by
    match l with
    | [] => rfl
    | e :: _ => have := h e (by simp); omega
  | n + 1, l, hn, h => by
    rw [cntB_succ]
    by_cases hh : hasH l n = true
    · have h1 := delH_len hn hh
      have h2 := cntB_H n (delH l n) (hn.filter _) (fun e he => by
        obtain ⟨a, b⟩ := delH_mem he
        have := h e a
        omega)
      have e : cntB (fun p => hasH l p) n = cntB (fun p => hasH (delH l n) p) n := cntB_cg (fun i hi => by
        rw [Bool.eq_iff_iff, hasH_t, hasH_t]
        constructor
        · rintro ⟨c, hc⟩
          refine ⟨c, ?_⟩
          unfold delH
          rw [List.mem_filter]
          exact ⟨hc, by simp; omega⟩
        · rintro ⟨c, hc⟩
          exact ⟨c, (delH_mem hc).1⟩)
      rw [e, h2, if_pos hh]
      exact h1
    · have h2 := cntB_H n l hn (fun e he => by
        have := h e he
        have : e.1 ≠ n := fun q => hh (hasH_t.mpr ⟨e.2, by rw [← q]; exact he⟩)
        omega)
      rw [h2, if_neg hh]
      rfl
theorem s1_Story_holderCount {M : AM} {L : List (Int × Int)} {l : Int} (h : lset (M 38 l) 40 (fun p => hasH L p)) (hl : 0 ≤ l ∧ l < 12) (hn : L.Pairwise (fun a b => a.1 ≠ b.1)) (hp : ∀ e ∈ L, 0 ≤ e.1 ∧ e.1 < 40) : aCi s1_G 5 77 [aP 37, aI l] M (fun z M' => M' = M ∧ z = L.length) := by
  refine ⟨Nat.le_of_ble_eq_true rfl, fun d hd => ?_⟩
  refine s1_Story_holderCount_0 (by omega) ⟨hl, ?_⟩
  refine aKi_of (s1_Long_bitCount h) (by omega) (fun z M1 q => ?_)
  obtain ⟨rfl, rfl⟩ := q
  exact ⟨_, rfl, rfl, by rw [cntB_H 40 L hn hp]⟩
/-- a change noted -/
def noteM (M : AM) (k l p f dd n z : Int) : AM := am_up (am_up (am_up (am_up (am_up (am_up (am_up M 66 k l) 67 k p) 68 k f) 63 k dd) 64 k n) 65 k z) 62 6 (k + 1)
theorem s1_Changes_note {M : AM} {k l p f dd n z : Int} (hk : M 62 6 = k) (h0 : 0 ≤ k ∧ k < 300) (hf : f = 0 ∨ f = 1) : aCv s1_G 4 15 [aP 62, aI l, aI p, aI f, aI dd, aI n, aI z] M (fun M' => M' = noteM M k l p f dd n z) := by
  refine ⟨Nat.le_of_ble_eq_true rfl, fun d hd => ?_⟩
  refine s1_Changes_note_0 (by omega) ?_
  simp (decide := true) only [x_uc, hk]
  rw [x_add (by omega)]
  exact ⟨fun h => absurd h (by omega), fun _ => ⟨h0, h0, h0, hf, h0, h0, h0, by trivial, rfl⟩⟩
/-- the log one longer -/
theorem Q1_note {D M : AM} {s : Sg} {k l p f n z : Int} (h : M 62 6 = s.lg.length ∧ ∀ (k : Nat) (hk : k < s.lg.length), M 66 k = s.lg[k].1 ∧ M 67 k = s.lg[k].2.1 ∧ M 68 k = s.lg[k].2.2.1 ∧ M 64 k = s.lg[k].2.2.2.1 ∧ M 65 k = s.lg[k].2.2.2.2 ∧ M 63 k = D 6 s.lg[k].2.2.2.1) (hk : k = s.lg.length) : (noteM M k l p f (D 6 n) n z) 62 6 = (s.lg ++ [(l, p, f, n, z)]).length ∧ ∀ (j : Nat) (hj : j < (s.lg ++ [(l, p, f, n, z)]).length), (noteM M k l p f (D 6 n) n z) 66 j = (s.lg ++ [(l, p, f, n, z)])[j].1 ∧ (noteM M k l p f (D 6 n) n z) 67 j = (s.lg ++ [(l, p, f, n, z)])[j].2.1 ∧ (noteM M k l p f (D 6 n) n z) 68 j = (s.lg ++ [(l, p, f, n, z)])[j].2.2.1 ∧ (noteM M k l p f (D 6 n) n z) 64 j = (s.lg ++ [(l, p, f, n, z)])[j].2.2.2.1 ∧ (noteM M k l p f (D 6 n) n z) 65 j = (s.lg ++ [(l, p, f, n, z)])[j].2.2.2.2 ∧ (noteM M k l p f (D 6 n) n z) 63 j = D 6 (s.lg ++ [(l, p, f, n, z)])[j].2.2.2.1 := by
  subst hk
  unfold noteM
  refine ⟨by rw [x_us]; simp, fun j hj => ?_⟩
  simp (decide := true) only [x_uk, x_uu]
  by_cases e : j = s.lg.length
  · subst e
    simp [up1_s]
  · have hj2 : j < s.lg.length := by simp at hj; omega
    have hne : (j : Int) ≠ s.lg.length := by omega
    rw [up1_n hne, up1_n hne, up1_n hne, up1_n hne, up1_n hne, up1_n hne, List.getElem_append_left hj2]
    exact h.2 j hj2
theorem noteM_fr {M : AM} {k l p f dd n z : Int} : fr (wr [63, 64, 65, 66, 67, 68] [(62, 6)]) M (noteM M k l p f dd n z) := fr_up (fr_up (fr_up (fr_up (fr_up (fr_up (fr_up fr_rf rfl) rfl) rfl) rfl) rfl) rfl) rfl
theorem hasH_del {L : List (Int × Int)} {p : Int} (q : Int) : hasH (delH L p) q = (hasH L q && !decide (q = p)) := by
  rw [Bool.eq_iff_iff]
  simp only [Bool.and_eq_true, hasH_t, Bool.not_eq_true', decide_eq_false_iff_not]
  constructor
  · rintro ⟨c, hc⟩
    obtain ⟨a, b⟩ := delH_mem hc
    exact ⟨⟨c, a⟩, b⟩
  · rintro ⟨⟨c, hc⟩, b⟩
    refine ⟨c, ?_⟩
    unfold delH
    rw [List.mem_filter]
    exact ⟨hc, by simp [b]⟩
theorem s1_Story_fall {D M : AM} {w l n why i : Int} {s : Sg} (hI : Inv D) (hS : SI D i s) (hL : SL D 150 s) (hT : T1 D w s M) (hl : 0 ≤ l ∧ l < 12) (hn : 0 ≤ n ∧ n < D 0 7) (hp : 0 ≤ D 9 n ∧ D 9 n < D 0 1) : aCv s1_G 6 75 [aP 37, aI l, aI n, aI why] M (fun M' => fr wE M M' ∧ T1 D w (fallS D s l n why) M') := by
  refine ⟨Nat.le_of_ble_eq_true rfl, fun d hd => ?_⟩
  refine s1_Story_fall_0 (by omega) ?_
  obtain ⟨hB, hw, hQ⟩ := id hT
  have hpn := Inv_pn hI
  have hnp := Inv_np hI
  have hd6 := Inv_pd hI n
  rw [B1_pp hB]
  refine ⟨by omega, ?_⟩
  refine aKi_of (s1_Story_isHolder hQ hl (by omega)) (by omega) (fun z M1 q => ?_)
  obtain ⟨rfl, rfl⟩ := q
  unfold fallS
  cases hh : hasH (s.h l) (D 9 n)
  · rw [if_neg (by simp)]
    exact ⟨fun h => absurd rfl h, fun _ => ⟨rfl, fr_rf, hT⟩⟩
  · rw [if_pos rfl]
    refine ⟨fun _ => ⟨hl, hl, hl, ?_⟩, fun h => absurd h (by decide)⟩
    obtain ⟨pn, epn⟩ : ∃ pn : Nat, D 9 n = pn := ⟨(D 9 n).toNat, by omega⟩
    obtain ⟨Z, eZ⟩ : ∃ Z, Z = a_land (M1 38 l) (a_lxor (a_lshl 1 (D 9 n)) (-1)) := ⟨_, rfl⟩
    have hZ : lset Z 40 (fun p => hasH (delH (s.h l) (D 9 n)) p) := by
      rw [eZ, epn]
      refine lset_cg (lset_del (Q1_h hQ l hl.1 hl.2) (c := pn) (by omega)) (fun q hq => ?_)
      rw [hasH_del]
      congr 2
      simp
      omega
    rw [← eZ]
    simp (decide := true) only [x_uc, x_us, x_uk]
    rw [B1_pd hB]
    have hdl := delH_len (SI_hn hS l) hh
    have hl40 := SI_len hI hS l
    have hlg := SL_len hL
    have hent := SL_ent hL
    have hbal := SL_bal hL
    have htot : 1 ≤ totN s.h 12 := by
      have ht := totN_upl (h := s.h) (l := l) (v := []) hl.1 12
      rw [if_pos (by omega), if_pos (by omega)] at ht
      simp only [List.length_nil] at ht
      omega
    have hln := Q1_ln hQ
    have hdn : (delH (s.h l) (D 9 n)).Pairwise (fun a b => a.1 ≠ b.1) := (SI_hn hS l).filter _
    have hdp : ∀ e ∈ delH (s.h l) (D 9 n), 0 ≤ e.1 ∧ e.1 < 40 := fun e he => by
      have := (SI_hp hS l e.1 e.2 (delH_mem he).1).2.1
      omega
    have hz : Z = 0 ↔ delH (s.h l) (D 9 n) = [] := by
      rw [lset_zero hZ]
      constructor
      · intro h
        match e : delH (s.h l) (D 9 n) with
        | [] => rfl
        | x :: r =>
          have hx := hdp x (by rw [e]; simp)
          have := h x.1.toNat (by omega)
          rw [show ((x.1.toNat : Nat) : Int) = x.1 by omega, ← Bool.not_eq_true, hasH_t] at this
          exact absurd ⟨x.2, by rw [e]; simp⟩ this
      · intro e j hj
        rw [e]
        rfl
    -- what is common
    have fin : ∀ (M2 : AM) (ef eb : Int → Int), fr (wr [38, 52, 53] []) M1 M2 → (∀ x, M2 38 x = up1 (M1 38) l Z x) → (∀ x, 0 ≤ x → x < 12 → M2 52 x = ef x) → (∀ x, 0 ≤ x → x < 12 → M2 53 x = eb x) →
        fr wE M1 (noteM M2 s.lg.length l (D 9 n) 1 (D 6 n) n (delH (s.h l) (D 9 n)).length) ∧ T1 D w (upl s.h l (delH (s.h l) (D 9 n)), ef, eb, s.ra, s.rb, s.tn, s.so, s.lg ++ [(l, D 9 n, 1, n, ((delH (s.h l) (D 9 n)).length : Int))], s.rs) (noteM M2 s.lg.length l (D 9 n) 1 (D 6 n) n (delH (s.h l) (D 9 n)).length) := by
      intro M2 ef eb f2 h38 h52 h53
      have fN : fr (wr [63, 64, 65, 66, 67, 68] [(62, 6)]) M2 (noteM M2 s.lg.length l (D 9 n) 1 (D 6 n) n (delH (s.h l) (D 9 n)).length) := noteM_fr
      have fA : fr (wr [38, 52, 53, 63, 64, 65, 66, 67, 68] [(62, 6)]) M1 (noteM M2 s.lg.length l (D 9 n) 1 (D 6 n) n (delH (s.h l) (D 9 n)).length) := fr_tr (fr_mo f2 rfl) (fr_mo fN rfl)
      refine ⟨fr_mo fA rfl, B1_wE0 hB fA rfl, (fA 6 9 rfl).trans hw, ?_⟩
      have hnote := Q1_note (D := D) (M := M2) (s := s) (k := s.lg.length) (l := l) (p := D 9 n) (f := 1) (n := n) (z := (delH (s.h l) (D 9 n)).length) ⟨(f2 62 6 rfl).trans hln, fun k hk => by
        have := Q1_lg hQ k hk
        rw [f2 66 k rfl, f2 67 k rfl, f2 68 k rfl, f2 64 k rfl, f2 65 k rfl, f2 63 k rfl]
        exact this⟩ rfl
      refine ⟨fun x x0 x1 => ?_, fun x p c x0 x1 hm => ?_, fun x x0 x1 => ?_, fun x x0 x1 => ?_, fun x x0 x1 => ?_, fun x x0 x1 => ?_, fun x x0 x1 => ?_, ?_, fun k hk => ?_, hnote.1, hnote.2, fun m hm => ?_⟩
      · rw [fN 38 x rfl, h38]
        dsimp only [Sg.h]
        by_cases e : x = l
        · subst e; rw [up1_s, upl_s]; exact hZ
        · rw [up1_n e, upl_n e]; exact Q1_h hQ x x0 x1
      · rw [fA 39 (x * 40 + p) rfl]
        refine Q1_c hQ x p c x0 x1 ?_
        dsimp only [Sg.h] at hm
        unfold upl at hm
        split at hm
        next e => rw [e]; exact (delH_mem hm).1
        · exact hm
      · rw [fN 52 x rfl]; exact h52 x x0 x1
      · rw [fN 53 x rfl]; exact h53 x x0 x1
      · rw [fA 57 x rfl]; exact Q1_ra hQ x x0 x1
      · rw [fA 58 x rfl]; exact Q1_rb hQ x x0 x1
      · rw [fA 59 x rfl]; exact Q1_tn hQ x x0 x1
      · rw [fA 56 5 rfl]; exact Q1_sn (s := s) hQ
      · rw [fA 60 k rfl, fA 61 k rfl]; exact Q1_so hQ k hk
      · rw [fA 54 m rfl]; exact Q1_rs hQ m hm
    have efc : ∀ (M2 : AM) (f1 f2 : Int → Int), f1 = f2 → True := fun _ _ _ _ => trivial
    refine ⟨fun hne => ⟨by omega, ?_⟩, fun he => ⟨by omega, hl, hl, by omega, ?_⟩⟩
    · have hne : delH (s.h l) (D 9 n) ≠ [] := fun q => hne (cmp0.mpr (hz.mpr q))
      have g1 : fr (wr [38, 52, 53] []) M1 (am_up M1 38 l Z) := fr_up fr_rf rfl
      refine aKi_of (s1_Story_holderCount (M := am_up M1 38 l Z) (L := delH (s.h l) (D 9 n)) (by rw [x_us]; exact hZ) hl hdn hdp) (by omega) (fun z M2 q => ?_)
      obtain ⟨rfl, rfl⟩ := q
      refine aKv_of (s1_Changes_note (k := s.lg.length) (by rw [x_uc (by decide)]; exact hln) (by omega) (Or.inr rfl)) (by omega) (fun M3 q => ?_)
      subst q
      have := fin _ s.ef s.eb g1 (fun x => by rw [x_uu]) (fun x x0 x1 => by rw [x_uk (by decide)]; exact Q1_ef hQ x x0 x1) (fun x x0 x1 => by rw [x_uk (by decide)]; exact Q1_eb hQ x x0 x1)
      rw [if_neg hne, if_neg hne]
      exact ⟨by trivial, this⟩
    · have he : delH (s.h l) (D 9 n) = [] := hz.mp (cmp0.mp he)
      have g1 : fr (wr [38, 52, 53] []) M1 (am_up (am_up (am_up M1 38 l Z) 52 l (D 6 n)) 53 l why) := fr_up (fr_up (fr_up fr_rf rfl) rfl) rfl
      refine aKi_of (s1_Story_holderCount (M := am_up (am_up (am_up M1 38 l Z) 52 l (D 6 n)) 53 l why) (L := delH (s.h l) (D 9 n)) (by simp (decide := true) only [x_uc, x_us]; exact hZ) hl hdn hdp) (by omega) (fun z M2 q => ?_)
      obtain ⟨rfl, rfl⟩ := q
      refine aKv_of (s1_Changes_note (k := s.lg.length) (by simp (decide := true) only [x_uc]; exact hln) (by omega) (Or.inr rfl)) (by omega) (fun M3 q => ?_)
      subst q
      have := fin _ (up1 s.ef l (D 6 n)) (up1 s.eb l why) g1 (fun x => by simp (decide := true) only [x_uk, x_uu]) (fun x x0 x1 => by
        simp (decide := true) only [x_uk, x_uu]
        unfold up1
        split
        · rfl
        · exact Q1_ef hQ x x0 x1) (fun x x0 x1 => by
        simp (decide := true) only [x_uk, x_uu]
        unfold up1
        split
        · rfl
        · exact Q1_eb hQ x x0 x1)
      rw [if_pos he, if_pos he]
      exact ⟨by trivial, this⟩
/-- the log's room while a paper's falls go on -/
def rm (D : AM) (a b n why : Int) (s : Sg) : Prop := ∀ m : Nat, m ≤ 12 → SL D 150 (fallN D a b n why m s)
theorem fallN_out {D : AM} {a b n why i : Int} {s : Sg} {k : Nat} (hS : SI D i s) (hk : D 0 3 ≤ k) : ∀ m : Nat, fallN D a b n why (k + m) s = fallN D a b n why k s ∧ ∀ x, D 0 3 ≤ x → (fallN D a b n why (k + m) s).h x = []
  | 0 => by
    refine ⟨rfl, fun x hx => ?_⟩
    have key : ∀ (j : Nat), (fallN D a b n why j s).h x = [] := by
      intro j
      induction j with
      | zero => exact SI_out hS x hx
      | succ j ih =>
        unfold fallN
        split
        · exact ih
        · unfold fallS
          split
          · dsimp only [Sg.h]
            unfold upl
            split
            next e => rw [← e, show delH ((fallN D a b n why j s).h x) (D 9 n) = [] by rw [ih]; rfl]
            · exact ih
          · exact ih
    exact key k
  | m + 1 => by
    obtain ⟨ih1, ih2⟩ := fallN_out (a := a) (b := b) (n := n) (why := why) hS hk m
    have e : fallN D a b n why (k + (m + 1)) s = fallN D a b n why (k + m) s := by
      rw [← Nat.add_assoc]
      show (if _ then _ else _) = _
      split
      · rfl
      · unfold fallS
        rw [ih2 ((k + m : Nat) : Int) (by omega)]
        rfl
    rw [e]
    exact ⟨ih1, ih2⟩
theorem s1_Story_fallFromAllBut {D M : AM} {w a b n why i : Int} {s : Sg} (hI : Inv D) (hS : SI D i s) (hR : rm D a b n why s) (hT : T1 D w s M) (hn : 0 ≤ n ∧ n < D 0 7) (hp : 0 ≤ D 9 n ∧ D 9 n < D 0 1) (hw : -1 ≤ why ∧ why ≤ 3) : aCv s1_G 7 74 [aP 37, aI a, aI b, aI n, aI why] M (fun M' => fr wE M M' ∧ T1 D w (fallN D a b n why 12 s) M') := by
  refine ⟨Nat.le_of_ble_eq_true rfl, fun d hd => ?_⟩
  refine s1_Story_fallFromAllBut_0 (by omega) ?_
  have hnl := Inv_nl hI
  have key : ∀ (m k : Nat) (M1 : AM), (k : Int) + m = D 0 3 → fr wE M M1 → T1 D w (fallN D a b n why k s) M1 → aE s1_G d 74 3 [] [some (aP 37), some (aI a), some (aI b), some (aI n), some (aI why), some (aI k)] [] M1 (fun r M' => r = none ∧ fr wE M M' ∧ T1 D w (fallN D a b n why 12 s) M') := by
    intro m
    induction m with
    | zero =>
      intro k M1 hk hf hT1
      refine s1_Story_fallFromAllBut_3 (by omega) ?_
      rw [B1_nl hT1.1]
      refine ⟨fun _ => ⟨rfl, hf, ?_⟩, fun h => absurd h (by omega)⟩
      have := (fallN_out (a := a) (b := b) (n := n) (why := why) (k := k) hS (by omega) (12 - k)).1
      rw [show k + (12 - k) = 12 by omega] at this
      rw [this]
      exact hT1
    | succ m ih =>
      intro k M1 hk hf hT1
      have ih := ih (k + 1)
      have hstep : fallN D a b n why (k + 1) s = if (k : Int) = a ∨ (k : Int) = b then fallN D a b n why k s else fallS D (fallN D a b n why k s) k n why := rfl
      rw [hstep] at ih
      refine s1_Story_fallFromAllBut_3 (by omega) ?_
      rw [B1_nl hT1.1, x_add (by omega), show (k : Int) + 1 = ((k + 1 : Nat) : Int) by omega]
      refine ⟨fun h => absurd h (by omega), fun _ => ⟨fun e => ?_, fun e => ⟨fun e2 => ?_, fun e2 => ?_⟩⟩⟩
      · rw [if_pos (Or.inl e)] at ih
        exact ih M1 (by omega) hf hT1
      · rw [if_pos (Or.inr e2)] at ih
        exact ih M1 (by omega) hf hT1
      · rw [if_neg (by omega)] at ih
        refine aKv_of (s1_Story_fall hI (SI_fallN hI hw k s hS) (hR k (by omega)) hT1 (by omega) hn hp) (by omega) (fun M2 q => ?_)
        exact ih M2 (by omega) (fr_tr hf q.1) q.2
  exact key (D 0 3).toNat 0 M (by omega) fr_rf hT
