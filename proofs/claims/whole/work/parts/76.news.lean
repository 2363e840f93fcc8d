/-! CALLS ON THE STORY: news -/
def smN (s t : Sg) (l : Int) (k : Nat) : Bool := (List.range k).all (fun p : Nat => hasH (s.h l) p == hasH (t.h l) p)
theorem smN_succ {s t : Sg} {l : Int} (k : Nat) : smN s t l (k + 1) = (smN s t l k && (hasH (s.h l) k == hasH (t.h l) k)) := by
  unfold smN
  rw [List.range_succ, List.all_append]
  simp
theorem smN_t {s t : Sg} {l : Int} {k : Nat} : smN s t l k = true ↔ ∀ p : Nat, p < k → hasH (s.h l) p = hasH (t.h l) p := by
  unfold smN
  rw [List.all_eq_true]
  exact ⟨fun h p hp => by simpa using h p (List.mem_range.mpr hp), fun h p hp => by simpa using h p (List.mem_range.mp hp)⟩
def nwN (s t : Sg) (np n : Nat) : Nat := (List.range n).countP (fun l : Nat => !(smN s t l np))
theorem nwN_succ {s t : Sg} {np : Nat} (n : Nat) : nwN s t np (n + 1) = nwN s t np n + (if smN s t n np then 0 else 1) := by
  unfold nwN
  rw [List.range_succ, List.countP_append, List.countP_cons, List.countP_nil]
  cases smN s t n np <;> simp
theorem nwN_le (s t : Sg) (np n : Nat) : nwN s t np n ≤ n := by
  have := List.countP_le_length (p := fun l : Nat => !(smN s t l np)) (l := List.range n)
  rw [List.length_range] at this
  exact this
def f_news (D : AM) (t a b : Int) : Int := if ¬ ((0 ≤ t ∧ t ≤ 30000) ∧ (0 ≤ a ∧ a ≤ D 0 0) ∧ 0 ≤ b ∧ b ≤ D 0 0) then -100002 else nwN (story D a t) (story D b t) (D 0 1).toNat (D 0 3).toNat
theorem B1_204 {D M M' : AM} (hB : B1 D M) (g : fr (wr [204] []) M M') : B1 D M' := by
  have gD : fr (wr [] []) D D := fr_rf
  refine ⟨?_, G1_fw (B1_G hB) gD g rfl, P1_fw (B1_P hB) gD g rfl, C1_fw (B1_C hB) gD g rfl, R1_fw (B1_R hB) gD g rfl, S1_fw (B1_S hB) gD g rfl, F1_fw (B1_F hB) gD g rfl, E1_fw (B1_E hB) gD g rfl⟩
  rw [g 0 10 rfl]; exact B1_now hB
theorem c1_news {D M : AM} {t a b : Int} (hI : Inv D) (hB : B1 D M) (hC : StoC D M) : aCi s1_G 14 128 [aP 0, aI t, aI a, aI b] M (fun z M' => z = f_news D t a b ∧ fr wS M M' ∧ B1 D M' ∧ StoC D M') := by
  refine ⟨Nat.le_of_ble_eq_true rfl, fun d hd => ?_⟩
  refine s1_news_0 (by omega) ?_
  have hnl := Inv_nl hI
  have hnp := Inv_np hI
  simp only [a_bl_n, a_bl_z, B1_now hB]
  unfold f_news
  refine ⟨fun ht => ⟨_, rfl, by (repeat (first | rw [if_pos (by omega)] | rw [if_neg (by omega)])), fr_rf, hB, hC⟩, fun ht => ⟨fun ha => ⟨_, rfl, by (repeat (first | rw [if_pos (by omega)] | rw [if_neg (by omega)])), fr_rf, hB, hC⟩, fun ha => ⟨fun hb => ?_, fun hb => ⟨_, rfl, by (repeat (first | rw [if_pos (by omega)] | rw [if_neg (by omega)])), fr_rf, hB, hC⟩⟩⟩⟩
  rw [if_neg (by omega)]
  refine k1_st (by omega) hI hB hC ha.1 (fun M1 f1 hT e1 e2 => ?_)
  have hS := SI_story (w := a) (u := t) hI
  have hS' := SI_story (w := b) (u := t) hI
  obtain ⟨s, es⟩ : ∃ s, s = story D a t := ⟨_, rfl⟩
  obtain ⟨v, ev⟩ : ∃ v, v = story D b t := ⟨_, rfl⟩
  have ok := sto_keep hT e1 e2 (fr_rf (W := wQ) (M := M1))
  rw [← es] at hT hS ⊢
  rw [← ev] at hS' ⊢
  -- after the second telling
  have k88 : ∀ M2, fr wS M M2 → T1 D b v M2 → StoC D M2 → (∀ l, 0 ≤ l → l < D 0 3 → lset (M2 204 l) 40 (fun p => hasH (s.h l) p)) → ∀ (m k : Nat), (k : Int) + m = D 0 3 → aE s1_G d 128 88 [] [some (aP 0), none, none, none, some (aI (nwN s v (D 0 1).toNat k)), some (aI k)] [] M2 (fun r M' => ∃ z, r = some (aI z) ∧ z = nwN s v (D 0 1).toNat (D 0 3).toNat ∧ fr wS M M' ∧ B1 D M' ∧ StoC D M') := by
    intro M2 f2 hT2 hC2 h204 m
    induction m with
    | zero =>
      intro k hk
      refine s1_news_88 (by omega) ?_
      rw [B1_nl hT2.1]
      exact ⟨fun _ => ⟨_, rfl, by rw [show (D 0 3).toNat = k by omega], f2, hT2.1, hC2⟩, fun h => absurd h (by omega)⟩
    | succ m ih =>
      intro k hk
      have ih := ih (k + 1) (by omega)
      have hle := nwN_le s v (D 0 1).toNat k
      rw [nwN_succ] at ih
      refine s1_news_88 (by omega) ?_
      rw [B1_nl hT2.1, x_add (a := (k : Int)) (by omega), show (k : Int) + 1 = ((k + 1 : Nat) : Int) by omega, x_add (a := (nwN s v (D 0 1).toNat k : Int)) (by omega)]
      have heq : a_cmp (M2 204 k) (M2 38 k) = 0 ↔ smN s v k (D 0 1).toNat = true := by
        rw [cmp0, lset_eq (h204 k (by omega) (by omega)) (Q1_h hT2.2.2 k (by omega) (by omega)), smN_t]
        refine ⟨fun h p hp => h p (by omega), fun h p hp => ?_⟩
        by_cases g : p < (D 0 1).toNat
        · exact h p g
        · have n1 : ∀ (i : Int) (x : Sg), SI D i x → hasH (x.h k) p = false := fun i x hx => by
            cases e : hasH (x.h k) p
            · rfl
            · obtain ⟨c, hc⟩ := hasH_t.mp e
              have := (SI_hp hx _ _ _ hc).2.1
              omega
          show hasH (s.h k) p = hasH (v.h k) p
          rw [n1 _ _ hS, n1 _ _ hS']
      refine ⟨fun h => absurd h (by omega), fun _ => ⟨by omega, by omega, fun h => ?_, fun h => ?_⟩⟩
      · rw [if_pos (heq.mp h)] at ih; exact ih
      · rw [if_neg (fun q => h (heq.mpr q))] at ih; exact ih
  have k38 : ∀ (m k : Nat) (M2 : AM), (k : Int) + m = D 0 3 → fr (wr [204] []) M1 M2 → (∀ l : Int, 0 ≤ l → l < k → M2 204 l = M1 38 l) → aE s1_G d 128 38 [] [some (aP 0), some (aI t), none, some (aI b), some (aI k), none] [] M2 (fun r M' => ∃ z, r = some (aI z) ∧ z = nwN s v (D 0 1).toNat (D 0 3).toNat ∧ fr wS M M' ∧ B1 D M' ∧ StoC D M') := by
    intro m
    induction m with
    | zero =>
      intro k M2 hk f2 h204
      have hB2 : B1 D M2 := B1_204 hT.1 f2
      refine s1_news_38 (by omega) ?_
      rw [B1_nl hB2]
      refine ⟨fun _ => ?_, fun h => absurd h (by omega)⟩
      refine aKv_of (s1_Story_tell (w := b) (u := t) hI hB2 (StoC_fw ok f2 rfl) hb.1) (by omega) (fun M3 q => ?_)
      obtain ⟨q1, q2, q3, q4⟩ := q
      refine k88 M3 (fr_tr f1 (fr_tr (fr_mo f2 rfl) (fr_mo q1 rfl))) (by rw [ev]; exact q2) (sto_keep q2 q3 q4 fr_rf) (fun l l0 l1 => ?_) (D 0 3).toNat 0 (by omega)
      rw [q1 204 l rfl, h204 l l0 (by omega)]
      exact Q1_h hT.2.2 l l0 (by omega)
    | succ m ih =>
      intro k M2 hk f2 h204
      have hB2 : B1 D M2 := B1_204 hT.1 f2
      refine s1_news_38 (by omega) ?_
      rw [B1_nl hB2, x_add (by omega), show (k : Int) + 1 = ((k + 1 : Nat) : Int) by omega]
      refine ⟨fun h => absurd h (by omega), fun _ => ⟨by omega, by omega, ih (k + 1) _ (by omega) (fr_up f2 rfl) (fun l l0 l1 => ?_)⟩⟩
      rw [x_uu, f2 38 k rfl]
      by_cases e : l = k
      · subst e; rw [up1_s]
      · rw [up1_n e]; exact h204 l l0 (by omega)
  exact k38 (D 0 3).toNat 0 M1 (by omega) fr_rf (fun l l0 l1 => by omega)
/-- a log has no row of a living that is not -/
theorem cn_no {D : AM} {s : Sg} {i wl : Int} (hL : SL D i s) (h : wl < 0) : s.lg.filter (isAt wl) = [] := by
  rw [List.filter_eq_nil_iff]
  intro e he
  have := (SL_ok hL e he).2.2.2.1
  unfold isAt
  simp
  omega
theorem fel_no {D : AM} {wl wp : Int} : ∀ (L : List LE) (z : Int), (∀ e ∈ L, e.1 ≠ wl) → L.foldl (fun a e => if e.1 = wl ∧ e.2.2.1 = 1 ∧ e.2.1 = wp then D 6 e.2.2.2.1 else a) z = z
  | [], _, _ => rfl
  | e :: L, z, h => by
    rw [List.foldl_cons, if_neg (fun q => h e (by simp) q.1)]
    exact fel_no L z (fun x hx => h x (by simp [hx]))
theorem W2_again {D M : AM} {w u i : Int} {ph : Int → Int} (hI : Inv D) (hT : T2 D w (story D w u) i (-1) (-1) (-1) ph M) : W2 M (-1) (-1) (-1) := by
  have hL := SL_story (w := w) (u := u) hI
  obtain ⟨-, -, hQ⟩ := hT
  refine ⟨Q2_w1 hQ, Q2_w2 hQ, Q2_w3 hQ, ?_, ?_, ?_⟩
  · rw [Q2_cn hQ, cn_no hL (by decide)]; rfl
  · rw [Q2_wy hQ]
    exact (run_rs0 _ _ _ (fun m hm q => by have := (bk_mem hm).1; omega)).trans rfl
  · rw [Q2_fe hQ]
    exact fel_no _ _ (fun e he => by have := (SL_ok hL e he).2.2.2.1; omega)
theorem c2_news {M : AM} {t a b : Int} (hI : Inv M) : aCi s2_G 14 80 [aP 0, aI t, aI a, aI b] M (fun z M' => z = f_news M t a b ∧ fr wU2 M M') := by
  refine ⟨Nat.le_of_ble_eq_true rfl, fun d hd => ?_⟩
  refine s2_news_0 (by omega) ?_
  have hnl := Inv_nl hI
  have hnp := Inv_np hI
  simp only [a_bl_n, a_bl_z]
  unfold f_news
  refine ⟨fun ht => ⟨_, rfl, by (repeat (first | rw [if_pos (by omega)] | rw [if_neg (by omega)])), fr_rf⟩, fun ht => ⟨fun ha => ⟨_, rfl, by (repeat (first | rw [if_pos (by omega)] | rw [if_neg (by omega)])), fr_rf⟩, fun ha => ⟨fun hb => ?_, fun hb => ⟨_, rfl, by (repeat (first | rw [if_pos (by omega)] | rw [if_neg (by omega)])), fr_rf⟩⟩⟩⟩
  rw [if_neg (by omega)]
  refine k2_st (by omega) hI eqL_rf ha.1 (fun M1 ph f1 hT => ?_)
  have hS := SI_story (w := a) (u := t) hI
  have hS' := SI_story (w := b) (u := t) hI
  obtain ⟨s, es⟩ : ∃ s, s = story M a t := ⟨_, rfl⟩
  obtain ⟨v, ev⟩ : ∃ v, v = story M b t := ⟨_, rfl⟩
  have hW := W2_again hI hT
  rw [← es] at hT hS ⊢
  rw [← ev] at hS' ⊢
  obtain ⟨Q, eQ⟩ : ∃ Q : Option AV → AM → Prop, Q = fun r M' => ∃ z, r = some (aI z) ∧ z = nwN s v (M 0 1).toNat (M 0 3).toNat ∧ fr wU2 M M' := ⟨_, rfl⟩
  show aE s2_G d 80 42 [] [some (aP 0), some (aI t), none, some (aI b), some (aI 0), none, none, none] [] M1 (fun r M' => ∃ z, r = some (aI z) ∧ z = nwN s v (M 0 1).toNat (M 0 3).toNat ∧ fr wU2 M M')
  rw [← eQ]
  -- after the second telling
  have k116 : ∀ (M2 : AM) (i : Int) (ph : Int → Int), fr wU2 M M2 → T2 M b v i (-1) (-1) (-1) ph M2 → (∀ l p, 0 ≤ l → l < M 0 3 → 0 ≤ p → p < M 0 1 → M2 43 (40 * l + p) = bI (hasH (s.h l) p)) → SI M i v → ∀ (m k : Nat), (k : Int) + m = M 0 3 → aE s2_G d 80 116 [] [some (aP 0), none, none, none, some (aI (nwN s v (M 0 1).toNat k)), some (aI k), none, none] [] M2 Q := by
    intro M2 i ph f2 hT2 h43 hSv m
    induction m with
    | zero =>
      intro k hk
      refine s2_news_116 (by omega) ?_
      rw [L0_3 hT2.1, eQ]
      exact ⟨fun _ => ⟨_, rfl, by rw [show (M 0 3).toNat = k by omega], f2⟩, fun h => absurd h (by omega)⟩
    | succ m ih =>
      intro k hk
      have ih := ih (k + 1) (by omega)
      have hle := nwN_le s v (M 0 1).toNat k
      rw [nwN_succ] at ih
      refine s2_news_116 (by omega) ?_
      rw [L0_3 hT2.1]
      refine ⟨fun h => absurd h (by omega), fun _ => ?_⟩
      have inn : ∀ (m p : Nat), (p : Int) + m = M 0 1 → aE s2_G d 80 131 [] [some (aP 0), none, none, none, some (aI (nwN s v (M 0 1).toNat k)), some (aI k), some (aI (bI (smN s v k p))), some (aI p)] [] M2 Q := by
        intro m
        induction m with
        | zero =>
          intro p hp
          refine s2_news_131 (by omega) ?_
          rw [L0_1 hT2.1, x_add (a := (k : Int)) (by omega), show (k : Int) + 1 = ((k + 1 : Nat) : Int) by omega, show a_bl ((0 : Int) ≠ 0) = 0 from rfl, show a_bl ((1 : Int) ≠ 0) = 1 from rfl, x_add (b := 0) (by omega), x_add (b := 1) (by omega)]
          rw [show (M 0 1).toNat = p by omega] at ih ⊢
          refine ⟨fun _ => ⟨fun h => ?_, fun h => ?_⟩, fun h => absurd h (by omega)⟩
          · rw [if_pos (bI_ne.mp h)] at ih; exact ih
          · rw [if_neg (by rw [bI_eq0.mp h]; decide)] at ih; exact ih
        | succ m ih2 =>
          intro p hp
          have ih2 := ih2 (p + 1) (by omega)
          rw [smN_succ] at ih2
          refine s2_news_131 (by omega) ?_
          rw [L0_1 hT2.1, x_add (a := (p : Int)) (by omega), show (p : Int) + 1 = ((p + 1 : Nat) : Int) by omega, x_mul (by omega), x_add (a := 40 * (k : Int)) (by omega), h43 k p (by omega) (by omega) (by omega) (by omega)]
          refine ⟨fun h => absurd h (by omega), fun _ => ⟨fun h => ?_, fun h => ⟨by omega, ?_⟩⟩⟩
          · rw [bI_eq0.mp h] at ih2
            exact ih2
          · rw [bI_ne.mp h, Bool.true_and] at ih2
            refine aKi_of (s2_placeOf (w := b) (l := (k : Int)) (p := (p : Int)) hI hSv hT2.2.2 (by omega)) (by omega) (fun z M3 q => ?_)
            obtain ⟨e3, q⟩ := q
            rw [e3]
            have hv : (z < 0 ∧ hasH (v.h k) p = false) ∨ (0 ≤ z ∧ hasH (v.h k) p = true) := by
              rcases q with ⟨j, hj, rfl, ej⟩ | ⟨rfl, eh⟩
              · exact Or.inr ⟨by omega, has_of_at hj ej⟩
              · exact Or.inl ⟨by decide, eh⟩
            rcases hv with ⟨hz, hv⟩ | ⟨hz, hv⟩
            · rw [hv] at ih2
              refine ⟨fun _ => ⟨fun g => ?_, fun g => ?_⟩, fun g => absurd g (by omega)⟩
              · rw [bI_ne.mp g] at ih2; exact ih2
              · rw [bI_eq0.mp g] at ih2; exact ih2
            · rw [hv] at ih2
              refine ⟨fun g => absurd g (by omega), fun _ => ⟨fun g => ?_, fun g => ?_⟩⟩
              · cases e : hasH (s.h k) p
                · rw [e] at ih2; exact ih2
                · rw [e] at g; exact absurd rfl g
              · cases e : hasH (s.h k) p
                · rw [e] at g; exact absurd g (by decide)
                · rw [e] at ih2; exact ih2
      exact inn (M 0 1).toNat 0 (by omega)
  have k42 : ∀ (m k : Nat) (M2 : AM), (k : Int) + m = M 0 3 → fr (wr [43] []) M1 M2 → (∀ l p : Int, 0 ≤ l → l < k → 0 ≤ p → p < M 0 1 → M2 43 (40 * l + p) = bI (hasH (s.h l) p)) → aE s2_G d 80 42 [] [some (aP 0), some (aI t), none, some (aI b), some (aI k), none, none, none] [] M2 Q := by
    intro m
    induction m with
    | zero =>
      intro k M2 hk f2 h43
      have hL2 := eqL_fw hT.1 f2 rfl
      refine s2_news_42 (by omega) ?_
      rw [L0_3 hL2]
      refine ⟨fun _ => ?_, fun h => absurd h (by omega)⟩
      have hW2 : W2 M2 (-1) (-1) (-1) := by
        unfold W2
        rw [f2 0 57 rfl, f2 0 64 rfl, f2 0 62 rfl, f2 0 58 rfl, f2 0 63 rfl, f2 0 65 rfl]
        exact hW
      refine aKv_of (s2_tell (w := b) (u := t) hI hL2 hb.1 hW2) (by omega) (fun M3 q => ?_)
      obtain ⟨q1, ph', q2⟩ := q
      rw [← ev] at q2
      refine k116 M3 150 ph' (fr_tr f1 (fr_tr (fr_mo f2 rfl) (fr_mo q1 rfl))) q2 (fun l p l0 l1 p0 p1 => ?_) hS' (M 0 3).toNat 0 (by omega)
      rw [q1 43 _ rfl]
      exact h43 l p l0 (by omega) p0 p1
    | succ m ih =>
      intro k M2 hk f2 h43
      refine s2_news_42 (by omega) ?_
      rw [L0_3 (eqL_fw hT.1 f2 rfl)]
      refine ⟨fun h => absurd h (by omega), fun _ => ?_⟩
      have inn : ∀ (m p : Nat) (M3 : AM), (p : Int) + m = M 0 1 → fr (wr [43] []) M1 M3 → (∀ l q : Int, 0 ≤ l → 0 ≤ q → q < M 0 1 → (l < k ∨ (l = k ∧ q < p)) → M3 43 (40 * l + q) = bI (hasH (s.h l) q)) → aE s2_G d 80 54 [] [some (aP 0), some (aI t), none, some (aI b), some (aI k), some (aI p), none, none] [] M3 Q := by
        intro m
        induction m with
        | zero =>
          intro p M3 hp f3 g43
          refine s2_news_54 (by omega) ?_
          rw [L0_1 (eqL_fw hT.1 f3 rfl), x_add (by omega), show (k : Int) + 1 = ((k + 1 : Nat) : Int) by omega]
          refine ⟨fun _ => ih (k + 1) M3 (by omega) f3 (fun l q l0 l1 q0 q1 => g43 l q l0 q0 q1 (by omega)), fun h => absurd h (by omega)⟩
        | succ m ih2 =>
          intro p M3 hp f3 g43
          have hT3 : T2 M a s 150 (-1) (-1) (-1) ph M3 := by
            refine ⟨eqL_fw hT.1 f3 rfl, ?_, Q2_fw hT.2.2 f3 rfl⟩
            rw [f3 0 17 rfl, show M3 13 = M1 13 from funext fun x => f3 13 x rfl]
            exact hT.2.1
          refine s2_news_54 (by omega) ?_
          rw [L0_1 hT3.1, x_mul (by omega), x_add (a := 40 * (k : Int)) (by omega), x_add (a := (p : Int)) (by omega), show (p : Int) + 1 = ((p + 1 : Nat) : Int) by omega]
          refine ⟨fun h => absurd h (by omega), fun _ => ?_⟩
          have go : ∀ c : Bool, hasH (s.h k) p = c → aE s2_G d 80 54 [] [some (aP 0), some (aI t), none, some (aI b), some (aI k), some (aI ((p + 1 : Nat) : Int)), none, none] [] (am_up M3 43 (40 * (k : Int) + p) (bI c)) Q := by
            intro c hc
            refine ih2 (p + 1) _ (by omega) (fr_up f3 rfl) (fun l q l0 q0 q1 hlq => ?_)
            rw [x_uu]
            by_cases e : l = k ∧ q = p
            · rw [e.1, e.2, up1_s, hc]
            · rw [up1_n (by omega)]
              exact g43 l q l0 q0 q1 (by omega)
          refine aKi_of (s2_placeOf (w := a) (l := (k : Int)) (p := (p : Int)) hI hS hT3.2.2 (by omega)) (by omega) (fun z M4 q => ?_)
          obtain ⟨e4, ⟨j, hj, rfl, ej⟩ | ⟨rfl, eh⟩⟩ := q
          · rw [e4]
            exact ⟨fun h => absurd h (by omega), fun _ => ⟨by omega, Or.inr rfl, go true (has_of_at hj ej)⟩⟩
          · rw [e4]
            exact ⟨fun _ => ⟨by omega, Or.inl rfl, go false eh⟩, fun h => absurd h (by decide)⟩
      exact inn (M 0 1).toNat 0 M2 (by omega) f2 (fun l q l0 q0 q1 h => h43 l q l0 (by omega) q0 q1)
  exact k42 (M 0 3).toNat 0 M1 (by omega) fr_rf (fun l p l0 l1 => by omega)
