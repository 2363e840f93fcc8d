/-! THE READER in the second system: names, NUMBERS, codes, the stack -/
theorem k2_is {X u : List Int} {M : AM} {d : Nat} {Q : Int → AM → Prop} (W : List Int) {n a b c e f g : Int} (hd : 4 < d) (hT : Tx2 X M) (hu : Sfx X u (M 0 33)) (hn : M 0 34 = (wd u).length) (hW : n = W.length ∧ W.length ≤ 6 ∧ ∀ k : Nat, k < W.length → W.getD k 0 = (if k = 0 then a else if k = 1 then b else if k = 2 then c else if k = 3 then e else if k = 4 then f else g)) (Ky : wd u = W → Q 1 M) (Kn : wd u ≠ W → Q 0 M) : aKi s2_G d 31 [aP 0, aI n, aI a, aI b, aI c, aI e, aI f, aI g] M Q :=
  aKi_of (s2_isWord W hT hu hn n a b c e f g hW) hd (fun z M1 q => by
    obtain ⟨rfl, rfl⟩ := q
    by_cases h : wd u = W
    · rw [show decide (wd u = W) = true by simpa using h]; exact Ky h
    · rw [show decide (wd u = W) = false by simpa using h]; exact Kn h)
theorem s2_nameOf {X u : List Int} {M : AM} (hT : Tx2 X M) (hu : Sfx X u (M 0 33)) (hn : M 0 34 = (wd u).length) : aCi s2_G 5 33 [aP 0] M (fun z M' => M' = M ∧ z = nmZ (wd u)) := by
  refine ⟨Nat.le_of_ble_eq_true rfl, fun d hd => ?_⟩
  refine s2_nameOf_0 (by omega) ?_
  unfold nmZ
  refine k2_is [108, 97, 112, 115, 101] (by omega) hT hu hn ⟨rfl, by decide, by decide⟩ (fun y => ⟨fun q => absurd q (by decide), fun _ => ⟨_, rfl, rfl, by rw [if_pos y]⟩⟩) (fun n0 => ⟨fun _ => ?_, fun q => absurd rfl q⟩)
  rw [if_neg n0]
  refine k2_is [109, 105, 108, 101, 115] (by omega) hT hu hn ⟨rfl, by decide, by decide⟩ (fun y => ⟨fun q => absurd q (by decide), fun _ => ⟨_, rfl, rfl, by rw [if_pos y]⟩⟩) (fun n0 => ⟨fun _ => ?_, fun q => absurd rfl q⟩)
  rw [if_neg n0]
  refine k2_is [119, 111, 114, 116, 104] (by omega) hT hu hn ⟨rfl, by decide, by decide⟩ (fun y => ⟨fun q => absurd q (by decide), fun _ => ⟨_, rfl, rfl, by rw [if_pos y]⟩⟩) (fun n0 => ⟨fun _ => ?_, fun q => absurd rfl q⟩)
  rw [if_neg n0]
  refine k2_is [118, 111, 105, 100] (by omega) hT hu hn ⟨rfl, by decide, by decide⟩ (fun y => ⟨fun q => absurd q (by decide), fun _ => ⟨_, rfl, rfl, by rw [if_pos y]⟩⟩) (fun n0 => ⟨fun _ => ?_, fun q => absurd rfl q⟩)
  rw [if_neg n0]
  refine k2_is [108, 97, 112, 115, 101, 100] (by omega) hT hu hn ⟨rfl, by decide, by decide⟩ (fun y => ⟨fun q => absurd q (by decide), fun _ => ⟨_, rfl, rfl, by rw [if_pos y]⟩⟩) (fun n0 => ⟨fun _ => ?_, fun q => absurd rfl q⟩)
  rw [if_neg n0]
  refine k2_is [100, 101, 99, 97, 121] (by omega) hT hu hn ⟨rfl, by decide, by decide⟩ (fun y => ⟨fun q => absurd q (by decide), fun _ => ⟨_, rfl, rfl, by rw [if_pos y]⟩⟩) (fun n0 => ⟨fun _ => ?_, fun q => absurd rfl q⟩)
  rw [if_neg n0]
  refine k2_is [115, 116, 101, 112, 115] (by omega) hT hu hn ⟨rfl, by decide, by decide⟩ (fun y => ⟨fun q => absurd q (by decide), fun _ => ⟨_, rfl, rfl, by rw [if_pos y]⟩⟩) (fun n0 => ⟨fun _ => ?_, fun q => absurd rfl q⟩)
  rw [if_neg n0]
  refine k2_is [102, 101, 101] (by omega) hT hu hn ⟨rfl, by decide, by decide⟩ (fun y => ⟨fun q => absurd q (by decide), fun _ => ⟨_, rfl, rfl, by rw [if_pos y]⟩⟩) (fun n0 => ⟨fun _ => ?_, fun q => absurd rfl q⟩)
  rw [if_neg n0]
  exact ⟨_, rfl, rfl, rfl⟩
theorem s2_factOf {X u : List Int} {M : AM} (hT : Tx2 X M) (hu : Sfx X u (M 0 33)) (hn : M 0 34 = (wd u).length) : aCi s2_G 5 34 [aP 0] M (fun z M' => M' = M ∧ z = fcZ (wd u)) := by
  refine ⟨Nat.le_of_ble_eq_true rfl, fun d hd => ?_⟩
  refine s2_factOf_0 (by omega) ?_
  unfold fcZ
  refine k2_is [97, 103, 101] (by omega) hT hu hn ⟨rfl, by decide, by decide⟩ (fun y => ⟨fun q => absurd q (by decide), fun _ => ⟨_, rfl, rfl, by rw [if_pos y]⟩⟩) (fun n0 => ⟨fun _ => ?_, fun q => absurd rfl q⟩)
  rw [if_neg n0]
  refine k2_is [111, 114, 100, 101, 114, 115] (by omega) hT hu hn ⟨rfl, by decide, by decide⟩ (fun y => ⟨fun q => absurd q (by decide), fun _ => ⟨_, rfl, rfl, by rw [if_pos y]⟩⟩) (fun n0 => ⟨fun _ => ?_, fun q => absurd rfl q⟩)
  rw [if_neg n0]
  refine k2_is [104, 111, 108, 100, 115] (by omega) hT hu hn ⟨rfl, by decide, by decide⟩ (fun y => ⟨fun q => absurd q (by decide), fun _ => ⟨_, rfl, rfl, by rw [if_pos y]⟩⟩) (fun n0 => ⟨fun _ => ?_, fun q => absurd rfl q⟩)
  rw [if_neg n0]
  refine k2_is [102, 97, 114] (by omega) hT hu hn ⟨rfl, by decide, by decide⟩ (fun y => ⟨fun q => absurd q (by decide), fun _ => ⟨_, rfl, rfl, by rw [if_pos y]⟩⟩) (fun n0 => ⟨fun _ => ?_, fun q => absurd rfl q⟩)
  rw [if_neg n0]
  refine k2_is [114, 105, 99, 104] (by omega) hT hu hn ⟨rfl, by decide, by decide⟩ (fun y => ⟨fun q => absurd q (by decide), fun _ => ⟨_, rfl, rfl, by rw [if_pos y]⟩⟩) (fun n0 => ⟨fun _ => ?_, fun q => absurd rfl q⟩)
  rw [if_neg n0]
  refine k2_is [108, 101, 97, 118, 101] (by omega) hT hu hn ⟨rfl, by decide, by decide⟩ (fun y => ⟨fun q => absurd q (by decide), fun _ => ⟨_, rfl, rfl, by rw [if_pos y]⟩⟩) (fun n0 => ⟨fun _ => ?_, fun q => absurd rfl q⟩)
  rw [if_neg n0]
  exact ⟨_, rfl, rfl, rfl⟩
theorem s2_takeNumber {X s C K : List Int} {cn dp most : Int} {M0 M : AM} (h : St2 X cn M0 M 0 (-1) s C K dp) (hm : 0 ≤ most ∧ most ≤ 9999) : aCi s2_G 5 32 [aP 0, aI most] M (fun z M' => M' 0 33 = X.length - (sk s).length ∧ ((nmF most (dgs (sk s)) = 0 ∧ z = numV ((dgs (sk s)).take 4) ∧ St2 X cn M0 M' 0 (-1) (dge (sk s)) C K dp) ∨ (nmF most (dgs (sk s)) ≠ 0 ∧ (0 ≤ z ∧ z ≤ 99999) ∧ ∃ s', St2 X cn M0 M' (nmF most (dgs (sk s))) (X.length - (sk s).length) s' C K dp))) := by
  refine ⟨Nat.le_of_ble_eq_true rfl, fun d hd => ?_⟩
  refine s2_takeNumber_0 (by omega) ?_
  refine k2_here (by omega) h (fun a ha h1 => ?_)
  obtain ⟨u, eu⟩ : ∃ u, u = sk s := ⟨_, rfl⟩
  rw [← eu] at ha h1 ⊢
  have hl := (St2_tx h).2.2.1
  have hr := Sfx_rg ha
  have hpl := Sfx_pl ha
  rw [x_us, x_uf (M := am_up M 0 30 a) (by decide), x_us, ← hpl]
  have h2 : St2 X cn M0 (am_up (am_up M 0 30 a) 0 33 a) 0 (-1) u C K dp := by
    refine St2_mv h1 (fr_up fr_rf rfl) ?_ ((x_uf (by decide)).trans (St2_f h1)) ((x_uf (by decide)).trans (St2_p h1)) ((x_uf (by decide)).trans (St2_dp h1))
    rw [x_uf (by decide), x_us]; exact ha
  have hdig : (48 ≤ hdZ u ∧ hdZ u ≤ 57) ↔ dgs u ≠ [] := by
    match u with
    | [] => constructor
            · intro q; exact absurd q.1 (by decide)
            · intro q; exact absurd rfl q
    | c :: r =>
      show (48 ≤ c ∧ c ≤ 57) ↔ (if 48 ≤ c ∧ c ≤ 57 then c :: dgs r else []) ≠ []
      split
      next g => exact ⟨fun _ => by simp, fun _ => g⟩
      next g => exact ⟨fun q => absurd q g, fun q => absurd rfl q⟩
  have gB : ∀ b, fr (wr [] [(0, 30)]) (am_up (am_up M 0 30 a) 0 33 a) (am_up (am_up (am_up M 0 30 a) 0 33 a) 0 30 b) := fun b => fr_up fr_rf rfl
  obtain ⟨Mb, eMb⟩ : ∃ Mb, Mb = am_up (am_up M 0 30 a) 0 33 a := ⟨_, rfl⟩
  have e33 : Mb 0 33 = a := by rw [eMb, x_us]
  have e30 : Mb 0 30 = a := by rw [eMb, x_uf (by decide), x_us]
  rw [← eMb] at h2 gB ⊢
  have stB : ∀ (pre t : List Int), u = pre ++ t → St2 X cn M0 (am_up Mb 0 30 (a + pre.length)) 0 (-1) t C K dp := by
    intro pre t e1
    refine St2_mv h2 (fr_mo (gB (a + pre.length)) rfl) ?_ ((x_uf (by decide)).trans (St2_f h2)) ((x_uf (by decide)).trans (St2_p h2)) ((x_uf (by decide)).trans (St2_dp h2))
    rw [x_us]
    rw [e1] at ha
    exact Sfx_go ha
  refine k2_want (by omega) (by decide) h2 (fun _ g => ⟨fun _ => ?_, fun q => absurd q (by decide)⟩) (fun M' fw h' g => ⟨fun q => absurd rfl q, fun _ => ?_⟩)
  · have hne := hdig.mp (a_bl_n.mp g)
    -- the end
    have fin : ∀ (pre t : List Int) (v : Int), u = pre ++ t → dgs u = pre → (0 ≤ v ∧ v ≤ 99999) → (pre.length ≤ 4 → v = numV pre) → ((5 ≤ a_sub (a + pre.length) a → aKi s2_G d 29 [aP 0, aI 0, aI 2, aI a] (am_up Mb 0 30 (a + pre.length)) (fun z2 M1 => ∃ z, (some (aI v) : Option AV) = some (aI z) ∧ M1 0 33 = a ∧ ((nmF most (dgs u) = 0 ∧ z = numV ((dgs u).take 4) ∧ St2 X cn M0 M1 0 (-1) (dge u) C K dp) ∨ (nmF most (dgs u) ≠ 0 ∧ (0 ≤ z ∧ z ≤ 99999) ∧ ∃ s', St2 X cn M0 M1 (nmF most (dgs u)) a s' C K dp)))) ∧ (a_sub (a + pre.length) a < 5 → (most < v → aKi s2_G d 29 [aP 0, aI 0, aI 2, aI a] (am_up Mb 0 30 (a + pre.length)) (fun z2 M1 => ∃ z, (some (aI v) : Option AV) = some (aI z) ∧ M1 0 33 = a ∧ ((nmF most (dgs u) = 0 ∧ z = numV ((dgs u).take 4) ∧ St2 X cn M0 M1 0 (-1) (dge u) C K dp) ∨ (nmF most (dgs u) ≠ 0 ∧ (0 ≤ z ∧ z ≤ 99999) ∧ ∃ s', St2 X cn M0 M1 (nmF most (dgs u)) a s' C K dp)))) ∧ (v ≤ most → aKi s2_G d 29 [aP 0, aI 1, aI 2, aI a] (am_up Mb 0 30 (a + pre.length)) (fun z2 M1 => ∃ z, (some (aI v) : Option AV) = some (aI z) ∧ M1 0 33 = a ∧ ((nmF most (dgs u) = 0 ∧ z = numV ((dgs u).take 4) ∧ St2 X cn M0 M1 0 (-1) (dge u) C K dp) ∨ (nmF most (dgs u) ≠ 0 ∧ (0 ≤ z ∧ z ≤ 99999) ∧ ∃ s', St2 X cn M0 M1 (nmF most (dgs u)) a s' C K dp)))))) := by
      intro pre t v e1 e2 hv hv4
      have h1 := congrArg List.length e1
      rw [List.length_append] at h1
      have hde : dge u = t := by
        have := dgs_dge u
        rw [e2] at this
        rw [e1] at this ⊢
        exact List.append_cancel_left this
      have hst := stB pre t e1
      have bad : nmF most (dgs u) = 2 → aKi s2_G d 29 [aP 0, aI 0, aI 2, aI a] (am_up Mb 0 30 (a + pre.length)) (fun z2 M1 => ∃ z, (some (aI v) : Option AV) = some (aI z) ∧ M1 0 33 = a ∧ ((nmF most (dgs u) = 0 ∧ z = numV ((dgs u).take 4) ∧ St2 X cn M0 M1 0 (-1) (dge u) C K dp) ∨ (nmF most (dgs u) ≠ 0 ∧ (0 ≤ z ∧ z ≤ 99999) ∧ ∃ s', St2 X cn M0 M1 (nmF most (dgs u)) a s' C K dp))) := by
        intro hn
        refine aKi_of (s2_want (by decide)) (by omega) (fun z M1 q => ?_)
        rw [St2_f hst] at q
        rcases q with ⟨_, q1, _⟩ | ⟨_, _, rfl, rfl⟩ | ⟨q0, _⟩
        · exact absurd rfl q1
        · refine ⟨_, rfl, by rw [x_uf (by decide), x_uf (by decide), x_uf (by decide)]; exact e33, Or.inr ⟨by rw [hn]; decide, hv, t, ?_⟩⟩
          rw [hn]
          refine St2_mv hst (fr_up (fr_up fr_rf rfl) rfl) ?_ ?_ x_us ?_
          · rw [x_uf (by decide), x_uf (by decide)]; exact St2_at hst
          · rw [x_uf (by decide), x_us]
          · rw [x_uf (by decide), x_uf (by decide)]; exact St2_dp hst
        · exact absurd rfl q0
      rw [x_sub (by omega)]
      refine ⟨fun g => bad ?_, fun g => ⟨fun g2 => bad ?_, fun g2 => ?_⟩⟩
      · unfold nmF
        rw [if_neg hne, e2, if_pos (Or.inl (by omega))]
      · unfold nmF
        rw [if_neg hne, e2, if_pos (Or.inr ?_)]
        rw [List.take_of_length_le (by omega), ← hv4 (by omega)]
        exact g2
      · have hn : nmF most (dgs u) = 0 := by
          unfold nmF
          rw [if_neg hne, e2, if_neg]
          rw [List.take_of_length_le (by omega), ← hv4 (by omega)]
          omega
        refine aKi_of (s2_want (by decide)) (by omega) (fun z M1 q => ?_)
        rw [St2_f hst] at q
        rcases q with ⟨_, _, _, rfl⟩ | ⟨_, q1, _⟩ | ⟨q0, _⟩
        · refine ⟨_, rfl, by rw [x_uf (by decide)]; exact e33, Or.inl ⟨hn, ?_, by rw [hde]; exact hst⟩⟩
          rw [e2, List.take_of_length_le (by omega)]
          exact hv4 (by omega)
        · exact absurd q1 (by decide)
        · exact absurd rfl q0
    have key : ∀ (t pre : List Int) (v : Int), u = pre ++ t → dgs u = pre ++ dgs t → (0 ≤ v ∧ v ≤ 99999) → (pre.length ≤ 4 → v = numV pre) → aE s2_G d 32 40 [] [some (aP 0), some (aI most), none, some (aI v), none] [] (am_up Mb 0 30 (a + pre.length)) (fun r M1 => ∃ z, r = some (aI z) ∧ M1 0 33 = a ∧ ((nmF most (dgs u) = 0 ∧ z = numV ((dgs u).take 4) ∧ St2 X cn M0 M1 0 (-1) (dge u) C K dp) ∨ (nmF most (dgs u) ≠ 0 ∧ (0 ≤ z ∧ z ≤ 99999) ∧ ∃ s', St2 X cn M0 M1 (nmF most (dgs u)) a s' C K dp))) := by
      intro t
      induction t with
      | nil =>
        intro pre v e1 e2 hv hv4
        have h1 := congrArg List.length e1
        rw [List.length_append] at h1
        simp only [List.length_nil] at h1
        refine s2_takeNumber_40 (by omega) ?_
        rw [x_us, x_uf (i' := 29) (by decide), x_uf (i' := 33) (by decide), e33, (St2_tx h2).1]
        exact ⟨fun _ => fin pre [] v e1 (by rw [e2]; simp [dgs]) hv hv4, fun q => absurd q (by omega)⟩
      | cons c t ih =>
        intro pre v e1 e2 hv hv4
        have h1 := congrArg List.length e1
        rw [List.length_append] at h1
        simp only [List.length_cons] at h1
        have hc : (am_up Mb 0 30 (a + pre.length)) 23 (a + pre.length) = c := by
          rw [x_uk (by decide)]
          exact Sfx_at (X := X) (Sfx_go (u := pre) (by rw [← e1]; exact ha)) (St2_tx h2).2.1
        have no : ¬ (48 ≤ c ∧ c ≤ 57) → dgs u = pre := fun q => by rw [e2, show dgs (c :: t) = [] from if_neg q]; simp
        refine s2_takeNumber_40 (by omega) ?_
        rw [x_us, x_uf (i' := 29) (by decide), x_uf (i' := 33) (by decide), e33, (St2_tx h2).1, hc]
        simp only [a_bl_n, a_bl_z]
        rw [x_add (a := a + pre.length) (by omega), up_up]
        refine ⟨fun q => absurd q (by omega), fun _ => ⟨by omega, fun g => fin pre (c :: t) v e1 (no g) hv hv4, fun g => ?_⟩⟩
        have hy : dgs (c :: t) = c :: dgs t := if_pos g
        have ih := fun v => ih (pre ++ [c]) v (by rw [e1]; simp) (by rw [e2, hy]; simp)
        rw [List.length_append] at ih
        rw [show a + (pre.length : Int) + 1 = a + ((pre.length + [c].length : Nat) : Int) by simp; omega]
        refine ⟨fun k => ⟨by omega, ?_⟩, fun k => ih v hv (fun q => ?_)⟩
        · rw [x_mul (by omega), x_add (by omega), x_sub (by omega)]
          refine ih _ (by omega) (fun q => ?_)
          simp only [List.length_cons, List.length_nil] at q
          rw [numV_snoc, hv4 (by omega)]
        · simp only [List.length_cons, List.length_nil] at q
          have hall : ∀ x ∈ pre, 48 ≤ x ∧ x ≤ 57 := fun x hx => dgs_all u x (by rw [e2]; simp [hx])
          have hr2 := numV_rg pre pre.length (Nat.le_refl _) hall
          rw [List.take_length] at hr2
          have h3 : pre.length = 0 ∨ pre.length = 1 ∨ pre.length = 2 ∨ pre.length = 3 := by omega
          have := hv4 (by omega)
          rcases h3 with h3 | h3 | h3 | h3 <;> rw [h3] at hr2 <;> omega
    have := key u [] 0 rfl rfl (by omega) (fun _ => rfl)
    simp only [List.length_nil] at this
    rw [show a + ((0 : Nat) : Int) = a by omega, ← e30, up_self] at this
    rw [e30] at this
    exact this
  · have hnd : dgs u = [] := by
      rcases g with g | g
      · exact absurd rfl g
      · exact Decidable.not_not.mp (fun q => (a_bl_z.mp g) (hdig.mpr q))
    rw [if_pos rfl, if_pos rfl] at h'
    have hn : nmF most (dgs u) = 1 := by unfold nmF; rw [if_pos hnd]
    exact ⟨_, rfl, (fw 0 33 rfl).trans e33, Or.inr ⟨by rw [hn]; decide, by omega, u, by rw [hn]; exact h'⟩⟩
-- codes and the stack
theorem k2_emit {X s C K : List Int} {cn f p dp v : Int} {M0 M : AM} {d : Nat} {Q : AM → Prop} (hd : 4 < d) (h : St2 X cn M0 M f p s C K dp) (hC : C.length < 140) (Kt : ∀ M', St2 X cn M0 M' f p s (C ++ [v]) K dp → Q M') : aKv s2_G d 37 [aP 0, aI v] M Q := by
  obtain ⟨e0, c0, c1⟩ := St2_cn h
  have hn := St2_n h
  have hc : aCv s2_G 4 37 [aP 0, aI v] M Q := by
    refine ⟨Nat.le_of_ble_eq_true rfl, fun d hd => ?_⟩
    refine s2_emit_0 (by omega) ?_
    simp (decide := true) only [x_uc]
    rw [e0, hn, x_mul (by omega), x_add (a := 140 * cn) (by omega), x_add (a := (C.length : Int)) (by omega)]
    refine ⟨by omega, by trivial, Kt _ ?_⟩
    have g : fr (wr [22] [(0, 35)]) M (am_up (am_up M 22 (140 * cn + C.length) v) 0 35 (C.length + 1)) := fr_up (fr_up fr_rf rfl) rfl
    refine ⟨Tx2_fw (St2_tx h) g rfl, fr_tr (St2_fr h) (fr_mo g rfl), by rw [g 0 30 rfl]; exact St2_at h, (g 0 31 rfl).trans (St2_f h), (g 0 32 rfl).trans (St2_p h), by rw [g 0 18 rfl]; exact St2_cn h, by rw [x_us, List.length_append]; simp, fun i hi => ?_, fun k hk => ?_, ?_, (g 0 38 rfl).trans (St2_dp h)⟩
    · rw [x_uk (by decide), x_uu, up1_n (by omega)]; exact St2_lo h i hi
    · rw [x_uk (by decide), x_uu]
      by_cases e : k = C.length
      · subst e
        rw [up1_s]
        simp
      · have hk2 : k < C.length := by rw [List.length_append] at hk; simp at hk; omega
        rw [up1_n (by omega), List.getElem_append_left hk2]
        exact St2_hi h k hk2
    · rw [g 0 37 rfl, show (am_up (am_up M 22 (140 * cn + C.length) v) 0 35 (C.length + 1)) 24 = M 24 from funext fun x => g 24 x rfl]; exact St2_K h
  exact aKv_of hc hd (fun M' q => q)
theorem k2_push {X s C K : List Int} {cn f p dp v : Int} {M0 M : AM} {d : Nat} {Q : AM → Prop} (hd : 4 < d) (h : St2 X cn M0 M f p s C K dp) (hK : K.length < 140) (Kt : ∀ M', St2 X cn M0 M' f p s C (v :: K) dp → Q M') : aKv s2_G d 38 [aP 0, aI v] M Q := by
  obtain ⟨k0, k1⟩ := St2_K h
  have hc : aCv s2_G 4 38 [aP 0, aI v] M Q := by
    refine ⟨Nat.le_of_ble_eq_true rfl, fun d hd => ?_⟩
    refine s2_push_0 (by omega) ?_
    simp (decide := true) only [x_uc]
    rw [k0, x_add (by omega)]
    refine ⟨by omega, by trivial, Kt _ ?_⟩
    have g : fr (wr [24] [(0, 37)]) M (am_up (am_up M 24 K.length v) 0 37 (K.length + 1)) := fr_up (fr_up fr_rf rfl) rfl
    refine ⟨Tx2_fw (St2_tx h) g rfl, fr_tr (St2_fr h) (fr_mo g rfl), by rw [g 0 30 rfl]; exact St2_at h, (g 0 31 rfl).trans (St2_f h), (g 0 32 rfl).trans (St2_p h), by rw [g 0 18 rfl]; exact St2_cn h, (g 0 35 rfl).trans (St2_n h), fun i hi => ?_, fun k hk => ?_, ⟨by rw [x_us]; simp, ?_⟩, (g 0 38 rfl).trans (St2_dp h)⟩
    · rw [g 22 i rfl]; exact St2_lo h i hi
    · rw [g 22 _ rfl]; exact St2_hi h k hk
    · rw [x_uk (by decide), x_uu, List.reverse_cons]
      exact isL_snoc k1 (by rw [List.length_reverse])
  exact aKv_of hc hd (fun M' q => q)
theorem St2_pop {X s C K : List Int} {cn f p dp t : Int} {M0 M : AM} (h : St2 X cn M0 M f p s C (t :: K) dp) : M 24 K.length = t ∧ St2 X cn M0 (am_up M 0 37 K.length) f p s C K dp := by
  obtain ⟨k0, k1⟩ := St2_K h
  rw [List.reverse_cons] at k1
  have g : fr (wr [] [(0, 37)]) M (am_up M 0 37 K.length) := fr_up fr_rf rfl
  refine ⟨?_, Tx2_fw (St2_tx h) g rfl, fr_tr (St2_fr h) (fr_mo g rfl), by rw [g 0 30 rfl]; exact St2_at h, (g 0 31 rfl).trans (St2_f h), (g 0 32 rfl).trans (St2_p h), by rw [g 0 18 rfl]; exact St2_cn h, (g 0 35 rfl).trans (St2_n h), fun i hi => ?_, fun k hk => ?_, ⟨x_us, ?_⟩, (g 0 38 rfl).trans (St2_dp h)⟩
  · have := k1 K.length (by simp)
    rw [this]
    rw [List.getElem_append_right (by simp)]
    simp
  · rw [g 22 i rfl]; exact St2_lo h i hi
  · rw [g 22 _ rfl]; exact St2_hi h k hk
  · rw [x_uk (by decide)]
    intro i hi
    have := k1 i (by rw [List.length_append]; omega)
    rw [List.getElem_append_left hi] at this
    exact this
def letR (x : Int) : List Int → List Int × List Int
  | [] => ([], [])
  | t :: r => if t ≠ 40 ∧ (x = -2 ∨ t = -3 ∨ (x = -1 ∧ t = -1)) then (t :: (letR x r).1, (letR x r).2) else ([], t :: r)
theorem s2_letOut {X : List Int} {cn f p dp x : Int} {M0 : AM} : ∀ (K C s : List Int) (M : AM), St2 X cn M0 M f p s C K dp → C.length + K.length ≤ 140 → aCv s2_G 5 39 [aP 0, aI x] M (fun M' => St2 X cn M0 M' f p s (C ++ (letR x K).1) (letR x K).2 dp) := by
  intro K C s M h hl
  refine ⟨Nat.le_of_ble_eq_true rfl, fun d hd => ?_⟩
  have key : ∀ (K C : List Int) (M : AM), St2 X cn M0 M f p s C K dp → C.length + K.length ≤ 140 → aE s2_G d 39 0 [] [some (aP 0), some (aI x)] [] M (fun r M' => r = none ∧ St2 X cn M0 M' f p s (C ++ (letR x K).1) (letR x K).2 dp) := by
    intro K
    induction K with
    | nil =>
      intro C M h hl
      refine s2_letOut_0 (by omega) ?_
      rw [(St2_K h).1]
      simp only [letR, List.append_nil]
      exact ⟨fun _ => ⟨by trivial, h⟩, fun q => absurd q (by decide)⟩
    | cons t r ih =>
      intro C M h hl
      simp only [List.length_cons] at hl
      obtain ⟨ht, hp⟩ := St2_pop h
      have h37 : M 0 37 = (r.length : Int) + 1 := by rw [(St2_K h).1]; simp
      refine s2_letOut_0 (by omega) ?_
      rw [h37, x_sub (by omega), show (r.length : Int) + 1 - 1 = r.length by omega, x_us, x_uk (M := M) (by decide), ht]
      have stop : ¬ (t ≠ 40 ∧ (x = -2 ∨ t = -3 ∨ (x = -1 ∧ t = -1))) → (none : Option AV) = none ∧ St2 X cn M0 M f p s (C ++ (letR x (t :: r)).1) (letR x (t :: r)).2 dp := fun q => by
        rw [show letR x (t :: r) = ([], t :: r) from if_neg q]
        rw [List.append_nil]
        exact ⟨rfl, h⟩
      have go : (t ≠ 40 ∧ (x = -2 ∨ t = -3 ∨ (x = -1 ∧ t = -1))) → aKv s2_G d 37 [aP 0, aI t] (am_up M 0 37 r.length) (fun M1 => aE s2_G d 39 0 [] [some (aP 0), some (aI x)] [] M1 (fun r_1 M' => r_1 = none ∧ St2 X cn M0 M' f p s (C ++ (letR x (t :: r)).1) (letR x (t :: r)).2 dp)) := fun q => by
        rw [show letR x (t :: r) = (t :: (letR x r).1, (letR x r).2) from if_pos q]
        refine k2_emit (by omega) hp (by omega) (fun M1 h1 => ?_)
        have := ih (C ++ [t]) M1 h1 (by rw [List.length_append]; simp; omega)
        rw [List.append_assoc] at this
        exact this
      refine ⟨fun q => absurd q (by omega), fun _ => ⟨by omega, fun q => stop (fun w => w.1 q), fun q => ⟨fun w => ⟨by omega, go ⟨q, Or.inl w⟩⟩, fun w => ⟨by omega, fun w3 => ⟨by omega, go ⟨q, Or.inr (Or.inl w3)⟩⟩, fun w3 => ⟨fun w1 => stop (fun z => by omega), fun w1 => ⟨by omega, fun w4 => stop (fun z => by omega), fun w4 => ⟨by omega, go ⟨q, Or.inr (Or.inr ⟨w1, w4⟩)⟩⟩⟩⟩⟩⟩⟩⟩
  exact key K C M h hl
/-- where a level of brackets ends -/
def isBs (K : List Int) : Prop := K = [] ∨ ∃ r, K = 40 :: r
theorem letR_n {T : List Int} (h : ∀ t r, T = t :: r → t ≠ -3) : ∀ k : Nat, letR (-3) (List.replicate k (-3) ++ T) = (List.replicate k (-3), T)
  | 0 => by
    match T, h with
    | [], _ => rfl
    | t :: r, h =>
      have := h t r rfl
      show letR (-3) (t :: r) = ([], t :: r)
      exact if_neg (by omega)
  | k + 1 => by
    have ih := letR_n h k
    rw [List.replicate_succ, List.cons_append]
    rw [show letR (-3) (-3 :: (List.replicate k (-3) ++ T)) = (-3 :: (letR (-3) (List.replicate k (-3) ++ T)).1, (letR (-3) (List.replicate k (-3) ++ T)).2) from if_pos (by decide), ih]
theorem lvl_hd {ja jo : Bool} {K : List Int} (hK : isBs K) : ∀ t r, jA ja ++ jO jo ++ K = t :: r → t ≠ -3 := by
  intro t r e
  cases ja
  · cases jo
    · rcases hK with rfl | ⟨q, rfl⟩
      · cases e
      · have := (List.cons.inj e).1; omega
    · have : (-2 : Int) = t := (List.cons.inj e).1; omega
  · have : (-1 : Int) = t := (List.cons.inj e).1; omega
theorem letR_b {x : Int} {K : List Int} (hK : isBs K) : letR x K = ([], K) := by
  rcases hK with rfl | ⟨q, rfl⟩
  · rfl
  · exact if_neg (fun w => w.1 rfl)
theorem letR_a {ja jo : Bool} {K : List Int} (hK : isBs K) : letR (-1) (jA ja ++ jO jo ++ K) = (jA ja, jO jo ++ K) := by
  have h2 : letR (-1) (jO jo ++ K) = ([], jO jo ++ K) := by
    cases jo
    · exact letR_b hK
    · exact if_neg (by decide)
  cases ja
  · exact h2
  · show letR (-1) (-1 :: (jO jo ++ K)) = _
    rw [show letR (-1) (-1 :: (jO jo ++ K)) = (-1 :: (letR (-1) (jO jo ++ K)).1, (letR (-1) (jO jo ++ K)).2) from if_pos (by decide), h2]
    rfl
theorem letR_o {ja jo : Bool} {K : List Int} (hK : isBs K) : letR (-2) (jA ja ++ jO jo ++ K) = (jA ja ++ jO jo, K) := by
  have h2 : letR (-2) (jO jo ++ K) = (jO jo, K) := by
    cases jo
    · exact letR_b hK
    · show letR (-2) (-2 :: K) = _
      rw [show letR (-2) (-2 :: K) = (-2 :: (letR (-2) K).1, (letR (-2) K).2) from if_pos (by decide), letR_b hK]
      rfl
  cases ja
  · exact h2
  · show letR (-2) (-1 :: (jO jo ++ K)) = _
    rw [show letR (-2) (-1 :: (jO jo ++ K)) = (-1 :: (letR (-2) (jO jo ++ K)).1, (letR (-2) (jO jo ++ K)).2) from if_pos (by decide), h2]
    rfl
