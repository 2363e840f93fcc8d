/-! THE READER in the second system: words, signs, NUMBERS, codes -/
abbrev wR2 : Nat → Int → Bool := wr [22, 24] [(0, 30), (0, 31), (0, 32), (0, 33), (0, 34), (0, 35), (0, 37), (0, 38)]
def Tx2 (X : List Int) (M : AM) : Prop := M 0 29 = X.length ∧ isL (M 23) X ∧ X.length ≤ 200 ∧ ∀ c ∈ X, 0 ≤ c
theorem Tx2_fw {X : List Int} {M M' : AM} {cs : List Nat} {fs : List (Nat × Int)} (h : Tx2 X M) (g : fr (wr cs fs) M M') (e : sepL [23] [(0, 29)] cs fs = true) : Tx2 X M' := by
  have e23 : M' 23 = M 23 := fr_c g e rfl
  have e29 : M' 0 29 = M 0 29 := fr_f g e rfl
  unfold Tx2
  rw [e23, e29]
  exact h
def hdZ : List Int → Int
  | [] => -1
  | c :: _ => c
theorem s2_here {X s : List Int} {M : AM} (hT : Tx2 X M) (hs : Sfx X s (M 0 30)) : aCi s2_G 4 28 [aP 0] M (fun z M' => z = hdZ (sk s) ∧ ∃ a, M' = am_up M 0 30 a ∧ Sfx X (sk s) a) := by
  refine ⟨Nat.le_of_ble_eq_true rfl, fun d hd => ?_⟩
  have key : ∀ (s : List Int) (a : Int), Sfx X s a → aE s2_G d 28 0 [] [some (aP 0)] [] (am_up M 0 30 a) (fun r M' => ∃ z, r = some (aI z) ∧ z = hdZ (sk s) ∧ ∃ a, M' = am_up M 0 30 a ∧ Sfx X (sk s) a) := by
    intro s
    induction s with
    | nil =>
      intro a hs
      have hr := Sfx_rg hs
      simp only [List.length_nil] at hr
      refine s2_here_0 (by omega) ?_
      rw [x_uf (by decide), x_us, hT.1]
      exact ⟨fun _ => ⟨fun _ => ⟨_, rfl, rfl, a, rfl, hs⟩, fun h => absurd h (by omega)⟩, fun h => absurd h (by omega)⟩
    | cons c r ih =>
      intro a hs
      have hr := Sfx_rg hs
      simp only [List.length_cons] at hr
      have hl := hT.2.2.1
      have hc : (am_up M 0 30 a) 23 a = c := by rw [x_uk (by decide)]; exact Sfx_at hs hT.2.1
      refine s2_here_0 (by omega) ?_
      rw [x_uf (by decide), x_us, hT.1, hc, x_add (by omega), up_up]
      refine ⟨fun h => absurd h (by omega), fun _ => ⟨by omega, fun h => ⟨fun g => absurd g (by omega), fun _ => ⟨by omega, _, rfl, ?_⟩⟩, fun h => ?_⟩⟩
      · rw [show sk (c :: r) = c :: r from if_neg h]; exact ⟨rfl, a, rfl, hs⟩
      · rw [show sk (c :: r) = sk r from if_pos h]; exact ih (a + 1) (Sfx_nx hs)
  have := key s (M 0 30) hs
  rw [up_self] at this
  exact this
theorem s2_want {M : AM} {b f p : Int} (hf : f ≠ 0) : aCi s2_G 4 29 [aP 0, aI b, aI f, aI p] M (fun z M' => (M 0 31 = 0 ∧ b ≠ 0 ∧ z = 1 ∧ M' = M) ∨ (M 0 31 = 0 ∧ b = 0 ∧ z = 0 ∧ M' = am_up (am_up M 0 31 f) 0 32 p) ∨ (M 0 31 ≠ 0 ∧ z = 0 ∧ M' = M)) := by
  refine ⟨Nat.le_of_ble_eq_true rfl, fun d hd => ?_⟩
  refine s2_want_0 (by omega) ?_
  rw [x_uf (by decide), x_us]
  refine ⟨fun h => ⟨fun g => ⟨Or.inl rfl, _, rfl, Or.inr (Or.inr ⟨g, rfl, rfl⟩)⟩, fun g => ⟨Or.inr rfl, _, rfl, Or.inl ⟨g, h, rfl, rfl⟩⟩⟩, fun h => ⟨fun g => ⟨fun g => ⟨Or.inl rfl, _, rfl, Or.inr (Or.inr ⟨g, rfl, rfl⟩)⟩, fun g2 => absurd g2 g⟩, fun g => ⟨fun _ => ⟨Or.inl rfl, _, rfl, Or.inr (Or.inl ⟨g, h, rfl, rfl⟩)⟩, fun g2 => absurd g2 hf⟩⟩⟩
def St2 (X : List Int) (cn : Int) (M0 : AM) (M : AM) (f : Int) (p : Int) (s : List Int) (C : List Int) (K : List Int) (dp : Int) : Prop :=
  (Tx2 X M) ∧
  (fr wR2 M0 M) ∧
  (Sfx X s (M 0 30)) ∧
  (M 0 31 = f) ∧
  (M 0 32 = p) ∧
  (M 0 18 = cn ∧ 0 ≤ cn ∧ cn < 10) ∧
  (M 0 35 = C.length) ∧
  (∀ i, i < 140 * cn → M 22 i = M0 22 i) ∧
  (∀ (k : Nat) (hk : k < C.length), M 22 (140 * cn + k) = C[k]) ∧
  (M 0 37 = K.length ∧ isL (M 24) K.reverse) ∧
  (M 0 38 = dp)
theorem St2_tx {X : List Int} {cn : Int} {M0 : AM} {M : AM} {f : Int} {p : Int} {s : List Int} {C : List Int} {K : List Int} {dp : Int} (h : St2 X  cn  M0  M  f  p  s  C  K  dp ) : Tx2 X M := h.1
theorem St2_fr {X : List Int} {cn : Int} {M0 : AM} {M : AM} {f : Int} {p : Int} {s : List Int} {C : List Int} {K : List Int} {dp : Int} (h : St2 X  cn  M0  M  f  p  s  C  K  dp ) : fr wR2 M0 M := h.2.1
theorem St2_at {X : List Int} {cn : Int} {M0 : AM} {M : AM} {f : Int} {p : Int} {s : List Int} {C : List Int} {K : List Int} {dp : Int} (h : St2 X  cn  M0  M  f  p  s  C  K  dp ) : Sfx X s (M 0 30) := h.2.2.1
theorem St2_f {X : List Int} {cn : Int} {M0 : AM} {M : AM} {f : Int} {p : Int} {s : List Int} {C : List Int} {K : List Int} {dp : Int} (h : St2 X  cn  M0  M  f  p  s  C  K  dp ) : M 0 31 = f := h.2.2.2.1
theorem St2_p {X : List Int} {cn : Int} {M0 : AM} {M : AM} {f : Int} {p : Int} {s : List Int} {C : List Int} {K : List Int} {dp : Int} (h : St2 X  cn  M0  M  f  p  s  C  K  dp ) : M 0 32 = p := h.2.2.2.2.1
theorem St2_cn {X : List Int} {cn : Int} {M0 : AM} {M : AM} {f : Int} {p : Int} {s : List Int} {C : List Int} {K : List Int} {dp : Int} (h : St2 X  cn  M0  M  f  p  s  C  K  dp ) : M 0 18 = cn ∧ 0 ≤ cn ∧ cn < 10 := h.2.2.2.2.2.1
theorem St2_n {X : List Int} {cn : Int} {M0 : AM} {M : AM} {f : Int} {p : Int} {s : List Int} {C : List Int} {K : List Int} {dp : Int} (h : St2 X  cn  M0  M  f  p  s  C  K  dp ) : M 0 35 = C.length := h.2.2.2.2.2.2.1
theorem St2_lo {X : List Int} {cn : Int} {M0 : AM} {M : AM} {f : Int} {p : Int} {s : List Int} {C : List Int} {K : List Int} {dp : Int} (h : St2 X  cn  M0  M  f  p  s  C  K  dp ) : ∀ i, i < 140 * cn → M 22 i = M0 22 i := h.2.2.2.2.2.2.2.1
theorem St2_hi {X : List Int} {cn : Int} {M0 : AM} {M : AM} {f : Int} {p : Int} {s : List Int} {C : List Int} {K : List Int} {dp : Int} (h : St2 X  cn  M0  M  f  p  s  C  K  dp ) : ∀ (k : Nat) (hk : k < C.length), M 22 (140 * cn + k) = C[k] := h.2.2.2.2.2.2.2.2.1
theorem St2_K {X : List Int} {cn : Int} {M0 : AM} {M : AM} {f : Int} {p : Int} {s : List Int} {C : List Int} {K : List Int} {dp : Int} (h : St2 X  cn  M0  M  f  p  s  C  K  dp ) : M 0 37 = K.length ∧ isL (M 24) K.reverse := h.2.2.2.2.2.2.2.2.2.1
theorem St2_dp {X : List Int} {cn : Int} {M0 : AM} {M : AM} {f : Int} {p : Int} {s : List Int} {C : List Int} {K : List Int} {dp : Int} (h : St2 X  cn  M0  M  f  p  s  C  K  dp ) : M 0 38 = dp := h.2.2.2.2.2.2.2.2.2.2
/-- a move that keeps codes and stack -/
theorem St2_mv {X s s' C K : List Int} {cn f p f' p' dp dp' : Int} {M0 M M' : AM} (h : St2 X cn M0 M f p s C K dp) (g : fr (wr [] [(0, 30), (0, 31), (0, 32), (0, 33), (0, 34), (0, 38)]) M M') (ha : Sfx X s' (M' 0 30)) (hf : M' 0 31 = f') (hp : M' 0 32 = p') (hd : M' 0 38 = dp') : St2 X cn M0 M' f' p' s' C K dp' := by
  refine ⟨Tx2_fw (St2_tx h) g rfl, fr_tr (St2_fr h) (fr_mo g rfl), ha, hf, hp, ?_, (g 0 35 rfl).trans (St2_n h), fun i hi => ?_, fun k hk => ?_, ?_, hd⟩
  · rw [g 0 18 rfl]; exact St2_cn h
  · rw [g 22 i rfl]; exact St2_lo h i hi
  · rw [g 22 _ rfl]; exact St2_hi h k hk
  · rw [g 0 37 rfl, show M' 24 = M 24 from funext fun x => g 24 x rfl]; exact St2_K h
theorem k2_here {X s C K : List Int} {cn f p dp : Int} {M0 M : AM} {d : Nat} {Q : Int → AM → Prop} (hd : 4 < d) (h : St2 X cn M0 M f p s C K dp) (Kt : ∀ a, Sfx X (sk s) a → St2 X cn M0 (am_up M 0 30 a) f p (sk s) C K dp → Q (hdZ (sk s)) (am_up M 0 30 a)) : aKi s2_G d 28 [aP 0] M Q := by
  refine aKi_of (s2_here (St2_tx h) (St2_at h)) hd (fun z M1 q => ?_)
  obtain ⟨rfl, a, rfl, ha⟩ := q
  exact Kt a ha (St2_mv h (fr_up fr_rf rfl) (by rw [x_us]; exact ha) ((x_uf (by decide)).trans (St2_f h)) ((x_uf (by decide)).trans (St2_p h)) ((x_uf (by decide)).trans (St2_dp h)))
/-- found wanting, or not -/
theorem k2_want {X s C K : List Int} {cn f p dp b f' p' : Int} {M0 M : AM} {d : Nat} {Q : Int → AM → Prop} (hd : 4 < d) (hf : f' ≠ 0) (h : St2 X cn M0 M f p s C K dp) (Kt : f = 0 → b ≠ 0 → Q 1 M) (Kf : ∀ M', fr (wr [] [(0, 31), (0, 32)]) M M' → St2 X cn M0 M' (if f = 0 then f' else f) (if f = 0 then p' else p) s C K dp → (f ≠ 0 ∨ b = 0) → Q 0 M') : aKi s2_G d 29 [aP 0, aI b, aI f', aI p'] M Q := by
  refine aKi_of (s2_want hf) hd (fun z M1 q => ?_)
  rw [St2_f h] at q
  rcases q with ⟨q0, q1, rfl, rfl⟩ | ⟨q0, q1, rfl, rfl⟩ | ⟨q0, rfl, rfl⟩
  · exact Kt q0 q1
  · refine Kf _ (fr_up (fr_up fr_rf rfl) rfl) ?_ (Or.inr q1)
    rw [if_pos q0, if_pos q0]
    refine St2_mv h (fr_up (fr_up fr_rf rfl) rfl) ?_ ?_ x_us ?_
    · rw [x_uf (by decide), x_uf (by decide)]; exact St2_at h
    · rw [x_uf (by decide), x_us]
    · rw [x_uf (by decide), x_uf (by decide)]; exact St2_dp h
  · refine Kf _ fr_rf ?_ (Or.inl q0)
    rw [if_neg q0, if_neg q0]
    exact h
/-- a word taken: where it begins, how long it is -/
theorem s2_takeWord {X s C K : List Int} {cn f p dp : Int} {M0 M : AM} (h : St2 X cn M0 M f p s C K dp) : aCv s2_G 5 30 [aP 0] M (fun M' => St2 X cn M0 M' f p (we (sk s)) C K dp ∧ Sfx X (sk s) (M' 0 33) ∧ M' 0 34 = (wd (sk s)).length) := by
  refine ⟨Nat.le_of_ble_eq_true rfl, fun d hd => ?_⟩
  refine s2_takeWord_0 (by omega) ?_
  refine k2_here (by omega) h (fun a ha h1 => ?_)
  obtain ⟨u, eu⟩ : ∃ u, u = sk s := ⟨_, rfl⟩
  rw [← eu] at ha h1 ⊢
  rw [x_us]
  have hl := (St2_tx h).2.2.1
  have hr := Sfx_rg ha
  have gB : ∀ b, fr (wr [] [(0, 30), (0, 33)]) M (am_up (am_up M 0 33 a) 0 30 b) := fun b => fr_up (fr_up fr_rf rfl) rfl
  have fin : ∀ (pre t : List Int), u = pre ++ t → wd u = pre → (none : Option AV) = none ∧ St2 X cn M0 (am_up (am_up (am_up M 0 33 a) 0 30 (a + pre.length)) 0 34 (a_sub (a + pre.length) a)) f p (we u) C K dp ∧ Sfx X u ((am_up (am_up (am_up M 0 33 a) 0 30 (a + pre.length)) 0 34 (a_sub (a + pre.length) a)) 0 33) ∧ (am_up (am_up (am_up M 0 33 a) 0 30 (a + pre.length)) 0 34 (a_sub (a + pre.length) a)) 0 34 = (wd u).length := by
    intro pre t e1 e2
    have h1 := congrArg List.length e1
    rw [List.length_append] at h1
    have hwe : we u = t := by
      have := wd_we u
      rw [e2] at this
      rw [e1] at this ⊢
      exact List.append_cancel_left this
    have g : fr (wr [] [(0, 30), (0, 33), (0, 34)]) M (am_up (am_up (am_up M 0 33 a) 0 30 (a + pre.length)) 0 34 (a_sub (a + pre.length) a)) := fr_up (fr_up (fr_up fr_rf rfl) rfl) rfl
    refine ⟨rfl, St2_mv h (fr_mo g rfl) ?_ ((g 0 31 rfl).trans (St2_f h)) ((g 0 32 rfl).trans (St2_p h)) ((g 0 38 rfl).trans (St2_dp h)), ?_, ?_⟩
    · rw [x_uf (by decide), x_us, hwe]
      rw [e1] at ha
      exact Sfx_go ha
    · rw [x_uf (by decide), x_uf (by decide), x_us]; exact ha
    · rw [x_us, x_sub (by omega), e2]; omega
  have key : ∀ (t pre : List Int), u = pre ++ t → wd u = pre ++ wd t → aE s2_G d 30 13 [] [some (aP 0), none] [] (am_up (am_up M 0 33 a) 0 30 (a + pre.length)) (fun r M' => r = none ∧ St2 X cn M0 M' f p (we u) C K dp ∧ Sfx X u (M' 0 33) ∧ M' 0 34 = (wd u).length) := by
    intro t
    induction t with
    | nil =>
      intro pre e1 e2
      have h1 := congrArg List.length e1
      rw [List.length_append] at h1
      simp only [List.length_nil] at h1
      refine s2_takeWord_13 (by omega) ?_
      rw [gB _ 0 29 rfl, x_us, x_uf (i' := 33) (by decide), x_us, (St2_tx h).1]
      exact ⟨fun _ => fin pre [] e1 (by rw [e2]; simp [wd]), fun h => absurd h (by omega)⟩
    | cons c t ih =>
      intro pre e1 e2
      have h1 := congrArg List.length e1
      rw [List.length_append] at h1
      simp only [List.length_cons] at h1
      have hc : (am_up (am_up M 0 33 a) 0 30 (a + pre.length)) 23 (a + pre.length) = c := by
        rw [gB _ 23 _ rfl]
        exact Sfx_at (X := X) (Sfx_go (u := pre) (by rw [← e1]; exact ha)) (St2_tx h).2.1
      refine s2_takeWord_13 (by omega) ?_
      rw [gB _ 0 29 rfl, x_us, x_uf (i' := 33) (by decide), x_us, (St2_tx h).1, hc]
      simp only [a_bl_n, a_bl_z]
      rw [x_add (by omega), up_up]
      refine ⟨fun h => absurd h (by omega), fun _ => ⟨by omega, fun g => ⟨trivial, (fin pre (c :: t) e1 (by rw [e2, show wd (c :: t) = [] from if_neg g]; simp)).2⟩, fun g => ?_⟩⟩
      have hy : wd (c :: t) = c :: wd t := if_pos g
      have := ih (pre ++ [c]) (by rw [e1]; simp) (by rw [e2, hy]; simp)
      rw [List.length_append] at this
      rw [show a + (pre.length : Int) + 1 = a + ((pre.length + [c].length : Nat) : Int) by simp; omega]
      exact this
  have := key u [] rfl rfl
  simp only [List.length_nil] at this
  rw [show a + ((0 : Nat) : Int) = a by omega] at this
  have e : am_up (am_up M 0 33 a) 0 30 a = am_up (am_up M 0 30 a) 0 33 a := by
    funext k i
    unfold am_up
    split
    next h1 => split <;> first | rfl | (rename_i h2 ; rw [h1.2] at h2; first | exact absurd h2.2 (by decide) | rfl)
    · rfl
  rw [e] at this
  exact this
/-- is the word taken this one? -/
theorem s2_isWord {X u : List Int} {M : AM} (W : List Int) (hT : Tx2 X M) (hu : Sfx X u (M 0 33)) (hn : M 0 34 = (wd u).length) (n a b c e f g : Int) (hW : n = W.length ∧ W.length ≤ 6 ∧ ∀ k : Nat, k < W.length → W.getD k 0 = (if k = 0 then a else if k = 1 then b else if k = 2 then c else if k = 3 then e else if k = 4 then f else g)) : aCi s2_G 4 31 [aP 0, aI n, aI a, aI b, aI c, aI e, aI f, aI g] M (fun z M' => M' = M ∧ z = bI (decide (wd u = W))) := by
  refine ⟨Nat.le_of_ble_eq_true rfl, fun d hd => ?_⟩
  refine s2_isWord_0 (by omega) ?_
  obtain ⟨rfl, h6, hW⟩ := hW
  have hl := hT.2.2.1
  have hr := Sfx_rg hu
  have hlu := we_len u
  have no : wd u ≠ W → aE s2_G d 31 18 [] [some (aP 0), some (aI W.length), some (aI a), some (aI b), some (aI c), some (aI e), some (aI f), some (aI g), some (aI 0), some (aI 0)] [] M (fun r M' => ∃ z, r = some (aI z) ∧ M' = M ∧ z = bI (decide (wd u = W))) := fun h => by
    refine s2_isWord_18 (by omega) ⟨fun _ => ⟨Or.inl rfl, _, rfl, rfl, by simp [h, bI]⟩, fun _ => ⟨fun _ => ⟨Or.inl rfl, _, rfl, rfl, by simp [h, bI]⟩, fun q => absurd rfl q⟩⟩
  rw [hn]
  refine ⟨fun h => no (fun q => h (by rw [q])), fun hlen => ?_⟩
  have key : ∀ (v w pre : List Int), wd u = pre ++ v → W = pre ++ w → aE s2_G d 31 18 [] [some (aP 0), some (aI W.length), some (aI a), some (aI b), some (aI c), some (aI e), some (aI f), some (aI g), some (aI 1), some (aI pre.length)] [] M (fun r M' => ∃ z, r = some (aI z) ∧ M' = M ∧ z = bI (decide (wd u = W))) := by
    intro v
    induction v with
    | nil =>
      intro w pre e1 e2
      have hw : w = [] := by
        have h1 := congrArg List.length e1
        have h2 := congrArg List.length e2
        rw [List.length_append] at h1 h2
        simp only [List.length_nil] at h1
        exact List.length_eq_zero_iff.mp (by omega)
      subst hw
      have h2 := congrArg List.length e2
      rw [List.length_append] at h2
      simp only [List.length_nil] at h2
      refine s2_isWord_18 (by omega) ⟨fun _ => ⟨Or.inr rfl, _, rfl, rfl, ?_⟩, fun q => absurd q (by omega)⟩
      rw [show decide (wd u = W) = true by rw [e1, e2]; simp]
      rfl
    | cons x v ih =>
      intro w pre e1 e2
      match w, e2 with
      | [], e2 =>
        have h1 := congrArg List.length e1
        have h2 := congrArg List.length e2
        simp at h1 h2
        omega
      | y :: w, e2 =>
        have h1 := congrArg List.length e1
        have h2 := congrArg List.length e2
        rw [List.length_append] at h1 h2
        simp only [List.length_cons] at h1 h2
        have hx : M 23 (M 0 33 + pre.length) = x := by
          refine Sfx_at (X := X) (r := v ++ we u) (Sfx_go (u := pre) ?_) hT.2.1
          have h3 := hu
          rw [← wd_we u, e1] at h3
          simpa using h3
        have hy : W.getD pre.length 0 = y := by rw [e2]; simp
        have hWk := hW pre.length (by omega)
        rw [hy] at hWk
        have nx : x = y → aE s2_G d 31 18 [] [some (aP 0), some (aI W.length), some (aI a), some (aI b), some (aI c), some (aI e), some (aI f), some (aI g), some (aI 1), some (aI ((pre.length : Int) + 1))] [] M (fun r M' => ∃ z, r = some (aI z) ∧ M' = M ∧ z = bI (decide (wd u = W))) := fun q => by
          have := ih w (pre ++ [x]) (by rw [e1]; simp) (by rw [e2, q]; simp)
          rw [List.length_append] at this
          exact this
        have hne : x ≠ y → wd u ≠ W := fun q w2 => by
          rw [e1, e2] at w2
          exact q (List.cons.inj (List.append_cancel_left w2)).1
        have st : x ≠ y → aE s2_G d 31 18 [] [some (aP 0), some (aI W.length), some (aI a), some (aI b), some (aI c), some (aI e), some (aI f), some (aI g), some (aI 0), some (aI ((pre.length : Int) + 1))] [] M (fun r M' => ∃ z, r = some (aI z) ∧ M' = M ∧ z = bI (decide (wd u = W))) := fun q => by
          have hn := hne q
          exact s2_isWord_18 (by omega) ⟨fun _ => ⟨Or.inl rfl, _, rfl, rfl, by simp [hn, bI]⟩, fun _ => ⟨fun _ => ⟨Or.inl rfl, _, rfl, rfl, by simp [hn, bI]⟩, fun q => absurd rfl q⟩⟩
        refine s2_isWord_18 (by omega) ?_
        rw [x_add (by omega), x_add (a := (pre.length : Int)) (by omega), hx]
        refine ⟨fun q => absurd q (by omega), fun _ => ⟨fun q => absurd q (by decide), fun _ => ⟨by omega, ⟨fun n0 => ⟨fun n1 => ⟨fun n2 => ⟨fun n3 => ⟨fun n4 => ?_, fun n4 => ?_⟩, fun n3 => ?_⟩, fun n2 => ?_⟩, fun n1 => ?_⟩, fun n0 => ?_⟩⟩⟩⟩
        · rw [if_neg (by omega), if_neg (by omega), if_neg (by omega), if_neg (by omega), if_neg (by omega)] at hWk
          rw [hWk] at st nx
          exact ⟨st, nx⟩
        · rw [if_neg (by omega), if_neg (by omega), if_neg (by omega), if_neg (by omega), if_pos (by omega)] at hWk
          rw [hWk] at st nx
          exact ⟨st, nx⟩
        · rw [if_neg (by omega), if_neg (by omega), if_neg (by omega), if_pos (by omega)] at hWk
          rw [hWk] at st nx
          exact ⟨st, nx⟩
        · rw [if_neg (by omega), if_neg (by omega), if_pos (by omega)] at hWk
          rw [hWk] at st nx
          exact ⟨st, nx⟩
        · rw [if_neg (by omega), if_pos (by omega)] at hWk
          rw [hWk] at st nx
          exact ⟨st, nx⟩
        · rw [if_pos (by omega)] at hWk
          rw [hWk] at st nx
          exact ⟨st, nx⟩
  exact key (wd u) W [] rfl rfl
