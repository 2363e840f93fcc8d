/-! A CANON in the first system -/
def txt (D : AM) : List Int := arr (D 23) 0 (D 0 29).toNat
def canR (D : AM) : Int × List Int × List CL := pAll (D 0 18) 13 (txt D) []
def f_canon (D : AM) (day : Int) : Int := if ¬ (0 ≤ day ∧ day ≤ 30000) then -100002 else if 10 ≤ D 0 18 then -100004 else if (canR D).1 ≠ 0 then -10 - (canR D).1 else D 0 18
theorem arr_len {f : Int → Int} {a : Int} {n : Nat} : (arr f a n).length = n := by unfold arr; simp
theorem arr_get {f : Int → Int} {a : Int} {n i : Nat} (h : i < (arr f a n).length) : (arr f a n)[i] = f (a + i) := by
  have h2 : i < n := by rw [arr_len] at h; exact h
  have e : (arr f a n)[i]? = some (f (a + i)) := by
    unfold arr
    rw [List.getElem?_map, List.getElem?_range h2]
    rfl
  rw [List.getElem?_eq_getElem h] at e
  exact Option.some.inj e
theorem txt_1 {D M : AM} (hI : Inv D) (hB : B1 D M) : Tx1 (txt D) M := by
  have hr := Inv_rn hI
  refine ⟨?_, fun i hi => ?_, ?_⟩
  · rw [B1_rn hB]; unfold txt; rw [arr_len]; omega
  · rw [B1_rb hB]
    unfold txt at hi ⊢
    rw [arr_get]
    rw [Int.zero_add]
  · unfold txt; rw [arr_len]; omega
abbrev wRt : Nat → Int → Bool := wr [25, 28, 29, 30, 31, 32] [(24, 9), (35, 2), (35, 3), (35, 4), (35, 5)]
theorem s1_Reader_readText {D M : AM} (hI : Inv D) (hB : B1 D M) (hn : D 0 18 < 10) : aCi s1_G 19 38 [aP 35] M (fun z M' => z = (canR D).1 ∧ TXT (txt D) (D 0 18) M M' (canR D)) := by
  refine ⟨Nat.le_of_ble_eq_true rfl, fun d hd => ?_⟩
  refine s1_Reader_readText_0 (by omega) ?_
  have hc := Inv_cn hI
  have hT := txt_1 hI hB
  have g0 : fr (wr [] [(35, 3), (35, 4), (35, 5)]) M (am_up (am_up (am_up M 35 5 0) 35 4 0) 35 3 (-1)) := fr_up (fr_up (fr_up fr_rf rfl) rfl) rfl
  have hdr : aCv s1_G 4 0 [aP 24] (am_up (am_up (am_up M 35 5 0) 35 4 0) 35 3 (-1)) (fun M' => M' = am_up (am_up (am_up (am_up (am_up M 35 5 0) 35 4 0) 35 3 (-1)) 25 (D 0 18) 0) 24 9 (200 * D 0 18)) := by
    refine ⟨Nat.le_of_ble_eq_true rfl, fun d hd => ?_⟩
    refine s1_Canons_draft_0 (by omega) ?_
    rw [x_uc (M := am_up (am_up (am_up M 35 5 0) 35 4 0) 35 3 (-1)) (by decide), g0 24 0 rfl, B1_cn hB, x_mul (by omega)]
    refine ⟨fun g => absurd g (by omega), fun _ => ⟨by omega, rfl, ?_⟩⟩
    rw [show D 0 18 * 200 = 200 * D 0 18 by omega]
  refine aKv_of hdr (by omega) (fun M1 q => ?_)
  have g1 : fr (wr [25] [(24, 9), (35, 3), (35, 4), (35, 5)]) M M1 := by rw [q]; exact fr_up (fr_up (fr_mo g0 rfl) rfl) rfl
  have hS : StC (txt D) (D 0 18) M1 M1 [] (txt D) [] := by
    refine ⟨⟨⟨(g1 35 2 rfl).trans hT.1, by rw [show M1 36 = M 36 from funext fun x => g1 36 x rfl]; exact hT.2.1, hT.2.2⟩, fr_rf, ⟨[], rfl, ?_⟩, ?_, ?_, ?_, ?_, by simp, fun _ _ => rfl, fun k hk => (by cases hk)⟩, fr_rf, ⟨fun _ _ => rfl, fun _ _ => ⟨rfl, rfl, rfl, rfl⟩, fun _ _ => rfl⟩, ?_, fun i hi => (by cases hi), ?_, fun c hc => (by cases hc)⟩
    · rw [q]; simp (decide := true) [am_up]
    · rw [q]; simp (decide := true) [am_up]
    · rw [q]; simp (decide := true) [am_up]
    · rw [g1 24 0 rfl, B1_cn hB]; exact ⟨rfl, hc.1, hn⟩
    · rw [q, x_us]; simp
    · rw [q, x_uc (by decide), x_us]; rfl
    · have := hT.2.2; simp; omega
  have h := s1_rt_loop (X := txt D) (cn := D 0 18) (Mb := M1) (d := d) (by omega) 13 (txt D) [] [] M1 rfl hS
  refine aE_mono _ _ _ _ _ _ _ _ _ (fun r M' w => ?_) h
  obtain ⟨z, w1, w2, w3, w4, ⟨o1, o2, o3⟩, w6, w7⟩ := w
  refine ⟨z, w1, w2, fr_tr (fr_mo g1 rfl) w3, w4, ⟨fun i hi => ?_, fun i hi => ?_, fun j hj => ?_⟩, w6, w7⟩
  · rw [o1 i hi, g1 32 i rfl]
  · rw [(o2 i hi).1, (o2 i hi).2.1, (o2 i hi).2.2.1, (o2 i hi).2.2.2, g1 28 i rfl, g1 29 i rfl, g1 30 i rfl, g1 31 i rfl]; exact ⟨rfl, rfl, rfl, rfl⟩
  · rw [o3 j hj, q, x_uc (by decide), x_uu, up1_n hj, show (am_up (am_up (am_up M 35 5 0) 35 4 0) 35 3 (-1)) 25 = M 25 from funext fun x => g0 25 x rfl]
theorem s1_en_shift {M : AM} {d : Nat} {x t : Int} {dd : Int → Int} {L : List Int} (hd : 4 ≤ d) (hx : 0 ≤ x ∧ x < 10) (h8 : M 26 = dd) (ht : dd x = t) (hs : Srt dd L) (hm : ∀ i ∈ L, 0 ≤ i ∧ i < x) (hsz : M 24 0 = x) (hlen : (L.length : Int) = x) :
    ∀ (n : Nat) (A B : List Int) (M1 : AM), A.length = n → L = A ++ B → (∀ b ∈ B, dd x < dd b) → fr (wr [27] []) M M1 → hole (M1 27) A B →
    aE s1_G d 4 14 [] [some (aP 24), some (aI t), some (aI x), some (aI n)] [] M1 (fun r M' => ∃ z, r = some (aI z) ∧ z = x ∧ fr (wr [27] [(24, 0), (24, 10)]) M M' ∧ isL (M' 27) (ins dd x L) ∧ M' 24 0 = x + 1 ∧ M' 24 10 = -1)
  | 0, A, B, M1, hn, hAB, hB, hf, hh => by
    have hA : A = [] := List.length_eq_zero_iff.mp hn
    subst hA
    refine s1_Canons_enact_14 (by omega) ?_
    simp (decide := true) only [x_uc]
    have e7 : M1 24 0 = x := (hf 24 0 rfl).trans hsz
    rw [e7, x_add (a := x) (by omega)]
    (repeat' (with_reducible first | refine And.intro ?_ ?_ | intro _))
    all_goals (try first | with_reducible rfl | with_reducible exact True.intro | with_reducible exact Or.inl True.intro | with_reducible exact Or.inr True.intro | omega | (exfalso; with_reducible assumption))
    refine ⟨_, rfl, rfl, fr_up (fr_up (fr_up (fr_mo hf rfl) rfl) rfl) rfl, ?_, ?_, x_us⟩
    · simp (decide := true) only [x_uk, x_uu]
      rw [hAB, ins_split (A := []) (B := B) (fun a h => by cases h) hB]
      exact hole_end hh rfl
    · rw [x_uf (by decide), x_us]
  | n + 1, A, B, M1, hn, hAB, hB, hf, hh => by
    obtain ⟨A', y, rfl⟩ : ∃ A' y, A = A' ++ [y] := by
      rcases List.eq_nil_or_concat A with rfl | ⟨A', y, rfl⟩
      · cases hn
      · exact ⟨A', y, by simp⟩
    have hA' : A'.length = n := by simpa using hn
    have hy : M1 27 n = y := by rw [← hA']; exact hole_top hh
    have hyr := hm y (by rw [hAB]; simp)
    have hlen2 : L.length = n + 1 + B.length := by rw [hAB]; simp; omega
    have e8 : M1 26 = dd := by rw [← h8]; funext i; exact hf 26 i rfl
    refine s1_Canons_enact_14 (by omega) ?_
    simp (decide := true) only [x_uc]
    have e7 : M1 24 0 = x := (hf 24 0 rfl).trans hsz
    rw [e7, x_add (a := x) (by omega), x_sub (by omega), show ((n + 1 : Nat) : Int) - 1 = n by omega, hy, e8]
    rw [x_add (a := ((n + 1 : Nat) : Int)) (by omega), show ((n + 1 : Nat) : Int) + -1 = n by omega]
    (repeat' (with_reducible first | refine And.intro ?_ ?_ | intro _))
    all_goals (try first | with_reducible rfl | with_reducible exact True.intro | with_reducible exact Or.inl True.intro | with_reducible exact Or.inr True.intro | omega | (exfalso; with_reducible assumption))
    · refine ⟨_, rfl, rfl, fr_up (fr_up (fr_up (fr_mo hf rfl) rfl) rfl) rfl, ?_, ?_, x_us⟩
      · simp (decide := true) only [x_uk, x_uu]
        rw [hAB, ins_split (fun a ha => srt_last (by rw [hAB] at hs; exact (List.pairwise_append.mp hs).1) (by omega) a ha) hB]
        exact hole_end hh (by simp; omega)
      · rw [x_uf (by decide), x_us]
    · refine s1_en_shift hd hx h8 ht hs hm hsz hlen n A' (y :: B) _ hA' (by rw [hAB]; simp) (fun b hb => ?_) (fr_up hf rfl) ?_
      · rcases List.mem_cons.mp hb with rfl | hb
        · omega
        · exact hB b hb
      · rw [x_uu]
        exact hole_step hh (by omega)
theorem s1_Canons_enact {D M : AM} {day : Int} (hI : Inv D) (hn : D 0 18 < 10) (h0 : M 24 0 = D 0 18) (h26 : M 26 = D 14) (h27 : isL (M 27) (srt (D 14) (D 0 18).toNat)) : aCi s1_G 5 4 [aP 24, aI day] M (fun z M' => z = D 0 18 ∧ fr (wr [26, 27] [(24, 0), (24, 10)]) M M' ∧ M' 26 = up1 (D 14) (D 0 18) day ∧ isL (M' 27) (ins (up1 (D 14) (D 0 18) day) (D 0 18) (srt (D 14) (D 0 18).toNat)) ∧ M' 24 0 = D 0 18 + 1 ∧ M' 24 10 = -1) := by
  refine ⟨Nat.le_of_ble_eq_true rfl, fun d hd => ?_⟩
  have hc := Inv_cn hI
  refine s1_Canons_enact_0 (by omega) ?_
  rw [h0]
  refine ⟨by omega, ?_⟩
  have hlen : ((srt (D 14) (D 0 18).toNat).length : Int) = D 0 18 := by rw [srt_len]; omega
  have hsrt : Srt (up1 (D 14) (D 0 18) day) (srt (D 14) (D 0 18).toNat) := by
    rw [srt_cg (d := D 14) (d' := up1 (D 14) (D 0 18) day) (D 0 18).toNat (fun i a b => (up1_n (by omega)).symm)]
    exact srt_sorted _
  have e26 : (am_up M 26 (D 0 18) day) 26 = up1 (D 14) (D 0 18) day := by rw [x_uu, h26]
  have h := s1_en_shift (M := am_up M 26 (D 0 18) day) (d := d) (x := D 0 18) (t := day) (dd := up1 (D 14) (D 0 18) day) (L := srt (D 14) (D 0 18).toNat) (by omega) (by omega) e26 up1_s hsrt (fun i hi => by have := (srt_mem _ i).mp hi; omega) (by rw [x_uc (by decide)]; exact h0) hlen (srt (D 14) (D 0 18).toNat).length (srt (D 14) (D 0 18).toNat) [] _ rfl (by simp) (fun b hb => by cases hb) fr_rf (by rw [x_uk (by decide)]; exact hole_init h27)
  rw [hlen] at h
  refine aE_mono _ _ _ _ _ _ _ _ _ (fun r M' qq => ?_) h
  obtain ⟨z, q1, q2, q3, q4, q5, q6⟩ := qq
  exact ⟨z, q1, q2, fr_tr (fr_up fr_rf rfl) (fr_mo q3 rfl), by rw [show M' 26 = (am_up M 26 (D 0 18) day) 26 from funext fun x => q3 26 x rfl, e26], q4, q5, q6⟩
abbrev wmC : Nat → Int → Bool := wr [25, 26, 27, 28, 29, 30, 31, 32] [(24, 0), (24, 9), (24, 10), (35, 2), (35, 3), (35, 4), (35, 5), (37, 11)]
/-- what a call of canon leaves in the first system -/
def K1c (D : AM) (day : Int) (M M' : AM) : Prop :=
  (¬ ((0 ≤ day ∧ day ≤ 30000) ∧ D 0 18 < 10) ∧ M' = M) ∨
  (((0 ≤ day ∧ day ≤ 30000) ∧ D 0 18 < 10) ∧ fr wmC M M' ∧ M' 35 2 = 0 ∧ M' 35 3 = (if (canR D).1 = 0 then (-1 : Int) else ((txt D).length : Int) - (canR D).2.1.length) ∧ oldC (D 0 18) M M' ∧
    (((canR D).1 ≠ 0 ∧ M' 24 0 = M 24 0 ∧ M' 24 10 = M 24 10 ∧ M' 37 11 = M 37 11 ∧ M' 26 = M 26 ∧ M' 27 = M 27) ∨
     ((canR D).1 = 0 ∧ M' 24 0 = D 0 18 + 1 ∧ M' 24 10 = -1 ∧ M' 37 11 = -1 ∧ M' 26 = up1 (D 14) (D 0 18) day ∧ isL (M' 27) (ins (up1 (D 14) (D 0 18) day) (D 0 18) (srt (D 14) (D 0 18).toNat)) ∧ ∃ C : List Int, C.length ≤ 200 ∧ M' 25 (D 0 18) = (canR D).2.2.length ∧ (∀ (k : Nat) (hk : k < C.length), M' 32 (200 * D 0 18 + k) = C[k]) ∧ (∀ (i : Nat) (hi : i < (canR D).2.2.length), rowP (D 0 18) C M' (12 * D 0 18 + i) (canR D).2.2[i]) ∧ ∀ c ∈ (canR D).2.2, clG (D 0 18) c)))
theorem pAll_f (cn : Int) : ∀ (m : Nat) (s : List Int) (acc : List CL), 0 ≤ (pAll cn m s acc).1 ∧ (pAll cn m s acc).1 ≤ 5 := by
  have hnm : ∀ most l, 0 ≤ nmF most l ∧ nmF most l ≤ 2 := fun most l => by
    unfold nmF
    split
    · omega
    · split <;> omega
  have hen : ∀ s c, 0 ≤ (endC s c).1 ∧ (endC s c).1 ≤ 1 := fun s c => by
    unfold endC
    split
    · show (0 : Int) ≤ 0 ∧ (0 : Int) ≤ 1; omega
    · show (0 : Int) ≤ 1 ∧ (1 : Int) ≤ 1; omega
  have hcm : ∀ s, 0 ≤ (cmpT s).1 ∧ (cmpT s).1 ≤ 2 := fun s => by
    unfold cmpT
    split
    · show (0 : Int) ≤ 1 ∧ (1 : Int) ≤ 2; omega
    · split
      · show (0 : Int) ≤ 1 ∧ (1 : Int) ≤ 2; omega
      · exact hnm _ _
  have haf : ∀ (rec : Bool → Bool → List Int → List Int → List Int → TR) (ja jo : Bool) (k : Nat) (s cs rs : List Int), (∀ ja jo s cs rs, 0 ≤ (rec ja jo s cs rs).f ∧ (rec ja jo s cs rs).f ≤ 5) → 0 ≤ (aftT rec ja jo k s cs rs).f ∧ (aftT rec ja jo k s cs rs).f ≤ 5 := fun rec ja jo k s cs rs h => by
    unfold aftT
    split
    · exact h _ _ _ _ _
    · split
      · exact h _ _ _ _ _
      · show (0 : Int) ≤ 0 ∧ (0 : Int) ≤ 5; omega
  have hrt : ∀ (f o : Nat) (ja jo : Bool) (k : Nat) (s cs rs : List Int), 0 ≤ (rT f o ja jo k s cs rs).f ∧ (rT f o ja jo k s cs rs).f ≤ 5 := by
    intro f
    induction f with
    | zero => intro o ja jo k s cs rs; show (0 : Int) ≤ 1 ∧ (1 : Int) ≤ 5; omega
    | succ f ih =>
      intro o ja jo k s cs rs
      rw [rT]
      split
      · exact ih _ _ _ _ _ _ _
      · split
        · split
          · show (0 : Int) ≤ 5 ∧ (5 : Int) ≤ 5; omega
          · split
            · exact ih _ _ _ _ _ _ _
            · split
              · exact haf _ _ _ _ _ _ _ (fun _ _ _ _ _ => ih _ _ _ _ _ _ _)
              · show (0 : Int) ≤ 1 ∧ (1 : Int) ≤ 5; omega
        · split
          · have := hcm s; show 0 ≤ (cmpT s).1 ∧ (cmpT s).1 ≤ 5; omega
          · exact haf _ _ _ _ _ _ _ (fun _ _ _ _ _ => ih _ _ _ _ _ _ _)
  have hcl : ∀ k s, 0 ≤ (pCl k cn s).f ∧ (pCl k cn s).f ≤ 5 := fun k s => by
    unfold pCl
    split
    · unfold pLet
      split
      · show (0 : Int) ≤ 1 ∧ (1 : Int) ≤ 5; omega
      · split
        · have := hnm (bnd (nmZ (wd (sk s)))) (dgs (sk (we (sk s)))); show 0 ≤ nmF _ _ ∧ nmF _ _ ≤ 5; omega
        · exact ⟨(hen _ _).1, Int.le_trans (hen _ _).2 (by decide)⟩
    · split
      · unfold pBar
        split
        · exact hrt _ _ _ _ _ _ _ _
        · split
          · split
            · exact hrt _ _ _ _ _ _ _ _
            · exact ⟨(hen _ _).1, Int.le_trans (hen _ _).2 (by decide)⟩
          · exact ⟨(hen _ _).1, Int.le_trans (hen _ _).2 (by decide)⟩
      · unfold pStr
        split
        · have := hnm 9999 (dgs (sk s)); show 0 ≤ nmF _ _ ∧ nmF _ _ ≤ 5; omega
        · split
          · show (0 : Int) ≤ 3 ∧ (3 : Int) ≤ 5; omega
          · exact ⟨(hen _ _).1, Int.le_trans (hen _ _).2 (by decide)⟩
  intro m
  induction m with
  | zero => intro s acc; show (0 : Int) ≤ 0 ∧ (0 : Int) ≤ 5; omega
  | succ m ih =>
    intro s acc
    unfold pAll
    split
    · show (0 : Int) ≤ 0 ∧ (0 : Int) ≤ 5; omega
    · split
      · show (0 : Int) ≤ 1 ∧ (1 : Int) ≤ 5; omega
      · split
        · show (0 : Int) ≤ 4 ∧ (4 : Int) ≤ 5; omega
        · split
          · exact hcl _ _
          · exact ih _ _
theorem c1_canon {D M : AM} {day : Int} (hI : Inv D) (hB : B1 D M) : aCi s1_G 20 117 [aP 0, aI day] M (fun z M' => z = f_canon D day ∧ K1c D day M M') := by
  refine ⟨Nat.le_of_ble_eq_true rfl, fun d hd => ?_⟩
  refine s1_canon_0 (by omega) ?_
  have hc := Inv_cn hI
  simp only [a_bl_n, a_bl_z]
  rw [B1_cn hB]
  unfold f_canon K1c
  refine ⟨fun ht => ⟨fun hn => ?_, fun hn => ⟨_, rfl, by rw [if_neg (by omega), if_pos hn], Or.inl ⟨by omega, rfl⟩⟩⟩, fun ht => ⟨_, rfl, by rw [if_pos ht], Or.inl ⟨by omega, rfl⟩⟩⟩
  rw [if_neg (by omega), if_neg (by omega)]
  refine aKi_of (s1_Reader_readText hI hB hn) (by omega) (fun z M1 q => ?_)
  obtain ⟨rfl, q3, q4, q5, q6, q7⟩ := q
  have hf5 := pAll_f (D 0 18) 13 (txt D) []
  refine ⟨fun h0 => ?_, fun h0 => ⟨_, rfl, ?_, Or.inr ⟨⟨ht, hn⟩, fr_mo q3 rfl, q4, q6, q5, Or.inl ⟨h0, q3 24 0 rfl, q3 24 10 rfl, q3 37 11 rfl, funext fun x => q3 26 x rfl, funext fun x => q3 27 x rfl⟩⟩⟩⟩
  · have hfg : aCv s1_G 4 68 [aP 37] M1 (fun M' => M' = am_up M1 37 11 (-1)) := ⟨Nat.le_of_ble_eq_true rfl, fun d hd => s1_Story_forget_0 (by omega) ⟨rfl, rfl⟩⟩
    refine aKv_of hfg (by omega) (fun M2 w => ?_)
    have g2 : fr (wr [] [(37, 11)]) M1 M2 := by rw [w]; exact fr_up fr_rf rfl
    have e26 : M2 26 = D 14 := by rw [show M2 26 = M1 26 from funext fun x => g2 26 x rfl, show M1 26 = M 26 from funext fun x => q3 26 x rfl]; exact B1_cf hB
    have e27 : isL (M2 27) (srt (D 14) (D 0 18).toNat) := by rw [show M2 27 = M1 27 from funext fun x => g2 27 x rfl, show M1 27 = M 27 from funext fun x => q3 27 x rfl]; exact B1_cb hB
    refine aKi_of (s1_Canons_enact (day := day) hI hn ((g2 24 0 rfl).trans ((q3 24 0 rfl).trans (B1_cn hB))) e26 e27) (by omega) (fun z M3 p => ?_)
    obtain ⟨rfl, p1, p2, p3, p4, p5⟩ := p
    obtain ⟨C, c1, c2, c3, c4, c5⟩ := q7 h0
    have g3 : fr (wr [26, 27] [(24, 0), (24, 10), (37, 11)]) M1 M3 := fr_tr (fr_mo g2 rfl) (fr_mo p1 rfl)
    refine ⟨_, rfl, by rw [if_neg (fun w => w h0)], Or.inr ⟨⟨ht, hn⟩, fr_tr (fr_mo q3 rfl) (fr_mo g3 rfl), (g3 35 2 rfl).trans q4, (g3 35 3 rfl).trans q6, ?_, Or.inr ⟨h0, p4, p5, ?_, p2, p3, C, c1, (g3 25 _ rfl).trans c2, fun k hk => ?_, fun i hi => ?_, c5⟩⟩⟩
    · obtain ⟨o1, o2, o3⟩ := q5
      refine ⟨fun i hi => ?_, fun i hi => ?_, fun j hj => ?_⟩
      · rw [g3 32 i rfl]; exact o1 i hi
      · rw [g3 28 i rfl, g3 29 i rfl, g3 30 i rfl, g3 31 i rfl]; exact o2 i hi
      · rw [g3 25 j rfl]; exact o3 j hj
    · rw [p1 37 11 rfl, w, x_us]
    · rw [g3 32 _ rfl]; exact c3 k hk
    · exact rowP_mo (c4 i hi) ⟨[], by rw [List.append_nil]⟩ (g3 28 _ rfl) (g3 29 _ rfl) (g3 30 _ rfl) (g3 31 _ rfl)
  · rw [if_pos h0]
    have : (canR D).1 = (pAll (D 0 18) 13 (txt D) []).1 := rfl
    rw [x_sub (by omega)]
