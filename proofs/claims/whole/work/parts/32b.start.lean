/-! THE START, second piece -/
theorem ws_w2 (cA : Nat → ClassId) (u : Nat → Nat) : ctW_Model cA u = aw s2_G u cA 68 m02 := rfl
theorem cond_or {b : Bool} {x y : Int} (hx : x = 0 ∨ x = -1) (hy : y = 0 ∨ y = -1) : cond b x y = 0 ∨ cond b x y = -1 := by cases b
                                                                                                                            · exact hy
                                                                                                                            · exact hx
theorem m01_ok : aOKM s1_G m01 := by
  intro q i
  have h : m01 q i = 0 ∨ m01 q i = -1 := by
    unfold m01
    (repeat' (first | apply cond_or | exact Or.inl rfl | exact Or.inr rfl))
  unfold aR64 aR32
  rcases h with h | h <;> rw [h] <;> exact ⟨fun _ => ⟨by omega, by omega⟩, fun _ => ⟨by omega, by omega⟩⟩
theorem m02_ok : aOKM s2_G m02 := by
  intro q i
  have h : m02 q i = 0 ∨ m02 q i = -1 := by
    unfold m02
    (repeat' (first | apply cond_or | exact Or.inl rfl | exact Or.inr rfl))
  unfold aR64 aR32
  rcases h with h | h <;> rw [h] <;> exact ⟨fun _ => ⟨by omega, by omega⟩, fun _ => ⟨by omega, by omega⟩⟩
theorem ws_inj {G : AG} {u : Nat → Nat} {cA : Nat → ClassId} {nc : Nat} {M : AM} {A : Nat → Prop} (h : va_D A (aw G u cA nc M)) : (∀ i j, i < nc → j < nc → u i = u j → i = j) ∧ ∀ i, i < nc → A (u i) := ⟨fun i j hi hj e => h.1 i j _ _ (aw_at hi) (aw_at hj) e, fun i hi => h.2 i _ (aw_at hi)⟩
theorem ws_rc {args : Array Value} {s : State} {t : FieldType} (h : (Cond.arrayClass t).before args s = true) (ho : ∀ C, t ≠ .object C) : ∃ c : ClassId, ArrOfT s c t ∧ va_RA s c t := by
  obtain ⟨c, k, comp, h1, h2, h3⟩ := Cond.arrayClass_spec h
  refine ⟨c, fun N z => ⟨(fun q hq => by cases hq), k, h2, comp, h3⟩, ?_⟩
  cases t <;> first | exact h1 | exact absurd rfl (ho _)
theorem ws_K {args : Array Value} {s : State} (hts : ∀ w ∈ lw_tbl, w.before args s = true) : ∃ (D : va_G) (cA : Nat → ClassId), va_K D wCl (aTys cA) s := by
  obtain ⟨c0, i0, k0⟩ := u_known (C := RX0) (T := TX0) (N := 14) (n := 14) hts gk_in0 (hts (.instantiable "DioceseBook$Canons" 14) (lw_mem 257 _ (by decide +kernel)))
  obtain ⟨c1, i1, k1⟩ := u_known (C := RX1) (T := TX1) (N := 7) (n := 7) hts gk_in1 (hts (.instantiable "DioceseBook$Changes" 7) (lw_mem 375 _ (by decide +kernel)))
  obtain ⟨c2, i2, k2⟩ := u_known (C := RX2) (T := TX2) (N := 12) (n := 12) hts gk_in2 (hts (.instantiable "DioceseBook$Lives" 12) (lw_mem 505 _ (by decide +kernel)))
  obtain ⟨c3, i3, k3⟩ := u_known (C := RX3) (T := TX3) (N := 14) (n := 14) hts gk_in3 (hts (.instantiable "DioceseBook$Papers" 14) (lw_mem 181 _ (by decide +kernel)))
  obtain ⟨c4, i4, k4⟩ := u_known (C := RX4) (T := TX4) (N := 6) (n := 6) hts gk_in4 (hts (.instantiable "DioceseBook$Reader" 6) (lw_mem 311 _ (by decide +kernel)))
  obtain ⟨c5, i5, k5⟩ := u_known (C := RX5) (T := TX5) (N := 6) (n := 6) hts gk_in5 (hts (.instantiable "DioceseBook$Register" 6) (lw_mem 147 _ (by decide +kernel)))
  obtain ⟨c6, i6, k6⟩ := u_known (C := RX6) (T := TX6) (N := 7) (n := 7) hts gk_in6 (hts (.instantiable "DioceseBook$Rights" 7) (lw_mem 346 _ (by decide +kernel)))
  obtain ⟨c7, i7, k7⟩ := u_known (C := RX7) (T := TX7) (N := 13) (n := 13) hts gk_in7 (hts (.instantiable "DioceseBook$Story" 13) (lw_mem 339 _ (by decide +kernel)))
  obtain ⟨c8, i8, k8⟩ := u_known (C := RX8) (T := TX8) (N := 5) (n := 5) hts gk_in8 (hts (.instantiable "DioceseBook$Suits" 5) (lw_mem 452 _ (by decide +kernel)))
  obtain ⟨c9, i9, k9⟩ := u_known (C := RX9) (T := TX9) (N := 7) (n := 7) hts gk_in9 (hts (.instantiable "DioceseBook$Terriers" 7) (lw_mem 476 _ (by decide +kernel)))
  obtain ⟨c10, i10, k10⟩ := u_known (C := RX10) (T := TX10) (N := 11) (n := 11) hts gk_in10 (hts (.instantiable "DioceseBook$Visitation" 11) (lw_mem 551 _ (by decide +kernel)))
  obtain ⟨c11, i11, k11⟩ := u_known (C := RX11) (T := TX11) (N := 11) (n := 11) hts gk_in11 (hts (.instantiable "DioceseBook" 11) (lw_mem 139 _ (by decide +kernel)))
  obtain ⟨c12, i12, k12⟩ := u_known (C := RX12) (T := TX12) (N := 97) (n := 97) hts gk_in12 (hts (.instantiable "DioceseBookModel" 97) (lw_mem 1363 _ (by decide +kernel)))
  obtain ⟨a0, r0⟩ := ws_rc (hts (.arrayClass .int) (lw_mem 179 _ (by decide +kernel))) (fun C h => by cases h)
  obtain ⟨a1, r1⟩ := ws_rc (hts (.arrayClass .boolean) (lw_mem 255 _ (by decide +kernel))) (fun C h => by cases h)
  obtain ⟨a2, r2⟩ := ws_rc (hts (.arrayClass .char) (lw_mem 337 _ (by decide +kernel))) (fun C h => by cases h)
  obtain ⟨a3, r3⟩ := ws_rc (hts (.arrayClass .long) (lw_mem 373 _ (by decide +kernel))) (fun C h => by cases h)
  obtain ⟨comp, a4, kk, q1, q2, q3, q4, q5⟩ := Jvm.Stand.arrayOver_specB (hts (.arrayOver (.array .int)) (lw_mem 187 _ (by decide +kernel)))
  refine ⟨(fun k => [c0, c1, c2, c3, c4, c5, c6, c7, c8, c9, c10, c11, c12].getD k c0, fun k => [i0, i1, i2, i3, i4, i5, i6, i7, i8, i9, i10, i11, i12].getD k i0), fun k => [a0, a1, a2, a3, a4].getD k a0, fun k q hq => ?_, fun k q hq => ?_⟩
  · match k, hq with
    | 0, hq => cases hq; exact k0
    | 1, hq => cases hq; exact k1
    | 2, hq => cases hq; exact k2
    | 3, hq => cases hq; exact k3
    | 4, hq => cases hq; exact k4
    | 5, hq => cases hq; exact k5
    | 6, hq => cases hq; exact k6
    | 7, hq => cases hq; exact k7
    | 8, hq => cases hq; exact k8
    | 9, hq => cases hq; exact k9
    | 10, hq => cases hq; exact k10
    | 11, hq => cases hq; exact k11
    | 12, hq => cases hq; exact k12
    | k + 13, hq => simp [wCl] at hq
  · match k, hq with
    | 0, hq => cases hq; exact r0
    | 1, hq => cases hq; exact r1
    | 2, hq => cases hq; exact r2
    | 3, hq => cases hq; exact r3
    | 4, hq => cases hq; exact ⟨fun N z => ⟨(fun q hq => by cases hq), kk, q3, comp, q4⟩, q5⟩
    | k + 5, hq => simp [aTys] at hq
def ws_fl : List Cond := flatC (Jvm.Cond.and given_1 narrow_1)
theorem ws_c205_m : (Cond.arrayOf (Term.static "DioceseBook$Canons" "AT_FIRST" "[I") .int ∈ ws_fl ∧ Cond.eq (.length (Term.static "DioceseBook$Canons" "AT_FIRST" "[I")) (.int 8) ∈ ws_fl) ∧ ∀ j, j < 8 → Cond.eq (.elem (Term.static "DioceseBook$Canons" "AT_FIRST" "[I") (.int (Int32.ofNat j))) (.int (Int32.ofInt ([6, 30, 100, 0, 0, 0, 0, 0].getD j 0))) ∈ ws_fl := by decide +kernel
theorem ws_c205 {args : Array Value} {s : State} (hts : ∀ w ∈ lw_tbl, w.before args s = true) (hf : ∀ c ∈ ws_fl, c.before args s = true) : ∃ t : Nat, ∀ A : Nat → Prop, (∀ a : Nat, a < s.heap.size → ¬ A a) → va_T .int t 8 (fun j => .int (Int32.ofInt ([6, 30, 100, 0, 0, 0, 0, 0].getD j 0))) A s s.heap ∧ va_Z "DioceseBook$Canons" "AT_FIRST" "[I" (.ref t) A s s.heap := by
  obtain ⟨⟨m1, m2⟩, m3⟩ := ws_c205_m
  obtain ⟨t, ht, hT⟩ := va_Tof (A := fun _ => False) (f := fun j => .int (Int32.ofInt ([6, 30, 100, 0, 0, 0, 0, 0].getD j 0))) (N := 8) (by decide) (hf _ m1) (va_eqt (hf _ m2)) (fun j hj => va_eqt (hf _ (m3 j hj))) (fun _ _ h => h)
  refine ⟨t, fun A hA => ⟨?_, va_Zref (hts (.laysStatic "DioceseBook$Canons" "AT_FIRST" "[I") (lw_mem 823 _ (by decide +kernel))) (hts (.initialized "DioceseBook$Canons") (lw_mem 121 _ (by decide +kernel))) ht hA⟩⟩
  obtain ⟨cell, h1, h2, h3, h4, h5, h6, -⟩ := hT
  exact ⟨cell, h1, h2, h3, h4, h5, h6, hA t (Array.getElem?_eq_some_iff.mp h1).1⟩
theorem ws_c206_m : (Cond.arrayOf (Term.static "DioceseBook$Reader" "BOUNDS" "[I") .int ∈ ws_fl ∧ Cond.eq (.length (Term.static "DioceseBook$Reader" "BOUNDS" "[I")) (.int 8) ∈ ws_fl) ∧ ∀ j, j < 8 → Cond.eq (.elem (Term.static "DioceseBook$Reader" "BOUNDS" "[I") (.int (Int32.ofNat j))) (.int (Int32.ofInt ([24, 99, 999, 1, 1, 2, 999, 999].getD j 0))) ∈ ws_fl := by decide +kernel
theorem ws_c206 {args : Array Value} {s : State} (hts : ∀ w ∈ lw_tbl, w.before args s = true) (hf : ∀ c ∈ ws_fl, c.before args s = true) : ∃ t : Nat, ∀ A : Nat → Prop, (∀ a : Nat, a < s.heap.size → ¬ A a) → va_T .int t 8 (fun j => .int (Int32.ofInt ([24, 99, 999, 1, 1, 2, 999, 999].getD j 0))) A s s.heap ∧ va_Z "DioceseBook$Reader" "BOUNDS" "[I" (.ref t) A s s.heap := by
  obtain ⟨⟨m1, m2⟩, m3⟩ := ws_c206_m
  obtain ⟨t, ht, hT⟩ := va_Tof (A := fun _ => False) (f := fun j => .int (Int32.ofInt ([24, 99, 999, 1, 1, 2, 999, 999].getD j 0))) (N := 8) (by decide) (hf _ m1) (va_eqt (hf _ m2)) (fun j hj => va_eqt (hf _ (m3 j hj))) (fun _ _ h => h)
  refine ⟨t, fun A hA => ⟨?_, va_Zref (hts (.laysStatic "DioceseBook$Reader" "BOUNDS" "[I") (lw_mem 1014 _ (by decide +kernel))) (hts (.initialized "DioceseBook$Reader") (lw_mem 122 _ (by decide +kernel))) ht hA⟩⟩
  obtain ⟨cell, h1, h2, h3, h4, h5, h6, -⟩ := hT
  exact ⟨cell, h1, h2, h3, h4, h5, h6, hA t (Array.getElem?_eq_some_iff.mp h1).1⟩
def ws_tm (i : Nat) : Term := .string "DioceseBook$Reader" (s1_sk i).2.1
theorem ws_sm : (∀ i, i < 21 → Cond.exactly (ws_tm i) "java/lang/String" ∈ ws_fl) ∧ (∀ i, i < 21 → Cond.eq (.field (ws_tm i) "java/lang/String" "coder" "B") (.int 0) ∈ ws_fl) ∧ (∀ i, i < 21 → Cond.arrayOf (.field (ws_tm i) "java/lang/String" "value" "[B") .byte ∈ ws_fl) ∧ (∀ i, i < 21 → Cond.eq (.length (.field (ws_tm i) "java/lang/String" "value" "[B")) (.int (Int32.ofNat (st_len.getD i 0))) ∈ ws_fl) := by decide +kernel
theorem ws_sm2 : ∀ i, i < 21 → ∀ j, j < 10 → j < st_len.getD i 0 → Cond.eq (.elem (.field (ws_tm i) "java/lang/String" "value" "[B") (.int (Int32.ofNat j))) (.int ((st_byt.getD i []).getD j 0)) ∈ ws_fl := by decide +kernel
def ws_nf : Cond → Option (Nat × Nat)
  | .not (.eq (.string C a) (.string D b)) => if C = "DioceseBook$Reader" ∧ D = "DioceseBook$Reader" then some (a, b) else none
  | _ => none
theorem ws_nf_in {l : List Cond} {a b : Nat} (h : (a, b) ∈ l.filterMap ws_nf) : Cond.not (Cond.eq (.string "DioceseBook$Reader" a) (.string "DioceseBook$Reader" b)) ∈ l := by
  obtain ⟨c, hc, e⟩ := List.mem_filterMap.mp h
  unfold ws_nf at e
  split at e
  next C x D y =>
    split at e
    next g => obtain ⟨rfl, rfl⟩ := g; cases e; exact hc
    · cases e
  · cases e
def ws_nl : List (Nat × Nat) := [(126, 128), (126, 130), (128, 130), (126, 132), (128, 132), (130, 132), (126, 134), (128, 134), (130, 134), (132, 134), (126, 136), (128, 136), (130, 136), (132, 136), (134, 136), (126, 138), (128, 138), (130, 138), (132, 138), (134, 138), (136, 138), (126, 140), (128, 140), (130, 140), (132, 140), (134, 140), (136, 140), (138, 140), (126, 142), (128, 142), (130, 142), (132, 142), (134, 142), (136, 142), (138, 142), (140, 142), (126, 144), (128, 144), (130, 144), (132, 144), (134, 144), (136, 144), (138, 144), (140, 144), (142, 144), (126, 146), (128, 146), (130, 146), (132, 146), (134, 146), (136, 146), (138, 146), (140, 146), (142, 146), (144, 146), (126, 96), (128, 96), (130, 96), (132, 96), (134, 96), (136, 96), (138, 96), (140, 96), (142, 96), (144, 96), (146, 96), (126, 148), (128, 148), (130, 148), (132, 148), (134, 148), (136, 148), (138, 148), (140, 148), (142, 148), (144, 148), (146, 148), (96, 148), (126, 150), (128, 150), (130, 150), (132, 150), (134, 150), (136, 150), (138, 150), (140, 150), (142, 150), (144, 150), (146, 150), (96, 150), (148, 150), (126, 152), (128, 152), (130, 152), (132, 152), (134, 152), (136, 152), (138, 152), (140, 152), (142, 152), (144, 152), (146, 152), (96, 152), (148, 152), (150, 152), (126, 154), (128, 154), (130, 154), (132, 154), (134, 154), (136, 154), (138, 154), (140, 154), (142, 154), (144, 154), (146, 154), (96, 154), (148, 154), (150, 154), (152, 154), (126, 156), (128, 156), (130, 156), (132, 156), (134, 156), (136, 156), (138, 156), (140, 156), (142, 156), (144, 156), (146, 156), (96, 156), (148, 156), (150, 156), (152, 156), (154, 156), (126, 158), (128, 158), (130, 158), (132, 158), (134, 158), (136, 158), (138, 158), (140, 158), (142, 158), (144, 158), (146, 158), (96, 158), (148, 158), (150, 158), (152, 158), (154, 158), (156, 158), (126, 108), (128, 108), (130, 108), (132, 108), (134, 108), (136, 108), (138, 108), (140, 108), (142, 108), (144, 108), (146, 108), (96, 108), (148, 108), (150, 108), (152, 108), (154, 108), (156, 108), (158, 108), (126, 110), (128, 110), (130, 110), (132, 110), (134, 110), (136, 110), (138, 110), (140, 110), (142, 110), (144, 110), (146, 110), (96, 110), (148, 110), (150, 110), (152, 110), (154, 110), (156, 110), (158, 110), (108, 110), (126, 90), (128, 90), (130, 90), (132, 90), (134, 90), (136, 90), (138, 90), (140, 90), (142, 90), (144, 90), (146, 90), (96, 90), (148, 90), (150, 90), (152, 90), (154, 90), (156, 90), (158, 90), (108, 90), (110, 90)]
theorem ws_ne_eq : ws_fl.filterMap ws_nf = ws_nl := by decide +kernel
def ws_nb (i j : Nat) : Bool := ws_nl.any fun p => (Nat.beq p.1 (s1_sk i).2.1 && Nat.beq p.2 (s1_sk j).2.1) || (Nat.beq p.1 (s1_sk j).2.1 && Nat.beq p.2 (s1_sk i).2.1)
theorem ws_nb_ok : ((List.range 21).all fun i => (List.range 21).all fun j => Nat.beq i j || ws_nb i j) = true := by decide +kernel
theorem ws_sm3 : ∀ i, i < 21 → ∀ j, j < 21 → i ≠ j → Cond.not (Cond.eq (ws_tm i) (ws_tm j)) ∈ ws_fl ∨ Cond.not (Cond.eq (ws_tm j) (ws_tm i)) ∈ ws_fl := by
  intro i hi j hj hn
  have h := List.all_eq_true.mp (List.all_eq_true.mp ws_nb_ok i (List.mem_range.mpr hi)) j (List.mem_range.mpr hj)
  rw [Bool.or_eq_true] at h
  rcases h with h | h
  · exact absurd (Nat.eq_of_beq_eq_true h) hn
  · obtain ⟨⟨a, b⟩, hp, e⟩ := List.any_eq_true.mp h
    rw [← ws_ne_eq] at hp
    have hp := ws_nf_in hp
    simp only [Bool.or_eq_true, Bool.and_eq_true] at e
    rcases e with ⟨e1, e2⟩ | ⟨e1, e2⟩
    · have e1 := Nat.eq_of_beq_eq_true e1
      have e2 := Nat.eq_of_beq_eq_true e2
      left
      unfold ws_tm
      rw [← e1, ← e2]
      exact hp
    · have e1 := Nat.eq_of_beq_eq_true e1
      have e2 := Nat.eq_of_beq_eq_true e2
      right
      unfold ws_tm
      rw [← e1, ← e2]
      exact hp
theorem ws_sr : ∀ i, i < 21 → Cond.stringRef "DioceseBook$Reader" (s1_sk i).2.1 (s1_sk i).2.2 ∈ lw_tbl ∧ (s1_sk i).1 = "DioceseBook$Reader" := by decide +kernel
theorem ws_st {args : Array Value} {s : State} (hts : ∀ w ∈ lw_tbl, w.before args s = true) (hf : ∀ c ∈ ws_fl, c.before args s = true) : ∃ adK adV : Nat → Nat, ∀ A : Nat → Prop, (∀ a : Nat, a < s.heap.size → ¬ A a) → vk_S 21 st_len st_byt adK adV A s s.heap ∧ ∀ i, i < 21 → vk_R (s1_sk i).1 (s1_sk i).2.1 (s1_sk i).2.2 (adK i) s := by
  obtain ⟨m1, m2, m3, m4⟩ := ws_sm
  obtain ⟨adK, adV, h1, h2⟩ := vk_Sof (N := 21) (tm := ws_tm) (len := st_len) (byt := st_byt) (A := fun _ => False) (fun i hi => Nat.lt_trans (st_len10 i hi).1 (by decide)) (fun i hi => hf _ (m1 i hi)) (fun i hi => hf _ (m2 i hi)) (fun i hi => hf _ (m3 i hi)) (fun i hi => hf _ (m4 i hi)) (fun i hi j hj => hf _ (ws_sm2 i hi j (Nat.lt_trans hj (st_len10 i hi).1) hj)) (fun i j hi hj hn => by
    rcases ws_sm3 i hi j hj hn with h | h
    · exact Or.inl (hf _ h)
    · exact Or.inr (hf _ h)) (fun _ _ h => h)
  refine ⟨adK, adV, fun A hA => ⟨⟨fun i hi => ?_, h1.2⟩, fun i hi => ?_⟩⟩
  · obtain ⟨x1, x2, x3, x4⟩ := h1.1 i hi
    have hn : ∀ a : Nat, a < s.heap.size → ¬ A a := hA
    refine ⟨?_, ?_, ?_, ?_⟩
    · obtain ⟨cell, g1, g2, g3, -⟩ := x1
      exact ⟨cell, g1, g2, g3, hA _ (Array.getElem?_eq_some_iff.mp g1).1⟩
    · obtain ⟨cf, k, fi, f, cell, g1, g2, g3, g4, g5, -⟩ := x2
      exact ⟨cf, k, fi, f, cell, g1, g2, g3, g4, g5, hA _ (Array.getElem?_eq_some_iff.mp g3).1⟩
    · obtain ⟨cf, k, fi, f, cell, g1, g2, g3, g4, g5, -⟩ := x3
      exact ⟨cf, k, fi, f, cell, g1, g2, g3, g4, g5, hA _ (Array.getElem?_eq_some_iff.mp g3).1⟩
    · obtain ⟨cell, g1, g2, g3, g4, g5, g6, -⟩ := x4
      exact ⟨cell, g1, g2, g3, g4, g5, g6, hA _ (Array.getElem?_eq_some_iff.mp g1).1⟩
  · obtain ⟨r1, r2⟩ := ws_sr i hi
    rw [r2]
    exact vk_R.of (hts _ r1) (h2 i hi)
theorem ws_jm : Cond.eq (.static "java/lang/String" "COMPACT_STRINGS" "Z") (.int 1) ∈ ws_fl ∧ Cond.isRef (.static "jdk/internal/util/Preconditions" "SIOOBE_FORMATTER" "Ljava/util/function/BiFunction;") ∈ ws_fl := by decide +kernel
theorem ws_j {args : Array Value} {s : State} (hts : ∀ w ∈ lw_tbl, w.before args s = true) (hf : ∀ c ∈ ws_fl, c.before args s = true) {A : Nat → Prop} (hA : ∀ a : Nat, a < s.heap.size → ¬ A a) : va_Z "java/lang/String" "COMPACT_STRINGS" "Z" (.int 1) A s s.heap ∧ va_Zq "jdk/internal/util/Preconditions" "SIOOBE_FORMATTER" "Ljava/util/function/BiFunction;" A s s.heap :=
  ⟨va_Zof (hts (.laysStatic "java/lang/String" "COMPACT_STRINGS" "Z") (lw_mem 952 _ (by decide +kernel))) (hts (.initialized "java/lang/String") (lw_mem 133 _ (by decide +kernel))) (va_eqi (hf _ ws_jm.1)) hA, va_Zqof (hts (.laysStatic "jdk/internal/util/Preconditions" "SIOOBE_FORMATTER" "Ljava/util/function/BiFunction;") (lw_mem 968 _ (by decide +kernel))) (hts (.initialized "jdk/internal/util/Preconditions") (lw_mem 135 _ (by decide +kernel))) (hf _ ws_jm.2) hA⟩
theorem lw_goodC {y : MethodName} {b : ByteArray} {n : Nat} {r : Option FieldType} (h : Cond.code y b n r ∈ aAW) : GoodIn lw_tbl (Cond.code y b n r :: aAW) := fun w hw => ⟨aAW_tbl w ((List.mem_cons.mp hw).elim (fun g => g ▸ h) id), (st_good h w hw).2⟩
theorem ws_ao : Cond.arrayOver (.array .int) ∈ lw_tbl := lw_mem 187 _ (by decide +kernel)
theorem ws_NL : ∀ w ∈ ct_NL ++ s1_AN, w ∈ lw_tbl := by decide +kernel
theorem ws_NLt : ∀ w ∈ ct_NL ++ s1_AN, w.onTables = true := by decide +kernel
theorem ws_kc1 : ∀ q cs, s1_G.1 q = kC cs → cs ≠ [] → (q = 205 ∧ cs = [6, 30, 100, 0, 0, 0, 0, 0]) ∨ (q = 206 ∧ cs = [24, 99, 999, 1, 1, 2, 999, 999]) := by
  intro q cs hq hne
  have h0 : ((List.range 207).all (fun q => match s1_kd q with
    | .inr (.inr (.inr (.inr cs))) => (Nat.beq q 205 && decide (cs = [6, 30, 100, 0, 0, 0, 0, 0])) || (Nat.beq q 206 && decide (cs = [24, 99, 999, 1, 1, 2, 999, 999]))
    | _ => true)) = true := by decide +kernel
  rcases Nat.lt_or_ge q 207 with a | a
  · have h1 := List.all_eq_true.mp h0 q (List.mem_range.mpr a)
    rw [show s1_kd q = kC cs from hq] at h1
    simp only [Bool.or_eq_true, Bool.and_eq_true, decide_eq_true_eq] at h1
    rcases h1 with ⟨g1, g2⟩ | ⟨g1, g2⟩
    · exact Or.inl ⟨Nat.eq_of_beq_eq_true g1, g2⟩
    · exact Or.inr ⟨Nat.eq_of_beq_eq_true g1, g2⟩
  · have := s1_kd_out q a
    rw [show s1_kd q = kC cs from hq] at this
    cases this
    exact absurd rfl hne
theorem ws_kc2 : ∀ q cs, cs ≠ [] → s2_G.1 q ≠ kC cs := by
  intro q cs hne hq
  have h0 : ((List.range 68).all (fun q => match s2_kd q with
    | .inr (.inr (.inr (.inr _))) => false
    | _ => true)) = true := by decide +kernel
  rcases Nat.lt_or_ge q 68 with a | a
  · have h1 := List.all_eq_true.mp h0 q (List.mem_range.mpr a)
    rw [show s2_kd q = kC cs from hq] at h1
    cases h1
  · have := s2_kd_out q a
    rw [show s2_kd q = kC cs from hq] at this
    cases this
    exact hne rfl
set_option maxRecDepth 100000 in
theorem ws_ad {ad u : Nat → Nat} {cA : Nat → ClassId} (h : ∀ q, q < 205 → ad q = u q) (M : AM) : aw s1_G ad cA 205 M = aw s1_G u cA 205 M := by
  have hr : ((List.range 205).all (fun q => match s1_kd q with
    | .inl (_, fs) => fs.all (fun f => Nat.blt f 207)
    | .inr (.inr (.inl (n, _, base))) => Nat.ble (base + n) 205
    | _ => true)) = true := by decide +kernel
  apply List.ext_getElem?
  intro k
  by_cases hk : k < 205
  · rw [aw_at hk, aw_at hk, h k hk]
    congr 2
    have h1 := List.all_eq_true.mp hr k (List.mem_range.mpr hk)
    unfold aw_e
    rw [show s1_G.1 k = s1_kd k from rfl]
    split
    next ci fs e =>
      rw [e] at h1
      congr 2
      apply List.ext_getElem?
      intro j
      rw [aw_fv_get, aw_fv_get]
      split
      · rfl
      next c e2 =>
        have h2 := Nat.le_of_ble_eq_true (List.all_eq_true.mp h1 _ (List.mem_of_getElem? e2))
        rw [h c (by omega)]
      · rfl
    · rfl
    · rfl
    next n len base e =>
      rw [e] at h1
      have h2 : base + n ≤ 205 := Nat.le_of_ble_eq_true h1
      congr 7
      funext i
      split
      next hi => rw [h (base + i) (by omega)]
      · rfl
    · rfl
    · rfl
  · rw [List.getElem?_eq_none (by simp [aw]; omega), List.getElem?_eq_none (by simp [aw]; omega)]
set_option maxHeartbeats 16000000 in
set_option maxRecDepth 100000 in
/-- the law, from its entry, if the calls hold -/
theorem whole_start_of {Rel : AM → AM → Prop} (hsim : lwSims Rel) (hR0 : Rel m01 m02) {p : Program} {e : Env} {s : State} {m : MethodId} {below : List Frame} {meth : Method} {c : Code} (l : Launch) {b L : Nat} {xs : Nat → Int32} (hL : L ≤ 3584) (C0 : lw_At p s m meth c b L xs) : W p l e room_1 s m #[Value.ref b] below meth c s.heap [] 0 0 (lw_Z below #[Value.ref b] s) (entryFrame m ([Value.ref b] : List Value).toArray 4) := by
  obtain ⟨hx, hb, hr, hml, hown, hts, hX, hbl, hlocks, hgv⟩ := id C0
  have hA : ∀ q : Nat, s.heap.size ≤ q → (fun q : Nat => s.heap.size ≤ q) q := fun _ h => h
  have hf : ∀ c ∈ ws_fl, c.before #[Value.ref b] s = true := flat_of_before _ hgv
  obtain ⟨D, cA, hK⟩ := ws_K hts
  have hNN : ∀ w ∈ ct_NL ++ s1_AN, va_Nw w s := fun w hw => va_Nw.of (ws_NLt w hw) (hts w (ws_NL w hw))
  have hN : ct_N s := ⟨Jvm.Stand.arrayOver_alikeB (Vm.Alike.refl s.vm) (hts (.arrayOver (.array .int)) ws_ao), fun w hw => hNN w (List.mem_append_left _ hw)⟩
  have hS : va_S (fun q : Nat => s.heap.size ≤ q) s.heap s.heap [] := va_S.rf
  have hP : va_P D wCl [] s.heap := fun k q h => by simp at h
  have hD : va_D (fun q : Nat => s.heap.size ≤ q) [] := ⟨fun i j p q h => by simp at h, fun k q h => by simp at h⟩
  have hl := lv_entry ([.ref b]) (n := 4) (Nat.le_of_ble_eq_true rfl)
  rw [lg_entry_eq]
  generalize (lg_sl ([.ref b]) ++ List.replicate (4 - (lg_sl ([.ref b])).length) Slot.unset).toArray = ls at hl ⊢
  have hl : lv_has ls 4 [(0, .ref b)] := hl
  refine va_new (ci := 11) (fs := [.null, .null, .null, .null, .null, .null, .null, .null, .null, .null, .int 0]) (C := "DioceseBook") (T := TX11) (N := 11) hx hb hts (fun w hw => aAW_tbl w (gk_cl11.2.1 w hw)) tyX11 tyX11_ok hown (hts (.classLink "DioceseBookLaw" 7 "DioceseBook") (lw_mem 138 _ (by decide +kernel))) (hts (.instantiable "DioceseBook" 11) (lw_mem 139 _ (by decide +kernel))) (hts (.initialized "DioceseBook") (lw_mem 118 _ (by decide +kernel))) hK hP hD hS hA rfl (fun j hj => by match j, hj with | 0, _ => rfl | 1, _ => rfl | 2, _ => rfl | 3, _ => rfl | 4, _ => rfl | 5, _ => rfl | 6, _ => rfl | 7, _ => rfl | 8, _ => rfl | 9, _ => rfl | 10, _ => rfl | j + 11, hj => exact absurd hj (by omega)) (Nat.le_of_ble_eq_true rfl) (Nat.le_of_ble_eq_true rfl) dl_0 (fun x0 H hP hD hS => ?_)
  have hP : va_P D wCl ([] ++ ctE_Book x0) H := hP
  have hD : va_D (fun q : Nat => s.heap.size ≤ q) ([] ++ ctE_Book x0) := hD
  refine W.widen (k := 1) (n := 11) (by omega) (by omega) ?_
  refine lv_dup hx hb dl_3 rfl ?_
  have hPc := ct_last hP
  have hDc := ct_lastD hD
  have hFc := ct_lastF hD hS hA
  refine va_callv (va_runI (As := []) (rest := [.ref x0]) ⟨hx, hb, hml, hown, hts⟩ (ct_Book l D cA x0 H.size) ⟨⟨rfl, rfl, Nat.le_of_ble_eq_true rfl, Nat.le_of_ble_eq_true rfl, pay_in hts (lw_goodC ctC_Book), List.mem_cons_self, hts _ (aAW_tbl _ ctC_Book), hts (.initialized "DioceseBook") (lw_mem 118 _ (by decide +kernel)), ⟨by decide, by decide⟩, (fun sig h => (by
    have h2 : (parseMethodDescriptor ctY_Book.desc).map (fun d => d.parameters.length) = some 0 := by decide +kernel
    rw [h] at h2
    exact (Option.some.inj h2).symm)), hts (.methodLink "DioceseBookLaw" 9 ctY_Book) (lw_mem 140 _ (by decide +kernel))⟩, rfl, hts _ (aAW_tbl _ ctI_Book)⟩ ⟨ct_blind _ _ _, fun U hU hW => ⟨rfl, by rw [hU], by rw [hU]; exact hPc, va_K.moved hW.alike hK, hDc.weaken (fun _ _ _ _ => trivial), ct_N_warm hW hN⟩⟩ rfl rfl hl.1 rfl (lv_room (Nat.le_of_ble_eq_true rfl)) dl_4 ⟨Nat.le_of_ble_eq_true rfl, Nat.le_of_ble_eq_true rfl⟩) hS (fun q _ h => hFc q h) hFc (fun u1 t H1 locs ht hvm hw HB hz1 hk1 hS => ?_)
  obtain ⟨hP1, hD1⟩ := HB
  rw [ht] at hP1
  obtain ⟨hP, hD⟩ := ct_join hP hD hk1 hFc hP1 hD1
  have hw1 : u1 0 = x0 := hw
  generalize H1 = H at hP hS ⊢
  rw [List.nil_append, ws_w1] at hP hD
  refine W.widen (k := 205) (n := 13358) (by omega) (by omega) ?_
  refine lv_astore_n (lv' := [(1, .ref x0), (0, .ref b)]) hx hb dl_7 rfl hl (by decide) rfl (fun ls hl => ?_)
  refine va_new (ci := 12) (fs := [.int 0, .int 0, .null, .int 0, .null, .null, .null, .int 0, .null, .null, .null, .null, .null, .null, .null, .null, .null, .int 0, .int 0, .null, .null, .null, .null, .null, .null, .null, .null, .null, .null, .int 0, .int 0, .int 0, .int 0, .int 0, .int 0, .int 0, .null, .int 0, .int 0, .null, .null, .int 0, .int 0, .null, .null, .null, .null, .null, .null, .null, .null, .int 0, .int 0, .null, .null, .null, .null, .int 0, .int 0, .null, .null, .null, .int 0, .int 0, .int 0, .int 0, .int 0, .null, .null, .int 0, .null, .null, .null, .null, .null, .null, .null, .null, .int 0, .null, .null, .null, .null, .null, .null, .null, .null, .null, .null, .int 0, .null, .null, .int 0, .null, .null, .null, .null]) (C := "DioceseBookModel") (T := TX12) (N := 97) hx hb hts (fun w hw => aAW_tbl w (gk_cl12.2.1 w hw)) tyX12 tyX12_ok hown (hts (.classLink "DioceseBookLaw" 10 "DioceseBookModel") (lw_mem 1362 _ (by decide +kernel))) (hts (.instantiable "DioceseBookModel" 97) (lw_mem 1363 _ (by decide +kernel))) (hts (.initialized "DioceseBookModel") (lw_mem 130 _ (by decide +kernel))) hK hP hD hS hA rfl (fun j hj => by match j, hj with | 0, _ => rfl | 1, _ => rfl | 2, _ => rfl | 3, _ => rfl | 4, _ => rfl | 5, _ => rfl | 6, _ => rfl | 7, _ => rfl | 8, _ => rfl | 9, _ => rfl | 10, _ => rfl | 11, _ => rfl | 12, _ => rfl | 13, _ => rfl | 14, _ => rfl | 15, _ => rfl | 16, _ => rfl | 17, _ => rfl | 18, _ => rfl | 19, _ => rfl | 20, _ => rfl | 21, _ => rfl | 22, _ => rfl | 23, _ => rfl | 24, _ => rfl | 25, _ => rfl | 26, _ => rfl | 27, _ => rfl | 28, _ => rfl | 29, _ => rfl | 30, _ => rfl | 31, _ => rfl | 32, _ => rfl | 33, _ => rfl | 34, _ => rfl | 35, _ => rfl | 36, _ => rfl | 37, _ => rfl | 38, _ => rfl | 39, _ => rfl | 40, _ => rfl | 41, _ => rfl | 42, _ => rfl | 43, _ => rfl | 44, _ => rfl | 45, _ => rfl | 46, _ => rfl | 47, _ => rfl | 48, _ => rfl | 49, _ => rfl | 50, _ => rfl | 51, _ => rfl | 52, _ => rfl | 53, _ => rfl | 54, _ => rfl | 55, _ => rfl | 56, _ => rfl | 57, _ => rfl | 58, _ => rfl | 59, _ => rfl | 60, _ => rfl | 61, _ => rfl | 62, _ => rfl | 63, _ => rfl | 64, _ => rfl | 65, _ => rfl | 66, _ => rfl | 67, _ => rfl | 68, _ => rfl | 69, _ => rfl | 70, _ => rfl | 71, _ => rfl | 72, _ => rfl | 73, _ => rfl | 74, _ => rfl | 75, _ => rfl | 76, _ => rfl | 77, _ => rfl | 78, _ => rfl | 79, _ => rfl | 80, _ => rfl | 81, _ => rfl | 82, _ => rfl | 83, _ => rfl | 84, _ => rfl | 85, _ => rfl | 86, _ => rfl | 87, _ => rfl | 88, _ => rfl | 89, _ => rfl | 90, _ => rfl | 91, _ => rfl | 92, _ => rfl | 93, _ => rfl | 94, _ => rfl | 95, _ => rfl | 96, _ => rfl | j + 97, hj => exact absurd hj (by omega)) (Nat.le_of_ble_eq_true rfl) (Nat.le_of_ble_eq_true rfl) dl_8 (fun y0 H hP hD hS => ?_)
  have hP : va_P D wCl (aw s1_G u1 cA 205 m01 ++ ctE_Model y0) H := hP
  have hD : va_D (fun q : Nat => s.heap.size ≤ q) (aw s1_G u1 cA 205 m01 ++ ctE_Model y0) := hD
  refine W.widen (k := 206) (n := 13455) (by omega) (by omega) ?_
  refine lv_dup hx hb dl_11 rfl ?_
  have hPc := ct_last hP
  have hDc := ct_lastD hD
  have hFc := ct_lastF hD hS hA
  refine va_callv (va_runI (As := []) (rest := [.ref y0]) ⟨hx, hb, hml, hown, hts⟩ (ct_Model l D cA y0 H.size) ⟨⟨rfl, rfl, Nat.le_of_ble_eq_true rfl, Nat.le_of_ble_eq_true rfl, pay_in hts (lw_goodC ctC_Model), List.mem_cons_self, hts _ (aAW_tbl _ ctC_Model), hts (.initialized "DioceseBookModel") (lw_mem 130 _ (by decide +kernel)), ⟨by decide, by decide⟩, (fun sig h => (by
    have h2 : (parseMethodDescriptor ctY_Model.desc).map (fun d => d.parameters.length) = some 0 := by decide +kernel
    rw [h] at h2
    exact (Option.some.inj h2).symm)), hts (.methodLink "DioceseBookLaw" 12 ctY_Model) (lw_mem 1364 _ (by decide +kernel))⟩, rfl, hts _ (aAW_tbl _ ctI_Model)⟩ ⟨ct_blind _ _ _, fun U hU hW => ⟨rfl, by rw [hU], by rw [hU]; exact hPc, va_K.moved hW.alike hK, hDc.weaken (fun _ _ _ _ => trivial), ct_N_warm hW hN⟩⟩ rfl rfl hl.1 rfl (lv_room (Nat.le_of_ble_eq_true rfl)) dl_12 ⟨Nat.le_of_ble_eq_true rfl, Nat.le_of_ble_eq_true rfl⟩) hS (fun q _ h => hFc q h) hFc (fun u2 t H1 locs ht hvm hw HB hz1 hk1 hS => ?_)
  obtain ⟨hP1, hD1⟩ := HB
  rw [ht] at hP1
  obtain ⟨hP, hD⟩ := ct_join hP hD hk1 hFc hP1 hD1
  have hw2 : u2 0 = y0 := hw
  generalize H1 = H at hP hS ⊢
  rw [ws_w2] at hP hD
  refine W.widen (k := 600000) (n := 7302250) (by omega) (by omega) ?_
  refine lv_astore_n (lv' := [(2, .ref y0), (1, .ref x0), (0, .ref b)]) hx hb dl_15 rfl hl (by decide) rfl (fun ls hl => ?_)
  refine lv_iconst (v := 0) hx hb dl_16 (by decide) ?_
  refine lv_istore_n (lv' := [(3, .int 0), (2, .ref y0), (1, .ref x0), (0, .ref b)]) hx hb dl_17 rfl hl (by decide) rfl (fun ls hl => ?_)
  obtain ⟨t1, hc1⟩ := ws_c205 hts hf
  obtain ⟨t2, hc2⟩ := ws_c206 hts hf
  obtain ⟨adK, adV, hst⟩ := ws_st hts hf
  obtain ⟨ad1, had1⟩ : ∃ ad : Nat → Nat, ad = fun q => if q < 205 then u1 q else if q = 205 then t1 else if q = 206 then t2 else adK (q - 5000) := ⟨_, rfl⟩
  have e1 : ∀ q, q < 205 → ad1 q = u1 q := fun q h => by rw [had1]; simp [h]
  have e5 : ∀ i, ad1 (5000 + i) = adK i := fun i => by
    rw [had1]
    simp only [show ¬ 5000 + i < 205 by omega, show ¬ 5000 + i = 205 by omega, show ¬ 5000 + i = 206 by omega, if_false]
    rw [show 5000 + i - 5000 = i by omega]
  have ec1 : ad1 205 = t1 := by rw [had1]; rfl
  have ec2 : ad1 206 = t2 := by rw [had1]; rfl
  have ew : ∀ M, aw s1_G ad1 cA 205 M = aw s1_G u1 cA 205 M := fun M => ws_ad e1 M
  rw [← ew] at hP hD
  have hP1 := ct_first hP
  have hP2 := ct_last hP
  have hD1 := ct_firstD hD
  have hD2 := ct_lastD hD
  obtain ⟨j1, n1⟩ := ws_inj hD1
  obtain ⟨j2, n2⟩ := ws_inj hD2
  have hx12 : ∀ i j, i < 205 → j < 68 → ad1 i ≠ u2 j := fun i j hi hj hh => by
    have g1 : (aw s1_G ad1 cA 205 m01 ++ aw s2_G u2 cA 68 m02)[i]? = some (ad1 i, aw_e s1_G ad1 cA m01 i) := by
      rw [List.getElem?_append_left (by simp [aw]; omega), aw_at hi]
    have g2 : (aw s1_G ad1 cA 205 m01 ++ aw s2_G u2 cA 68 m02)[205 + j]? = some (u2 j, aw_e s2_G u2 cA m02 j) := by
      rw [List.getElem?_append_right (by simp [aw]), show (aw s1_G ad1 cA 205 m01).length = 205 by simp [aw], show 205 + j - 205 = j by omega, aw_at hj]
    have := hD.1 i (205 + j) _ _ g1 g2 hh
    omega
  have hF1 : ∀ a : Nat, a < s.heap.size → ¬ aF ad1 205 a := fun a h ⟨q, g1, g2⟩ => by have h9 : s.heap.size ≤ ad1 q := n1 q g1; omega
  have hF2 : ∀ a : Nat, a < s.heap.size → ¬ aF u2 68 a := fun a h ⟨q, g1, g2⟩ => by have h9 : s.heap.size ≤ u2 q := n2 q g1; omega
  have hY : lwY ad1 u2 adV cA D s := by
    refine ⟨⟨s1_tab (XS := st_X ad1 adV) j1 (fun h x => st_X_moved h x) (fun x h => st_X_kept x h), ⟨hK, fun q cs hq hne => ?_, fun z hz => ?_, fun w hw => hNN w (List.mem_append_right _ hw), fun k hk => ?_, ?_⟩, fun q hq => n1 q hq⟩, ⟨s2_tab (XS := fun _ _ => True) j2 (fun _ _ => trivial) (fun _ _ => trivial), ⟨hK, fun q cs hq hne => ?_, fun z hz => (by cases hz), fun w hw => (by cases hw), fun k hk => absurd hk (Nat.not_lt_zero k), trivial⟩, fun q hq => n2 q hq⟩, fun i hi ⟨q, g1, g2⟩ => hx12 q i g1 hi g2.symm, fun i hi ⟨q, g1, g2⟩ => hx12 i q hi g1 g2⟩
    · rcases ws_kc1 q cs hq hne with ⟨rfl, rfl⟩ | ⟨rfl, rfl⟩
      · rw [ec1]; exact (hc1 _ hF1).1
      · rw [ec2]; exact (hc2 _ hF1).1
    · simp only [s1_zs, List.mem_cons, List.not_mem_nil, or_false] at hz
      rcases hz with rfl | rfl
      · show va_Z _ _ _ (.ref (ad1 205)) _ _ _
        rw [ec1]; exact (hc1 _ hF1).2
      · show va_Z _ _ _ (.ref (ad1 206)) _ _ _
        rw [ec2]; exact (hc2 _ hF1).2
    · rw [e5]; exact (hst _ hF1).2 k hk
    · refine ⟨?_, ws_j hts hf hF1⟩
      rw [show (fun i => ad1 (5000 + i)) = adK from funext e5]
      exact (hst _ hF1).1
    · exact absurd hq (ws_kc2 q cs hne)
  have hl2 : lv_has ls 4 [(3, .int (nI 0)), (2, .ref (u2 0)), (1, .ref (ad1 0)), (0, .ref b)] := by
    rw [hw2, e1 0 (by omega), hw1]
    exact hl
  exact lw_loop hx hb hml hown hts hX hbl (fun q => Iff.rfl) hY hsim hr hlocks hL (L + 1) 0 (by omega) (by omega) H locs ls m01 m02 ⟨hl2, hP1, hP2, m01_ok, m02_ok, hS⟩ hR0
