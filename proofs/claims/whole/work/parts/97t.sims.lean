/-! BOTH SYSTEMS AT ONE: call by call -/
def RelL (M1 M2 : AM) : Prop := RelP M2 M1
theorem lw_mk {y1 y2 h1 h2 : Nat} {as : List AV} {M D : AM} {K1 K2 : Int → AM → Prop} (c1 : aCi s1_G h1 y1 (aP 0 :: as) M K1) (c2 : aCi s2_G h2 y2 (aP 0 :: as) D K2) (b1 : h1 ≤ 200) (b2 : h2 ≤ 200) (H : ∀ z1 M' z2 D', K1 z1 M' → K2 z2 D' → z1 = z2 ∧ RelP D' M') : ∃ K1 K2 : Int → AM → Prop, aCi s1_G 200 y1 (aP 0 :: as) M K1 ∧ aCi s2_G 200 y2 (aP 0 :: as) D K2 ∧ ∀ z1 M1' z2 M2', K1 z1 M1' → K2 z2 M2' → z1 = z2 ∧ RelL M1' M2' :=
  ⟨K1, K2, aC_mono c1 b1 (fun _ _ q => q), aC_mono c2 b2 (fun _ _ q => q), H⟩
-- asked of the story
theorem rl_count {a1 : Int} : lwSim RelL 115 82 [aI a1] := fun M D h => lw_mk (c1_count (RelP_i h) (RelP_b h) (RelP_s h)) (c2_count (RelP_i h)) (by decide) (by decide) (fun _ _ _ _ k1 k2 => ⟨k1.1.trans k2.1.symm, Rel_d (Rel_m h k1.2.1 k1.2.2.1 k1.2.2.2 rfl) k2.2 rfl⟩)
theorem rl_barred {a1 a2 a3 a4 : Int} : lwSim RelL 121 71 [aI a1, aI a2, aI a3, aI a4] := fun M D h => lw_mk (c1_barred (RelP_i h) (RelP_b h) (RelP_s h)) (c2_barred (RelP_i h)) (by decide) (by decide) (fun _ _ _ _ k1 k2 => ⟨k1.1.trans k2.1.symm, Rel_d (Rel_m h k1.2.1 k1.2.2.1 k1.2.2.2 rfl) k2.2 rfl⟩)
theorem rl_seat {a1 a2 a3 a4 : Int} : lwSim RelL 122 74 [aI a1, aI a2, aI a3, aI a4] := fun M D h => lw_mk (c1_seat (RelP_i h) (RelP_b h) (RelP_s h)) (c2_seat (RelP_i h)) (by decide) (by decide) (fun _ _ _ _ k1 k2 => ⟨k1.1.trans k2.1.symm, Rel_d (Rel_m h k1.2.1 k1.2.2.1 k1.2.2.2 rfl) k2.2 rfl⟩)
theorem rl_good {a1 a2 : Int} : lwSim RelL 123 76 [aI a1, aI a2] := fun M D h => lw_mk (c1_good (RelP_i h) (RelP_b h) (RelP_s h)) (c2_good (RelP_i h)) (by decide) (by decide) (fun _ _ _ _ k1 k2 => ⟨k1.1.trans k2.1.symm, Rel_d (Rel_m h k1.2.1 k1.2.2.1 k1.2.2.2 rfl) k2.2 rfl⟩)
theorem rl_why {a1 a2 : Int} : lwSim RelL 124 77 [aI a1, aI a2] := fun M D h => lw_mk (c1_why (RelP_i h) (RelP_b h) (RelP_s h)) (c2_why (RelP_i h)) (by decide) (by decide) (fun _ _ _ _ k1 k2 => ⟨k1.1.trans k2.1.symm, Rel_d (Rel_m h k1.2.1 k1.2.2.1 k1.2.2.2 rfl) k2.2 rfl⟩)
theorem rl_change {a1 a2 a3 a4 : Int} : lwSim RelL 126 78 [aI a1, aI a2, aI a3, aI a4] := fun M D h => lw_mk (c1_change (RelP_i h) (RelP_b h) (RelP_s h)) (c2_change (RelP_i h)) (by decide) (by decide) (fun _ _ _ _ k1 k2 => ⟨k1.1.trans k2.1.symm, Rel_d (Rel_m h k1.2.1 k1.2.2.1 k1.2.2.2 rfl) k2.2 rfl⟩)
theorem rl_days {a1 a2 a3 a4 a5 : Int} (r2 : aR32 a2) (r3 : aR32 a3) : lwSim RelL 127 79 [aI a1, aI a2, aI a3, aI a4, aI a5] := fun M D h => lw_mk (c1_days r2 r3 (RelP_i h) (RelP_b h) (RelP_s h)) (c2_days r2 r3 (RelP_i h)) (by decide) (by decide) (fun _ _ _ _ k1 k2 => ⟨k1.1.trans k2.1.symm, Rel_d (Rel_m h k1.2.1 k1.2.2.1 k1.2.2.2 rfl) k2.2 rfl⟩)
theorem rl_news {a1 a2 a3 : Int} : lwSim RelL 128 80 [aI a1, aI a2, aI a3] := fun M D h => lw_mk (c1_news (RelP_i h) (RelP_b h) (RelP_s h)) (c2_news (RelP_i h)) (by decide) (by decide) (fun _ _ _ _ k1 k2 => ⟨k1.1.trans k2.1.symm, Rel_d (Rel_m h k1.2.1 k1.2.2.1 k1.2.2.2 rfl) k2.2 rfl⟩)
theorem rl_decay {a1 a2 a3 a4 : Int} : lwSim RelL 133 89 [aI a1, aI a2, aI a3, aI a4] := fun M D h => lw_mk (c1_decay (RelP_i h) (RelP_v h) (RelP_b h) (RelP_s h)) (c2_decay (RelP_i h) (RelP_v h)) (by decide) (by decide) (fun _ _ _ _ k1 k2 => ⟨k1.1.trans k2.1.symm, Rel_d (Rel_m h k1.2.1 k1.2.2.1 k1.2.2.2 rfl) k2.2 rfl⟩)
-- asked of the book, of the canons
theorem rl_told {a1 a2 : Int} : lwSim RelL 112 19 [aI a1, aI a2] := fun M D h => lw_mk (c1_told (RelP_i h) (RelP_b h)) (c2_told (RelP_i h)) (by decide) (by decide) (fun _ _ _ _ k1 k2 => ⟨k1.1.trans k2.1.symm, Rel_d (Rel_m h k1.2.1 k1.2.2 (StoC_fw (RelP_s h) k1.2.1 rfl) rfl) k2.2 rfl⟩)
theorem rl_book {a1 a2 : Int} : lwSim RelL 113 20 [aI a1, aI a2] := fun M D h => lw_mk (c1_book (RelP_i h) (RelP_b h)) (c2_book (RelP_i h)) (by decide) (by decide) (fun _ _ _ _ k1 k2 => ⟨k1.1.trans k2.1.symm, Rel_d (Rel_m h k1.2.1 k1.2.2 (StoC_fw (RelP_s h) k1.2.1 rfl) rfl) k2.2 rfl⟩)
theorem rl_about {a1 a2 a3 : Int} : lwSim RelL 114 26 [aI a1, aI a2, aI a3] := fun M D h => lw_mk (c1_about (RelP_i h) (RelP_b h)) (c2_about (RelP_i h)) (by decide) (by decide) (fun _ _ _ _ k1 k2 => ⟨k1.1.trans k2.1.symm, Rel_d (Rel_m h k1.2.1 k1.2.2 (StoC_fw (RelP_s h) k1.2.1 rfl) rfl) k2.2 rfl⟩)
theorem rl_force {a1 a2 a3 : Int} : lwSim RelL 119 48 [aI a1, aI a2, aI a3] := fun M D h => lw_mk (c1_force (RelP_i h) (RelP_b h)) (c2_force (RelP_i h)) (by decide) (by decide) (fun _ _ _ _ k1 k2 => ⟨k1.1.trans k2.1.symm, Rel_d (Rel_m h k1.2.1 k1.2.2 (StoC_fw (RelP_s h) k1.2.1 rfl) rfl) k2.2 rfl⟩)
theorem rl_counts {a1 a2 : Int} : lwSim RelL 120 49 [aI a1, aI a2] := fun M D h => lw_mk (c1_counts (RelP_i h) (RelP_b h)) (c2_counts (RelP_i h)) (by decide) (by decide) (fun _ _ _ _ k1 k2 => ⟨k1.1.trans k2.1.symm, Rel_d (Rel_m h k1.2.1 k1.2.2 (StoC_fw (RelP_s h) k1.2.1 rfl) rfl) k2.2 rfl⟩)
theorem rl_suit {a1 a2 a3 : Int} : lwSim RelL 132 87 [aI a1, aI a2, aI a3] := fun M D h => lw_mk (c1_suit (RelP_i h) (RelP_b h)) (c2_suit (RelP_i h)) (by decide) (by decide) (fun _ _ _ _ k1 k2 => ⟨k1.1.trans k2.1.symm, Rel_d (Rel_m h k1.2.1 k1.2.2 (StoC_fw (RelP_s h) k1.2.1 rfl) rfl) k2.2 rfl⟩)
theorem rl_fault : lwSim RelL 118 45 [] := fun M D h => lw_mk (c1_fault (RelP_b h)) c2_fault (by decide) (by decide) (fun _ _ _ _ k1 k2 => ⟨k1.1.trans k2.1.symm, by rw [k1.2, k2.2]; exact h⟩)
theorem rl_one {a1 a2 : Int} : lwSim RelL 137 99 [aI a1, aI a2] := fun M D h => lw_mk (c1_one (RelP_i h) (RelP_b h)) (c2_one (RelP_i h)) (by decide) (by decide) (fun _ _ _ _ k1 k2 => ⟨k1.1.trans k2.1.symm, by rw [k1.2, k2.2]; exact h⟩)
-- match, lives, plan
theorem B1_w3 {D M M' : AM} (hB : B1 D M) (g : fr wU3 M M') : B1 D M' := by
  refine ⟨?_, G1_fw (B1_G hB) (fr_rf (W := wr [] [])) g rfl, P1_fw (B1_P hB) (fr_rf (W := wr [] [])) g rfl, C1_fw (B1_C hB) (fr_rf (W := wr [] [])) g rfl, R1_fw (B1_R hB) (fr_rf (W := wr [] [])) g rfl, S1_fw (B1_S hB) (fr_rf (W := wr [] [])) g rfl, F1_fw (B1_F hB) (fr_rf (W := wr [] [])) g rfl, E1_fw (B1_E hB) (fr_rf (W := wr [] [])) g rfl⟩
  rw [g 0 10 rfl]
  exact B1_now hB
theorem rl_match {a1 a2 : Int} : lwSim RelL 135 94 [aI a1, aI a2] := fun M D h => lw_mk (c1_match (RelP_i h) (RelP_b h) (RelP_m h)) (c2_match (RelP_i h)) (by decide) (by decide) (fun _ M' _ _ k1 k2 => by
  have f : fr (wr [] []) D D := fr_rf
  have g := k1.2.1
  have r : RelP D M' := ⟨RelP_i h, B1_w3 (RelP_b h) g, StoC_fw (RelP_s h) g rfl, RelP_v h, XC_u (RelP_x h) f g rfl rfl, RelP_p h, k1.2.2, LivC_u (RelP_l h) f g rfl rfl, PlanC_u (RelP_i h) (RelP_n h) (fun _ _ => rfl) (fun _ _ => rfl) (Int.le_refl _) g rfl⟩
  exact ⟨k1.1.trans k2.1.symm, Rel_d r k2.2 rfl⟩)
theorem rl_lives {a1 : Int} : lwSim RelL 138 103 [aI a1] := fun M D h => lw_mk (c1_lives (RelP_i h) (RelP_b h) (RelP_l h)) (c2_lives (RelP_i h)) (by decide) (by decide) (fun _ M' _ _ k1 k2 => by
  have f : fr (wr [] []) D D := fr_rf
  have g := k1.2.1
  have r : RelP D M' := ⟨RelP_i h, B1_w5 (RelP_b h) g, StoC_fw (RelP_s h) g rfl, RelP_v h, XC_u (RelP_x h) f g rfl rfl, RelP_p h, PairC_u (RelP_m h) f g (Int.le_refl _) rfl rfl, k1.2.2, PlanC_u (RelP_i h) (RelP_n h) (fun _ _ => rfl) (fun _ _ => rfl) (Int.le_refl _) g rfl⟩
  exact ⟨k1.1.trans k2.1.symm, Rel_d r k2.2 rfl⟩)
theorem rl_plan {a1 a2 a3 : Int} (r1 : aR32 a1) (r3 : aR32 a3) : lwSim RelL 139 110 [aI a1, aI a2, aI a3] := fun M D h => lw_mk (c1_plan r1 (RelP_i h) (RelP_b h) (RelP_n h)) (c2_plan r1 r3 (RelP_i h)) (by decide) (by decide) (fun _ M' _ _ k1 k2 => by
  have f : fr (wr [] []) D D := fr_rf
  have g := k1.2.1
  have r : RelP D M' := ⟨RelP_i h, B1_w7 (RelP_b h) g, StoC_fw (RelP_s h) g rfl, RelP_v h, XC_u (RelP_x h) f g rfl rfl, RelP_p h, PairC_u (RelP_m h) f g (Int.le_refl _) rfl rfl, LivC_u (RelP_l h) f g rfl rfl, k1.2.2⟩
  exact ⟨k1.1.trans k2.1.symm, Rel_d r k2.2 rfl⟩)
-- told: suits, text
theorem rl_present {a1 a2 a3 : Int} : lwSim RelL 129 83 [aI a1, aI a2, aI a3] := fun M D h => lw_mk (c1_present (RelP_i h) (RelP_b h)) (c2_present (RelP_i h)) (by decide) (by decide) (fun _ _ _ _ k1 k2 => ⟨k1.1.trans k2.1.symm, by
  rw [k1.2, k2.2]
  exact Rel_u h (f_present_Inv (RelP_i h)) (f_present_B1 (RelP_b h)) f_present_fr f1_present_fr (fun i _ => f_present_fr 2 i rfl) (fun i _ => f_present_fr 3 i rfl) (fun i _ => f_present_fr 4 i rfl) (by rw [f_present_fr 0 3 rfl]; exact Int.le_refl _) rfl⟩)
theorem rl_step {a1 a2 : Int} : lwSim RelL 130 85 [aI a1, aI a2] := fun M D h => lw_mk (c1_step (RelP_i h) (RelP_b h)) (c2_step (RelP_i h)) (by decide) (by decide) (fun _ _ _ _ k1 k2 => ⟨k1.1.trans k2.1.symm, by
  rw [k1.2, k2.2]
  exact Rel_u h (f_step_Inv (RelP_i h)) (f_step_B1 (RelP_b h)) f_step_fr f1_step_fr (fun i _ => f_step_fr 2 i rfl) (fun i _ => f_step_fr 3 i rfl) (fun i _ => f_step_fr 4 i rfl) (by rw [f_step_fr 0 3 rfl]; exact Int.le_refl _) rfl⟩)
theorem rl_appeal {a1 a2 : Int} : lwSim RelL 131 86 [aI a1, aI a2] := fun M D h => lw_mk (c1_appeal (RelP_i h) (RelP_b h)) (c2_appeal (RelP_i h)) (by decide) (by decide) (fun _ _ _ _ k1 k2 => ⟨k1.1.trans k2.1.symm, by
  rw [k1.2, k2.2]
  exact Rel_u h (f_appeal_Inv (RelP_i h)) (f_appeal_B1 (RelP_b h)) f_appeal_fr f1_appeal_fr (fun i _ => f_appeal_fr 2 i rfl) (fun i _ => f_appeal_fr 3 i rfl) (fun i _ => f_appeal_fr 4 i rfl) (by rw [f_appeal_fr 0 3 rfl]; exact Int.le_refl _) rfl⟩)
theorem rl_feed {a1 a2 : Int} (r1 : aR32 a1) : lwSim RelL 116 27 [aI a1, aL a2] := fun M D h => lw_mk (c1_feed (RelP_i h) (RelP_b h) r1) (c2_feed (RelP_i h) r1) (by decide) (by decide) (fun _ _ _ _ k1 k2 => ⟨k1.1.trans k2.1.symm, by
  rw [k1.2, k2.2]
  exact Rel_u h (f_feed_Inv (RelP_i h)) (f_feed_B1 (RelP_b h)) f_feed_fr f1_feed_fr (fun i _ => f_feed_fr 2 i rfl) (fun i _ => f_feed_fr 3 i rfl) (fun i _ => f_feed_fr 4 i rfl) (by rw [f_feed_fr 0 3 rfl]; exact Int.le_refl _) rfl⟩)
-- told: the register
theorem rl_go {a1 : Int} (r1 : aR32 a1) : lwSim RelL 107 7 [aI a1] := fun M D h => lw_mk (c1_go r1 (RelP_i h) (RelP_b h)) (c2_go r1 (RelP_i h)) (by decide) (by decide) (fun _ _ _ _ k1 k2 => ⟨k1.1.trans k2.1.symm, by
  rw [k1.2, k2.2]
  have gD : fr (wr [] [(0, 0)]) D (g_go D a1).2 := fr_up fr_rf rfl
  have gM : fr (wr [] [(0, 10)]) M (am_up M 0 10 (f_go (D 0 0) a1).2) := fr_up fr_rf rfl
  exact Rel_u h (g_go_Inv (RelP_i h)) (g_go_B1 (RelP_b h)) gD gM (fun i _ => gD 2 i rfl) (fun i _ => gD 3 i rfl) (fun i _ => gD 4 i rfl) (by rw [gD 0 3 rfl]; exact Int.le_refl _) rfl⟩)
theorem rl_person {a1 : Int} : lwSim RelL 108 8 [aI a1] := fun M D h => lw_mk (c1_person (RelP_i h) (RelP_b h)) (c2_person (RelP_i h)) (by decide) (by decide) (fun _ _ _ _ k1 k2 => ⟨k1.1.trans k2.1.symm, by
  rw [k1.2, k2.2]
  have gD : fr (wr [1] [(0, 1)]) D (g_person D a1).2 := by
    unfold g_person; dsimp only; cases (f_person (D 0 1) a1).2
    · exact fr_rf
    · exact fr_up (fr_up fr_rf rfl) rfl
  have gM : fr (wr [2] [(1, 4)]) M (g1_person D M a1) := by
    unfold g1_person; cases (f_person (D 0 1) a1).2
    · exact fr_rf
    · exact fr_up (fr_up fr_rf rfl) rfl
  exact Rel_u h (g_person_Inv (RelP_i h)) (g_person_B1 (RelP_b h)) gD gM (fun i _ => gD 2 i rfl) (fun i _ => gD 3 i rfl) (fun i _ => gD 4 i rfl) (by rw [gD 0 3 rfl]; exact Int.le_refl _) rfl⟩)
theorem rl_living {a1 a2 a3 : Int} : lwSim RelL 109 9 [aI a1, aI a2, aI a3] := fun M D h => lw_mk (c1_living (RelP_i h) (RelP_b h)) (c2_living (RelP_i h)) (by decide) (by decide) (fun _ _ _ _ k1 k2 => ⟨k1.1.trans k2.1.symm, by
  rw [k1.2, k2.2]
  have gD : fr (wr [2, 3, 4] [(0, 3)]) D (g_living D a1 a2 a3).2 := by
    unfold g_living; dsimp only; cases (f_living (D 0 3) a1 a2 a3).2
    · exact fr_rf
    · exact fr_up (fr_up (fr_up (fr_up fr_rf rfl) rfl) rfl) rfl
  have gM : fr (wr [3, 4, 5] [(1, 5)]) M (g1_living D M a1 a2 a3) := by
    unfold g1_living; cases (f_living (D 0 3) a1 a2 a3).2
    · exact fr_rf
    · exact fr_up (fr_up (fr_up (fr_up fr_rf rfl) rfl) rfl) rfl
  refine Rel_u h (g_living_Inv (RelP_i h)) (g_living_B1 (RelP_b h)) gD gM ?_ ?_ ?_ ?_ rfl
  all_goals (unfold g_living; dsimp only; cases (f_living (D 0 3) a1 a2 a3).2)
  · exact fun _ _ => rfl
  · exact fun i hi => by
      dsimp only [cond]
      rw [x_uc (by decide), x_uc (by decide), x_uc (by decide), x_uf (by omega)]
  · exact fun _ _ => rfl
  · exact fun i hi => by
      dsimp only [cond]
      rw [x_uc (by decide), x_uc (by decide), x_uf (by omega), x_uc (by decide)]
  · exact fun _ _ => rfl
  · exact fun i hi => by
      dsimp only [cond]
      rw [x_uc (by decide), x_uf (by omega), x_uc (by decide), x_uc (by decide)]
  · exact Int.le_refl _
  · dsimp only [cond]
    rw [x_us]
    omega⟩)
theorem rl_set {a1 a2 a3 : Int} : lwSim RelL 110 11 [aI a1, aI a2, aI a3] := fun M D h => lw_mk (c1_set (RelP_i h) (RelP_b h)) (c2_set (RelP_i h)) (by decide) (by decide) (fun _ _ _ _ k1 k2 => ⟨k1.1.trans k2.1.symm, by
  rw [k1.2, k2.2]
  have gD : fr (wr [1, 4] []) D (f_set D a1 a2 a3).2 := by
    unfold f_set
    (repeat' split) <;> first | exact fr_rf | exact fr_up fr_rf rfl
  have gM : fr (wr [2, 5] [(37, 11)]) M (f1_set D M a1 a2 a3) := by
    unfold f1_set
    (repeat' split) <;> first | exact fr_rf | exact fr_up (fr_up fr_rf rfl) rfl | exact fr_up fr_rf rfl
  have hI := f_set_Inv (w := a1) (i := a2) (v := a3) (RelP_i h)
  have hB := f_set_B1 (w := a1) (i := a2) (v := a3) (RelP_b h)
  have hS : StoC (f_set D a1 a2 a3).2 (f1_set D M a1 a2 a3) := by
    by_cases q : (a1 = 0 ∧ 0 ≤ a2 ∧ a2 < D 0 3) ∧ 0 ≤ a3 ∧ a3 ≤ 999
    · refine Or.inl ?_
      unfold f1_set
      rw [if_pos q]
      exact x_us
    · have gD2 : fr (wr [1] []) D (f_set D a1 a2 a3).2 := by
        unfold f_set
        (repeat' split) <;> first | exact fr_rf | exact fr_up fr_rf rfl | (exfalso; omega)
      have gM2 : fr (wr [2] []) M (f1_set D M a1 a2 a3) := by
        unfold f1_set
        rw [if_neg q]
        split
        · exact fr_up fr_rf rfl
        · exact fr_rf
      exact StoC_cg (RelP_i h) (eqS_u gD2 (fun i _ => gD2 2 i rfl) (fun i _ => gD2 3 i rfl) (fun i _ => gD2 4 i rfl) rfl) (RelP_s h) gM2 rfl
  exact ⟨hI, hB, hS, InvV_u (RelP_v h) gD rfl, XC_u (RelP_x h) gD gM rfl rfl, by rw [gD 0 37 rfl]; exact RelP_p h, PairC_u (RelP_m h) gD gM (by rw [gD 0 3 rfl]; exact Int.le_refl _) rfl rfl, LivC_u (RelP_l h) gD gM rfl rfl, PlanC_u (RelP_i h) (RelP_n h) (fun i _ => gD 2 i rfl) (fun i _ => gD 3 i rfl) (by rw [gD 0 3 rfl]; exact Int.le_refl _) gM rfl⟩⟩)
-- told: papers
theorem f_paper_V {D : AM} {k t l p q v : Int} (hV : InvV D) : InvV (f_paper D k t l p q v).2 := by
  unfold f_paper
  by_cases hk : 0 ≤ k ∧ k ≤ 12
  · by_cases hU : ppU D k l p q v
    · rw [if_neg (by omega), if_pos hU]; exact hV
    · by_cases hO : ppO D k t p q v
      · rw [if_neg (by omega), if_neg hU, if_pos hO]; exact hV
      · by_cases hf : D 0 7 = 150
        · rw [if_neg (by omega), if_neg hU, if_neg hO, if_pos hf]; exact hV
        · rw [if_neg (by omega), if_neg hU, if_neg hO, if_neg hf]
          intro i h0 h1 h5
          unfold padd at h1 h5 ⊢
          dsimp only at h1 h5 ⊢
          simp (decide := true) only [x_uc, x_us, x_uf, x_uk, x_uu] at h1 h5 ⊢
          by_cases e : i = D 0 7
          · subst e
            rw [up1_s] at h5 ⊢
            rw [if_pos (Or.inl h5)]
            have : ¬ (k = 11 ∧ ¬ (0 ≤ v ∧ v ≤ 9999)) := fun x => hO (Or.inr (Or.inl x))
            omega
          · rw [up1_n e] at h5 ⊢
            exact hV i h0 (by omega) h5
  · rw [if_pos hk]; exact hV
theorem f_paper_neg {D : AM} {k t l p q v : Int} (hI : Inv D) (h : (f_paper D k t l p q v).1 < 0) : (f_paper D k t l p q v).2 = D := by
  have hn := Inv_pn hI
  unfold f_paper at h ⊢
  by_cases h1 : ¬ (0 ≤ k ∧ k ≤ 12)
  · rw [if_pos h1]
  · rw [if_neg h1] at h ⊢
    by_cases h2 : ppU D k l p q v
    · rw [if_pos h2]
    · rw [if_neg h2] at h ⊢
      by_cases h3 : ppO D k t p q v
      · rw [if_pos h3]
      · rw [if_neg h3] at h ⊢
        by_cases h4 : D 0 7 = 150
        · rw [if_pos h4]
        · rw [if_neg h4] at h
          dsimp only at h
          omega
theorem rl_paper {a1 a2 a3 a4 a5 a6 : Int} : lwSim RelL 111 16 [aI a1, aI a2, aI a3, aI a4, aI a5, aI a6] := fun M D h => lw_mk (c1_paper (RelP_i h) (RelP_b h)) (c2_paper (RelP_i h)) (by decide) (by decide) (fun _ M' _ _ k1 k2 => ⟨k1.1.trans k2.1.symm, by
  rw [k2.2]
  obtain ⟨-, gM, hB, k⟩ := k1
  have gD : fr wdP D (f_paper D a1 a2 a3 a4 a5 a6).2 := f_paper_fr
  rcases k with ⟨e1, e2⟩ | k
  · rw [f_paper_neg (RelP_i h) e2, e1]
    exact h
  · exact ⟨f_paper_Inv (RelP_i h), hB, Or.inl k, f_paper_V (RelP_v h), XC_u (RelP_x h) gD gM rfl rfl, by rw [gD 0 37 rfl]; exact RelP_p h, PairC_u (RelP_m h) gD gM (by rw [gD 0 3 rfl]; exact Int.le_refl _) rfl rfl, LivC_u (RelP_l h) gD gM rfl rfl, PlanC_u (RelP_i h) (RelP_n h) (fun i _ => gD 2 i rfl) (fun i _ => gD 3 i rfl) (by rw [gD 0 3 rfl]; exact Int.le_refl _) gM rfl⟩⟩)
-- told: canons
theorem rl_canon {a1 : Int} : lwSim RelL 117 44 [aI a1] := fun M D h => lw_mk (c1_canon (RelP_i h) (RelP_b h)) (c2_canon (RelP_i h) (RelP_p h)) (by decide) (by decide) (fun _ M' _ D' k1 k2 => ⟨k1.1.trans k2.1.symm, by
  obtain ⟨-, k1⟩ := k1
  obtain ⟨-, k2⟩ := k2
  obtain ⟨r1, r2, r3, r4, r5⟩ := canon_rel (RelP_i h) (RelP_b h) (RelP_x h) (RelP_s h) k1 k2 (RelP_p h)
  have gM : fr wmC M M' := by
    rcases k1 with ⟨-, e⟩ | k1
    · rw [e]; exact fr_rf
    · exact k1.2.1
  have gD : fr wdC D D' := by
    rcases k2 with ⟨-, e⟩ | k2
    · rw [e]; exact fr_rf
    · exact k2.2.1
  exact ⟨r1, r2, r4, InvV_u (RelP_v h) gD rfl, r3, r5, PairC_u (RelP_m h) gD gM (by rw [gD 0 3 rfl]; exact Int.le_refl _) rfl rfl, LivC_u (RelP_l h) gD gM rfl rfl, PlanC_u (RelP_i h) (RelP_n h) (fun i _ => gD 2 i rfl) (fun i _ => gD 3 i rfl) (by rw [gD 0 3 rfl]; exact Int.le_refl _) gM rfl⟩⟩)
-- told: terriers, pieces
theorem rl_field {a1 a2 a3 a4 a5 : Int} : lwSim RelL 134 90 [aI a1, aI a2, aI a3, aI a4, aI a5] := fun M D h => lw_mk (c1_field (RelP_i h) (RelP_b h)) (c2_field (RelP_i h)) (by decide) (by decide) (fun _ M' _ D' k1 k2 => ⟨k1.1.trans k2.1.symm, by
  rw [k1.2, k2.2]
  have gD : fr wdF D (f_field D a1 a2 a3 a4 a5).2 := f_field_fr
  have gM : fr wmF M (f1_field D M a1 a2 a3 a4 a5) := f1_field_fr
  have hP : PairC (f_field D a1 a2 a3 a4 a5).2 (f1_field D M a1 a2 a3 a4 a5) := by
    by_cases q : (0 ≤ a1 ∧ a1 < D 0 3) ∧ ((0 ≤ a2 ∧ a2 ≤ 1) ∧ (0 ≤ a3 ∧ a3 ≤ 99) ∧ (1 ≤ a4 ∧ a4 ≤ 999) ∧ 0 ≤ a5 ∧ a5 ≤ 99) ∧ D 47 (2 * a1 + a2) ≠ 8
    · refine Or.inl ?_
      unfold f1_field
      rw [if_pos q]
      exact x_us
    · have e1 : f1_field D M a1 a2 a3 a4 a5 = M := by unfold f1_field; rw [if_neg q]
      have e2 : (f_field D a1 a2 a3 a4 a5).2 = D := by
        unfold f_field
        (repeat' split) <;> first | rfl | (exfalso; omega)
      rw [e1, e2]
      exact RelP_m h
  exact ⟨f_field_Inv (RelP_i h), f_field_B1 (RelP_b h), StoC_cg (RelP_i h) (eqS_u gD (fun i _ => gD 2 i rfl) (fun i _ => gD 3 i rfl) (fun i _ => gD 4 i rfl) rfl) (RelP_s h) gM rfl, InvV_u (RelP_v h) gD rfl, XC_u (RelP_x h) gD gM rfl rfl, by rw [gD 0 37 rfl]; exact RelP_p h, hP, LivC_u (RelP_l h) gD gM rfl rfl, PlanC_u (RelP_i h) (RelP_n h) (fun i _ => gD 2 i rfl) (fun i _ => gD 3 i rfl) (by rw [gD 0 3 rfl]; exact Int.le_refl _) gM rfl⟩⟩)
theorem rl_piece {a1 a2 a3 a4 a5 : Int} : lwSim RelL 136 95 [aI a1, aI a2, aI a3, aI a4, aI a5] := fun M D h => lw_mk (c1_piece (RelP_i h) (RelP_b h)) (c2_piece (RelP_i h)) (by decide) (by decide) (fun _ M' _ D' k1 k2 => ⟨k1.1.trans k2.1.symm, by
  rw [k1.2, k2.2]
  have gD : fr wdE D (f_piece D a1 a2 a3 a4 a5).2 := f_piece_fr
  have gM : fr wmE M (f1_piece D M a1 a2 a3 a4 a5) := f1_piece_fr
  have hP : LivC (f_piece D a1 a2 a3 a4 a5).2 (f1_piece D M a1 a2 a3 a4 a5) := by
    by_cases q : ((0 ≤ a1 ∧ a1 ≤ 99) ∧ (-50 ≤ a2 ∧ a2 ≤ 50) ∧ (-50 ≤ a3 ∧ a3 ≤ 50) ∧ (0 ≤ a4 ∧ a4 ≤ 30000) ∧ a4 ≤ a5 ∧ a5 ≤ 30000) ∧ D 0 78 ≠ 16
    · refine Or.inl ?_
      unfold f1_piece
      rw [if_pos q, x_uf (by decide)]
      exact x_us
    · have e1 : f1_piece D M a1 a2 a3 a4 a5 = M := by unfold f1_piece; rw [if_neg q]
      have e2 : (f_piece D a1 a2 a3 a4 a5).2 = D := by
        unfold f_piece
        (repeat' split) <;> first | rfl | (exfalso; omega)
      rw [e1, e2]
      exact RelP_l h
  exact ⟨f_piece_Inv (RelP_i h), f_piece_B1 (RelP_b h), StoC_cg (RelP_i h) (eqS_u gD (fun i _ => gD 2 i rfl) (fun i _ => gD 3 i rfl) (fun i _ => gD 4 i rfl) rfl) (RelP_s h) gM rfl, InvV_u (RelP_v h) gD rfl, XC_u (RelP_x h) gD gM rfl rfl, by rw [gD 0 37 rfl]; exact RelP_p h, PairC_u (RelP_m h) gD gM (by rw [gD 0 3 rfl]; exact Int.le_refl _) rfl rfl, hP, PlanC_u (RelP_i h) (RelP_n h) (fun i _ => gD 2 i rfl) (fun i _ => gD 3 i rfl) (by rw [gD 0 3 rfl]; exact Int.le_refl _) gM rfl⟩⟩)
theorem rl_all : lwSims RelL := ⟨fun _ r1 => rl_go r1, fun _ _ => rl_person, fun _ _ _ _ _ _ => rl_living, fun _ _ _ _ _ _ => rl_set, fun _ _ _ _ _ _ _ _ _ _ _ _ => rl_paper, fun _ _ _ _ => rl_told, fun _ _ _ _ => rl_book, fun _ _ _ _ _ _ => rl_about, fun _ _ => rl_count, fun _ _ r1 _ => rl_feed r1, fun _ _ => rl_canon, rl_fault, fun _ _ _ _ _ _ => rl_force, fun _ _ _ _ => rl_counts, fun _ _ _ _ _ _ _ _ => rl_barred, fun _ _ _ _ _ _ _ _ => rl_seat, fun _ _ _ _ => rl_good, fun _ _ _ _ => rl_why, fun _ _ _ _ _ _ _ _ => rl_change, fun _ _ _ _ _ _ r2 r3 _ _ => rl_days r2 r3, fun _ _ _ _ _ _ => rl_news, fun _ _ _ _ _ _ => rl_present, fun _ _ _ _ => rl_step, fun _ _ _ _ => rl_appeal, fun _ _ _ _ _ _ => rl_suit, fun _ _ _ _ _ _ _ _ => rl_decay, fun _ _ _ _ _ _ _ _ _ _ => rl_field, fun _ _ _ _ => rl_match, fun _ _ _ _ _ _ _ _ _ _ => rl_piece, fun _ _ _ _ => rl_one, fun _ _ => rl_lives, fun _ _ _ r1 _ r3 => rl_plan r1 r3⟩
