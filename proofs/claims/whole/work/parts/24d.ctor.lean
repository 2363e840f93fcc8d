/-! the class DioceseBook of Canons: what it makes -/
def ctW_Canons (cA : Nat → ClassId) (u : Nat → Nat) : va_W := [(u 0, .inr (0, [.int 0, .ref (u 1), .ref (u 2), .ref (u 3), .ref (u 4), .ref (u 5), .ref (u 6), .ref (u 7), .ref (u 8), .int 0, .int (-1), .int 0, .ref (u 9), .ref (u 10)])), (u 1, .inl (cA 0, 10, .inl (fun _ => 0))), (u 2, .inl (cA 0, 10, .inl (fun _ => 0))), (u 3, .inl (cA 0, 10, .inl (fun _ => 0))), (u 4, .inl (cA 0, 120, .inl (fun _ => 0))), (u 5, .inl (cA 0, 120, .inl (fun _ => 0))), (u 6, .inl (cA 0, 120, .inl (fun _ => 0))), (u 7, .inl (cA 0, 120, .inl (fun _ => 0))), (u 8, .inl (cA 0, 2000, .inl (fun _ => 0))), (u 9, .inl (cA 0, 8, .inl (fun _ => 0))), (u 10, .inl (cA 0, 8, .inl (fun _ => 0)))]
abbrev ctB_Canons : ByteArray := prog_2_method_1_code
def ctY_Canons : MethodName := ⟨"DioceseBook$Canons", "<init>", "()V"⟩
def ctE_Canons (h0 : Nat) : va_W := [(h0, .inr (0, [.int 0, .null, .null, .null, .null, .null, .null, .null, .null, .int 0, .int 0, .int 0, .null, .null]))]
theorem ctD_Canons_0 : decode ctB_Canons 0 = .ok (.aload_n 0, 1) := by decide +kernel
theorem ctD_Canons_1 : decode ctB_Canons 1 = .ok (.invokespecial 3, 3) := by decide +kernel
theorem ctD_Canons_4 : decode ctB_Canons 4 = .ok (.aload_n 0, 1) := by decide +kernel
theorem ctD_Canons_5 : decode ctB_Canons 5 = .ok (.bipush 10, 2) := by decide +kernel
theorem ctD_Canons_7 : decode ctB_Canons 7 = .ok (.newarray .int, 2) := by decide +kernel
theorem ctD_Canons_9 : decode ctB_Canons 9 = .ok (.putfield 11, 3) := by decide +kernel
theorem ctD_Canons_12 : decode ctB_Canons 12 = .ok (.aload_n 0, 1) := by decide +kernel
theorem ctD_Canons_13 : decode ctB_Canons 13 = .ok (.bipush 10, 2) := by decide +kernel
theorem ctD_Canons_15 : decode ctB_Canons 15 = .ok (.newarray .int, 2) := by decide +kernel
theorem ctD_Canons_17 : decode ctB_Canons 17 = .ok (.putfield 15, 3) := by decide +kernel
theorem ctD_Canons_20 : decode ctB_Canons 20 = .ok (.aload_n 0, 1) := by decide +kernel
theorem ctD_Canons_21 : decode ctB_Canons 21 = .ok (.bipush 10, 2) := by decide +kernel
theorem ctD_Canons_23 : decode ctB_Canons 23 = .ok (.newarray .int, 2) := by decide +kernel
theorem ctD_Canons_25 : decode ctB_Canons 25 = .ok (.putfield 18, 3) := by decide +kernel
theorem ctD_Canons_28 : decode ctB_Canons 28 = .ok (.aload_n 0, 1) := by decide +kernel
theorem ctD_Canons_29 : decode ctB_Canons 29 = .ok (.bipush 120, 2) := by decide +kernel
theorem ctD_Canons_31 : decode ctB_Canons 31 = .ok (.newarray .int, 2) := by decide +kernel
theorem ctD_Canons_33 : decode ctB_Canons 33 = .ok (.putfield 21, 3) := by decide +kernel
theorem ctD_Canons_36 : decode ctB_Canons 36 = .ok (.aload_n 0, 1) := by decide +kernel
theorem ctD_Canons_37 : decode ctB_Canons 37 = .ok (.bipush 120, 2) := by decide +kernel
theorem ctD_Canons_39 : decode ctB_Canons 39 = .ok (.newarray .int, 2) := by decide +kernel
theorem ctD_Canons_41 : decode ctB_Canons 41 = .ok (.putfield 24, 3) := by decide +kernel
theorem ctD_Canons_44 : decode ctB_Canons 44 = .ok (.aload_n 0, 1) := by decide +kernel
theorem ctD_Canons_45 : decode ctB_Canons 45 = .ok (.bipush 120, 2) := by decide +kernel
theorem ctD_Canons_47 : decode ctB_Canons 47 = .ok (.newarray .int, 2) := by decide +kernel
theorem ctD_Canons_49 : decode ctB_Canons 49 = .ok (.putfield 27, 3) := by decide +kernel
theorem ctD_Canons_52 : decode ctB_Canons 52 = .ok (.aload_n 0, 1) := by decide +kernel
theorem ctD_Canons_53 : decode ctB_Canons 53 = .ok (.bipush 120, 2) := by decide +kernel
theorem ctD_Canons_55 : decode ctB_Canons 55 = .ok (.newarray .int, 2) := by decide +kernel
theorem ctD_Canons_57 : decode ctB_Canons 57 = .ok (.putfield 30, 3) := by decide +kernel
theorem ctD_Canons_60 : decode ctB_Canons 60 = .ok (.aload_n 0, 1) := by decide +kernel
theorem ctD_Canons_61 : decode ctB_Canons 61 = .ok (.sipush 2000, 3) := by decide +kernel
theorem ctD_Canons_64 : decode ctB_Canons 64 = .ok (.newarray .int, 2) := by decide +kernel
theorem ctD_Canons_66 : decode ctB_Canons 66 = .ok (.putfield 33, 3) := by decide +kernel
theorem ctD_Canons_69 : decode ctB_Canons 69 = .ok (.aload_n 0, 1) := by decide +kernel
theorem ctD_Canons_70 : decode ctB_Canons 70 = .ok (.iconst (-1), 1) := by decide +kernel
theorem ctD_Canons_71 : decode ctB_Canons 71 = .ok (.putfield 36, 3) := by decide +kernel
theorem ctD_Canons_74 : decode ctB_Canons 74 = .ok (.aload_n 0, 1) := by decide +kernel
theorem ctD_Canons_75 : decode ctB_Canons 75 = .ok (.bipush 8, 2) := by decide +kernel
theorem ctD_Canons_77 : decode ctB_Canons 77 = .ok (.newarray .int, 2) := by decide +kernel
theorem ctD_Canons_79 : decode ctB_Canons 79 = .ok (.putfield 40, 3) := by decide +kernel
theorem ctD_Canons_82 : decode ctB_Canons 82 = .ok (.aload_n 0, 1) := by decide +kernel
theorem ctD_Canons_83 : decode ctB_Canons 83 = .ok (.bipush 8, 2) := by decide +kernel
theorem ctD_Canons_85 : decode ctB_Canons 85 = .ok (.newarray .int, 2) := by decide +kernel
theorem ctD_Canons_87 : decode ctB_Canons 87 = .ok (.putfield 43, 3) := by decide +kernel
theorem ctD_Canons_90 : decode ctB_Canons 90 = .ok (.return_, 1) := by decide +kernel
theorem ctC_Canons : Cond.code ctY_Canons ctB_Canons 1 none ∈ aAW := ck_w_ok (i := 260) (by decide +kernel)
theorem ctI_Canons : Cond.instanceMethod ctY_Canons ∈ aAW := ck_w_ok (i := 259) (by decide +kernel)
def ctR_Canons : Room := { frames := 1, cells := 10, slots := 2526, locals := 12 }
def ctU_Canons (h0 : Nat) (q7 : Nat) (q15 : Nat) (q23 : Nat) (q31 : Nat) (q39 : Nat) (q47 : Nat) (q55 : Nat) (q64 : Nat) (q77 : Nat) (q85 : Nat) : Nat → Nat := fun k => (cond (Nat.blt k 5) (cond (Nat.blt k 2) (cond (Nat.blt k 1) h0 q7) (cond (Nat.blt k 3) q15 (cond (Nat.blt k 4) q23 q31))) (cond (Nat.blt k 8) (cond (Nat.blt k 6) q39 (cond (Nat.blt k 7) q47 q55)) (cond (Nat.blt k 9) q64 (cond (Nat.blt k 10) q77 q85))))
set_option maxHeartbeats 8000000 in
set_option maxRecDepth 100000 in
theorem ct_Canons (l : Launch) (D : va_G) (cA : Nat → ClassId) (h0 sz : Nat) : Met l ctY_Canons (Cond.code ctY_Canons ctB_Canons 1 none :: aAW) ctR_Canons (va_Pc [.ref h0] (fun U => U.heap.size = sz ∧ va_P D wCl (ctE_Canons h0) U.heap ∧ va_K D wCl (aTys cA) U ∧ va_D (fun _ => True) (ctE_Canons h0) ∧ ct_N U)) (va_Qv (fun u : Nat → Nat => u 0 = h0) (fun u t => va_P D wCl (ctW_Canons cA  u) t.heap ∧ va_D (va_A (ctE_Canons h0) sz) (ctW_Canons cA  u)) (va_A (ctE_Canons h0) sz)) 10 2526 (va_A (ctE_Canons h0) sz) := by
  refine Met.ofW (cc := ctB_Canons) (maxL := 1) (ret := none) (by decide) rfl ?_
  intro p e s m args below meth c s₁ B hml hv
  obtain ⟨rfl, hsz, hP, hK, hD0, hN⟩ := hv
  have hx := B.exec
  have hb := B.bytes
  have hr := B.returns
  have hts0 := atoms_spec (ws := Cond.code ctY_Canons ctB_Canons 1 none :: aAW) B.pre
  have hts : ∀ w ∈ aAW, w.before _ s = true := fun w hw => hts0 w (List.mem_cons_of_mem _ hw)
  have hown : s.vm.findClass "DioceseBook$Canons" = some m.cls := findClass_of_methodNamed B.named
  have hlocks := B.notSynchronized
  have hin : meth.name = "<init>" := (name_of_methodNamed B.named B.method).1
  subst hsz
  have hD := hD0.self (sz := s.heap.size)
  generalize hAe : va_A (ctE_Canons h0) s.heap.size = A at hD ⊢
  have hA : ∀ q : Nat, s.heap.size ≤ q → A q := fun q h => by rw [← hAe]; exact Or.inr h
  have hS : va_S A s.heap s.heap [] := va_S.rf
  have hl := lv_entry ([.ref h0]) (n := 1) (Nat.le_of_ble_eq_true rfl)
  rw [lg_entry_eq]
  generalize (lg_sl ([.ref h0]) ++ List.replicate (1 - (lg_sl ([.ref h0])).length) Slot.unset).toArray = ls at hl ⊢
  have hl : lv_has ls 1 [(0, .ref h0)] := hl
  obtain ⟨Z0, hZ0⟩ : ∃ z : va_W, z = [] := ⟨_, rfl⟩
  have hP : va_P D wCl ((h0, .inr (0, [.int 0, .null, .null, .null, .null, .null, .null, .null, .null, .int 0, .int 0, .int 0, .null, .null])) :: Z0) s.heap := by rw [hZ0]; exact hP
  have hD : va_D A ((h0, .inr (0, [.int 0, .null, .null, .null, .null, .null, .null, .null, .null, .int 0, .int 0, .int 0, .null, .null])) :: Z0) := by rw [hZ0]; exact hD
  refine lv_aload_n hx hb ctD_Canons_0 rfl (lv_at hl 0 rfl) ?_
  refine W.objInit hx hb hown (hts _ (ck_w_ok (i := 261) (by decide +kernel) : Cond.methodLink "DioceseBook$Canons" 3 Lib.objectInit ∈ aAW)) (hts _ ct_oI) (hts _ ct_oC) rfl (by rw [hml]; exact hl.1) rfl ctD_Canons_1 (Nat.le_of_ble_eq_true rfl) (Nat.le_of_ble_eq_true rfl) ?_
  refine W.eq (g2 := F0 m 4 ls []) rfl ?_
  refine lv_aload_n hx hb ctD_Canons_4 rfl (lv_at hl 0 rfl) ?_
  refine lv_bipush (v := 10) hx hb ctD_Canons_5 (by decide) ?_
  refine a_newa (atype := .int) (ty := .int) (c0 := cA 0) 0 hx hb (hts _ ct_a0) rfl (fun n h => by cases h) hK rfl hP hD hS hA (N' := 10) (a0 := (10, .inl (fun _ => 0))) (fun _ => rfl) (by decide) (by decide) (by decide) (Nat.le_of_ble_eq_true rfl) (Nat.le_of_ble_eq_true rfl) ctD_Canons_7 (fun q7 H hP hD hS => ?_)
  obtain ⟨Z1, hZ1⟩ : ∃ z : va_W, z = Z0 ++ [(q7, .inl (cA 0, 10, .inl (fun _ => 0)))] := ⟨_, rfl⟩
  have hP : va_P D wCl ((h0, .inr (0, [.int 0, .null, .null, .null, .null, .null, .null, .null, .null, .int 0, .int 0, .int 0, .null, .null])) :: Z1) H := by rw [hZ1]; exact hP
  have hD : va_D A ((h0, .inr (0, [.int 0, .null, .null, .null, .null, .null, .null, .null, .null, .int 0, .int 0, .int 0, .null, .null])) :: Z1) := by rw [hZ1]; exact hD
  refine W.widen (k := 1) (n := 10) (by omega) (by omega) ?_
  refine va_putF (D := D) (ci := 0) (v := .ref q7) (ty := .array .int) (C := "DioceseBook$Canons") (T := TX0) (N := 14) hx hb hts gk_cl0.2.1 tyX0 tyX0_ok nmX0 hown hK hP hD hS 0 rfl rfl 1 (by decide) (hts _ (ck_w_ok (i := 265) (by decide +kernel) : Cond.fieldLink "DioceseBook$Canons" 11 "DioceseBook$Canons" "clauses" "[I" ∈ aAW)) (fun _ h9 => h9) rfl hin rfl (by decide +kernel) rfl rfl (Nat.le_of_ble_eq_true rfl) ctD_Canons_9 (fun H locs hP hD hS => ?_)
  have hP : va_P D wCl ((h0, .inr (0, [.int 0, .ref q7, .null, .null, .null, .null, .null, .null, .null, .int 0, .int 0, .int 0, .null, .null])) :: Z1) H := hP
  have hD : va_D A ((h0, .inr (0, [.int 0, .ref q7, .null, .null, .null, .null, .null, .null, .null, .int 0, .int 0, .int 0, .null, .null])) :: Z1) := hD
  refine lv_aload_n hx hb ctD_Canons_12 rfl (lv_at hl 0 rfl) ?_
  refine lv_bipush (v := 10) hx hb ctD_Canons_13 (by decide) ?_
  refine a_newa (atype := .int) (ty := .int) (c0 := cA 0) 0 hx hb (hts _ ct_a0) rfl (fun n h => by cases h) hK rfl hP hD hS hA (N' := 10) (a0 := (10, .inl (fun _ => 0))) (fun _ => rfl) (by decide) (by decide) (by decide) (Nat.le_of_ble_eq_true rfl) (Nat.le_of_ble_eq_true rfl) ctD_Canons_15 (fun q15 H hP hD hS => ?_)
  obtain ⟨Z2, hZ2⟩ : ∃ z : va_W, z = Z1 ++ [(q15, .inl (cA 0, 10, .inl (fun _ => 0)))] := ⟨_, rfl⟩
  have hP : va_P D wCl ((h0, .inr (0, [.int 0, .ref q7, .null, .null, .null, .null, .null, .null, .null, .int 0, .int 0, .int 0, .null, .null])) :: Z2) H := by rw [hZ2]; exact hP
  have hD : va_D A ((h0, .inr (0, [.int 0, .ref q7, .null, .null, .null, .null, .null, .null, .null, .int 0, .int 0, .int 0, .null, .null])) :: Z2) := by rw [hZ2]; exact hD
  refine W.widen (k := 2) (n := 20) (by omega) (by omega) ?_
  refine va_putF (D := D) (ci := 0) (v := .ref q15) (ty := .array .int) (C := "DioceseBook$Canons") (T := TX0) (N := 14) hx hb hts gk_cl0.2.1 tyX0 tyX0_ok nmX0 hown hK hP hD hS 0 rfl rfl 2 (by decide) (hts _ (ck_w_ok (i := 267) (by decide +kernel) : Cond.fieldLink "DioceseBook$Canons" 15 "DioceseBook$Canons" "from" "[I" ∈ aAW)) (fun _ h9 => h9) rfl hin rfl (by decide +kernel) rfl rfl (Nat.le_of_ble_eq_true rfl) ctD_Canons_17 (fun H locs hP hD hS => ?_)
  have hP : va_P D wCl ((h0, .inr (0, [.int 0, .ref q7, .ref q15, .null, .null, .null, .null, .null, .null, .int 0, .int 0, .int 0, .null, .null])) :: Z2) H := hP
  have hD : va_D A ((h0, .inr (0, [.int 0, .ref q7, .ref q15, .null, .null, .null, .null, .null, .null, .int 0, .int 0, .int 0, .null, .null])) :: Z2) := hD
  refine lv_aload_n hx hb ctD_Canons_20 rfl (lv_at hl 0 rfl) ?_
  refine lv_bipush (v := 10) hx hb ctD_Canons_21 (by decide) ?_
  refine a_newa (atype := .int) (ty := .int) (c0 := cA 0) 0 hx hb (hts _ ct_a0) rfl (fun n h => by cases h) hK rfl hP hD hS hA (N' := 10) (a0 := (10, .inl (fun _ => 0))) (fun _ => rfl) (by decide) (by decide) (by decide) (Nat.le_of_ble_eq_true rfl) (Nat.le_of_ble_eq_true rfl) ctD_Canons_23 (fun q23 H hP hD hS => ?_)
  obtain ⟨Z3, hZ3⟩ : ∃ z : va_W, z = Z2 ++ [(q23, .inl (cA 0, 10, .inl (fun _ => 0)))] := ⟨_, rfl⟩
  have hP : va_P D wCl ((h0, .inr (0, [.int 0, .ref q7, .ref q15, .null, .null, .null, .null, .null, .null, .int 0, .int 0, .int 0, .null, .null])) :: Z3) H := by rw [hZ3]; exact hP
  have hD : va_D A ((h0, .inr (0, [.int 0, .ref q7, .ref q15, .null, .null, .null, .null, .null, .null, .int 0, .int 0, .int 0, .null, .null])) :: Z3) := by rw [hZ3]; exact hD
  refine W.widen (k := 3) (n := 30) (by omega) (by omega) ?_
  refine va_putF (D := D) (ci := 0) (v := .ref q23) (ty := .array .int) (C := "DioceseBook$Canons") (T := TX0) (N := 14) hx hb hts gk_cl0.2.1 tyX0 tyX0_ok nmX0 hown hK hP hD hS 0 rfl rfl 3 (by decide) (hts _ (ck_w_ok (i := 268) (by decide +kernel) : Cond.fieldLink "DioceseBook$Canons" 18 "DioceseBook$Canons" "byDay" "[I" ∈ aAW)) (fun _ h9 => h9) rfl hin rfl (by decide +kernel) rfl rfl (Nat.le_of_ble_eq_true rfl) ctD_Canons_25 (fun H locs hP hD hS => ?_)
  have hP : va_P D wCl ((h0, .inr (0, [.int 0, .ref q7, .ref q15, .ref q23, .null, .null, .null, .null, .null, .int 0, .int 0, .int 0, .null, .null])) :: Z3) H := hP
  have hD : va_D A ((h0, .inr (0, [.int 0, .ref q7, .ref q15, .ref q23, .null, .null, .null, .null, .null, .int 0, .int 0, .int 0, .null, .null])) :: Z3) := hD
  refine lv_aload_n hx hb ctD_Canons_28 rfl (lv_at hl 0 rfl) ?_
  refine lv_bipush (v := 120) hx hb ctD_Canons_29 (by decide) ?_
  refine a_newa (atype := .int) (ty := .int) (c0 := cA 0) 0 hx hb (hts _ ct_a0) rfl (fun n h => by cases h) hK rfl hP hD hS hA (N' := 120) (a0 := (120, .inl (fun _ => 0))) (fun _ => rfl) (by decide) (by decide) (by decide) (Nat.le_of_ble_eq_true rfl) (Nat.le_of_ble_eq_true rfl) ctD_Canons_31 (fun q31 H hP hD hS => ?_)
  obtain ⟨Z4, hZ4⟩ : ∃ z : va_W, z = Z3 ++ [(q31, .inl (cA 0, 120, .inl (fun _ => 0)))] := ⟨_, rfl⟩
  have hP : va_P D wCl ((h0, .inr (0, [.int 0, .ref q7, .ref q15, .ref q23, .null, .null, .null, .null, .null, .int 0, .int 0, .int 0, .null, .null])) :: Z4) H := by rw [hZ4]; exact hP
  have hD : va_D A ((h0, .inr (0, [.int 0, .ref q7, .ref q15, .ref q23, .null, .null, .null, .null, .null, .int 0, .int 0, .int 0, .null, .null])) :: Z4) := by rw [hZ4]; exact hD
  refine W.widen (k := 4) (n := 150) (by omega) (by omega) ?_
  refine va_putF (D := D) (ci := 0) (v := .ref q31) (ty := .array .int) (C := "DioceseBook$Canons") (T := TX0) (N := 14) hx hb hts gk_cl0.2.1 tyX0 tyX0_ok nmX0 hown hK hP hD hS 0 rfl rfl 4 (by decide) (hts _ (ck_w_ok (i := 269) (by decide +kernel) : Cond.fieldLink "DioceseBook$Canons" 21 "DioceseBook$Canons" "kind" "[I" ∈ aAW)) (fun _ h9 => h9) rfl hin rfl (by decide +kernel) rfl rfl (Nat.le_of_ble_eq_true rfl) ctD_Canons_33 (fun H locs hP hD hS => ?_)
  have hP : va_P D wCl ((h0, .inr (0, [.int 0, .ref q7, .ref q15, .ref q23, .ref q31, .null, .null, .null, .null, .int 0, .int 0, .int 0, .null, .null])) :: Z4) H := hP
  have hD : va_D A ((h0, .inr (0, [.int 0, .ref q7, .ref q15, .ref q23, .ref q31, .null, .null, .null, .null, .int 0, .int 0, .int 0, .null, .null])) :: Z4) := hD
  refine lv_aload_n hx hb ctD_Canons_36 rfl (lv_at hl 0 rfl) ?_
  refine lv_bipush (v := 120) hx hb ctD_Canons_37 (by decide) ?_
  refine a_newa (atype := .int) (ty := .int) (c0 := cA 0) 0 hx hb (hts _ ct_a0) rfl (fun n h => by cases h) hK rfl hP hD hS hA (N' := 120) (a0 := (120, .inl (fun _ => 0))) (fun _ => rfl) (by decide) (by decide) (by decide) (Nat.le_of_ble_eq_true rfl) (Nat.le_of_ble_eq_true rfl) ctD_Canons_39 (fun q39 H hP hD hS => ?_)
  obtain ⟨Z5, hZ5⟩ : ∃ z : va_W, z = Z4 ++ [(q39, .inl (cA 0, 120, .inl (fun _ => 0)))] := ⟨_, rfl⟩
  have hP : va_P D wCl ((h0, .inr (0, [.int 0, .ref q7, .ref q15, .ref q23, .ref q31, .null, .null, .null, .null, .int 0, .int 0, .int 0, .null, .null])) :: Z5) H := by rw [hZ5]; exact hP
  have hD : va_D A ((h0, .inr (0, [.int 0, .ref q7, .ref q15, .ref q23, .ref q31, .null, .null, .null, .null, .int 0, .int 0, .int 0, .null, .null])) :: Z5) := by rw [hZ5]; exact hD
  refine W.widen (k := 5) (n := 270) (by omega) (by omega) ?_
  refine va_putF (D := D) (ci := 0) (v := .ref q39) (ty := .array .int) (C := "DioceseBook$Canons") (T := TX0) (N := 14) hx hb hts gk_cl0.2.1 tyX0 tyX0_ok nmX0 hown hK hP hD hS 0 rfl rfl 5 (by decide) (hts _ (ck_w_ok (i := 270) (by decide +kernel) : Cond.fieldLink "DioceseBook$Canons" 24 "DioceseBook$Canons" "subject" "[I" ∈ aAW)) (fun _ h9 => h9) rfl hin rfl (by decide +kernel) rfl rfl (Nat.le_of_ble_eq_true rfl) ctD_Canons_41 (fun H locs hP hD hS => ?_)
  have hP : va_P D wCl ((h0, .inr (0, [.int 0, .ref q7, .ref q15, .ref q23, .ref q31, .ref q39, .null, .null, .null, .int 0, .int 0, .int 0, .null, .null])) :: Z5) H := hP
  have hD : va_D A ((h0, .inr (0, [.int 0, .ref q7, .ref q15, .ref q23, .ref q31, .ref q39, .null, .null, .null, .int 0, .int 0, .int 0, .null, .null])) :: Z5) := hD
  refine lv_aload_n hx hb ctD_Canons_44 rfl (lv_at hl 0 rfl) ?_
  refine lv_bipush (v := 120) hx hb ctD_Canons_45 (by decide) ?_
  refine a_newa (atype := .int) (ty := .int) (c0 := cA 0) 0 hx hb (hts _ ct_a0) rfl (fun n h => by cases h) hK rfl hP hD hS hA (N' := 120) (a0 := (120, .inl (fun _ => 0))) (fun _ => rfl) (by decide) (by decide) (by decide) (Nat.le_of_ble_eq_true rfl) (Nat.le_of_ble_eq_true rfl) ctD_Canons_47 (fun q47 H hP hD hS => ?_)
  obtain ⟨Z6, hZ6⟩ : ∃ z : va_W, z = Z5 ++ [(q47, .inl (cA 0, 120, .inl (fun _ => 0)))] := ⟨_, rfl⟩
  have hP : va_P D wCl ((h0, .inr (0, [.int 0, .ref q7, .ref q15, .ref q23, .ref q31, .ref q39, .null, .null, .null, .int 0, .int 0, .int 0, .null, .null])) :: Z6) H := by rw [hZ6]; exact hP
  have hD : va_D A ((h0, .inr (0, [.int 0, .ref q7, .ref q15, .ref q23, .ref q31, .ref q39, .null, .null, .null, .int 0, .int 0, .int 0, .null, .null])) :: Z6) := by rw [hZ6]; exact hD
  refine W.widen (k := 6) (n := 390) (by omega) (by omega) ?_
  refine va_putF (D := D) (ci := 0) (v := .ref q47) (ty := .array .int) (C := "DioceseBook$Canons") (T := TX0) (N := 14) hx hb hts gk_cl0.2.1 tyX0 tyX0_ok nmX0 hown hK hP hD hS 0 rfl rfl 6 (by decide) (hts _ (ck_w_ok (i := 271) (by decide +kernel) : Cond.fieldLink "DioceseBook$Canons" 27 "DioceseBook$Canons" "middle" "[I" ∈ aAW)) (fun _ h9 => h9) rfl hin rfl (by decide +kernel) rfl rfl (Nat.le_of_ble_eq_true rfl) ctD_Canons_49 (fun H locs hP hD hS => ?_)
  have hP : va_P D wCl ((h0, .inr (0, [.int 0, .ref q7, .ref q15, .ref q23, .ref q31, .ref q39, .ref q47, .null, .null, .int 0, .int 0, .int 0, .null, .null])) :: Z6) H := hP
  have hD : va_D A ((h0, .inr (0, [.int 0, .ref q7, .ref q15, .ref q23, .ref q31, .ref q39, .ref q47, .null, .null, .int 0, .int 0, .int 0, .null, .null])) :: Z6) := hD
  refine lv_aload_n hx hb ctD_Canons_52 rfl (lv_at hl 0 rfl) ?_
  refine lv_bipush (v := 120) hx hb ctD_Canons_53 (by decide) ?_
  refine a_newa (atype := .int) (ty := .int) (c0 := cA 0) 0 hx hb (hts _ ct_a0) rfl (fun n h => by cases h) hK rfl hP hD hS hA (N' := 120) (a0 := (120, .inl (fun _ => 0))) (fun _ => rfl) (by decide) (by decide) (by decide) (Nat.le_of_ble_eq_true rfl) (Nat.le_of_ble_eq_true rfl) ctD_Canons_55 (fun q55 H hP hD hS => ?_)
  obtain ⟨Z7, hZ7⟩ : ∃ z : va_W, z = Z6 ++ [(q55, .inl (cA 0, 120, .inl (fun _ => 0)))] := ⟨_, rfl⟩
  have hP : va_P D wCl ((h0, .inr (0, [.int 0, .ref q7, .ref q15, .ref q23, .ref q31, .ref q39, .ref q47, .null, .null, .int 0, .int 0, .int 0, .null, .null])) :: Z7) H := by rw [hZ7]; exact hP
  have hD : va_D A ((h0, .inr (0, [.int 0, .ref q7, .ref q15, .ref q23, .ref q31, .ref q39, .ref q47, .null, .null, .int 0, .int 0, .int 0, .null, .null])) :: Z7) := by rw [hZ7]; exact hD
  refine W.widen (k := 7) (n := 510) (by omega) (by omega) ?_
  refine va_putF (D := D) (ci := 0) (v := .ref q55) (ty := .array .int) (C := "DioceseBook$Canons") (T := TX0) (N := 14) hx hb hts gk_cl0.2.1 tyX0 tyX0_ok nmX0 hown hK hP hD hS 0 rfl rfl 7 (by decide) (hts _ (ck_w_ok (i := 272) (by decide +kernel) : Cond.fieldLink "DioceseBook$Canons" 30 "DioceseBook$Canons" "end" "[I" ∈ aAW)) (fun _ h9 => h9) rfl hin rfl (by decide +kernel) rfl rfl (Nat.le_of_ble_eq_true rfl) ctD_Canons_57 (fun H locs hP hD hS => ?_)
  have hP : va_P D wCl ((h0, .inr (0, [.int 0, .ref q7, .ref q15, .ref q23, .ref q31, .ref q39, .ref q47, .ref q55, .null, .int 0, .int 0, .int 0, .null, .null])) :: Z7) H := hP
  have hD : va_D A ((h0, .inr (0, [.int 0, .ref q7, .ref q15, .ref q23, .ref q31, .ref q39, .ref q47, .ref q55, .null, .int 0, .int 0, .int 0, .null, .null])) :: Z7) := hD
  refine lv_aload_n hx hb ctD_Canons_60 rfl (lv_at hl 0 rfl) ?_
  refine lv_sipush (v := 2000) hx hb ctD_Canons_61 (by decide) ?_
  refine a_newa (atype := .int) (ty := .int) (c0 := cA 0) 0 hx hb (hts _ ct_a0) rfl (fun n h => by cases h) hK rfl hP hD hS hA (N' := 2000) (a0 := (2000, .inl (fun _ => 0))) (fun _ => rfl) (by decide) (by decide) (by decide) (Nat.le_of_ble_eq_true rfl) (Nat.le_of_ble_eq_true rfl) ctD_Canons_64 (fun q64 H hP hD hS => ?_)
  obtain ⟨Z8, hZ8⟩ : ∃ z : va_W, z = Z7 ++ [(q64, .inl (cA 0, 2000, .inl (fun _ => 0)))] := ⟨_, rfl⟩
  have hP : va_P D wCl ((h0, .inr (0, [.int 0, .ref q7, .ref q15, .ref q23, .ref q31, .ref q39, .ref q47, .ref q55, .null, .int 0, .int 0, .int 0, .null, .null])) :: Z8) H := by rw [hZ8]; exact hP
  have hD : va_D A ((h0, .inr (0, [.int 0, .ref q7, .ref q15, .ref q23, .ref q31, .ref q39, .ref q47, .ref q55, .null, .int 0, .int 0, .int 0, .null, .null])) :: Z8) := by rw [hZ8]; exact hD
  refine W.widen (k := 8) (n := 2510) (by omega) (by omega) ?_
  refine va_putF (D := D) (ci := 0) (v := .ref q64) (ty := .array .int) (C := "DioceseBook$Canons") (T := TX0) (N := 14) hx hb hts gk_cl0.2.1 tyX0 tyX0_ok nmX0 hown hK hP hD hS 0 rfl rfl 8 (by decide) (hts _ (ck_w_ok (i := 273) (by decide +kernel) : Cond.fieldLink "DioceseBook$Canons" 33 "DioceseBook$Canons" "code" "[I" ∈ aAW)) (fun _ h9 => h9) rfl hin rfl (by decide +kernel) rfl rfl (Nat.le_of_ble_eq_true rfl) ctD_Canons_66 (fun H locs hP hD hS => ?_)
  have hP : va_P D wCl ((h0, .inr (0, [.int 0, .ref q7, .ref q15, .ref q23, .ref q31, .ref q39, .ref q47, .ref q55, .ref q64, .int 0, .int 0, .int 0, .null, .null])) :: Z8) H := hP
  have hD : va_D A ((h0, .inr (0, [.int 0, .ref q7, .ref q15, .ref q23, .ref q31, .ref q39, .ref q47, .ref q55, .ref q64, .int 0, .int 0, .int 0, .null, .null])) :: Z8) := hD
  refine lv_aload_n hx hb ctD_Canons_69 rfl (lv_at hl 0 rfl) ?_
  refine lv_iconst (v := (-1)) hx hb ctD_Canons_70 (by decide) ?_
  refine va_put (D := D) (ci := 0) (v := .int (-1)) (ty := .int) (C := "DioceseBook$Canons") (T := TX0) (N := 14) hx hb hts gk_cl0.2.1 tyX0 tyX0_ok nmX0 hown hK hP hD hS 0 rfl rfl 10 (by decide) (hts _ (ck_w_ok (i := 275) (by decide +kernel) : Cond.fieldLink "DioceseBook$Canons" 36 "DioceseBook$Canons" "settledFor" "I" ∈ aAW)) (fun _ h9 => h9) rfl (by decide +kernel) rfl rfl (Nat.le_of_ble_eq_true rfl) ctD_Canons_71 (fun H locs hP hD hS => ?_)
  have hP : va_P D wCl ((h0, .inr (0, [.int 0, .ref q7, .ref q15, .ref q23, .ref q31, .ref q39, .ref q47, .ref q55, .ref q64, .int 0, .int (-1), .int 0, .null, .null])) :: Z8) H := hP
  have hD : va_D A ((h0, .inr (0, [.int 0, .ref q7, .ref q15, .ref q23, .ref q31, .ref q39, .ref q47, .ref q55, .ref q64, .int 0, .int (-1), .int 0, .null, .null])) :: Z8) := hD
  refine lv_aload_n hx hb ctD_Canons_74 rfl (lv_at hl 0 rfl) ?_
  refine lv_bipush (v := 8) hx hb ctD_Canons_75 (by decide) ?_
  refine a_newa (atype := .int) (ty := .int) (c0 := cA 0) 0 hx hb (hts _ ct_a0) rfl (fun n h => by cases h) hK rfl hP hD hS hA (N' := 8) (a0 := (8, .inl (fun _ => 0))) (fun _ => rfl) (by decide) (by decide) (by decide) (Nat.le_of_ble_eq_true rfl) (Nat.le_of_ble_eq_true rfl) ctD_Canons_77 (fun q77 H hP hD hS => ?_)
  obtain ⟨Z9, hZ9⟩ : ∃ z : va_W, z = Z8 ++ [(q77, .inl (cA 0, 8, .inl (fun _ => 0)))] := ⟨_, rfl⟩
  have hP : va_P D wCl ((h0, .inr (0, [.int 0, .ref q7, .ref q15, .ref q23, .ref q31, .ref q39, .ref q47, .ref q55, .ref q64, .int 0, .int (-1), .int 0, .null, .null])) :: Z9) H := by rw [hZ9]; exact hP
  have hD : va_D A ((h0, .inr (0, [.int 0, .ref q7, .ref q15, .ref q23, .ref q31, .ref q39, .ref q47, .ref q55, .ref q64, .int 0, .int (-1), .int 0, .null, .null])) :: Z9) := by rw [hZ9]; exact hD
  refine W.widen (k := 9) (n := 2518) (by omega) (by omega) ?_
  refine va_putF (D := D) (ci := 0) (v := .ref q77) (ty := .array .int) (C := "DioceseBook$Canons") (T := TX0) (N := 14) hx hb hts gk_cl0.2.1 tyX0 tyX0_ok nmX0 hown hK hP hD hS 0 rfl rfl 12 (by decide) (hts _ (ck_w_ok (i := 277) (by decide +kernel) : Cond.fieldLink "DioceseBook$Canons" 40 "DioceseBook$Canons" "number" "[I" ∈ aAW)) (fun _ h9 => h9) rfl hin rfl (by decide +kernel) rfl rfl (Nat.le_of_ble_eq_true rfl) ctD_Canons_79 (fun H locs hP hD hS => ?_)
  have hP : va_P D wCl ((h0, .inr (0, [.int 0, .ref q7, .ref q15, .ref q23, .ref q31, .ref q39, .ref q47, .ref q55, .ref q64, .int 0, .int (-1), .int 0, .ref q77, .null])) :: Z9) H := hP
  have hD : va_D A ((h0, .inr (0, [.int 0, .ref q7, .ref q15, .ref q23, .ref q31, .ref q39, .ref q47, .ref q55, .ref q64, .int 0, .int (-1), .int 0, .ref q77, .null])) :: Z9) := hD
  refine lv_aload_n hx hb ctD_Canons_82 rfl (lv_at hl 0 rfl) ?_
  refine lv_bipush (v := 8) hx hb ctD_Canons_83 (by decide) ?_
  refine a_newa (atype := .int) (ty := .int) (c0 := cA 0) 0 hx hb (hts _ ct_a0) rfl (fun n h => by cases h) hK rfl hP hD hS hA (N' := 8) (a0 := (8, .inl (fun _ => 0))) (fun _ => rfl) (by decide) (by decide) (by decide) (Nat.le_of_ble_eq_true rfl) (Nat.le_of_ble_eq_true rfl) ctD_Canons_85 (fun q85 H hP hD hS => ?_)
  obtain ⟨Z10, hZ10⟩ : ∃ z : va_W, z = Z9 ++ [(q85, .inl (cA 0, 8, .inl (fun _ => 0)))] := ⟨_, rfl⟩
  have hP : va_P D wCl ((h0, .inr (0, [.int 0, .ref q7, .ref q15, .ref q23, .ref q31, .ref q39, .ref q47, .ref q55, .ref q64, .int 0, .int (-1), .int 0, .ref q77, .null])) :: Z10) H := by rw [hZ10]; exact hP
  have hD : va_D A ((h0, .inr (0, [.int 0, .ref q7, .ref q15, .ref q23, .ref q31, .ref q39, .ref q47, .ref q55, .ref q64, .int 0, .int (-1), .int 0, .ref q77, .null])) :: Z10) := by rw [hZ10]; exact hD
  refine W.widen (k := 10) (n := 2526) (by omega) (by omega) ?_
  refine va_putF (D := D) (ci := 0) (v := .ref q85) (ty := .array .int) (C := "DioceseBook$Canons") (T := TX0) (N := 14) hx hb hts gk_cl0.2.1 tyX0 tyX0_ok nmX0 hown hK hP hD hS 0 rfl rfl 13 (by decide) (hts _ (ck_w_ok (i := 279) (by decide +kernel) : Cond.fieldLink "DioceseBook$Canons" 43 "DioceseBook$Canons" "ruler" "[I" ∈ aAW)) (fun _ h9 => h9) rfl hin rfl (by decide +kernel) rfl rfl (Nat.le_of_ble_eq_true rfl) ctD_Canons_87 (fun H locs hP hD hS => ?_)
  have hP : va_P D wCl ((h0, .inr (0, [.int 0, .ref q7, .ref q15, .ref q23, .ref q31, .ref q39, .ref q47, .ref q55, .ref q64, .int 0, .int (-1), .int 0, .ref q77, .ref q85])) :: Z10) H := hP
  have hD : va_D A ((h0, .inr (0, [.int 0, .ref q7, .ref q15, .ref q23, .ref q31, .ref q39, .ref q47, .ref q55, .ref q64, .int 0, .int (-1), .int 0, .ref q77, .ref q85])) :: Z10) := hD
  subst hAe
  subst hZ0 hZ1 hZ2 hZ3 hZ4 hZ5 hZ6 hZ7 hZ8 hZ9 hZ10
  refine W.vret hx hb hr (fun t ht hW => ⟨⟨(ctU_Canons h0 q7 q15 q23 q31 q39 q47 q55 q64 q77 q85), rfl, rfl, by rw [ht]; exact hP, hD⟩, hS.F ht⟩) hS.2.2 ctD_Canons_90 hlocks
theorem ctWc_Canons {cA : Nat → ClassId} {u u' : Nat → Nat} (h : ∀ k, k < 11 → u k = u' k) : ctW_Canons cA  u = ctW_Canons cA  u' := by
  unfold ctW_Canons
  rw [h 0 (by decide)]
  rw [h 1 (by decide)]
  rw [h 2 (by decide)]
  rw [h 3 (by decide)]
  rw [h 4 (by decide)]
  rw [h 5 (by decide)]
  rw [h 6 (by decide)]
  rw [h 7 (by decide)]
  rw [h 8 (by decide)]
  rw [h 9 (by decide)]
  rw [h 10 (by decide)]
