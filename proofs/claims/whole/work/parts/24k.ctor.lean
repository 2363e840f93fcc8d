/-! the class DioceseBook of Lives: what it makes -/
def ctW_Lives (cA : Nat → ClassId) (u : Nat → Nat) : va_W := [(u 0, .inr (2, [.ref (u 1), .ref (u 2), .ref (u 3), .ref (u 4), .ref (u 5), .int 0, .int 0, .ref (u 6), .int 0, .ref (u 7), .ref (u 8), .int 0])), (u 1, .inl (cA 0, 16, .inl (fun _ => 0))), (u 2, .inl (cA 0, 16, .inl (fun _ => 0))), (u 3, .inl (cA 0, 16, .inl (fun _ => 0))), (u 4, .inl (cA 0, 16, .inl (fun _ => 0))), (u 5, .inl (cA 0, 16, .inl (fun _ => 0))), (u 6, .inl (cA 0, 16, .inl (fun _ => 0))), (u 7, .inl (cA 0, 16, .inl (fun _ => 0))), (u 8, .inl (cA 0, 16, .inl (fun _ => 0)))]
abbrev ctB_Lives : ByteArray := prog_4_method_1_code
def ctY_Lives : MethodName := ⟨"DioceseBook$Lives", "<init>", "()V"⟩
def ctE_Lives (h0 : Nat) : va_W := [(h0, .inr (2, [.null, .null, .null, .null, .null, .int 0, .int 0, .null, .int 0, .null, .null, .int 0]))]
theorem ctD_Lives_0 : decode ctB_Lives 0 = .ok (.aload_n 0, 1) := by decide +kernel
theorem ctD_Lives_1 : decode ctB_Lives 1 = .ok (.invokespecial 3, 3) := by decide +kernel
theorem ctD_Lives_4 : decode ctB_Lives 4 = .ok (.aload_n 0, 1) := by decide +kernel
theorem ctD_Lives_5 : decode ctB_Lives 5 = .ok (.bipush 16, 2) := by decide +kernel
theorem ctD_Lives_7 : decode ctB_Lives 7 = .ok (.newarray .int, 2) := by decide +kernel
theorem ctD_Lives_9 : decode ctB_Lives 9 = .ok (.putfield 11, 3) := by decide +kernel
theorem ctD_Lives_12 : decode ctB_Lives 12 = .ok (.aload_n 0, 1) := by decide +kernel
theorem ctD_Lives_13 : decode ctB_Lives 13 = .ok (.bipush 16, 2) := by decide +kernel
theorem ctD_Lives_15 : decode ctB_Lives 15 = .ok (.newarray .int, 2) := by decide +kernel
theorem ctD_Lives_17 : decode ctB_Lives 17 = .ok (.putfield 15, 3) := by decide +kernel
theorem ctD_Lives_20 : decode ctB_Lives 20 = .ok (.aload_n 0, 1) := by decide +kernel
theorem ctD_Lives_21 : decode ctB_Lives 21 = .ok (.bipush 16, 2) := by decide +kernel
theorem ctD_Lives_23 : decode ctB_Lives 23 = .ok (.newarray .int, 2) := by decide +kernel
theorem ctD_Lives_25 : decode ctB_Lives 25 = .ok (.putfield 18, 3) := by decide +kernel
theorem ctD_Lives_28 : decode ctB_Lives 28 = .ok (.aload_n 0, 1) := by decide +kernel
theorem ctD_Lives_29 : decode ctB_Lives 29 = .ok (.bipush 16, 2) := by decide +kernel
theorem ctD_Lives_31 : decode ctB_Lives 31 = .ok (.newarray .int, 2) := by decide +kernel
theorem ctD_Lives_33 : decode ctB_Lives 33 = .ok (.putfield 21, 3) := by decide +kernel
theorem ctD_Lives_36 : decode ctB_Lives 36 = .ok (.aload_n 0, 1) := by decide +kernel
theorem ctD_Lives_37 : decode ctB_Lives 37 = .ok (.bipush 16, 2) := by decide +kernel
theorem ctD_Lives_39 : decode ctB_Lives 39 = .ok (.newarray .int, 2) := by decide +kernel
theorem ctD_Lives_41 : decode ctB_Lives 41 = .ok (.putfield 24, 3) := by decide +kernel
theorem ctD_Lives_44 : decode ctB_Lives 44 = .ok (.aload_n 0, 1) := by decide +kernel
theorem ctD_Lives_45 : decode ctB_Lives 45 = .ok (.bipush 16, 2) := by decide +kernel
theorem ctD_Lives_47 : decode ctB_Lives 47 = .ok (.newarray .int, 2) := by decide +kernel
theorem ctD_Lives_49 : decode ctB_Lives 49 = .ok (.putfield 27, 3) := by decide +kernel
theorem ctD_Lives_52 : decode ctB_Lives 52 = .ok (.aload_n 0, 1) := by decide +kernel
theorem ctD_Lives_53 : decode ctB_Lives 53 = .ok (.bipush 16, 2) := by decide +kernel
theorem ctD_Lives_55 : decode ctB_Lives 55 = .ok (.newarray .int, 2) := by decide +kernel
theorem ctD_Lives_57 : decode ctB_Lives 57 = .ok (.putfield 30, 3) := by decide +kernel
theorem ctD_Lives_60 : decode ctB_Lives 60 = .ok (.aload_n 0, 1) := by decide +kernel
theorem ctD_Lives_61 : decode ctB_Lives 61 = .ok (.bipush 16, 2) := by decide +kernel
theorem ctD_Lives_63 : decode ctB_Lives 63 = .ok (.newarray .int, 2) := by decide +kernel
theorem ctD_Lives_65 : decode ctB_Lives 65 = .ok (.putfield 33, 3) := by decide +kernel
theorem ctD_Lives_68 : decode ctB_Lives 68 = .ok (.return_, 1) := by decide +kernel
theorem ctC_Lives : Cond.code ctY_Lives ctB_Lives 1 none ∈ aAW := ck_w_ok (i := 508) (by decide +kernel)
theorem ctI_Lives : Cond.instanceMethod ctY_Lives ∈ aAW := ck_w_ok (i := 507) (by decide +kernel)
def ctR_Lives : Room := { frames := 1, cells := 8, slots := 128, locals := 12 }
def ctU_Lives (h0 : Nat) (q7 : Nat) (q15 : Nat) (q23 : Nat) (q31 : Nat) (q39 : Nat) (q47 : Nat) (q55 : Nat) (q63 : Nat) : Nat → Nat := fun k => (cond (Nat.blt k 4) (cond (Nat.blt k 2) (cond (Nat.blt k 1) h0 q7) (cond (Nat.blt k 3) q15 q23)) (cond (Nat.blt k 6) (cond (Nat.blt k 5) q31 q39) (cond (Nat.blt k 7) q47 (cond (Nat.blt k 8) q55 q63))))
set_option maxHeartbeats 8000000 in
set_option maxRecDepth 100000 in
theorem ct_Lives (l : Launch) (D : va_G) (cA : Nat → ClassId) (h0 sz : Nat) : Met l ctY_Lives (Cond.code ctY_Lives ctB_Lives 1 none :: aAW) ctR_Lives (va_Pc [.ref h0] (fun U => U.heap.size = sz ∧ va_P D wCl (ctE_Lives h0) U.heap ∧ va_K D wCl (aTys cA) U ∧ va_D (fun _ => True) (ctE_Lives h0) ∧ ct_N U)) (va_Qv (fun u : Nat → Nat => u 0 = h0) (fun u t => va_P D wCl (ctW_Lives cA  u) t.heap ∧ va_D (va_A (ctE_Lives h0) sz) (ctW_Lives cA  u)) (va_A (ctE_Lives h0) sz)) 8 128 (va_A (ctE_Lives h0) sz) := by
  refine Met.ofW (cc := ctB_Lives) (maxL := 1) (ret := none) (by decide) rfl ?_
  intro p e s m args below meth c s₁ B hml hv
  obtain ⟨rfl, hsz, hP, hK, hD0, hN⟩ := hv
  have hx := B.exec
  have hb := B.bytes
  have hr := B.returns
  have hts0 := atoms_spec (ws := Cond.code ctY_Lives ctB_Lives 1 none :: aAW) B.pre
  have hts : ∀ w ∈ aAW, w.before _ s = true := fun w hw => hts0 w (List.mem_cons_of_mem _ hw)
  have hown : s.vm.findClass "DioceseBook$Lives" = some m.cls := findClass_of_methodNamed B.named
  have hlocks := B.notSynchronized
  have hin : meth.name = "<init>" := (name_of_methodNamed B.named B.method).1
  subst hsz
  have hD := hD0.self (sz := s.heap.size)
  generalize hAe : va_A (ctE_Lives h0) s.heap.size = A at hD ⊢
  have hA : ∀ q : Nat, s.heap.size ≤ q → A q := fun q h => by rw [← hAe]; exact Or.inr h
  have hS : va_S A s.heap s.heap [] := va_S.rf
  have hl := lv_entry ([.ref h0]) (n := 1) (Nat.le_of_ble_eq_true rfl)
  rw [lg_entry_eq]
  generalize (lg_sl ([.ref h0]) ++ List.replicate (1 - (lg_sl ([.ref h0])).length) Slot.unset).toArray = ls at hl ⊢
  have hl : lv_has ls 1 [(0, .ref h0)] := hl
  obtain ⟨Z0, hZ0⟩ : ∃ z : va_W, z = [] := ⟨_, rfl⟩
  have hP : va_P D wCl ((h0, .inr (2, [.null, .null, .null, .null, .null, .int 0, .int 0, .null, .int 0, .null, .null, .int 0])) :: Z0) s.heap := by rw [hZ0]; exact hP
  have hD : va_D A ((h0, .inr (2, [.null, .null, .null, .null, .null, .int 0, .int 0, .null, .int 0, .null, .null, .int 0])) :: Z0) := by rw [hZ0]; exact hD
  refine lv_aload_n hx hb ctD_Lives_0 rfl (lv_at hl 0 rfl) ?_
  refine W.objInit hx hb hown (hts _ (ck_w_ok (i := 509) (by decide +kernel) : Cond.methodLink "DioceseBook$Lives" 3 Lib.objectInit ∈ aAW)) (hts _ ct_oI) (hts _ ct_oC) rfl (by rw [hml]; exact hl.1) rfl ctD_Lives_1 (Nat.le_of_ble_eq_true rfl) (Nat.le_of_ble_eq_true rfl) ?_
  refine W.eq (g2 := F0 m 4 ls []) rfl ?_
  refine lv_aload_n hx hb ctD_Lives_4 rfl (lv_at hl 0 rfl) ?_
  refine lv_bipush (v := 16) hx hb ctD_Lives_5 (by decide) ?_
  refine a_newa (atype := .int) (ty := .int) (c0 := cA 0) 0 hx hb (hts _ ct_a0) rfl (fun n h => by cases h) hK rfl hP hD hS hA (N' := 16) (a0 := (16, .inl (fun _ => 0))) (fun _ => rfl) (by decide) (by decide) (by decide) (Nat.le_of_ble_eq_true rfl) (Nat.le_of_ble_eq_true rfl) ctD_Lives_7 (fun q7 H hP hD hS => ?_)
  obtain ⟨Z1, hZ1⟩ : ∃ z : va_W, z = Z0 ++ [(q7, .inl (cA 0, 16, .inl (fun _ => 0)))] := ⟨_, rfl⟩
  have hP : va_P D wCl ((h0, .inr (2, [.null, .null, .null, .null, .null, .int 0, .int 0, .null, .int 0, .null, .null, .int 0])) :: Z1) H := by rw [hZ1]; exact hP
  have hD : va_D A ((h0, .inr (2, [.null, .null, .null, .null, .null, .int 0, .int 0, .null, .int 0, .null, .null, .int 0])) :: Z1) := by rw [hZ1]; exact hD
  refine W.widen (k := 1) (n := 16) (by omega) (by omega) ?_
  refine va_putF (D := D) (ci := 2) (v := .ref q7) (ty := .array .int) (C := "DioceseBook$Lives") (T := TX2) (N := 12) hx hb hts gk_cl2.2.1 tyX2 tyX2_ok nmX2 hown hK hP hD hS 0 rfl rfl 0 (by decide) (hts _ (ck_w_ok (i := 510) (by decide +kernel) : Cond.fieldLink "DioceseBook$Lives" 11 "DioceseBook$Lives" "name" "[I" ∈ aAW)) (fun _ h9 => h9) rfl hin rfl (by decide +kernel) rfl rfl (Nat.le_of_ble_eq_true rfl) ctD_Lives_9 (fun H locs hP hD hS => ?_)
  have hP : va_P D wCl ((h0, .inr (2, [.ref q7, .null, .null, .null, .null, .int 0, .int 0, .null, .int 0, .null, .null, .int 0])) :: Z1) H := hP
  have hD : va_D A ((h0, .inr (2, [.ref q7, .null, .null, .null, .null, .int 0, .int 0, .null, .int 0, .null, .null, .int 0])) :: Z1) := hD
  refine lv_aload_n hx hb ctD_Lives_12 rfl (lv_at hl 0 rfl) ?_
  refine lv_bipush (v := 16) hx hb ctD_Lives_13 (by decide) ?_
  refine a_newa (atype := .int) (ty := .int) (c0 := cA 0) 0 hx hb (hts _ ct_a0) rfl (fun n h => by cases h) hK rfl hP hD hS hA (N' := 16) (a0 := (16, .inl (fun _ => 0))) (fun _ => rfl) (by decide) (by decide) (by decide) (Nat.le_of_ble_eq_true rfl) (Nat.le_of_ble_eq_true rfl) ctD_Lives_15 (fun q15 H hP hD hS => ?_)
  obtain ⟨Z2, hZ2⟩ : ∃ z : va_W, z = Z1 ++ [(q15, .inl (cA 0, 16, .inl (fun _ => 0)))] := ⟨_, rfl⟩
  have hP : va_P D wCl ((h0, .inr (2, [.ref q7, .null, .null, .null, .null, .int 0, .int 0, .null, .int 0, .null, .null, .int 0])) :: Z2) H := by rw [hZ2]; exact hP
  have hD : va_D A ((h0, .inr (2, [.ref q7, .null, .null, .null, .null, .int 0, .int 0, .null, .int 0, .null, .null, .int 0])) :: Z2) := by rw [hZ2]; exact hD
  refine W.widen (k := 2) (n := 32) (by omega) (by omega) ?_
  refine va_putF (D := D) (ci := 2) (v := .ref q15) (ty := .array .int) (C := "DioceseBook$Lives") (T := TX2) (N := 12) hx hb hts gk_cl2.2.1 tyX2 tyX2_ok nmX2 hown hK hP hD hS 0 rfl rfl 1 (by decide) (hts _ (ck_w_ok (i := 511) (by decide +kernel) : Cond.fieldLink "DioceseBook$Lives" 15 "DioceseBook$Lives" "x" "[I" ∈ aAW)) (fun _ h9 => h9) rfl hin rfl (by decide +kernel) rfl rfl (Nat.le_of_ble_eq_true rfl) ctD_Lives_17 (fun H locs hP hD hS => ?_)
  have hP : va_P D wCl ((h0, .inr (2, [.ref q7, .ref q15, .null, .null, .null, .int 0, .int 0, .null, .int 0, .null, .null, .int 0])) :: Z2) H := hP
  have hD : va_D A ((h0, .inr (2, [.ref q7, .ref q15, .null, .null, .null, .int 0, .int 0, .null, .int 0, .null, .null, .int 0])) :: Z2) := hD
  refine lv_aload_n hx hb ctD_Lives_20 rfl (lv_at hl 0 rfl) ?_
  refine lv_bipush (v := 16) hx hb ctD_Lives_21 (by decide) ?_
  refine a_newa (atype := .int) (ty := .int) (c0 := cA 0) 0 hx hb (hts _ ct_a0) rfl (fun n h => by cases h) hK rfl hP hD hS hA (N' := 16) (a0 := (16, .inl (fun _ => 0))) (fun _ => rfl) (by decide) (by decide) (by decide) (Nat.le_of_ble_eq_true rfl) (Nat.le_of_ble_eq_true rfl) ctD_Lives_23 (fun q23 H hP hD hS => ?_)
  obtain ⟨Z3, hZ3⟩ : ∃ z : va_W, z = Z2 ++ [(q23, .inl (cA 0, 16, .inl (fun _ => 0)))] := ⟨_, rfl⟩
  have hP : va_P D wCl ((h0, .inr (2, [.ref q7, .ref q15, .null, .null, .null, .int 0, .int 0, .null, .int 0, .null, .null, .int 0])) :: Z3) H := by rw [hZ3]; exact hP
  have hD : va_D A ((h0, .inr (2, [.ref q7, .ref q15, .null, .null, .null, .int 0, .int 0, .null, .int 0, .null, .null, .int 0])) :: Z3) := by rw [hZ3]; exact hD
  refine W.widen (k := 3) (n := 48) (by omega) (by omega) ?_
  refine va_putF (D := D) (ci := 2) (v := .ref q23) (ty := .array .int) (C := "DioceseBook$Lives") (T := TX2) (N := 12) hx hb hts gk_cl2.2.1 tyX2 tyX2_ok nmX2 hown hK hP hD hS 0 rfl rfl 2 (by decide) (hts _ (ck_w_ok (i := 512) (by decide +kernel) : Cond.fieldLink "DioceseBook$Lives" 18 "DioceseBook$Lives" "y" "[I" ∈ aAW)) (fun _ h9 => h9) rfl hin rfl (by decide +kernel) rfl rfl (Nat.le_of_ble_eq_true rfl) ctD_Lives_25 (fun H locs hP hD hS => ?_)
  have hP : va_P D wCl ((h0, .inr (2, [.ref q7, .ref q15, .ref q23, .null, .null, .int 0, .int 0, .null, .int 0, .null, .null, .int 0])) :: Z3) H := hP
  have hD : va_D A ((h0, .inr (2, [.ref q7, .ref q15, .ref q23, .null, .null, .int 0, .int 0, .null, .int 0, .null, .null, .int 0])) :: Z3) := hD
  refine lv_aload_n hx hb ctD_Lives_28 rfl (lv_at hl 0 rfl) ?_
  refine lv_bipush (v := 16) hx hb ctD_Lives_29 (by decide) ?_
  refine a_newa (atype := .int) (ty := .int) (c0 := cA 0) 0 hx hb (hts _ ct_a0) rfl (fun n h => by cases h) hK rfl hP hD hS hA (N' := 16) (a0 := (16, .inl (fun _ => 0))) (fun _ => rfl) (by decide) (by decide) (by decide) (Nat.le_of_ble_eq_true rfl) (Nat.le_of_ble_eq_true rfl) ctD_Lives_31 (fun q31 H hP hD hS => ?_)
  obtain ⟨Z4, hZ4⟩ : ∃ z : va_W, z = Z3 ++ [(q31, .inl (cA 0, 16, .inl (fun _ => 0)))] := ⟨_, rfl⟩
  have hP : va_P D wCl ((h0, .inr (2, [.ref q7, .ref q15, .ref q23, .null, .null, .int 0, .int 0, .null, .int 0, .null, .null, .int 0])) :: Z4) H := by rw [hZ4]; exact hP
  have hD : va_D A ((h0, .inr (2, [.ref q7, .ref q15, .ref q23, .null, .null, .int 0, .int 0, .null, .int 0, .null, .null, .int 0])) :: Z4) := by rw [hZ4]; exact hD
  refine W.widen (k := 4) (n := 64) (by omega) (by omega) ?_
  refine va_putF (D := D) (ci := 2) (v := .ref q31) (ty := .array .int) (C := "DioceseBook$Lives") (T := TX2) (N := 12) hx hb hts gk_cl2.2.1 tyX2 tyX2_ok nmX2 hown hK hP hD hS 0 rfl rfl 3 (by decide) (hts _ (ck_w_ok (i := 513) (by decide +kernel) : Cond.fieldLink "DioceseBook$Lives" 21 "DioceseBook$Lives" "from" "[I" ∈ aAW)) (fun _ h9 => h9) rfl hin rfl (by decide +kernel) rfl rfl (Nat.le_of_ble_eq_true rfl) ctD_Lives_33 (fun H locs hP hD hS => ?_)
  have hP : va_P D wCl ((h0, .inr (2, [.ref q7, .ref q15, .ref q23, .ref q31, .null, .int 0, .int 0, .null, .int 0, .null, .null, .int 0])) :: Z4) H := hP
  have hD : va_D A ((h0, .inr (2, [.ref q7, .ref q15, .ref q23, .ref q31, .null, .int 0, .int 0, .null, .int 0, .null, .null, .int 0])) :: Z4) := hD
  refine lv_aload_n hx hb ctD_Lives_36 rfl (lv_at hl 0 rfl) ?_
  refine lv_bipush (v := 16) hx hb ctD_Lives_37 (by decide) ?_
  refine a_newa (atype := .int) (ty := .int) (c0 := cA 0) 0 hx hb (hts _ ct_a0) rfl (fun n h => by cases h) hK rfl hP hD hS hA (N' := 16) (a0 := (16, .inl (fun _ => 0))) (fun _ => rfl) (by decide) (by decide) (by decide) (Nat.le_of_ble_eq_true rfl) (Nat.le_of_ble_eq_true rfl) ctD_Lives_39 (fun q39 H hP hD hS => ?_)
  obtain ⟨Z5, hZ5⟩ : ∃ z : va_W, z = Z4 ++ [(q39, .inl (cA 0, 16, .inl (fun _ => 0)))] := ⟨_, rfl⟩
  have hP : va_P D wCl ((h0, .inr (2, [.ref q7, .ref q15, .ref q23, .ref q31, .null, .int 0, .int 0, .null, .int 0, .null, .null, .int 0])) :: Z5) H := by rw [hZ5]; exact hP
  have hD : va_D A ((h0, .inr (2, [.ref q7, .ref q15, .ref q23, .ref q31, .null, .int 0, .int 0, .null, .int 0, .null, .null, .int 0])) :: Z5) := by rw [hZ5]; exact hD
  refine W.widen (k := 5) (n := 80) (by omega) (by omega) ?_
  refine va_putF (D := D) (ci := 2) (v := .ref q39) (ty := .array .int) (C := "DioceseBook$Lives") (T := TX2) (N := 12) hx hb hts gk_cl2.2.1 tyX2 tyX2_ok nmX2 hown hK hP hD hS 0 rfl rfl 4 (by decide) (hts _ (ck_w_ok (i := 514) (by decide +kernel) : Cond.fieldLink "DioceseBook$Lives" 24 "DioceseBook$Lives" "to" "[I" ∈ aAW)) (fun _ h9 => h9) rfl hin rfl (by decide +kernel) rfl rfl (Nat.le_of_ble_eq_true rfl) ctD_Lives_41 (fun H locs hP hD hS => ?_)
  have hP : va_P D wCl ((h0, .inr (2, [.ref q7, .ref q15, .ref q23, .ref q31, .ref q39, .int 0, .int 0, .null, .int 0, .null, .null, .int 0])) :: Z5) H := hP
  have hD : va_D A ((h0, .inr (2, [.ref q7, .ref q15, .ref q23, .ref q31, .ref q39, .int 0, .int 0, .null, .int 0, .null, .null, .int 0])) :: Z5) := hD
  refine lv_aload_n hx hb ctD_Lives_44 rfl (lv_at hl 0 rfl) ?_
  refine lv_bipush (v := 16) hx hb ctD_Lives_45 (by decide) ?_
  refine a_newa (atype := .int) (ty := .int) (c0 := cA 0) 0 hx hb (hts _ ct_a0) rfl (fun n h => by cases h) hK rfl hP hD hS hA (N' := 16) (a0 := (16, .inl (fun _ => 0))) (fun _ => rfl) (by decide) (by decide) (by decide) (Nat.le_of_ble_eq_true rfl) (Nat.le_of_ble_eq_true rfl) ctD_Lives_47 (fun q47 H hP hD hS => ?_)
  obtain ⟨Z6, hZ6⟩ : ∃ z : va_W, z = Z5 ++ [(q47, .inl (cA 0, 16, .inl (fun _ => 0)))] := ⟨_, rfl⟩
  have hP : va_P D wCl ((h0, .inr (2, [.ref q7, .ref q15, .ref q23, .ref q31, .ref q39, .int 0, .int 0, .null, .int 0, .null, .null, .int 0])) :: Z6) H := by rw [hZ6]; exact hP
  have hD : va_D A ((h0, .inr (2, [.ref q7, .ref q15, .ref q23, .ref q31, .ref q39, .int 0, .int 0, .null, .int 0, .null, .null, .int 0])) :: Z6) := by rw [hZ6]; exact hD
  refine W.widen (k := 6) (n := 96) (by omega) (by omega) ?_
  refine va_putF (D := D) (ci := 2) (v := .ref q47) (ty := .array .int) (C := "DioceseBook$Lives") (T := TX2) (N := 12) hx hb hts gk_cl2.2.1 tyX2 tyX2_ok nmX2 hown hK hP hD hS 0 rfl rfl 7 (by decide) (hts _ (ck_w_ok (i := 519) (by decide +kernel) : Cond.fieldLink "DioceseBook$Lives" 27 "DioceseBook$Lives" "behind" "[I" ∈ aAW)) (fun _ h9 => h9) rfl hin rfl (by decide +kernel) rfl rfl (Nat.le_of_ble_eq_true rfl) ctD_Lives_49 (fun H locs hP hD hS => ?_)
  have hP : va_P D wCl ((h0, .inr (2, [.ref q7, .ref q15, .ref q23, .ref q31, .ref q39, .int 0, .int 0, .ref q47, .int 0, .null, .null, .int 0])) :: Z6) H := hP
  have hD : va_D A ((h0, .inr (2, [.ref q7, .ref q15, .ref q23, .ref q31, .ref q39, .int 0, .int 0, .ref q47, .int 0, .null, .null, .int 0])) :: Z6) := hD
  refine lv_aload_n hx hb ctD_Lives_52 rfl (lv_at hl 0 rfl) ?_
  refine lv_bipush (v := 16) hx hb ctD_Lives_53 (by decide) ?_
  refine a_newa (atype := .int) (ty := .int) (c0 := cA 0) 0 hx hb (hts _ ct_a0) rfl (fun n h => by cases h) hK rfl hP hD hS hA (N' := 16) (a0 := (16, .inl (fun _ => 0))) (fun _ => rfl) (by decide) (by decide) (by decide) (Nat.le_of_ble_eq_true rfl) (Nat.le_of_ble_eq_true rfl) ctD_Lives_55 (fun q55 H hP hD hS => ?_)
  obtain ⟨Z7, hZ7⟩ : ∃ z : va_W, z = Z6 ++ [(q55, .inl (cA 0, 16, .inl (fun _ => 0)))] := ⟨_, rfl⟩
  have hP : va_P D wCl ((h0, .inr (2, [.ref q7, .ref q15, .ref q23, .ref q31, .ref q39, .int 0, .int 0, .ref q47, .int 0, .null, .null, .int 0])) :: Z7) H := by rw [hZ7]; exact hP
  have hD : va_D A ((h0, .inr (2, [.ref q7, .ref q15, .ref q23, .ref q31, .ref q39, .int 0, .int 0, .ref q47, .int 0, .null, .null, .int 0])) :: Z7) := by rw [hZ7]; exact hD
  refine W.widen (k := 7) (n := 112) (by omega) (by omega) ?_
  refine va_putF (D := D) (ci := 2) (v := .ref q55) (ty := .array .int) (C := "DioceseBook$Lives") (T := TX2) (N := 12) hx hb hts gk_cl2.2.1 tyX2 tyX2_ok nmX2 hown hK hP hD hS 0 rfl rfl 9 (by decide) (hts _ (ck_w_ok (i := 522) (by decide +kernel) : Cond.fieldLink "DioceseBook$Lives" 30 "DioceseBook$Lives" "choice" "[I" ∈ aAW)) (fun _ h9 => h9) rfl hin rfl (by decide +kernel) rfl rfl (Nat.le_of_ble_eq_true rfl) ctD_Lives_57 (fun H locs hP hD hS => ?_)
  have hP : va_P D wCl ((h0, .inr (2, [.ref q7, .ref q15, .ref q23, .ref q31, .ref q39, .int 0, .int 0, .ref q47, .int 0, .ref q55, .null, .int 0])) :: Z7) H := hP
  have hD : va_D A ((h0, .inr (2, [.ref q7, .ref q15, .ref q23, .ref q31, .ref q39, .int 0, .int 0, .ref q47, .int 0, .ref q55, .null, .int 0])) :: Z7) := hD
  refine lv_aload_n hx hb ctD_Lives_60 rfl (lv_at hl 0 rfl) ?_
  refine lv_bipush (v := 16) hx hb ctD_Lives_61 (by decide) ?_
  refine a_newa (atype := .int) (ty := .int) (c0 := cA 0) 0 hx hb (hts _ ct_a0) rfl (fun n h => by cases h) hK rfl hP hD hS hA (N' := 16) (a0 := (16, .inl (fun _ => 0))) (fun _ => rfl) (by decide) (by decide) (by decide) (Nat.le_of_ble_eq_true rfl) (Nat.le_of_ble_eq_true rfl) ctD_Lives_63 (fun q63 H hP hD hS => ?_)
  obtain ⟨Z8, hZ8⟩ : ∃ z : va_W, z = Z7 ++ [(q63, .inl (cA 0, 16, .inl (fun _ => 0)))] := ⟨_, rfl⟩
  have hP : va_P D wCl ((h0, .inr (2, [.ref q7, .ref q15, .ref q23, .ref q31, .ref q39, .int 0, .int 0, .ref q47, .int 0, .ref q55, .null, .int 0])) :: Z8) H := by rw [hZ8]; exact hP
  have hD : va_D A ((h0, .inr (2, [.ref q7, .ref q15, .ref q23, .ref q31, .ref q39, .int 0, .int 0, .ref q47, .int 0, .ref q55, .null, .int 0])) :: Z8) := by rw [hZ8]; exact hD
  refine W.widen (k := 8) (n := 128) (by omega) (by omega) ?_
  refine va_putF (D := D) (ci := 2) (v := .ref q63) (ty := .array .int) (C := "DioceseBook$Lives") (T := TX2) (N := 12) hx hb hts gk_cl2.2.1 tyX2 tyX2_ok nmX2 hown hK hP hD hS 0 rfl rfl 10 (by decide) (hts _ (ck_w_ok (i := 523) (by decide +kernel) : Cond.fieldLink "DioceseBook$Lives" 33 "DioceseBook$Lives" "ahead" "[I" ∈ aAW)) (fun _ h9 => h9) rfl hin rfl (by decide +kernel) rfl rfl (Nat.le_of_ble_eq_true rfl) ctD_Lives_65 (fun H locs hP hD hS => ?_)
  have hP : va_P D wCl ((h0, .inr (2, [.ref q7, .ref q15, .ref q23, .ref q31, .ref q39, .int 0, .int 0, .ref q47, .int 0, .ref q55, .ref q63, .int 0])) :: Z8) H := hP
  have hD : va_D A ((h0, .inr (2, [.ref q7, .ref q15, .ref q23, .ref q31, .ref q39, .int 0, .int 0, .ref q47, .int 0, .ref q55, .ref q63, .int 0])) :: Z8) := hD
  subst hAe
  subst hZ0 hZ1 hZ2 hZ3 hZ4 hZ5 hZ6 hZ7 hZ8
  refine W.vret hx hb hr (fun t ht hW => ⟨⟨(ctU_Lives h0 q7 q15 q23 q31 q39 q47 q55 q63), rfl, rfl, by rw [ht]; exact hP, hD⟩, hS.F ht⟩) hS.2.2 ctD_Lives_68 hlocks
theorem ctWc_Lives {cA : Nat → ClassId} {u u' : Nat → Nat} (h : ∀ k, k < 9 → u k = u' k) : ctW_Lives cA  u = ctW_Lives cA  u' := by
  unfold ctW_Lives
  rw [h 0 (by decide)]
  rw [h 1 (by decide)]
  rw [h 2 (by decide)]
  rw [h 3 (by decide)]
  rw [h 4 (by decide)]
  rw [h 5 (by decide)]
  rw [h 6 (by decide)]
  rw [h 7 (by decide)]
  rw [h 8 (by decide)]
