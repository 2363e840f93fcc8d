/-! the class DioceseBook of Visitation: what it makes -/
def ctW_Visitation (cA : Nat → ClassId) (p1 : Nat) (u : Nat → Nat) : va_W := (([(u 0, .inr (10, [.ref p1, .ref (u 1), .int 0, .ref (u 2), .ref (u 11), .ref (u 12), .ref (u 13), .int 0, .int 0, .int 0, .int 0])), (u 1, .inl (cA 0, 8, .inl (fun _ => 0))), (u 2, .inl (cA 4, 8, .inr (.inr (.inr (.inr (fun i => if i < 8 then some (u (3 + i)) else none))))))] ++ (List.range 8).map (fun i => (u (3 + i), .inl (cA 0, 256, .inl (fun _ => 0))))) ++ [(u 11, .inl (cA 0, 256, .inl (fun _ => 0))), (u 12, .inl (cA 0, 256, .inl (fun _ => 0))), (u 13, .inl (cA 0, 8, .inl (fun _ => 0)))])
abbrev ctB_Visitation : ByteArray := prog_12_method_1_code
def ctY_Visitation : MethodName := ⟨"DioceseBook$Visitation", "<init>", "(LDioceseBook$Register;)V"⟩
def ctE_Visitation (h0 : Nat) : va_W := [(h0, .inr (10, [.null, .null, .int 0, .null, .null, .null, .null, .int 0, .int 0, .int 0, .int 0]))]
theorem ctD_Visitation_0 : decode ctB_Visitation 0 = .ok (.aload_n 0, 1) := by decide +kernel
theorem ctD_Visitation_1 : decode ctB_Visitation 1 = .ok (.invokespecial 3, 3) := by decide +kernel
theorem ctD_Visitation_4 : decode ctB_Visitation 4 = .ok (.aload_n 0, 1) := by decide +kernel
theorem ctD_Visitation_5 : decode ctB_Visitation 5 = .ok (.bipush 8, 2) := by decide +kernel
theorem ctD_Visitation_7 : decode ctB_Visitation 7 = .ok (.newarray .int, 2) := by decide +kernel
theorem ctD_Visitation_9 : decode ctB_Visitation 9 = .ok (.putfield 9, 3) := by decide +kernel
theorem ctD_Visitation_12 : decode ctB_Visitation 12 = .ok (.aload_n 0, 1) := by decide +kernel
theorem ctD_Visitation_13 : decode ctB_Visitation 13 = .ok (.bipush 8, 2) := by decide +kernel
theorem ctD_Visitation_15 : decode ctB_Visitation 15 = .ok (.sipush 256, 3) := by decide +kernel
theorem ctD_Visitation_18 : decode ctB_Visitation 18 = .ok (.multianewarray 13 2, 4) := by decide +kernel
theorem ctD_Visitation_22 : decode ctB_Visitation 22 = .ok (.putfield 15, 3) := by decide +kernel
theorem ctD_Visitation_25 : decode ctB_Visitation 25 = .ok (.aload_n 0, 1) := by decide +kernel
theorem ctD_Visitation_26 : decode ctB_Visitation 26 = .ok (.sipush 256, 3) := by decide +kernel
theorem ctD_Visitation_29 : decode ctB_Visitation 29 = .ok (.newarray .int, 2) := by decide +kernel
theorem ctD_Visitation_31 : decode ctB_Visitation 31 = .ok (.putfield 18, 3) := by decide +kernel
theorem ctD_Visitation_34 : decode ctB_Visitation 34 = .ok (.aload_n 0, 1) := by decide +kernel
theorem ctD_Visitation_35 : decode ctB_Visitation 35 = .ok (.sipush 256, 3) := by decide +kernel
theorem ctD_Visitation_38 : decode ctB_Visitation 38 = .ok (.newarray .int, 2) := by decide +kernel
theorem ctD_Visitation_40 : decode ctB_Visitation 40 = .ok (.putfield 21, 3) := by decide +kernel
theorem ctD_Visitation_43 : decode ctB_Visitation 43 = .ok (.aload_n 0, 1) := by decide +kernel
theorem ctD_Visitation_44 : decode ctB_Visitation 44 = .ok (.bipush 8, 2) := by decide +kernel
theorem ctD_Visitation_46 : decode ctB_Visitation 46 = .ok (.newarray .int, 2) := by decide +kernel
theorem ctD_Visitation_48 : decode ctB_Visitation 48 = .ok (.putfield 24, 3) := by decide +kernel
theorem ctD_Visitation_51 : decode ctB_Visitation 51 = .ok (.aload_n 0, 1) := by decide +kernel
theorem ctD_Visitation_52 : decode ctB_Visitation 52 = .ok (.aload_n 1, 1) := by decide +kernel
theorem ctD_Visitation_53 : decode ctB_Visitation 53 = .ok (.putfield 27, 3) := by decide +kernel
theorem ctD_Visitation_56 : decode ctB_Visitation 56 = .ok (.return_, 1) := by decide +kernel
theorem ctC_Visitation : Cond.code ctY_Visitation ctB_Visitation 2 none ∈ aAW := ck_w_ok (i := 554) (by decide +kernel)
theorem ctI_Visitation : Cond.instanceMethod ctY_Visitation ∈ aAW := ck_w_ok (i := 553) (by decide +kernel)
def ctR_Visitation : Room := { frames := 1, cells := 13, slots := 2584, locals := 12 }
def ctU_Visitation (h0 : Nat) (q7 : Nat) (q18 : Nat) (r18 : Nat → Nat) (q29 : Nat) (q38 : Nat) (q46 : Nat) : Nat → Nat := fun k => (cond (Nat.blt k 3) (cond (Nat.blt k 1) h0 (cond (Nat.blt k 2) q7 q18)) (cond (Nat.blt k 12) (cond (Nat.blt k 11) (r18 (k - 3)) q29) (cond (Nat.blt k 13) q38 q46)))
theorem ctU_Visitation_r18 (h0 : Nat) (q7 : Nat) (q18 : Nat) (r18 : Nat → Nat) (q29 : Nat) (q38 : Nat) (q46 : Nat) : ∀ i, i < 8 → r18 i = ctU_Visitation h0 q7 q18 r18 q29 q38 q46 (3 + i) := fun i hi => by
  unfold ctU_Visitation
  rw [ct_cn (a := 3 + i) (b := 3) (by omega), ct_cp (a := 3 + i) (b := 12) (by omega), ct_cp (a := 3 + i) (b := 11) (by omega), Nat.add_sub_cancel_left]
set_option maxHeartbeats 8000000 in
set_option maxRecDepth 100000 in
theorem ct_Visitation (l : Launch) (D : va_G) (cA : Nat → ClassId) (h0 p1 sz : Nat) : Met l ctY_Visitation (Cond.code ctY_Visitation ctB_Visitation 2 none :: aAW) ctR_Visitation (va_Pc [.ref h0, .ref p1] (fun U => U.heap.size = sz ∧ va_P D wCl (ctE_Visitation h0) U.heap ∧ va_K D wCl (aTys cA) U ∧ va_D (fun _ => True) (ctE_Visitation h0) ∧ ct_N U)) (va_Qv (fun u : Nat → Nat => u 0 = h0) (fun u t => va_P D wCl (ctW_Visitation cA p1 u) t.heap ∧ va_D (va_A (ctE_Visitation h0) sz) (ctW_Visitation cA p1 u)) (va_A (ctE_Visitation h0) sz)) 13 2584 (va_A (ctE_Visitation h0) sz) := by
  refine Met.ofW (cc := ctB_Visitation) (maxL := 2) (ret := none) (by decide) rfl ?_
  intro p e s m args below meth c s₁ B hml hv
  obtain ⟨rfl, hsz, hP, hK, hD0, hN⟩ := hv
  have hx := B.exec
  have hb := B.bytes
  have hr := B.returns
  have hts0 := atoms_spec (ws := Cond.code ctY_Visitation ctB_Visitation 2 none :: aAW) B.pre
  have hts : ∀ w ∈ aAW, w.before _ s = true := fun w hw => hts0 w (List.mem_cons_of_mem _ hw)
  have hown : s.vm.findClass "DioceseBook$Visitation" = some m.cls := findClass_of_methodNamed B.named
  have hlocks := B.notSynchronized
  have hin : meth.name = "<init>" := (name_of_methodNamed B.named B.method).1
  subst hsz
  have hD := hD0.self (sz := s.heap.size)
  generalize hAe : va_A (ctE_Visitation h0) s.heap.size = A at hD ⊢
  have hA : ∀ q : Nat, s.heap.size ≤ q → A q := fun q h => by rw [← hAe]; exact Or.inr h
  have hS : va_S A s.heap s.heap [] := va_S.rf
  have hl := lv_entry ([.ref h0, .ref p1]) (n := 2) (Nat.le_of_ble_eq_true rfl)
  rw [lg_entry_eq]
  generalize (lg_sl ([.ref h0, .ref p1]) ++ List.replicate (2 - (lg_sl ([.ref h0, .ref p1])).length) Slot.unset).toArray = ls at hl ⊢
  have hl : lv_has ls 2 [(0, .ref h0), (1, .ref p1)] := hl
  obtain ⟨Z0, hZ0⟩ : ∃ z : va_W, z = [] := ⟨_, rfl⟩
  have hP : va_P D wCl ((h0, .inr (10, [.null, .null, .int 0, .null, .null, .null, .null, .int 0, .int 0, .int 0, .int 0])) :: Z0) s.heap := by rw [hZ0]; exact hP
  have hD : va_D A ((h0, .inr (10, [.null, .null, .int 0, .null, .null, .null, .null, .int 0, .int 0, .int 0, .int 0])) :: Z0) := by rw [hZ0]; exact hD
  refine lv_aload_n hx hb ctD_Visitation_0 rfl (lv_at hl 0 rfl) ?_
  refine W.objInit hx hb hown (hts _ (ck_w_ok (i := 555) (by decide +kernel) : Cond.methodLink "DioceseBook$Visitation" 3 Lib.objectInit ∈ aAW)) (hts _ ct_oI) (hts _ ct_oC) rfl (by rw [hml]; exact hl.1) rfl ctD_Visitation_1 (Nat.le_of_ble_eq_true rfl) (Nat.le_of_ble_eq_true rfl) ?_
  refine W.eq (g2 := F0 m 4 ls []) rfl ?_
  refine lv_aload_n hx hb ctD_Visitation_4 rfl (lv_at hl 0 rfl) ?_
  refine lv_bipush (v := 8) hx hb ctD_Visitation_5 (by decide) ?_
  refine a_newa (atype := .int) (ty := .int) (c0 := cA 0) 0 hx hb (hts _ ct_a0) rfl (fun n h => by cases h) hK rfl hP hD hS hA (N' := 8) (a0 := (8, .inl (fun _ => 0))) (fun _ => rfl) (by decide) (by decide) (by decide) (Nat.le_of_ble_eq_true rfl) (Nat.le_of_ble_eq_true rfl) ctD_Visitation_7 (fun q7 H hP hD hS => ?_)
  obtain ⟨Z1, hZ1⟩ : ∃ z : va_W, z = Z0 ++ [(q7, .inl (cA 0, 8, .inl (fun _ => 0)))] := ⟨_, rfl⟩
  have hP : va_P D wCl ((h0, .inr (10, [.null, .null, .int 0, .null, .null, .null, .null, .int 0, .int 0, .int 0, .int 0])) :: Z1) H := by rw [hZ1]; exact hP
  have hD : va_D A ((h0, .inr (10, [.null, .null, .int 0, .null, .null, .null, .null, .int 0, .int 0, .int 0, .int 0])) :: Z1) := by rw [hZ1]; exact hD
  refine W.widen (k := 1) (n := 8) (by omega) (by omega) ?_
  refine va_putF (D := D) (ci := 10) (v := .ref q7) (ty := .array .int) (C := "DioceseBook$Visitation") (T := TX10) (N := 11) hx hb hts gk_cl10.2.1 tyX10 tyX10_ok nmX10 hown hK hP hD hS 0 rfl rfl 1 (by decide) (hts _ (ck_w_ok (i := 558) (by decide +kernel) : Cond.fieldLink "DioceseBook$Visitation" 9 "DioceseBook$Visitation" "living" "[I" ∈ aAW)) (fun _ h9 => h9) rfl hin rfl (by decide +kernel) rfl rfl (Nat.le_of_ble_eq_true rfl) ctD_Visitation_9 (fun H locs hP hD hS => ?_)
  have hP : va_P D wCl ((h0, .inr (10, [.null, .ref q7, .int 0, .null, .null, .null, .null, .int 0, .int 0, .int 0, .int 0])) :: Z1) H := hP
  have hD : va_D A ((h0, .inr (10, [.null, .ref q7, .int 0, .null, .null, .null, .null, .int 0, .int 0, .int 0, .int 0])) :: Z1) := hD
  refine lv_aload_n hx hb ctD_Visitation_12 rfl (lv_at hl 0 rfl) ?_
  refine lv_bipush (v := 8) hx hb ctD_Visitation_13 (by decide) ?_
  refine lv_sipush (v := 256) hx hb ctD_Visitation_15 (by decide) ?_
  refine a_mna hx hb hown (hts _ (ck_w_ok (i := 556) (by decide +kernel) : Cond.classLink "DioceseBook$Visitation" 13 "[[I" ∈ aAW)) hN.1 (hts _ ct_a0) hK rfl rfl hP hD hS hA (N' := 8) (K' := 256) (by decide) (by decide) (by decide) (by decide) (by decide) (by decide) (by decide) (Nat.le_of_ble_eq_true rfl) (Nat.le_of_ble_eq_true rfl) ctD_Visitation_18 (fun q18 r18 H hP hD hS => ?_)
  rw [List.append_assoc] at hP hD
  obtain ⟨Z2, hZ2⟩ : ∃ z : va_W, z = Z1 ++ ([(q18, .inl (cA 4, 8, .inr (.inr (.inr (.inr (fun i => if i < 8 then some (r18 i) else none))))))] ++ (List.range 8).map (fun i => (r18 i, .inl (cA 0, 256, .inl (fun _ => 0))))) := ⟨_, rfl⟩
  have hP : va_P D wCl ((h0, .inr (10, [.null, .ref q7, .int 0, .null, .null, .null, .null, .int 0, .int 0, .int 0, .int 0])) :: Z2) H := by rw [hZ2]; exact hP
  have hD : va_D A ((h0, .inr (10, [.null, .ref q7, .int 0, .null, .null, .null, .null, .int 0, .int 0, .int 0, .int 0])) :: Z2) := by rw [hZ2]; exact hD
  refine W.widen (k := 10) (n := 2064) (by omega) (by omega) ?_
  refine va_putF (D := D) (ci := 10) (v := .ref q18) (ty := .array (.array .int)) (C := "DioceseBook$Visitation") (T := TX10) (N := 11) hx hb hts gk_cl10.2.1 tyX10 tyX10_ok nmX10 hown hK hP hD hS 0 rfl rfl 3 (by decide) (hts _ (ck_w_ok (i := 560) (by decide +kernel) : Cond.fieldLink "DioceseBook$Visitation" 15 "DioceseBook$Visitation" "way" "[[I" ∈ aAW)) (fun _ h9 => h9) rfl hin rfl (by decide +kernel) rfl rfl (Nat.le_of_ble_eq_true rfl) ctD_Visitation_22 (fun H locs hP hD hS => ?_)
  have hP : va_P D wCl ((h0, .inr (10, [.null, .ref q7, .int 0, .ref q18, .null, .null, .null, .int 0, .int 0, .int 0, .int 0])) :: Z2) H := hP
  have hD : va_D A ((h0, .inr (10, [.null, .ref q7, .int 0, .ref q18, .null, .null, .null, .int 0, .int 0, .int 0, .int 0])) :: Z2) := hD
  refine lv_aload_n hx hb ctD_Visitation_25 rfl (lv_at hl 0 rfl) ?_
  refine lv_sipush (v := 256) hx hb ctD_Visitation_26 (by decide) ?_
  refine a_newa (atype := .int) (ty := .int) (c0 := cA 0) 0 hx hb (hts _ ct_a0) rfl (fun n h => by cases h) hK rfl hP hD hS hA (N' := 256) (a0 := (256, .inl (fun _ => 0))) (fun _ => rfl) (by decide) (by decide) (by decide) (Nat.le_of_ble_eq_true rfl) (Nat.le_of_ble_eq_true rfl) ctD_Visitation_29 (fun q29 H hP hD hS => ?_)
  obtain ⟨Z3, hZ3⟩ : ∃ z : va_W, z = Z2 ++ [(q29, .inl (cA 0, 256, .inl (fun _ => 0)))] := ⟨_, rfl⟩
  have hP : va_P D wCl ((h0, .inr (10, [.null, .ref q7, .int 0, .ref q18, .null, .null, .null, .int 0, .int 0, .int 0, .int 0])) :: Z3) H := by rw [hZ3]; exact hP
  have hD : va_D A ((h0, .inr (10, [.null, .ref q7, .int 0, .ref q18, .null, .null, .null, .int 0, .int 0, .int 0, .int 0])) :: Z3) := by rw [hZ3]; exact hD
  refine W.widen (k := 11) (n := 2320) (by omega) (by omega) ?_
  refine va_putF (D := D) (ci := 10) (v := .ref q29) (ty := .array .int) (C := "DioceseBook$Visitation") (T := TX10) (N := 11) hx hb hts gk_cl10.2.1 tyX10 tyX10_ok nmX10 hown hK hP hD hS 0 rfl rfl 4 (by decide) (hts _ (ck_w_ok (i := 561) (by decide +kernel) : Cond.fieldLink "DioceseBook$Visitation" 18 "DioceseBook$Visitation" "ride" "[I" ∈ aAW)) (fun _ h9 => h9) rfl hin rfl (by decide +kernel) rfl rfl (Nat.le_of_ble_eq_true rfl) ctD_Visitation_31 (fun H locs hP hD hS => ?_)
  have hP : va_P D wCl ((h0, .inr (10, [.null, .ref q7, .int 0, .ref q18, .ref q29, .null, .null, .int 0, .int 0, .int 0, .int 0])) :: Z3) H := hP
  have hD : va_D A ((h0, .inr (10, [.null, .ref q7, .int 0, .ref q18, .ref q29, .null, .null, .int 0, .int 0, .int 0, .int 0])) :: Z3) := hD
  refine lv_aload_n hx hb ctD_Visitation_34 rfl (lv_at hl 0 rfl) ?_
  refine lv_sipush (v := 256) hx hb ctD_Visitation_35 (by decide) ?_
  refine a_newa (atype := .int) (ty := .int) (c0 := cA 0) 0 hx hb (hts _ ct_a0) rfl (fun n h => by cases h) hK rfl hP hD hS hA (N' := 256) (a0 := (256, .inl (fun _ => 0))) (fun _ => rfl) (by decide) (by decide) (by decide) (Nat.le_of_ble_eq_true rfl) (Nat.le_of_ble_eq_true rfl) ctD_Visitation_38 (fun q38 H hP hD hS => ?_)
  obtain ⟨Z4, hZ4⟩ : ∃ z : va_W, z = Z3 ++ [(q38, .inl (cA 0, 256, .inl (fun _ => 0)))] := ⟨_, rfl⟩
  have hP : va_P D wCl ((h0, .inr (10, [.null, .ref q7, .int 0, .ref q18, .ref q29, .null, .null, .int 0, .int 0, .int 0, .int 0])) :: Z4) H := by rw [hZ4]; exact hP
  have hD : va_D A ((h0, .inr (10, [.null, .ref q7, .int 0, .ref q18, .ref q29, .null, .null, .int 0, .int 0, .int 0, .int 0])) :: Z4) := by rw [hZ4]; exact hD
  refine W.widen (k := 12) (n := 2576) (by omega) (by omega) ?_
  refine va_putF (D := D) (ci := 10) (v := .ref q38) (ty := .array .int) (C := "DioceseBook$Visitation") (T := TX10) (N := 11) hx hb hts gk_cl10.2.1 tyX10 tyX10_ok nmX10 hown hK hP hD hS 0 rfl rfl 5 (by decide) (hts _ (ck_w_ok (i := 562) (by decide +kernel) : Cond.fieldLink "DioceseBook$Visitation" 21 "DioceseBook$Visitation" "weight" "[I" ∈ aAW)) (fun _ h9 => h9) rfl hin rfl (by decide +kernel) rfl rfl (Nat.le_of_ble_eq_true rfl) ctD_Visitation_40 (fun H locs hP hD hS => ?_)
  have hP : va_P D wCl ((h0, .inr (10, [.null, .ref q7, .int 0, .ref q18, .ref q29, .ref q38, .null, .int 0, .int 0, .int 0, .int 0])) :: Z4) H := hP
  have hD : va_D A ((h0, .inr (10, [.null, .ref q7, .int 0, .ref q18, .ref q29, .ref q38, .null, .int 0, .int 0, .int 0, .int 0])) :: Z4) := hD
  refine lv_aload_n hx hb ctD_Visitation_43 rfl (lv_at hl 0 rfl) ?_
  refine lv_bipush (v := 8) hx hb ctD_Visitation_44 (by decide) ?_
  refine a_newa (atype := .int) (ty := .int) (c0 := cA 0) 0 hx hb (hts _ ct_a0) rfl (fun n h => by cases h) hK rfl hP hD hS hA (N' := 8) (a0 := (8, .inl (fun _ => 0))) (fun _ => rfl) (by decide) (by decide) (by decide) (Nat.le_of_ble_eq_true rfl) (Nat.le_of_ble_eq_true rfl) ctD_Visitation_46 (fun q46 H hP hD hS => ?_)
  obtain ⟨Z5, hZ5⟩ : ∃ z : va_W, z = Z4 ++ [(q46, .inl (cA 0, 8, .inl (fun _ => 0)))] := ⟨_, rfl⟩
  have hP : va_P D wCl ((h0, .inr (10, [.null, .ref q7, .int 0, .ref q18, .ref q29, .ref q38, .null, .int 0, .int 0, .int 0, .int 0])) :: Z5) H := by rw [hZ5]; exact hP
  have hD : va_D A ((h0, .inr (10, [.null, .ref q7, .int 0, .ref q18, .ref q29, .ref q38, .null, .int 0, .int 0, .int 0, .int 0])) :: Z5) := by rw [hZ5]; exact hD
  refine W.widen (k := 13) (n := 2584) (by omega) (by omega) ?_
  refine va_putF (D := D) (ci := 10) (v := .ref q46) (ty := .array .int) (C := "DioceseBook$Visitation") (T := TX10) (N := 11) hx hb hts gk_cl10.2.1 tyX10 tyX10_ok nmX10 hown hK hP hD hS 0 rfl rfl 6 (by decide) (hts _ (ck_w_ok (i := 563) (by decide +kernel) : Cond.fieldLink "DioceseBook$Visitation" 24 "DioceseBook$Visitation" "dayPart" "[I" ∈ aAW)) (fun _ h9 => h9) rfl hin rfl (by decide +kernel) rfl rfl (Nat.le_of_ble_eq_true rfl) ctD_Visitation_48 (fun H locs hP hD hS => ?_)
  have hP : va_P D wCl ((h0, .inr (10, [.null, .ref q7, .int 0, .ref q18, .ref q29, .ref q38, .ref q46, .int 0, .int 0, .int 0, .int 0])) :: Z5) H := hP
  have hD : va_D A ((h0, .inr (10, [.null, .ref q7, .int 0, .ref q18, .ref q29, .ref q38, .ref q46, .int 0, .int 0, .int 0, .int 0])) :: Z5) := hD
  refine lv_aload_n hx hb ctD_Visitation_51 rfl (lv_at hl 0 rfl) ?_
  refine lv_aload_n hx hb ctD_Visitation_52 rfl (lv_at hl 1 rfl) ?_
  refine va_putF (D := D) (ci := 10) (v := .ref p1) (ty := .object "DioceseBook$Register") (C := "DioceseBook$Visitation") (T := TX10) (N := 11) hx hb hts gk_cl10.2.1 tyX10 tyX10_ok nmX10 hown hK hP hD hS 0 rfl rfl 0 (by decide) (hts _ (ck_w_ok (i := 557) (by decide +kernel) : Cond.fieldLink "DioceseBook$Visitation" 27 "DioceseBook$Visitation" "register" "LDioceseBook$Register;" ∈ aAW)) (fun _ h9 => h9) rfl hin rfl (by decide +kernel) rfl rfl (Nat.le_of_ble_eq_true rfl) ctD_Visitation_53 (fun H locs hP hD hS => ?_)
  have hP : va_P D wCl ((h0, .inr (10, [.ref p1, .ref q7, .int 0, .ref q18, .ref q29, .ref q38, .ref q46, .int 0, .int 0, .int 0, .int 0])) :: Z5) H := hP
  have hD : va_D A ((h0, .inr (10, [.ref p1, .ref q7, .int 0, .ref q18, .ref q29, .ref q38, .ref q46, .int 0, .int 0, .int 0, .int 0])) :: Z5) := hD
  subst hAe
  subst hZ0 hZ1 hZ2 hZ3 hZ4 hZ5
  rw [ct_if (ctU_Visitation_r18 h0 q7 q18 r18 q29 q38 q46), ct_map (ctU_Visitation_r18 h0 q7 q18 r18 q29 q38 q46)] at hP hD
  refine W.vret hx hb hr (fun t ht hW => ⟨⟨(ctU_Visitation h0 q7 q18 r18 q29 q38 q46), rfl, rfl, by rw [ht]; exact hP, hD⟩, hS.F ht⟩) hS.2.2 ctD_Visitation_56 hlocks
theorem ctWc_Visitation {cA : Nat → ClassId} {p1 : Nat} {u u' : Nat → Nat} (h : ∀ k, k < 14 → u k = u' k) : ctW_Visitation cA p1 u = ctW_Visitation cA p1 u' := by
  unfold ctW_Visitation
  rw [h 0 (by decide)]
  rw [h 1 (by decide)]
  rw [h 2 (by decide)]
  rw [ct_if (r := fun i => u (3 + i)) (r' := fun i => u' (3 + i)) (fun i hi => h _ (by omega)), ct_map (r := fun i => u (3 + i)) (r' := fun i => u' (3 + i)) (fun i hi => h _ (by omega))]
  rw [h 11 (by decide)]
  rw [h 12 (by decide)]
  rw [h 13 (by decide)]
