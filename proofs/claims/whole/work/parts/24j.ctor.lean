/-! the class DioceseBook of Terriers: what it makes -/
def ctW_Terriers (cA : Nat → ClassId) (u : Nat → Nat) : va_W := (((((((([(u 0, .inr (9, [.ref (u 1), .ref (u 2), .ref (u 27), .ref (u 52), .ref (u 77), .ref (u 87), .int (-1)])), (u 1, .inl (cA 0, 24, .inl (fun _ => 0))), (u 2, .inl (cA 4, 24, .inr (.inr (.inr (.inr (fun i => if i < 24 then some (u (3 + i)) else none))))))] ++ (List.range 24).map (fun i => (u (3 + i), .inl (cA 0, 8, .inl (fun _ => 0))))) ++ [(u 27, .inl (cA 4, 24, .inr (.inr (.inr (.inr (fun i => if i < 24 then some (u (28 + i)) else none))))))]) ++ (List.range 24).map (fun i => (u (28 + i), .inl (cA 0, 8, .inl (fun _ => 0))))) ++ [(u 52, .inl (cA 4, 24, .inr (.inr (.inr (.inr (fun i => if i < 24 then some (u (53 + i)) else none))))))]) ++ (List.range 24).map (fun i => (u (53 + i), .inl (cA 0, 8, .inl (fun _ => 0))))) ++ [(u 77, .inl (cA 4, 9, .inr (.inr (.inr (.inr (fun i => if i < 9 then some (u (78 + i)) else none))))))]) ++ (List.range 9).map (fun i => (u (78 + i), .inl (cA 0, 256, .inl (fun _ => 0))))) ++ [(u 87, .inl (cA 0, 8, .inl (fun _ => 0)))])
abbrev ctB_Terriers : ByteArray := prog_11_method_1_code
def ctY_Terriers : MethodName := ⟨"DioceseBook$Terriers", "<init>", "()V"⟩
def ctE_Terriers (h0 : Nat) : va_W := [(h0, .inr (9, [.null, .null, .null, .null, .null, .null, .int 0]))]
theorem ctD_Terriers_0 : decode ctB_Terriers 0 = .ok (.aload_n 0, 1) := by decide +kernel
theorem ctD_Terriers_1 : decode ctB_Terriers 1 = .ok (.invokespecial 5, 3) := by decide +kernel
theorem ctD_Terriers_4 : decode ctB_Terriers 4 = .ok (.aload_n 0, 1) := by decide +kernel
theorem ctD_Terriers_5 : decode ctB_Terriers 5 = .ok (.bipush 24, 2) := by decide +kernel
theorem ctD_Terriers_7 : decode ctB_Terriers 7 = .ok (.newarray .int, 2) := by decide +kernel
theorem ctD_Terriers_9 : decode ctB_Terriers 9 = .ok (.putfield 13, 3) := by decide +kernel
theorem ctD_Terriers_12 : decode ctB_Terriers 12 = .ok (.aload_n 0, 1) := by decide +kernel
theorem ctD_Terriers_13 : decode ctB_Terriers 13 = .ok (.bipush 24, 2) := by decide +kernel
theorem ctD_Terriers_15 : decode ctB_Terriers 15 = .ok (.bipush 8, 2) := by decide +kernel
theorem ctD_Terriers_17 : decode ctB_Terriers 17 = .ok (.multianewarray 17 2, 4) := by decide +kernel
theorem ctD_Terriers_21 : decode ctB_Terriers 21 = .ok (.putfield 19, 3) := by decide +kernel
theorem ctD_Terriers_24 : decode ctB_Terriers 24 = .ok (.aload_n 0, 1) := by decide +kernel
theorem ctD_Terriers_25 : decode ctB_Terriers 25 = .ok (.bipush 24, 2) := by decide +kernel
theorem ctD_Terriers_27 : decode ctB_Terriers 27 = .ok (.bipush 8, 2) := by decide +kernel
theorem ctD_Terriers_29 : decode ctB_Terriers 29 = .ok (.multianewarray 17 2, 4) := by decide +kernel
theorem ctD_Terriers_33 : decode ctB_Terriers 33 = .ok (.putfield 22, 3) := by decide +kernel
theorem ctD_Terriers_36 : decode ctB_Terriers 36 = .ok (.aload_n 0, 1) := by decide +kernel
theorem ctD_Terriers_37 : decode ctB_Terriers 37 = .ok (.bipush 24, 2) := by decide +kernel
theorem ctD_Terriers_39 : decode ctB_Terriers 39 = .ok (.bipush 8, 2) := by decide +kernel
theorem ctD_Terriers_41 : decode ctB_Terriers 41 = .ok (.multianewarray 17 2, 4) := by decide +kernel
theorem ctD_Terriers_45 : decode ctB_Terriers 45 = .ok (.putfield 25, 3) := by decide +kernel
theorem ctD_Terriers_48 : decode ctB_Terriers 48 = .ok (.aload_n 0, 1) := by decide +kernel
theorem ctD_Terriers_49 : decode ctB_Terriers 49 = .ok (.bipush 9, 2) := by decide +kernel
theorem ctD_Terriers_51 : decode ctB_Terriers 51 = .ok (.sipush 256, 3) := by decide +kernel
theorem ctD_Terriers_54 : decode ctB_Terriers 54 = .ok (.multianewarray 17 2, 4) := by decide +kernel
theorem ctD_Terriers_58 : decode ctB_Terriers 58 = .ok (.putfield 28, 3) := by decide +kernel
theorem ctD_Terriers_61 : decode ctB_Terriers 61 = .ok (.aload_n 0, 1) := by decide +kernel
theorem ctD_Terriers_62 : decode ctB_Terriers 62 = .ok (.bipush 8, 2) := by decide +kernel
theorem ctD_Terriers_64 : decode ctB_Terriers 64 = .ok (.newarray .int, 2) := by decide +kernel
theorem ctD_Terriers_66 : decode ctB_Terriers 66 = .ok (.putfield 31, 3) := by decide +kernel
theorem ctD_Terriers_69 : decode ctB_Terriers 69 = .ok (.aload_n 0, 1) := by decide +kernel
theorem ctD_Terriers_70 : decode ctB_Terriers 70 = .ok (.iconst (-1), 1) := by decide +kernel
theorem ctD_Terriers_71 : decode ctB_Terriers 71 = .ok (.putfield 34, 3) := by decide +kernel
theorem ctD_Terriers_74 : decode ctB_Terriers 74 = .ok (.return_, 1) := by decide +kernel
theorem ctC_Terriers : Cond.code ctY_Terriers ctB_Terriers 1 none ∈ aAW := ck_w_ok (i := 479) (by decide +kernel)
theorem ctI_Terriers : Cond.instanceMethod ctY_Terriers ∈ aAW := ck_w_ok (i := 478) (by decide +kernel)
def ctR_Terriers : Room := { frames := 1, cells := 87, slots := 2993, locals := 12 }
def ctU_Terriers (h0 : Nat) (q7 : Nat) (q17 : Nat) (r17 : Nat → Nat) (q29 : Nat) (r29 : Nat → Nat) (q41 : Nat) (r41 : Nat → Nat) (q54 : Nat) (r54 : Nat → Nat) (q64 : Nat) : Nat → Nat := fun k => (cond (Nat.blt k 28) (cond (Nat.blt k 2) (cond (Nat.blt k 1) h0 q7) (cond (Nat.blt k 3) q17 (cond (Nat.blt k 27) (r17 (k - 3)) q29))) (cond (Nat.blt k 77) (cond (Nat.blt k 52) (r29 (k - 28)) (cond (Nat.blt k 53) q41 (r41 (k - 53)))) (cond (Nat.blt k 78) q54 (cond (Nat.blt k 87) (r54 (k - 78)) q64))))
theorem ctU_Terriers_r17 (h0 : Nat) (q7 : Nat) (q17 : Nat) (r17 : Nat → Nat) (q29 : Nat) (r29 : Nat → Nat) (q41 : Nat) (r41 : Nat → Nat) (q54 : Nat) (r54 : Nat → Nat) (q64 : Nat) : ∀ i, i < 24 → r17 i = ctU_Terriers h0 q7 q17 r17 q29 r29 q41 r41 q54 r54 q64 (3 + i) := fun i hi => by
  unfold ctU_Terriers
  rw [ct_cp (a := 3 + i) (b := 28) (by omega), ct_cn (a := 3 + i) (b := 2) (by omega), ct_cn (a := 3 + i) (b := 3) (by omega), ct_cp (a := 3 + i) (b := 27) (by omega), Nat.add_sub_cancel_left]
theorem ctU_Terriers_r29 (h0 : Nat) (q7 : Nat) (q17 : Nat) (r17 : Nat → Nat) (q29 : Nat) (r29 : Nat → Nat) (q41 : Nat) (r41 : Nat → Nat) (q54 : Nat) (r54 : Nat → Nat) (q64 : Nat) : ∀ i, i < 24 → r29 i = ctU_Terriers h0 q7 q17 r17 q29 r29 q41 r41 q54 r54 q64 (28 + i) := fun i hi => by
  unfold ctU_Terriers
  rw [ct_cn (a := 28 + i) (b := 28) (by omega), ct_cp (a := 28 + i) (b := 77) (by omega), ct_cp (a := 28 + i) (b := 52) (by omega), Nat.add_sub_cancel_left]
theorem ctU_Terriers_r41 (h0 : Nat) (q7 : Nat) (q17 : Nat) (r17 : Nat → Nat) (q29 : Nat) (r29 : Nat → Nat) (q41 : Nat) (r41 : Nat → Nat) (q54 : Nat) (r54 : Nat → Nat) (q64 : Nat) : ∀ i, i < 24 → r41 i = ctU_Terriers h0 q7 q17 r17 q29 r29 q41 r41 q54 r54 q64 (53 + i) := fun i hi => by
  unfold ctU_Terriers
  rw [ct_cn (a := 53 + i) (b := 28) (by omega), ct_cp (a := 53 + i) (b := 77) (by omega), ct_cn (a := 53 + i) (b := 52) (by omega), ct_cn (a := 53 + i) (b := 53) (by omega), Nat.add_sub_cancel_left]
theorem ctU_Terriers_r54 (h0 : Nat) (q7 : Nat) (q17 : Nat) (r17 : Nat → Nat) (q29 : Nat) (r29 : Nat → Nat) (q41 : Nat) (r41 : Nat → Nat) (q54 : Nat) (r54 : Nat → Nat) (q64 : Nat) : ∀ i, i < 9 → r54 i = ctU_Terriers h0 q7 q17 r17 q29 r29 q41 r41 q54 r54 q64 (78 + i) := fun i hi => by
  unfold ctU_Terriers
  rw [ct_cn (a := 78 + i) (b := 28) (by omega), ct_cn (a := 78 + i) (b := 77) (by omega), ct_cn (a := 78 + i) (b := 78) (by omega), ct_cp (a := 78 + i) (b := 87) (by omega), Nat.add_sub_cancel_left]
set_option maxHeartbeats 8000000 in
set_option maxRecDepth 100000 in
theorem ct_Terriers (l : Launch) (D : va_G) (cA : Nat → ClassId) (h0 sz : Nat) : Met l ctY_Terriers (Cond.code ctY_Terriers ctB_Terriers 1 none :: aAW) ctR_Terriers (va_Pc [.ref h0] (fun U => U.heap.size = sz ∧ va_P D wCl (ctE_Terriers h0) U.heap ∧ va_K D wCl (aTys cA) U ∧ va_D (fun _ => True) (ctE_Terriers h0) ∧ ct_N U)) (va_Qv (fun u : Nat → Nat => u 0 = h0) (fun u t => va_P D wCl (ctW_Terriers cA  u) t.heap ∧ va_D (va_A (ctE_Terriers h0) sz) (ctW_Terriers cA  u)) (va_A (ctE_Terriers h0) sz)) 87 2993 (va_A (ctE_Terriers h0) sz) := by
  refine Met.ofW (cc := ctB_Terriers) (maxL := 1) (ret := none) (by decide) rfl ?_
  intro p e s m args below meth c s₁ B hml hv
  obtain ⟨rfl, hsz, hP, hK, hD0, hN⟩ := hv
  have hx := B.exec
  have hb := B.bytes
  have hr := B.returns
  have hts0 := atoms_spec (ws := Cond.code ctY_Terriers ctB_Terriers 1 none :: aAW) B.pre
  have hts : ∀ w ∈ aAW, w.before _ s = true := fun w hw => hts0 w (List.mem_cons_of_mem _ hw)
  have hown : s.vm.findClass "DioceseBook$Terriers" = some m.cls := findClass_of_methodNamed B.named
  have hlocks := B.notSynchronized
  have hin : meth.name = "<init>" := (name_of_methodNamed B.named B.method).1
  subst hsz
  have hD := hD0.self (sz := s.heap.size)
  generalize hAe : va_A (ctE_Terriers h0) s.heap.size = A at hD ⊢
  have hA : ∀ q : Nat, s.heap.size ≤ q → A q := fun q h => by rw [← hAe]; exact Or.inr h
  have hS : va_S A s.heap s.heap [] := va_S.rf
  have hl := lv_entry ([.ref h0]) (n := 1) (Nat.le_of_ble_eq_true rfl)
  rw [lg_entry_eq]
  generalize (lg_sl ([.ref h0]) ++ List.replicate (1 - (lg_sl ([.ref h0])).length) Slot.unset).toArray = ls at hl ⊢
  have hl : lv_has ls 1 [(0, .ref h0)] := hl
  obtain ⟨Z0, hZ0⟩ : ∃ z : va_W, z = [] := ⟨_, rfl⟩
  have hP : va_P D wCl ((h0, .inr (9, [.null, .null, .null, .null, .null, .null, .int 0])) :: Z0) s.heap := by rw [hZ0]; exact hP
  have hD : va_D A ((h0, .inr (9, [.null, .null, .null, .null, .null, .null, .int 0])) :: Z0) := by rw [hZ0]; exact hD
  refine lv_aload_n hx hb ctD_Terriers_0 rfl (lv_at hl 0 rfl) ?_
  refine W.objInit hx hb hown (hts _ (ck_w_ok (i := 480) (by decide +kernel) : Cond.methodLink "DioceseBook$Terriers" 5 Lib.objectInit ∈ aAW)) (hts _ ct_oI) (hts _ ct_oC) rfl (by rw [hml]; exact hl.1) rfl ctD_Terriers_1 (Nat.le_of_ble_eq_true rfl) (Nat.le_of_ble_eq_true rfl) ?_
  refine W.eq (g2 := F0 m 4 ls []) rfl ?_
  refine lv_aload_n hx hb ctD_Terriers_4 rfl (lv_at hl 0 rfl) ?_
  refine lv_bipush (v := 24) hx hb ctD_Terriers_5 (by decide) ?_
  refine a_newa (atype := .int) (ty := .int) (c0 := cA 0) 0 hx hb (hts _ ct_a0) rfl (fun n h => by cases h) hK rfl hP hD hS hA (N' := 24) (a0 := (24, .inl (fun _ => 0))) (fun _ => rfl) (by decide) (by decide) (by decide) (Nat.le_of_ble_eq_true rfl) (Nat.le_of_ble_eq_true rfl) ctD_Terriers_7 (fun q7 H hP hD hS => ?_)
  obtain ⟨Z1, hZ1⟩ : ∃ z : va_W, z = Z0 ++ [(q7, .inl (cA 0, 24, .inl (fun _ => 0)))] := ⟨_, rfl⟩
  have hP : va_P D wCl ((h0, .inr (9, [.null, .null, .null, .null, .null, .null, .int 0])) :: Z1) H := by rw [hZ1]; exact hP
  have hD : va_D A ((h0, .inr (9, [.null, .null, .null, .null, .null, .null, .int 0])) :: Z1) := by rw [hZ1]; exact hD
  refine W.widen (k := 1) (n := 24) (by omega) (by omega) ?_
  refine va_putF (D := D) (ci := 9) (v := .ref q7) (ty := .array .int) (C := "DioceseBook$Terriers") (T := TX9) (N := 7) hx hb hts gk_cl9.2.1 tyX9 tyX9_ok nmX9 hown hK hP hD hS 0 rfl rfl 0 (by decide) (hts _ (ck_w_ok (i := 482) (by decide +kernel) : Cond.fieldLink "DioceseBook$Terriers" 13 "DioceseBook$Terriers" "size" "[I" ∈ aAW)) (fun _ h9 => h9) rfl hin rfl (by decide +kernel) rfl rfl (Nat.le_of_ble_eq_true rfl) ctD_Terriers_9 (fun H locs hP hD hS => ?_)
  have hP : va_P D wCl ((h0, .inr (9, [.ref q7, .null, .null, .null, .null, .null, .int 0])) :: Z1) H := hP
  have hD : va_D A ((h0, .inr (9, [.ref q7, .null, .null, .null, .null, .null, .int 0])) :: Z1) := hD
  refine lv_aload_n hx hb ctD_Terriers_12 rfl (lv_at hl 0 rfl) ?_
  refine lv_bipush (v := 24) hx hb ctD_Terriers_13 (by decide) ?_
  refine lv_bipush (v := 8) hx hb ctD_Terriers_15 (by decide) ?_
  refine a_mna hx hb hown (hts _ (ck_w_ok (i := 481) (by decide +kernel) : Cond.classLink "DioceseBook$Terriers" 17 "[[I" ∈ aAW)) hN.1 (hts _ ct_a0) hK rfl rfl hP hD hS hA (N' := 24) (K' := 8) (by decide) (by decide) (by decide) (by decide) (by decide) (by decide) (by decide) (Nat.le_of_ble_eq_true rfl) (Nat.le_of_ble_eq_true rfl) ctD_Terriers_17 (fun q17 r17 H hP hD hS => ?_)
  rw [List.append_assoc] at hP hD
  obtain ⟨Z2, hZ2⟩ : ∃ z : va_W, z = Z1 ++ ([(q17, .inl (cA 4, 24, .inr (.inr (.inr (.inr (fun i => if i < 24 then some (r17 i) else none))))))] ++ (List.range 24).map (fun i => (r17 i, .inl (cA 0, 8, .inl (fun _ => 0))))) := ⟨_, rfl⟩
  have hP : va_P D wCl ((h0, .inr (9, [.ref q7, .null, .null, .null, .null, .null, .int 0])) :: Z2) H := by rw [hZ2]; exact hP
  have hD : va_D A ((h0, .inr (9, [.ref q7, .null, .null, .null, .null, .null, .int 0])) :: Z2) := by rw [hZ2]; exact hD
  refine W.widen (k := 26) (n := 240) (by omega) (by omega) ?_
  refine va_putF (D := D) (ci := 9) (v := .ref q17) (ty := .array (.array .int)) (C := "DioceseBook$Terriers") (T := TX9) (N := 7) hx hb hts gk_cl9.2.1 tyX9 tyX9_ok nmX9 hown hK hP hD hS 0 rfl rfl 1 (by decide) (hts _ (ck_w_ok (i := 483) (by decide +kernel) : Cond.fieldLink "DioceseBook$Terriers" 19 "DioceseBook$Terriers" "name" "[[I" ∈ aAW)) (fun _ h9 => h9) rfl hin rfl (by decide +kernel) rfl rfl (Nat.le_of_ble_eq_true rfl) ctD_Terriers_21 (fun H locs hP hD hS => ?_)
  have hP : va_P D wCl ((h0, .inr (9, [.ref q7, .ref q17, .null, .null, .null, .null, .int 0])) :: Z2) H := hP
  have hD : va_D A ((h0, .inr (9, [.ref q7, .ref q17, .null, .null, .null, .null, .int 0])) :: Z2) := hD
  refine lv_aload_n hx hb ctD_Terriers_24 rfl (lv_at hl 0 rfl) ?_
  refine lv_bipush (v := 24) hx hb ctD_Terriers_25 (by decide) ?_
  refine lv_bipush (v := 8) hx hb ctD_Terriers_27 (by decide) ?_
  refine a_mna hx hb hown (hts _ (ck_w_ok (i := 481) (by decide +kernel) : Cond.classLink "DioceseBook$Terriers" 17 "[[I" ∈ aAW)) hN.1 (hts _ ct_a0) hK rfl rfl hP hD hS hA (N' := 24) (K' := 8) (by decide) (by decide) (by decide) (by decide) (by decide) (by decide) (by decide) (Nat.le_of_ble_eq_true rfl) (Nat.le_of_ble_eq_true rfl) ctD_Terriers_29 (fun q29 r29 H hP hD hS => ?_)
  rw [List.append_assoc] at hP hD
  obtain ⟨Z3, hZ3⟩ : ∃ z : va_W, z = Z2 ++ ([(q29, .inl (cA 4, 24, .inr (.inr (.inr (.inr (fun i => if i < 24 then some (r29 i) else none))))))] ++ (List.range 24).map (fun i => (r29 i, .inl (cA 0, 8, .inl (fun _ => 0))))) := ⟨_, rfl⟩
  have hP : va_P D wCl ((h0, .inr (9, [.ref q7, .ref q17, .null, .null, .null, .null, .int 0])) :: Z3) H := by rw [hZ3]; exact hP
  have hD : va_D A ((h0, .inr (9, [.ref q7, .ref q17, .null, .null, .null, .null, .int 0])) :: Z3) := by rw [hZ3]; exact hD
  refine W.widen (k := 51) (n := 456) (by omega) (by omega) ?_
  refine va_putF (D := D) (ci := 9) (v := .ref q29) (ty := .array (.array .int)) (C := "DioceseBook$Terriers") (T := TX9) (N := 7) hx hb hts gk_cl9.2.1 tyX9 tyX9_ok nmX9 hown hK hP hD hS 0 rfl rfl 2 (by decide) (hts _ (ck_w_ok (i := 484) (by decide +kernel) : Cond.fieldLink "DioceseBook$Terriers" 22 "DioceseBook$Terriers" "acres" "[[I" ∈ aAW)) (fun _ h9 => h9) rfl hin rfl (by decide +kernel) rfl rfl (Nat.le_of_ble_eq_true rfl) ctD_Terriers_33 (fun H locs hP hD hS => ?_)
  have hP : va_P D wCl ((h0, .inr (9, [.ref q7, .ref q17, .ref q29, .null, .null, .null, .int 0])) :: Z3) H := hP
  have hD : va_D A ((h0, .inr (9, [.ref q7, .ref q17, .ref q29, .null, .null, .null, .int 0])) :: Z3) := hD
  refine lv_aload_n hx hb ctD_Terriers_36 rfl (lv_at hl 0 rfl) ?_
  refine lv_bipush (v := 24) hx hb ctD_Terriers_37 (by decide) ?_
  refine lv_bipush (v := 8) hx hb ctD_Terriers_39 (by decide) ?_
  refine a_mna hx hb hown (hts _ (ck_w_ok (i := 481) (by decide +kernel) : Cond.classLink "DioceseBook$Terriers" 17 "[[I" ∈ aAW)) hN.1 (hts _ ct_a0) hK rfl rfl hP hD hS hA (N' := 24) (K' := 8) (by decide) (by decide) (by decide) (by decide) (by decide) (by decide) (by decide) (Nat.le_of_ble_eq_true rfl) (Nat.le_of_ble_eq_true rfl) ctD_Terriers_41 (fun q41 r41 H hP hD hS => ?_)
  rw [List.append_assoc] at hP hD
  obtain ⟨Z4, hZ4⟩ : ∃ z : va_W, z = Z3 ++ ([(q41, .inl (cA 4, 24, .inr (.inr (.inr (.inr (fun i => if i < 24 then some (r41 i) else none))))))] ++ (List.range 24).map (fun i => (r41 i, .inl (cA 0, 8, .inl (fun _ => 0))))) := ⟨_, rfl⟩
  have hP : va_P D wCl ((h0, .inr (9, [.ref q7, .ref q17, .ref q29, .null, .null, .null, .int 0])) :: Z4) H := by rw [hZ4]; exact hP
  have hD : va_D A ((h0, .inr (9, [.ref q7, .ref q17, .ref q29, .null, .null, .null, .int 0])) :: Z4) := by rw [hZ4]; exact hD
  refine W.widen (k := 76) (n := 672) (by omega) (by omega) ?_
  refine va_putF (D := D) (ci := 9) (v := .ref q41) (ty := .array (.array .int)) (C := "DioceseBook$Terriers") (T := TX9) (N := 7) hx hb hts gk_cl9.2.1 tyX9 tyX9_ok nmX9 hown hK hP hD hS 0 rfl rfl 3 (by decide) (hts _ (ck_w_ok (i := 485) (by decide +kernel) : Cond.fieldLink "DioceseBook$Terriers" 25 "DioceseBook$Terriers" "neighbour" "[[I" ∈ aAW)) (fun _ h9 => h9) rfl hin rfl (by decide +kernel) rfl rfl (Nat.le_of_ble_eq_true rfl) ctD_Terriers_45 (fun H locs hP hD hS => ?_)
  have hP : va_P D wCl ((h0, .inr (9, [.ref q7, .ref q17, .ref q29, .ref q41, .null, .null, .int 0])) :: Z4) H := hP
  have hD : va_D A ((h0, .inr (9, [.ref q7, .ref q17, .ref q29, .ref q41, .null, .null, .int 0])) :: Z4) := hD
  refine lv_aload_n hx hb ctD_Terriers_48 rfl (lv_at hl 0 rfl) ?_
  refine lv_bipush (v := 9) hx hb ctD_Terriers_49 (by decide) ?_
  refine lv_sipush (v := 256) hx hb ctD_Terriers_51 (by decide) ?_
  refine a_mna hx hb hown (hts _ (ck_w_ok (i := 481) (by decide +kernel) : Cond.classLink "DioceseBook$Terriers" 17 "[[I" ∈ aAW)) hN.1 (hts _ ct_a0) hK rfl rfl hP hD hS hA (N' := 9) (K' := 256) (by decide) (by decide) (by decide) (by decide) (by decide) (by decide) (by decide) (Nat.le_of_ble_eq_true rfl) (Nat.le_of_ble_eq_true rfl) ctD_Terriers_54 (fun q54 r54 H hP hD hS => ?_)
  rw [List.append_assoc] at hP hD
  obtain ⟨Z5, hZ5⟩ : ∃ z : va_W, z = Z4 ++ ([(q54, .inl (cA 4, 9, .inr (.inr (.inr (.inr (fun i => if i < 9 then some (r54 i) else none))))))] ++ (List.range 9).map (fun i => (r54 i, .inl (cA 0, 256, .inl (fun _ => 0))))) := ⟨_, rfl⟩
  have hP : va_P D wCl ((h0, .inr (9, [.ref q7, .ref q17, .ref q29, .ref q41, .null, .null, .int 0])) :: Z5) H := by rw [hZ5]; exact hP
  have hD : va_D A ((h0, .inr (9, [.ref q7, .ref q17, .ref q29, .ref q41, .null, .null, .int 0])) :: Z5) := by rw [hZ5]; exact hD
  refine W.widen (k := 86) (n := 2985) (by omega) (by omega) ?_
  refine va_putF (D := D) (ci := 9) (v := .ref q54) (ty := .array (.array .int)) (C := "DioceseBook$Terriers") (T := TX9) (N := 7) hx hb hts gk_cl9.2.1 tyX9 tyX9_ok nmX9 hown hK hP hD hS 0 rfl rfl 4 (by decide) (hts _ (ck_w_ok (i := 486) (by decide +kernel) : Cond.fieldLink "DioceseBook$Terriers" 28 "DioceseBook$Terriers" "cost" "[[I" ∈ aAW)) (fun _ h9 => h9) rfl hin rfl (by decide +kernel) rfl rfl (Nat.le_of_ble_eq_true rfl) ctD_Terriers_58 (fun H locs hP hD hS => ?_)
  have hP : va_P D wCl ((h0, .inr (9, [.ref q7, .ref q17, .ref q29, .ref q41, .ref q54, .null, .int 0])) :: Z5) H := hP
  have hD : va_D A ((h0, .inr (9, [.ref q7, .ref q17, .ref q29, .ref q41, .ref q54, .null, .int 0])) :: Z5) := hD
  refine lv_aload_n hx hb ctD_Terriers_61 rfl (lv_at hl 0 rfl) ?_
  refine lv_bipush (v := 8) hx hb ctD_Terriers_62 (by decide) ?_
  refine a_newa (atype := .int) (ty := .int) (c0 := cA 0) 0 hx hb (hts _ ct_a0) rfl (fun n h => by cases h) hK rfl hP hD hS hA (N' := 8) (a0 := (8, .inl (fun _ => 0))) (fun _ => rfl) (by decide) (by decide) (by decide) (Nat.le_of_ble_eq_true rfl) (Nat.le_of_ble_eq_true rfl) ctD_Terriers_64 (fun q64 H hP hD hS => ?_)
  obtain ⟨Z6, hZ6⟩ : ∃ z : va_W, z = Z5 ++ [(q64, .inl (cA 0, 8, .inl (fun _ => 0)))] := ⟨_, rfl⟩
  have hP : va_P D wCl ((h0, .inr (9, [.ref q7, .ref q17, .ref q29, .ref q41, .ref q54, .null, .int 0])) :: Z6) H := by rw [hZ6]; exact hP
  have hD : va_D A ((h0, .inr (9, [.ref q7, .ref q17, .ref q29, .ref q41, .ref q54, .null, .int 0])) :: Z6) := by rw [hZ6]; exact hD
  refine W.widen (k := 87) (n := 2993) (by omega) (by omega) ?_
  refine va_putF (D := D) (ci := 9) (v := .ref q64) (ty := .array .int) (C := "DioceseBook$Terriers") (T := TX9) (N := 7) hx hb hts gk_cl9.2.1 tyX9 tyX9_ok nmX9 hown hK hP hD hS 0 rfl rfl 5 (by decide) (hts _ (ck_w_ok (i := 487) (by decide +kernel) : Cond.fieldLink "DioceseBook$Terriers" 31 "DioceseBook$Terriers" "partners" "[I" ∈ aAW)) (fun _ h9 => h9) rfl hin rfl (by decide +kernel) rfl rfl (Nat.le_of_ble_eq_true rfl) ctD_Terriers_66 (fun H locs hP hD hS => ?_)
  have hP : va_P D wCl ((h0, .inr (9, [.ref q7, .ref q17, .ref q29, .ref q41, .ref q54, .ref q64, .int 0])) :: Z6) H := hP
  have hD : va_D A ((h0, .inr (9, [.ref q7, .ref q17, .ref q29, .ref q41, .ref q54, .ref q64, .int 0])) :: Z6) := hD
  refine lv_aload_n hx hb ctD_Terriers_69 rfl (lv_at hl 0 rfl) ?_
  refine lv_iconst (v := (-1)) hx hb ctD_Terriers_70 (by decide) ?_
  refine va_put (D := D) (ci := 9) (v := .int (-1)) (ty := .int) (C := "DioceseBook$Terriers") (T := TX9) (N := 7) hx hb hts gk_cl9.2.1 tyX9 tyX9_ok nmX9 hown hK hP hD hS 0 rfl rfl 6 (by decide) (hts _ (ck_w_ok (i := 488) (by decide +kernel) : Cond.fieldLink "DioceseBook$Terriers" 34 "DioceseBook$Terriers" "pairedFor" "I" ∈ aAW)) (fun _ h9 => h9) rfl (by decide +kernel) rfl rfl (Nat.le_of_ble_eq_true rfl) ctD_Terriers_71 (fun H locs hP hD hS => ?_)
  have hP : va_P D wCl ((h0, .inr (9, [.ref q7, .ref q17, .ref q29, .ref q41, .ref q54, .ref q64, .int (-1)])) :: Z6) H := hP
  have hD : va_D A ((h0, .inr (9, [.ref q7, .ref q17, .ref q29, .ref q41, .ref q54, .ref q64, .int (-1)])) :: Z6) := hD
  subst hAe
  subst hZ0 hZ1 hZ2 hZ3 hZ4 hZ5 hZ6
  rw [ct_if (ctU_Terriers_r17 h0 q7 q17 r17 q29 r29 q41 r41 q54 r54 q64), ct_map (ctU_Terriers_r17 h0 q7 q17 r17 q29 r29 q41 r41 q54 r54 q64)] at hP hD
  rw [ct_if (ctU_Terriers_r29 h0 q7 q17 r17 q29 r29 q41 r41 q54 r54 q64), ct_map (ctU_Terriers_r29 h0 q7 q17 r17 q29 r29 q41 r41 q54 r54 q64)] at hP hD
  rw [ct_if (ctU_Terriers_r41 h0 q7 q17 r17 q29 r29 q41 r41 q54 r54 q64), ct_map (ctU_Terriers_r41 h0 q7 q17 r17 q29 r29 q41 r41 q54 r54 q64)] at hP hD
  rw [ct_if (ctU_Terriers_r54 h0 q7 q17 r17 q29 r29 q41 r41 q54 r54 q64), ct_map (ctU_Terriers_r54 h0 q7 q17 r17 q29 r29 q41 r41 q54 r54 q64)] at hP hD
  refine W.vret hx hb hr (fun t ht hW => ⟨⟨(ctU_Terriers h0 q7 q17 r17 q29 r29 q41 r41 q54 r54 q64), rfl, rfl, by rw [ht]; exact hP, hD⟩, hS.F ht⟩) hS.2.2 ctD_Terriers_74 hlocks
theorem ctWc_Terriers {cA : Nat → ClassId} {u u' : Nat → Nat} (h : ∀ k, k < 88 → u k = u' k) : ctW_Terriers cA  u = ctW_Terriers cA  u' := by
  unfold ctW_Terriers
  rw [h 0 (by decide)]
  rw [h 1 (by decide)]
  rw [h 2 (by decide)]
  rw [ct_if (r := fun i => u (3 + i)) (r' := fun i => u' (3 + i)) (fun i hi => h _ (by omega)), ct_map (r := fun i => u (3 + i)) (r' := fun i => u' (3 + i)) (fun i hi => h _ (by omega))]
  rw [h 27 (by decide)]
  rw [ct_if (r := fun i => u (28 + i)) (r' := fun i => u' (28 + i)) (fun i hi => h _ (by omega)), ct_map (r := fun i => u (28 + i)) (r' := fun i => u' (28 + i)) (fun i hi => h _ (by omega))]
  rw [h 52 (by decide)]
  rw [ct_if (r := fun i => u (53 + i)) (r' := fun i => u' (53 + i)) (fun i hi => h _ (by omega)), ct_map (r := fun i => u (53 + i)) (r' := fun i => u' (53 + i)) (fun i hi => h _ (by omega))]
  rw [h 77 (by decide)]
  rw [ct_if (r := fun i => u (78 + i)) (r' := fun i => u' (78 + i)) (fun i hi => h _ (by omega)), ct_map (r := fun i => u (78 + i)) (r' := fun i => u' (78 + i)) (fun i hi => h _ (by omega))]
  rw [h 87 (by decide)]
