/-! the class DioceseBook of Suits: what it makes -/
def ctW_Suits (cA : Nat → ClassId) (p1 : Nat) (u : Nat → Nat) : va_W := ([(u 0, .inr (8, [.ref p1, .ref (u 1), .ref (u 2), .ref (u 3), .int 0])), (u 1, .inl (cA 0, 20, .inl (fun _ => 0))), (u 2, .inl (cA 0, 20, .inl (fun _ => 0))), (u 3, .inl (cA 4, 20, .inr (.inr (.inr (.inr (fun i => if i < 20 then some (u (4 + i)) else none))))))] ++ (List.range 20).map (fun i => (u (4 + i), .inl (cA 0, 5, .inl (fun _ => 0)))))
abbrev ctB_Suits : ByteArray := prog_10_method_1_code
def ctY_Suits : MethodName := ⟨"DioceseBook$Suits", "<init>", "(LDioceseBook$Canons;)V"⟩
def ctE_Suits (h0 : Nat) : va_W := [(h0, .inr (8, [.null, .null, .null, .null, .int 0]))]
theorem ctD_Suits_0 : decode ctB_Suits 0 = .ok (.aload_n 0, 1) := by decide +kernel
theorem ctD_Suits_1 : decode ctB_Suits 1 = .ok (.invokespecial 3, 3) := by decide +kernel
theorem ctD_Suits_4 : decode ctB_Suits 4 = .ok (.aload_n 0, 1) := by decide +kernel
theorem ctD_Suits_5 : decode ctB_Suits 5 = .ok (.bipush 20, 2) := by decide +kernel
theorem ctD_Suits_7 : decode ctB_Suits 7 = .ok (.newarray .int, 2) := by decide +kernel
theorem ctD_Suits_9 : decode ctB_Suits 9 = .ok (.putfield 11, 3) := by decide +kernel
theorem ctD_Suits_12 : decode ctB_Suits 12 = .ok (.aload_n 0, 1) := by decide +kernel
theorem ctD_Suits_13 : decode ctB_Suits 13 = .ok (.bipush 20, 2) := by decide +kernel
theorem ctD_Suits_15 : decode ctB_Suits 15 = .ok (.newarray .int, 2) := by decide +kernel
theorem ctD_Suits_17 : decode ctB_Suits 17 = .ok (.putfield 15, 3) := by decide +kernel
theorem ctD_Suits_20 : decode ctB_Suits 20 = .ok (.aload_n 0, 1) := by decide +kernel
theorem ctD_Suits_21 : decode ctB_Suits 21 = .ok (.bipush 20, 2) := by decide +kernel
theorem ctD_Suits_23 : decode ctB_Suits 23 = .ok (.iconst 5, 1) := by decide +kernel
theorem ctD_Suits_24 : decode ctB_Suits 24 = .ok (.multianewarray 18 2, 4) := by decide +kernel
theorem ctD_Suits_28 : decode ctB_Suits 28 = .ok (.putfield 20, 3) := by decide +kernel
theorem ctD_Suits_31 : decode ctB_Suits 31 = .ok (.aload_n 0, 1) := by decide +kernel
theorem ctD_Suits_32 : decode ctB_Suits 32 = .ok (.aload_n 1, 1) := by decide +kernel
theorem ctD_Suits_33 : decode ctB_Suits 33 = .ok (.putfield 23, 3) := by decide +kernel
theorem ctD_Suits_36 : decode ctB_Suits 36 = .ok (.return_, 1) := by decide +kernel
theorem ctC_Suits : Cond.code ctY_Suits ctB_Suits 2 none ∈ aAW := ck_w_ok (i := 455) (by decide +kernel)
theorem ctI_Suits : Cond.instanceMethod ctY_Suits ∈ aAW := ck_w_ok (i := 454) (by decide +kernel)
def ctR_Suits : Room := { frames := 1, cells := 23, slots := 160, locals := 12 }
def ctU_Suits (h0 : Nat) (q7 : Nat) (q15 : Nat) (q24 : Nat) (r24 : Nat → Nat) : Nat → Nat := fun k => (cond (Nat.blt k 2) (cond (Nat.blt k 1) h0 q7) (cond (Nat.blt k 3) q15 (cond (Nat.blt k 4) q24 (r24 (k - 4)))))
theorem ctU_Suits_r24 (h0 : Nat) (q7 : Nat) (q15 : Nat) (q24 : Nat) (r24 : Nat → Nat) : ∀ i, i < 20 → r24 i = ctU_Suits h0 q7 q15 q24 r24 (4 + i) := fun i hi => by
  unfold ctU_Suits
  rw [ct_cn (a := 4 + i) (b := 2) (by omega), ct_cn (a := 4 + i) (b := 3) (by omega), ct_cn (a := 4 + i) (b := 4) (by omega), Nat.add_sub_cancel_left]
set_option maxHeartbeats 8000000 in
set_option maxRecDepth 100000 in
theorem ct_Suits (l : Launch) (D : va_G) (cA : Nat → ClassId) (h0 p1 sz : Nat) : Met l ctY_Suits (Cond.code ctY_Suits ctB_Suits 2 none :: aAW) ctR_Suits (va_Pc [.ref h0, .ref p1] (fun U => U.heap.size = sz ∧ va_P D wCl (ctE_Suits h0) U.heap ∧ va_K D wCl (aTys cA) U ∧ va_D (fun _ => True) (ctE_Suits h0) ∧ ct_N U)) (va_Qv (fun u : Nat → Nat => u 0 = h0) (fun u t => va_P D wCl (ctW_Suits cA p1 u) t.heap ∧ va_D (va_A (ctE_Suits h0) sz) (ctW_Suits cA p1 u)) (va_A (ctE_Suits h0) sz)) 23 160 (va_A (ctE_Suits h0) sz) := by
  refine Met.ofW (cc := ctB_Suits) (maxL := 2) (ret := none) (by decide) rfl ?_
  intro p e s m args below meth c s₁ B hml hv
  obtain ⟨rfl, hsz, hP, hK, hD0, hN⟩ := hv
  have hx := B.exec
  have hb := B.bytes
  have hr := B.returns
  have hts0 := atoms_spec (ws := Cond.code ctY_Suits ctB_Suits 2 none :: aAW) B.pre
  have hts : ∀ w ∈ aAW, w.before _ s = true := fun w hw => hts0 w (List.mem_cons_of_mem _ hw)
  have hown : s.vm.findClass "DioceseBook$Suits" = some m.cls := findClass_of_methodNamed B.named
  have hlocks := B.notSynchronized
  have hin : meth.name = "<init>" := (name_of_methodNamed B.named B.method).1
  subst hsz
  have hD := hD0.self (sz := s.heap.size)
  generalize hAe : va_A (ctE_Suits h0) s.heap.size = A at hD ⊢
  have hA : ∀ q : Nat, s.heap.size ≤ q → A q := fun q h => by rw [← hAe]; exact Or.inr h
  have hS : va_S A s.heap s.heap [] := va_S.rf
  have hl := lv_entry ([.ref h0, .ref p1]) (n := 2) (Nat.le_of_ble_eq_true rfl)
  rw [lg_entry_eq]
  generalize (lg_sl ([.ref h0, .ref p1]) ++ List.replicate (2 - (lg_sl ([.ref h0, .ref p1])).length) Slot.unset).toArray = ls at hl ⊢
  have hl : lv_has ls 2 [(0, .ref h0), (1, .ref p1)] := hl
  obtain ⟨Z0, hZ0⟩ : ∃ z : va_W, z = [] := ⟨_, rfl⟩
  have hP : va_P D wCl ((h0, .inr (8, [.null, .null, .null, .null, .int 0])) :: Z0) s.heap := by rw [hZ0]; exact hP
  have hD : va_D A ((h0, .inr (8, [.null, .null, .null, .null, .int 0])) :: Z0) := by rw [hZ0]; exact hD
  refine lv_aload_n hx hb ctD_Suits_0 rfl (lv_at hl 0 rfl) ?_
  refine W.objInit hx hb hown (hts _ (ck_w_ok (i := 456) (by decide +kernel) : Cond.methodLink "DioceseBook$Suits" 3 Lib.objectInit ∈ aAW)) (hts _ ct_oI) (hts _ ct_oC) rfl (by rw [hml]; exact hl.1) rfl ctD_Suits_1 (Nat.le_of_ble_eq_true rfl) (Nat.le_of_ble_eq_true rfl) ?_
  refine W.eq (g2 := F0 m 4 ls []) rfl ?_
  refine lv_aload_n hx hb ctD_Suits_4 rfl (lv_at hl 0 rfl) ?_
  refine lv_bipush (v := 20) hx hb ctD_Suits_5 (by decide) ?_
  refine a_newa (atype := .int) (ty := .int) (c0 := cA 0) 0 hx hb (hts _ ct_a0) rfl (fun n h => by cases h) hK rfl hP hD hS hA (N' := 20) (a0 := (20, .inl (fun _ => 0))) (fun _ => rfl) (by decide) (by decide) (by decide) (Nat.le_of_ble_eq_true rfl) (Nat.le_of_ble_eq_true rfl) ctD_Suits_7 (fun q7 H hP hD hS => ?_)
  obtain ⟨Z1, hZ1⟩ : ∃ z : va_W, z = Z0 ++ [(q7, .inl (cA 0, 20, .inl (fun _ => 0)))] := ⟨_, rfl⟩
  have hP : va_P D wCl ((h0, .inr (8, [.null, .null, .null, .null, .int 0])) :: Z1) H := by rw [hZ1]; exact hP
  have hD : va_D A ((h0, .inr (8, [.null, .null, .null, .null, .int 0])) :: Z1) := by rw [hZ1]; exact hD
  refine W.widen (k := 1) (n := 20) (by omega) (by omega) ?_
  refine va_putF (D := D) (ci := 8) (v := .ref q7) (ty := .array .int) (C := "DioceseBook$Suits") (T := TX8) (N := 5) hx hb hts gk_cl8.2.1 tyX8 tyX8_ok nmX8 hown hK hP hD hS 0 rfl rfl 1 (by decide) (hts _ (ck_w_ok (i := 459) (by decide +kernel) : Cond.fieldLink "DioceseBook$Suits" 11 "DioceseBook$Suits" "presentedOn" "[I" ∈ aAW)) (fun _ h9 => h9) rfl hin rfl (by decide +kernel) rfl rfl (Nat.le_of_ble_eq_true rfl) ctD_Suits_9 (fun H locs hP hD hS => ?_)
  have hP : va_P D wCl ((h0, .inr (8, [.null, .ref q7, .null, .null, .int 0])) :: Z1) H := hP
  have hD : va_D A ((h0, .inr (8, [.null, .ref q7, .null, .null, .int 0])) :: Z1) := hD
  refine lv_aload_n hx hb ctD_Suits_12 rfl (lv_at hl 0 rfl) ?_
  refine lv_bipush (v := 20) hx hb ctD_Suits_13 (by decide) ?_
  refine a_newa (atype := .int) (ty := .int) (c0 := cA 0) 0 hx hb (hts _ ct_a0) rfl (fun n h => by cases h) hK rfl hP hD hS hA (N' := 20) (a0 := (20, .inl (fun _ => 0))) (fun _ => rfl) (by decide) (by decide) (by decide) (Nat.le_of_ble_eq_true rfl) (Nat.le_of_ble_eq_true rfl) ctD_Suits_15 (fun q15 H hP hD hS => ?_)
  obtain ⟨Z2, hZ2⟩ : ∃ z : va_W, z = Z1 ++ [(q15, .inl (cA 0, 20, .inl (fun _ => 0)))] := ⟨_, rfl⟩
  have hP : va_P D wCl ((h0, .inr (8, [.null, .ref q7, .null, .null, .int 0])) :: Z2) H := by rw [hZ2]; exact hP
  have hD : va_D A ((h0, .inr (8, [.null, .ref q7, .null, .null, .int 0])) :: Z2) := by rw [hZ2]; exact hD
  refine W.widen (k := 2) (n := 40) (by omega) (by omega) ?_
  refine va_putF (D := D) (ci := 8) (v := .ref q15) (ty := .array .int) (C := "DioceseBook$Suits") (T := TX8) (N := 5) hx hb hts gk_cl8.2.1 tyX8 tyX8_ok nmX8 hown hK hP hD hS 0 rfl rfl 2 (by decide) (hts _ (ck_w_ok (i := 460) (by decide +kernel) : Cond.fieldLink "DioceseBook$Suits" 15 "DioceseBook$Suits" "steps" "[I" ∈ aAW)) (fun _ h9 => h9) rfl hin rfl (by decide +kernel) rfl rfl (Nat.le_of_ble_eq_true rfl) ctD_Suits_17 (fun H locs hP hD hS => ?_)
  have hP : va_P D wCl ((h0, .inr (8, [.null, .ref q7, .ref q15, .null, .int 0])) :: Z2) H := hP
  have hD : va_D A ((h0, .inr (8, [.null, .ref q7, .ref q15, .null, .int 0])) :: Z2) := hD
  refine lv_aload_n hx hb ctD_Suits_20 rfl (lv_at hl 0 rfl) ?_
  refine lv_bipush (v := 20) hx hb ctD_Suits_21 (by decide) ?_
  refine lv_iconst (v := 5) hx hb ctD_Suits_23 (by decide) ?_
  refine a_mna hx hb hown (hts _ (ck_w_ok (i := 457) (by decide +kernel) : Cond.classLink "DioceseBook$Suits" 18 "[[I" ∈ aAW)) hN.1 (hts _ ct_a0) hK rfl rfl hP hD hS hA (N' := 20) (K' := 5) (by decide) (by decide) (by decide) (by decide) (by decide) (by decide) (by decide) (Nat.le_of_ble_eq_true rfl) (Nat.le_of_ble_eq_true rfl) ctD_Suits_24 (fun q24 r24 H hP hD hS => ?_)
  rw [List.append_assoc] at hP hD
  obtain ⟨Z3, hZ3⟩ : ∃ z : va_W, z = Z2 ++ ([(q24, .inl (cA 4, 20, .inr (.inr (.inr (.inr (fun i => if i < 20 then some (r24 i) else none))))))] ++ (List.range 20).map (fun i => (r24 i, .inl (cA 0, 5, .inl (fun _ => 0))))) := ⟨_, rfl⟩
  have hP : va_P D wCl ((h0, .inr (8, [.null, .ref q7, .ref q15, .null, .int 0])) :: Z3) H := by rw [hZ3]; exact hP
  have hD : va_D A ((h0, .inr (8, [.null, .ref q7, .ref q15, .null, .int 0])) :: Z3) := by rw [hZ3]; exact hD
  refine W.widen (k := 23) (n := 160) (by omega) (by omega) ?_
  refine va_putF (D := D) (ci := 8) (v := .ref q24) (ty := .array (.array .int)) (C := "DioceseBook$Suits") (T := TX8) (N := 5) hx hb hts gk_cl8.2.1 tyX8 tyX8_ok nmX8 hown hK hP hD hS 0 rfl rfl 3 (by decide) (hts _ (ck_w_ok (i := 461) (by decide +kernel) : Cond.fieldLink "DioceseBook$Suits" 20 "DioceseBook$Suits" "stepDay" "[[I" ∈ aAW)) (fun _ h9 => h9) rfl hin rfl (by decide +kernel) rfl rfl (Nat.le_of_ble_eq_true rfl) ctD_Suits_28 (fun H locs hP hD hS => ?_)
  have hP : va_P D wCl ((h0, .inr (8, [.null, .ref q7, .ref q15, .ref q24, .int 0])) :: Z3) H := hP
  have hD : va_D A ((h0, .inr (8, [.null, .ref q7, .ref q15, .ref q24, .int 0])) :: Z3) := hD
  refine lv_aload_n hx hb ctD_Suits_31 rfl (lv_at hl 0 rfl) ?_
  refine lv_aload_n hx hb ctD_Suits_32 rfl (lv_at hl 1 rfl) ?_
  refine va_putF (D := D) (ci := 8) (v := .ref p1) (ty := .object "DioceseBook$Canons") (C := "DioceseBook$Suits") (T := TX8) (N := 5) hx hb hts gk_cl8.2.1 tyX8 tyX8_ok nmX8 hown hK hP hD hS 0 rfl rfl 0 (by decide) (hts _ (ck_w_ok (i := 458) (by decide +kernel) : Cond.fieldLink "DioceseBook$Suits" 23 "DioceseBook$Suits" "canons" "LDioceseBook$Canons;" ∈ aAW)) (fun _ h9 => h9) rfl hin rfl (by decide +kernel) rfl rfl (Nat.le_of_ble_eq_true rfl) ctD_Suits_33 (fun H locs hP hD hS => ?_)
  have hP : va_P D wCl ((h0, .inr (8, [.ref p1, .ref q7, .ref q15, .ref q24, .int 0])) :: Z3) H := hP
  have hD : va_D A ((h0, .inr (8, [.ref p1, .ref q7, .ref q15, .ref q24, .int 0])) :: Z3) := hD
  subst hAe
  subst hZ0 hZ1 hZ2 hZ3
  rw [ct_if (ctU_Suits_r24 h0 q7 q15 q24 r24), ct_map (ctU_Suits_r24 h0 q7 q15 q24 r24)] at hP hD
  refine W.vret hx hb hr (fun t ht hW => ⟨⟨(ctU_Suits h0 q7 q15 q24 r24), rfl, rfl, by rw [ht]; exact hP, hD⟩, hS.F ht⟩) hS.2.2 ctD_Suits_36 hlocks
theorem ctWc_Suits {cA : Nat → ClassId} {p1 : Nat} {u u' : Nat → Nat} (h : ∀ k, k < 24 → u k = u' k) : ctW_Suits cA p1 u = ctW_Suits cA p1 u' := by
  unfold ctW_Suits
  rw [h 0 (by decide)]
  rw [h 1 (by decide)]
  rw [h 2 (by decide)]
  rw [h 3 (by decide)]
  rw [ct_if (r := fun i => u (4 + i)) (r' := fun i => u' (4 + i)) (fun i hi => h _ (by omega)), ct_map (r := fun i => u (4 + i)) (r' := fun i => u' (4 + i)) (fun i hi => h _ (by omega))]
