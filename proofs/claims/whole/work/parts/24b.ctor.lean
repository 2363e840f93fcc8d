/-! the class DioceseBook of Register: what it makes -/
def ctW_Register (cA : Nat → ClassId) (u : Nat → Nat) : va_W := [(u 0, .inr (5, [.ref (u 1), .ref (u 2), .ref (u 3), .ref (u 4), .int 0, .int 0])), (u 1, .inl (cA 0, 40, .inl (fun _ => 0))), (u 2, .inl (cA 0, 12, .inl (fun _ => 0))), (u 3, .inl (cA 0, 12, .inl (fun _ => 0))), (u 4, .inl (cA 0, 12, .inl (fun _ => 0)))]
abbrev ctB_Register : ByteArray := prog_7_method_1_code
def ctY_Register : MethodName := ⟨"DioceseBook$Register", "<init>", "()V"⟩
def ctE_Register (h0 : Nat) : va_W := [(h0, .inr (5, [.null, .null, .null, .null, .int 0, .int 0]))]
theorem ctD_Register_0 : decode ctB_Register 0 = .ok (.aload_n 0, 1) := by decide +kernel
theorem ctD_Register_1 : decode ctB_Register 1 = .ok (.invokespecial 3, 3) := by decide +kernel
theorem ctD_Register_4 : decode ctB_Register 4 = .ok (.aload_n 0, 1) := by decide +kernel
theorem ctD_Register_5 : decode ctB_Register 5 = .ok (.bipush 40, 2) := by decide +kernel
theorem ctD_Register_7 : decode ctB_Register 7 = .ok (.newarray .int, 2) := by decide +kernel
theorem ctD_Register_9 : decode ctB_Register 9 = .ok (.putfield 11, 3) := by decide +kernel
theorem ctD_Register_12 : decode ctB_Register 12 = .ok (.aload_n 0, 1) := by decide +kernel
theorem ctD_Register_13 : decode ctB_Register 13 = .ok (.bipush 12, 2) := by decide +kernel
theorem ctD_Register_15 : decode ctB_Register 15 = .ok (.newarray .int, 2) := by decide +kernel
theorem ctD_Register_17 : decode ctB_Register 17 = .ok (.putfield 15, 3) := by decide +kernel
theorem ctD_Register_20 : decode ctB_Register 20 = .ok (.aload_n 0, 1) := by decide +kernel
theorem ctD_Register_21 : decode ctB_Register 21 = .ok (.bipush 12, 2) := by decide +kernel
theorem ctD_Register_23 : decode ctB_Register 23 = .ok (.newarray .int, 2) := by decide +kernel
theorem ctD_Register_25 : decode ctB_Register 25 = .ok (.putfield 18, 3) := by decide +kernel
theorem ctD_Register_28 : decode ctB_Register 28 = .ok (.aload_n 0, 1) := by decide +kernel
theorem ctD_Register_29 : decode ctB_Register 29 = .ok (.bipush 12, 2) := by decide +kernel
theorem ctD_Register_31 : decode ctB_Register 31 = .ok (.newarray .int, 2) := by decide +kernel
theorem ctD_Register_33 : decode ctB_Register 33 = .ok (.putfield 21, 3) := by decide +kernel
theorem ctD_Register_36 : decode ctB_Register 36 = .ok (.return_, 1) := by decide +kernel
theorem ctC_Register : Cond.code ctY_Register ctB_Register 1 none ∈ aAW := ck_w_ok (i := 150) (by decide +kernel)
theorem ctI_Register : Cond.instanceMethod ctY_Register ∈ aAW := ck_w_ok (i := 149) (by decide +kernel)
def ctR_Register : Room := { frames := 1, cells := 4, slots := 76, locals := 12 }
def ctU_Register (h0 : Nat) (q7 : Nat) (q15 : Nat) (q23 : Nat) (q31 : Nat) : Nat → Nat := fun k => (cond (Nat.blt k 2) (cond (Nat.blt k 1) h0 q7) (cond (Nat.blt k 3) q15 (cond (Nat.blt k 4) q23 q31)))
set_option maxHeartbeats 8000000 in
set_option maxRecDepth 100000 in
theorem ct_Register (l : Launch) (D : va_G) (cA : Nat → ClassId) (h0 sz : Nat) : Met l ctY_Register (Cond.code ctY_Register ctB_Register 1 none :: aAW) ctR_Register (va_Pc [.ref h0] (fun U => U.heap.size = sz ∧ va_P D wCl (ctE_Register h0) U.heap ∧ va_K D wCl (aTys cA) U ∧ va_D (fun _ => True) (ctE_Register h0) ∧ ct_N U)) (va_Qv (fun u : Nat → Nat => u 0 = h0) (fun u t => va_P D wCl (ctW_Register cA  u) t.heap ∧ va_D (va_A (ctE_Register h0) sz) (ctW_Register cA  u)) (va_A (ctE_Register h0) sz)) 4 76 (va_A (ctE_Register h0) sz) := by
  refine Met.ofW (cc := ctB_Register) (maxL := 1) (ret := none) (by decide) rfl ?_
  intro p e s m args below meth c s₁ B hml hv
  obtain ⟨rfl, hsz, hP, hK, hD0, hN⟩ := hv
  have hx := B.exec
  have hb := B.bytes
  have hr := B.returns
  have hts0 := atoms_spec (ws := Cond.code ctY_Register ctB_Register 1 none :: aAW) B.pre
  have hts : ∀ w ∈ aAW, w.before _ s = true := fun w hw => hts0 w (List.mem_cons_of_mem _ hw)
  have hown : s.vm.findClass "DioceseBook$Register" = some m.cls := findClass_of_methodNamed B.named
  have hlocks := B.notSynchronized
  have hin : meth.name = "<init>" := (name_of_methodNamed B.named B.method).1
  subst hsz
  have hD := hD0.self (sz := s.heap.size)
  generalize hAe : va_A (ctE_Register h0) s.heap.size = A at hD ⊢
  have hA : ∀ q : Nat, s.heap.size ≤ q → A q := fun q h => by rw [← hAe]; exact Or.inr h
  have hS : va_S A s.heap s.heap [] := va_S.rf
  have hl := lv_entry ([.ref h0]) (n := 1) (Nat.le_of_ble_eq_true rfl)
  rw [lg_entry_eq]
  generalize (lg_sl ([.ref h0]) ++ List.replicate (1 - (lg_sl ([.ref h0])).length) Slot.unset).toArray = ls at hl ⊢
  have hl : lv_has ls 1 [(0, .ref h0)] := hl
  obtain ⟨Z0, hZ0⟩ : ∃ z : va_W, z = [] := ⟨_, rfl⟩
  have hP : va_P D wCl ((h0, .inr (5, [.null, .null, .null, .null, .int 0, .int 0])) :: Z0) s.heap := by rw [hZ0]; exact hP
  have hD : va_D A ((h0, .inr (5, [.null, .null, .null, .null, .int 0, .int 0])) :: Z0) := by rw [hZ0]; exact hD
  refine lv_aload_n hx hb ctD_Register_0 rfl (lv_at hl 0 rfl) ?_
  refine W.objInit hx hb hown (hts _ (ck_w_ok (i := 151) (by decide +kernel) : Cond.methodLink "DioceseBook$Register" 3 Lib.objectInit ∈ aAW)) (hts _ ct_oI) (hts _ ct_oC) rfl (by rw [hml]; exact hl.1) rfl ctD_Register_1 (Nat.le_of_ble_eq_true rfl) (Nat.le_of_ble_eq_true rfl) ?_
  refine W.eq (g2 := F0 m 4 ls []) rfl ?_
  refine lv_aload_n hx hb ctD_Register_4 rfl (lv_at hl 0 rfl) ?_
  refine lv_bipush (v := 40) hx hb ctD_Register_5 (by decide) ?_
  refine a_newa (atype := .int) (ty := .int) (c0 := cA 0) 0 hx hb (hts _ ct_a0) rfl (fun n h => by cases h) hK rfl hP hD hS hA (N' := 40) (a0 := (40, .inl (fun _ => 0))) (fun _ => rfl) (by decide) (by decide) (by decide) (Nat.le_of_ble_eq_true rfl) (Nat.le_of_ble_eq_true rfl) ctD_Register_7 (fun q7 H hP hD hS => ?_)
  obtain ⟨Z1, hZ1⟩ : ∃ z : va_W, z = Z0 ++ [(q7, .inl (cA 0, 40, .inl (fun _ => 0)))] := ⟨_, rfl⟩
  have hP : va_P D wCl ((h0, .inr (5, [.null, .null, .null, .null, .int 0, .int 0])) :: Z1) H := by rw [hZ1]; exact hP
  have hD : va_D A ((h0, .inr (5, [.null, .null, .null, .null, .int 0, .int 0])) :: Z1) := by rw [hZ1]; exact hD
  refine W.widen (k := 1) (n := 40) (by omega) (by omega) ?_
  refine va_putF (D := D) (ci := 5) (v := .ref q7) (ty := .array .int) (C := "DioceseBook$Register") (T := TX5) (N := 6) hx hb hts gk_cl5.2.1 tyX5 tyX5_ok nmX5 hown hK hP hD hS 0 rfl rfl 0 (by decide) (hts _ (ck_w_ok (i := 152) (by decide +kernel) : Cond.fieldLink "DioceseBook$Register" 11 "DioceseBook$Register" "estate" "[I" ∈ aAW)) (fun _ h9 => h9) rfl hin rfl (by decide +kernel) rfl rfl (Nat.le_of_ble_eq_true rfl) ctD_Register_9 (fun H locs hP hD hS => ?_)
  have hP : va_P D wCl ((h0, .inr (5, [.ref q7, .null, .null, .null, .int 0, .int 0])) :: Z1) H := hP
  have hD : va_D A ((h0, .inr (5, [.ref q7, .null, .null, .null, .int 0, .int 0])) :: Z1) := hD
  refine lv_aload_n hx hb ctD_Register_12 rfl (lv_at hl 0 rfl) ?_
  refine lv_bipush (v := 12) hx hb ctD_Register_13 (by decide) ?_
  refine a_newa (atype := .int) (ty := .int) (c0 := cA 0) 0 hx hb (hts _ ct_a0) rfl (fun n h => by cases h) hK rfl hP hD hS hA (N' := 12) (a0 := (12, .inl (fun _ => 0))) (fun _ => rfl) (by decide) (by decide) (by decide) (Nat.le_of_ble_eq_true rfl) (Nat.le_of_ble_eq_true rfl) ctD_Register_15 (fun q15 H hP hD hS => ?_)
  obtain ⟨Z2, hZ2⟩ : ∃ z : va_W, z = Z1 ++ [(q15, .inl (cA 0, 12, .inl (fun _ => 0)))] := ⟨_, rfl⟩
  have hP : va_P D wCl ((h0, .inr (5, [.ref q7, .null, .null, .null, .int 0, .int 0])) :: Z2) H := by rw [hZ2]; exact hP
  have hD : va_D A ((h0, .inr (5, [.ref q7, .null, .null, .null, .int 0, .int 0])) :: Z2) := by rw [hZ2]; exact hD
  refine W.widen (k := 2) (n := 52) (by omega) (by omega) ?_
  refine va_putF (D := D) (ci := 5) (v := .ref q15) (ty := .array .int) (C := "DioceseBook$Register") (T := TX5) (N := 6) hx hb hts gk_cl5.2.1 tyX5 tyX5_ok nmX5 hown hK hP hD hS 0 rfl rfl 1 (by decide) (hts _ (ck_w_ok (i := 154) (by decide +kernel) : Cond.fieldLink "DioceseBook$Register" 15 "DioceseBook$Register" "x" "[I" ∈ aAW)) (fun _ h9 => h9) rfl hin rfl (by decide +kernel) rfl rfl (Nat.le_of_ble_eq_true rfl) ctD_Register_17 (fun H locs hP hD hS => ?_)
  have hP : va_P D wCl ((h0, .inr (5, [.ref q7, .ref q15, .null, .null, .int 0, .int 0])) :: Z2) H := hP
  have hD : va_D A ((h0, .inr (5, [.ref q7, .ref q15, .null, .null, .int 0, .int 0])) :: Z2) := hD
  refine lv_aload_n hx hb ctD_Register_20 rfl (lv_at hl 0 rfl) ?_
  refine lv_bipush (v := 12) hx hb ctD_Register_21 (by decide) ?_
  refine a_newa (atype := .int) (ty := .int) (c0 := cA 0) 0 hx hb (hts _ ct_a0) rfl (fun n h => by cases h) hK rfl hP hD hS hA (N' := 12) (a0 := (12, .inl (fun _ => 0))) (fun _ => rfl) (by decide) (by decide) (by decide) (Nat.le_of_ble_eq_true rfl) (Nat.le_of_ble_eq_true rfl) ctD_Register_23 (fun q23 H hP hD hS => ?_)
  obtain ⟨Z3, hZ3⟩ : ∃ z : va_W, z = Z2 ++ [(q23, .inl (cA 0, 12, .inl (fun _ => 0)))] := ⟨_, rfl⟩
  have hP : va_P D wCl ((h0, .inr (5, [.ref q7, .ref q15, .null, .null, .int 0, .int 0])) :: Z3) H := by rw [hZ3]; exact hP
  have hD : va_D A ((h0, .inr (5, [.ref q7, .ref q15, .null, .null, .int 0, .int 0])) :: Z3) := by rw [hZ3]; exact hD
  refine W.widen (k := 3) (n := 64) (by omega) (by omega) ?_
  refine va_putF (D := D) (ci := 5) (v := .ref q23) (ty := .array .int) (C := "DioceseBook$Register") (T := TX5) (N := 6) hx hb hts gk_cl5.2.1 tyX5 tyX5_ok nmX5 hown hK hP hD hS 0 rfl rfl 2 (by decide) (hts _ (ck_w_ok (i := 155) (by decide +kernel) : Cond.fieldLink "DioceseBook$Register" 18 "DioceseBook$Register" "y" "[I" ∈ aAW)) (fun _ h9 => h9) rfl hin rfl (by decide +kernel) rfl rfl (Nat.le_of_ble_eq_true rfl) ctD_Register_25 (fun H locs hP hD hS => ?_)
  have hP : va_P D wCl ((h0, .inr (5, [.ref q7, .ref q15, .ref q23, .null, .int 0, .int 0])) :: Z3) H := hP
  have hD : va_D A ((h0, .inr (5, [.ref q7, .ref q15, .ref q23, .null, .int 0, .int 0])) :: Z3) := hD
  refine lv_aload_n hx hb ctD_Register_28 rfl (lv_at hl 0 rfl) ?_
  refine lv_bipush (v := 12) hx hb ctD_Register_29 (by decide) ?_
  refine a_newa (atype := .int) (ty := .int) (c0 := cA 0) 0 hx hb (hts _ ct_a0) rfl (fun n h => by cases h) hK rfl hP hD hS hA (N' := 12) (a0 := (12, .inl (fun _ => 0))) (fun _ => rfl) (by decide) (by decide) (by decide) (Nat.le_of_ble_eq_true rfl) (Nat.le_of_ble_eq_true rfl) ctD_Register_31 (fun q31 H hP hD hS => ?_)
  obtain ⟨Z4, hZ4⟩ : ∃ z : va_W, z = Z3 ++ [(q31, .inl (cA 0, 12, .inl (fun _ => 0)))] := ⟨_, rfl⟩
  have hP : va_P D wCl ((h0, .inr (5, [.ref q7, .ref q15, .ref q23, .null, .int 0, .int 0])) :: Z4) H := by rw [hZ4]; exact hP
  have hD : va_D A ((h0, .inr (5, [.ref q7, .ref q15, .ref q23, .null, .int 0, .int 0])) :: Z4) := by rw [hZ4]; exact hD
  refine W.widen (k := 4) (n := 76) (by omega) (by omega) ?_
  refine va_putF (D := D) (ci := 5) (v := .ref q31) (ty := .array .int) (C := "DioceseBook$Register") (T := TX5) (N := 6) hx hb hts gk_cl5.2.1 tyX5 tyX5_ok nmX5 hown hK hP hD hS 0 rfl rfl 3 (by decide) (hts _ (ck_w_ok (i := 156) (by decide +kernel) : Cond.fieldLink "DioceseBook$Register" 21 "DioceseBook$Register" "worth" "[I" ∈ aAW)) (fun _ h9 => h9) rfl hin rfl (by decide +kernel) rfl rfl (Nat.le_of_ble_eq_true rfl) ctD_Register_33 (fun H locs hP hD hS => ?_)
  have hP : va_P D wCl ((h0, .inr (5, [.ref q7, .ref q15, .ref q23, .ref q31, .int 0, .int 0])) :: Z4) H := hP
  have hD : va_D A ((h0, .inr (5, [.ref q7, .ref q15, .ref q23, .ref q31, .int 0, .int 0])) :: Z4) := hD
  subst hAe
  subst hZ0 hZ1 hZ2 hZ3 hZ4
  refine W.vret hx hb hr (fun t ht hW => ⟨⟨(ctU_Register h0 q7 q15 q23 q31), rfl, rfl, by rw [ht]; exact hP, hD⟩, hS.F ht⟩) hS.2.2 ctD_Register_36 hlocks
theorem ctWc_Register {cA : Nat → ClassId} {u u' : Nat → Nat} (h : ∀ k, k < 5 → u k = u' k) : ctW_Register cA  u = ctW_Register cA  u' := by
  unfold ctW_Register
  rw [h 0 (by decide)]
  rw [h 1 (by decide)]
  rw [h 2 (by decide)]
  rw [h 3 (by decide)]
  rw [h 4 (by decide)]
