/-! the class DioceseBook of Changes: what it makes -/
def ctW_Changes (cA : Nat → ClassId) (u : Nat → Nat) : va_W := [(u 0, .inr (1, [.ref (u 1), .ref (u 2), .ref (u 3), .ref (u 4), .ref (u 5), .ref (u 6), .int 0])), (u 1, .inl (cA 0, 300, .inl (fun _ => 0))), (u 2, .inl (cA 0, 300, .inl (fun _ => 0))), (u 3, .inl (cA 0, 300, .inl (fun _ => 0))), (u 4, .inl (cA 0, 300, .inl (fun _ => 0))), (u 5, .inl (cA 0, 300, .inl (fun _ => 0))), (u 6, .inl (cA 1, 300, .inl (fun _ => 0)))]
abbrev ctB_Changes : ByteArray := prog_3_method_1_code
def ctY_Changes : MethodName := ⟨"DioceseBook$Changes", "<init>", "()V"⟩
def ctE_Changes (h0 : Nat) : va_W := [(h0, .inr (1, [.null, .null, .null, .null, .null, .null, .int 0]))]
theorem ctD_Changes_0 : decode ctB_Changes 0 = .ok (.aload_n 0, 1) := by decide +kernel
theorem ctD_Changes_1 : decode ctB_Changes 1 = .ok (.invokespecial 5, 3) := by decide +kernel
theorem ctD_Changes_4 : decode ctB_Changes 4 = .ok (.aload_n 0, 1) := by decide +kernel
theorem ctD_Changes_5 : decode ctB_Changes 5 = .ok (.sipush 300, 3) := by decide +kernel
theorem ctD_Changes_8 : decode ctB_Changes 8 = .ok (.newarray .int, 2) := by decide +kernel
theorem ctD_Changes_10 : decode ctB_Changes 10 = .ok (.putfield 13, 3) := by decide +kernel
theorem ctD_Changes_13 : decode ctB_Changes 13 = .ok (.aload_n 0, 1) := by decide +kernel
theorem ctD_Changes_14 : decode ctB_Changes 14 = .ok (.sipush 300, 3) := by decide +kernel
theorem ctD_Changes_17 : decode ctB_Changes 17 = .ok (.newarray .int, 2) := by decide +kernel
theorem ctD_Changes_19 : decode ctB_Changes 19 = .ok (.putfield 17, 3) := by decide +kernel
theorem ctD_Changes_22 : decode ctB_Changes 22 = .ok (.aload_n 0, 1) := by decide +kernel
theorem ctD_Changes_23 : decode ctB_Changes 23 = .ok (.sipush 300, 3) := by decide +kernel
theorem ctD_Changes_26 : decode ctB_Changes 26 = .ok (.newarray .int, 2) := by decide +kernel
theorem ctD_Changes_28 : decode ctB_Changes 28 = .ok (.putfield 20, 3) := by decide +kernel
theorem ctD_Changes_31 : decode ctB_Changes 31 = .ok (.aload_n 0, 1) := by decide +kernel
theorem ctD_Changes_32 : decode ctB_Changes 32 = .ok (.sipush 300, 3) := by decide +kernel
theorem ctD_Changes_35 : decode ctB_Changes 35 = .ok (.newarray .int, 2) := by decide +kernel
theorem ctD_Changes_37 : decode ctB_Changes 37 = .ok (.putfield 23, 3) := by decide +kernel
theorem ctD_Changes_40 : decode ctB_Changes 40 = .ok (.aload_n 0, 1) := by decide +kernel
theorem ctD_Changes_41 : decode ctB_Changes 41 = .ok (.sipush 300, 3) := by decide +kernel
theorem ctD_Changes_44 : decode ctB_Changes 44 = .ok (.newarray .int, 2) := by decide +kernel
theorem ctD_Changes_46 : decode ctB_Changes 46 = .ok (.putfield 26, 3) := by decide +kernel
theorem ctD_Changes_49 : decode ctB_Changes 49 = .ok (.aload_n 0, 1) := by decide +kernel
theorem ctD_Changes_50 : decode ctB_Changes 50 = .ok (.sipush 300, 3) := by decide +kernel
theorem ctD_Changes_53 : decode ctB_Changes 53 = .ok (.newarray .boolean, 2) := by decide +kernel
theorem ctD_Changes_55 : decode ctB_Changes 55 = .ok (.putfield 29, 3) := by decide +kernel
theorem ctD_Changes_58 : decode ctB_Changes 58 = .ok (.return_, 1) := by decide +kernel
theorem ctC_Changes : Cond.code ctY_Changes ctB_Changes 1 none ∈ aAW := ck_w_ok (i := 378) (by decide +kernel)
theorem ctI_Changes : Cond.instanceMethod ctY_Changes ∈ aAW := ck_w_ok (i := 377) (by decide +kernel)
def ctR_Changes : Room := { frames := 1, cells := 6, slots := 1800, locals := 12 }
def ctU_Changes (h0 : Nat) (q8 : Nat) (q17 : Nat) (q26 : Nat) (q35 : Nat) (q44 : Nat) (q53 : Nat) : Nat → Nat := fun k => (cond (Nat.blt k 3) (cond (Nat.blt k 1) h0 (cond (Nat.blt k 2) q8 q17)) (cond (Nat.blt k 5) (cond (Nat.blt k 4) q26 q35) (cond (Nat.blt k 6) q44 q53)))
set_option maxHeartbeats 8000000 in
set_option maxRecDepth 100000 in
theorem ct_Changes (l : Launch) (D : va_G) (cA : Nat → ClassId) (h0 sz : Nat) : Met l ctY_Changes (Cond.code ctY_Changes ctB_Changes 1 none :: aAW) ctR_Changes (va_Pc [.ref h0] (fun U => U.heap.size = sz ∧ va_P D wCl (ctE_Changes h0) U.heap ∧ va_K D wCl (aTys cA) U ∧ va_D (fun _ => True) (ctE_Changes h0) ∧ ct_N U)) (va_Qv (fun u : Nat → Nat => u 0 = h0) (fun u t => va_P D wCl (ctW_Changes cA  u) t.heap ∧ va_D (va_A (ctE_Changes h0) sz) (ctW_Changes cA  u)) (va_A (ctE_Changes h0) sz)) 6 1800 (va_A (ctE_Changes h0) sz) := by
  refine Met.ofW (cc := ctB_Changes) (maxL := 1) (ret := none) (by decide) rfl ?_
  intro p e s m args below meth c s₁ B hml hv
  obtain ⟨rfl, hsz, hP, hK, hD0, hN⟩ := hv
  have hx := B.exec
  have hb := B.bytes
  have hr := B.returns
  have hts0 := atoms_spec (ws := Cond.code ctY_Changes ctB_Changes 1 none :: aAW) B.pre
  have hts : ∀ w ∈ aAW, w.before _ s = true := fun w hw => hts0 w (List.mem_cons_of_mem _ hw)
  have hown : s.vm.findClass "DioceseBook$Changes" = some m.cls := findClass_of_methodNamed B.named
  have hlocks := B.notSynchronized
  have hin : meth.name = "<init>" := (name_of_methodNamed B.named B.method).1
  subst hsz
  have hD := hD0.self (sz := s.heap.size)
  generalize hAe : va_A (ctE_Changes h0) s.heap.size = A at hD ⊢
  have hA : ∀ q : Nat, s.heap.size ≤ q → A q := fun q h => by rw [← hAe]; exact Or.inr h
  have hS : va_S A s.heap s.heap [] := va_S.rf
  have hl := lv_entry ([.ref h0]) (n := 1) (Nat.le_of_ble_eq_true rfl)
  rw [lg_entry_eq]
  generalize (lg_sl ([.ref h0]) ++ List.replicate (1 - (lg_sl ([.ref h0])).length) Slot.unset).toArray = ls at hl ⊢
  have hl : lv_has ls 1 [(0, .ref h0)] := hl
  obtain ⟨Z0, hZ0⟩ : ∃ z : va_W, z = [] := ⟨_, rfl⟩
  have hP : va_P D wCl ((h0, .inr (1, [.null, .null, .null, .null, .null, .null, .int 0])) :: Z0) s.heap := by rw [hZ0]; exact hP
  have hD : va_D A ((h0, .inr (1, [.null, .null, .null, .null, .null, .null, .int 0])) :: Z0) := by rw [hZ0]; exact hD
  refine lv_aload_n hx hb ctD_Changes_0 rfl (lv_at hl 0 rfl) ?_
  refine W.objInit hx hb hown (hts _ (ck_w_ok (i := 379) (by decide +kernel) : Cond.methodLink "DioceseBook$Changes" 5 Lib.objectInit ∈ aAW)) (hts _ ct_oI) (hts _ ct_oC) rfl (by rw [hml]; exact hl.1) rfl ctD_Changes_1 (Nat.le_of_ble_eq_true rfl) (Nat.le_of_ble_eq_true rfl) ?_
  refine W.eq (g2 := F0 m 4 ls []) rfl ?_
  refine lv_aload_n hx hb ctD_Changes_4 rfl (lv_at hl 0 rfl) ?_
  refine lv_sipush (v := 300) hx hb ctD_Changes_5 (by decide) ?_
  refine a_newa (atype := .int) (ty := .int) (c0 := cA 0) 0 hx hb (hts _ ct_a0) rfl (fun n h => by cases h) hK rfl hP hD hS hA (N' := 300) (a0 := (300, .inl (fun _ => 0))) (fun _ => rfl) (by decide) (by decide) (by decide) (Nat.le_of_ble_eq_true rfl) (Nat.le_of_ble_eq_true rfl) ctD_Changes_8 (fun q8 H hP hD hS => ?_)
  obtain ⟨Z1, hZ1⟩ : ∃ z : va_W, z = Z0 ++ [(q8, .inl (cA 0, 300, .inl (fun _ => 0)))] := ⟨_, rfl⟩
  have hP : va_P D wCl ((h0, .inr (1, [.null, .null, .null, .null, .null, .null, .int 0])) :: Z1) H := by rw [hZ1]; exact hP
  have hD : va_D A ((h0, .inr (1, [.null, .null, .null, .null, .null, .null, .int 0])) :: Z1) := by rw [hZ1]; exact hD
  refine W.widen (k := 1) (n := 300) (by omega) (by omega) ?_
  refine va_putF (D := D) (ci := 1) (v := .ref q8) (ty := .array .int) (C := "DioceseBook$Changes") (T := TX1) (N := 7) hx hb hts gk_cl1.2.1 tyX1 tyX1_ok nmX1 hown hK hP hD hS 0 rfl rfl 0 (by decide) (hts _ (ck_w_ok (i := 380) (by decide +kernel) : Cond.fieldLink "DioceseBook$Changes" 13 "DioceseBook$Changes" "day" "[I" ∈ aAW)) (fun _ h9 => h9) rfl hin rfl (by decide +kernel) rfl rfl (Nat.le_of_ble_eq_true rfl) ctD_Changes_10 (fun H locs hP hD hS => ?_)
  have hP : va_P D wCl ((h0, .inr (1, [.ref q8, .null, .null, .null, .null, .null, .int 0])) :: Z1) H := hP
  have hD : va_D A ((h0, .inr (1, [.ref q8, .null, .null, .null, .null, .null, .int 0])) :: Z1) := hD
  refine lv_aload_n hx hb ctD_Changes_13 rfl (lv_at hl 0 rfl) ?_
  refine lv_sipush (v := 300) hx hb ctD_Changes_14 (by decide) ?_
  refine a_newa (atype := .int) (ty := .int) (c0 := cA 0) 0 hx hb (hts _ ct_a0) rfl (fun n h => by cases h) hK rfl hP hD hS hA (N' := 300) (a0 := (300, .inl (fun _ => 0))) (fun _ => rfl) (by decide) (by decide) (by decide) (Nat.le_of_ble_eq_true rfl) (Nat.le_of_ble_eq_true rfl) ctD_Changes_17 (fun q17 H hP hD hS => ?_)
  obtain ⟨Z2, hZ2⟩ : ∃ z : va_W, z = Z1 ++ [(q17, .inl (cA 0, 300, .inl (fun _ => 0)))] := ⟨_, rfl⟩
  have hP : va_P D wCl ((h0, .inr (1, [.ref q8, .null, .null, .null, .null, .null, .int 0])) :: Z2) H := by rw [hZ2]; exact hP
  have hD : va_D A ((h0, .inr (1, [.ref q8, .null, .null, .null, .null, .null, .int 0])) :: Z2) := by rw [hZ2]; exact hD
  refine W.widen (k := 2) (n := 600) (by omega) (by omega) ?_
  refine va_putF (D := D) (ci := 1) (v := .ref q17) (ty := .array .int) (C := "DioceseBook$Changes") (T := TX1) (N := 7) hx hb hts gk_cl1.2.1 tyX1 tyX1_ok nmX1 hown hK hP hD hS 0 rfl rfl 1 (by decide) (hts _ (ck_w_ok (i := 382) (by decide +kernel) : Cond.fieldLink "DioceseBook$Changes" 17 "DioceseBook$Changes" "paper" "[I" ∈ aAW)) (fun _ h9 => h9) rfl hin rfl (by decide +kernel) rfl rfl (Nat.le_of_ble_eq_true rfl) ctD_Changes_19 (fun H locs hP hD hS => ?_)
  have hP : va_P D wCl ((h0, .inr (1, [.ref q8, .ref q17, .null, .null, .null, .null, .int 0])) :: Z2) H := hP
  have hD : va_D A ((h0, .inr (1, [.ref q8, .ref q17, .null, .null, .null, .null, .int 0])) :: Z2) := hD
  refine lv_aload_n hx hb ctD_Changes_22 rfl (lv_at hl 0 rfl) ?_
  refine lv_sipush (v := 300) hx hb ctD_Changes_23 (by decide) ?_
  refine a_newa (atype := .int) (ty := .int) (c0 := cA 0) 0 hx hb (hts _ ct_a0) rfl (fun n h => by cases h) hK rfl hP hD hS hA (N' := 300) (a0 := (300, .inl (fun _ => 0))) (fun _ => rfl) (by decide) (by decide) (by decide) (Nat.le_of_ble_eq_true rfl) (Nat.le_of_ble_eq_true rfl) ctD_Changes_26 (fun q26 H hP hD hS => ?_)
  obtain ⟨Z3, hZ3⟩ : ∃ z : va_W, z = Z2 ++ [(q26, .inl (cA 0, 300, .inl (fun _ => 0)))] := ⟨_, rfl⟩
  have hP : va_P D wCl ((h0, .inr (1, [.ref q8, .ref q17, .null, .null, .null, .null, .int 0])) :: Z3) H := by rw [hZ3]; exact hP
  have hD : va_D A ((h0, .inr (1, [.ref q8, .ref q17, .null, .null, .null, .null, .int 0])) :: Z3) := by rw [hZ3]; exact hD
  refine W.widen (k := 3) (n := 900) (by omega) (by omega) ?_
  refine va_putF (D := D) (ci := 1) (v := .ref q26) (ty := .array .int) (C := "DioceseBook$Changes") (T := TX1) (N := 7) hx hb hts gk_cl1.2.1 tyX1 tyX1_ok nmX1 hown hK hP hD hS 0 rfl rfl 2 (by decide) (hts _ (ck_w_ok (i := 384) (by decide +kernel) : Cond.fieldLink "DioceseBook$Changes" 20 "DioceseBook$Changes" "left" "[I" ∈ aAW)) (fun _ h9 => h9) rfl hin rfl (by decide +kernel) rfl rfl (Nat.le_of_ble_eq_true rfl) ctD_Changes_28 (fun H locs hP hD hS => ?_)
  have hP : va_P D wCl ((h0, .inr (1, [.ref q8, .ref q17, .ref q26, .null, .null, .null, .int 0])) :: Z3) H := hP
  have hD : va_D A ((h0, .inr (1, [.ref q8, .ref q17, .ref q26, .null, .null, .null, .int 0])) :: Z3) := hD
  refine lv_aload_n hx hb ctD_Changes_31 rfl (lv_at hl 0 rfl) ?_
  refine lv_sipush (v := 300) hx hb ctD_Changes_32 (by decide) ?_
  refine a_newa (atype := .int) (ty := .int) (c0 := cA 0) 0 hx hb (hts _ ct_a0) rfl (fun n h => by cases h) hK rfl hP hD hS hA (N' := 300) (a0 := (300, .inl (fun _ => 0))) (fun _ => rfl) (by decide) (by decide) (by decide) (Nat.le_of_ble_eq_true rfl) (Nat.le_of_ble_eq_true rfl) ctD_Changes_35 (fun q35 H hP hD hS => ?_)
  obtain ⟨Z4, hZ4⟩ : ∃ z : va_W, z = Z3 ++ [(q35, .inl (cA 0, 300, .inl (fun _ => 0)))] := ⟨_, rfl⟩
  have hP : va_P D wCl ((h0, .inr (1, [.ref q8, .ref q17, .ref q26, .null, .null, .null, .int 0])) :: Z4) H := by rw [hZ4]; exact hP
  have hD : va_D A ((h0, .inr (1, [.ref q8, .ref q17, .ref q26, .null, .null, .null, .int 0])) :: Z4) := by rw [hZ4]; exact hD
  refine W.widen (k := 4) (n := 1200) (by omega) (by omega) ?_
  refine va_putF (D := D) (ci := 1) (v := .ref q35) (ty := .array .int) (C := "DioceseBook$Changes") (T := TX1) (N := 7) hx hb hts gk_cl1.2.1 tyX1 tyX1_ok nmX1 hown hK hP hD hS 0 rfl rfl 3 (by decide) (hts _ (ck_w_ok (i := 386) (by decide +kernel) : Cond.fieldLink "DioceseBook$Changes" 23 "DioceseBook$Changes" "living" "[I" ∈ aAW)) (fun _ h9 => h9) rfl hin rfl (by decide +kernel) rfl rfl (Nat.le_of_ble_eq_true rfl) ctD_Changes_37 (fun H locs hP hD hS => ?_)
  have hP : va_P D wCl ((h0, .inr (1, [.ref q8, .ref q17, .ref q26, .ref q35, .null, .null, .int 0])) :: Z4) H := hP
  have hD : va_D A ((h0, .inr (1, [.ref q8, .ref q17, .ref q26, .ref q35, .null, .null, .int 0])) :: Z4) := hD
  refine lv_aload_n hx hb ctD_Changes_40 rfl (lv_at hl 0 rfl) ?_
  refine lv_sipush (v := 300) hx hb ctD_Changes_41 (by decide) ?_
  refine a_newa (atype := .int) (ty := .int) (c0 := cA 0) 0 hx hb (hts _ ct_a0) rfl (fun n h => by cases h) hK rfl hP hD hS hA (N' := 300) (a0 := (300, .inl (fun _ => 0))) (fun _ => rfl) (by decide) (by decide) (by decide) (Nat.le_of_ble_eq_true rfl) (Nat.le_of_ble_eq_true rfl) ctD_Changes_44 (fun q44 H hP hD hS => ?_)
  obtain ⟨Z5, hZ5⟩ : ∃ z : va_W, z = Z4 ++ [(q44, .inl (cA 0, 300, .inl (fun _ => 0)))] := ⟨_, rfl⟩
  have hP : va_P D wCl ((h0, .inr (1, [.ref q8, .ref q17, .ref q26, .ref q35, .null, .null, .int 0])) :: Z5) H := by rw [hZ5]; exact hP
  have hD : va_D A ((h0, .inr (1, [.ref q8, .ref q17, .ref q26, .ref q35, .null, .null, .int 0])) :: Z5) := by rw [hZ5]; exact hD
  refine W.widen (k := 5) (n := 1500) (by omega) (by omega) ?_
  refine va_putF (D := D) (ci := 1) (v := .ref q44) (ty := .array .int) (C := "DioceseBook$Changes") (T := TX1) (N := 7) hx hb hts gk_cl1.2.1 tyX1 tyX1_ok nmX1 hown hK hP hD hS 0 rfl rfl 4 (by decide) (hts _ (ck_w_ok (i := 387) (by decide +kernel) : Cond.fieldLink "DioceseBook$Changes" 26 "DioceseBook$Changes" "person" "[I" ∈ aAW)) (fun _ h9 => h9) rfl hin rfl (by decide +kernel) rfl rfl (Nat.le_of_ble_eq_true rfl) ctD_Changes_46 (fun H locs hP hD hS => ?_)
  have hP : va_P D wCl ((h0, .inr (1, [.ref q8, .ref q17, .ref q26, .ref q35, .ref q44, .null, .int 0])) :: Z5) H := hP
  have hD : va_D A ((h0, .inr (1, [.ref q8, .ref q17, .ref q26, .ref q35, .ref q44, .null, .int 0])) :: Z5) := hD
  refine lv_aload_n hx hb ctD_Changes_49 rfl (lv_at hl 0 rfl) ?_
  refine lv_sipush (v := 300) hx hb ctD_Changes_50 (by decide) ?_
  refine a_newa (atype := .boolean) (ty := .boolean) (c0 := cA 1) 1 hx hb (hts _ ct_a1) rfl (fun n h => by cases h) hK rfl hP hD hS hA (N' := 300) (a0 := (300, .inl (fun _ => 0))) (fun _ => rfl) (by decide) (by decide) (by decide) (Nat.le_of_ble_eq_true rfl) (Nat.le_of_ble_eq_true rfl) ctD_Changes_53 (fun q53 H hP hD hS => ?_)
  obtain ⟨Z6, hZ6⟩ : ∃ z : va_W, z = Z5 ++ [(q53, .inl (cA 1, 300, .inl (fun _ => 0)))] := ⟨_, rfl⟩
  have hP : va_P D wCl ((h0, .inr (1, [.ref q8, .ref q17, .ref q26, .ref q35, .ref q44, .null, .int 0])) :: Z6) H := by rw [hZ6]; exact hP
  have hD : va_D A ((h0, .inr (1, [.ref q8, .ref q17, .ref q26, .ref q35, .ref q44, .null, .int 0])) :: Z6) := by rw [hZ6]; exact hD
  refine W.widen (k := 6) (n := 1800) (by omega) (by omega) ?_
  refine va_putF (D := D) (ci := 1) (v := .ref q53) (ty := .array .boolean) (C := "DioceseBook$Changes") (T := TX1) (N := 7) hx hb hts gk_cl1.2.1 tyX1 tyX1_ok nmX1 hown hK hP hD hS 0 rfl rfl 5 (by decide) (hts _ (ck_w_ok (i := 388) (by decide +kernel) : Cond.fieldLink "DioceseBook$Changes" 29 "DioceseBook$Changes" "isFall" "[Z" ∈ aAW)) (fun _ h9 => h9) rfl hin rfl (by decide +kernel) rfl rfl (Nat.le_of_ble_eq_true rfl) ctD_Changes_55 (fun H locs hP hD hS => ?_)
  have hP : va_P D wCl ((h0, .inr (1, [.ref q8, .ref q17, .ref q26, .ref q35, .ref q44, .ref q53, .int 0])) :: Z6) H := hP
  have hD : va_D A ((h0, .inr (1, [.ref q8, .ref q17, .ref q26, .ref q35, .ref q44, .ref q53, .int 0])) :: Z6) := hD
  subst hAe
  subst hZ0 hZ1 hZ2 hZ3 hZ4 hZ5 hZ6
  refine W.vret hx hb hr (fun t ht hW => ⟨⟨(ctU_Changes h0 q8 q17 q26 q35 q44 q53), rfl, rfl, by rw [ht]; exact hP, hD⟩, hS.F ht⟩) hS.2.2 ctD_Changes_58 hlocks
theorem ctWc_Changes {cA : Nat → ClassId} {u u' : Nat → Nat} (h : ∀ k, k < 7 → u k = u' k) : ctW_Changes cA  u = ctW_Changes cA  u' := by
  unfold ctW_Changes
  rw [h 0 (by decide)]
  rw [h 1 (by decide)]
  rw [h 2 (by decide)]
  rw [h 3 (by decide)]
  rw [h 4 (by decide)]
  rw [h 5 (by decide)]
  rw [h 6 (by decide)]
