/-! the class DioceseBook of Papers: what it makes -/
def ctW_Papers (cA : Nat → ClassId) (u : Nat → Nat) : va_W := ([(u 0, .inr (3, [.ref (u 1), .ref (u 2), .ref (u 3), .ref (u 4), .ref (u 5), .ref (u 6), .ref (u 7), .int 0, .ref (u 8), .int (-1), .ref (u 9), .ref (u 10), .int 0, .ref (u 11)])), (u 1, .inl (cA 0, 150, .inl (fun _ => 0))), (u 2, .inl (cA 0, 150, .inl (fun _ => 0))), (u 3, .inl (cA 0, 150, .inl (fun _ => 0))), (u 4, .inl (cA 0, 150, .inl (fun _ => 0))), (u 5, .inl (cA 0, 150, .inl (fun _ => 0))), (u 6, .inl (cA 0, 150, .inl (fun _ => 0))), (u 7, .inl (cA 0, 150, .inl (fun _ => 0))), (u 8, .inl (cA 0, 150, .inl (fun _ => 0))), (u 9, .inl (cA 1, 150, .inl (fun _ => 0))), (u 10, .inl (cA 0, 150, .inl (fun _ => 0))), (u 11, .inl (cA 4, 6, .inr (.inr (.inr (.inr (fun i => if i < 6 then some (u (12 + i)) else none))))))] ++ (List.range 6).map (fun i => (u (12 + i), .inl (cA 0, 40, .inl (fun _ => 0)))))
abbrev ctB_Papers : ByteArray := prog_5_method_1_code
def ctY_Papers : MethodName := ⟨"DioceseBook$Papers", "<init>", "()V"⟩
def ctE_Papers (h0 : Nat) : va_W := [(h0, .inr (3, [.null, .null, .null, .null, .null, .null, .null, .int 0, .null, .int 0, .null, .null, .int 0, .null]))]
theorem ctD_Papers_0 : decode ctB_Papers 0 = .ok (.aload_n 0, 1) := by decide +kernel
theorem ctD_Papers_1 : decode ctB_Papers 1 = .ok (.invokespecial 5, 3) := by decide +kernel
theorem ctD_Papers_4 : decode ctB_Papers 4 = .ok (.aload_n 0, 1) := by decide +kernel
theorem ctD_Papers_5 : decode ctB_Papers 5 = .ok (.sipush 150, 3) := by decide +kernel
theorem ctD_Papers_8 : decode ctB_Papers 8 = .ok (.newarray .int, 2) := by decide +kernel
theorem ctD_Papers_10 : decode ctB_Papers 10 = .ok (.putfield 11, 3) := by decide +kernel
theorem ctD_Papers_13 : decode ctB_Papers 13 = .ok (.aload_n 0, 1) := by decide +kernel
theorem ctD_Papers_14 : decode ctB_Papers 14 = .ok (.sipush 150, 3) := by decide +kernel
theorem ctD_Papers_17 : decode ctB_Papers 17 = .ok (.newarray .int, 2) := by decide +kernel
theorem ctD_Papers_19 : decode ctB_Papers 19 = .ok (.putfield 15, 3) := by decide +kernel
theorem ctD_Papers_22 : decode ctB_Papers 22 = .ok (.aload_n 0, 1) := by decide +kernel
theorem ctD_Papers_23 : decode ctB_Papers 23 = .ok (.sipush 150, 3) := by decide +kernel
theorem ctD_Papers_26 : decode ctB_Papers 26 = .ok (.newarray .int, 2) := by decide +kernel
theorem ctD_Papers_28 : decode ctB_Papers 28 = .ok (.putfield 18, 3) := by decide +kernel
theorem ctD_Papers_31 : decode ctB_Papers 31 = .ok (.aload_n 0, 1) := by decide +kernel
theorem ctD_Papers_32 : decode ctB_Papers 32 = .ok (.sipush 150, 3) := by decide +kernel
theorem ctD_Papers_35 : decode ctB_Papers 35 = .ok (.newarray .int, 2) := by decide +kernel
theorem ctD_Papers_37 : decode ctB_Papers 37 = .ok (.putfield 21, 3) := by decide +kernel
theorem ctD_Papers_40 : decode ctB_Papers 40 = .ok (.aload_n 0, 1) := by decide +kernel
theorem ctD_Papers_41 : decode ctB_Papers 41 = .ok (.sipush 150, 3) := by decide +kernel
theorem ctD_Papers_44 : decode ctB_Papers 44 = .ok (.newarray .int, 2) := by decide +kernel
theorem ctD_Papers_46 : decode ctB_Papers 46 = .ok (.putfield 24, 3) := by decide +kernel
theorem ctD_Papers_49 : decode ctB_Papers 49 = .ok (.aload_n 0, 1) := by decide +kernel
theorem ctD_Papers_50 : decode ctB_Papers 50 = .ok (.sipush 150, 3) := by decide +kernel
theorem ctD_Papers_53 : decode ctB_Papers 53 = .ok (.newarray .int, 2) := by decide +kernel
theorem ctD_Papers_55 : decode ctB_Papers 55 = .ok (.putfield 27, 3) := by decide +kernel
theorem ctD_Papers_58 : decode ctB_Papers 58 = .ok (.aload_n 0, 1) := by decide +kernel
theorem ctD_Papers_59 : decode ctB_Papers 59 = .ok (.sipush 150, 3) := by decide +kernel
theorem ctD_Papers_62 : decode ctB_Papers 62 = .ok (.newarray .int, 2) := by decide +kernel
theorem ctD_Papers_64 : decode ctB_Papers 64 = .ok (.putfield 30, 3) := by decide +kernel
theorem ctD_Papers_67 : decode ctB_Papers 67 = .ok (.aload_n 0, 1) := by decide +kernel
theorem ctD_Papers_68 : decode ctB_Papers 68 = .ok (.sipush 150, 3) := by decide +kernel
theorem ctD_Papers_71 : decode ctB_Papers 71 = .ok (.newarray .int, 2) := by decide +kernel
theorem ctD_Papers_73 : decode ctB_Papers 73 = .ok (.putfield 33, 3) := by decide +kernel
theorem ctD_Papers_76 : decode ctB_Papers 76 = .ok (.aload_n 0, 1) := by decide +kernel
theorem ctD_Papers_77 : decode ctB_Papers 77 = .ok (.iconst (-1), 1) := by decide +kernel
theorem ctD_Papers_78 : decode ctB_Papers 78 = .ok (.putfield 36, 3) := by decide +kernel
theorem ctD_Papers_81 : decode ctB_Papers 81 = .ok (.aload_n 0, 1) := by decide +kernel
theorem ctD_Papers_82 : decode ctB_Papers 82 = .ok (.sipush 150, 3) := by decide +kernel
theorem ctD_Papers_85 : decode ctB_Papers 85 = .ok (.newarray .boolean, 2) := by decide +kernel
theorem ctD_Papers_87 : decode ctB_Papers 87 = .ok (.putfield 40, 3) := by decide +kernel
theorem ctD_Papers_90 : decode ctB_Papers 90 = .ok (.aload_n 0, 1) := by decide +kernel
theorem ctD_Papers_91 : decode ctB_Papers 91 = .ok (.sipush 150, 3) := by decide +kernel
theorem ctD_Papers_94 : decode ctB_Papers 94 = .ok (.newarray .int, 2) := by decide +kernel
theorem ctD_Papers_96 : decode ctB_Papers 96 = .ok (.putfield 44, 3) := by decide +kernel
theorem ctD_Papers_99 : decode ctB_Papers 99 = .ok (.aload_n 0, 1) := by decide +kernel
theorem ctD_Papers_100 : decode ctB_Papers 100 = .ok (.bipush 6, 2) := by decide +kernel
theorem ctD_Papers_102 : decode ctB_Papers 102 = .ok (.bipush 40, 2) := by decide +kernel
theorem ctD_Papers_104 : decode ctB_Papers 104 = .ok (.multianewarray 49 2, 4) := by decide +kernel
theorem ctD_Papers_108 : decode ctB_Papers 108 = .ok (.putfield 51, 3) := by decide +kernel
theorem ctD_Papers_111 : decode ctB_Papers 111 = .ok (.return_, 1) := by decide +kernel
theorem ctC_Papers : Cond.code ctY_Papers ctB_Papers 1 none ∈ aAW := ck_w_ok (i := 184) (by decide +kernel)
theorem ctI_Papers : Cond.instanceMethod ctY_Papers ∈ aAW := ck_w_ok (i := 183) (by decide +kernel)
def ctR_Papers : Room := { frames := 1, cells := 17, slots := 1746, locals := 12 }
def ctU_Papers (h0 : Nat) (q8 : Nat) (q17 : Nat) (q26 : Nat) (q35 : Nat) (q44 : Nat) (q53 : Nat) (q62 : Nat) (q71 : Nat) (q85 : Nat) (q94 : Nat) (q104 : Nat) (r104 : Nat → Nat) : Nat → Nat := fun k => (cond (Nat.blt k 6) (cond (Nat.blt k 3) (cond (Nat.blt k 1) h0 (cond (Nat.blt k 2) q8 q17)) (cond (Nat.blt k 4) q26 (cond (Nat.blt k 5) q35 q44))) (cond (Nat.blt k 9) (cond (Nat.blt k 7) q53 (cond (Nat.blt k 8) q62 q71)) (cond (Nat.blt k 11) (cond (Nat.blt k 10) q85 q94) (cond (Nat.blt k 12) q104 (r104 (k - 12))))))
theorem ctU_Papers_r104 (h0 : Nat) (q8 : Nat) (q17 : Nat) (q26 : Nat) (q35 : Nat) (q44 : Nat) (q53 : Nat) (q62 : Nat) (q71 : Nat) (q85 : Nat) (q94 : Nat) (q104 : Nat) (r104 : Nat → Nat) : ∀ i, i < 6 → r104 i = ctU_Papers h0 q8 q17 q26 q35 q44 q53 q62 q71 q85 q94 q104 r104 (12 + i) := fun i hi => by
  unfold ctU_Papers
  rw [ct_cn (a := 12 + i) (b := 6) (by omega), ct_cn (a := 12 + i) (b := 9) (by omega), ct_cn (a := 12 + i) (b := 11) (by omega), ct_cn (a := 12 + i) (b := 12) (by omega), Nat.add_sub_cancel_left]
set_option maxHeartbeats 8000000 in
set_option maxRecDepth 100000 in
theorem ct_Papers (l : Launch) (D : va_G) (cA : Nat → ClassId) (h0 sz : Nat) : Met l ctY_Papers (Cond.code ctY_Papers ctB_Papers 1 none :: aAW) ctR_Papers (va_Pc [.ref h0] (fun U => U.heap.size = sz ∧ va_P D wCl (ctE_Papers h0) U.heap ∧ va_K D wCl (aTys cA) U ∧ va_D (fun _ => True) (ctE_Papers h0) ∧ ct_N U)) (va_Qv (fun u : Nat → Nat => u 0 = h0) (fun u t => va_P D wCl (ctW_Papers cA  u) t.heap ∧ va_D (va_A (ctE_Papers h0) sz) (ctW_Papers cA  u)) (va_A (ctE_Papers h0) sz)) 17 1746 (va_A (ctE_Papers h0) sz) := by
  refine Met.ofW (cc := ctB_Papers) (maxL := 1) (ret := none) (by decide) rfl ?_
  intro p e s m args below meth c s₁ B hml hv
  obtain ⟨rfl, hsz, hP, hK, hD0, hN⟩ := hv
  have hx := B.exec
  have hb := B.bytes
  have hr := B.returns
  have hts0 := atoms_spec (ws := Cond.code ctY_Papers ctB_Papers 1 none :: aAW) B.pre
  have hts : ∀ w ∈ aAW, w.before _ s = true := fun w hw => hts0 w (List.mem_cons_of_mem _ hw)
  have hown : s.vm.findClass "DioceseBook$Papers" = some m.cls := findClass_of_methodNamed B.named
  have hlocks := B.notSynchronized
  have hin : meth.name = "<init>" := (name_of_methodNamed B.named B.method).1
  subst hsz
  have hD := hD0.self (sz := s.heap.size)
  generalize hAe : va_A (ctE_Papers h0) s.heap.size = A at hD ⊢
  have hA : ∀ q : Nat, s.heap.size ≤ q → A q := fun q h => by rw [← hAe]; exact Or.inr h
  have hS : va_S A s.heap s.heap [] := va_S.rf
  have hl := lv_entry ([.ref h0]) (n := 1) (Nat.le_of_ble_eq_true rfl)
  rw [lg_entry_eq]
  generalize (lg_sl ([.ref h0]) ++ List.replicate (1 - (lg_sl ([.ref h0])).length) Slot.unset).toArray = ls at hl ⊢
  have hl : lv_has ls 1 [(0, .ref h0)] := hl
  obtain ⟨Z0, hZ0⟩ : ∃ z : va_W, z = [] := ⟨_, rfl⟩
  have hP : va_P D wCl ((h0, .inr (3, [.null, .null, .null, .null, .null, .null, .null, .int 0, .null, .int 0, .null, .null, .int 0, .null])) :: Z0) s.heap := by rw [hZ0]; exact hP
  have hD : va_D A ((h0, .inr (3, [.null, .null, .null, .null, .null, .null, .null, .int 0, .null, .int 0, .null, .null, .int 0, .null])) :: Z0) := by rw [hZ0]; exact hD
  refine lv_aload_n hx hb ctD_Papers_0 rfl (lv_at hl 0 rfl) ?_
  refine W.objInit hx hb hown (hts _ (ck_w_ok (i := 185) (by decide +kernel) : Cond.methodLink "DioceseBook$Papers" 5 Lib.objectInit ∈ aAW)) (hts _ ct_oI) (hts _ ct_oC) rfl (by rw [hml]; exact hl.1) rfl ctD_Papers_1 (Nat.le_of_ble_eq_true rfl) (Nat.le_of_ble_eq_true rfl) ?_
  refine W.eq (g2 := F0 m 4 ls []) rfl ?_
  refine lv_aload_n hx hb ctD_Papers_4 rfl (lv_at hl 0 rfl) ?_
  refine lv_sipush (v := 150) hx hb ctD_Papers_5 (by decide) ?_
  refine a_newa (atype := .int) (ty := .int) (c0 := cA 0) 0 hx hb (hts _ ct_a0) rfl (fun n h => by cases h) hK rfl hP hD hS hA (N' := 150) (a0 := (150, .inl (fun _ => 0))) (fun _ => rfl) (by decide) (by decide) (by decide) (Nat.le_of_ble_eq_true rfl) (Nat.le_of_ble_eq_true rfl) ctD_Papers_8 (fun q8 H hP hD hS => ?_)
  obtain ⟨Z1, hZ1⟩ : ∃ z : va_W, z = Z0 ++ [(q8, .inl (cA 0, 150, .inl (fun _ => 0)))] := ⟨_, rfl⟩
  have hP : va_P D wCl ((h0, .inr (3, [.null, .null, .null, .null, .null, .null, .null, .int 0, .null, .int 0, .null, .null, .int 0, .null])) :: Z1) H := by rw [hZ1]; exact hP
  have hD : va_D A ((h0, .inr (3, [.null, .null, .null, .null, .null, .null, .null, .int 0, .null, .int 0, .null, .null, .int 0, .null])) :: Z1) := by rw [hZ1]; exact hD
  refine W.widen (k := 1) (n := 150) (by omega) (by omega) ?_
  refine va_putF (D := D) (ci := 3) (v := .ref q8) (ty := .array .int) (C := "DioceseBook$Papers") (T := TX3) (N := 14) hx hb hts gk_cl3.2.1 tyX3 tyX3_ok nmX3 hown hK hP hD hS 0 rfl rfl 0 (by decide) (hts _ (ck_w_ok (i := 188) (by decide +kernel) : Cond.fieldLink "DioceseBook$Papers" 11 "DioceseBook$Papers" "kind" "[I" ∈ aAW)) (fun _ h9 => h9) rfl hin rfl (by decide +kernel) rfl rfl (Nat.le_of_ble_eq_true rfl) ctD_Papers_10 (fun H locs hP hD hS => ?_)
  have hP : va_P D wCl ((h0, .inr (3, [.ref q8, .null, .null, .null, .null, .null, .null, .int 0, .null, .int 0, .null, .null, .int 0, .null])) :: Z1) H := hP
  have hD : va_D A ((h0, .inr (3, [.ref q8, .null, .null, .null, .null, .null, .null, .int 0, .null, .int 0, .null, .null, .int 0, .null])) :: Z1) := hD
  refine lv_aload_n hx hb ctD_Papers_13 rfl (lv_at hl 0 rfl) ?_
  refine lv_sipush (v := 150) hx hb ctD_Papers_14 (by decide) ?_
  refine a_newa (atype := .int) (ty := .int) (c0 := cA 0) 0 hx hb (hts _ ct_a0) rfl (fun n h => by cases h) hK rfl hP hD hS hA (N' := 150) (a0 := (150, .inl (fun _ => 0))) (fun _ => rfl) (by decide) (by decide) (by decide) (Nat.le_of_ble_eq_true rfl) (Nat.le_of_ble_eq_true rfl) ctD_Papers_17 (fun q17 H hP hD hS => ?_)
  obtain ⟨Z2, hZ2⟩ : ∃ z : va_W, z = Z1 ++ [(q17, .inl (cA 0, 150, .inl (fun _ => 0)))] := ⟨_, rfl⟩
  have hP : va_P D wCl ((h0, .inr (3, [.ref q8, .null, .null, .null, .null, .null, .null, .int 0, .null, .int 0, .null, .null, .int 0, .null])) :: Z2) H := by rw [hZ2]; exact hP
  have hD : va_D A ((h0, .inr (3, [.ref q8, .null, .null, .null, .null, .null, .null, .int 0, .null, .int 0, .null, .null, .int 0, .null])) :: Z2) := by rw [hZ2]; exact hD
  refine W.widen (k := 2) (n := 300) (by omega) (by omega) ?_
  refine va_putF (D := D) (ci := 3) (v := .ref q17) (ty := .array .int) (C := "DioceseBook$Papers") (T := TX3) (N := 14) hx hb hts gk_cl3.2.1 tyX3 tyX3_ok nmX3 hown hK hP hD hS 0 rfl rfl 1 (by decide) (hts _ (ck_w_ok (i := 191) (by decide +kernel) : Cond.fieldLink "DioceseBook$Papers" 15 "DioceseBook$Papers" "day" "[I" ∈ aAW)) (fun _ h9 => h9) rfl hin rfl (by decide +kernel) rfl rfl (Nat.le_of_ble_eq_true rfl) ctD_Papers_19 (fun H locs hP hD hS => ?_)
  have hP : va_P D wCl ((h0, .inr (3, [.ref q8, .ref q17, .null, .null, .null, .null, .null, .int 0, .null, .int 0, .null, .null, .int 0, .null])) :: Z2) H := hP
  have hD : va_D A ((h0, .inr (3, [.ref q8, .ref q17, .null, .null, .null, .null, .null, .int 0, .null, .int 0, .null, .null, .int 0, .null])) :: Z2) := hD
  refine lv_aload_n hx hb ctD_Papers_22 rfl (lv_at hl 0 rfl) ?_
  refine lv_sipush (v := 150) hx hb ctD_Papers_23 (by decide) ?_
  refine a_newa (atype := .int) (ty := .int) (c0 := cA 0) 0 hx hb (hts _ ct_a0) rfl (fun n h => by cases h) hK rfl hP hD hS hA (N' := 150) (a0 := (150, .inl (fun _ => 0))) (fun _ => rfl) (by decide) (by decide) (by decide) (Nat.le_of_ble_eq_true rfl) (Nat.le_of_ble_eq_true rfl) ctD_Papers_26 (fun q26 H hP hD hS => ?_)
  obtain ⟨Z3, hZ3⟩ : ∃ z : va_W, z = Z2 ++ [(q26, .inl (cA 0, 150, .inl (fun _ => 0)))] := ⟨_, rfl⟩
  have hP : va_P D wCl ((h0, .inr (3, [.ref q8, .ref q17, .null, .null, .null, .null, .null, .int 0, .null, .int 0, .null, .null, .int 0, .null])) :: Z3) H := by rw [hZ3]; exact hP
  have hD : va_D A ((h0, .inr (3, [.ref q8, .ref q17, .null, .null, .null, .null, .null, .int 0, .null, .int 0, .null, .null, .int 0, .null])) :: Z3) := by rw [hZ3]; exact hD
  refine W.widen (k := 3) (n := 450) (by omega) (by omega) ?_
  refine va_putF (D := D) (ci := 3) (v := .ref q26) (ty := .array .int) (C := "DioceseBook$Papers") (T := TX3) (N := 14) hx hb hts gk_cl3.2.1 tyX3 tyX3_ok nmX3 hown hK hP hD hS 0 rfl rfl 2 (by decide) (hts _ (ck_w_ok (i := 194) (by decide +kernel) : Cond.fieldLink "DioceseBook$Papers" 18 "DioceseBook$Papers" "toldOn" "[I" ∈ aAW)) (fun _ h9 => h9) rfl hin rfl (by decide +kernel) rfl rfl (Nat.le_of_ble_eq_true rfl) ctD_Papers_28 (fun H locs hP hD hS => ?_)
  have hP : va_P D wCl ((h0, .inr (3, [.ref q8, .ref q17, .ref q26, .null, .null, .null, .null, .int 0, .null, .int 0, .null, .null, .int 0, .null])) :: Z3) H := hP
  have hD : va_D A ((h0, .inr (3, [.ref q8, .ref q17, .ref q26, .null, .null, .null, .null, .int 0, .null, .int 0, .null, .null, .int 0, .null])) :: Z3) := hD
  refine lv_aload_n hx hb ctD_Papers_31 rfl (lv_at hl 0 rfl) ?_
  refine lv_sipush (v := 150) hx hb ctD_Papers_32 (by decide) ?_
  refine a_newa (atype := .int) (ty := .int) (c0 := cA 0) 0 hx hb (hts _ ct_a0) rfl (fun n h => by cases h) hK rfl hP hD hS hA (N' := 150) (a0 := (150, .inl (fun _ => 0))) (fun _ => rfl) (by decide) (by decide) (by decide) (Nat.le_of_ble_eq_true rfl) (Nat.le_of_ble_eq_true rfl) ctD_Papers_35 (fun q35 H hP hD hS => ?_)
  obtain ⟨Z4, hZ4⟩ : ∃ z : va_W, z = Z3 ++ [(q35, .inl (cA 0, 150, .inl (fun _ => 0)))] := ⟨_, rfl⟩
  have hP : va_P D wCl ((h0, .inr (3, [.ref q8, .ref q17, .ref q26, .null, .null, .null, .null, .int 0, .null, .int 0, .null, .null, .int 0, .null])) :: Z4) H := by rw [hZ4]; exact hP
  have hD : va_D A ((h0, .inr (3, [.ref q8, .ref q17, .ref q26, .null, .null, .null, .null, .int 0, .null, .int 0, .null, .null, .int 0, .null])) :: Z4) := by rw [hZ4]; exact hD
  refine W.widen (k := 4) (n := 600) (by omega) (by omega) ?_
  refine va_putF (D := D) (ci := 3) (v := .ref q35) (ty := .array .int) (C := "DioceseBook$Papers") (T := TX3) (N := 14) hx hb hts gk_cl3.2.1 tyX3 tyX3_ok nmX3 hown hK hP hD hS 0 rfl rfl 3 (by decide) (hts _ (ck_w_ok (i := 196) (by decide +kernel) : Cond.fieldLink "DioceseBook$Papers" 21 "DioceseBook$Papers" "living" "[I" ∈ aAW)) (fun _ h9 => h9) rfl hin rfl (by decide +kernel) rfl rfl (Nat.le_of_ble_eq_true rfl) ctD_Papers_37 (fun H locs hP hD hS => ?_)
  have hP : va_P D wCl ((h0, .inr (3, [.ref q8, .ref q17, .ref q26, .ref q35, .null, .null, .null, .int 0, .null, .int 0, .null, .null, .int 0, .null])) :: Z4) H := hP
  have hD : va_D A ((h0, .inr (3, [.ref q8, .ref q17, .ref q26, .ref q35, .null, .null, .null, .int 0, .null, .int 0, .null, .null, .int 0, .null])) :: Z4) := hD
  refine lv_aload_n hx hb ctD_Papers_40 rfl (lv_at hl 0 rfl) ?_
  refine lv_sipush (v := 150) hx hb ctD_Papers_41 (by decide) ?_
  refine a_newa (atype := .int) (ty := .int) (c0 := cA 0) 0 hx hb (hts _ ct_a0) rfl (fun n h => by cases h) hK rfl hP hD hS hA (N' := 150) (a0 := (150, .inl (fun _ => 0))) (fun _ => rfl) (by decide) (by decide) (by decide) (Nat.le_of_ble_eq_true rfl) (Nat.le_of_ble_eq_true rfl) ctD_Papers_44 (fun q44 H hP hD hS => ?_)
  obtain ⟨Z5, hZ5⟩ : ∃ z : va_W, z = Z4 ++ [(q44, .inl (cA 0, 150, .inl (fun _ => 0)))] := ⟨_, rfl⟩
  have hP : va_P D wCl ((h0, .inr (3, [.ref q8, .ref q17, .ref q26, .ref q35, .null, .null, .null, .int 0, .null, .int 0, .null, .null, .int 0, .null])) :: Z5) H := by rw [hZ5]; exact hP
  have hD : va_D A ((h0, .inr (3, [.ref q8, .ref q17, .ref q26, .ref q35, .null, .null, .null, .int 0, .null, .int 0, .null, .null, .int 0, .null])) :: Z5) := by rw [hZ5]; exact hD
  refine W.widen (k := 5) (n := 750) (by omega) (by omega) ?_
  refine va_putF (D := D) (ci := 3) (v := .ref q44) (ty := .array .int) (C := "DioceseBook$Papers") (T := TX3) (N := 14) hx hb hts gk_cl3.2.1 tyX3 tyX3_ok nmX3 hown hK hP hD hS 0 rfl rfl 4 (by decide) (hts _ (ck_w_ok (i := 200) (by decide +kernel) : Cond.fieldLink "DioceseBook$Papers" 24 "DioceseBook$Papers" "person" "[I" ∈ aAW)) (fun _ h9 => h9) rfl hin rfl (by decide +kernel) rfl rfl (Nat.le_of_ble_eq_true rfl) ctD_Papers_46 (fun H locs hP hD hS => ?_)
  have hP : va_P D wCl ((h0, .inr (3, [.ref q8, .ref q17, .ref q26, .ref q35, .ref q44, .null, .null, .int 0, .null, .int 0, .null, .null, .int 0, .null])) :: Z5) H := hP
  have hD : va_D A ((h0, .inr (3, [.ref q8, .ref q17, .ref q26, .ref q35, .ref q44, .null, .null, .int 0, .null, .int 0, .null, .null, .int 0, .null])) :: Z5) := hD
  refine lv_aload_n hx hb ctD_Papers_49 rfl (lv_at hl 0 rfl) ?_
  refine lv_sipush (v := 150) hx hb ctD_Papers_50 (by decide) ?_
  refine a_newa (atype := .int) (ty := .int) (c0 := cA 0) 0 hx hb (hts _ ct_a0) rfl (fun n h => by cases h) hK rfl hP hD hS hA (N' := 150) (a0 := (150, .inl (fun _ => 0))) (fun _ => rfl) (by decide) (by decide) (by decide) (Nat.le_of_ble_eq_true rfl) (Nat.le_of_ble_eq_true rfl) ctD_Papers_53 (fun q53 H hP hD hS => ?_)
  obtain ⟨Z6, hZ6⟩ : ∃ z : va_W, z = Z5 ++ [(q53, .inl (cA 0, 150, .inl (fun _ => 0)))] := ⟨_, rfl⟩
  have hP : va_P D wCl ((h0, .inr (3, [.ref q8, .ref q17, .ref q26, .ref q35, .ref q44, .null, .null, .int 0, .null, .int 0, .null, .null, .int 0, .null])) :: Z6) H := by rw [hZ6]; exact hP
  have hD : va_D A ((h0, .inr (3, [.ref q8, .ref q17, .ref q26, .ref q35, .ref q44, .null, .null, .int 0, .null, .int 0, .null, .null, .int 0, .null])) :: Z6) := by rw [hZ6]; exact hD
  refine W.widen (k := 6) (n := 900) (by omega) (by omega) ?_
  refine va_putF (D := D) (ci := 3) (v := .ref q53) (ty := .array .int) (C := "DioceseBook$Papers") (T := TX3) (N := 14) hx hb hts gk_cl3.2.1 tyX3 tyX3_ok nmX3 hown hK hP hD hS 0 rfl rfl 5 (by decide) (hts _ (ck_w_ok (i := 204) (by decide +kernel) : Cond.fieldLink "DioceseBook$Papers" 27 "DioceseBook$Papers" "other" "[I" ∈ aAW)) (fun _ h9 => h9) rfl hin rfl (by decide +kernel) rfl rfl (Nat.le_of_ble_eq_true rfl) ctD_Papers_55 (fun H locs hP hD hS => ?_)
  have hP : va_P D wCl ((h0, .inr (3, [.ref q8, .ref q17, .ref q26, .ref q35, .ref q44, .ref q53, .null, .int 0, .null, .int 0, .null, .null, .int 0, .null])) :: Z6) H := hP
  have hD : va_D A ((h0, .inr (3, [.ref q8, .ref q17, .ref q26, .ref q35, .ref q44, .ref q53, .null, .int 0, .null, .int 0, .null, .null, .int 0, .null])) :: Z6) := hD
  refine lv_aload_n hx hb ctD_Papers_58 rfl (lv_at hl 0 rfl) ?_
  refine lv_sipush (v := 150) hx hb ctD_Papers_59 (by decide) ?_
  refine a_newa (atype := .int) (ty := .int) (c0 := cA 0) 0 hx hb (hts _ ct_a0) rfl (fun n h => by cases h) hK rfl hP hD hS hA (N' := 150) (a0 := (150, .inl (fun _ => 0))) (fun _ => rfl) (by decide) (by decide) (by decide) (Nat.le_of_ble_eq_true rfl) (Nat.le_of_ble_eq_true rfl) ctD_Papers_62 (fun q62 H hP hD hS => ?_)
  obtain ⟨Z7, hZ7⟩ : ∃ z : va_W, z = Z6 ++ [(q62, .inl (cA 0, 150, .inl (fun _ => 0)))] := ⟨_, rfl⟩
  have hP : va_P D wCl ((h0, .inr (3, [.ref q8, .ref q17, .ref q26, .ref q35, .ref q44, .ref q53, .null, .int 0, .null, .int 0, .null, .null, .int 0, .null])) :: Z7) H := by rw [hZ7]; exact hP
  have hD : va_D A ((h0, .inr (3, [.ref q8, .ref q17, .ref q26, .ref q35, .ref q44, .ref q53, .null, .int 0, .null, .int 0, .null, .null, .int 0, .null])) :: Z7) := by rw [hZ7]; exact hD
  refine W.widen (k := 7) (n := 1050) (by omega) (by omega) ?_
  refine va_putF (D := D) (ci := 3) (v := .ref q62) (ty := .array .int) (C := "DioceseBook$Papers") (T := TX3) (N := 14) hx hb hts gk_cl3.2.1 tyX3 tyX3_ok nmX3 hown hK hP hD hS 0 rfl rfl 6 (by decide) (hts _ (ck_w_ok (i := 208) (by decide +kernel) : Cond.fieldLink "DioceseBook$Papers" 30 "DioceseBook$Papers" "value" "[I" ∈ aAW)) (fun _ h9 => h9) rfl hin rfl (by decide +kernel) rfl rfl (Nat.le_of_ble_eq_true rfl) ctD_Papers_64 (fun H locs hP hD hS => ?_)
  have hP : va_P D wCl ((h0, .inr (3, [.ref q8, .ref q17, .ref q26, .ref q35, .ref q44, .ref q53, .ref q62, .int 0, .null, .int 0, .null, .null, .int 0, .null])) :: Z7) H := hP
  have hD : va_D A ((h0, .inr (3, [.ref q8, .ref q17, .ref q26, .ref q35, .ref q44, .ref q53, .ref q62, .int 0, .null, .int 0, .null, .null, .int 0, .null])) :: Z7) := hD
  refine lv_aload_n hx hb ctD_Papers_67 rfl (lv_at hl 0 rfl) ?_
  refine lv_sipush (v := 150) hx hb ctD_Papers_68 (by decide) ?_
  refine a_newa (atype := .int) (ty := .int) (c0 := cA 0) 0 hx hb (hts _ ct_a0) rfl (fun n h => by cases h) hK rfl hP hD hS hA (N' := 150) (a0 := (150, .inl (fun _ => 0))) (fun _ => rfl) (by decide) (by decide) (by decide) (Nat.le_of_ble_eq_true rfl) (Nat.le_of_ble_eq_true rfl) ctD_Papers_71 (fun q71 H hP hD hS => ?_)
  obtain ⟨Z8, hZ8⟩ : ∃ z : va_W, z = Z7 ++ [(q71, .inl (cA 0, 150, .inl (fun _ => 0)))] := ⟨_, rfl⟩
  have hP : va_P D wCl ((h0, .inr (3, [.ref q8, .ref q17, .ref q26, .ref q35, .ref q44, .ref q53, .ref q62, .int 0, .null, .int 0, .null, .null, .int 0, .null])) :: Z8) H := by rw [hZ8]; exact hP
  have hD : va_D A ((h0, .inr (3, [.ref q8, .ref q17, .ref q26, .ref q35, .ref q44, .ref q53, .ref q62, .int 0, .null, .int 0, .null, .null, .int 0, .null])) :: Z8) := by rw [hZ8]; exact hD
  refine W.widen (k := 8) (n := 1200) (by omega) (by omega) ?_
  refine va_putF (D := D) (ci := 3) (v := .ref q71) (ty := .array .int) (C := "DioceseBook$Papers") (T := TX3) (N := 14) hx hb hts gk_cl3.2.1 tyX3 tyX3_ok nmX3 hown hK hP hD hS 0 rfl rfl 8 (by decide) (hts _ (ck_w_ok (i := 213) (by decide +kernel) : Cond.fieldLink "DioceseBook$Papers" 33 "DioceseBook$Papers" "byDay" "[I" ∈ aAW)) (fun _ h9 => h9) rfl hin rfl (by decide +kernel) rfl rfl (Nat.le_of_ble_eq_true rfl) ctD_Papers_73 (fun H locs hP hD hS => ?_)
  have hP : va_P D wCl ((h0, .inr (3, [.ref q8, .ref q17, .ref q26, .ref q35, .ref q44, .ref q53, .ref q62, .int 0, .ref q71, .int 0, .null, .null, .int 0, .null])) :: Z8) H := hP
  have hD : va_D A ((h0, .inr (3, [.ref q8, .ref q17, .ref q26, .ref q35, .ref q44, .ref q53, .ref q62, .int 0, .ref q71, .int 0, .null, .null, .int 0, .null])) :: Z8) := hD
  refine lv_aload_n hx hb ctD_Papers_76 rfl (lv_at hl 0 rfl) ?_
  refine lv_iconst (v := (-1)) hx hb ctD_Papers_77 (by decide) ?_
  refine va_put (D := D) (ci := 3) (v := .int (-1)) (ty := .int) (C := "DioceseBook$Papers") (T := TX3) (N := 14) hx hb hts gk_cl3.2.1 tyX3 tyX3_ok nmX3 hown hK hP hD hS 0 rfl rfl 9 (by decide) (hts _ (ck_w_ok (i := 214) (by decide +kernel) : Cond.fieldLink "DioceseBook$Papers" 36 "DioceseBook$Papers" "openFor" "I" ∈ aAW)) (fun _ h9 => h9) rfl (by decide +kernel) rfl rfl (Nat.le_of_ble_eq_true rfl) ctD_Papers_78 (fun H locs hP hD hS => ?_)
  have hP : va_P D wCl ((h0, .inr (3, [.ref q8, .ref q17, .ref q26, .ref q35, .ref q44, .ref q53, .ref q62, .int 0, .ref q71, .int (-1), .null, .null, .int 0, .null])) :: Z8) H := hP
  have hD : va_D A ((h0, .inr (3, [.ref q8, .ref q17, .ref q26, .ref q35, .ref q44, .ref q53, .ref q62, .int 0, .ref q71, .int (-1), .null, .null, .int 0, .null])) :: Z8) := hD
  refine lv_aload_n hx hb ctD_Papers_81 rfl (lv_at hl 0 rfl) ?_
  refine lv_sipush (v := 150) hx hb ctD_Papers_82 (by decide) ?_
  refine a_newa (atype := .boolean) (ty := .boolean) (c0 := cA 1) 1 hx hb (hts _ ct_a1) rfl (fun n h => by cases h) hK rfl hP hD hS hA (N' := 150) (a0 := (150, .inl (fun _ => 0))) (fun _ => rfl) (by decide) (by decide) (by decide) (Nat.le_of_ble_eq_true rfl) (Nat.le_of_ble_eq_true rfl) ctD_Papers_85 (fun q85 H hP hD hS => ?_)
  obtain ⟨Z9, hZ9⟩ : ∃ z : va_W, z = Z8 ++ [(q85, .inl (cA 1, 150, .inl (fun _ => 0)))] := ⟨_, rfl⟩
  have hP : va_P D wCl ((h0, .inr (3, [.ref q8, .ref q17, .ref q26, .ref q35, .ref q44, .ref q53, .ref q62, .int 0, .ref q71, .int (-1), .null, .null, .int 0, .null])) :: Z9) H := by rw [hZ9]; exact hP
  have hD : va_D A ((h0, .inr (3, [.ref q8, .ref q17, .ref q26, .ref q35, .ref q44, .ref q53, .ref q62, .int 0, .ref q71, .int (-1), .null, .null, .int 0, .null])) :: Z9) := by rw [hZ9]; exact hD
  refine W.widen (k := 9) (n := 1350) (by omega) (by omega) ?_
  refine va_putF (D := D) (ci := 3) (v := .ref q85) (ty := .array .boolean) (C := "DioceseBook$Papers") (T := TX3) (N := 14) hx hb hts gk_cl3.2.1 tyX3 tyX3_ok nmX3 hown hK hP hD hS 0 rfl rfl 10 (by decide) (hts _ (ck_w_ok (i := 215) (by decide +kernel) : Cond.fieldLink "DioceseBook$Papers" 40 "DioceseBook$Papers" "isVoid" "[Z" ∈ aAW)) (fun _ h9 => h9) rfl hin rfl (by decide +kernel) rfl rfl (Nat.le_of_ble_eq_true rfl) ctD_Papers_87 (fun H locs hP hD hS => ?_)
  have hP : va_P D wCl ((h0, .inr (3, [.ref q8, .ref q17, .ref q26, .ref q35, .ref q44, .ref q53, .ref q62, .int 0, .ref q71, .int (-1), .ref q85, .null, .int 0, .null])) :: Z9) H := hP
  have hD : va_D A ((h0, .inr (3, [.ref q8, .ref q17, .ref q26, .ref q35, .ref q44, .ref q53, .ref q62, .int 0, .ref q71, .int (-1), .ref q85, .null, .int 0, .null])) :: Z9) := hD
  refine lv_aload_n hx hb ctD_Papers_90 rfl (lv_at hl 0 rfl) ?_
  refine lv_sipush (v := 150) hx hb ctD_Papers_91 (by decide) ?_
  refine a_newa (atype := .int) (ty := .int) (c0 := cA 0) 0 hx hb (hts _ ct_a0) rfl (fun n h => by cases h) hK rfl hP hD hS hA (N' := 150) (a0 := (150, .inl (fun _ => 0))) (fun _ => rfl) (by decide) (by decide) (by decide) (Nat.le_of_ble_eq_true rfl) (Nat.le_of_ble_eq_true rfl) ctD_Papers_94 (fun q94 H hP hD hS => ?_)
  obtain ⟨Z10, hZ10⟩ : ∃ z : va_W, z = Z9 ++ [(q94, .inl (cA 0, 150, .inl (fun _ => 0)))] := ⟨_, rfl⟩
  have hP : va_P D wCl ((h0, .inr (3, [.ref q8, .ref q17, .ref q26, .ref q35, .ref q44, .ref q53, .ref q62, .int 0, .ref q71, .int (-1), .ref q85, .null, .int 0, .null])) :: Z10) H := by rw [hZ10]; exact hP
  have hD : va_D A ((h0, .inr (3, [.ref q8, .ref q17, .ref q26, .ref q35, .ref q44, .ref q53, .ref q62, .int 0, .ref q71, .int (-1), .ref q85, .null, .int 0, .null])) :: Z10) := by rw [hZ10]; exact hD
  refine W.widen (k := 10) (n := 1500) (by omega) (by omega) ?_
  refine va_putF (D := D) (ci := 3) (v := .ref q94) (ty := .array .int) (C := "DioceseBook$Papers") (T := TX3) (N := 14) hx hb hts gk_cl3.2.1 tyX3 tyX3_ok nmX3 hown hK hP hD hS 0 rfl rfl 11 (by decide) (hts _ (ck_w_ok (i := 217) (by decide +kernel) : Cond.fieldLink "DioceseBook$Papers" 44 "DioceseBook$Papers" "leaf" "[I" ∈ aAW)) (fun _ h9 => h9) rfl hin rfl (by decide +kernel) rfl rfl (Nat.le_of_ble_eq_true rfl) ctD_Papers_96 (fun H locs hP hD hS => ?_)
  have hP : va_P D wCl ((h0, .inr (3, [.ref q8, .ref q17, .ref q26, .ref q35, .ref q44, .ref q53, .ref q62, .int 0, .ref q71, .int (-1), .ref q85, .ref q94, .int 0, .null])) :: Z10) H := hP
  have hD : va_D A ((h0, .inr (3, [.ref q8, .ref q17, .ref q26, .ref q35, .ref q44, .ref q53, .ref q62, .int 0, .ref q71, .int (-1), .ref q85, .ref q94, .int 0, .null])) :: Z10) := hD
  refine lv_aload_n hx hb ctD_Papers_99 rfl (lv_at hl 0 rfl) ?_
  refine lv_bipush (v := 6) hx hb ctD_Papers_100 (by decide) ?_
  refine lv_bipush (v := 40) hx hb ctD_Papers_102 (by decide) ?_
  refine a_mna hx hb hown (hts _ (ck_w_ok (i := 186) (by decide +kernel) : Cond.classLink "DioceseBook$Papers" 49 "[[I" ∈ aAW)) hN.1 (hts _ ct_a0) hK rfl rfl hP hD hS hA (N' := 6) (K' := 40) (by decide) (by decide) (by decide) (by decide) (by decide) (by decide) (by decide) (Nat.le_of_ble_eq_true rfl) (Nat.le_of_ble_eq_true rfl) ctD_Papers_104 (fun q104 r104 H hP hD hS => ?_)
  rw [List.append_assoc] at hP hD
  obtain ⟨Z11, hZ11⟩ : ∃ z : va_W, z = Z10 ++ ([(q104, .inl (cA 4, 6, .inr (.inr (.inr (.inr (fun i => if i < 6 then some (r104 i) else none))))))] ++ (List.range 6).map (fun i => (r104 i, .inl (cA 0, 40, .inl (fun _ => 0))))) := ⟨_, rfl⟩
  have hP : va_P D wCl ((h0, .inr (3, [.ref q8, .ref q17, .ref q26, .ref q35, .ref q44, .ref q53, .ref q62, .int 0, .ref q71, .int (-1), .ref q85, .ref q94, .int 0, .null])) :: Z11) H := by rw [hZ11]; exact hP
  have hD : va_D A ((h0, .inr (3, [.ref q8, .ref q17, .ref q26, .ref q35, .ref q44, .ref q53, .ref q62, .int 0, .ref q71, .int (-1), .ref q85, .ref q94, .int 0, .null])) :: Z11) := by rw [hZ11]; exact hD
  refine W.widen (k := 17) (n := 1746) (by omega) (by omega) ?_
  refine va_putF (D := D) (ci := 3) (v := .ref q104) (ty := .array (.array .int)) (C := "DioceseBook$Papers") (T := TX3) (N := 14) hx hb hts gk_cl3.2.1 tyX3 tyX3_ok nmX3 hown hK hP hD hS 0 rfl rfl 13 (by decide) (hts _ (ck_w_ok (i := 223) (by decide +kernel) : Cond.fieldLink "DioceseBook$Papers" 51 "DioceseBook$Papers" "first" "[[I" ∈ aAW)) (fun _ h9 => h9) rfl hin rfl (by decide +kernel) rfl rfl (Nat.le_of_ble_eq_true rfl) ctD_Papers_108 (fun H locs hP hD hS => ?_)
  have hP : va_P D wCl ((h0, .inr (3, [.ref q8, .ref q17, .ref q26, .ref q35, .ref q44, .ref q53, .ref q62, .int 0, .ref q71, .int (-1), .ref q85, .ref q94, .int 0, .ref q104])) :: Z11) H := hP
  have hD : va_D A ((h0, .inr (3, [.ref q8, .ref q17, .ref q26, .ref q35, .ref q44, .ref q53, .ref q62, .int 0, .ref q71, .int (-1), .ref q85, .ref q94, .int 0, .ref q104])) :: Z11) := hD
  subst hAe
  subst hZ0 hZ1 hZ2 hZ3 hZ4 hZ5 hZ6 hZ7 hZ8 hZ9 hZ10 hZ11
  rw [ct_if (ctU_Papers_r104 h0 q8 q17 q26 q35 q44 q53 q62 q71 q85 q94 q104 r104), ct_map (ctU_Papers_r104 h0 q8 q17 q26 q35 q44 q53 q62 q71 q85 q94 q104 r104)] at hP hD
  refine W.vret hx hb hr (fun t ht hW => ⟨⟨(ctU_Papers h0 q8 q17 q26 q35 q44 q53 q62 q71 q85 q94 q104 r104), rfl, rfl, by rw [ht]; exact hP, hD⟩, hS.F ht⟩) hS.2.2 ctD_Papers_111 hlocks
theorem ctWc_Papers {cA : Nat → ClassId} {u u' : Nat → Nat} (h : ∀ k, k < 18 → u k = u' k) : ctW_Papers cA  u = ctW_Papers cA  u' := by
  unfold ctW_Papers
  rw [h 0 (by decide)]
  rw [h 1 (by decide)]
  rw [h 2 (by decide)]
  rw [h 3 (by decide)]
  rw [h 4 (by decide)]
  rw [h 5 (by decide)]
  rw [h 6 (by decide)]
  rw [h 7 (by decide)]
  rw [h 8 (by decide)]
  rw [h 9 (by decide)]
  rw [h 10 (by decide)]
  rw [h 11 (by decide)]
  rw [ct_if (r := fun i => u (12 + i)) (r' := fun i => u' (12 + i)) (fun i hi => h _ (by omega)), ct_map (r := fun i => u (12 + i)) (r' := fun i => u' (12 + i)) (fun i hi => h _ (by omega))]
