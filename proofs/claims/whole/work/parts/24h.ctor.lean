/-! the class DioceseBook of Story: what it makes -/
def ctW_Story (cA : Nat → ClassId) (p1 p2 p3 : Nat) (u : Nat → Nat) : va_W := (((([(u 0, .inr (7, [.ref p1, .ref p2, .ref p3, .ref (u 19), .ref (u 25), .ref (u 1), .ref (u 2), .ref (u 15), .ref (u 16), .ref (u 17), .ref (u 18), .int (-1), .int (-1)])), (u 1, .inl (cA 3, 12, .inr (.inl (fun _ => 0)))), (u 2, .inl (cA 4, 12, .inr (.inr (.inr (.inr (fun i => if i < 12 then some (u (3 + i)) else none))))))] ++ (List.range 12).map (fun i => (u (3 + i), .inl (cA 0, 40, .inl (fun _ => 0))))) ++ [(u 15, .inl (cA 0, 12, .inl (fun _ => 0))), (u 16, .inl (cA 0, 12, .inl (fun _ => 0))), (u 17, .inl (cA 0, 150, .inl (fun _ => 0))), (u 18, .inl (cA 0, 6, .inl (fun _ => 0)))]) ++ ctW_Rights cA p2 (fun k => u (19 + k))) ++ ctW_Changes cA  (fun k => u (25 + k)))
abbrev ctB_Story : ByteArray := prog_9_method_1_code
def ctY_Story : MethodName := ⟨"DioceseBook$Story", "<init>", "(LDioceseBook$Register;LDioceseBook$Papers;LDioceseBook$Canons;)V"⟩
def ctE_Story (h0 : Nat) : va_W := [(h0, .inr (7, [.null, .null, .null, .null, .null, .null, .null, .null, .null, .null, .null, .int 0, .int 0]))]
theorem ctD_Story_0 : decode ctB_Story 0 = .ok (.aload_n 0, 1) := by decide +kernel
theorem ctD_Story_1 : decode ctB_Story 1 = .ok (.invokespecial 3, 3) := by decide +kernel
theorem ctD_Story_4 : decode ctB_Story 4 = .ok (.aload_n 0, 1) := by decide +kernel
theorem ctD_Story_5 : decode ctB_Story 5 = .ok (.bipush 12, 2) := by decide +kernel
theorem ctD_Story_7 : decode ctB_Story 7 = .ok (.newarray .long, 2) := by decide +kernel
theorem ctD_Story_9 : decode ctB_Story 9 = .ok (.putfield 11, 3) := by decide +kernel
theorem ctD_Story_12 : decode ctB_Story 12 = .ok (.aload_n 0, 1) := by decide +kernel
theorem ctD_Story_13 : decode ctB_Story 13 = .ok (.bipush 12, 2) := by decide +kernel
theorem ctD_Story_15 : decode ctB_Story 15 = .ok (.bipush 40, 2) := by decide +kernel
theorem ctD_Story_17 : decode ctB_Story 17 = .ok (.multianewarray 17 2, 4) := by decide +kernel
theorem ctD_Story_21 : decode ctB_Story 21 = .ok (.putfield 19, 3) := by decide +kernel
theorem ctD_Story_24 : decode ctB_Story 24 = .ok (.aload_n 0, 1) := by decide +kernel
theorem ctD_Story_25 : decode ctB_Story 25 = .ok (.bipush 12, 2) := by decide +kernel
theorem ctD_Story_27 : decode ctB_Story 27 = .ok (.newarray .int, 2) := by decide +kernel
theorem ctD_Story_29 : decode ctB_Story 29 = .ok (.putfield 22, 3) := by decide +kernel
theorem ctD_Story_32 : decode ctB_Story 32 = .ok (.aload_n 0, 1) := by decide +kernel
theorem ctD_Story_33 : decode ctB_Story 33 = .ok (.bipush 12, 2) := by decide +kernel
theorem ctD_Story_35 : decode ctB_Story 35 = .ok (.newarray .int, 2) := by decide +kernel
theorem ctD_Story_37 : decode ctB_Story 37 = .ok (.putfield 26, 3) := by decide +kernel
theorem ctD_Story_40 : decode ctB_Story 40 = .ok (.aload_n 0, 1) := by decide +kernel
theorem ctD_Story_41 : decode ctB_Story 41 = .ok (.sipush 150, 3) := by decide +kernel
theorem ctD_Story_44 : decode ctB_Story 44 = .ok (.newarray .int, 2) := by decide +kernel
theorem ctD_Story_46 : decode ctB_Story 46 = .ok (.putfield 31, 3) := by decide +kernel
theorem ctD_Story_49 : decode ctB_Story 49 = .ok (.aload_n 0, 1) := by decide +kernel
theorem ctD_Story_50 : decode ctB_Story 50 = .ok (.bipush 6, 2) := by decide +kernel
theorem ctD_Story_52 : decode ctB_Story 52 = .ok (.newarray .int, 2) := by decide +kernel
theorem ctD_Story_54 : decode ctB_Story 54 = .ok (.putfield 36, 3) := by decide +kernel
theorem ctD_Story_57 : decode ctB_Story 57 = .ok (.aload_n 0, 1) := by decide +kernel
theorem ctD_Story_58 : decode ctB_Story 58 = .ok (.iconst (-1), 1) := by decide +kernel
theorem ctD_Story_59 : decode ctB_Story 59 = .ok (.putfield 39, 3) := by decide +kernel
theorem ctD_Story_62 : decode ctB_Story 62 = .ok (.aload_n 0, 1) := by decide +kernel
theorem ctD_Story_63 : decode ctB_Story 63 = .ok (.iconst (-1), 1) := by decide +kernel
theorem ctD_Story_64 : decode ctB_Story 64 = .ok (.putfield 43, 3) := by decide +kernel
theorem ctD_Story_67 : decode ctB_Story 67 = .ok (.aload_n 0, 1) := by decide +kernel
theorem ctD_Story_68 : decode ctB_Story 68 = .ok (.aload_n 1, 1) := by decide +kernel
theorem ctD_Story_69 : decode ctB_Story 69 = .ok (.putfield 46, 3) := by decide +kernel
theorem ctD_Story_72 : decode ctB_Story 72 = .ok (.aload_n 0, 1) := by decide +kernel
theorem ctD_Story_73 : decode ctB_Story 73 = .ok (.aload_n 2, 1) := by decide +kernel
theorem ctD_Story_74 : decode ctB_Story 74 = .ok (.putfield 50, 3) := by decide +kernel
theorem ctD_Story_77 : decode ctB_Story 77 = .ok (.aload_n 0, 1) := by decide +kernel
theorem ctD_Story_78 : decode ctB_Story 78 = .ok (.aload_n 3, 1) := by decide +kernel
theorem ctD_Story_79 : decode ctB_Story 79 = .ok (.putfield 54, 3) := by decide +kernel
theorem ctD_Story_82 : decode ctB_Story 82 = .ok (.aload_n 0, 1) := by decide +kernel
theorem ctD_Story_83 : decode ctB_Story 83 = .ok (.new 58, 3) := by decide +kernel
theorem ctD_Story_86 : decode ctB_Story 86 = .ok (.dup, 1) := by decide +kernel
theorem ctD_Story_87 : decode ctB_Story 87 = .ok (.aload_n 2, 1) := by decide +kernel
theorem ctD_Story_88 : decode ctB_Story 88 = .ok (.invokespecial 60, 3) := by decide +kernel
theorem ctD_Story_91 : decode ctB_Story 91 = .ok (.putfield 63, 3) := by decide +kernel
theorem ctD_Story_94 : decode ctB_Story 94 = .ok (.aload_n 0, 1) := by decide +kernel
theorem ctD_Story_95 : decode ctB_Story 95 = .ok (.new 67, 3) := by decide +kernel
theorem ctD_Story_98 : decode ctB_Story 98 = .ok (.dup, 1) := by decide +kernel
theorem ctD_Story_99 : decode ctB_Story 99 = .ok (.invokespecial 69, 3) := by decide +kernel
theorem ctD_Story_102 : decode ctB_Story 102 = .ok (.putfield 70, 3) := by decide +kernel
theorem ctD_Story_105 : decode ctB_Story 105 = .ok (.return_, 1) := by decide +kernel
theorem ctC_Story : Cond.code ctY_Story ctB_Story 4 none ∈ aAW := ck_w_ok (i := 342) (by decide +kernel)
theorem ctI_Story : Cond.instanceMethod ctY_Story ∈ aAW := ck_w_ok (i := 341) (by decide +kernel)
def ctR_Story : Room := { frames := 2, cells := 31, slots := 2834, locals := 33 }
def ctU_Story (h0 : Nat) (q7 : Nat) (q17 : Nat) (r17 : Nat → Nat) (q27 : Nat) (q35 : Nat) (q44 : Nat) (q52 : Nat) (u88 : Nat → Nat) (u99 : Nat → Nat) : Nat → Nat := fun k => (cond (Nat.blt k 16) (cond (Nat.blt k 2) (cond (Nat.blt k 1) h0 q7) (cond (Nat.blt k 3) q17 (cond (Nat.blt k 15) (r17 (k - 3)) q27))) (cond (Nat.blt k 18) (cond (Nat.blt k 17) q35 q44) (cond (Nat.blt k 19) q52 (cond (Nat.blt k 25) (u88 (k - 19)) (u99 (k - 25))))))
theorem ctU_Story_r17 (h0 : Nat) (q7 : Nat) (q17 : Nat) (r17 : Nat → Nat) (q27 : Nat) (q35 : Nat) (q44 : Nat) (q52 : Nat) (u88 : Nat → Nat) (u99 : Nat → Nat) : ∀ i, i < 12 → r17 i = ctU_Story h0 q7 q17 r17 q27 q35 q44 q52 u88 u99 (3 + i) := fun i hi => by
  unfold ctU_Story
  rw [ct_cp (a := 3 + i) (b := 16) (by omega), ct_cn (a := 3 + i) (b := 2) (by omega), ct_cn (a := 3 + i) (b := 3) (by omega), ct_cp (a := 3 + i) (b := 15) (by omega), Nat.add_sub_cancel_left]
theorem ctU_Story_u88 (h0 : Nat) (q7 : Nat) (q17 : Nat) (r17 : Nat → Nat) (q27 : Nat) (q35 : Nat) (q44 : Nat) (q52 : Nat) (u88 : Nat → Nat) (u99 : Nat → Nat) : ∀ i, i < 6 → u88 i = ctU_Story h0 q7 q17 r17 q27 q35 q44 q52 u88 u99 (19 + i) := fun i hi => by
  unfold ctU_Story
  rw [ct_cn (a := 19 + i) (b := 16) (by omega), ct_cn (a := 19 + i) (b := 18) (by omega), ct_cn (a := 19 + i) (b := 19) (by omega), ct_cp (a := 19 + i) (b := 25) (by omega), Nat.add_sub_cancel_left]
theorem ctU_Story_u99 (h0 : Nat) (q7 : Nat) (q17 : Nat) (r17 : Nat → Nat) (q27 : Nat) (q35 : Nat) (q44 : Nat) (q52 : Nat) (u88 : Nat → Nat) (u99 : Nat → Nat) : ∀ i, i < 7 → u99 i = ctU_Story h0 q7 q17 r17 q27 q35 q44 q52 u88 u99 (25 + i) := fun i hi => by
  unfold ctU_Story
  rw [ct_cn (a := 25 + i) (b := 16) (by omega), ct_cn (a := 25 + i) (b := 18) (by omega), ct_cn (a := 25 + i) (b := 19) (by omega), ct_cn (a := 25 + i) (b := 25) (by omega), Nat.add_sub_cancel_left]
set_option maxHeartbeats 8000000 in
set_option maxRecDepth 100000 in
theorem ct_Story (l : Launch) (D : va_G) (cA : Nat → ClassId) (h0 p1 p2 p3 sz : Nat) : Met l ctY_Story (Cond.code ctY_Story ctB_Story 4 none :: aAW) ctR_Story (va_Pc [.ref h0, .ref p1, .ref p2, .ref p3] (fun U => U.heap.size = sz ∧ va_P D wCl (ctE_Story h0) U.heap ∧ va_K D wCl (aTys cA) U ∧ va_D (fun _ => True) (ctE_Story h0) ∧ ct_N U)) (va_Qv (fun u : Nat → Nat => u 0 = h0) (fun u t => va_P D wCl (ctW_Story cA p1 p2 p3 u) t.heap ∧ va_D (va_A (ctE_Story h0) sz) (ctW_Story cA p1 p2 p3 u)) (va_A (ctE_Story h0) sz)) 31 2834 (va_A (ctE_Story h0) sz) := by
  refine Met.ofW (cc := ctB_Story) (maxL := 4) (ret := none) (by decide) rfl ?_
  intro p e s m args below meth c s₁ B hml hv
  obtain ⟨rfl, hsz, hP, hK, hD0, hN⟩ := hv
  have hx := B.exec
  have hb := B.bytes
  have hr := B.returns
  have hts0 := atoms_spec (ws := Cond.code ctY_Story ctB_Story 4 none :: aAW) B.pre
  have hts : ∀ w ∈ aAW, w.before _ s = true := fun w hw => hts0 w (List.mem_cons_of_mem _ hw)
  have hown : s.vm.findClass "DioceseBook$Story" = some m.cls := findClass_of_methodNamed B.named
  have hlocks := B.notSynchronized
  have hin : meth.name = "<init>" := (name_of_methodNamed B.named B.method).1
  subst hsz
  have hD := hD0.self (sz := s.heap.size)
  generalize hAe : va_A (ctE_Story h0) s.heap.size = A at hD ⊢
  have hA : ∀ q : Nat, s.heap.size ≤ q → A q := fun q h => by rw [← hAe]; exact Or.inr h
  have hS : va_S A s.heap s.heap [] := va_S.rf
  have hl := lv_entry ([.ref h0, .ref p1, .ref p2, .ref p3]) (n := 4) (Nat.le_of_ble_eq_true rfl)
  rw [lg_entry_eq]
  generalize (lg_sl ([.ref h0, .ref p1, .ref p2, .ref p3]) ++ List.replicate (4 - (lg_sl ([.ref h0, .ref p1, .ref p2, .ref p3])).length) Slot.unset).toArray = ls at hl ⊢
  have hl : lv_has ls 4 [(0, .ref h0), (1, .ref p1), (2, .ref p2), (3, .ref p3)] := hl
  obtain ⟨Z0, hZ0⟩ : ∃ z : va_W, z = [] := ⟨_, rfl⟩
  have hP : va_P D wCl ((h0, .inr (7, [.null, .null, .null, .null, .null, .null, .null, .null, .null, .null, .null, .int 0, .int 0])) :: Z0) s.heap := by rw [hZ0]; exact hP
  have hD : va_D A ((h0, .inr (7, [.null, .null, .null, .null, .null, .null, .null, .null, .null, .null, .null, .int 0, .int 0])) :: Z0) := by rw [hZ0]; exact hD
  refine lv_aload_n hx hb ctD_Story_0 rfl (lv_at hl 0 rfl) ?_
  refine W.objInit hx hb hown (hts _ (ck_w_ok (i := 343) (by decide +kernel) : Cond.methodLink "DioceseBook$Story" 3 Lib.objectInit ∈ aAW)) (hts _ ct_oI) (hts _ ct_oC) rfl (by rw [hml]; exact hl.1) rfl ctD_Story_1 (Nat.le_of_ble_eq_true rfl) (Nat.le_of_ble_eq_true rfl) ?_
  refine W.eq (g2 := F0 m 4 ls []) rfl ?_
  refine lv_aload_n hx hb ctD_Story_4 rfl (lv_at hl 0 rfl) ?_
  refine lv_bipush (v := 12) hx hb ctD_Story_5 (by decide) ?_
  refine a_newa (atype := .long) (ty := .long) (c0 := cA 3) 3 hx hb (hts _ ct_a3) rfl (fun n h => by cases h) hK rfl hP hD hS hA (N' := 12) (a0 := (12, .inr (.inl (fun _ => 0)))) (fun _ => rfl) (by decide) (by decide) (by decide) (Nat.le_of_ble_eq_true rfl) (Nat.le_of_ble_eq_true rfl) ctD_Story_7 (fun q7 H hP hD hS => ?_)
  obtain ⟨Z1, hZ1⟩ : ∃ z : va_W, z = Z0 ++ [(q7, .inl (cA 3, 12, .inr (.inl (fun _ => 0))))] := ⟨_, rfl⟩
  have hP : va_P D wCl ((h0, .inr (7, [.null, .null, .null, .null, .null, .null, .null, .null, .null, .null, .null, .int 0, .int 0])) :: Z1) H := by rw [hZ1]; exact hP
  have hD : va_D A ((h0, .inr (7, [.null, .null, .null, .null, .null, .null, .null, .null, .null, .null, .null, .int 0, .int 0])) :: Z1) := by rw [hZ1]; exact hD
  refine W.widen (k := 1) (n := 12) (by omega) (by omega) ?_
  refine va_putF (D := D) (ci := 7) (v := .ref q7) (ty := .array .long) (C := "DioceseBook$Story") (T := TX7) (N := 13) hx hb hts gk_cl7.2.1 tyX7 tyX7_ok nmX7 hown hK hP hD hS 0 rfl rfl 5 (by decide) (hts _ (ck_w_ok (i := 412) (by decide +kernel) : Cond.fieldLink "DioceseBook$Story" 11 "DioceseBook$Story" "holders" "[J" ∈ aAW)) (fun _ h9 => h9) rfl hin rfl (by decide +kernel) rfl rfl (Nat.le_of_ble_eq_true rfl) ctD_Story_9 (fun H locs hP hD hS => ?_)
  have hP : va_P D wCl ((h0, .inr (7, [.null, .null, .null, .null, .null, .ref q7, .null, .null, .null, .null, .null, .int 0, .int 0])) :: Z1) H := hP
  have hD : va_D A ((h0, .inr (7, [.null, .null, .null, .null, .null, .ref q7, .null, .null, .null, .null, .null, .int 0, .int 0])) :: Z1) := hD
  refine lv_aload_n hx hb ctD_Story_12 rfl (lv_at hl 0 rfl) ?_
  refine lv_bipush (v := 12) hx hb ctD_Story_13 (by decide) ?_
  refine lv_bipush (v := 40) hx hb ctD_Story_15 (by decide) ?_
  refine a_mna hx hb hown (hts _ (ck_w_ok (i := 344) (by decide +kernel) : Cond.classLink "DioceseBook$Story" 17 "[[I" ∈ aAW)) hN.1 (hts _ ct_a0) hK rfl rfl hP hD hS hA (N' := 12) (K' := 40) (by decide) (by decide) (by decide) (by decide) (by decide) (by decide) (by decide) (Nat.le_of_ble_eq_true rfl) (Nat.le_of_ble_eq_true rfl) ctD_Story_17 (fun q17 r17 H hP hD hS => ?_)
  rw [List.append_assoc] at hP hD
  obtain ⟨Z2, hZ2⟩ : ∃ z : va_W, z = Z1 ++ ([(q17, .inl (cA 4, 12, .inr (.inr (.inr (.inr (fun i => if i < 12 then some (r17 i) else none))))))] ++ (List.range 12).map (fun i => (r17 i, .inl (cA 0, 40, .inl (fun _ => 0))))) := ⟨_, rfl⟩
  have hP : va_P D wCl ((h0, .inr (7, [.null, .null, .null, .null, .null, .ref q7, .null, .null, .null, .null, .null, .int 0, .int 0])) :: Z2) H := by rw [hZ2]; exact hP
  have hD : va_D A ((h0, .inr (7, [.null, .null, .null, .null, .null, .ref q7, .null, .null, .null, .null, .null, .int 0, .int 0])) :: Z2) := by rw [hZ2]; exact hD
  refine W.widen (k := 14) (n := 504) (by omega) (by omega) ?_
  refine va_putF (D := D) (ci := 7) (v := .ref q17) (ty := .array (.array .int)) (C := "DioceseBook$Story") (T := TX7) (N := 13) hx hb hts gk_cl7.2.1 tyX7 tyX7_ok nmX7 hown hK hP hD hS 0 rfl rfl 6 (by decide) (hts _ (ck_w_ok (i := 414) (by decide +kernel) : Cond.fieldLink "DioceseBook$Story" 19 "DioceseBook$Story" "since" "[[I" ∈ aAW)) (fun _ h9 => h9) rfl hin rfl (by decide +kernel) rfl rfl (Nat.le_of_ble_eq_true rfl) ctD_Story_21 (fun H locs hP hD hS => ?_)
  have hP : va_P D wCl ((h0, .inr (7, [.null, .null, .null, .null, .null, .ref q7, .ref q17, .null, .null, .null, .null, .int 0, .int 0])) :: Z2) H := hP
  have hD : va_D A ((h0, .inr (7, [.null, .null, .null, .null, .null, .ref q7, .ref q17, .null, .null, .null, .null, .int 0, .int 0])) :: Z2) := hD
  refine lv_aload_n hx hb ctD_Story_24 rfl (lv_at hl 0 rfl) ?_
  refine lv_bipush (v := 12) hx hb ctD_Story_25 (by decide) ?_
  refine a_newa (atype := .int) (ty := .int) (c0 := cA 0) 0 hx hb (hts _ ct_a0) rfl (fun n h => by cases h) hK rfl hP hD hS hA (N' := 12) (a0 := (12, .inl (fun _ => 0))) (fun _ => rfl) (by decide) (by decide) (by decide) (Nat.le_of_ble_eq_true rfl) (Nat.le_of_ble_eq_true rfl) ctD_Story_27 (fun q27 H hP hD hS => ?_)
  obtain ⟨Z3, hZ3⟩ : ∃ z : va_W, z = Z2 ++ [(q27, .inl (cA 0, 12, .inl (fun _ => 0)))] := ⟨_, rfl⟩
  have hP : va_P D wCl ((h0, .inr (7, [.null, .null, .null, .null, .null, .ref q7, .ref q17, .null, .null, .null, .null, .int 0, .int 0])) :: Z3) H := by rw [hZ3]; exact hP
  have hD : va_D A ((h0, .inr (7, [.null, .null, .null, .null, .null, .ref q7, .ref q17, .null, .null, .null, .null, .int 0, .int 0])) :: Z3) := by rw [hZ3]; exact hD
  refine W.widen (k := 15) (n := 516) (by omega) (by omega) ?_
  refine va_putF (D := D) (ci := 7) (v := .ref q27) (ty := .array .int) (C := "DioceseBook$Story") (T := TX7) (N := 13) hx hb hts gk_cl7.2.1 tyX7 tyX7_ok nmX7 hown hK hP hD hS 0 rfl rfl 7 (by decide) (hts _ (ck_w_ok (i := 415) (by decide +kernel) : Cond.fieldLink "DioceseBook$Story" 22 "DioceseBook$Story" "emptyFrom" "[I" ∈ aAW)) (fun _ h9 => h9) rfl hin rfl (by decide +kernel) rfl rfl (Nat.le_of_ble_eq_true rfl) ctD_Story_29 (fun H locs hP hD hS => ?_)
  have hP : va_P D wCl ((h0, .inr (7, [.null, .null, .null, .null, .null, .ref q7, .ref q17, .ref q27, .null, .null, .null, .int 0, .int 0])) :: Z3) H := hP
  have hD : va_D A ((h0, .inr (7, [.null, .null, .null, .null, .null, .ref q7, .ref q17, .ref q27, .null, .null, .null, .int 0, .int 0])) :: Z3) := hD
  refine lv_aload_n hx hb ctD_Story_32 rfl (lv_at hl 0 rfl) ?_
  refine lv_bipush (v := 12) hx hb ctD_Story_33 (by decide) ?_
  refine a_newa (atype := .int) (ty := .int) (c0 := cA 0) 0 hx hb (hts _ ct_a0) rfl (fun n h => by cases h) hK rfl hP hD hS hA (N' := 12) (a0 := (12, .inl (fun _ => 0))) (fun _ => rfl) (by decide) (by decide) (by decide) (Nat.le_of_ble_eq_true rfl) (Nat.le_of_ble_eq_true rfl) ctD_Story_35 (fun q35 H hP hD hS => ?_)
  obtain ⟨Z4, hZ4⟩ : ∃ z : va_W, z = Z3 ++ [(q35, .inl (cA 0, 12, .inl (fun _ => 0)))] := ⟨_, rfl⟩
  have hP : va_P D wCl ((h0, .inr (7, [.null, .null, .null, .null, .null, .ref q7, .ref q17, .ref q27, .null, .null, .null, .int 0, .int 0])) :: Z4) H := by rw [hZ4]; exact hP
  have hD : va_D A ((h0, .inr (7, [.null, .null, .null, .null, .null, .ref q7, .ref q17, .ref q27, .null, .null, .null, .int 0, .int 0])) :: Z4) := by rw [hZ4]; exact hD
  refine W.widen (k := 16) (n := 528) (by omega) (by omega) ?_
  refine va_putF (D := D) (ci := 7) (v := .ref q35) (ty := .array .int) (C := "DioceseBook$Story") (T := TX7) (N := 13) hx hb hts gk_cl7.2.1 tyX7 tyX7_ok nmX7 hown hK hP hD hS 0 rfl rfl 8 (by decide) (hts _ (ck_w_ok (i := 417) (by decide +kernel) : Cond.fieldLink "DioceseBook$Story" 26 "DioceseBook$Story" "emptyBy" "[I" ∈ aAW)) (fun _ h9 => h9) rfl hin rfl (by decide +kernel) rfl rfl (Nat.le_of_ble_eq_true rfl) ctD_Story_37 (fun H locs hP hD hS => ?_)
  have hP : va_P D wCl ((h0, .inr (7, [.null, .null, .null, .null, .null, .ref q7, .ref q17, .ref q27, .ref q35, .null, .null, .int 0, .int 0])) :: Z4) H := hP
  have hD : va_D A ((h0, .inr (7, [.null, .null, .null, .null, .null, .ref q7, .ref q17, .ref q27, .ref q35, .null, .null, .int 0, .int 0])) :: Z4) := hD
  refine lv_aload_n hx hb ctD_Story_40 rfl (lv_at hl 0 rfl) ?_
  refine lv_sipush (v := 150) hx hb ctD_Story_41 (by decide) ?_
  refine a_newa (atype := .int) (ty := .int) (c0 := cA 0) 0 hx hb (hts _ ct_a0) rfl (fun n h => by cases h) hK rfl hP hD hS hA (N' := 150) (a0 := (150, .inl (fun _ => 0))) (fun _ => rfl) (by decide) (by decide) (by decide) (Nat.le_of_ble_eq_true rfl) (Nat.le_of_ble_eq_true rfl) ctD_Story_44 (fun q44 H hP hD hS => ?_)
  obtain ⟨Z5, hZ5⟩ : ∃ z : va_W, z = Z4 ++ [(q44, .inl (cA 0, 150, .inl (fun _ => 0)))] := ⟨_, rfl⟩
  have hP : va_P D wCl ((h0, .inr (7, [.null, .null, .null, .null, .null, .ref q7, .ref q17, .ref q27, .ref q35, .null, .null, .int 0, .int 0])) :: Z5) H := by rw [hZ5]; exact hP
  have hD : va_D A ((h0, .inr (7, [.null, .null, .null, .null, .null, .ref q7, .ref q17, .ref q27, .ref q35, .null, .null, .int 0, .int 0])) :: Z5) := by rw [hZ5]; exact hD
  refine W.widen (k := 17) (n := 678) (by omega) (by omega) ?_
  refine va_putF (D := D) (ci := 7) (v := .ref q44) (ty := .array .int) (C := "DioceseBook$Story") (T := TX7) (N := 13) hx hb hts gk_cl7.2.1 tyX7 tyX7_ok nmX7 hown hK hP hD hS 0 rfl rfl 9 (by decide) (hts _ (ck_w_ok (i := 419) (by decide +kernel) : Cond.fieldLink "DioceseBook$Story" 31 "DioceseBook$Story" "reasons" "[I" ∈ aAW)) (fun _ h9 => h9) rfl hin rfl (by decide +kernel) rfl rfl (Nat.le_of_ble_eq_true rfl) ctD_Story_46 (fun H locs hP hD hS => ?_)
  have hP : va_P D wCl ((h0, .inr (7, [.null, .null, .null, .null, .null, .ref q7, .ref q17, .ref q27, .ref q35, .ref q44, .null, .int 0, .int 0])) :: Z5) H := hP
  have hD : va_D A ((h0, .inr (7, [.null, .null, .null, .null, .null, .ref q7, .ref q17, .ref q27, .ref q35, .ref q44, .null, .int 0, .int 0])) :: Z5) := hD
  refine lv_aload_n hx hb ctD_Story_49 rfl (lv_at hl 0 rfl) ?_
  refine lv_bipush (v := 6) hx hb ctD_Story_50 (by decide) ?_
  refine a_newa (atype := .int) (ty := .int) (c0 := cA 0) 0 hx hb (hts _ ct_a0) rfl (fun n h => by cases h) hK rfl hP hD hS hA (N' := 6) (a0 := (6, .inl (fun _ => 0))) (fun _ => rfl) (by decide) (by decide) (by decide) (Nat.le_of_ble_eq_true rfl) (Nat.le_of_ble_eq_true rfl) ctD_Story_52 (fun q52 H hP hD hS => ?_)
  obtain ⟨Z6, hZ6⟩ : ∃ z : va_W, z = Z5 ++ [(q52, .inl (cA 0, 6, .inl (fun _ => 0)))] := ⟨_, rfl⟩
  have hP : va_P D wCl ((h0, .inr (7, [.null, .null, .null, .null, .null, .ref q7, .ref q17, .ref q27, .ref q35, .ref q44, .null, .int 0, .int 0])) :: Z6) H := by rw [hZ6]; exact hP
  have hD : va_D A ((h0, .inr (7, [.null, .null, .null, .null, .null, .ref q7, .ref q17, .ref q27, .ref q35, .ref q44, .null, .int 0, .int 0])) :: Z6) := by rw [hZ6]; exact hD
  refine W.widen (k := 18) (n := 684) (by omega) (by omega) ?_
  refine va_putF (D := D) (ci := 7) (v := .ref q52) (ty := .array .int) (C := "DioceseBook$Story") (T := TX7) (N := 13) hx hb hts gk_cl7.2.1 tyX7 tyX7_ok nmX7 hown hK hP hD hS 0 rfl rfl 10 (by decide) (hts _ (ck_w_ok (i := 421) (by decide +kernel) : Cond.fieldLink "DioceseBook$Story" 36 "DioceseBook$Story" "facts" "[I" ∈ aAW)) (fun _ h9 => h9) rfl hin rfl (by decide +kernel) rfl rfl (Nat.le_of_ble_eq_true rfl) ctD_Story_54 (fun H locs hP hD hS => ?_)
  have hP : va_P D wCl ((h0, .inr (7, [.null, .null, .null, .null, .null, .ref q7, .ref q17, .ref q27, .ref q35, .ref q44, .ref q52, .int 0, .int 0])) :: Z6) H := hP
  have hD : va_D A ((h0, .inr (7, [.null, .null, .null, .null, .null, .ref q7, .ref q17, .ref q27, .ref q35, .ref q44, .ref q52, .int 0, .int 0])) :: Z6) := hD
  refine lv_aload_n hx hb ctD_Story_57 rfl (lv_at hl 0 rfl) ?_
  refine lv_iconst (v := (-1)) hx hb ctD_Story_58 (by decide) ?_
  refine va_put (D := D) (ci := 7) (v := .int (-1)) (ty := .int) (C := "DioceseBook$Story") (T := TX7) (N := 13) hx hb hts gk_cl7.2.1 tyX7 tyX7_ok nmX7 hown hK hP hD hS 0 rfl rfl 11 (by decide) (hts _ (ck_w_ok (i := 422) (by decide +kernel) : Cond.fieldLink "DioceseBook$Story" 39 "DioceseBook$Story" "toldFor" "I" ∈ aAW)) (fun _ h9 => h9) rfl (by decide +kernel) rfl rfl (Nat.le_of_ble_eq_true rfl) ctD_Story_59 (fun H locs hP hD hS => ?_)
  have hP : va_P D wCl ((h0, .inr (7, [.null, .null, .null, .null, .null, .ref q7, .ref q17, .ref q27, .ref q35, .ref q44, .ref q52, .int (-1), .int 0])) :: Z6) H := hP
  have hD : va_D A ((h0, .inr (7, [.null, .null, .null, .null, .null, .ref q7, .ref q17, .ref q27, .ref q35, .ref q44, .ref q52, .int (-1), .int 0])) :: Z6) := hD
  refine lv_aload_n hx hb ctD_Story_62 rfl (lv_at hl 0 rfl) ?_
  refine lv_iconst (v := (-1)) hx hb ctD_Story_63 (by decide) ?_
  refine va_put (D := D) (ci := 7) (v := .int (-1)) (ty := .int) (C := "DioceseBook$Story") (T := TX7) (N := 13) hx hb hts gk_cl7.2.1 tyX7 tyX7_ok nmX7 hown hK hP hD hS 0 rfl rfl 12 (by decide) (hts _ (ck_w_ok (i := 423) (by decide +kernel) : Cond.fieldLink "DioceseBook$Story" 43 "DioceseBook$Story" "toldUntil" "I" ∈ aAW)) (fun _ h9 => h9) rfl (by decide +kernel) rfl rfl (Nat.le_of_ble_eq_true rfl) ctD_Story_64 (fun H locs hP hD hS => ?_)
  have hP : va_P D wCl ((h0, .inr (7, [.null, .null, .null, .null, .null, .ref q7, .ref q17, .ref q27, .ref q35, .ref q44, .ref q52, .int (-1), .int (-1)])) :: Z6) H := hP
  have hD : va_D A ((h0, .inr (7, [.null, .null, .null, .null, .null, .ref q7, .ref q17, .ref q27, .ref q35, .ref q44, .ref q52, .int (-1), .int (-1)])) :: Z6) := hD
  refine lv_aload_n hx hb ctD_Story_67 rfl (lv_at hl 0 rfl) ?_
  refine lv_aload_n hx hb ctD_Story_68 rfl (lv_at hl 1 rfl) ?_
  refine va_putF (D := D) (ci := 7) (v := .ref p1) (ty := .object "DioceseBook$Register") (C := "DioceseBook$Story") (T := TX7) (N := 13) hx hb hts gk_cl7.2.1 tyX7 tyX7_ok nmX7 hown hK hP hD hS 0 rfl rfl 0 (by decide) (hts _ (ck_w_ok (i := 405) (by decide +kernel) : Cond.fieldLink "DioceseBook$Story" 46 "DioceseBook$Story" "register" "LDioceseBook$Register;" ∈ aAW)) (fun _ h9 => h9) rfl hin rfl (by decide +kernel) rfl rfl (Nat.le_of_ble_eq_true rfl) ctD_Story_69 (fun H locs hP hD hS => ?_)
  have hP : va_P D wCl ((h0, .inr (7, [.ref p1, .null, .null, .null, .null, .ref q7, .ref q17, .ref q27, .ref q35, .ref q44, .ref q52, .int (-1), .int (-1)])) :: Z6) H := hP
  have hD : va_D A ((h0, .inr (7, [.ref p1, .null, .null, .null, .null, .ref q7, .ref q17, .ref q27, .ref q35, .ref q44, .ref q52, .int (-1), .int (-1)])) :: Z6) := hD
  refine lv_aload_n hx hb ctD_Story_72 rfl (lv_at hl 0 rfl) ?_
  refine lv_aload_n hx hb ctD_Story_73 rfl (lv_at hl 2 rfl) ?_
  refine va_putF (D := D) (ci := 7) (v := .ref p2) (ty := .object "DioceseBook$Papers") (C := "DioceseBook$Story") (T := TX7) (N := 13) hx hb hts gk_cl7.2.1 tyX7 tyX7_ok nmX7 hown hK hP hD hS 0 rfl rfl 1 (by decide) (hts _ (ck_w_ok (i := 406) (by decide +kernel) : Cond.fieldLink "DioceseBook$Story" 50 "DioceseBook$Story" "papers" "LDioceseBook$Papers;" ∈ aAW)) (fun _ h9 => h9) rfl hin rfl (by decide +kernel) rfl rfl (Nat.le_of_ble_eq_true rfl) ctD_Story_74 (fun H locs hP hD hS => ?_)
  have hP : va_P D wCl ((h0, .inr (7, [.ref p1, .ref p2, .null, .null, .null, .ref q7, .ref q17, .ref q27, .ref q35, .ref q44, .ref q52, .int (-1), .int (-1)])) :: Z6) H := hP
  have hD : va_D A ((h0, .inr (7, [.ref p1, .ref p2, .null, .null, .null, .ref q7, .ref q17, .ref q27, .ref q35, .ref q44, .ref q52, .int (-1), .int (-1)])) :: Z6) := hD
  refine lv_aload_n hx hb ctD_Story_77 rfl (lv_at hl 0 rfl) ?_
  refine lv_aload_n hx hb ctD_Story_78 rfl (lv_at hl 3 rfl) ?_
  refine va_putF (D := D) (ci := 7) (v := .ref p3) (ty := .object "DioceseBook$Canons") (C := "DioceseBook$Story") (T := TX7) (N := 13) hx hb hts gk_cl7.2.1 tyX7 tyX7_ok nmX7 hown hK hP hD hS 0 rfl rfl 2 (by decide) (hts _ (ck_w_ok (i := 407) (by decide +kernel) : Cond.fieldLink "DioceseBook$Story" 54 "DioceseBook$Story" "canons" "LDioceseBook$Canons;" ∈ aAW)) (fun _ h9 => h9) rfl hin rfl (by decide +kernel) rfl rfl (Nat.le_of_ble_eq_true rfl) ctD_Story_79 (fun H locs hP hD hS => ?_)
  have hP : va_P D wCl ((h0, .inr (7, [.ref p1, .ref p2, .ref p3, .null, .null, .ref q7, .ref q17, .ref q27, .ref q35, .ref q44, .ref q52, .int (-1), .int (-1)])) :: Z6) H := hP
  have hD : va_D A ((h0, .inr (7, [.ref p1, .ref p2, .ref p3, .null, .null, .ref q7, .ref q17, .ref q27, .ref q35, .ref q44, .ref q52, .int (-1), .int (-1)])) :: Z6) := hD
  refine lv_aload_n hx hb ctD_Story_82 rfl (lv_at hl 0 rfl) ?_
  refine va_new (ci := 6) (fs := [.null, .null, .null, .null, .null, .int 0, .null]) (C := "DioceseBook$Rights") (T := TX6) (N := 7) hx hb hts (fun w hw => (gk_cl6.2.1 w hw)) tyX6 tyX6_ok hown (hts _ (ck_w_ok (i := 345) (by decide +kernel) : Cond.classLink "DioceseBook$Story" 58 "DioceseBook$Rights" ∈ aAW)) (hts _ (ck_w_ok (i := 346) (by decide +kernel) : Cond.instantiable "DioceseBook$Rights" 7 ∈ aAW)) (hts _ (ck_w_ok (i := 124) (by decide +kernel) : Cond.initialized "DioceseBook$Rights" ∈ aAW)) hK hP hD hS hA rfl (fun j hj => by match j, hj with | 0, _ => rfl | 1, _ => rfl | 2, _ => rfl | 3, _ => rfl | 4, _ => rfl | 5, _ => rfl | 6, _ => rfl | j + 7, hj => exact absurd hj (by omega)) (Nat.le_of_ble_eq_true rfl) (Nat.le_of_ble_eq_true rfl) ctD_Story_83 (fun q83 H hP hD hS => ?_)
  have hP : va_P D wCl (((h0, .inr (7, [.ref p1, .ref p2, .ref p3, .null, .null, .ref q7, .ref q17, .ref q27, .ref q35, .ref q44, .ref q52, .int (-1), .int (-1)])) :: Z6) ++ ctE_Rights q83) H := hP
  have hD : va_D A (((h0, .inr (7, [.ref p1, .ref p2, .ref p3, .null, .null, .ref q7, .ref q17, .ref q27, .ref q35, .ref q44, .ref q52, .int (-1), .int (-1)])) :: Z6) ++ ctE_Rights q83) := hD
  refine W.widen (k := 19) (n := 691) (by omega) (by omega) ?_
  refine lv_dup hx hb ctD_Story_86 rfl ?_
  refine lv_aload_n hx hb ctD_Story_87 rfl (lv_at hl 2 rfl) ?_
  have hPc := ct_last hP
  have hDc := ct_lastD hD
  have hFc : ∀ z, va_A (ctE_Rights q83) H.size z → A z := ct_lastF hD hS hA
  refine va_callv (va_runI (As := [.ref p2]) (rest := [.ref q83, .ref h0]) ⟨hx, hb, hml, hown, hts⟩ (ct_Rights l D cA q83 p2 H.size) ⟨⟨rfl, rfl, Nat.le_of_ble_eq_true rfl, Nat.le_of_ble_eq_true rfl, pay_in hts (st_good ctC_Rights), List.mem_cons_self, hts _ ctC_Rights, hts _ (ck_w_ok (i := 124) (by decide +kernel) : Cond.initialized "DioceseBook$Rights" ∈ aAW), ⟨by decide, by decide⟩, (fun sig h => (by
    have h2 : (parseMethodDescriptor ctY_Rights.desc).map (fun d => d.parameters.length) = some 1 := by decide +kernel
    rw [h] at h2
    exact (Option.some.inj h2).symm)), hts _ (ck_w_ok (i := 347) (by decide +kernel) : Cond.methodLink "DioceseBook$Story" 60 ctY_Rights ∈ aAW)⟩, rfl, hts _ ctI_Rights⟩ ⟨ct_blind _ _ _, fun U hU hW => ⟨rfl, by rw [hU], by rw [hU]; exact hPc, va_K.moved hW.alike hK, hDc.weaken (fun _ _ _ _ => trivial), ct_N_warm hW hN⟩⟩ rfl rfl hl.1 rfl (lv_room (Nat.le_of_ble_eq_true rfl)) ctD_Story_88 ⟨Nat.le_of_ble_eq_true rfl, Nat.le_of_ble_eq_true rfl⟩) hS (fun q _ h => hFc q h) hFc (fun u88 t H1 locs ht hvm hw hB hz1 hk1 hS => ?_)
  obtain ⟨hP1, hD1⟩ := hB
  rw [ht] at hP1
  obtain ⟨hP, hD⟩ := ct_join hP hD hk1 hFc hP1 hD1
  generalize H1 = H at hP hS ⊢
  obtain ⟨Z7, hZ7⟩ : ∃ z : va_W, z = Z6 ++ ctW_Rights cA p2 u88 := ⟨_, rfl⟩
  have hP : va_P D wCl ((h0, .inr (7, [.ref p1, .ref p2, .ref p3, .null, .null, .ref q7, .ref q17, .ref q27, .ref q35, .ref q44, .ref q52, .int (-1), .int (-1)])) :: Z7) H := by rw [hZ7]; exact hP
  have hD : va_D A ((h0, .inr (7, [.ref p1, .ref p2, .ref p3, .null, .null, .ref q7, .ref q17, .ref q27, .ref q35, .ref q44, .ref q52, .int (-1), .int (-1)])) :: Z7) := by rw [hZ7]; exact hD
  refine W.widen (k := 24) (n := 1027) (by omega) (by omega) ?_
  have hw88 : u88 0 = q83 := hw
  refine va_putF (D := D) (ci := 7) (v := .ref q83) (ty := .object "DioceseBook$Rights") (C := "DioceseBook$Story") (T := TX7) (N := 13) hx hb hts gk_cl7.2.1 tyX7 tyX7_ok nmX7 hown hK hP hD hS 0 rfl rfl 3 (by decide) (hts _ (ck_w_ok (i := 408) (by decide +kernel) : Cond.fieldLink "DioceseBook$Story" 63 "DioceseBook$Story" "rights" "LDioceseBook$Rights;" ∈ aAW)) (fun _ h9 => h9) rfl hin rfl (by decide +kernel) rfl rfl (Nat.le_of_ble_eq_true rfl) ctD_Story_91 (fun H locs hP hD hS => ?_)
  have hP : va_P D wCl ((h0, .inr (7, [.ref p1, .ref p2, .ref p3, .ref q83, .null, .ref q7, .ref q17, .ref q27, .ref q35, .ref q44, .ref q52, .int (-1), .int (-1)])) :: Z7) H := hP
  have hD : va_D A ((h0, .inr (7, [.ref p1, .ref p2, .ref p3, .ref q83, .null, .ref q7, .ref q17, .ref q27, .ref q35, .ref q44, .ref q52, .int (-1), .int (-1)])) :: Z7) := hD
  refine lv_aload_n hx hb ctD_Story_94 rfl (lv_at hl 0 rfl) ?_
  refine va_new (ci := 1) (fs := [.null, .null, .null, .null, .null, .null, .int 0]) (C := "DioceseBook$Changes") (T := TX1) (N := 7) hx hb hts (fun w hw => (gk_cl1.2.1 w hw)) tyX1 tyX1_ok hown (hts _ (ck_w_ok (i := 374) (by decide +kernel) : Cond.classLink "DioceseBook$Story" 67 "DioceseBook$Changes" ∈ aAW)) (hts _ (ck_w_ok (i := 375) (by decide +kernel) : Cond.instantiable "DioceseBook$Changes" 7 ∈ aAW)) (hts _ (ck_w_ok (i := 125) (by decide +kernel) : Cond.initialized "DioceseBook$Changes" ∈ aAW)) hK hP hD hS hA rfl (fun j hj => by match j, hj with | 0, _ => rfl | 1, _ => rfl | 2, _ => rfl | 3, _ => rfl | 4, _ => rfl | 5, _ => rfl | 6, _ => rfl | j + 7, hj => exact absurd hj (by omega)) (Nat.le_of_ble_eq_true rfl) (Nat.le_of_ble_eq_true rfl) ctD_Story_95 (fun q95 H hP hD hS => ?_)
  have hP : va_P D wCl (((h0, .inr (7, [.ref p1, .ref p2, .ref p3, .ref q83, .null, .ref q7, .ref q17, .ref q27, .ref q35, .ref q44, .ref q52, .int (-1), .int (-1)])) :: Z7) ++ ctE_Changes q95) H := hP
  have hD : va_D A (((h0, .inr (7, [.ref p1, .ref p2, .ref p3, .ref q83, .null, .ref q7, .ref q17, .ref q27, .ref q35, .ref q44, .ref q52, .int (-1), .int (-1)])) :: Z7) ++ ctE_Changes q95) := hD
  refine W.widen (k := 25) (n := 1034) (by omega) (by omega) ?_
  refine lv_dup hx hb ctD_Story_98 rfl ?_
  have hPc := ct_last hP
  have hDc := ct_lastD hD
  have hFc : ∀ z, va_A (ctE_Changes q95) H.size z → A z := ct_lastF hD hS hA
  refine va_callv (va_runIN (As := []) (rest := [.ref q95, .ref h0]) ⟨hx, hb, hml, hown, hts⟩ (ct_Changes l D cA q95  H.size) ⟨⟨⟨rfl, rfl, Nat.le_of_ble_eq_true rfl, Nat.le_of_ble_eq_true rfl, pay_in hts (st_good ctC_Changes), List.mem_cons_self⟩, hts _ ctC_Changes, hts _ (ck_w_ok (i := 125) (by decide +kernel) : Cond.initialized "DioceseBook$Changes" ∈ aAW), ⟨by decide, by decide⟩, (fun sig h => (by
    have h2 : (parseMethodDescriptor ctY_Changes.desc).map (fun d => d.parameters.length) = some 0 := by decide +kernel
    rw [h] at h2
    exact (Option.some.inj h2).symm)), va_Nw.use rfl (hN.2 _ (by decide +kernel : Cond.methodLinkNest "DioceseBook$Story" 69 ctY_Changes "DioceseBook" ∈ ct_NL))⟩, rfl, hts _ ctI_Changes⟩ ⟨ct_blind _ _ _, fun U hU hW => ⟨rfl, by rw [hU], by rw [hU]; exact hPc, va_K.moved hW.alike hK, hDc.weaken (fun _ _ _ _ => trivial), ct_N_warm hW hN⟩⟩ rfl rfl hl.1 rfl (lv_room (Nat.le_of_ble_eq_true rfl)) ctD_Story_99 ⟨Nat.le_of_ble_eq_true rfl, Nat.le_of_ble_eq_true rfl⟩) hS (fun q _ h => hFc q h) hFc (fun u99 t H1 locs ht hvm hw hB hz1 hk1 hS => ?_)
  obtain ⟨hP1, hD1⟩ := hB
  rw [ht] at hP1
  obtain ⟨hP, hD⟩ := ct_join hP hD hk1 hFc hP1 hD1
  generalize H1 = H at hP hS ⊢
  obtain ⟨Z8, hZ8⟩ : ∃ z : va_W, z = Z7 ++ ctW_Changes cA  u99 := ⟨_, rfl⟩
  have hP : va_P D wCl ((h0, .inr (7, [.ref p1, .ref p2, .ref p3, .ref q83, .null, .ref q7, .ref q17, .ref q27, .ref q35, .ref q44, .ref q52, .int (-1), .int (-1)])) :: Z8) H := by rw [hZ8]; exact hP
  have hD : va_D A ((h0, .inr (7, [.ref p1, .ref p2, .ref p3, .ref q83, .null, .ref q7, .ref q17, .ref q27, .ref q35, .ref q44, .ref q52, .int (-1), .int (-1)])) :: Z8) := by rw [hZ8]; exact hD
  refine W.widen (k := 31) (n := 2834) (by omega) (by omega) ?_
  have hw99 : u99 0 = q95 := hw
  refine va_putF (D := D) (ci := 7) (v := .ref q95) (ty := .object "DioceseBook$Changes") (C := "DioceseBook$Story") (T := TX7) (N := 13) hx hb hts gk_cl7.2.1 tyX7 tyX7_ok nmX7 hown hK hP hD hS 0 rfl rfl 4 (by decide) (hts _ (ck_w_ok (i := 410) (by decide +kernel) : Cond.fieldLink "DioceseBook$Story" 70 "DioceseBook$Story" "changes" "LDioceseBook$Changes;" ∈ aAW)) (fun _ h9 => h9) rfl hin rfl (by decide +kernel) rfl rfl (Nat.le_of_ble_eq_true rfl) ctD_Story_102 (fun H locs hP hD hS => ?_)
  have hP : va_P D wCl ((h0, .inr (7, [.ref p1, .ref p2, .ref p3, .ref q83, .ref q95, .ref q7, .ref q17, .ref q27, .ref q35, .ref q44, .ref q52, .int (-1), .int (-1)])) :: Z8) H := hP
  have hD : va_D A ((h0, .inr (7, [.ref p1, .ref p2, .ref p3, .ref q83, .ref q95, .ref q7, .ref q17, .ref q27, .ref q35, .ref q44, .ref q52, .int (-1), .int (-1)])) :: Z8) := hD
  subst hAe
  subst hZ0 hZ1 hZ2 hZ3 hZ4 hZ5 hZ6 hZ7 hZ8
  rw [← hw88] at hP hD
  rw [← hw99] at hP hD
  rw [ct_if (ctU_Story_r17 h0 q7 q17 r17 q27 q35 q44 q52 u88 u99), ct_map (ctU_Story_r17 h0 q7 q17 r17 q27 q35 q44 q52 u88 u99)] at hP hD
  rw [ctWc_Rights (ctU_Story_u88 h0 q7 q17 r17 q27 q35 q44 q52 u88 u99)] at hP hD
  rw [ctWc_Changes (ctU_Story_u99 h0 q7 q17 r17 q27 q35 q44 q52 u88 u99)] at hP hD
  refine W.vret hx hb hr (fun t ht hW => ⟨⟨(ctU_Story h0 q7 q17 r17 q27 q35 q44 q52 u88 u99), rfl, rfl, by rw [ht]; exact hP, hD⟩, hS.F ht⟩) hS.2.2 ctD_Story_105 hlocks
theorem ctWc_Story {cA : Nat → ClassId} {p1 p2 p3 : Nat} {u u' : Nat → Nat} (h : ∀ k, k < 32 → u k = u' k) : ctW_Story cA p1 p2 p3 u = ctW_Story cA p1 p2 p3 u' := by
  unfold ctW_Story
  rw [h 0 (by decide)]
  (try rw [h 19 (by decide)])
  (try rw [h 25 (by decide)])
  rw [h 1 (by decide)]
  rw [h 2 (by decide)]
  rw [ct_if (r := fun i => u (3 + i)) (r' := fun i => u' (3 + i)) (fun i hi => h _ (by omega)), ct_map (r := fun i => u (3 + i)) (r' := fun i => u' (3 + i)) (fun i hi => h _ (by omega))]
  rw [h 15 (by decide)]
  rw [h 16 (by decide)]
  rw [h 17 (by decide)]
  rw [h 18 (by decide)]
  rw [ctWc_Rights (u := fun k => u (19 + k)) (u' := fun k => u' (19 + k)) (fun k hk => h _ (by omega))]
  rw [ctWc_Changes (u := fun k => u (25 + k)) (u' := fun k => u' (25 + k)) (fun k hk => h _ (by omega))]
