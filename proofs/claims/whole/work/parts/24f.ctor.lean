/-! the class DioceseBook of Rights: what it makes -/
def ctW_Rights (cA : Nat → ClassId) (p1 : Nat) (u : Nat → Nat) : va_W := [(u 0, .inr (6, [.ref p1, .ref (u 1), .ref (u 2), .ref (u 3), .ref (u 4), .int 0, .ref (u 5)])), (u 1, .inl (cA 0, 12, .inl (fun _ => 0))), (u 2, .inl (cA 0, 12, .inl (fun _ => 0))), (u 3, .inl (cA 1, 12, .inl (fun _ => 0))), (u 4, .inl (cA 0, 150, .inl (fun _ => 0))), (u 5, .inl (cA 1, 150, .inl (fun _ => 0)))]
abbrev ctB_Rights : ByteArray := prog_8_method_1_code
def ctY_Rights : MethodName := ⟨"DioceseBook$Rights", "<init>", "(LDioceseBook$Papers;)V"⟩
def ctE_Rights (h0 : Nat) : va_W := [(h0, .inr (6, [.null, .null, .null, .null, .null, .int 0, .null]))]
theorem ctD_Rights_0 : decode ctB_Rights 0 = .ok (.aload_n 0, 1) := by decide +kernel
theorem ctD_Rights_1 : decode ctB_Rights 1 = .ok (.invokespecial 3, 3) := by decide +kernel
theorem ctD_Rights_4 : decode ctB_Rights 4 = .ok (.aload_n 0, 1) := by decide +kernel
theorem ctD_Rights_5 : decode ctB_Rights 5 = .ok (.bipush 12, 2) := by decide +kernel
theorem ctD_Rights_7 : decode ctB_Rights 7 = .ok (.newarray .int, 2) := by decide +kernel
theorem ctD_Rights_9 : decode ctB_Rights 9 = .ok (.putfield 11, 3) := by decide +kernel
theorem ctD_Rights_12 : decode ctB_Rights 12 = .ok (.aload_n 0, 1) := by decide +kernel
theorem ctD_Rights_13 : decode ctB_Rights 13 = .ok (.bipush 12, 2) := by decide +kernel
theorem ctD_Rights_15 : decode ctB_Rights 15 = .ok (.newarray .int, 2) := by decide +kernel
theorem ctD_Rights_17 : decode ctB_Rights 17 = .ok (.putfield 17, 3) := by decide +kernel
theorem ctD_Rights_20 : decode ctB_Rights 20 = .ok (.aload_n 0, 1) := by decide +kernel
theorem ctD_Rights_21 : decode ctB_Rights 21 = .ok (.bipush 12, 2) := by decide +kernel
theorem ctD_Rights_23 : decode ctB_Rights 23 = .ok (.newarray .boolean, 2) := by decide +kernel
theorem ctD_Rights_25 : decode ctB_Rights 25 = .ok (.putfield 20, 3) := by decide +kernel
theorem ctD_Rights_28 : decode ctB_Rights 28 = .ok (.aload_n 0, 1) := by decide +kernel
theorem ctD_Rights_29 : decode ctB_Rights 29 = .ok (.sipush 150, 3) := by decide +kernel
theorem ctD_Rights_32 : decode ctB_Rights 32 = .ok (.newarray .int, 2) := by decide +kernel
theorem ctD_Rights_34 : decode ctB_Rights 34 = .ok (.putfield 26, 3) := by decide +kernel
theorem ctD_Rights_37 : decode ctB_Rights 37 = .ok (.aload_n 0, 1) := by decide +kernel
theorem ctD_Rights_38 : decode ctB_Rights 38 = .ok (.sipush 150, 3) := by decide +kernel
theorem ctD_Rights_41 : decode ctB_Rights 41 = .ok (.newarray .boolean, 2) := by decide +kernel
theorem ctD_Rights_43 : decode ctB_Rights 43 = .ok (.putfield 29, 3) := by decide +kernel
theorem ctD_Rights_46 : decode ctB_Rights 46 = .ok (.aload_n 0, 1) := by decide +kernel
theorem ctD_Rights_47 : decode ctB_Rights 47 = .ok (.aload_n 1, 1) := by decide +kernel
theorem ctD_Rights_48 : decode ctB_Rights 48 = .ok (.putfield 32, 3) := by decide +kernel
theorem ctD_Rights_51 : decode ctB_Rights 51 = .ok (.return_, 1) := by decide +kernel
theorem ctC_Rights : Cond.code ctY_Rights ctB_Rights 2 none ∈ aAW := ck_w_ok (i := 349) (by decide +kernel)
theorem ctI_Rights : Cond.instanceMethod ctY_Rights ∈ aAW := ck_w_ok (i := 348) (by decide +kernel)
def ctR_Rights : Room := { frames := 1, cells := 5, slots := 336, locals := 12 }
def ctU_Rights (h0 : Nat) (q7 : Nat) (q15 : Nat) (q23 : Nat) (q32 : Nat) (q41 : Nat) : Nat → Nat := fun k => (cond (Nat.blt k 3) (cond (Nat.blt k 1) h0 (cond (Nat.blt k 2) q7 q15)) (cond (Nat.blt k 4) q23 (cond (Nat.blt k 5) q32 q41)))
set_option maxHeartbeats 8000000 in
set_option maxRecDepth 100000 in
theorem ct_Rights (l : Launch) (D : va_G) (cA : Nat → ClassId) (h0 p1 sz : Nat) : Met l ctY_Rights (Cond.code ctY_Rights ctB_Rights 2 none :: aAW) ctR_Rights (va_Pc [.ref h0, .ref p1] (fun U => U.heap.size = sz ∧ va_P D wCl (ctE_Rights h0) U.heap ∧ va_K D wCl (aTys cA) U ∧ va_D (fun _ => True) (ctE_Rights h0) ∧ ct_N U)) (va_Qv (fun u : Nat → Nat => u 0 = h0) (fun u t => va_P D wCl (ctW_Rights cA p1 u) t.heap ∧ va_D (va_A (ctE_Rights h0) sz) (ctW_Rights cA p1 u)) (va_A (ctE_Rights h0) sz)) 5 336 (va_A (ctE_Rights h0) sz) := by
  refine Met.ofW (cc := ctB_Rights) (maxL := 2) (ret := none) (by decide) rfl ?_
  intro p e s m args below meth c s₁ B hml hv
  obtain ⟨rfl, hsz, hP, hK, hD0, hN⟩ := hv
  have hx := B.exec
  have hb := B.bytes
  have hr := B.returns
  have hts0 := atoms_spec (ws := Cond.code ctY_Rights ctB_Rights 2 none :: aAW) B.pre
  have hts : ∀ w ∈ aAW, w.before _ s = true := fun w hw => hts0 w (List.mem_cons_of_mem _ hw)
  have hown : s.vm.findClass "DioceseBook$Rights" = some m.cls := findClass_of_methodNamed B.named
  have hlocks := B.notSynchronized
  have hin : meth.name = "<init>" := (name_of_methodNamed B.named B.method).1
  subst hsz
  have hD := hD0.self (sz := s.heap.size)
  generalize hAe : va_A (ctE_Rights h0) s.heap.size = A at hD ⊢
  have hA : ∀ q : Nat, s.heap.size ≤ q → A q := fun q h => by rw [← hAe]; exact Or.inr h
  have hS : va_S A s.heap s.heap [] := va_S.rf
  have hl := lv_entry ([.ref h0, .ref p1]) (n := 2) (Nat.le_of_ble_eq_true rfl)
  rw [lg_entry_eq]
  generalize (lg_sl ([.ref h0, .ref p1]) ++ List.replicate (2 - (lg_sl ([.ref h0, .ref p1])).length) Slot.unset).toArray = ls at hl ⊢
  have hl : lv_has ls 2 [(0, .ref h0), (1, .ref p1)] := hl
  obtain ⟨Z0, hZ0⟩ : ∃ z : va_W, z = [] := ⟨_, rfl⟩
  have hP : va_P D wCl ((h0, .inr (6, [.null, .null, .null, .null, .null, .int 0, .null])) :: Z0) s.heap := by rw [hZ0]; exact hP
  have hD : va_D A ((h0, .inr (6, [.null, .null, .null, .null, .null, .int 0, .null])) :: Z0) := by rw [hZ0]; exact hD
  refine lv_aload_n hx hb ctD_Rights_0 rfl (lv_at hl 0 rfl) ?_
  refine W.objInit hx hb hown (hts _ (ck_w_ok (i := 350) (by decide +kernel) : Cond.methodLink "DioceseBook$Rights" 3 Lib.objectInit ∈ aAW)) (hts _ ct_oI) (hts _ ct_oC) rfl (by rw [hml]; exact hl.1) rfl ctD_Rights_1 (Nat.le_of_ble_eq_true rfl) (Nat.le_of_ble_eq_true rfl) ?_
  refine W.eq (g2 := F0 m 4 ls []) rfl ?_
  refine lv_aload_n hx hb ctD_Rights_4 rfl (lv_at hl 0 rfl) ?_
  refine lv_bipush (v := 12) hx hb ctD_Rights_5 (by decide) ?_
  refine a_newa (atype := .int) (ty := .int) (c0 := cA 0) 0 hx hb (hts _ ct_a0) rfl (fun n h => by cases h) hK rfl hP hD hS hA (N' := 12) (a0 := (12, .inl (fun _ => 0))) (fun _ => rfl) (by decide) (by decide) (by decide) (Nat.le_of_ble_eq_true rfl) (Nat.le_of_ble_eq_true rfl) ctD_Rights_7 (fun q7 H hP hD hS => ?_)
  obtain ⟨Z1, hZ1⟩ : ∃ z : va_W, z = Z0 ++ [(q7, .inl (cA 0, 12, .inl (fun _ => 0)))] := ⟨_, rfl⟩
  have hP : va_P D wCl ((h0, .inr (6, [.null, .null, .null, .null, .null, .int 0, .null])) :: Z1) H := by rw [hZ1]; exact hP
  have hD : va_D A ((h0, .inr (6, [.null, .null, .null, .null, .null, .int 0, .null])) :: Z1) := by rw [hZ1]; exact hD
  refine W.widen (k := 1) (n := 12) (by omega) (by omega) ?_
  refine va_putF (D := D) (ci := 6) (v := .ref q7) (ty := .array .int) (C := "DioceseBook$Rights") (T := TX6) (N := 7) hx hb hts gk_cl6.2.1 tyX6 tyX6_ok nmX6 hown hK hP hD hS 0 rfl rfl 1 (by decide) (hts _ (ck_w_ok (i := 352) (by decide +kernel) : Cond.fieldLink "DioceseBook$Rights" 11 "DioceseBook$Rights" "patron" "[I" ∈ aAW)) (fun _ h9 => h9) rfl hin rfl (by decide +kernel) rfl rfl (Nat.le_of_ble_eq_true rfl) ctD_Rights_9 (fun H locs hP hD hS => ?_)
  have hP : va_P D wCl ((h0, .inr (6, [.null, .ref q7, .null, .null, .null, .int 0, .null])) :: Z1) H := hP
  have hD : va_D A ((h0, .inr (6, [.null, .ref q7, .null, .null, .null, .int 0, .null])) :: Z1) := hD
  refine lv_aload_n hx hb ctD_Rights_12 rfl (lv_at hl 0 rfl) ?_
  refine lv_bipush (v := 12) hx hb ctD_Rights_13 (by decide) ?_
  refine a_newa (atype := .int) (ty := .int) (c0 := cA 0) 0 hx hb (hts _ ct_a0) rfl (fun n h => by cases h) hK rfl hP hD hS hA (N' := 12) (a0 := (12, .inl (fun _ => 0))) (fun _ => rfl) (by decide) (by decide) (by decide) (Nat.le_of_ble_eq_true rfl) (Nat.le_of_ble_eq_true rfl) ctD_Rights_15 (fun q15 H hP hD hS => ?_)
  obtain ⟨Z2, hZ2⟩ : ∃ z : va_W, z = Z1 ++ [(q15, .inl (cA 0, 12, .inl (fun _ => 0)))] := ⟨_, rfl⟩
  have hP : va_P D wCl ((h0, .inr (6, [.null, .ref q7, .null, .null, .null, .int 0, .null])) :: Z2) H := by rw [hZ2]; exact hP
  have hD : va_D A ((h0, .inr (6, [.null, .ref q7, .null, .null, .null, .int 0, .null])) :: Z2) := by rw [hZ2]; exact hD
  refine W.widen (k := 2) (n := 24) (by omega) (by omega) ?_
  refine va_putF (D := D) (ci := 6) (v := .ref q15) (ty := .array .int) (C := "DioceseBook$Rights") (T := TX6) (N := 7) hx hb hts gk_cl6.2.1 tyX6 tyX6_ok nmX6 hown hK hP hD hS 0 rfl rfl 2 (by decide) (hts _ (ck_w_ok (i := 353) (by decide +kernel) : Cond.fieldLink "DioceseBook$Rights" 17 "DioceseBook$Rights" "partner" "[I" ∈ aAW)) (fun _ h9 => h9) rfl hin rfl (by decide +kernel) rfl rfl (Nat.le_of_ble_eq_true rfl) ctD_Rights_17 (fun H locs hP hD hS => ?_)
  have hP : va_P D wCl ((h0, .inr (6, [.null, .ref q7, .ref q15, .null, .null, .int 0, .null])) :: Z2) H := hP
  have hD : va_D A ((h0, .inr (6, [.null, .ref q7, .ref q15, .null, .null, .int 0, .null])) :: Z2) := hD
  refine lv_aload_n hx hb ctD_Rights_20 rfl (lv_at hl 0 rfl) ?_
  refine lv_bipush (v := 12) hx hb ctD_Rights_21 (by decide) ?_
  refine a_newa (atype := .boolean) (ty := .boolean) (c0 := cA 1) 1 hx hb (hts _ ct_a1) rfl (fun n h => by cases h) hK rfl hP hD hS hA (N' := 12) (a0 := (12, .inl (fun _ => 0))) (fun _ => rfl) (by decide) (by decide) (by decide) (Nat.le_of_ble_eq_true rfl) (Nat.le_of_ble_eq_true rfl) ctD_Rights_23 (fun q23 H hP hD hS => ?_)
  obtain ⟨Z3, hZ3⟩ : ∃ z : va_W, z = Z2 ++ [(q23, .inl (cA 1, 12, .inl (fun _ => 0)))] := ⟨_, rfl⟩
  have hP : va_P D wCl ((h0, .inr (6, [.null, .ref q7, .ref q15, .null, .null, .int 0, .null])) :: Z3) H := by rw [hZ3]; exact hP
  have hD : va_D A ((h0, .inr (6, [.null, .ref q7, .ref q15, .null, .null, .int 0, .null])) :: Z3) := by rw [hZ3]; exact hD
  refine W.widen (k := 3) (n := 36) (by omega) (by omega) ?_
  refine va_putF (D := D) (ci := 6) (v := .ref q23) (ty := .array .boolean) (C := "DioceseBook$Rights") (T := TX6) (N := 7) hx hb hts gk_cl6.2.1 tyX6 tyX6_ok nmX6 hown hK hP hD hS 0 rfl rfl 3 (by decide) (hts _ (ck_w_ok (i := 354) (by decide +kernel) : Cond.fieldLink "DioceseBook$Rights" 20 "DioceseBook$Rights" "partnerNext" "[Z" ∈ aAW)) (fun _ h9 => h9) rfl hin rfl (by decide +kernel) rfl rfl (Nat.le_of_ble_eq_true rfl) ctD_Rights_25 (fun H locs hP hD hS => ?_)
  have hP : va_P D wCl ((h0, .inr (6, [.null, .ref q7, .ref q15, .ref q23, .null, .int 0, .null])) :: Z3) H := hP
  have hD : va_D A ((h0, .inr (6, [.null, .ref q7, .ref q15, .ref q23, .null, .int 0, .null])) :: Z3) := hD
  refine lv_aload_n hx hb ctD_Rights_28 rfl (lv_at hl 0 rfl) ?_
  refine lv_sipush (v := 150) hx hb ctD_Rights_29 (by decide) ?_
  refine a_newa (atype := .int) (ty := .int) (c0 := cA 0) 0 hx hb (hts _ ct_a0) rfl (fun n h => by cases h) hK rfl hP hD hS hA (N' := 150) (a0 := (150, .inl (fun _ => 0))) (fun _ => rfl) (by decide) (by decide) (by decide) (Nat.le_of_ble_eq_true rfl) (Nat.le_of_ble_eq_true rfl) ctD_Rights_32 (fun q32 H hP hD hS => ?_)
  obtain ⟨Z4, hZ4⟩ : ∃ z : va_W, z = Z3 ++ [(q32, .inl (cA 0, 150, .inl (fun _ => 0)))] := ⟨_, rfl⟩
  have hP : va_P D wCl ((h0, .inr (6, [.null, .ref q7, .ref q15, .ref q23, .null, .int 0, .null])) :: Z4) H := by rw [hZ4]; exact hP
  have hD : va_D A ((h0, .inr (6, [.null, .ref q7, .ref q15, .ref q23, .null, .int 0, .null])) :: Z4) := by rw [hZ4]; exact hD
  refine W.widen (k := 4) (n := 186) (by omega) (by omega) ?_
  refine va_putF (D := D) (ci := 6) (v := .ref q32) (ty := .array .int) (C := "DioceseBook$Rights") (T := TX6) (N := 7) hx hb hts gk_cl6.2.1 tyX6 tyX6_ok nmX6 hown hK hP hD hS 0 rfl rfl 4 (by decide) (hts _ (ck_w_ok (i := 355) (by decide +kernel) : Cond.fieldLink "DioceseBook$Rights" 26 "DioceseBook$Rights" "sold" "[I" ∈ aAW)) (fun _ h9 => h9) rfl hin rfl (by decide +kernel) rfl rfl (Nat.le_of_ble_eq_true rfl) ctD_Rights_34 (fun H locs hP hD hS => ?_)
  have hP : va_P D wCl ((h0, .inr (6, [.null, .ref q7, .ref q15, .ref q23, .ref q32, .int 0, .null])) :: Z4) H := hP
  have hD : va_D A ((h0, .inr (6, [.null, .ref q7, .ref q15, .ref q23, .ref q32, .int 0, .null])) :: Z4) := hD
  refine lv_aload_n hx hb ctD_Rights_37 rfl (lv_at hl 0 rfl) ?_
  refine lv_sipush (v := 150) hx hb ctD_Rights_38 (by decide) ?_
  refine a_newa (atype := .boolean) (ty := .boolean) (c0 := cA 1) 1 hx hb (hts _ ct_a1) rfl (fun n h => by cases h) hK rfl hP hD hS hA (N' := 150) (a0 := (150, .inl (fun _ => 0))) (fun _ => rfl) (by decide) (by decide) (by decide) (Nat.le_of_ble_eq_true rfl) (Nat.le_of_ble_eq_true rfl) ctD_Rights_41 (fun q41 H hP hD hS => ?_)
  obtain ⟨Z5, hZ5⟩ : ∃ z : va_W, z = Z4 ++ [(q41, .inl (cA 1, 150, .inl (fun _ => 0)))] := ⟨_, rfl⟩
  have hP : va_P D wCl ((h0, .inr (6, [.null, .ref q7, .ref q15, .ref q23, .ref q32, .int 0, .null])) :: Z5) H := by rw [hZ5]; exact hP
  have hD : va_D A ((h0, .inr (6, [.null, .ref q7, .ref q15, .ref q23, .ref q32, .int 0, .null])) :: Z5) := by rw [hZ5]; exact hD
  refine W.widen (k := 5) (n := 336) (by omega) (by omega) ?_
  refine va_putF (D := D) (ci := 6) (v := .ref q41) (ty := .array .boolean) (C := "DioceseBook$Rights") (T := TX6) (N := 7) hx hb hts gk_cl6.2.1 tyX6 tyX6_ok nmX6 hown hK hP hD hS 0 rfl rfl 6 (by decide) (hts _ (ck_w_ok (i := 357) (by decide +kernel) : Cond.fieldLink "DioceseBook$Rights" 29 "DioceseBook$Rights" "isUsed" "[Z" ∈ aAW)) (fun _ h9 => h9) rfl hin rfl (by decide +kernel) rfl rfl (Nat.le_of_ble_eq_true rfl) ctD_Rights_43 (fun H locs hP hD hS => ?_)
  have hP : va_P D wCl ((h0, .inr (6, [.null, .ref q7, .ref q15, .ref q23, .ref q32, .int 0, .ref q41])) :: Z5) H := hP
  have hD : va_D A ((h0, .inr (6, [.null, .ref q7, .ref q15, .ref q23, .ref q32, .int 0, .ref q41])) :: Z5) := hD
  refine lv_aload_n hx hb ctD_Rights_46 rfl (lv_at hl 0 rfl) ?_
  refine lv_aload_n hx hb ctD_Rights_47 rfl (lv_at hl 1 rfl) ?_
  refine va_putF (D := D) (ci := 6) (v := .ref p1) (ty := .object "DioceseBook$Papers") (C := "DioceseBook$Rights") (T := TX6) (N := 7) hx hb hts gk_cl6.2.1 tyX6 tyX6_ok nmX6 hown hK hP hD hS 0 rfl rfl 0 (by decide) (hts _ (ck_w_ok (i := 351) (by decide +kernel) : Cond.fieldLink "DioceseBook$Rights" 32 "DioceseBook$Rights" "papers" "LDioceseBook$Papers;" ∈ aAW)) (fun _ h9 => h9) rfl hin rfl (by decide +kernel) rfl rfl (Nat.le_of_ble_eq_true rfl) ctD_Rights_48 (fun H locs hP hD hS => ?_)
  have hP : va_P D wCl ((h0, .inr (6, [.ref p1, .ref q7, .ref q15, .ref q23, .ref q32, .int 0, .ref q41])) :: Z5) H := hP
  have hD : va_D A ((h0, .inr (6, [.ref p1, .ref q7, .ref q15, .ref q23, .ref q32, .int 0, .ref q41])) :: Z5) := hD
  subst hAe
  subst hZ0 hZ1 hZ2 hZ3 hZ4 hZ5
  refine W.vret hx hb hr (fun t ht hW => ⟨⟨(ctU_Rights h0 q7 q15 q23 q32 q41), rfl, rfl, by rw [ht]; exact hP, hD⟩, hS.F ht⟩) hS.2.2 ctD_Rights_51 hlocks
theorem ctWc_Rights {cA : Nat → ClassId} {p1 : Nat} {u u' : Nat → Nat} (h : ∀ k, k < 6 → u k = u' k) : ctW_Rights cA p1 u = ctW_Rights cA p1 u' := by
  unfold ctW_Rights
  rw [h 0 (by decide)]
  rw [h 1 (by decide)]
  rw [h 2 (by decide)]
  rw [h 3 (by decide)]
  rw [h 4 (by decide)]
  rw [h 5 (by decide)]
