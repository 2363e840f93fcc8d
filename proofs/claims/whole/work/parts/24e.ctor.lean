/-! the class DioceseBook of Reader: what it makes -/
def ctW_Reader (cA : Nat → ClassId) (p1 : Nat) (u : Nat → Nat) : va_W := [(u 0, .inr (4, [.ref p1, .ref (u 1), .int 0, .int (-1), .int 0, .int 0])), (u 1, .inl (cA 2, 200, .inl (fun _ => 0)))]
abbrev ctB_Reader : ByteArray := prog_6_method_1_code
def ctY_Reader : MethodName := ⟨"DioceseBook$Reader", "<init>", "(LDioceseBook$Canons;)V"⟩
def ctE_Reader (h0 : Nat) : va_W := [(h0, .inr (4, [.null, .null, .int 0, .int 0, .int 0, .int 0]))]
theorem ctD_Reader_0 : decode ctB_Reader 0 = .ok (.aload_n 0, 1) := by decide +kernel
theorem ctD_Reader_1 : decode ctB_Reader 1 = .ok (.invokespecial 3, 3) := by decide +kernel
theorem ctD_Reader_4 : decode ctB_Reader 4 = .ok (.aload_n 0, 1) := by decide +kernel
theorem ctD_Reader_5 : decode ctB_Reader 5 = .ok (.sipush 200, 3) := by decide +kernel
theorem ctD_Reader_8 : decode ctB_Reader 8 = .ok (.newarray .char, 2) := by decide +kernel
theorem ctD_Reader_10 : decode ctB_Reader 10 = .ok (.putfield 11, 3) := by decide +kernel
theorem ctD_Reader_13 : decode ctB_Reader 13 = .ok (.aload_n 0, 1) := by decide +kernel
theorem ctD_Reader_14 : decode ctB_Reader 14 = .ok (.iconst (-1), 1) := by decide +kernel
theorem ctD_Reader_15 : decode ctB_Reader 15 = .ok (.putfield 15, 3) := by decide +kernel
theorem ctD_Reader_18 : decode ctB_Reader 18 = .ok (.aload_n 0, 1) := by decide +kernel
theorem ctD_Reader_19 : decode ctB_Reader 19 = .ok (.aload_n 1, 1) := by decide +kernel
theorem ctD_Reader_20 : decode ctB_Reader 20 = .ok (.putfield 19, 3) := by decide +kernel
theorem ctD_Reader_23 : decode ctB_Reader 23 = .ok (.return_, 1) := by decide +kernel
theorem ctC_Reader : Cond.code ctY_Reader ctB_Reader 2 none ∈ aAW := ck_w_ok (i := 314) (by decide +kernel)
theorem ctI_Reader : Cond.instanceMethod ctY_Reader ∈ aAW := ck_w_ok (i := 313) (by decide +kernel)
def ctR_Reader : Room := { frames := 1, cells := 1, slots := 200, locals := 12 }
def ctU_Reader (h0 : Nat) (q8 : Nat) : Nat → Nat := fun k => (cond (Nat.blt k 1) h0 q8)
set_option maxHeartbeats 8000000 in
set_option maxRecDepth 100000 in
theorem ct_Reader (l : Launch) (D : va_G) (cA : Nat → ClassId) (h0 p1 sz : Nat) : Met l ctY_Reader (Cond.code ctY_Reader ctB_Reader 2 none :: aAW) ctR_Reader (va_Pc [.ref h0, .ref p1] (fun U => U.heap.size = sz ∧ va_P D wCl (ctE_Reader h0) U.heap ∧ va_K D wCl (aTys cA) U ∧ va_D (fun _ => True) (ctE_Reader h0) ∧ ct_N U)) (va_Qv (fun u : Nat → Nat => u 0 = h0) (fun u t => va_P D wCl (ctW_Reader cA p1 u) t.heap ∧ va_D (va_A (ctE_Reader h0) sz) (ctW_Reader cA p1 u)) (va_A (ctE_Reader h0) sz)) 1 200 (va_A (ctE_Reader h0) sz) := by
  refine Met.ofW (cc := ctB_Reader) (maxL := 2) (ret := none) (by decide) rfl ?_
  intro p e s m args below meth c s₁ B hml hv
  obtain ⟨rfl, hsz, hP, hK, hD0, hN⟩ := hv
  have hx := B.exec
  have hb := B.bytes
  have hr := B.returns
  have hts0 := atoms_spec (ws := Cond.code ctY_Reader ctB_Reader 2 none :: aAW) B.pre
  have hts : ∀ w ∈ aAW, w.before _ s = true := fun w hw => hts0 w (List.mem_cons_of_mem _ hw)
  have hown : s.vm.findClass "DioceseBook$Reader" = some m.cls := findClass_of_methodNamed B.named
  have hlocks := B.notSynchronized
  have hin : meth.name = "<init>" := (name_of_methodNamed B.named B.method).1
  subst hsz
  have hD := hD0.self (sz := s.heap.size)
  generalize hAe : va_A (ctE_Reader h0) s.heap.size = A at hD ⊢
  have hA : ∀ q : Nat, s.heap.size ≤ q → A q := fun q h => by rw [← hAe]; exact Or.inr h
  have hS : va_S A s.heap s.heap [] := va_S.rf
  have hl := lv_entry ([.ref h0, .ref p1]) (n := 2) (Nat.le_of_ble_eq_true rfl)
  rw [lg_entry_eq]
  generalize (lg_sl ([.ref h0, .ref p1]) ++ List.replicate (2 - (lg_sl ([.ref h0, .ref p1])).length) Slot.unset).toArray = ls at hl ⊢
  have hl : lv_has ls 2 [(0, .ref h0), (1, .ref p1)] := hl
  obtain ⟨Z0, hZ0⟩ : ∃ z : va_W, z = [] := ⟨_, rfl⟩
  have hP : va_P D wCl ((h0, .inr (4, [.null, .null, .int 0, .int 0, .int 0, .int 0])) :: Z0) s.heap := by rw [hZ0]; exact hP
  have hD : va_D A ((h0, .inr (4, [.null, .null, .int 0, .int 0, .int 0, .int 0])) :: Z0) := by rw [hZ0]; exact hD
  refine lv_aload_n hx hb ctD_Reader_0 rfl (lv_at hl 0 rfl) ?_
  refine W.objInit hx hb hown (hts _ (ck_w_ok (i := 315) (by decide +kernel) : Cond.methodLink "DioceseBook$Reader" 3 Lib.objectInit ∈ aAW)) (hts _ ct_oI) (hts _ ct_oC) rfl (by rw [hml]; exact hl.1) rfl ctD_Reader_1 (Nat.le_of_ble_eq_true rfl) (Nat.le_of_ble_eq_true rfl) ?_
  refine W.eq (g2 := F0 m 4 ls []) rfl ?_
  refine lv_aload_n hx hb ctD_Reader_4 rfl (lv_at hl 0 rfl) ?_
  refine lv_sipush (v := 200) hx hb ctD_Reader_5 (by decide) ?_
  refine a_newa (atype := .char) (ty := .char) (c0 := cA 2) 2 hx hb (hts _ ct_a2) rfl (fun n h => by cases h) hK rfl hP hD hS hA (N' := 200) (a0 := (200, .inl (fun _ => 0))) (fun _ => rfl) (by decide) (by decide) (by decide) (Nat.le_of_ble_eq_true rfl) (Nat.le_of_ble_eq_true rfl) ctD_Reader_8 (fun q8 H hP hD hS => ?_)
  obtain ⟨Z1, hZ1⟩ : ∃ z : va_W, z = Z0 ++ [(q8, .inl (cA 2, 200, .inl (fun _ => 0)))] := ⟨_, rfl⟩
  have hP : va_P D wCl ((h0, .inr (4, [.null, .null, .int 0, .int 0, .int 0, .int 0])) :: Z1) H := by rw [hZ1]; exact hP
  have hD : va_D A ((h0, .inr (4, [.null, .null, .int 0, .int 0, .int 0, .int 0])) :: Z1) := by rw [hZ1]; exact hD
  refine W.widen (k := 1) (n := 200) (by omega) (by omega) ?_
  refine va_putF (D := D) (ci := 4) (v := .ref q8) (ty := .array .char) (C := "DioceseBook$Reader") (T := TX4) (N := 6) hx hb hts gk_cl4.2.1 tyX4 tyX4_ok nmX4 hown hK hP hD hS 0 rfl rfl 1 (by decide) (hts _ (ck_w_ok (i := 317) (by decide +kernel) : Cond.fieldLink "DioceseBook$Reader" 11 "DioceseBook$Reader" "text" "[C" ∈ aAW)) (fun _ h9 => h9) rfl hin rfl (by decide +kernel) rfl rfl (Nat.le_of_ble_eq_true rfl) ctD_Reader_10 (fun H locs hP hD hS => ?_)
  have hP : va_P D wCl ((h0, .inr (4, [.null, .ref q8, .int 0, .int 0, .int 0, .int 0])) :: Z1) H := hP
  have hD : va_D A ((h0, .inr (4, [.null, .ref q8, .int 0, .int 0, .int 0, .int 0])) :: Z1) := hD
  refine lv_aload_n hx hb ctD_Reader_13 rfl (lv_at hl 0 rfl) ?_
  refine lv_iconst (v := (-1)) hx hb ctD_Reader_14 (by decide) ?_
  refine va_put (D := D) (ci := 4) (v := .int (-1)) (ty := .int) (C := "DioceseBook$Reader") (T := TX4) (N := 6) hx hb hts gk_cl4.2.1 tyX4 tyX4_ok nmX4 hown hK hP hD hS 0 rfl rfl 3 (by decide) (hts _ (ck_w_ok (i := 320) (by decide +kernel) : Cond.fieldLink "DioceseBook$Reader" 15 "DioceseBook$Reader" "faultAt" "I" ∈ aAW)) (fun _ h9 => h9) rfl (by decide +kernel) rfl rfl (Nat.le_of_ble_eq_true rfl) ctD_Reader_15 (fun H locs hP hD hS => ?_)
  have hP : va_P D wCl ((h0, .inr (4, [.null, .ref q8, .int 0, .int (-1), .int 0, .int 0])) :: Z1) H := hP
  have hD : va_D A ((h0, .inr (4, [.null, .ref q8, .int 0, .int (-1), .int 0, .int 0])) :: Z1) := hD
  refine lv_aload_n hx hb ctD_Reader_18 rfl (lv_at hl 0 rfl) ?_
  refine lv_aload_n hx hb ctD_Reader_19 rfl (lv_at hl 1 rfl) ?_
  refine va_putF (D := D) (ci := 4) (v := .ref p1) (ty := .object "DioceseBook$Canons") (C := "DioceseBook$Reader") (T := TX4) (N := 6) hx hb hts gk_cl4.2.1 tyX4 tyX4_ok nmX4 hown hK hP hD hS 0 rfl rfl 0 (by decide) (hts _ (ck_w_ok (i := 316) (by decide +kernel) : Cond.fieldLink "DioceseBook$Reader" 19 "DioceseBook$Reader" "canons" "LDioceseBook$Canons;" ∈ aAW)) (fun _ h9 => h9) rfl hin rfl (by decide +kernel) rfl rfl (Nat.le_of_ble_eq_true rfl) ctD_Reader_20 (fun H locs hP hD hS => ?_)
  have hP : va_P D wCl ((h0, .inr (4, [.ref p1, .ref q8, .int 0, .int (-1), .int 0, .int 0])) :: Z1) H := hP
  have hD : va_D A ((h0, .inr (4, [.ref p1, .ref q8, .int 0, .int (-1), .int 0, .int 0])) :: Z1) := hD
  subst hAe
  subst hZ0 hZ1
  refine W.vret hx hb hr (fun t ht hW => ⟨⟨(ctU_Reader h0 q8), rfl, rfl, by rw [ht]; exact hP, hD⟩, hS.F ht⟩) hS.2.2 ctD_Reader_23 hlocks
theorem ctWc_Reader {cA : Nat → ClassId} {p1 : Nat} {u u' : Nat → Nat} (h : ∀ k, k < 2 → u k = u' k) : ctW_Reader cA p1 u = ctW_Reader cA p1 u' := by
  unfold ctW_Reader
  rw [h 0 (by decide)]
  rw [h 1 (by decide)]
