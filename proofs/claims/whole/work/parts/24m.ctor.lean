/-! the class DioceseBook: what it makes -/
def ctW_Book (cA : Nat → ClassId) (u : Nat → Nat) : va_W := (((((((((([(u 0, .inr (11, [.ref (u 1), .ref (u 6), .ref (u 24), .ref (u 35), .ref (u 37), .ref (u 69), .ref (u 93), .ref (u 181), .ref (u 190), .ref (u 204), .int 0]))] ++ ctW_Register cA  (fun k => u (1 + k))) ++ ctW_Papers cA  (fun k => u (6 + k))) ++ ctW_Canons cA  (fun k => u (24 + k))) ++ ctW_Reader cA (u 24) (fun k => u (35 + k))) ++ ctW_Story cA (u 1) (u 6) (u 24) (fun k => u (37 + k))) ++ ctW_Suits cA (u 24) (fun k => u (69 + k))) ++ ctW_Terriers cA  (fun k => u (93 + k))) ++ ctW_Lives cA  (fun k => u (181 + k))) ++ ctW_Visitation cA (u 1) (fun k => u (190 + k))) ++ [(u 204, .inl (cA 3, 12, .inr (.inl (fun _ => 0))))])
abbrev ctB_Book : ByteArray := prog_1_method_1_code
def ctY_Book : MethodName := ⟨"DioceseBook", "<init>", "()V"⟩
def ctE_Book (h0 : Nat) : va_W := [(h0, .inr (11, [.null, .null, .null, .null, .null, .null, .null, .null, .null, .null, .int 0]))]
theorem ctD_Book_0 : decode ctB_Book 0 = .ok (.aload_n 0, 1) := by decide +kernel
theorem ctD_Book_1 : decode ctB_Book 1 = .ok (.invokespecial 1, 3) := by decide +kernel
theorem ctD_Book_4 : decode ctB_Book 4 = .ok (.aload_n 0, 1) := by decide +kernel
theorem ctD_Book_5 : decode ctB_Book 5 = .ok (.new 7, 3) := by decide +kernel
theorem ctD_Book_8 : decode ctB_Book 8 = .ok (.dup, 1) := by decide +kernel
theorem ctD_Book_9 : decode ctB_Book 9 = .ok (.invokespecial 9, 3) := by decide +kernel
theorem ctD_Book_12 : decode ctB_Book 12 = .ok (.putfield 10, 3) := by decide +kernel
theorem ctD_Book_15 : decode ctB_Book 15 = .ok (.aload_n 0, 1) := by decide +kernel
theorem ctD_Book_16 : decode ctB_Book 16 = .ok (.new 16, 3) := by decide +kernel
theorem ctD_Book_19 : decode ctB_Book 19 = .ok (.dup, 1) := by decide +kernel
theorem ctD_Book_20 : decode ctB_Book 20 = .ok (.invokespecial 18, 3) := by decide +kernel
theorem ctD_Book_23 : decode ctB_Book 23 = .ok (.putfield 19, 3) := by decide +kernel
theorem ctD_Book_26 : decode ctB_Book 26 = .ok (.aload_n 0, 1) := by decide +kernel
theorem ctD_Book_27 : decode ctB_Book 27 = .ok (.new 23, 3) := by decide +kernel
theorem ctD_Book_30 : decode ctB_Book 30 = .ok (.dup, 1) := by decide +kernel
theorem ctD_Book_31 : decode ctB_Book 31 = .ok (.invokespecial 25, 3) := by decide +kernel
theorem ctD_Book_34 : decode ctB_Book 34 = .ok (.putfield 26, 3) := by decide +kernel
theorem ctD_Book_37 : decode ctB_Book 37 = .ok (.aload_n 0, 1) := by decide +kernel
theorem ctD_Book_38 : decode ctB_Book 38 = .ok (.new 30, 3) := by decide +kernel
theorem ctD_Book_41 : decode ctB_Book 41 = .ok (.dup, 1) := by decide +kernel
theorem ctD_Book_42 : decode ctB_Book 42 = .ok (.aload_n 0, 1) := by decide +kernel
theorem ctD_Book_43 : decode ctB_Book 43 = .ok (.getfield 26, 3) := by decide +kernel
theorem ctD_Book_46 : decode ctB_Book 46 = .ok (.invokespecial 32, 3) := by decide +kernel
theorem ctD_Book_49 : decode ctB_Book 49 = .ok (.putfield 35, 3) := by decide +kernel
theorem ctD_Book_52 : decode ctB_Book 52 = .ok (.aload_n 0, 1) := by decide +kernel
theorem ctD_Book_53 : decode ctB_Book 53 = .ok (.new 39, 3) := by decide +kernel
theorem ctD_Book_56 : decode ctB_Book 56 = .ok (.dup, 1) := by decide +kernel
theorem ctD_Book_57 : decode ctB_Book 57 = .ok (.aload_n 0, 1) := by decide +kernel
theorem ctD_Book_58 : decode ctB_Book 58 = .ok (.getfield 10, 3) := by decide +kernel
theorem ctD_Book_61 : decode ctB_Book 61 = .ok (.aload_n 0, 1) := by decide +kernel
theorem ctD_Book_62 : decode ctB_Book 62 = .ok (.getfield 19, 3) := by decide +kernel
theorem ctD_Book_65 : decode ctB_Book 65 = .ok (.aload_n 0, 1) := by decide +kernel
theorem ctD_Book_66 : decode ctB_Book 66 = .ok (.getfield 26, 3) := by decide +kernel
theorem ctD_Book_69 : decode ctB_Book 69 = .ok (.invokespecial 41, 3) := by decide +kernel
theorem ctD_Book_72 : decode ctB_Book 72 = .ok (.putfield 44, 3) := by decide +kernel
theorem ctD_Book_75 : decode ctB_Book 75 = .ok (.aload_n 0, 1) := by decide +kernel
theorem ctD_Book_76 : decode ctB_Book 76 = .ok (.new 48, 3) := by decide +kernel
theorem ctD_Book_79 : decode ctB_Book 79 = .ok (.dup, 1) := by decide +kernel
theorem ctD_Book_80 : decode ctB_Book 80 = .ok (.aload_n 0, 1) := by decide +kernel
theorem ctD_Book_81 : decode ctB_Book 81 = .ok (.getfield 26, 3) := by decide +kernel
theorem ctD_Book_84 : decode ctB_Book 84 = .ok (.invokespecial 50, 3) := by decide +kernel
theorem ctD_Book_87 : decode ctB_Book 87 = .ok (.putfield 51, 3) := by decide +kernel
theorem ctD_Book_90 : decode ctB_Book 90 = .ok (.aload_n 0, 1) := by decide +kernel
theorem ctD_Book_91 : decode ctB_Book 91 = .ok (.new 55, 3) := by decide +kernel
theorem ctD_Book_94 : decode ctB_Book 94 = .ok (.dup, 1) := by decide +kernel
theorem ctD_Book_95 : decode ctB_Book 95 = .ok (.invokespecial 57, 3) := by decide +kernel
theorem ctD_Book_98 : decode ctB_Book 98 = .ok (.putfield 58, 3) := by decide +kernel
theorem ctD_Book_101 : decode ctB_Book 101 = .ok (.aload_n 0, 1) := by decide +kernel
theorem ctD_Book_102 : decode ctB_Book 102 = .ok (.new 62, 3) := by decide +kernel
theorem ctD_Book_105 : decode ctB_Book 105 = .ok (.dup, 1) := by decide +kernel
theorem ctD_Book_106 : decode ctB_Book 106 = .ok (.invokespecial 64, 3) := by decide +kernel
theorem ctD_Book_109 : decode ctB_Book 109 = .ok (.putfield 65, 3) := by decide +kernel
theorem ctD_Book_112 : decode ctB_Book 112 = .ok (.aload_n 0, 1) := by decide +kernel
theorem ctD_Book_113 : decode ctB_Book 113 = .ok (.new 69, 3) := by decide +kernel
theorem ctD_Book_116 : decode ctB_Book 116 = .ok (.dup, 1) := by decide +kernel
theorem ctD_Book_117 : decode ctB_Book 117 = .ok (.aload_n 0, 1) := by decide +kernel
theorem ctD_Book_118 : decode ctB_Book 118 = .ok (.getfield 10, 3) := by decide +kernel
theorem ctD_Book_121 : decode ctB_Book 121 = .ok (.invokespecial 71, 3) := by decide +kernel
theorem ctD_Book_124 : decode ctB_Book 124 = .ok (.putfield 74, 3) := by decide +kernel
theorem ctD_Book_127 : decode ctB_Book 127 = .ok (.aload_n 0, 1) := by decide +kernel
theorem ctD_Book_128 : decode ctB_Book 128 = .ok (.bipush 12, 2) := by decide +kernel
theorem ctD_Book_130 : decode ctB_Book 130 = .ok (.newarray .long, 2) := by decide +kernel
theorem ctD_Book_132 : decode ctB_Book 132 = .ok (.putfield 78, 3) := by decide +kernel
theorem ctD_Book_135 : decode ctB_Book 135 = .ok (.return_, 1) := by decide +kernel
theorem ctC_Book : Cond.code ctY_Book ctB_Book 1 none ∈ aAW := ck_w_ok (i := 142) (by decide +kernel)
theorem ctI_Book : Cond.instanceMethod ctY_Book ∈ aAW := ck_w_ok (i := 141) (by decide +kernel)
def ctR_Book : Room := { frames := 3, cells := 204, slots := 13347, locals := 56 }
def ctU_Book (h0 : Nat) (u9 : Nat → Nat) (u20 : Nat → Nat) (u31 : Nat → Nat) (u46 : Nat → Nat) (u69 : Nat → Nat) (u84 : Nat → Nat) (u95 : Nat → Nat) (u106 : Nat → Nat) (u121 : Nat → Nat) (q130 : Nat) : Nat → Nat := fun k => (cond (Nat.blt k 37) (cond (Nat.blt k 6) (cond (Nat.blt k 1) h0 (u9 (k - 1))) (cond (Nat.blt k 24) (u20 (k - 6)) (cond (Nat.blt k 35) (u31 (k - 24)) (u46 (k - 35))))) (cond (Nat.blt k 181) (cond (Nat.blt k 69) (u69 (k - 37)) (cond (Nat.blt k 93) (u84 (k - 69)) (u95 (k - 93)))) (cond (Nat.blt k 190) (u106 (k - 181)) (cond (Nat.blt k 204) (u121 (k - 190)) q130))))
theorem ctU_Book_u9 (h0 : Nat) (u9 : Nat → Nat) (u20 : Nat → Nat) (u31 : Nat → Nat) (u46 : Nat → Nat) (u69 : Nat → Nat) (u84 : Nat → Nat) (u95 : Nat → Nat) (u106 : Nat → Nat) (u121 : Nat → Nat) (q130 : Nat) : ∀ i, i < 5 → u9 i = ctU_Book h0 u9 u20 u31 u46 u69 u84 u95 u106 u121 q130 (1 + i) := fun i hi => by
  unfold ctU_Book
  rw [ct_cp (a := 1 + i) (b := 37) (by omega), ct_cp (a := 1 + i) (b := 6) (by omega), ct_cn (a := 1 + i) (b := 1) (by omega), Nat.add_sub_cancel_left]
theorem ctU_Book_u20 (h0 : Nat) (u9 : Nat → Nat) (u20 : Nat → Nat) (u31 : Nat → Nat) (u46 : Nat → Nat) (u69 : Nat → Nat) (u84 : Nat → Nat) (u95 : Nat → Nat) (u106 : Nat → Nat) (u121 : Nat → Nat) (q130 : Nat) : ∀ i, i < 18 → u20 i = ctU_Book h0 u9 u20 u31 u46 u69 u84 u95 u106 u121 q130 (6 + i) := fun i hi => by
  unfold ctU_Book
  rw [ct_cp (a := 6 + i) (b := 37) (by omega), ct_cn (a := 6 + i) (b := 6) (by omega), ct_cp (a := 6 + i) (b := 24) (by omega), Nat.add_sub_cancel_left]
theorem ctU_Book_u31 (h0 : Nat) (u9 : Nat → Nat) (u20 : Nat → Nat) (u31 : Nat → Nat) (u46 : Nat → Nat) (u69 : Nat → Nat) (u84 : Nat → Nat) (u95 : Nat → Nat) (u106 : Nat → Nat) (u121 : Nat → Nat) (q130 : Nat) : ∀ i, i < 11 → u31 i = ctU_Book h0 u9 u20 u31 u46 u69 u84 u95 u106 u121 q130 (24 + i) := fun i hi => by
  unfold ctU_Book
  rw [ct_cp (a := 24 + i) (b := 37) (by omega), ct_cn (a := 24 + i) (b := 6) (by omega), ct_cn (a := 24 + i) (b := 24) (by omega), ct_cp (a := 24 + i) (b := 35) (by omega), Nat.add_sub_cancel_left]
theorem ctU_Book_u46 (h0 : Nat) (u9 : Nat → Nat) (u20 : Nat → Nat) (u31 : Nat → Nat) (u46 : Nat → Nat) (u69 : Nat → Nat) (u84 : Nat → Nat) (u95 : Nat → Nat) (u106 : Nat → Nat) (u121 : Nat → Nat) (q130 : Nat) : ∀ i, i < 2 → u46 i = ctU_Book h0 u9 u20 u31 u46 u69 u84 u95 u106 u121 q130 (35 + i) := fun i hi => by
  unfold ctU_Book
  rw [ct_cp (a := 35 + i) (b := 37) (by omega), ct_cn (a := 35 + i) (b := 6) (by omega), ct_cn (a := 35 + i) (b := 24) (by omega), ct_cn (a := 35 + i) (b := 35) (by omega), Nat.add_sub_cancel_left]
theorem ctU_Book_u69 (h0 : Nat) (u9 : Nat → Nat) (u20 : Nat → Nat) (u31 : Nat → Nat) (u46 : Nat → Nat) (u69 : Nat → Nat) (u84 : Nat → Nat) (u95 : Nat → Nat) (u106 : Nat → Nat) (u121 : Nat → Nat) (q130 : Nat) : ∀ i, i < 32 → u69 i = ctU_Book h0 u9 u20 u31 u46 u69 u84 u95 u106 u121 q130 (37 + i) := fun i hi => by
  unfold ctU_Book
  rw [ct_cn (a := 37 + i) (b := 37) (by omega), ct_cp (a := 37 + i) (b := 181) (by omega), ct_cp (a := 37 + i) (b := 69) (by omega), Nat.add_sub_cancel_left]
theorem ctU_Book_u84 (h0 : Nat) (u9 : Nat → Nat) (u20 : Nat → Nat) (u31 : Nat → Nat) (u46 : Nat → Nat) (u69 : Nat → Nat) (u84 : Nat → Nat) (u95 : Nat → Nat) (u106 : Nat → Nat) (u121 : Nat → Nat) (q130 : Nat) : ∀ i, i < 24 → u84 i = ctU_Book h0 u9 u20 u31 u46 u69 u84 u95 u106 u121 q130 (69 + i) := fun i hi => by
  unfold ctU_Book
  rw [ct_cn (a := 69 + i) (b := 37) (by omega), ct_cp (a := 69 + i) (b := 181) (by omega), ct_cn (a := 69 + i) (b := 69) (by omega), ct_cp (a := 69 + i) (b := 93) (by omega), Nat.add_sub_cancel_left]
theorem ctU_Book_u95 (h0 : Nat) (u9 : Nat → Nat) (u20 : Nat → Nat) (u31 : Nat → Nat) (u46 : Nat → Nat) (u69 : Nat → Nat) (u84 : Nat → Nat) (u95 : Nat → Nat) (u106 : Nat → Nat) (u121 : Nat → Nat) (q130 : Nat) : ∀ i, i < 88 → u95 i = ctU_Book h0 u9 u20 u31 u46 u69 u84 u95 u106 u121 q130 (93 + i) := fun i hi => by
  unfold ctU_Book
  rw [ct_cn (a := 93 + i) (b := 37) (by omega), ct_cp (a := 93 + i) (b := 181) (by omega), ct_cn (a := 93 + i) (b := 69) (by omega), ct_cn (a := 93 + i) (b := 93) (by omega), Nat.add_sub_cancel_left]
theorem ctU_Book_u106 (h0 : Nat) (u9 : Nat → Nat) (u20 : Nat → Nat) (u31 : Nat → Nat) (u46 : Nat → Nat) (u69 : Nat → Nat) (u84 : Nat → Nat) (u95 : Nat → Nat) (u106 : Nat → Nat) (u121 : Nat → Nat) (q130 : Nat) : ∀ i, i < 9 → u106 i = ctU_Book h0 u9 u20 u31 u46 u69 u84 u95 u106 u121 q130 (181 + i) := fun i hi => by
  unfold ctU_Book
  rw [ct_cn (a := 181 + i) (b := 37) (by omega), ct_cn (a := 181 + i) (b := 181) (by omega), ct_cp (a := 181 + i) (b := 190) (by omega), Nat.add_sub_cancel_left]
theorem ctU_Book_u121 (h0 : Nat) (u9 : Nat → Nat) (u20 : Nat → Nat) (u31 : Nat → Nat) (u46 : Nat → Nat) (u69 : Nat → Nat) (u84 : Nat → Nat) (u95 : Nat → Nat) (u106 : Nat → Nat) (u121 : Nat → Nat) (q130 : Nat) : ∀ i, i < 14 → u121 i = ctU_Book h0 u9 u20 u31 u46 u69 u84 u95 u106 u121 q130 (190 + i) := fun i hi => by
  unfold ctU_Book
  rw [ct_cn (a := 190 + i) (b := 37) (by omega), ct_cn (a := 190 + i) (b := 181) (by omega), ct_cn (a := 190 + i) (b := 190) (by omega), ct_cp (a := 190 + i) (b := 204) (by omega), Nat.add_sub_cancel_left]
set_option maxHeartbeats 8000000 in
set_option maxRecDepth 100000 in
theorem ct_Book (l : Launch) (D : va_G) (cA : Nat → ClassId) (h0 sz : Nat) : Met l ctY_Book (Cond.code ctY_Book ctB_Book 1 none :: aAW) ctR_Book (va_Pc [.ref h0] (fun U => U.heap.size = sz ∧ va_P D wCl (ctE_Book h0) U.heap ∧ va_K D wCl (aTys cA) U ∧ va_D (fun _ => True) (ctE_Book h0) ∧ ct_N U)) (va_Qv (fun u : Nat → Nat => u 0 = h0) (fun u t => va_P D wCl (ctW_Book cA  u) t.heap ∧ va_D (va_A (ctE_Book h0) sz) (ctW_Book cA  u)) (va_A (ctE_Book h0) sz)) 204 13347 (va_A (ctE_Book h0) sz) := by
  refine Met.ofW (cc := ctB_Book) (maxL := 1) (ret := none) (by decide) rfl ?_
  intro p e s m args below meth c s₁ B hml hv
  obtain ⟨rfl, hsz, hP, hK, hD0, hN⟩ := hv
  have hx := B.exec
  have hb := B.bytes
  have hr := B.returns
  have hts0 := atoms_spec (ws := Cond.code ctY_Book ctB_Book 1 none :: aAW) B.pre
  have hts : ∀ w ∈ aAW, w.before _ s = true := fun w hw => hts0 w (List.mem_cons_of_mem _ hw)
  have hown : s.vm.findClass "DioceseBook" = some m.cls := findClass_of_methodNamed B.named
  have hlocks := B.notSynchronized
  have hin : meth.name = "<init>" := (name_of_methodNamed B.named B.method).1
  subst hsz
  have hD := hD0.self (sz := s.heap.size)
  generalize hAe : va_A (ctE_Book h0) s.heap.size = A at hD ⊢
  have hA : ∀ q : Nat, s.heap.size ≤ q → A q := fun q h => by rw [← hAe]; exact Or.inr h
  have hS : va_S A s.heap s.heap [] := va_S.rf
  have hl := lv_entry ([.ref h0]) (n := 1) (Nat.le_of_ble_eq_true rfl)
  rw [lg_entry_eq]
  generalize (lg_sl ([.ref h0]) ++ List.replicate (1 - (lg_sl ([.ref h0])).length) Slot.unset).toArray = ls at hl ⊢
  have hl : lv_has ls 1 [(0, .ref h0)] := hl
  obtain ⟨Z0, hZ0⟩ : ∃ z : va_W, z = [] := ⟨_, rfl⟩
  have hP : va_P D wCl ((h0, .inr (11, [.null, .null, .null, .null, .null, .null, .null, .null, .null, .null, .int 0])) :: Z0) s.heap := by rw [hZ0]; exact hP
  have hD : va_D A ((h0, .inr (11, [.null, .null, .null, .null, .null, .null, .null, .null, .null, .null, .int 0])) :: Z0) := by rw [hZ0]; exact hD
  refine lv_aload_n hx hb ctD_Book_0 rfl (lv_at hl 0 rfl) ?_
  refine W.objInit hx hb hown (hts _ (ck_w_ok (i := 143) (by decide +kernel) : Cond.methodLink "DioceseBook" 1 Lib.objectInit ∈ aAW)) (hts _ ct_oI) (hts _ ct_oC) rfl (by rw [hml]; exact hl.1) rfl ctD_Book_1 (Nat.le_of_ble_eq_true rfl) (Nat.le_of_ble_eq_true rfl) ?_
  refine W.eq (g2 := F0 m 4 ls []) rfl ?_
  refine lv_aload_n hx hb ctD_Book_4 rfl (lv_at hl 0 rfl) ?_
  refine va_new (ci := 5) (fs := [.null, .null, .null, .null, .int 0, .int 0]) (C := "DioceseBook$Register") (T := TX5) (N := 6) hx hb hts (fun w hw => (gk_cl5.2.1 w hw)) tyX5 tyX5_ok hown (hts _ (ck_w_ok (i := 146) (by decide +kernel) : Cond.classLink "DioceseBook" 7 "DioceseBook$Register" ∈ aAW)) (hts _ (ck_w_ok (i := 147) (by decide +kernel) : Cond.instantiable "DioceseBook$Register" 6 ∈ aAW)) (hts _ (ck_w_ok (i := 119) (by decide +kernel) : Cond.initialized "DioceseBook$Register" ∈ aAW)) hK hP hD hS hA rfl (fun j hj => by match j, hj with | 0, _ => rfl | 1, _ => rfl | 2, _ => rfl | 3, _ => rfl | 4, _ => rfl | 5, _ => rfl | j + 6, hj => exact absurd hj (by omega)) (Nat.le_of_ble_eq_true rfl) (Nat.le_of_ble_eq_true rfl) ctD_Book_5 (fun q5 H hP hD hS => ?_)
  have hP : va_P D wCl (((h0, .inr (11, [.null, .null, .null, .null, .null, .null, .null, .null, .null, .null, .int 0])) :: Z0) ++ ctE_Register q5) H := hP
  have hD : va_D A (((h0, .inr (11, [.null, .null, .null, .null, .null, .null, .null, .null, .null, .null, .int 0])) :: Z0) ++ ctE_Register q5) := hD
  refine W.widen (k := 1) (n := 6) (by omega) (by omega) ?_
  refine lv_dup hx hb ctD_Book_8 rfl ?_
  have hPc := ct_last hP
  have hDc := ct_lastD hD
  have hFc : ∀ z, va_A (ctE_Register q5) H.size z → A z := ct_lastF hD hS hA
  refine va_callv (va_runIN (As := []) (rest := [.ref q5, .ref h0]) ⟨hx, hb, hml, hown, hts⟩ (ct_Register l D cA q5  H.size) ⟨⟨⟨rfl, rfl, Nat.le_of_ble_eq_true rfl, Nat.le_of_ble_eq_true rfl, pay_in hts (st_good ctC_Register), List.mem_cons_self⟩, hts _ ctC_Register, hts _ (ck_w_ok (i := 119) (by decide +kernel) : Cond.initialized "DioceseBook$Register" ∈ aAW), ⟨by decide, by decide⟩, (fun sig h => (by
    have h2 : (parseMethodDescriptor ctY_Register.desc).map (fun d => d.parameters.length) = some 0 := by decide +kernel
    rw [h] at h2
    exact (Option.some.inj h2).symm)), va_Nw.use rfl (hN.2 _ (by decide +kernel : Cond.methodLinkNest "DioceseBook" 9 ctY_Register "DioceseBook" ∈ ct_NL))⟩, rfl, hts _ ctI_Register⟩ ⟨ct_blind _ _ _, fun U hU hW => ⟨rfl, by rw [hU], by rw [hU]; exact hPc, va_K.moved hW.alike hK, hDc.weaken (fun _ _ _ _ => trivial), ct_N_warm hW hN⟩⟩ rfl rfl hl.1 rfl (lv_room (Nat.le_of_ble_eq_true rfl)) ctD_Book_9 ⟨Nat.le_of_ble_eq_true rfl, Nat.le_of_ble_eq_true rfl⟩) hS (fun q _ h => hFc q h) hFc (fun u9 t H1 locs ht hvm hw hB hz1 hk1 hS => ?_)
  obtain ⟨hP1, hD1⟩ := hB
  rw [ht] at hP1
  obtain ⟨hP, hD⟩ := ct_join hP hD hk1 hFc hP1 hD1
  generalize H1 = H at hP hS ⊢
  obtain ⟨Z1, hZ1⟩ : ∃ z : va_W, z = Z0 ++ ctW_Register cA  u9 := ⟨_, rfl⟩
  have hP : va_P D wCl ((h0, .inr (11, [.null, .null, .null, .null, .null, .null, .null, .null, .null, .null, .int 0])) :: Z1) H := by rw [hZ1]; exact hP
  have hD : va_D A ((h0, .inr (11, [.null, .null, .null, .null, .null, .null, .null, .null, .null, .null, .int 0])) :: Z1) := by rw [hZ1]; exact hD
  refine W.widen (k := 5) (n := 82) (by omega) (by omega) ?_
  have hw9 : u9 0 = q5 := hw
  refine va_putF (D := D) (ci := 11) (v := .ref q5) (ty := .object "DioceseBook$Register") (C := "DioceseBook") (T := TX11) (N := 11) hx hb hts gk_cl11.2.1 tyX11 tyX11_ok nmX11 hown hK hP hD hS 0 rfl rfl 0 (by decide) (hts _ (ck_w_ok (i := 593) (by decide +kernel) : Cond.fieldLink "DioceseBook" 10 "DioceseBook" "register" "LDioceseBook$Register;" ∈ aAW)) (fun _ h9 => h9) rfl hin rfl (by decide +kernel) rfl rfl (Nat.le_of_ble_eq_true rfl) ctD_Book_12 (fun H locs hP hD hS => ?_)
  have hP : va_P D wCl ((h0, .inr (11, [.ref q5, .null, .null, .null, .null, .null, .null, .null, .null, .null, .int 0])) :: Z1) H := hP
  have hD : va_D A ((h0, .inr (11, [.ref q5, .null, .null, .null, .null, .null, .null, .null, .null, .null, .int 0])) :: Z1) := hD
  refine lv_aload_n hx hb ctD_Book_15 rfl (lv_at hl 0 rfl) ?_
  refine va_new (ci := 3) (fs := [.null, .null, .null, .null, .null, .null, .null, .int 0, .null, .int 0, .null, .null, .int 0, .null]) (C := "DioceseBook$Papers") (T := TX3) (N := 14) hx hb hts (fun w hw => (gk_cl3.2.1 w hw)) tyX3 tyX3_ok hown (hts _ (ck_w_ok (i := 180) (by decide +kernel) : Cond.classLink "DioceseBook" 16 "DioceseBook$Papers" ∈ aAW)) (hts _ (ck_w_ok (i := 181) (by decide +kernel) : Cond.instantiable "DioceseBook$Papers" 14 ∈ aAW)) (hts _ (ck_w_ok (i := 120) (by decide +kernel) : Cond.initialized "DioceseBook$Papers" ∈ aAW)) hK hP hD hS hA rfl (fun j hj => by match j, hj with | 0, _ => rfl | 1, _ => rfl | 2, _ => rfl | 3, _ => rfl | 4, _ => rfl | 5, _ => rfl | 6, _ => rfl | 7, _ => rfl | 8, _ => rfl | 9, _ => rfl | 10, _ => rfl | 11, _ => rfl | 12, _ => rfl | 13, _ => rfl | j + 14, hj => exact absurd hj (by omega)) (Nat.le_of_ble_eq_true rfl) (Nat.le_of_ble_eq_true rfl) ctD_Book_16 (fun q16 H hP hD hS => ?_)
  have hP : va_P D wCl (((h0, .inr (11, [.ref q5, .null, .null, .null, .null, .null, .null, .null, .null, .null, .int 0])) :: Z1) ++ ctE_Papers q16) H := hP
  have hD : va_D A (((h0, .inr (11, [.ref q5, .null, .null, .null, .null, .null, .null, .null, .null, .null, .int 0])) :: Z1) ++ ctE_Papers q16) := hD
  refine W.widen (k := 6) (n := 96) (by omega) (by omega) ?_
  refine lv_dup hx hb ctD_Book_19 rfl ?_
  have hPc := ct_last hP
  have hDc := ct_lastD hD
  have hFc : ∀ z, va_A (ctE_Papers q16) H.size z → A z := ct_lastF hD hS hA
  refine va_callv (va_runIN (As := []) (rest := [.ref q16, .ref h0]) ⟨hx, hb, hml, hown, hts⟩ (ct_Papers l D cA q16  H.size) ⟨⟨⟨rfl, rfl, Nat.le_of_ble_eq_true rfl, Nat.le_of_ble_eq_true rfl, pay_in hts (st_good ctC_Papers), List.mem_cons_self⟩, hts _ ctC_Papers, hts _ (ck_w_ok (i := 120) (by decide +kernel) : Cond.initialized "DioceseBook$Papers" ∈ aAW), ⟨by decide, by decide⟩, (fun sig h => (by
    have h2 : (parseMethodDescriptor ctY_Papers.desc).map (fun d => d.parameters.length) = some 0 := by decide +kernel
    rw [h] at h2
    exact (Option.some.inj h2).symm)), va_Nw.use rfl (hN.2 _ (by decide +kernel : Cond.methodLinkNest "DioceseBook" 18 ctY_Papers "DioceseBook" ∈ ct_NL))⟩, rfl, hts _ ctI_Papers⟩ ⟨ct_blind _ _ _, fun U hU hW => ⟨rfl, by rw [hU], by rw [hU]; exact hPc, va_K.moved hW.alike hK, hDc.weaken (fun _ _ _ _ => trivial), ct_N_warm hW hN⟩⟩ rfl rfl hl.1 rfl (lv_room (Nat.le_of_ble_eq_true rfl)) ctD_Book_20 ⟨Nat.le_of_ble_eq_true rfl, Nat.le_of_ble_eq_true rfl⟩) hS (fun q _ h => hFc q h) hFc (fun u20 t H1 locs ht hvm hw hB hz1 hk1 hS => ?_)
  obtain ⟨hP1, hD1⟩ := hB
  rw [ht] at hP1
  obtain ⟨hP, hD⟩ := ct_join hP hD hk1 hFc hP1 hD1
  generalize H1 = H at hP hS ⊢
  obtain ⟨Z2, hZ2⟩ : ∃ z : va_W, z = Z1 ++ ctW_Papers cA  u20 := ⟨_, rfl⟩
  have hP : va_P D wCl ((h0, .inr (11, [.ref q5, .null, .null, .null, .null, .null, .null, .null, .null, .null, .int 0])) :: Z2) H := by rw [hZ2]; exact hP
  have hD : va_D A ((h0, .inr (11, [.ref q5, .null, .null, .null, .null, .null, .null, .null, .null, .null, .int 0])) :: Z2) := by rw [hZ2]; exact hD
  refine W.widen (k := 23) (n := 1842) (by omega) (by omega) ?_
  have hw20 : u20 0 = q16 := hw
  refine va_putF (D := D) (ci := 11) (v := .ref q16) (ty := .object "DioceseBook$Papers") (C := "DioceseBook") (T := TX11) (N := 11) hx hb hts gk_cl11.2.1 tyX11 tyX11_ok nmX11 hown hK hP hD hS 0 rfl rfl 1 (by decide) (hts _ (ck_w_ok (i := 594) (by decide +kernel) : Cond.fieldLink "DioceseBook" 19 "DioceseBook" "papers" "LDioceseBook$Papers;" ∈ aAW)) (fun _ h9 => h9) rfl hin rfl (by decide +kernel) rfl rfl (Nat.le_of_ble_eq_true rfl) ctD_Book_23 (fun H locs hP hD hS => ?_)
  have hP : va_P D wCl ((h0, .inr (11, [.ref q5, .ref q16, .null, .null, .null, .null, .null, .null, .null, .null, .int 0])) :: Z2) H := hP
  have hD : va_D A ((h0, .inr (11, [.ref q5, .ref q16, .null, .null, .null, .null, .null, .null, .null, .null, .int 0])) :: Z2) := hD
  refine lv_aload_n hx hb ctD_Book_26 rfl (lv_at hl 0 rfl) ?_
  refine va_new (ci := 0) (fs := [.int 0, .null, .null, .null, .null, .null, .null, .null, .null, .int 0, .int 0, .int 0, .null, .null]) (C := "DioceseBook$Canons") (T := TX0) (N := 14) hx hb hts (fun w hw => (gk_cl0.2.1 w hw)) tyX0 tyX0_ok hown (hts _ (ck_w_ok (i := 256) (by decide +kernel) : Cond.classLink "DioceseBook" 23 "DioceseBook$Canons" ∈ aAW)) (hts _ (ck_w_ok (i := 257) (by decide +kernel) : Cond.instantiable "DioceseBook$Canons" 14 ∈ aAW)) (hts _ (ck_w_ok (i := 121) (by decide +kernel) : Cond.initialized "DioceseBook$Canons" ∈ aAW)) hK hP hD hS hA rfl (fun j hj => by match j, hj with | 0, _ => rfl | 1, _ => rfl | 2, _ => rfl | 3, _ => rfl | 4, _ => rfl | 5, _ => rfl | 6, _ => rfl | 7, _ => rfl | 8, _ => rfl | 9, _ => rfl | 10, _ => rfl | 11, _ => rfl | 12, _ => rfl | 13, _ => rfl | j + 14, hj => exact absurd hj (by omega)) (Nat.le_of_ble_eq_true rfl) (Nat.le_of_ble_eq_true rfl) ctD_Book_27 (fun q27 H hP hD hS => ?_)
  have hP : va_P D wCl (((h0, .inr (11, [.ref q5, .ref q16, .null, .null, .null, .null, .null, .null, .null, .null, .int 0])) :: Z2) ++ ctE_Canons q27) H := hP
  have hD : va_D A (((h0, .inr (11, [.ref q5, .ref q16, .null, .null, .null, .null, .null, .null, .null, .null, .int 0])) :: Z2) ++ ctE_Canons q27) := hD
  refine W.widen (k := 24) (n := 1856) (by omega) (by omega) ?_
  refine lv_dup hx hb ctD_Book_30 rfl ?_
  have hPc := ct_last hP
  have hDc := ct_lastD hD
  have hFc : ∀ z, va_A (ctE_Canons q27) H.size z → A z := ct_lastF hD hS hA
  refine va_callv (va_runIN (As := []) (rest := [.ref q27, .ref h0]) ⟨hx, hb, hml, hown, hts⟩ (ct_Canons l D cA q27  H.size) ⟨⟨⟨rfl, rfl, Nat.le_of_ble_eq_true rfl, Nat.le_of_ble_eq_true rfl, pay_in hts (st_good ctC_Canons), List.mem_cons_self⟩, hts _ ctC_Canons, hts _ (ck_w_ok (i := 121) (by decide +kernel) : Cond.initialized "DioceseBook$Canons" ∈ aAW), ⟨by decide, by decide⟩, (fun sig h => (by
    have h2 : (parseMethodDescriptor ctY_Canons.desc).map (fun d => d.parameters.length) = some 0 := by decide +kernel
    rw [h] at h2
    exact (Option.some.inj h2).symm)), va_Nw.use rfl (hN.2 _ (by decide +kernel : Cond.methodLinkNest "DioceseBook" 25 ctY_Canons "DioceseBook" ∈ ct_NL))⟩, rfl, hts _ ctI_Canons⟩ ⟨ct_blind _ _ _, fun U hU hW => ⟨rfl, by rw [hU], by rw [hU]; exact hPc, va_K.moved hW.alike hK, hDc.weaken (fun _ _ _ _ => trivial), ct_N_warm hW hN⟩⟩ rfl rfl hl.1 rfl (lv_room (Nat.le_of_ble_eq_true rfl)) ctD_Book_31 ⟨Nat.le_of_ble_eq_true rfl, Nat.le_of_ble_eq_true rfl⟩) hS (fun q _ h => hFc q h) hFc (fun u31 t H1 locs ht hvm hw hB hz1 hk1 hS => ?_)
  obtain ⟨hP1, hD1⟩ := hB
  rw [ht] at hP1
  obtain ⟨hP, hD⟩ := ct_join hP hD hk1 hFc hP1 hD1
  generalize H1 = H at hP hS ⊢
  obtain ⟨Z3, hZ3⟩ : ∃ z : va_W, z = Z2 ++ ctW_Canons cA  u31 := ⟨_, rfl⟩
  have hP : va_P D wCl ((h0, .inr (11, [.ref q5, .ref q16, .null, .null, .null, .null, .null, .null, .null, .null, .int 0])) :: Z3) H := by rw [hZ3]; exact hP
  have hD : va_D A ((h0, .inr (11, [.ref q5, .ref q16, .null, .null, .null, .null, .null, .null, .null, .null, .int 0])) :: Z3) := by rw [hZ3]; exact hD
  refine W.widen (k := 34) (n := 4382) (by omega) (by omega) ?_
  have hw31 : u31 0 = q27 := hw
  refine va_putF (D := D) (ci := 11) (v := .ref q27) (ty := .object "DioceseBook$Canons") (C := "DioceseBook") (T := TX11) (N := 11) hx hb hts gk_cl11.2.1 tyX11 tyX11_ok nmX11 hown hK hP hD hS 0 rfl rfl 2 (by decide) (hts _ (ck_w_ok (i := 595) (by decide +kernel) : Cond.fieldLink "DioceseBook" 26 "DioceseBook" "canons" "LDioceseBook$Canons;" ∈ aAW)) (fun _ h9 => h9) rfl hin rfl (by decide +kernel) rfl rfl (Nat.le_of_ble_eq_true rfl) ctD_Book_34 (fun H locs hP hD hS => ?_)
  have hP : va_P D wCl ((h0, .inr (11, [.ref q5, .ref q16, .ref q27, .null, .null, .null, .null, .null, .null, .null, .int 0])) :: Z3) H := hP
  have hD : va_D A ((h0, .inr (11, [.ref q5, .ref q16, .ref q27, .null, .null, .null, .null, .null, .null, .null, .int 0])) :: Z3) := hD
  refine lv_aload_n hx hb ctD_Book_37 rfl (lv_at hl 0 rfl) ?_
  refine va_new (ci := 4) (fs := [.null, .null, .int 0, .int 0, .int 0, .int 0]) (C := "DioceseBook$Reader") (T := TX4) (N := 6) hx hb hts (fun w hw => (gk_cl4.2.1 w hw)) tyX4 tyX4_ok hown (hts _ (ck_w_ok (i := 310) (by decide +kernel) : Cond.classLink "DioceseBook" 30 "DioceseBook$Reader" ∈ aAW)) (hts _ (ck_w_ok (i := 311) (by decide +kernel) : Cond.instantiable "DioceseBook$Reader" 6 ∈ aAW)) (hts _ (ck_w_ok (i := 122) (by decide +kernel) : Cond.initialized "DioceseBook$Reader" ∈ aAW)) hK hP hD hS hA rfl (fun j hj => by match j, hj with | 0, _ => rfl | 1, _ => rfl | 2, _ => rfl | 3, _ => rfl | 4, _ => rfl | 5, _ => rfl | j + 6, hj => exact absurd hj (by omega)) (Nat.le_of_ble_eq_true rfl) (Nat.le_of_ble_eq_true rfl) ctD_Book_38 (fun q38 H hP hD hS => ?_)
  have hP : va_P D wCl (((h0, .inr (11, [.ref q5, .ref q16, .ref q27, .null, .null, .null, .null, .null, .null, .null, .int 0])) :: Z3) ++ ctE_Reader q38) H := hP
  have hD : va_D A (((h0, .inr (11, [.ref q5, .ref q16, .ref q27, .null, .null, .null, .null, .null, .null, .null, .int 0])) :: Z3) ++ ctE_Reader q38) := hD
  refine W.widen (k := 35) (n := 4388) (by omega) (by omega) ?_
  refine lv_dup hx hb ctD_Book_41 rfl ?_
  refine lv_aload_n hx hb ctD_Book_42 rfl (lv_at hl 0 rfl) ?_
  refine va_get hx hb hts gk_cl11.2.1 hown hK hP 0 rfl rfl 2 (by decide) (hts _ (ck_w_ok (i := 595) (by decide +kernel) : Cond.fieldLink "DioceseBook" 26 "DioceseBook" "canons" "LDioceseBook$Canons;" ∈ aAW)) (fun _ h9 => h9) rfl ctD_Book_43 ?_
  have hPc := ct_last hP
  have hDc := ct_lastD hD
  have hFc : ∀ z, va_A (ctE_Reader q38) H.size z → A z := ct_lastF hD hS hA
  refine va_callv (va_runI (As := [.ref q27]) (rest := [.ref q38, .ref h0]) ⟨hx, hb, hml, hown, hts⟩ (ct_Reader l D cA q38 q27 H.size) ⟨⟨rfl, rfl, Nat.le_of_ble_eq_true rfl, Nat.le_of_ble_eq_true rfl, pay_in hts (st_good ctC_Reader), List.mem_cons_self, hts _ ctC_Reader, hts _ (ck_w_ok (i := 122) (by decide +kernel) : Cond.initialized "DioceseBook$Reader" ∈ aAW), ⟨by decide, by decide⟩, (fun sig h => (by
    have h2 : (parseMethodDescriptor ctY_Reader.desc).map (fun d => d.parameters.length) = some 1 := by decide +kernel
    rw [h] at h2
    exact (Option.some.inj h2).symm)), hts _ (ck_w_ok (i := 312) (by decide +kernel) : Cond.methodLink "DioceseBook" 32 ctY_Reader ∈ aAW)⟩, rfl, hts _ ctI_Reader⟩ ⟨ct_blind _ _ _, fun U hU hW => ⟨rfl, by rw [hU], by rw [hU]; exact hPc, va_K.moved hW.alike hK, hDc.weaken (fun _ _ _ _ => trivial), ct_N_warm hW hN⟩⟩ rfl rfl hl.1 rfl (lv_room (Nat.le_of_ble_eq_true rfl)) ctD_Book_46 ⟨Nat.le_of_ble_eq_true rfl, Nat.le_of_ble_eq_true rfl⟩) hS (fun q _ h => hFc q h) hFc (fun u46 t H1 locs ht hvm hw hB hz1 hk1 hS => ?_)
  obtain ⟨hP1, hD1⟩ := hB
  rw [ht] at hP1
  obtain ⟨hP, hD⟩ := ct_join hP hD hk1 hFc hP1 hD1
  generalize H1 = H at hP hS ⊢
  obtain ⟨Z4, hZ4⟩ : ∃ z : va_W, z = Z3 ++ ctW_Reader cA q27 u46 := ⟨_, rfl⟩
  have hP : va_P D wCl ((h0, .inr (11, [.ref q5, .ref q16, .ref q27, .null, .null, .null, .null, .null, .null, .null, .int 0])) :: Z4) H := by rw [hZ4]; exact hP
  have hD : va_D A ((h0, .inr (11, [.ref q5, .ref q16, .ref q27, .null, .null, .null, .null, .null, .null, .null, .int 0])) :: Z4) := by rw [hZ4]; exact hD
  refine W.widen (k := 36) (n := 4588) (by omega) (by omega) ?_
  have hw46 : u46 0 = q38 := hw
  refine va_putF (D := D) (ci := 11) (v := .ref q38) (ty := .object "DioceseBook$Reader") (C := "DioceseBook") (T := TX11) (N := 11) hx hb hts gk_cl11.2.1 tyX11 tyX11_ok nmX11 hown hK hP hD hS 0 rfl rfl 3 (by decide) (hts _ (ck_w_ok (i := 596) (by decide +kernel) : Cond.fieldLink "DioceseBook" 35 "DioceseBook" "reader" "LDioceseBook$Reader;" ∈ aAW)) (fun _ h9 => h9) rfl hin rfl (by decide +kernel) rfl rfl (Nat.le_of_ble_eq_true rfl) ctD_Book_49 (fun H locs hP hD hS => ?_)
  have hP : va_P D wCl ((h0, .inr (11, [.ref q5, .ref q16, .ref q27, .ref q38, .null, .null, .null, .null, .null, .null, .int 0])) :: Z4) H := hP
  have hD : va_D A ((h0, .inr (11, [.ref q5, .ref q16, .ref q27, .ref q38, .null, .null, .null, .null, .null, .null, .int 0])) :: Z4) := hD
  refine lv_aload_n hx hb ctD_Book_52 rfl (lv_at hl 0 rfl) ?_
  refine va_new (ci := 7) (fs := [.null, .null, .null, .null, .null, .null, .null, .null, .null, .null, .null, .int 0, .int 0]) (C := "DioceseBook$Story") (T := TX7) (N := 13) hx hb hts (fun w hw => (gk_cl7.2.1 w hw)) tyX7 tyX7_ok hown (hts _ (ck_w_ok (i := 338) (by decide +kernel) : Cond.classLink "DioceseBook" 39 "DioceseBook$Story" ∈ aAW)) (hts _ (ck_w_ok (i := 339) (by decide +kernel) : Cond.instantiable "DioceseBook$Story" 13 ∈ aAW)) (hts _ (ck_w_ok (i := 123) (by decide +kernel) : Cond.initialized "DioceseBook$Story" ∈ aAW)) hK hP hD hS hA rfl (fun j hj => by match j, hj with | 0, _ => rfl | 1, _ => rfl | 2, _ => rfl | 3, _ => rfl | 4, _ => rfl | 5, _ => rfl | 6, _ => rfl | 7, _ => rfl | 8, _ => rfl | 9, _ => rfl | 10, _ => rfl | 11, _ => rfl | 12, _ => rfl | j + 13, hj => exact absurd hj (by omega)) (Nat.le_of_ble_eq_true rfl) (Nat.le_of_ble_eq_true rfl) ctD_Book_53 (fun q53 H hP hD hS => ?_)
  have hP : va_P D wCl (((h0, .inr (11, [.ref q5, .ref q16, .ref q27, .ref q38, .null, .null, .null, .null, .null, .null, .int 0])) :: Z4) ++ ctE_Story q53) H := hP
  have hD : va_D A (((h0, .inr (11, [.ref q5, .ref q16, .ref q27, .ref q38, .null, .null, .null, .null, .null, .null, .int 0])) :: Z4) ++ ctE_Story q53) := hD
  refine W.widen (k := 37) (n := 4601) (by omega) (by omega) ?_
  refine lv_dup hx hb ctD_Book_56 rfl ?_
  refine lv_aload_n hx hb ctD_Book_57 rfl (lv_at hl 0 rfl) ?_
  refine va_get hx hb hts gk_cl11.2.1 hown hK hP 0 rfl rfl 0 (by decide) (hts _ (ck_w_ok (i := 593) (by decide +kernel) : Cond.fieldLink "DioceseBook" 10 "DioceseBook" "register" "LDioceseBook$Register;" ∈ aAW)) (fun _ h9 => h9) rfl ctD_Book_58 ?_
  refine lv_aload_n hx hb ctD_Book_61 rfl (lv_at hl 0 rfl) ?_
  refine va_get hx hb hts gk_cl11.2.1 hown hK hP 0 rfl rfl 1 (by decide) (hts _ (ck_w_ok (i := 594) (by decide +kernel) : Cond.fieldLink "DioceseBook" 19 "DioceseBook" "papers" "LDioceseBook$Papers;" ∈ aAW)) (fun _ h9 => h9) rfl ctD_Book_62 ?_
  refine lv_aload_n hx hb ctD_Book_65 rfl (lv_at hl 0 rfl) ?_
  refine va_get hx hb hts gk_cl11.2.1 hown hK hP 0 rfl rfl 2 (by decide) (hts _ (ck_w_ok (i := 595) (by decide +kernel) : Cond.fieldLink "DioceseBook" 26 "DioceseBook" "canons" "LDioceseBook$Canons;" ∈ aAW)) (fun _ h9 => h9) rfl ctD_Book_66 ?_
  have hPc := ct_last hP
  have hDc := ct_lastD hD
  have hFc : ∀ z, va_A (ctE_Story q53) H.size z → A z := ct_lastF hD hS hA
  refine va_callv (va_runI (As := [.ref q5, .ref q16, .ref q27]) (rest := [.ref q53, .ref h0]) ⟨hx, hb, hml, hown, hts⟩ (ct_Story l D cA q53 q5 q16 q27 H.size) ⟨⟨rfl, rfl, Nat.le_of_ble_eq_true rfl, Nat.le_of_ble_eq_true rfl, pay_in hts (st_good ctC_Story), List.mem_cons_self, hts _ ctC_Story, hts _ (ck_w_ok (i := 123) (by decide +kernel) : Cond.initialized "DioceseBook$Story" ∈ aAW), ⟨by decide, by decide⟩, (fun sig h => (by
    have h2 : (parseMethodDescriptor ctY_Story.desc).map (fun d => d.parameters.length) = some 3 := by decide +kernel
    rw [h] at h2
    exact (Option.some.inj h2).symm)), hts _ (ck_w_ok (i := 340) (by decide +kernel) : Cond.methodLink "DioceseBook" 41 ctY_Story ∈ aAW)⟩, rfl, hts _ ctI_Story⟩ ⟨ct_blind _ _ _, fun U hU hW => ⟨rfl, by rw [hU], by rw [hU]; exact hPc, va_K.moved hW.alike hK, hDc.weaken (fun _ _ _ _ => trivial), ct_N_warm hW hN⟩⟩ rfl rfl hl.1 rfl (lv_room (Nat.le_of_ble_eq_true rfl)) ctD_Book_69 ⟨Nat.le_of_ble_eq_true rfl, Nat.le_of_ble_eq_true rfl⟩) hS (fun q _ h => hFc q h) hFc (fun u69 t H1 locs ht hvm hw hB hz1 hk1 hS => ?_)
  obtain ⟨hP1, hD1⟩ := hB
  rw [ht] at hP1
  obtain ⟨hP, hD⟩ := ct_join hP hD hk1 hFc hP1 hD1
  generalize H1 = H at hP hS ⊢
  obtain ⟨Z5, hZ5⟩ : ∃ z : va_W, z = Z4 ++ ctW_Story cA q5 q16 q27 u69 := ⟨_, rfl⟩
  have hP : va_P D wCl ((h0, .inr (11, [.ref q5, .ref q16, .ref q27, .ref q38, .null, .null, .null, .null, .null, .null, .int 0])) :: Z5) H := by rw [hZ5]; exact hP
  have hD : va_D A ((h0, .inr (11, [.ref q5, .ref q16, .ref q27, .ref q38, .null, .null, .null, .null, .null, .null, .int 0])) :: Z5) := by rw [hZ5]; exact hD
  refine W.widen (k := 68) (n := 7435) (by omega) (by omega) ?_
  have hw69 : u69 0 = q53 := hw
  refine va_putF (D := D) (ci := 11) (v := .ref q53) (ty := .object "DioceseBook$Story") (C := "DioceseBook") (T := TX11) (N := 11) hx hb hts gk_cl11.2.1 tyX11 tyX11_ok nmX11 hown hK hP hD hS 0 rfl rfl 4 (by decide) (hts _ (ck_w_ok (i := 597) (by decide +kernel) : Cond.fieldLink "DioceseBook" 44 "DioceseBook" "story" "LDioceseBook$Story;" ∈ aAW)) (fun _ h9 => h9) rfl hin rfl (by decide +kernel) rfl rfl (Nat.le_of_ble_eq_true rfl) ctD_Book_72 (fun H locs hP hD hS => ?_)
  have hP : va_P D wCl ((h0, .inr (11, [.ref q5, .ref q16, .ref q27, .ref q38, .ref q53, .null, .null, .null, .null, .null, .int 0])) :: Z5) H := hP
  have hD : va_D A ((h0, .inr (11, [.ref q5, .ref q16, .ref q27, .ref q38, .ref q53, .null, .null, .null, .null, .null, .int 0])) :: Z5) := hD
  refine lv_aload_n hx hb ctD_Book_75 rfl (lv_at hl 0 rfl) ?_
  refine va_new (ci := 8) (fs := [.null, .null, .null, .null, .int 0]) (C := "DioceseBook$Suits") (T := TX8) (N := 5) hx hb hts (fun w hw => (gk_cl8.2.1 w hw)) tyX8 tyX8_ok hown (hts _ (ck_w_ok (i := 451) (by decide +kernel) : Cond.classLink "DioceseBook" 48 "DioceseBook$Suits" ∈ aAW)) (hts _ (ck_w_ok (i := 452) (by decide +kernel) : Cond.instantiable "DioceseBook$Suits" 5 ∈ aAW)) (hts _ (ck_w_ok (i := 126) (by decide +kernel) : Cond.initialized "DioceseBook$Suits" ∈ aAW)) hK hP hD hS hA rfl (fun j hj => by match j, hj with | 0, _ => rfl | 1, _ => rfl | 2, _ => rfl | 3, _ => rfl | 4, _ => rfl | j + 5, hj => exact absurd hj (by omega)) (Nat.le_of_ble_eq_true rfl) (Nat.le_of_ble_eq_true rfl) ctD_Book_76 (fun q76 H hP hD hS => ?_)
  have hP : va_P D wCl (((h0, .inr (11, [.ref q5, .ref q16, .ref q27, .ref q38, .ref q53, .null, .null, .null, .null, .null, .int 0])) :: Z5) ++ ctE_Suits q76) H := hP
  have hD : va_D A (((h0, .inr (11, [.ref q5, .ref q16, .ref q27, .ref q38, .ref q53, .null, .null, .null, .null, .null, .int 0])) :: Z5) ++ ctE_Suits q76) := hD
  refine W.widen (k := 69) (n := 7440) (by omega) (by omega) ?_
  refine lv_dup hx hb ctD_Book_79 rfl ?_
  refine lv_aload_n hx hb ctD_Book_80 rfl (lv_at hl 0 rfl) ?_
  refine va_get hx hb hts gk_cl11.2.1 hown hK hP 0 rfl rfl 2 (by decide) (hts _ (ck_w_ok (i := 595) (by decide +kernel) : Cond.fieldLink "DioceseBook" 26 "DioceseBook" "canons" "LDioceseBook$Canons;" ∈ aAW)) (fun _ h9 => h9) rfl ctD_Book_81 ?_
  have hPc := ct_last hP
  have hDc := ct_lastD hD
  have hFc : ∀ z, va_A (ctE_Suits q76) H.size z → A z := ct_lastF hD hS hA
  refine va_callv (va_runI (As := [.ref q27]) (rest := [.ref q76, .ref h0]) ⟨hx, hb, hml, hown, hts⟩ (ct_Suits l D cA q76 q27 H.size) ⟨⟨rfl, rfl, Nat.le_of_ble_eq_true rfl, Nat.le_of_ble_eq_true rfl, pay_in hts (st_good ctC_Suits), List.mem_cons_self, hts _ ctC_Suits, hts _ (ck_w_ok (i := 126) (by decide +kernel) : Cond.initialized "DioceseBook$Suits" ∈ aAW), ⟨by decide, by decide⟩, (fun sig h => (by
    have h2 : (parseMethodDescriptor ctY_Suits.desc).map (fun d => d.parameters.length) = some 1 := by decide +kernel
    rw [h] at h2
    exact (Option.some.inj h2).symm)), hts _ (ck_w_ok (i := 453) (by decide +kernel) : Cond.methodLink "DioceseBook" 50 ctY_Suits ∈ aAW)⟩, rfl, hts _ ctI_Suits⟩ ⟨ct_blind _ _ _, fun U hU hW => ⟨rfl, by rw [hU], by rw [hU]; exact hPc, va_K.moved hW.alike hK, hDc.weaken (fun _ _ _ _ => trivial), ct_N_warm hW hN⟩⟩ rfl rfl hl.1 rfl (lv_room (Nat.le_of_ble_eq_true rfl)) ctD_Book_84 ⟨Nat.le_of_ble_eq_true rfl, Nat.le_of_ble_eq_true rfl⟩) hS (fun q _ h => hFc q h) hFc (fun u84 t H1 locs ht hvm hw hB hz1 hk1 hS => ?_)
  obtain ⟨hP1, hD1⟩ := hB
  rw [ht] at hP1
  obtain ⟨hP, hD⟩ := ct_join hP hD hk1 hFc hP1 hD1
  generalize H1 = H at hP hS ⊢
  obtain ⟨Z6, hZ6⟩ : ∃ z : va_W, z = Z5 ++ ctW_Suits cA q27 u84 := ⟨_, rfl⟩
  have hP : va_P D wCl ((h0, .inr (11, [.ref q5, .ref q16, .ref q27, .ref q38, .ref q53, .null, .null, .null, .null, .null, .int 0])) :: Z6) H := by rw [hZ6]; exact hP
  have hD : va_D A ((h0, .inr (11, [.ref q5, .ref q16, .ref q27, .ref q38, .ref q53, .null, .null, .null, .null, .null, .int 0])) :: Z6) := by rw [hZ6]; exact hD
  refine W.widen (k := 92) (n := 7600) (by omega) (by omega) ?_
  have hw84 : u84 0 = q76 := hw
  refine va_putF (D := D) (ci := 11) (v := .ref q76) (ty := .object "DioceseBook$Suits") (C := "DioceseBook") (T := TX11) (N := 11) hx hb hts gk_cl11.2.1 tyX11 tyX11_ok nmX11 hown hK hP hD hS 0 rfl rfl 5 (by decide) (hts _ (ck_w_ok (i := 598) (by decide +kernel) : Cond.fieldLink "DioceseBook" 51 "DioceseBook" "suits" "LDioceseBook$Suits;" ∈ aAW)) (fun _ h9 => h9) rfl hin rfl (by decide +kernel) rfl rfl (Nat.le_of_ble_eq_true rfl) ctD_Book_87 (fun H locs hP hD hS => ?_)
  have hP : va_P D wCl ((h0, .inr (11, [.ref q5, .ref q16, .ref q27, .ref q38, .ref q53, .ref q76, .null, .null, .null, .null, .int 0])) :: Z6) H := hP
  have hD : va_D A ((h0, .inr (11, [.ref q5, .ref q16, .ref q27, .ref q38, .ref q53, .ref q76, .null, .null, .null, .null, .int 0])) :: Z6) := hD
  refine lv_aload_n hx hb ctD_Book_90 rfl (lv_at hl 0 rfl) ?_
  refine va_new (ci := 9) (fs := [.null, .null, .null, .null, .null, .null, .int 0]) (C := "DioceseBook$Terriers") (T := TX9) (N := 7) hx hb hts (fun w hw => (gk_cl9.2.1 w hw)) tyX9 tyX9_ok hown (hts _ (ck_w_ok (i := 475) (by decide +kernel) : Cond.classLink "DioceseBook" 55 "DioceseBook$Terriers" ∈ aAW)) (hts _ (ck_w_ok (i := 476) (by decide +kernel) : Cond.instantiable "DioceseBook$Terriers" 7 ∈ aAW)) (hts _ (ck_w_ok (i := 127) (by decide +kernel) : Cond.initialized "DioceseBook$Terriers" ∈ aAW)) hK hP hD hS hA rfl (fun j hj => by match j, hj with | 0, _ => rfl | 1, _ => rfl | 2, _ => rfl | 3, _ => rfl | 4, _ => rfl | 5, _ => rfl | 6, _ => rfl | j + 7, hj => exact absurd hj (by omega)) (Nat.le_of_ble_eq_true rfl) (Nat.le_of_ble_eq_true rfl) ctD_Book_91 (fun q91 H hP hD hS => ?_)
  have hP : va_P D wCl (((h0, .inr (11, [.ref q5, .ref q16, .ref q27, .ref q38, .ref q53, .ref q76, .null, .null, .null, .null, .int 0])) :: Z6) ++ ctE_Terriers q91) H := hP
  have hD : va_D A (((h0, .inr (11, [.ref q5, .ref q16, .ref q27, .ref q38, .ref q53, .ref q76, .null, .null, .null, .null, .int 0])) :: Z6) ++ ctE_Terriers q91) := hD
  refine W.widen (k := 93) (n := 7607) (by omega) (by omega) ?_
  refine lv_dup hx hb ctD_Book_94 rfl ?_
  have hPc := ct_last hP
  have hDc := ct_lastD hD
  have hFc : ∀ z, va_A (ctE_Terriers q91) H.size z → A z := ct_lastF hD hS hA
  refine va_callv (va_runIN (As := []) (rest := [.ref q91, .ref h0]) ⟨hx, hb, hml, hown, hts⟩ (ct_Terriers l D cA q91  H.size) ⟨⟨⟨rfl, rfl, Nat.le_of_ble_eq_true rfl, Nat.le_of_ble_eq_true rfl, pay_in hts (st_good ctC_Terriers), List.mem_cons_self⟩, hts _ ctC_Terriers, hts _ (ck_w_ok (i := 127) (by decide +kernel) : Cond.initialized "DioceseBook$Terriers" ∈ aAW), ⟨by decide, by decide⟩, (fun sig h => (by
    have h2 : (parseMethodDescriptor ctY_Terriers.desc).map (fun d => d.parameters.length) = some 0 := by decide +kernel
    rw [h] at h2
    exact (Option.some.inj h2).symm)), va_Nw.use rfl (hN.2 _ (by decide +kernel : Cond.methodLinkNest "DioceseBook" 57 ctY_Terriers "DioceseBook" ∈ ct_NL))⟩, rfl, hts _ ctI_Terriers⟩ ⟨ct_blind _ _ _, fun U hU hW => ⟨rfl, by rw [hU], by rw [hU]; exact hPc, va_K.moved hW.alike hK, hDc.weaken (fun _ _ _ _ => trivial), ct_N_warm hW hN⟩⟩ rfl rfl hl.1 rfl (lv_room (Nat.le_of_ble_eq_true rfl)) ctD_Book_95 ⟨Nat.le_of_ble_eq_true rfl, Nat.le_of_ble_eq_true rfl⟩) hS (fun q _ h => hFc q h) hFc (fun u95 t H1 locs ht hvm hw hB hz1 hk1 hS => ?_)
  obtain ⟨hP1, hD1⟩ := hB
  rw [ht] at hP1
  obtain ⟨hP, hD⟩ := ct_join hP hD hk1 hFc hP1 hD1
  generalize H1 = H at hP hS ⊢
  obtain ⟨Z7, hZ7⟩ : ∃ z : va_W, z = Z6 ++ ctW_Terriers cA  u95 := ⟨_, rfl⟩
  have hP : va_P D wCl ((h0, .inr (11, [.ref q5, .ref q16, .ref q27, .ref q38, .ref q53, .ref q76, .null, .null, .null, .null, .int 0])) :: Z7) H := by rw [hZ7]; exact hP
  have hD : va_D A ((h0, .inr (11, [.ref q5, .ref q16, .ref q27, .ref q38, .ref q53, .ref q76, .null, .null, .null, .null, .int 0])) :: Z7) := by rw [hZ7]; exact hD
  refine W.widen (k := 180) (n := 10600) (by omega) (by omega) ?_
  have hw95 : u95 0 = q91 := hw
  refine va_putF (D := D) (ci := 11) (v := .ref q91) (ty := .object "DioceseBook$Terriers") (C := "DioceseBook") (T := TX11) (N := 11) hx hb hts gk_cl11.2.1 tyX11 tyX11_ok nmX11 hown hK hP hD hS 0 rfl rfl 6 (by decide) (hts _ (ck_w_ok (i := 599) (by decide +kernel) : Cond.fieldLink "DioceseBook" 58 "DioceseBook" "terriers" "LDioceseBook$Terriers;" ∈ aAW)) (fun _ h9 => h9) rfl hin rfl (by decide +kernel) rfl rfl (Nat.le_of_ble_eq_true rfl) ctD_Book_98 (fun H locs hP hD hS => ?_)
  have hP : va_P D wCl ((h0, .inr (11, [.ref q5, .ref q16, .ref q27, .ref q38, .ref q53, .ref q76, .ref q91, .null, .null, .null, .int 0])) :: Z7) H := hP
  have hD : va_D A ((h0, .inr (11, [.ref q5, .ref q16, .ref q27, .ref q38, .ref q53, .ref q76, .ref q91, .null, .null, .null, .int 0])) :: Z7) := hD
  refine lv_aload_n hx hb ctD_Book_101 rfl (lv_at hl 0 rfl) ?_
  refine va_new (ci := 2) (fs := [.null, .null, .null, .null, .null, .int 0, .int 0, .null, .int 0, .null, .null, .int 0]) (C := "DioceseBook$Lives") (T := TX2) (N := 12) hx hb hts (fun w hw => (gk_cl2.2.1 w hw)) tyX2 tyX2_ok hown (hts _ (ck_w_ok (i := 504) (by decide +kernel) : Cond.classLink "DioceseBook" 62 "DioceseBook$Lives" ∈ aAW)) (hts _ (ck_w_ok (i := 505) (by decide +kernel) : Cond.instantiable "DioceseBook$Lives" 12 ∈ aAW)) (hts _ (ck_w_ok (i := 128) (by decide +kernel) : Cond.initialized "DioceseBook$Lives" ∈ aAW)) hK hP hD hS hA rfl (fun j hj => by match j, hj with | 0, _ => rfl | 1, _ => rfl | 2, _ => rfl | 3, _ => rfl | 4, _ => rfl | 5, _ => rfl | 6, _ => rfl | 7, _ => rfl | 8, _ => rfl | 9, _ => rfl | 10, _ => rfl | 11, _ => rfl | j + 12, hj => exact absurd hj (by omega)) (Nat.le_of_ble_eq_true rfl) (Nat.le_of_ble_eq_true rfl) ctD_Book_102 (fun q102 H hP hD hS => ?_)
  have hP : va_P D wCl (((h0, .inr (11, [.ref q5, .ref q16, .ref q27, .ref q38, .ref q53, .ref q76, .ref q91, .null, .null, .null, .int 0])) :: Z7) ++ ctE_Lives q102) H := hP
  have hD : va_D A (((h0, .inr (11, [.ref q5, .ref q16, .ref q27, .ref q38, .ref q53, .ref q76, .ref q91, .null, .null, .null, .int 0])) :: Z7) ++ ctE_Lives q102) := hD
  refine W.widen (k := 181) (n := 10612) (by omega) (by omega) ?_
  refine lv_dup hx hb ctD_Book_105 rfl ?_
  have hPc := ct_last hP
  have hDc := ct_lastD hD
  have hFc : ∀ z, va_A (ctE_Lives q102) H.size z → A z := ct_lastF hD hS hA
  refine va_callv (va_runIN (As := []) (rest := [.ref q102, .ref h0]) ⟨hx, hb, hml, hown, hts⟩ (ct_Lives l D cA q102  H.size) ⟨⟨⟨rfl, rfl, Nat.le_of_ble_eq_true rfl, Nat.le_of_ble_eq_true rfl, pay_in hts (st_good ctC_Lives), List.mem_cons_self⟩, hts _ ctC_Lives, hts _ (ck_w_ok (i := 128) (by decide +kernel) : Cond.initialized "DioceseBook$Lives" ∈ aAW), ⟨by decide, by decide⟩, (fun sig h => (by
    have h2 : (parseMethodDescriptor ctY_Lives.desc).map (fun d => d.parameters.length) = some 0 := by decide +kernel
    rw [h] at h2
    exact (Option.some.inj h2).symm)), va_Nw.use rfl (hN.2 _ (by decide +kernel : Cond.methodLinkNest "DioceseBook" 64 ctY_Lives "DioceseBook" ∈ ct_NL))⟩, rfl, hts _ ctI_Lives⟩ ⟨ct_blind _ _ _, fun U hU hW => ⟨rfl, by rw [hU], by rw [hU]; exact hPc, va_K.moved hW.alike hK, hDc.weaken (fun _ _ _ _ => trivial), ct_N_warm hW hN⟩⟩ rfl rfl hl.1 rfl (lv_room (Nat.le_of_ble_eq_true rfl)) ctD_Book_106 ⟨Nat.le_of_ble_eq_true rfl, Nat.le_of_ble_eq_true rfl⟩) hS (fun q _ h => hFc q h) hFc (fun u106 t H1 locs ht hvm hw hB hz1 hk1 hS => ?_)
  obtain ⟨hP1, hD1⟩ := hB
  rw [ht] at hP1
  obtain ⟨hP, hD⟩ := ct_join hP hD hk1 hFc hP1 hD1
  generalize H1 = H at hP hS ⊢
  obtain ⟨Z8, hZ8⟩ : ∃ z : va_W, z = Z7 ++ ctW_Lives cA  u106 := ⟨_, rfl⟩
  have hP : va_P D wCl ((h0, .inr (11, [.ref q5, .ref q16, .ref q27, .ref q38, .ref q53, .ref q76, .ref q91, .null, .null, .null, .int 0])) :: Z8) H := by rw [hZ8]; exact hP
  have hD : va_D A ((h0, .inr (11, [.ref q5, .ref q16, .ref q27, .ref q38, .ref q53, .ref q76, .ref q91, .null, .null, .null, .int 0])) :: Z8) := by rw [hZ8]; exact hD
  refine W.widen (k := 189) (n := 10740) (by omega) (by omega) ?_
  have hw106 : u106 0 = q102 := hw
  refine va_putF (D := D) (ci := 11) (v := .ref q102) (ty := .object "DioceseBook$Lives") (C := "DioceseBook") (T := TX11) (N := 11) hx hb hts gk_cl11.2.1 tyX11 tyX11_ok nmX11 hown hK hP hD hS 0 rfl rfl 7 (by decide) (hts _ (ck_w_ok (i := 600) (by decide +kernel) : Cond.fieldLink "DioceseBook" 65 "DioceseBook" "pieces" "LDioceseBook$Lives;" ∈ aAW)) (fun _ h9 => h9) rfl hin rfl (by decide +kernel) rfl rfl (Nat.le_of_ble_eq_true rfl) ctD_Book_109 (fun H locs hP hD hS => ?_)
  have hP : va_P D wCl ((h0, .inr (11, [.ref q5, .ref q16, .ref q27, .ref q38, .ref q53, .ref q76, .ref q91, .ref q102, .null, .null, .int 0])) :: Z8) H := hP
  have hD : va_D A ((h0, .inr (11, [.ref q5, .ref q16, .ref q27, .ref q38, .ref q53, .ref q76, .ref q91, .ref q102, .null, .null, .int 0])) :: Z8) := hD
  refine lv_aload_n hx hb ctD_Book_112 rfl (lv_at hl 0 rfl) ?_
  refine va_new (ci := 10) (fs := [.null, .null, .int 0, .null, .null, .null, .null, .int 0, .int 0, .int 0, .int 0]) (C := "DioceseBook$Visitation") (T := TX10) (N := 11) hx hb hts (fun w hw => (gk_cl10.2.1 w hw)) tyX10 tyX10_ok hown (hts _ (ck_w_ok (i := 550) (by decide +kernel) : Cond.classLink "DioceseBook" 69 "DioceseBook$Visitation" ∈ aAW)) (hts _ (ck_w_ok (i := 551) (by decide +kernel) : Cond.instantiable "DioceseBook$Visitation" 11 ∈ aAW)) (hts _ (ck_w_ok (i := 129) (by decide +kernel) : Cond.initialized "DioceseBook$Visitation" ∈ aAW)) hK hP hD hS hA rfl (fun j hj => by match j, hj with | 0, _ => rfl | 1, _ => rfl | 2, _ => rfl | 3, _ => rfl | 4, _ => rfl | 5, _ => rfl | 6, _ => rfl | 7, _ => rfl | 8, _ => rfl | 9, _ => rfl | 10, _ => rfl | j + 11, hj => exact absurd hj (by omega)) (Nat.le_of_ble_eq_true rfl) (Nat.le_of_ble_eq_true rfl) ctD_Book_113 (fun q113 H hP hD hS => ?_)
  have hP : va_P D wCl (((h0, .inr (11, [.ref q5, .ref q16, .ref q27, .ref q38, .ref q53, .ref q76, .ref q91, .ref q102, .null, .null, .int 0])) :: Z8) ++ ctE_Visitation q113) H := hP
  have hD : va_D A (((h0, .inr (11, [.ref q5, .ref q16, .ref q27, .ref q38, .ref q53, .ref q76, .ref q91, .ref q102, .null, .null, .int 0])) :: Z8) ++ ctE_Visitation q113) := hD
  refine W.widen (k := 190) (n := 10751) (by omega) (by omega) ?_
  refine lv_dup hx hb ctD_Book_116 rfl ?_
  refine lv_aload_n hx hb ctD_Book_117 rfl (lv_at hl 0 rfl) ?_
  refine va_get hx hb hts gk_cl11.2.1 hown hK hP 0 rfl rfl 0 (by decide) (hts _ (ck_w_ok (i := 593) (by decide +kernel) : Cond.fieldLink "DioceseBook" 10 "DioceseBook" "register" "LDioceseBook$Register;" ∈ aAW)) (fun _ h9 => h9) rfl ctD_Book_118 ?_
  have hPc := ct_last hP
  have hDc := ct_lastD hD
  have hFc : ∀ z, va_A (ctE_Visitation q113) H.size z → A z := ct_lastF hD hS hA
  refine va_callv (va_runI (As := [.ref q5]) (rest := [.ref q113, .ref h0]) ⟨hx, hb, hml, hown, hts⟩ (ct_Visitation l D cA q113 q5 H.size) ⟨⟨rfl, rfl, Nat.le_of_ble_eq_true rfl, Nat.le_of_ble_eq_true rfl, pay_in hts (st_good ctC_Visitation), List.mem_cons_self, hts _ ctC_Visitation, hts _ (ck_w_ok (i := 129) (by decide +kernel) : Cond.initialized "DioceseBook$Visitation" ∈ aAW), ⟨by decide, by decide⟩, (fun sig h => (by
    have h2 : (parseMethodDescriptor ctY_Visitation.desc).map (fun d => d.parameters.length) = some 1 := by decide +kernel
    rw [h] at h2
    exact (Option.some.inj h2).symm)), hts _ (ck_w_ok (i := 552) (by decide +kernel) : Cond.methodLink "DioceseBook" 71 ctY_Visitation ∈ aAW)⟩, rfl, hts _ ctI_Visitation⟩ ⟨ct_blind _ _ _, fun U hU hW => ⟨rfl, by rw [hU], by rw [hU]; exact hPc, va_K.moved hW.alike hK, hDc.weaken (fun _ _ _ _ => trivial), ct_N_warm hW hN⟩⟩ rfl rfl hl.1 rfl (lv_room (Nat.le_of_ble_eq_true rfl)) ctD_Book_121 ⟨Nat.le_of_ble_eq_true rfl, Nat.le_of_ble_eq_true rfl⟩) hS (fun q _ h => hFc q h) hFc (fun u121 t H1 locs ht hvm hw hB hz1 hk1 hS => ?_)
  obtain ⟨hP1, hD1⟩ := hB
  rw [ht] at hP1
  obtain ⟨hP, hD⟩ := ct_join hP hD hk1 hFc hP1 hD1
  generalize H1 = H at hP hS ⊢
  obtain ⟨Z9, hZ9⟩ : ∃ z : va_W, z = Z8 ++ ctW_Visitation cA q5 u121 := ⟨_, rfl⟩
  have hP : va_P D wCl ((h0, .inr (11, [.ref q5, .ref q16, .ref q27, .ref q38, .ref q53, .ref q76, .ref q91, .ref q102, .null, .null, .int 0])) :: Z9) H := by rw [hZ9]; exact hP
  have hD : va_D A ((h0, .inr (11, [.ref q5, .ref q16, .ref q27, .ref q38, .ref q53, .ref q76, .ref q91, .ref q102, .null, .null, .int 0])) :: Z9) := by rw [hZ9]; exact hD
  refine W.widen (k := 203) (n := 13335) (by omega) (by omega) ?_
  have hw121 : u121 0 = q113 := hw
  refine va_putF (D := D) (ci := 11) (v := .ref q113) (ty := .object "DioceseBook$Visitation") (C := "DioceseBook") (T := TX11) (N := 11) hx hb hts gk_cl11.2.1 tyX11 tyX11_ok nmX11 hown hK hP hD hS 0 rfl rfl 8 (by decide) (hts _ (ck_w_ok (i := 601) (by decide +kernel) : Cond.fieldLink "DioceseBook" 74 "DioceseBook" "visitation" "LDioceseBook$Visitation;" ∈ aAW)) (fun _ h9 => h9) rfl hin rfl (by decide +kernel) rfl rfl (Nat.le_of_ble_eq_true rfl) ctD_Book_124 (fun H locs hP hD hS => ?_)
  have hP : va_P D wCl ((h0, .inr (11, [.ref q5, .ref q16, .ref q27, .ref q38, .ref q53, .ref q76, .ref q91, .ref q102, .ref q113, .null, .int 0])) :: Z9) H := hP
  have hD : va_D A ((h0, .inr (11, [.ref q5, .ref q16, .ref q27, .ref q38, .ref q53, .ref q76, .ref q91, .ref q102, .ref q113, .null, .int 0])) :: Z9) := hD
  refine lv_aload_n hx hb ctD_Book_127 rfl (lv_at hl 0 rfl) ?_
  refine lv_bipush (v := 12) hx hb ctD_Book_128 (by decide) ?_
  refine a_newa (atype := .long) (ty := .long) (c0 := cA 3) 3 hx hb (hts _ ct_a3) rfl (fun n h => by cases h) hK rfl hP hD hS hA (N' := 12) (a0 := (12, .inr (.inl (fun _ => 0)))) (fun _ => rfl) (by decide) (by decide) (by decide) (Nat.le_of_ble_eq_true rfl) (Nat.le_of_ble_eq_true rfl) ctD_Book_130 (fun q130 H hP hD hS => ?_)
  obtain ⟨Z10, hZ10⟩ : ∃ z : va_W, z = Z9 ++ [(q130, .inl (cA 3, 12, .inr (.inl (fun _ => 0))))] := ⟨_, rfl⟩
  have hP : va_P D wCl ((h0, .inr (11, [.ref q5, .ref q16, .ref q27, .ref q38, .ref q53, .ref q76, .ref q91, .ref q102, .ref q113, .null, .int 0])) :: Z10) H := by rw [hZ10]; exact hP
  have hD : va_D A ((h0, .inr (11, [.ref q5, .ref q16, .ref q27, .ref q38, .ref q53, .ref q76, .ref q91, .ref q102, .ref q113, .null, .int 0])) :: Z10) := by rw [hZ10]; exact hD
  refine W.widen (k := 204) (n := 13347) (by omega) (by omega) ?_
  refine va_putF (D := D) (ci := 11) (v := .ref q130) (ty := .array .long) (C := "DioceseBook") (T := TX11) (N := 11) hx hb hts gk_cl11.2.1 tyX11 tyX11_ok nmX11 hown hK hP hD hS 0 rfl rfl 9 (by decide) (hts _ (ck_w_ok (i := 602) (by decide +kernel) : Cond.fieldLink "DioceseBook" 78 "DioceseBook" "holdersBefore" "[J" ∈ aAW)) (fun _ h9 => h9) rfl hin rfl (by decide +kernel) rfl rfl (Nat.le_of_ble_eq_true rfl) ctD_Book_132 (fun H locs hP hD hS => ?_)
  have hP : va_P D wCl ((h0, .inr (11, [.ref q5, .ref q16, .ref q27, .ref q38, .ref q53, .ref q76, .ref q91, .ref q102, .ref q113, .ref q130, .int 0])) :: Z10) H := hP
  have hD : va_D A ((h0, .inr (11, [.ref q5, .ref q16, .ref q27, .ref q38, .ref q53, .ref q76, .ref q91, .ref q102, .ref q113, .ref q130, .int 0])) :: Z10) := hD
  subst hAe
  subst hZ0 hZ1 hZ2 hZ3 hZ4 hZ5 hZ6 hZ7 hZ8 hZ9 hZ10
  rw [← hw9] at hP hD
  rw [← hw20] at hP hD
  rw [← hw31] at hP hD
  rw [← hw46] at hP hD
  rw [← hw69] at hP hD
  rw [← hw84] at hP hD
  rw [← hw95] at hP hD
  rw [← hw106] at hP hD
  rw [← hw121] at hP hD
  rw [ctWc_Register (ctU_Book_u9 h0 u9 u20 u31 u46 u69 u84 u95 u106 u121 q130)] at hP hD
  rw [ctWc_Papers (ctU_Book_u20 h0 u9 u20 u31 u46 u69 u84 u95 u106 u121 q130)] at hP hD
  rw [ctWc_Canons (ctU_Book_u31 h0 u9 u20 u31 u46 u69 u84 u95 u106 u121 q130)] at hP hD
  rw [ctWc_Reader (ctU_Book_u46 h0 u9 u20 u31 u46 u69 u84 u95 u106 u121 q130)] at hP hD
  rw [ctWc_Story (ctU_Book_u69 h0 u9 u20 u31 u46 u69 u84 u95 u106 u121 q130)] at hP hD
  rw [ctWc_Suits (ctU_Book_u84 h0 u9 u20 u31 u46 u69 u84 u95 u106 u121 q130)] at hP hD
  rw [ctWc_Terriers (ctU_Book_u95 h0 u9 u20 u31 u46 u69 u84 u95 u106 u121 q130)] at hP hD
  rw [ctWc_Lives (ctU_Book_u106 h0 u9 u20 u31 u46 u69 u84 u95 u106 u121 q130)] at hP hD
  rw [ctWc_Visitation (ctU_Book_u121 h0 u9 u20 u31 u46 u69 u84 u95 u106 u121 q130)] at hP hD
  refine W.vret hx hb hr (fun t ht hW => ⟨⟨(ctU_Book h0 u9 u20 u31 u46 u69 u84 u95 u106 u121 q130), rfl, rfl, by rw [ht]; exact hP, hD⟩, hS.F ht⟩) hS.2.2 ctD_Book_135 hlocks
theorem ctWc_Book {cA : Nat → ClassId} {u u' : Nat → Nat} (h : ∀ k, k < 205 → u k = u' k) : ctW_Book cA  u = ctW_Book cA  u' := by
  unfold ctW_Book
  rw [h 0 (by decide)]
  (try rw [h 1 (by decide)])
  (try rw [h 6 (by decide)])
  (try rw [h 24 (by decide)])
  (try rw [h 35 (by decide)])
  (try rw [h 37 (by decide)])
  (try rw [h 69 (by decide)])
  (try rw [h 93 (by decide)])
  (try rw [h 181 (by decide)])
  (try rw [h 190 (by decide)])
  rw [ctWc_Register (u := fun k => u (1 + k)) (u' := fun k => u' (1 + k)) (fun k hk => h _ (by omega))]
  rw [ctWc_Papers (u := fun k => u (6 + k)) (u' := fun k => u' (6 + k)) (fun k hk => h _ (by omega))]
  rw [ctWc_Canons (u := fun k => u (24 + k)) (u' := fun k => u' (24 + k)) (fun k hk => h _ (by omega))]
  rw [ctWc_Reader (u := fun k => u (35 + k)) (u' := fun k => u' (35 + k)) (fun k hk => h _ (by omega))]
  rw [ctWc_Story (u := fun k => u (37 + k)) (u' := fun k => u' (37 + k)) (fun k hk => h _ (by omega))]
  rw [ctWc_Suits (u := fun k => u (69 + k)) (u' := fun k => u' (69 + k)) (fun k hk => h _ (by omega))]
  rw [ctWc_Terriers (u := fun k => u (93 + k)) (u' := fun k => u' (93 + k)) (fun k hk => h _ (by omega))]
  rw [ctWc_Lives (u := fun k => u (181 + k)) (u' := fun k => u' (181 + k)) (fun k hk => h _ (by omega))]
  rw [ctWc_Visitation (u := fun k => u (190 + k)) (u' := fun k => u' (190 + k)) (fun k hk => h _ (by omega))]
  rw [h 204 (by decide)]
