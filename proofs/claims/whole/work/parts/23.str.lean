/-! String.length() and charAt() of the string constants -/
def st_len : List Nat := [6, 3, 3, 2, 3, 3, 6, 5, 5, 5, 4, 6, 5, 5, 3, 3, 6, 5, 3, 4, 5]
def st_byt : List (List Int32) := [[117, 110, 108, 101, 115, 115], [110, 111, 116], [97, 110, 100], [111, 114], [108, 101, 116], [98, 97, 114], [115, 116, 114, 105, 107, 101], [108, 97, 112, 115, 101], [109, 105, 108, 101, 115], [119, 111, 114, 116, 104], [118, 111, 105, 100], [108, 97, 112, 115, 101, 100], [100, 101, 99, 97, 121], [115, 116, 101, 112, 115], [102, 101, 101], [97, 103, 101], [111, 114, 100, 101, 114, 115], [104, 111, 108, 100, 115], [102, 97, 114], [114, 105, 99, 104], [108, 101, 97, 118, 101]]
abbrev st_b_co : ByteArray := prog_18_method_152_code
def st_y_co : MethodName := ⟨"java/lang/String", "coder", "()B"⟩
def st_w_co : List Cond := .code st_y_co st_b_co 1 (some .byte) :: aAW
theorem st_d_co_0 : decode st_b_co 0 = .ok (.getstatic 38, 3) := by decide +kernel
theorem st_d_co_3 : decode st_b_co 3 = .ok (.ifCond .eq 10, 3) := by decide +kernel
theorem st_d_co_6 : decode st_b_co 6 = .ok (.aload_n 0, 1) := by decide +kernel
theorem st_d_co_7 : decode st_b_co 7 = .ok (.getfield 15, 3) := by decide +kernel
theorem st_d_co_10 : decode st_b_co 10 = .ok (.goto 4, 3) := by decide +kernel
theorem st_d_co_13 : decode st_b_co 13 = .ok (.iconst 1, 1) := by decide +kernel
theorem st_d_co_14 : decode st_b_co 14 = .ok (.ireturn, 1) := by decide +kernel
abbrev st_b_le : ByteArray := prog_18_method_54_code
def st_y_le : MethodName := ⟨"java/lang/String", "length", "()I"⟩
def st_w_le : List Cond := .code st_y_le st_b_le 1 (some .int) :: aAW
theorem st_d_le_0 : decode st_b_le 0 = .ok (.aload_n 0, 1) := by decide +kernel
theorem st_d_le_1 : decode st_b_le 1 = .ok (.getfield 9, 3) := by decide +kernel
theorem st_d_le_4 : decode st_b_le 4 = .ok (.arraylength, 1) := by decide +kernel
theorem st_d_le_5 : decode st_b_le 5 = .ok (.aload_n 0, 1) := by decide +kernel
theorem st_d_le_6 : decode st_b_le 6 = .ok (.invokevirtual 335, 3) := by decide +kernel
theorem st_d_le_9 : decode st_b_le 9 = .ok (.ishr, 1) := by decide +kernel
theorem st_d_le_10 : decode st_b_le 10 = .ok (.ireturn, 1) := by decide +kernel
abbrev st_b_la : ByteArray := prog_18_method_154_code
def st_y_la : MethodName := ⟨"java/lang/String", "isLatin1", "()Z"⟩
def st_w_la : List Cond := .code st_y_la st_b_la 1 (some .boolean) :: aAW
theorem st_d_la_0 : decode st_b_la 0 = .ok (.getstatic 38, 3) := by decide +kernel
theorem st_d_la_3 : decode st_b_la 3 = .ok (.ifCond .eq 14, 3) := by decide +kernel
theorem st_d_la_6 : decode st_b_la 6 = .ok (.aload_n 0, 1) := by decide +kernel
theorem st_d_la_7 : decode st_b_la 7 = .ok (.getfield 15, 3) := by decide +kernel
theorem st_d_la_10 : decode st_b_la 10 = .ok (.ifCond .ne 7, 3) := by decide +kernel
theorem st_d_la_13 : decode st_b_la 13 = .ok (.iconst 1, 1) := by decide +kernel
theorem st_d_la_14 : decode st_b_la 14 = .ok (.goto 4, 3) := by decide +kernel
theorem st_d_la_17 : decode st_b_la 17 = .ok (.iconst 0, 1) := by decide +kernel
theorem st_d_la_18 : decode st_b_la 18 = .ok (.ireturn, 1) := by decide +kernel
abbrev st_b_pc : ByteArray := prog_21_method_11_code
def st_y_pc : MethodName := ⟨"jdk/internal/util/Preconditions", "checkIndex", "(IILjava/util/function/BiFunction;)I"⟩
def st_w_pc : List Cond := .code st_y_pc st_b_pc 3 (some .int) :: aAW
theorem st_d_pc_0 : decode st_b_pc 0 = .ok (.iload_n 0, 1) := by decide +kernel
theorem st_d_pc_1 : decode st_b_pc 1 = .ok (.ifCond .lt 8, 3) := by decide +kernel
theorem st_d_pc_4 : decode st_b_pc 4 = .ok (.iload_n 0, 1) := by decide +kernel
theorem st_d_pc_5 : decode st_b_pc 5 = .ok (.iload_n 1, 1) := by decide +kernel
theorem st_d_pc_6 : decode st_b_pc 6 = .ok (.if_icmp .lt 10, 3) := by decide +kernel
theorem st_d_pc_9 : decode st_b_pc 9 = .ok (.aload_n 2, 1) := by decide +kernel
theorem st_d_pc_10 : decode st_b_pc 10 = .ok (.iload_n 0, 1) := by decide +kernel
theorem st_d_pc_11 : decode st_b_pc 11 = .ok (.iload_n 1, 1) := by decide +kernel
theorem st_d_pc_12 : decode st_b_pc 12 = .ok (.invokestatic 95, 3) := by decide +kernel
theorem st_d_pc_15 : decode st_b_pc 15 = .ok (.athrow, 1) := by decide +kernel
theorem st_d_pc_16 : decode st_b_pc 16 = .ok (.iload_n 0, 1) := by decide +kernel
theorem st_d_pc_17 : decode st_b_pc 17 = .ok (.ireturn, 1) := by decide +kernel
abbrev st_b_sc : ByteArray := prog_18_method_155_code
def st_y_sc : MethodName := ⟨"java/lang/String", "checkIndex", "(II)V"⟩
def st_w_sc : List Cond := .code st_y_sc st_b_sc 2 none :: aAW
theorem st_d_sc_0 : decode st_b_sc 0 = .ok (.iload_n 0, 1) := by decide +kernel
theorem st_d_sc_1 : decode st_b_sc 1 = .ok (.iload_n 1, 1) := by decide +kernel
theorem st_d_sc_2 : decode st_b_sc 2 = .ok (.getstatic 1053, 3) := by decide +kernel
theorem st_d_sc_5 : decode st_b_sc 5 = .ok (.invokestatic 1059, 3) := by decide +kernel
theorem st_d_sc_8 : decode st_b_sc 8 = .ok (.pop, 1) := by decide +kernel
theorem st_d_sc_9 : decode st_b_sc 9 = .ok (.return_, 1) := by decide +kernel
abbrev st_b_lc : ByteArray := prog_19_method_2_code
def st_y_lc : MethodName := ⟨"java/lang/StringLatin1", "charAt", "([BI)C"⟩
def st_w_lc : List Cond := .code st_y_lc st_b_lc 2 (some .char) :: aAW
theorem st_d_lc_0 : decode st_b_lc 0 = .ok (.iload_n 1, 1) := by decide +kernel
theorem st_d_lc_1 : decode st_b_lc 1 = .ok (.aload_n 0, 1) := by decide +kernel
theorem st_d_lc_2 : decode st_b_lc 2 = .ok (.arraylength, 1) := by decide +kernel
theorem st_d_lc_3 : decode st_b_lc 3 = .ok (.invokestatic 9, 3) := by decide +kernel
theorem st_d_lc_6 : decode st_b_lc 6 = .ok (.aload_n 0, 1) := by decide +kernel
theorem st_d_lc_7 : decode st_b_lc 7 = .ok (.iload_n 1, 1) := by decide +kernel
theorem st_d_lc_8 : decode st_b_lc 8 = .ok (.baload, 1) := by decide +kernel
theorem st_d_lc_9 : decode st_b_lc 9 = .ok (.sipush 255, 3) := by decide +kernel
theorem st_d_lc_12 : decode st_b_lc 12 = .ok (.iand, 1) := by decide +kernel
theorem st_d_lc_13 : decode st_b_lc 13 = .ok (.i2c, 1) := by decide +kernel
theorem st_d_lc_14 : decode st_b_lc 14 = .ok (.ireturn, 1) := by decide +kernel
abbrev st_b_ch : ByteArray := prog_18_method_56_code
def st_y_ch : MethodName := ⟨"java/lang/String", "charAt", "(I)C"⟩
def st_w_ch : List Cond := .code st_y_ch st_b_ch 2 (some .char) :: aAW
theorem st_d_ch_0 : decode st_b_ch 0 = .ok (.aload_n 0, 1) := by decide +kernel
theorem st_d_ch_1 : decode st_b_ch 1 = .ok (.invokevirtual 492, 3) := by decide +kernel
theorem st_d_ch_4 : decode st_b_ch 4 = .ok (.ifCond .eq 12, 3) := by decide +kernel
theorem st_d_ch_7 : decode st_b_ch 7 = .ok (.aload_n 0, 1) := by decide +kernel
theorem st_d_ch_8 : decode st_b_ch 8 = .ok (.getfield 9, 3) := by decide +kernel
theorem st_d_ch_11 : decode st_b_ch 11 = .ok (.iload_n 1, 1) := by decide +kernel
theorem st_d_ch_12 : decode st_b_ch 12 = .ok (.invokestatic 495, 3) := by decide +kernel
theorem st_d_ch_15 : decode st_b_ch 15 = .ok (.ireturn, 1) := by decide +kernel
theorem st_d_ch_16 : decode st_b_ch 16 = .ok (.aload_n 0, 1) := by decide +kernel
theorem st_d_ch_17 : decode st_b_ch 17 = .ok (.getfield 9, 3) := by decide +kernel
theorem st_d_ch_20 : decode st_b_ch 20 = .ok (.iload_n 1, 1) := by decide +kernel
theorem st_d_ch_21 : decode st_b_ch 21 = .ok (.invokestatic 498, 3) := by decide +kernel
theorem st_d_ch_24 : decode st_b_ch 24 = .ok (.ireturn, 1) := by decide +kernel
theorem st_c_co : Cond.code st_y_co st_b_co 1 (some .byte) ∈ aAW := ck_w_ok (i := 950) (by decide +kernel)
theorem st_i_co : Cond.instanceMethod st_y_co ∈ aAW := ck_w_ok (i := 948) (by decide +kernel)
theorem st_e_co : Cond.selects "java/lang/String" st_y_co st_y_co ∈ aAW := ck_w_ok (i := 949) (by decide +kernel)
theorem st_c_le : Cond.code st_y_le st_b_le 1 (some .int) ∈ aAW := ck_w_ok (i := 946) (by decide +kernel)
theorem st_i_le : Cond.instanceMethod st_y_le ∈ aAW := ck_w_ok (i := 944) (by decide +kernel)
theorem st_e_le : Cond.selects "java/lang/String" st_y_le st_y_le ∈ aAW := ck_w_ok (i := 945) (by decide +kernel)
theorem st_c_la : Cond.code st_y_la st_b_la 1 (some .boolean) ∈ aAW := ck_w_ok (i := 960) (by decide +kernel)
theorem st_i_la : Cond.instanceMethod st_y_la ∈ aAW := ck_w_ok (i := 958) (by decide +kernel)
theorem st_e_la : Cond.selects "java/lang/String" st_y_la st_y_la ∈ aAW := ck_w_ok (i := 959) (by decide +kernel)
theorem st_c_pc : Cond.code st_y_pc st_b_pc 3 (some .int) ∈ aAW := ck_w_ok (i := 971) (by decide +kernel)
theorem st_s_pc : Cond.static st_y_pc ∈ aAW := ck_w_ok (i := 970) (by decide +kernel)
theorem st_c_sc : Cond.code st_y_sc st_b_sc 2 none ∈ aAW := ck_w_ok (i := 966) (by decide +kernel)
theorem st_s_sc : Cond.static st_y_sc ∈ aAW := ck_w_ok (i := 965) (by decide +kernel)
theorem st_c_lc : Cond.code st_y_lc st_b_lc 2 (some .char) ∈ aAW := ck_w_ok (i := 963) (by decide +kernel)
theorem st_s_lc : Cond.static st_y_lc ∈ aAW := ck_w_ok (i := 962) (by decide +kernel)
theorem st_c_ch : Cond.code st_y_ch st_b_ch 2 (some .char) ∈ aAW := ck_w_ok (i := 956) (by decide +kernel)
theorem st_i_ch : Cond.instanceMethod st_y_ch ∈ aAW := ck_w_ok (i := 954) (by decide +kernel)
theorem st_e_ch : Cond.selects "java/lang/String" st_y_ch st_y_ch ∈ aAW := ck_w_ok (i := 955) (by decide +kernel)
theorem st_n_S : Cond.initialized "java/lang/String" ∈ aAW := ck_w_ok (i := 133) (by decide +kernel)
theorem st_n_L : Cond.initialized "java/lang/StringLatin1" ∈ aAW := ck_w_ok (i := 134) (by decide +kernel)
theorem st_n_P : Cond.initialized "jdk/internal/util/Preconditions" ∈ aAW := ck_w_ok (i := 135) (by decide +kernel)
theorem st_f38 : Cond.fieldLink "java/lang/String" 38 "java/lang/String" "COMPACT_STRINGS" "Z" ∈ aAW := ck_w_ok (i := 951) (by decide +kernel)
theorem st_f15 : Cond.fieldLink "java/lang/String" 15 "java/lang/String" "coder" "B" ∈ aAW := ck_w_ok (i := 2120) (by decide +kernel)
theorem st_f9 : Cond.fieldLink "java/lang/String" 9 "java/lang/String" "value" "[B" ∈ aAW := ck_w_ok (i := 2119) (by decide +kernel)
theorem st_f1053 : Cond.fieldLink "java/lang/String" 1053 "jdk/internal/util/Preconditions" "SIOOBE_FORMATTER" "Ljava/util/function/BiFunction;" ∈ aAW := ck_w_ok (i := 967) (by decide +kernel)
theorem st_l_co : Cond.methodLink "java/lang/String" 335 st_y_co ∈ aAW := ck_w_ok (i := 947) (by decide +kernel)
theorem st_l_la : Cond.methodLink "java/lang/String" 492 st_y_la ∈ aAW := ck_w_ok (i := 957) (by decide +kernel)
theorem st_l_lc : Cond.methodLink "java/lang/String" 495 st_y_lc ∈ aAW := ck_w_ok (i := 961) (by decide +kernel)
theorem st_l_sc : Cond.methodLink "java/lang/StringLatin1" 9 st_y_sc ∈ aAW := ck_w_ok (i := 964) (by decide +kernel)
theorem st_l_pc : Cond.methodLink "java/lang/String" 1059 st_y_pc ∈ aAW := ck_w_ok (i := 969) (by decide +kernel)
abbrev st_F (ad : Nat → Nat) : Nat → Prop := aF ad 205
/-- what is known of the constants' cells, and of two statics of the JDK -/
def st_X (ad adV : Nat → Nat) (U : State) (H : Heap) : Prop := vk_S 21 st_len st_byt (fun i => ad (5000 + i)) adV (st_F ad) U H ∧ va_Z "java/lang/String" "COMPACT_STRINGS" "Z" (.int 1) (st_F ad) U H ∧ va_Zq "jdk/internal/util/Preconditions" "SIOOBE_FORMATTER" "Ljava/util/function/BiFunction;" (st_F ad) U H
theorem st_X_moved {ad adV : Nat → Nat} {u U : State} {H : Heap} (h : u.vm.Alike U.vm) (x : st_X ad adV u H) : st_X ad adV U H := ⟨x.1.moved h, x.2.1.moved h, x.2.2.moved h⟩
theorem st_X_kept {ad adV : Nat → Nat} {U : State} {H H1 : Heap} (x : st_X ad adV U H) (h : ∀ a : Nat, a < H.size → ¬ aF ad 205 a → H1[a]? = H[a]?) : st_X ad adV U H1 := ⟨x.1.kept h, x.2.1.kept h, x.2.2.kept h⟩
def st_rm (f n : Nat) : Room := { frames := f, cells := 0, slots := 0, locals := n }
def st_P (ad adV : Nat → Nat) (av : List Value) : Array Value → State → Prop := va_Pc av (fun U => st_X ad adV U U.heap)
theorem st_blind (ad adV : Nat → Nat) (av : List Value) : FrameBlind (st_P ad adV av) := by
  intro a U g mk q
  exact ⟨q.1, st_X_moved (u := U) (U := U.calling g mk a) (Vm.Alike.refl U.vm) q.2⟩
theorem st_good {y : MethodName} {b : ByteArray} {n : Nat} {r : Option FieldType} (h : Cond.code y b n r ∈ aAW) : GoodIn aAW (Cond.code y b n r :: aAW) := fun w hw => by
  rcases List.mem_cons.mp hw with g | g
  · rw [g]; exact ⟨h, good_of_word (aAW_good _ h)⟩
  · exact ⟨g, good_of_word (aAW_good _ g)⟩
theorem sc_shr_0 (x : Int32) : x >>> ((0 : Int32) &&& 31) = x := sb_shr0 x
section STR
variable {l : Launch} {ad adV : Nat → Nat} {i : Nat}
set_option maxHeartbeats 2000000 in
theorem st_co (hi : i < 21) : Met l st_y_co st_w_co (st_rm 1 12) (st_P ad adV [.ref (ad (5000 + i))]) (vp_Si (fun r => r = 0)) 0 0 (fun _ => False) := by
  refine Met.ofW (cc := st_b_co) (maxL := 1) (ret := some .byte) (by decide) rfl ?_
  intro p e s m args below meth c s₁ B hml hv
  obtain ⟨rfl, hX⟩ := hv
  have hx := B.exec
  have hb := B.bytes
  have hr := B.returns
  have hts0 := atoms_spec (ws := st_w_co) B.pre
  have hts : ∀ w ∈ aAW, w.before _ s = true := fun w hw => hts0 w (List.mem_cons_of_mem _ hw)
  have hown : s.vm.findClass "java/lang/String" = some m.cls := findClass_of_methodNamed B.named
  have hlocks := B.notSynchronized
  have hS : va_S (st_F ad) s.heap s.heap [] := va_S.rf
  have hl := lv_entry ([.ref (ad (5000 + i))]) (n := 1) (Nat.le_of_ble_eq_true rfl)
  rw [lg_entry_eq]
  generalize (lg_sl ([.ref (ad (5000 + i))]) ++ List.replicate (1 - (lg_sl ([.ref (ad (5000 + i))])).length) Slot.unset).toArray = ls at hl ⊢
  have hl : lv_has ls 1 [(0, .ref (ad (5000 + i)))] := hl
  refine va_gets hx hb hX.2.1 hS hown (hts _ st_f38) (fun _ z => z) st_d_co_0 ?_
  refine lv_if_eq (tgt := 13) hx hb st_d_co_3 (by decide) (fun c => absurd c (by decide)) (fun _ => ?_)
  refine lv_aload_n hx hb st_d_co_6 rfl (lv_at hl 0 rfl) ?_
  refine vk_getf hx hb (hX.1.1 i hi).2.1 hS hown (hts _ st_f15) (fun _ z => z) st_d_co_7 ?_
  refine lv_goto (tgt := 14) hx hb st_d_co_10 (by decide) ?_
  exact W.zret hx hb hr rfl (fun t ht _ => ⟨0, rfl, rfl, ht⟩) (fun q h => by cases h) st_d_co_14 hlocks
set_option maxHeartbeats 2000000 in
theorem st_la (hi : i < 21) : Met l st_y_la st_w_la (st_rm 1 12) (st_P ad adV [.ref (ad (5000 + i))]) (vp_Si (fun r => r = 1)) 0 0 (fun _ => False) := by
  refine Met.ofW (cc := st_b_la) (maxL := 1) (ret := some .boolean) (by decide) rfl ?_
  intro p e s m args below meth c s₁ B hml hv
  obtain ⟨rfl, hX⟩ := hv
  have hx := B.exec
  have hb := B.bytes
  have hr := B.returns
  have hts0 := atoms_spec (ws := st_w_la) B.pre
  have hts : ∀ w ∈ aAW, w.before _ s = true := fun w hw => hts0 w (List.mem_cons_of_mem _ hw)
  have hown : s.vm.findClass "java/lang/String" = some m.cls := findClass_of_methodNamed B.named
  have hlocks := B.notSynchronized
  have hS : va_S (st_F ad) s.heap s.heap [] := va_S.rf
  have hl := lv_entry ([.ref (ad (5000 + i))]) (n := 1) (Nat.le_of_ble_eq_true rfl)
  rw [lg_entry_eq]
  generalize (lg_sl ([.ref (ad (5000 + i))]) ++ List.replicate (1 - (lg_sl ([.ref (ad (5000 + i))])).length) Slot.unset).toArray = ls at hl ⊢
  have hl : lv_has ls 1 [(0, .ref (ad (5000 + i)))] := hl
  refine va_gets hx hb hX.2.1 hS hown (hts _ st_f38) (fun _ z => z) st_d_la_0 ?_
  refine lv_if_eq (tgt := 17) hx hb st_d_la_3 (by decide) (fun c => absurd c (by decide)) (fun _ => ?_)
  refine lv_aload_n hx hb st_d_la_6 rfl (lv_at hl 0 rfl) ?_
  refine vk_getf hx hb (hX.1.1 i hi).2.1 hS hown (hts _ st_f15) (fun _ z => z) st_d_la_7 ?_
  refine lv_if_ne (tgt := 17) hx hb st_d_la_10 (by decide) (fun c => absurd rfl c) (fun _ => ?_)
  refine lv_iconst (v := 1) hx hb st_d_la_13 (by decide) ?_
  refine lv_goto (tgt := 18) hx hb st_d_la_14 (by decide) ?_
  exact W.zret hx hb hr rfl (fun t ht _ => ⟨1, rfl, rfl, ht⟩) (fun q h => by cases h) st_d_la_18 hlocks
set_option maxHeartbeats 2000000 in
theorem st_le (hi : i < 21) : Met l st_y_le st_w_le (st_rm 2 40) (st_P ad adV [.ref (ad (5000 + i))]) (vp_Si (fun r => r = Int32.ofNat (st_len.getD i 0))) 0 0 (fun _ => False) := by
  refine Met.ofW (cc := st_b_le) (maxL := 1) (ret := some .int) (by decide) rfl ?_
  intro p e s m args below meth c s₁ B hml hv
  obtain ⟨rfl, hX⟩ := hv
  have hx := B.exec
  have hb := B.bytes
  have hr := B.returns
  have hts0 := atoms_spec (ws := st_w_le) B.pre
  have hts : ∀ w ∈ aAW, w.before _ s = true := fun w hw => hts0 w (List.mem_cons_of_mem _ hw)
  have hown : s.vm.findClass "java/lang/String" = some m.cls := findClass_of_methodNamed B.named
  have hlocks := B.notSynchronized
  have hS : va_S (st_F ad) s.heap s.heap [] := va_S.rf
  have hl := lv_entry ([.ref (ad (5000 + i))]) (n := 1) (Nat.le_of_ble_eq_true rfl)
  rw [lg_entry_eq]
  generalize (lg_sl ([.ref (ad (5000 + i))]) ++ List.replicate (1 - (lg_sl ([.ref (ad (5000 + i))])).length) Slot.unset).toArray = ls at hl ⊢
  have hl : lv_has ls 1 [(0, .ref (ad (5000 + i)))] := hl
  refine lv_aload_n hx hb st_d_le_0 rfl (lv_at hl 0 rfl) ?_
  refine vk_getf hx hb (hX.1.1 i hi).2.2.1 hS hown (hts _ st_f9) (fun _ z => z) st_d_le_1 ?_
  refine va_tlen hx hb (hX.1.1 i hi).2.2.2 hS rfl st_d_le_4 ?_
  refine lv_aload_n hx hb st_d_le_5 rfl (lv_at hl 0 rfl) ?_
  refine vp_callSi (W.runV (As := []) (rest := [.int (Int32.ofNat (st_len.getD i 0))]) ⟨hx, hb, hml, hown, hts⟩ (st_co hi) ⟨⟨rfl, rfl, by decide, by decide, pay_in hts (st_good st_c_co), List.mem_cons_self, hts _ st_c_co, hts _ st_n_S, ⟨by decide, by decide⟩, fun sig h => (by
    have h2 : (parseMethodDescriptor st_y_co.desc).map (fun d => d.parameters.length) = some 0 := by decide +kernel
    rw [h] at h2
    exact (Option.some.inj h2).symm), hts _ st_l_co⟩, hts _ st_i_co, hts _ st_e_co⟩ ⟨st_blind ad adV _, vk_recv hX.1 hi hS, fun U hU hW => ⟨rfl, by show st_X ad adV U U.heap; rw [hU]; exact st_X_moved hW.alike hX⟩⟩ rfl rfl hl.1 rfl (lv_room (Nat.le_of_ble_eq_true rfl)) st_d_le_6 ⟨Nat.le_refl _, Nat.le_refl _⟩) (fun r hr0 => ?_)
  subst hr0
  refine lv_ishr hx hb st_d_le_9 ?_
  exact W.zret hx hb hr rfl (fun t ht _ => ⟨_, rfl, sc_shr_0 _, ht⟩) (fun q h => by cases h) st_d_le_10 hlocks
theorem st_callV {p : Program} {e : Env} {R : Room} {s : State} {m : MethodId} {args : Array Value} {below : List Frame} {meth : Method} {c : Code} {H : Heap} {locs : List Loc} {cells slots : Nat} {Q : State → Prop} {pc : Nat} {ls : Array Slot} {rest : List Value} {a : Array Value} {st0 : List Value} (hr : CallRun p l e R s m args below meth c H locs cells slots 0 0 (F0 m pc ls st0) rest ((fun _ st o t => o = .returned none ∧ t.heap = st.heap : Array Value → State → Outcome → State → Prop) a) (fun _ => False))
    (kk : W p l e R s m args below meth c H locs cells slots Q (F0 m (pc + 3) ls rest)) : W p l e R s m args below meth c H locs cells slots Q (F0 m pc ls st0) := by
  intro T hT X
  obtain ⟨v, st₀, t, T', L, h0, X', hL, e1, ⟨hv, hh⟩, st⟩ := hr T hT X
  cases hv
  obtain ⟨t2, a1, b1⟩ := kk T' (by rw [e1, hh, h0]) (Stand.forget X' (fun q h => (hL q h).elim))
  exact ⟨t2, st t2 a1, b1⟩
set_option maxHeartbeats 2000000 in
theorem st_pc {a b : Nat} (hab : a < b) (hb0 : b < 1000) {v : Value} (hv0 : v = .null ∨ ∃ t, v = .ref t) : Met l st_y_pc st_w_pc (st_rm 1 12) (st_P ad adV [.int (nI a), .int (nI b), v]) (vp_Si (fun _ => True)) 0 0 (fun _ => False) := by
  rcases hv0 with rfl | ⟨t0, rfl⟩
  all_goals
    refine Met.ofW (cc := st_b_pc) (maxL := 3) (ret := some .int) (by decide) rfl ?_
    intro p e s m args below meth c s₁ B hml hv
    obtain ⟨rfl, hX⟩ := hv
    have hx := B.exec
    have hb := B.bytes
    have hr := B.returns
    have hlocks := B.notSynchronized
    rw [lg_entry_eq]
  · have hl := lv_entry ([.int (nI a), .int (nI b), .null]) (n := 3) (Nat.le_of_ble_eq_true rfl)
    generalize (lg_sl ([.int (nI a), .int (nI b), .null]) ++ List.replicate (3 - (lg_sl ([.int (nI a), .int (nI b), .null])).length) Slot.unset).toArray = ls at hl ⊢
    have hl : lv_has ls 3 [(0, .int (nI a)), (1, .int (nI b)), (2, .null)] := hl
    refine lv_iload_n hx hb st_d_pc_0 rfl (lv_at hl 0 rfl) ?_
    refine lv_if_lt (tgt := 9) hx hb st_d_pc_1 (by decide) (fun c => absurd c (nI_pos (by omega))) (fun _ => ?_)
    refine lv_iload_n hx hb st_d_pc_4 rfl (lv_at hl 0 rfl) ?_
    refine lv_iload_n hx hb st_d_pc_5 rfl (lv_at hl 1 rfl) ?_
    refine lv_icmp_lt (tgt := 16) hx hb st_d_pc_6 (by decide) (fun _ => ?_) (fun c => absurd (nI_lt hab (by omega)) c)
    refine lv_iload_n hx hb st_d_pc_16 rfl (lv_at hl 0 rfl) ?_
    exact W.zret hx hb hr rfl (fun t ht _ => ⟨_, rfl, trivial, ht⟩) (fun q h => by cases h) st_d_pc_17 hlocks
  · have hl := lv_entry ([.int (nI a), .int (nI b), .ref t0]) (n := 3) (Nat.le_of_ble_eq_true rfl)
    generalize (lg_sl ([.int (nI a), .int (nI b), .ref t0]) ++ List.replicate (3 - (lg_sl ([.int (nI a), .int (nI b), .ref t0])).length) Slot.unset).toArray = ls at hl ⊢
    have hl : lv_has ls 3 [(0, .int (nI a)), (1, .int (nI b)), (2, .ref t0)] := hl
    refine lv_iload_n hx hb st_d_pc_0 rfl (lv_at hl 0 rfl) ?_
    refine lv_if_lt (tgt := 9) hx hb st_d_pc_1 (by decide) (fun c => absurd c (nI_pos (by omega))) (fun _ => ?_)
    refine lv_iload_n hx hb st_d_pc_4 rfl (lv_at hl 0 rfl) ?_
    refine lv_iload_n hx hb st_d_pc_5 rfl (lv_at hl 1 rfl) ?_
    refine lv_icmp_lt (tgt := 16) hx hb st_d_pc_6 (by decide) (fun _ => ?_) (fun c => absurd (nI_lt hab (by omega)) c)
    refine lv_iload_n hx hb st_d_pc_16 rfl (lv_at hl 0 rfl) ?_
    exact W.zret hx hb hr rfl (fun t ht _ => ⟨_, rfl, trivial, ht⟩) (fun q h => by cases h) st_d_pc_17 hlocks
set_option maxHeartbeats 2000000 in
theorem st_sc {a b : Nat} (hab : a < b) (hb0 : b < 1000) : Met l st_y_sc st_w_sc (st_rm 2 40) (st_P ad adV [.int (nI a), .int (nI b)]) (fun _ st o t => o = .returned none ∧ t.heap = st.heap) 0 0 (fun _ => False) := by
  refine Met.ofW (cc := st_b_sc) (maxL := 2) (ret := none) (by decide) rfl ?_
  intro p e s m args below meth c s₁ B hml hv
  obtain ⟨rfl, hX⟩ := hv
  have hx := B.exec
  have hb := B.bytes
  have hr := B.returns
  have hts0 := atoms_spec (ws := st_w_sc) B.pre
  have hts : ∀ w ∈ aAW, w.before _ s = true := fun w hw => hts0 w (List.mem_cons_of_mem _ hw)
  have hown : s.vm.findClass "java/lang/String" = some m.cls := findClass_of_methodNamed B.named
  have hlocks := B.notSynchronized
  have hS : va_S (st_F ad) s.heap s.heap [] := va_S.rf
  have hl := lv_entry ([.int (nI a), .int (nI b)]) (n := 2) (Nat.le_of_ble_eq_true rfl)
  rw [lg_entry_eq]
  generalize (lg_sl ([.int (nI a), .int (nI b)]) ++ List.replicate (2 - (lg_sl ([.int (nI a), .int (nI b)])).length) Slot.unset).toArray = ls at hl ⊢
  have hl : lv_has ls 2 [(0, .int (nI a)), (1, .int (nI b))] := hl
  refine lv_iload_n hx hb st_d_sc_0 rfl (lv_at hl 0 rfl) ?_
  refine lv_iload_n hx hb st_d_sc_1 rfl (lv_at hl 1 rfl) ?_
  have key : ∀ v : Value, (v = .null ∨ ∃ t, v = .ref t) → va_Z "jdk/internal/util/Preconditions" "SIOOBE_FORMATTER" "Ljava/util/function/BiFunction;" v (st_F ad) s s.heap → W p l e (headSpec st_w_sc (st_rm 2 40)).room s m #[Value.int (nI a), Value.int (nI b)] below meth c s.heap [] 0 0 (MQ below (fun _ st o t => o = .returned none ∧ t.heap = st.heap) #[Value.int (nI a), Value.int (nI b)] s 0 0 (fun _ => False)) (F0 m 2 ls [.int (nI b), .int (nI a)]) := by
    intro v hv0 hz
    refine va_gets hx hb hz hS hown (hts _ st_f1053) (fun _ z => z) st_d_sc_2 ?_
    refine vp_callSi (W.runS (As := [.int (nI a), .int (nI b), v]) (rest := []) ⟨hx, hb, hml, hown, hts⟩ (st_pc hab hb0 hv0) ⟨⟨rfl, rfl, Nat.le_of_ble_eq_true rfl, Nat.le_of_ble_eq_true rfl, pay_in hts (st_good st_c_pc), List.mem_cons_self, hts _ st_c_pc, hts _ st_n_P, ⟨by decide, by decide⟩, fun sig h => (by
      have h2 : (parseMethodDescriptor st_y_pc.desc).map (fun d => d.parameters.length) = some 3 := by decide +kernel
      rw [h] at h2
      exact (Option.some.inj h2).symm), hts _ st_l_pc⟩, hts _ st_s_pc⟩ ⟨st_blind ad adV _, fun U hU hW => ⟨rfl, by show st_X ad adV U U.heap; rw [hU]; exact st_X_moved hW.alike hX⟩⟩ rfl rfl hl.1 rfl (lv_room (Nat.le_of_ble_eq_true rfl)) st_d_sc_5 ⟨Nat.le_refl _, Nat.le_refl _⟩) (fun r _ => ?_)
    refine lv_pop hx hb st_d_sc_8 rfl ?_
    exact W.vret hx hb hr (fun t ht _ => ⟨rfl, ht⟩) (fun q h => by cases h) st_d_sc_9 hlocks
  rcases hX.2.2 with hz | ⟨t, hz⟩
  · exact key _ (Or.inl rfl) hz
  · exact key _ (Or.inr ⟨t, rfl⟩) hz
theorem st_chr : ∀ i, i < 21 → ∀ k, k < 10 → k < st_len.getD i 0 → ((((st_byt.getD i []).getD k 0) &&& (Int16.ofInt 255).toInt32).toUInt32 % 65536).toInt32 = Int32.ofInt ((s1_st i).getD k 0) ∧ narrow .char (.int (Int32.ofInt ((s1_st i).getD k 0))) = .int (Int32.ofInt ((s1_st i).getD k 0)) := by decide +kernel
theorem st_len10 : ∀ i, i < 21 → st_len.getD i 0 < 10 ∧ (s1_st i).length = st_len.getD i 0 := by decide +kernel
set_option maxHeartbeats 2000000 in
theorem st_lc {k : Nat} (hi : i < 21) (hk : k < st_len.getD i 0) : Met l st_y_lc st_w_lc (st_rm 3 70) (st_P ad adV [.ref (adV i), .int (nI k)]) (vp_Si (fun r => r = Int32.ofInt ((s1_st i).getD k 0))) 0 0 (fun _ => False) := by
  refine Met.ofW (cc := st_b_lc) (maxL := 2) (ret := some .char) (by decide) rfl ?_
  intro p e s m args below meth c s₁ B hml hv
  obtain ⟨rfl, hX⟩ := hv
  have hx := B.exec
  have hb := B.bytes
  have hr := B.returns
  have hts0 := atoms_spec (ws := st_w_lc) B.pre
  have hts : ∀ w ∈ aAW, w.before _ s = true := fun w hw => hts0 w (List.mem_cons_of_mem _ hw)
  have hown : s.vm.findClass "java/lang/StringLatin1" = some m.cls := findClass_of_methodNamed B.named
  have hlocks := B.notSynchronized
  have hS : va_S (st_F ad) s.heap s.heap [] := va_S.rf
  have hl := lv_entry ([.ref (adV i), .int (nI k)]) (n := 2) (Nat.le_of_ble_eq_true rfl)
  rw [lg_entry_eq]
  generalize (lg_sl ([.ref (adV i), .int (nI k)]) ++ List.replicate (2 - (lg_sl ([.ref (adV i), .int (nI k)])).length) Slot.unset).toArray = ls at hl ⊢
  have hl : lv_has ls 2 [(0, .ref (adV i)), (1, .int (nI k))] := hl
  have hlt := (st_len10 i hi).1
  have hcl : (nI k).toNatClampNeg = k := nI_clamp (by omega)
  obtain ⟨c1, c2⟩ := st_chr i hi k (by omega) hk
  refine lv_iload_n hx hb st_d_lc_0 rfl (lv_at hl 1 rfl) ?_
  refine lv_aload_n hx hb st_d_lc_1 rfl (lv_at hl 0 rfl) ?_
  refine va_tlen (v := nI (st_len.getD i 0)) hx hb (hX.1.1 i hi).2.2.2 hS rfl st_d_lc_2 ?_
  refine st_callV (a := #[]) (W.runS (As := [.int (nI k), .int (nI (st_len.getD i 0))]) (rest := []) ⟨hx, hb, hml, hown, hts⟩ (st_sc (ad := ad) (adV := adV) hk (by omega)) ⟨⟨rfl, rfl, Nat.le_of_ble_eq_true rfl, Nat.le_of_ble_eq_true rfl, pay_in hts (st_good st_c_sc), List.mem_cons_self, hts _ st_c_sc, hts _ st_n_S, ⟨by decide, by decide⟩, fun sig h => (by
    have h2 : (parseMethodDescriptor st_y_sc.desc).map (fun d => d.parameters.length) = some 2 := by decide +kernel
    rw [h] at h2
    exact (Option.some.inj h2).symm), hts _ st_l_sc⟩, hts _ st_s_sc⟩ ⟨st_blind ad adV _, fun U hU hW => ⟨rfl, by show st_X ad adV U U.heap; rw [hU]; exact st_X_moved hW.alike hX⟩⟩ rfl rfl hl.1 rfl (lv_room (Nat.le_of_ble_eq_true rfl)) st_d_lc_3 ⟨Nat.le_refl _, Nat.le_refl _⟩) ?_
  refine lv_aload_n hx hb st_d_lc_6 rfl (lv_at hl 0 rfl) ?_
  refine lv_iload_n hx hb st_d_lc_7 rfl (lv_at hl 1 rfl) ?_
  refine va_tb hx hb (hX.1.1 i hi).2.2.2 hS (vp_in_nI hk (by omega)) (v := .int ((st_byt.getD i []).getD k 0)) (by rw [hcl]) st_d_lc_8 ?_
  refine lv_sipush (v := (Int16.ofInt 255).toInt32) hx hb st_d_lc_9 rfl ?_
  refine lv_iand hx hb st_d_lc_12 ?_
  refine lv_i2c hx hb st_d_lc_13 c1 ?_
  exact W.zret hx hb hr c2 (fun t ht _ => ⟨_, rfl, rfl, ht⟩) (fun q h => by cases h) st_d_lc_14 hlocks
set_option maxHeartbeats 2000000 in
theorem st_ch {k : Nat} (hi : i < 21) (hk : k < st_len.getD i 0) : Met l st_y_ch st_w_ch (st_rm 4 100) (st_P ad adV [.ref (ad (5000 + i)), .int (nI k)]) (vp_Si (fun r => r = Int32.ofInt ((s1_st i).getD k 0))) 0 0 (fun _ => False) := by
  refine Met.ofW (cc := st_b_ch) (maxL := 2) (ret := some .char) (by decide) rfl ?_
  intro p e s m args below meth c s₁ B hml hv
  obtain ⟨rfl, hX⟩ := hv
  have hx := B.exec
  have hb := B.bytes
  have hr := B.returns
  have hts0 := atoms_spec (ws := st_w_ch) B.pre
  have hts : ∀ w ∈ aAW, w.before _ s = true := fun w hw => hts0 w (List.mem_cons_of_mem _ hw)
  have hown : s.vm.findClass "java/lang/String" = some m.cls := findClass_of_methodNamed B.named
  have hlocks := B.notSynchronized
  have hS : va_S (st_F ad) s.heap s.heap [] := va_S.rf
  have hl := lv_entry ([.ref (ad (5000 + i)), .int (nI k)]) (n := 2) (Nat.le_of_ble_eq_true rfl)
  rw [lg_entry_eq]
  generalize (lg_sl ([.ref (ad (5000 + i)), .int (nI k)]) ++ List.replicate (2 - (lg_sl ([.ref (ad (5000 + i)), .int (nI k)])).length) Slot.unset).toArray = ls at hl ⊢
  have hl : lv_has ls 2 [(0, .ref (ad (5000 + i))), (1, .int (nI k))] := hl
  have hlt := (st_len10 i hi).1
  obtain ⟨c1, c2⟩ := st_chr i hi k (by omega) hk
  refine lv_aload_n hx hb st_d_ch_0 rfl (lv_at hl 0 rfl) ?_
  refine vp_callSi (W.runV (As := []) (rest := []) ⟨hx, hb, hml, hown, hts⟩ (st_la hi) ⟨⟨rfl, rfl, Nat.le_of_ble_eq_true rfl, Nat.le_of_ble_eq_true rfl, pay_in hts (st_good st_c_la), List.mem_cons_self, hts _ st_c_la, hts _ st_n_S, ⟨by decide, by decide⟩, fun sig h => (by
    have h2 : (parseMethodDescriptor st_y_la.desc).map (fun d => d.parameters.length) = some 0 := by decide +kernel
    rw [h] at h2
    exact (Option.some.inj h2).symm), hts _ st_l_la⟩, hts _ st_i_la, hts _ st_e_la⟩ ⟨st_blind ad adV _, vk_recv hX.1 hi hS, fun U hU hW => ⟨rfl, by show st_X ad adV U U.heap; rw [hU]; exact st_X_moved hW.alike hX⟩⟩ rfl rfl hl.1 rfl (lv_room (Nat.le_of_ble_eq_true rfl)) st_d_ch_1 ⟨Nat.le_refl _, Nat.le_refl _⟩) (fun r hr0 => ?_)
  subst hr0
  refine lv_if_eq (tgt := 16) hx hb st_d_ch_4 (by decide) (fun c => absurd c (by decide)) (fun _ => ?_)
  refine lv_aload_n hx hb st_d_ch_7 rfl (lv_at hl 0 rfl) ?_
  refine vk_getf hx hb (hX.1.1 i hi).2.2.1 hS hown (hts _ st_f9) (fun _ z => z) st_d_ch_8 ?_
  refine lv_iload_n hx hb st_d_ch_11 rfl (lv_at hl 1 rfl) ?_
  refine vp_callSi (W.runS (As := [.ref (adV i), .int (nI k)]) (rest := []) ⟨hx, hb, hml, hown, hts⟩ (st_lc (ad := ad) hi hk) ⟨⟨rfl, rfl, Nat.le_of_ble_eq_true rfl, Nat.le_of_ble_eq_true rfl, pay_in hts (st_good st_c_lc), List.mem_cons_self, hts _ st_c_lc, hts _ st_n_L, ⟨by decide, by decide⟩, fun sig h => (by
    have h2 : (parseMethodDescriptor st_y_lc.desc).map (fun d => d.parameters.length) = some 2 := by decide +kernel
    rw [h] at h2
    exact (Option.some.inj h2).symm), hts _ st_l_lc⟩, hts _ st_s_lc⟩ ⟨st_blind ad adV _, fun U hU hW => ⟨rfl, by show st_X ad adV U U.heap; rw [hU]; exact st_X_moved hW.alike hX⟩⟩ rfl rfl hl.1 rfl (lv_room (Nat.le_of_ble_eq_true rfl)) st_d_ch_12 ⟨Nat.le_refl _, Nat.le_refl _⟩) (fun r hr0 => ?_)
  subst hr0
  exact W.zret hx hb hr c2 (fun t ht _ => ⟨_, rfl, rfl, ht⟩) (fun q h => by cases h) st_d_ch_15 hlocks
end STR
set_option maxHeartbeats 2000000 in
theorem st_str (l : Launch) {ad adV : Nat → Nat} {cA : Nat → ClassId} {D : va_G} : aStr s1_G ad cA 205 21 D wCl s1_cn s1_bc aAW s1_AN s1_zs s1_sk (st_X ad adV) l := by
  intro y d Q p e s m args below meth c hC pc i k rest H locs lsC hdg hk hcat hsz hS
  obtain ⟨hx, hb, hr, hml, hown, hts, hlk, hX⟩ := hC
  have hXs := hX.2.2.2.2.2
  have hXH : ∀ U : State, U.heap = H → s.WarmedH U.vm → st_X ad adV U U.heap := fun U hU hW => by
    rw [hU]
    exact st_X_moved hW.alike (st_X_kept hXs hS.2.1)
  have hrv : ∃ cell : Cell, H[ad (5000 + k)]? = some cell ∧ cell.vm.isStatics = false ∧ s.vm.findClass "java/lang/String" = some cell.cls := by
    have q := vk_recv hXs.1 hk hS
    exact q
  obtain ⟨l1, l2⟩ := st_len10 k hk
  refine ⟨fun hl kk => ?_, fun z hz hl kk => ?_⟩
  · refine vp_callSi (W.runV (As := []) (rest := rest) ⟨hx, hb, hml, hown, hts⟩ (st_le (ad := ad) (adV := adV) hk) ⟨⟨rfl, rfl, by simp only [st_rm, aRoom]; omega, by simp only [st_rm, aRoom]; omega, pay_in hts (st_good st_c_le), List.mem_cons_self, hts _ st_c_le, hts _ st_n_S, ⟨by decide, by decide⟩, fun sig h => (by
      have h2 : (parseMethodDescriptor st_y_le.desc).map (fun d => d.parameters.length) = some 0 := by decide +kernel
      rw [h] at h2
      exact (Option.some.inj h2).symm), hts _ hl⟩, hts _ st_i_le, hts _ st_e_le⟩ ⟨st_blind ad adV _, hrv, fun U hU hW => ⟨rfl, hXH U hU hW⟩⟩ rfl rfl hsz rfl (lv_room hcat) hdg ⟨Nat.zero_le _, Nat.zero_le _⟩) (fun r hr0 => ?_)
    subst hr0
    have e : Int32.ofNat (st_len.getD k 0) = Int32.ofInt ((s1_G.2.2.2 k).length : Nat) := by
      rw [show (s1_G.2.2.2 k).length = st_len.getD k 0 from l2]
      rfl
    rw [e]
    exact kk locs hS
  · have hz2 : z.toNat < st_len.getD k 0 := by
      have := hz.2
      rw [show (s1_G.2.2.2 k).length = st_len.getD k 0 from l2] at this
      omega
    have e : Int32.ofInt z = nI z.toNat := by
      unfold nI
      apply Int32.toInt_inj.mp
      rw [a32_t ⟨by omega, by omega⟩, Int32.toInt_ofNat_of_lt (by omega)]
      omega
    rw [e]
    refine vp_callSi (W.runV (As := [.int (nI z.toNat)]) (rest := rest) ⟨hx, hb, hml, hown, hts⟩ (st_ch (ad := ad) (adV := adV) hk hz2) ⟨⟨rfl, rfl, by simp only [st_rm, aRoom]; omega, by simp only [st_rm, aRoom]; omega, pay_in hts (st_good st_c_ch), List.mem_cons_self, hts _ st_c_ch, hts _ st_n_S, ⟨by decide, by decide⟩, fun sig h => (by
      have h2 : (parseMethodDescriptor st_y_ch.desc).map (fun d => d.parameters.length) = some 1 := by decide +kernel
      rw [h] at h2
      exact (Option.some.inj h2).symm), hts _ hl⟩, hts _ st_i_ch, hts _ st_e_ch⟩ ⟨st_blind ad adV _, hrv, fun U hU hW => ⟨rfl, hXH U hU hW⟩⟩ rfl rfl hsz rfl (lv_room hcat) hdg ⟨Nat.zero_le _, Nat.zero_le _⟩) (fun r hr0 => ?_)
    subst hr0
    exact kk locs hS

