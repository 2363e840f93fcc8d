/-! the law: cases 20 to 23 -/
section LWK
variable {p : Program} {l : Launch} {e : Env} {s : State} {m : MethodId} {below : List Frame} {meth : Method} {c : Code} {b L : Nat} {xs : Nat → Int32} {ad1 ad2 adV : Nat → Nat} {cA : Nat → ClassId} {D : va_G} {Rel : AM → AM → Prop} {A : Nat → Prop} {QQ : State → Prop}

set_option maxHeartbeats 4000000 in
set_option maxRecDepth 100000 in
theorem lw_case20 (hx : p.tables.exec = Jvm.exec) (hb : c.code = code) (hml : c.maxLocals = 4) (hown : s.vm.findClass "DioceseBookLaw" = some m.cls) (hts : ∀ w ∈ lw_tbl, w.before #[Value.ref b] s = true) (hX : va_X b L xs s s.heap) (hbl : b < s.heap.size) (hA : ∀ q, A q ↔ s.heap.size ≤ q) (hY : lwY ad1 ad2 adV cA D s) (hsim : lwSims Rel) {n : Nat} (hn : n + 7 ≤ L) (hL : L ≤ 3584) {H : Heap} {locs : List Loc} {ls : Array Slot} {M1 M2 : AM} (hI : lwI ad1 ad2 cA D A s b (ad1 0) (ad2 0) n M1 M2 H locs ls) (hR : Rel M1 M2)
    (kk : ∀ (H1 : Heap) (locs1 : List Loc) (M1' M2' : AM), lwI ad1 ad2 cA D A s b (ad1 0) (ad2 0) n M1' M2' H1 locs1 ls → Rel M1' M2' → W p l e room_1 s m #[Value.ref b] below meth c H1 locs1 600000 7302250 QQ (F0 m 1484 ls [])) : W p l e room_1 s m #[Value.ref b] below meth c H locs 600000 7302250 QQ (F0 m 978 ls []) := by
  obtain ⟨hl, hP1, hP2, hM1, hM2, hS⟩ := id hI
  have hbA : ¬ A b := fun z => by have := (hA b).mp z; omega
  obtain ⟨K1, K2, hE1, hE2, hEq⟩ := (hsim.2.2.2.2.2.2.2.2.2.2.2.2.2.2.2.2.2.2.2.2.1 _ _ _ (aR32_of _) (aR32_of _) (aR32_of _) : lwSim Rel 128 80 [aI ((xs (n + 1)).toInt), aI ((xs (n + 2)).toInt), aI ((xs (n + 3)).toInt)]) M1 M2 hR
  refine lv_aload_n hx hb dl_978 rfl (lv_at hl 2 rfl) ?_
  refine lv_aload_n hx hb dl_979 rfl (lv_at hl 3 rfl) ?_
  refine lv_iload_n hx hb dl_980 rfl (lv_at hl 0 rfl) ?_
  refine lv_iconst (v := nI 1) hx hb dl_981 (by decide) ?_
  refine lv_iadd hx hb dl_982 ?_
  refine va_sld hx hb hX hbl hbA hS (by rw [nI_add]; exact vp_in_nI (by omega) (by omega)) dl_983 ?_
  rw [nI_add, nI_clamp (show n + 1 < 2 ^ 31 by omega)]
  refine lv_aload_n hx hb dl_984 rfl (lv_at hl 3 rfl) ?_
  refine lv_iload_n hx hb dl_985 rfl (lv_at hl 0 rfl) ?_
  refine lv_iconst (v := nI 2) hx hb dl_986 (by decide) ?_
  refine lv_iadd hx hb dl_987 ?_
  refine va_sld hx hb hX hbl hbA hS (by rw [nI_add]; exact vp_in_nI (by omega) (by omega)) dl_988 ?_
  rw [nI_add, nI_clamp (show n + 2 < 2 ^ 31 by omega)]
  refine lv_aload_n hx hb dl_989 rfl (lv_at hl 3 rfl) ?_
  refine lv_iload_n hx hb dl_990 rfl (lv_at hl 0 rfl) ?_
  refine lv_iconst (v := nI 3) hx hb dl_991 (by decide) ?_
  refine lv_iadd hx hb dl_992 ?_
  refine va_sld hx hb hX hbl hbA hS (by rw [nI_add]; exact vp_in_nI (by omega) (by omega)) dl_993 ?_
  rw [nI_add, nI_clamp (show n + 3 < 2 ^ 31 by omega)]
  refine lw_call (hY.1.1) (st_str l) s1_sb hx hb hml hown hts hY.1.2.1 hP1 hS hA hY.1.2.2 hM1 hE1 (by omega) (by decide) (q := 0) rfl rfl rfl (n := 3) rfl (by decide +kernel) (lw_mem 1147 _ (by decide +kernel)) (by intro v hv; simp only [List.mem_cons, List.not_mem_nil, or_false] at hv; rcases hv with rfl | rfl | rfl <;> first | exact aR32_of _ | exact aR64_of _) (rest := []) (by simp only [List.map_cons, List.map_nil, acv, a32_o, lwLong_o]; rfl) hl.1 (Nat.zero_le _) dl_994 ⟨Nat.le_refl _, Nat.le_refl _⟩ (fun z1 M1' H1 locs1 hk1 hz1 hM1 hP1 hkp1 hS => ?_)
  have hP2 := lw_keep hY.2.2.1 hP2 hkp1
  refine lv_aload_n hx hb dl_997 rfl (lv_at hl 1 rfl) ?_
  refine lv_aload_n hx hb dl_998 rfl (lv_at hl 3 rfl) ?_
  refine lv_iload_n hx hb dl_999 rfl (lv_at hl 0 rfl) ?_
  refine lv_iconst (v := nI 1) hx hb dl_1000 (by decide) ?_
  refine lv_iadd hx hb dl_1001 ?_
  refine va_sld hx hb hX hbl hbA hS (by rw [nI_add]; exact vp_in_nI (by omega) (by omega)) dl_1002 ?_
  rw [nI_add, nI_clamp (show n + 1 < 2 ^ 31 by omega)]
  refine lv_aload_n hx hb dl_1003 rfl (lv_at hl 3 rfl) ?_
  refine lv_iload_n hx hb dl_1004 rfl (lv_at hl 0 rfl) ?_
  refine lv_iconst (v := nI 2) hx hb dl_1005 (by decide) ?_
  refine lv_iadd hx hb dl_1006 ?_
  refine va_sld hx hb hX hbl hbA hS (by rw [nI_add]; exact vp_in_nI (by omega) (by omega)) dl_1007 ?_
  rw [nI_add, nI_clamp (show n + 2 < 2 ^ 31 by omega)]
  refine lv_aload_n hx hb dl_1008 rfl (lv_at hl 3 rfl) ?_
  refine lv_iload_n hx hb dl_1009 rfl (lv_at hl 0 rfl) ?_
  refine lv_iconst (v := nI 3) hx hb dl_1010 (by decide) ?_
  refine lv_iadd hx hb dl_1011 ?_
  refine va_sld hx hb hX hbl hbA hS (by rw [nI_add]; exact vp_in_nI (by omega) (by omega)) dl_1012 ?_
  rw [nI_add, nI_clamp (show n + 3 < 2 ^ 31 by omega)]
  refine lw_call (hY.2.1.1) (st_str2 l) s2_sb hx hb hml hown hts hY.2.1.2.1 hP2 hS hA hY.2.1.2.2 hM2 hE2 (by omega) (by decide) (q := 0) rfl rfl rfl (n := 3) rfl (by decide +kernel) (lw_mem 1991 _ (by decide +kernel)) (by intro v hv; simp only [List.mem_cons, List.not_mem_nil, or_false] at hv; rcases hv with rfl | rfl | rfl <;> first | exact aR32_of _ | exact aR64_of _) (rest := [.int (Int32.ofInt z1)]) (by simp only [List.map_cons, List.map_nil, acv, a32_o, lwLong_o]; rfl) hl.1 (Nat.le_of_ble_eq_true rfl) dl_1013 ⟨Nat.le_refl _, Nat.le_refl _⟩ (fun z2 M2' H2 locs2 hk2 hz2 hM2 hP2 hkp2 hS => ?_)
  have hP1 := lw_keep hY.2.2.2 hP1 hkp2
  obtain ⟨hzz, hR2⟩ := hEq z1 M1' z2 M2' hk1 hk2
  exact lv_icmp_eq (tgt := 1484) hx hb dl_1016 (by decide) (fun _ => kk _ _ _ _ ⟨hl, hP1, hP2, hM1, hM2, hS⟩ hR2) (fun z => absurd (by rw [hzz]) z)
set_option maxHeartbeats 4000000 in
set_option maxRecDepth 100000 in
theorem lw_case21 (hx : p.tables.exec = Jvm.exec) (hb : c.code = code) (hml : c.maxLocals = 4) (hown : s.vm.findClass "DioceseBookLaw" = some m.cls) (hts : ∀ w ∈ lw_tbl, w.before #[Value.ref b] s = true) (hX : va_X b L xs s s.heap) (hbl : b < s.heap.size) (hA : ∀ q, A q ↔ s.heap.size ≤ q) (hY : lwY ad1 ad2 adV cA D s) (hsim : lwSims Rel) {n : Nat} (hn : n + 7 ≤ L) (hL : L ≤ 3584) {H : Heap} {locs : List Loc} {ls : Array Slot} {M1 M2 : AM} (hI : lwI ad1 ad2 cA D A s b (ad1 0) (ad2 0) n M1 M2 H locs ls) (hR : Rel M1 M2)
    (kk : ∀ (H1 : Heap) (locs1 : List Loc) (M1' M2' : AM), lwI ad1 ad2 cA D A s b (ad1 0) (ad2 0) n M1' M2' H1 locs1 ls → Rel M1' M2' → W p l e room_1 s m #[Value.ref b] below meth c H1 locs1 600000 7302250 QQ (F0 m 1484 ls [])) : W p l e room_1 s m #[Value.ref b] below meth c H locs 600000 7302250 QQ (F0 m 1021 ls []) := by
  obtain ⟨hl, hP1, hP2, hM1, hM2, hS⟩ := id hI
  have hbA : ¬ A b := fun z => by have := (hA b).mp z; omega
  obtain ⟨K1, K2, hE1, hE2, hEq⟩ := (hsim.2.2.2.2.2.2.2.2.2.2.2.2.2.2.2.2.2.2.2.2.2.1 _ _ _ (aR32_of _) (aR32_of _) (aR32_of _) : lwSim Rel 129 83 [aI ((xs (n + 1)).toInt), aI ((xs (n + 2)).toInt), aI ((xs (n + 3)).toInt)]) M1 M2 hR
  refine lv_aload_n hx hb dl_1021 rfl (lv_at hl 2 rfl) ?_
  refine lv_aload_n hx hb dl_1022 rfl (lv_at hl 3 rfl) ?_
  refine lv_iload_n hx hb dl_1023 rfl (lv_at hl 0 rfl) ?_
  refine lv_iconst (v := nI 1) hx hb dl_1024 (by decide) ?_
  refine lv_iadd hx hb dl_1025 ?_
  refine va_sld hx hb hX hbl hbA hS (by rw [nI_add]; exact vp_in_nI (by omega) (by omega)) dl_1026 ?_
  rw [nI_add, nI_clamp (show n + 1 < 2 ^ 31 by omega)]
  refine lv_aload_n hx hb dl_1027 rfl (lv_at hl 3 rfl) ?_
  refine lv_iload_n hx hb dl_1028 rfl (lv_at hl 0 rfl) ?_
  refine lv_iconst (v := nI 2) hx hb dl_1029 (by decide) ?_
  refine lv_iadd hx hb dl_1030 ?_
  refine va_sld hx hb hX hbl hbA hS (by rw [nI_add]; exact vp_in_nI (by omega) (by omega)) dl_1031 ?_
  rw [nI_add, nI_clamp (show n + 2 < 2 ^ 31 by omega)]
  refine lv_aload_n hx hb dl_1032 rfl (lv_at hl 3 rfl) ?_
  refine lv_iload_n hx hb dl_1033 rfl (lv_at hl 0 rfl) ?_
  refine lv_iconst (v := nI 3) hx hb dl_1034 (by decide) ?_
  refine lv_iadd hx hb dl_1035 ?_
  refine va_sld hx hb hX hbl hbA hS (by rw [nI_add]; exact vp_in_nI (by omega) (by omega)) dl_1036 ?_
  rw [nI_add, nI_clamp (show n + 3 < 2 ^ 31 by omega)]
  refine lw_call (hY.1.1) (st_str l) s1_sb hx hb hml hown hts hY.1.2.1 hP1 hS hA hY.1.2.2 hM1 hE1 (by omega) (by decide) (q := 0) rfl rfl rfl (n := 3) rfl (by decide +kernel) (lw_mem 1151 _ (by decide +kernel)) (by intro v hv; simp only [List.mem_cons, List.not_mem_nil, or_false] at hv; rcases hv with rfl | rfl | rfl <;> first | exact aR32_of _ | exact aR64_of _) (rest := []) (by simp only [List.map_cons, List.map_nil, acv, a32_o, lwLong_o]; rfl) hl.1 (Nat.zero_le _) dl_1037 ⟨Nat.le_refl _, Nat.le_refl _⟩ (fun z1 M1' H1 locs1 hk1 hz1 hM1 hP1 hkp1 hS => ?_)
  have hP2 := lw_keep hY.2.2.1 hP2 hkp1
  refine lv_aload_n hx hb dl_1040 rfl (lv_at hl 1 rfl) ?_
  refine lv_aload_n hx hb dl_1041 rfl (lv_at hl 3 rfl) ?_
  refine lv_iload_n hx hb dl_1042 rfl (lv_at hl 0 rfl) ?_
  refine lv_iconst (v := nI 1) hx hb dl_1043 (by decide) ?_
  refine lv_iadd hx hb dl_1044 ?_
  refine va_sld hx hb hX hbl hbA hS (by rw [nI_add]; exact vp_in_nI (by omega) (by omega)) dl_1045 ?_
  rw [nI_add, nI_clamp (show n + 1 < 2 ^ 31 by omega)]
  refine lv_aload_n hx hb dl_1046 rfl (lv_at hl 3 rfl) ?_
  refine lv_iload_n hx hb dl_1047 rfl (lv_at hl 0 rfl) ?_
  refine lv_iconst (v := nI 2) hx hb dl_1048 (by decide) ?_
  refine lv_iadd hx hb dl_1049 ?_
  refine va_sld hx hb hX hbl hbA hS (by rw [nI_add]; exact vp_in_nI (by omega) (by omega)) dl_1050 ?_
  rw [nI_add, nI_clamp (show n + 2 < 2 ^ 31 by omega)]
  refine lv_aload_n hx hb dl_1051 rfl (lv_at hl 3 rfl) ?_
  refine lv_iload_n hx hb dl_1052 rfl (lv_at hl 0 rfl) ?_
  refine lv_iconst (v := nI 3) hx hb dl_1053 (by decide) ?_
  refine lv_iadd hx hb dl_1054 ?_
  refine va_sld hx hb hX hbl hbA hS (by rw [nI_add]; exact vp_in_nI (by omega) (by omega)) dl_1055 ?_
  rw [nI_add, nI_clamp (show n + 3 < 2 ^ 31 by omega)]
  refine lw_call (hY.2.1.1) (st_str2 l) s2_sb hx hb hml hown hts hY.2.1.2.1 hP2 hS hA hY.2.1.2.2 hM2 hE2 (by omega) (by decide) (q := 0) rfl rfl rfl (n := 3) rfl (by decide +kernel) (lw_mem 2003 _ (by decide +kernel)) (by intro v hv; simp only [List.mem_cons, List.not_mem_nil, or_false] at hv; rcases hv with rfl | rfl | rfl <;> first | exact aR32_of _ | exact aR64_of _) (rest := [.int (Int32.ofInt z1)]) (by simp only [List.map_cons, List.map_nil, acv, a32_o, lwLong_o]; rfl) hl.1 (Nat.le_of_ble_eq_true rfl) dl_1056 ⟨Nat.le_refl _, Nat.le_refl _⟩ (fun z2 M2' H2 locs2 hk2 hz2 hM2 hP2 hkp2 hS => ?_)
  have hP1 := lw_keep hY.2.2.2 hP1 hkp2
  obtain ⟨hzz, hR2⟩ := hEq z1 M1' z2 M2' hk1 hk2
  exact lv_icmp_eq (tgt := 1484) hx hb dl_1059 (by decide) (fun _ => kk _ _ _ _ ⟨hl, hP1, hP2, hM1, hM2, hS⟩ hR2) (fun z => absurd (by rw [hzz]) z)
set_option maxHeartbeats 4000000 in
set_option maxRecDepth 100000 in
theorem lw_case22 (hx : p.tables.exec = Jvm.exec) (hb : c.code = code) (hml : c.maxLocals = 4) (hown : s.vm.findClass "DioceseBookLaw" = some m.cls) (hts : ∀ w ∈ lw_tbl, w.before #[Value.ref b] s = true) (hX : va_X b L xs s s.heap) (hbl : b < s.heap.size) (hA : ∀ q, A q ↔ s.heap.size ≤ q) (hY : lwY ad1 ad2 adV cA D s) (hsim : lwSims Rel) {n : Nat} (hn : n + 7 ≤ L) (hL : L ≤ 3584) {H : Heap} {locs : List Loc} {ls : Array Slot} {M1 M2 : AM} (hI : lwI ad1 ad2 cA D A s b (ad1 0) (ad2 0) n M1 M2 H locs ls) (hR : Rel M1 M2)
    (kk : ∀ (H1 : Heap) (locs1 : List Loc) (M1' M2' : AM), lwI ad1 ad2 cA D A s b (ad1 0) (ad2 0) n M1' M2' H1 locs1 ls → Rel M1' M2' → W p l e room_1 s m #[Value.ref b] below meth c H1 locs1 600000 7302250 QQ (F0 m 1484 ls [])) : W p l e room_1 s m #[Value.ref b] below meth c H locs 600000 7302250 QQ (F0 m 1064 ls []) := by
  obtain ⟨hl, hP1, hP2, hM1, hM2, hS⟩ := id hI
  have hbA : ¬ A b := fun z => by have := (hA b).mp z; omega
  obtain ⟨K1, K2, hE1, hE2, hEq⟩ := (hsim.2.2.2.2.2.2.2.2.2.2.2.2.2.2.2.2.2.2.2.2.2.2.1 _ _ (aR32_of _) (aR32_of _) : lwSim Rel 130 85 [aI ((xs (n + 1)).toInt), aI ((xs (n + 2)).toInt)]) M1 M2 hR
  refine lv_aload_n hx hb dl_1064 rfl (lv_at hl 2 rfl) ?_
  refine lv_aload_n hx hb dl_1065 rfl (lv_at hl 3 rfl) ?_
  refine lv_iload_n hx hb dl_1066 rfl (lv_at hl 0 rfl) ?_
  refine lv_iconst (v := nI 1) hx hb dl_1067 (by decide) ?_
  refine lv_iadd hx hb dl_1068 ?_
  refine va_sld hx hb hX hbl hbA hS (by rw [nI_add]; exact vp_in_nI (by omega) (by omega)) dl_1069 ?_
  rw [nI_add, nI_clamp (show n + 1 < 2 ^ 31 by omega)]
  refine lv_aload_n hx hb dl_1070 rfl (lv_at hl 3 rfl) ?_
  refine lv_iload_n hx hb dl_1071 rfl (lv_at hl 0 rfl) ?_
  refine lv_iconst (v := nI 2) hx hb dl_1072 (by decide) ?_
  refine lv_iadd hx hb dl_1073 ?_
  refine va_sld hx hb hX hbl hbA hS (by rw [nI_add]; exact vp_in_nI (by omega) (by omega)) dl_1074 ?_
  rw [nI_add, nI_clamp (show n + 2 < 2 ^ 31 by omega)]
  refine lw_call (hY.1.1) (st_str l) s1_sb hx hb hml hown hts hY.1.2.1 hP1 hS hA hY.1.2.2 hM1 hE1 (by omega) (by decide) (q := 0) rfl rfl rfl (n := 2) rfl (by decide +kernel) (lw_mem 1160 _ (by decide +kernel)) (by intro v hv; simp only [List.mem_cons, List.not_mem_nil, or_false] at hv; rcases hv with rfl | rfl <;> first | exact aR32_of _ | exact aR64_of _) (rest := []) (by simp only [List.map_cons, List.map_nil, acv, a32_o, lwLong_o]; rfl) hl.1 (Nat.zero_le _) dl_1075 ⟨Nat.le_refl _, Nat.le_refl _⟩ (fun z1 M1' H1 locs1 hk1 hz1 hM1 hP1 hkp1 hS => ?_)
  have hP2 := lw_keep hY.2.2.1 hP2 hkp1
  refine lv_aload_n hx hb dl_1078 rfl (lv_at hl 1 rfl) ?_
  refine lv_aload_n hx hb dl_1079 rfl (lv_at hl 3 rfl) ?_
  refine lv_iload_n hx hb dl_1080 rfl (lv_at hl 0 rfl) ?_
  refine lv_iconst (v := nI 1) hx hb dl_1081 (by decide) ?_
  refine lv_iadd hx hb dl_1082 ?_
  refine va_sld hx hb hX hbl hbA hS (by rw [nI_add]; exact vp_in_nI (by omega) (by omega)) dl_1083 ?_
  rw [nI_add, nI_clamp (show n + 1 < 2 ^ 31 by omega)]
  refine lv_aload_n hx hb dl_1084 rfl (lv_at hl 3 rfl) ?_
  refine lv_iload_n hx hb dl_1085 rfl (lv_at hl 0 rfl) ?_
  refine lv_iconst (v := nI 2) hx hb dl_1086 (by decide) ?_
  refine lv_iadd hx hb dl_1087 ?_
  refine va_sld hx hb hX hbl hbA hS (by rw [nI_add]; exact vp_in_nI (by omega) (by omega)) dl_1088 ?_
  rw [nI_add, nI_clamp (show n + 2 < 2 ^ 31 by omega)]
  refine lw_call (hY.2.1.1) (st_str2 l) s2_sb hx hb hml hown hts hY.2.1.2.1 hP2 hS hA hY.2.1.2.2 hM2 hE2 (by omega) (by decide) (q := 0) rfl rfl rfl (n := 2) rfl (by decide +kernel) (lw_mem 2007 _ (by decide +kernel)) (by intro v hv; simp only [List.mem_cons, List.not_mem_nil, or_false] at hv; rcases hv with rfl | rfl <;> first | exact aR32_of _ | exact aR64_of _) (rest := [.int (Int32.ofInt z1)]) (by simp only [List.map_cons, List.map_nil, acv, a32_o, lwLong_o]; rfl) hl.1 (Nat.le_of_ble_eq_true rfl) dl_1089 ⟨Nat.le_refl _, Nat.le_refl _⟩ (fun z2 M2' H2 locs2 hk2 hz2 hM2 hP2 hkp2 hS => ?_)
  have hP1 := lw_keep hY.2.2.2 hP1 hkp2
  obtain ⟨hzz, hR2⟩ := hEq z1 M1' z2 M2' hk1 hk2
  exact lv_icmp_eq (tgt := 1484) hx hb dl_1092 (by decide) (fun _ => kk _ _ _ _ ⟨hl, hP1, hP2, hM1, hM2, hS⟩ hR2) (fun z => absurd (by rw [hzz]) z)
set_option maxHeartbeats 4000000 in
set_option maxRecDepth 100000 in
theorem lw_case23 (hx : p.tables.exec = Jvm.exec) (hb : c.code = code) (hml : c.maxLocals = 4) (hown : s.vm.findClass "DioceseBookLaw" = some m.cls) (hts : ∀ w ∈ lw_tbl, w.before #[Value.ref b] s = true) (hX : va_X b L xs s s.heap) (hbl : b < s.heap.size) (hA : ∀ q, A q ↔ s.heap.size ≤ q) (hY : lwY ad1 ad2 adV cA D s) (hsim : lwSims Rel) {n : Nat} (hn : n + 7 ≤ L) (hL : L ≤ 3584) {H : Heap} {locs : List Loc} {ls : Array Slot} {M1 M2 : AM} (hI : lwI ad1 ad2 cA D A s b (ad1 0) (ad2 0) n M1 M2 H locs ls) (hR : Rel M1 M2)
    (kk : ∀ (H1 : Heap) (locs1 : List Loc) (M1' M2' : AM), lwI ad1 ad2 cA D A s b (ad1 0) (ad2 0) n M1' M2' H1 locs1 ls → Rel M1' M2' → W p l e room_1 s m #[Value.ref b] below meth c H1 locs1 600000 7302250 QQ (F0 m 1484 ls [])) : W p l e room_1 s m #[Value.ref b] below meth c H locs 600000 7302250 QQ (F0 m 1097 ls []) := by
  obtain ⟨hl, hP1, hP2, hM1, hM2, hS⟩ := id hI
  have hbA : ¬ A b := fun z => by have := (hA b).mp z; omega
  obtain ⟨K1, K2, hE1, hE2, hEq⟩ := (hsim.2.2.2.2.2.2.2.2.2.2.2.2.2.2.2.2.2.2.2.2.2.2.2.1 _ _ (aR32_of _) (aR32_of _) : lwSim Rel 131 86 [aI ((xs (n + 1)).toInt), aI ((xs (n + 2)).toInt)]) M1 M2 hR
  refine lv_aload_n hx hb dl_1097 rfl (lv_at hl 2 rfl) ?_
  refine lv_aload_n hx hb dl_1098 rfl (lv_at hl 3 rfl) ?_
  refine lv_iload_n hx hb dl_1099 rfl (lv_at hl 0 rfl) ?_
  refine lv_iconst (v := nI 1) hx hb dl_1100 (by decide) ?_
  refine lv_iadd hx hb dl_1101 ?_
  refine va_sld hx hb hX hbl hbA hS (by rw [nI_add]; exact vp_in_nI (by omega) (by omega)) dl_1102 ?_
  rw [nI_add, nI_clamp (show n + 1 < 2 ^ 31 by omega)]
  refine lv_aload_n hx hb dl_1103 rfl (lv_at hl 3 rfl) ?_
  refine lv_iload_n hx hb dl_1104 rfl (lv_at hl 0 rfl) ?_
  refine lv_iconst (v := nI 2) hx hb dl_1105 (by decide) ?_
  refine lv_iadd hx hb dl_1106 ?_
  refine va_sld hx hb hX hbl hbA hS (by rw [nI_add]; exact vp_in_nI (by omega) (by omega)) dl_1107 ?_
  rw [nI_add, nI_clamp (show n + 2 < 2 ^ 31 by omega)]
  refine lw_call (hY.1.1) (st_str l) s1_sb hx hb hml hown hts hY.1.2.1 hP1 hS hA hY.1.2.2 hM1 hE1 (by omega) (by decide) (q := 0) rfl rfl rfl (n := 2) rfl (by decide +kernel) (lw_mem 1181 _ (by decide +kernel)) (by intro v hv; simp only [List.mem_cons, List.not_mem_nil, or_false] at hv; rcases hv with rfl | rfl <;> first | exact aR32_of _ | exact aR64_of _) (rest := []) (by simp only [List.map_cons, List.map_nil, acv, a32_o, lwLong_o]; rfl) hl.1 (Nat.zero_le _) dl_1108 ⟨Nat.le_refl _, Nat.le_refl _⟩ (fun z1 M1' H1 locs1 hk1 hz1 hM1 hP1 hkp1 hS => ?_)
  have hP2 := lw_keep hY.2.2.1 hP2 hkp1
  refine lv_aload_n hx hb dl_1111 rfl (lv_at hl 1 rfl) ?_
  refine lv_aload_n hx hb dl_1112 rfl (lv_at hl 3 rfl) ?_
  refine lv_iload_n hx hb dl_1113 rfl (lv_at hl 0 rfl) ?_
  refine lv_iconst (v := nI 1) hx hb dl_1114 (by decide) ?_
  refine lv_iadd hx hb dl_1115 ?_
  refine va_sld hx hb hX hbl hbA hS (by rw [nI_add]; exact vp_in_nI (by omega) (by omega)) dl_1116 ?_
  rw [nI_add, nI_clamp (show n + 1 < 2 ^ 31 by omega)]
  refine lv_aload_n hx hb dl_1117 rfl (lv_at hl 3 rfl) ?_
  refine lv_iload_n hx hb dl_1118 rfl (lv_at hl 0 rfl) ?_
  refine lv_iconst (v := nI 2) hx hb dl_1119 (by decide) ?_
  refine lv_iadd hx hb dl_1120 ?_
  refine va_sld hx hb hX hbl hbA hS (by rw [nI_add]; exact vp_in_nI (by omega) (by omega)) dl_1121 ?_
  rw [nI_add, nI_clamp (show n + 2 < 2 ^ 31 by omega)]
  refine lw_call (hY.2.1.1) (st_str2 l) s2_sb hx hb hml hown hts hY.2.1.2.1 hP2 hS hA hY.2.1.2.2 hM2 hE2 (by omega) (by decide) (q := 0) rfl rfl rfl (n := 2) rfl (by decide +kernel) (lw_mem 2015 _ (by decide +kernel)) (by intro v hv; simp only [List.mem_cons, List.not_mem_nil, or_false] at hv; rcases hv with rfl | rfl <;> first | exact aR32_of _ | exact aR64_of _) (rest := [.int (Int32.ofInt z1)]) (by simp only [List.map_cons, List.map_nil, acv, a32_o, lwLong_o]; rfl) hl.1 (Nat.le_of_ble_eq_true rfl) dl_1122 ⟨Nat.le_refl _, Nat.le_refl _⟩ (fun z2 M2' H2 locs2 hk2 hz2 hM2 hP2 hkp2 hS => ?_)
  have hP1 := lw_keep hY.2.2.2 hP1 hkp2
  obtain ⟨hzz, hR2⟩ := hEq z1 M1' z2 M2' hk1 hk2
  exact lv_icmp_eq (tgt := 1484) hx hb dl_1125 (by decide) (fun _ => kk _ _ _ _ ⟨hl, hP1, hP2, hM1, hM2, hS⟩ hR2) (fun z => absurd (by rw [hzz]) z)
end LWK
