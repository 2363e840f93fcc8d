/-! the law: cases 8 to 11 -/
section LWK
variable {p : Program} {l : Launch} {e : Env} {s : State} {m : MethodId} {below : List Frame} {meth : Method} {c : Code} {b L : Nat} {xs : Nat → Int32} {ad1 ad2 adV : Nat → Nat} {cA : Nat → ClassId} {D : va_G} {Rel : AM → AM → Prop} {A : Nat → Prop} {QQ : State → Prop}

set_option maxHeartbeats 4000000 in
set_option maxRecDepth 100000 in
theorem lw_case8 (hx : p.tables.exec = Jvm.exec) (hb : c.code = code) (hml : c.maxLocals = 4) (hown : s.vm.findClass "DioceseBookLaw" = some m.cls) (hts : ∀ w ∈ lw_tbl, w.before #[Value.ref b] s = true) (hX : va_X b L xs s s.heap) (hbl : b < s.heap.size) (hA : ∀ q, A q ↔ s.heap.size ≤ q) (hY : lwY ad1 ad2 adV cA D s) (hsim : lwSims Rel) {n : Nat} (hn : n + 7 ≤ L) (hL : L ≤ 3584) {H : Heap} {locs : List Loc} {ls : Array Slot} {M1 M2 : AM} (hI : lwI ad1 ad2 cA D A s b (ad1 0) (ad2 0) n M1 M2 H locs ls) (hR : Rel M1 M2)
    (kk : ∀ (H1 : Heap) (locs1 : List Loc) (M1' M2' : AM), lwI ad1 ad2 cA D A s b (ad1 0) (ad2 0) n M1' M2' H1 locs1 ls → Rel M1' M2' → W p l e room_1 s m #[Value.ref b] below meth c H1 locs1 600000 7302250 QQ (F0 m 1484 ls [])) : W p l e room_1 s m #[Value.ref b] below meth c H locs 600000 7302250 QQ (F0 m 492 ls []) := by
  obtain ⟨hl, hP1, hP2, hM1, hM2, hS⟩ := id hI
  have hbA : ¬ A b := fun z => by have := (hA b).mp z; omega
  obtain ⟨K1, K2, hE1, hE2, hEq⟩ := (hsim.2.2.2.2.2.2.2.2.1 _ (aR32_of _) : lwSim Rel 115 82 [aI ((xs (n + 1)).toInt)]) M1 M2 hR
  refine lv_aload_n hx hb dl_492 rfl (lv_at hl 2 rfl) ?_
  refine lv_aload_n hx hb dl_493 rfl (lv_at hl 3 rfl) ?_
  refine lv_iload_n hx hb dl_494 rfl (lv_at hl 0 rfl) ?_
  refine lv_iconst (v := nI 1) hx hb dl_495 (by decide) ?_
  refine lv_iadd hx hb dl_496 ?_
  refine va_sld hx hb hX hbl hbA hS (by rw [nI_add]; exact vp_in_nI (by omega) (by omega)) dl_497 ?_
  rw [nI_add, nI_clamp (show n + 1 < 2 ^ 31 by omega)]
  refine lw_call (hY.1.1) (st_str l) s1_sb hx hb hml hown hts hY.1.2.1 hP1 hS hA hY.1.2.2 hM1 hE1 (by omega) (by decide) (q := 0) rfl rfl rfl (n := 1) rfl (by decide +kernel) (lw_mem 738 _ (by decide +kernel)) (by intro v hv; simp only [List.mem_cons, List.not_mem_nil, or_false] at hv; rcases hv with rfl <;> first | exact aR32_of _ | exact aR64_of _) (rest := []) (by simp only [List.map_cons, List.map_nil, acv, a32_o, lwLong_o]; rfl) hl.1 (Nat.zero_le _) dl_498 ⟨Nat.le_refl _, Nat.le_refl _⟩ (fun z1 M1' H1 locs1 hk1 hz1 hM1 hP1 hkp1 hS => ?_)
  have hP2 := lw_keep hY.2.2.1 hP2 hkp1
  refine lv_aload_n hx hb dl_501 rfl (lv_at hl 1 rfl) ?_
  refine lv_aload_n hx hb dl_502 rfl (lv_at hl 3 rfl) ?_
  refine lv_iload_n hx hb dl_503 rfl (lv_at hl 0 rfl) ?_
  refine lv_iconst (v := nI 1) hx hb dl_504 (by decide) ?_
  refine lv_iadd hx hb dl_505 ?_
  refine va_sld hx hb hX hbl hbA hS (by rw [nI_add]; exact vp_in_nI (by omega) (by omega)) dl_506 ?_
  rw [nI_add, nI_clamp (show n + 1 < 2 ^ 31 by omega)]
  refine lw_call (hY.2.1.1) (st_str2 l) s2_sb hx hb hml hown hts hY.2.1.2.1 hP2 hS hA hY.2.1.2.2 hM2 hE2 (by omega) (by decide) (q := 0) rfl rfl rfl (n := 1) rfl (by decide +kernel) (lw_mem 1995 _ (by decide +kernel)) (by intro v hv; simp only [List.mem_cons, List.not_mem_nil, or_false] at hv; rcases hv with rfl <;> first | exact aR32_of _ | exact aR64_of _) (rest := [.int (Int32.ofInt z1)]) (by simp only [List.map_cons, List.map_nil, acv, a32_o, lwLong_o]; rfl) hl.1 (Nat.le_of_ble_eq_true rfl) dl_507 ⟨Nat.le_refl _, Nat.le_refl _⟩ (fun z2 M2' H2 locs2 hk2 hz2 hM2 hP2 hkp2 hS => ?_)
  have hP1 := lw_keep hY.2.2.2 hP1 hkp2
  obtain ⟨hzz, hR2⟩ := hEq z1 M1' z2 M2' hk1 hk2
  exact lv_icmp_eq (tgt := 1484) hx hb dl_510 (by decide) (fun _ => kk _ _ _ _ ⟨hl, hP1, hP2, hM1, hM2, hS⟩ hR2) (fun z => absurd (by rw [hzz]) z)
set_option maxHeartbeats 4000000 in
set_option maxRecDepth 100000 in
theorem lw_case9 (hx : p.tables.exec = Jvm.exec) (hb : c.code = code) (hml : c.maxLocals = 4) (hown : s.vm.findClass "DioceseBookLaw" = some m.cls) (hts : ∀ w ∈ lw_tbl, w.before #[Value.ref b] s = true) (hX : va_X b L xs s s.heap) (hbl : b < s.heap.size) (hA : ∀ q, A q ↔ s.heap.size ≤ q) (hY : lwY ad1 ad2 adV cA D s) (hsim : lwSims Rel) {n : Nat} (hn : n + 7 ≤ L) (hL : L ≤ 3584) {H : Heap} {locs : List Loc} {ls : Array Slot} {M1 M2 : AM} (hI : lwI ad1 ad2 cA D A s b (ad1 0) (ad2 0) n M1 M2 H locs ls) (hR : Rel M1 M2)
    (kk : ∀ (H1 : Heap) (locs1 : List Loc) (M1' M2' : AM), lwI ad1 ad2 cA D A s b (ad1 0) (ad2 0) n M1' M2' H1 locs1 ls → Rel M1' M2' → W p l e room_1 s m #[Value.ref b] below meth c H1 locs1 600000 7302250 QQ (F0 m 1484 ls [])) : W p l e room_1 s m #[Value.ref b] below meth c H locs 600000 7302250 QQ (F0 m 515 ls []) := by
  obtain ⟨hl, hP1, hP2, hM1, hM2, hS⟩ := id hI
  have hbA : ¬ A b := fun z => by have := (hA b).mp z; omega
  obtain ⟨K1, K2, hE1, hE2, hEq⟩ := (hsim.2.2.2.2.2.2.2.2.2.1 _ _ (aR32_of _) (aR64_of _) : lwSim Rel 116 27 [aI ((xs (n + 1)).toInt), aL (lwLong (xs (n + 2)) (xs (n + 3)))]) M1 M2 hR
  refine lv_aload_n hx hb dl_515 rfl (lv_at hl 2 rfl) ?_
  refine lv_aload_n hx hb dl_516 rfl (lv_at hl 3 rfl) ?_
  refine lv_iload_n hx hb dl_517 rfl (lv_at hl 0 rfl) ?_
  refine lv_iconst (v := nI 1) hx hb dl_518 (by decide) ?_
  refine lv_iadd hx hb dl_519 ?_
  refine va_sld hx hb hX hbl hbA hS (by rw [nI_add]; exact vp_in_nI (by omega) (by omega)) dl_520 ?_
  rw [nI_add, nI_clamp (show n + 1 < 2 ^ 31 by omega)]
  refine lv_aload_n hx hb dl_521 rfl (lv_at hl 3 rfl) ?_
  refine lv_iload_n hx hb dl_522 rfl (lv_at hl 0 rfl) ?_
  refine lv_iconst (v := nI 2) hx hb dl_523 (by decide) ?_
  refine lv_iadd hx hb dl_524 ?_
  refine va_sld hx hb hX hbl hbA hS (by rw [nI_add]; exact vp_in_nI (by omega) (by omega)) dl_525 ?_
  rw [nI_add, nI_clamp (show n + 2 < 2 ^ 31 by omega)]
  refine lv_i2l (v := (xs (n + 2)).toInt64) hx hb dl_526 rfl ?_
  refine lv_bipush (v := 32) hx hb dl_527 (by decide) ?_
  refine lv_lshl (v := (xs (n + 2)).toInt64 <<< ((32 : Int32).toInt64 &&& 63)) hx hb dl_529 rfl ?_
  refine lv_aload_n hx hb dl_530 rfl (lv_at hl 3 rfl) ?_
  refine lv_iload_n hx hb dl_531 rfl (lv_at hl 0 rfl) ?_
  refine lv_iconst (v := nI 3) hx hb dl_532 (by decide) ?_
  refine lv_iadd hx hb dl_533 ?_
  refine va_sld hx hb hX hbl hbA hS (by rw [nI_add]; exact vp_in_nI (by omega) (by omega)) dl_534 ?_
  rw [nI_add, nI_clamp (show n + 3 < 2 ^ 31 by omega)]
  refine lv_i2l (v := (xs (n + 3)).toInt64) hx hb dl_535 rfl ?_
  refine lv_ldc2 (own := "DioceseBookLaw") (v := 4294967295) hx hb hown (hts (Cond.constantLong "DioceseBookLaw" 53 4294967295) (lw_mem 2118 _ (by decide +kernel))) dl_536 ?_
  refine lv_land hx hb dl_539 ?_
  refine lv_lor hx hb dl_540 ?_
  refine lw_call (hY.1.1) (st_str l) s1_sb hx hb hml hown hts hY.1.2.1 hP1 hS hA hY.1.2.2 hM1 hE1 (by omega) (by decide) (q := 0) rfl rfl rfl (n := 2) rfl (by decide +kernel) (lw_mem 903 _ (by decide +kernel)) (by intro v hv; simp only [List.mem_cons, List.not_mem_nil, or_false] at hv; rcases hv with rfl | rfl <;> first | exact aR32_of _ | exact aR64_of _) (rest := []) (by simp only [List.map_cons, List.map_nil, acv, a32_o, lwLong_o]; rfl) hl.1 (Nat.zero_le _) dl_541 ⟨Nat.le_refl _, Nat.le_refl _⟩ (fun z1 M1' H1 locs1 hk1 hz1 hM1 hP1 hkp1 hS => ?_)
  have hP2 := lw_keep hY.2.2.1 hP2 hkp1
  refine lv_aload_n hx hb dl_544 rfl (lv_at hl 1 rfl) ?_
  refine lv_aload_n hx hb dl_545 rfl (lv_at hl 3 rfl) ?_
  refine lv_iload_n hx hb dl_546 rfl (lv_at hl 0 rfl) ?_
  refine lv_iconst (v := nI 1) hx hb dl_547 (by decide) ?_
  refine lv_iadd hx hb dl_548 ?_
  refine va_sld hx hb hX hbl hbA hS (by rw [nI_add]; exact vp_in_nI (by omega) (by omega)) dl_549 ?_
  rw [nI_add, nI_clamp (show n + 1 < 2 ^ 31 by omega)]
  refine lv_aload_n hx hb dl_550 rfl (lv_at hl 3 rfl) ?_
  refine lv_iload_n hx hb dl_551 rfl (lv_at hl 0 rfl) ?_
  refine lv_iconst (v := nI 2) hx hb dl_552 (by decide) ?_
  refine lv_iadd hx hb dl_553 ?_
  refine va_sld hx hb hX hbl hbA hS (by rw [nI_add]; exact vp_in_nI (by omega) (by omega)) dl_554 ?_
  rw [nI_add, nI_clamp (show n + 2 < 2 ^ 31 by omega)]
  refine lv_i2l (v := (xs (n + 2)).toInt64) hx hb dl_555 rfl ?_
  refine lv_bipush (v := 32) hx hb dl_556 (by decide) ?_
  refine lv_lshl (v := (xs (n + 2)).toInt64 <<< ((32 : Int32).toInt64 &&& 63)) hx hb dl_558 rfl ?_
  refine lv_aload_n hx hb dl_559 rfl (lv_at hl 3 rfl) ?_
  refine lv_iload_n hx hb dl_560 rfl (lv_at hl 0 rfl) ?_
  refine lv_iconst (v := nI 3) hx hb dl_561 (by decide) ?_
  refine lv_iadd hx hb dl_562 ?_
  refine va_sld hx hb hX hbl hbA hS (by rw [nI_add]; exact vp_in_nI (by omega) (by omega)) dl_563 ?_
  rw [nI_add, nI_clamp (show n + 3 < 2 ^ 31 by omega)]
  refine lv_i2l (v := (xs (n + 3)).toInt64) hx hb dl_564 rfl ?_
  refine lv_ldc2 (own := "DioceseBookLaw") (v := 4294967295) hx hb hown (hts (Cond.constantLong "DioceseBookLaw" 53 4294967295) (lw_mem 2118 _ (by decide +kernel))) dl_565 ?_
  refine lv_land hx hb dl_568 ?_
  refine lv_lor hx hb dl_569 ?_
  refine lw_call (hY.2.1.1) (st_str2 l) s2_sb hx hb hml hown hts hY.2.1.2.1 hP2 hS hA hY.2.1.2.2 hM2 hE2 (by omega) (by decide) (q := 0) rfl rfl rfl (n := 2) rfl (by decide +kernel) (lw_mem 1758 _ (by decide +kernel)) (by intro v hv; simp only [List.mem_cons, List.not_mem_nil, or_false] at hv; rcases hv with rfl | rfl <;> first | exact aR32_of _ | exact aR64_of _) (rest := [.int (Int32.ofInt z1)]) (by simp only [List.map_cons, List.map_nil, acv, a32_o, lwLong_o]; rfl) hl.1 (Nat.le_of_ble_eq_true rfl) dl_570 ⟨Nat.le_refl _, Nat.le_refl _⟩ (fun z2 M2' H2 locs2 hk2 hz2 hM2 hP2 hkp2 hS => ?_)
  have hP1 := lw_keep hY.2.2.2 hP1 hkp2
  obtain ⟨hzz, hR2⟩ := hEq z1 M1' z2 M2' hk1 hk2
  exact lv_icmp_eq (tgt := 1484) hx hb dl_573 (by decide) (fun _ => kk _ _ _ _ ⟨hl, hP1, hP2, hM1, hM2, hS⟩ hR2) (fun z => absurd (by rw [hzz]) z)
set_option maxHeartbeats 4000000 in
set_option maxRecDepth 100000 in
theorem lw_case10 (hx : p.tables.exec = Jvm.exec) (hb : c.code = code) (hml : c.maxLocals = 4) (hown : s.vm.findClass "DioceseBookLaw" = some m.cls) (hts : ∀ w ∈ lw_tbl, w.before #[Value.ref b] s = true) (hX : va_X b L xs s s.heap) (hbl : b < s.heap.size) (hA : ∀ q, A q ↔ s.heap.size ≤ q) (hY : lwY ad1 ad2 adV cA D s) (hsim : lwSims Rel) {n : Nat} (hn : n + 7 ≤ L) (hL : L ≤ 3584) {H : Heap} {locs : List Loc} {ls : Array Slot} {M1 M2 : AM} (hI : lwI ad1 ad2 cA D A s b (ad1 0) (ad2 0) n M1 M2 H locs ls) (hR : Rel M1 M2)
    (kk : ∀ (H1 : Heap) (locs1 : List Loc) (M1' M2' : AM), lwI ad1 ad2 cA D A s b (ad1 0) (ad2 0) n M1' M2' H1 locs1 ls → Rel M1' M2' → W p l e room_1 s m #[Value.ref b] below meth c H1 locs1 600000 7302250 QQ (F0 m 1484 ls [])) : W p l e room_1 s m #[Value.ref b] below meth c H locs 600000 7302250 QQ (F0 m 578 ls []) := by
  obtain ⟨hl, hP1, hP2, hM1, hM2, hS⟩ := id hI
  have hbA : ¬ A b := fun z => by have := (hA b).mp z; omega
  obtain ⟨K1, K2, hE1, hE2, hEq⟩ := (hsim.2.2.2.2.2.2.2.2.2.2.1 _ (aR32_of _) : lwSim Rel 117 44 [aI ((xs (n + 1)).toInt)]) M1 M2 hR
  refine lv_aload_n hx hb dl_578 rfl (lv_at hl 2 rfl) ?_
  refine lv_aload_n hx hb dl_579 rfl (lv_at hl 3 rfl) ?_
  refine lv_iload_n hx hb dl_580 rfl (lv_at hl 0 rfl) ?_
  refine lv_iconst (v := nI 1) hx hb dl_581 (by decide) ?_
  refine lv_iadd hx hb dl_582 ?_
  refine va_sld hx hb hX hbl hbA hS (by rw [nI_add]; exact vp_in_nI (by omega) (by omega)) dl_583 ?_
  rw [nI_add, nI_clamp (show n + 1 < 2 ^ 31 by omega)]
  refine lw_call (hY.1.1) (st_str l) s1_sb hx hb hml hown hts hY.1.2.1 hP1 hS hA hY.1.2.2 hM1 hE1 (by omega) (by decide) (q := 0) rfl rfl rfl (n := 1) rfl (by decide +kernel) (lw_mem 911 _ (by decide +kernel)) (by intro v hv; simp only [List.mem_cons, List.not_mem_nil, or_false] at hv; rcases hv with rfl <;> first | exact aR32_of _ | exact aR64_of _) (rest := []) (by simp only [List.map_cons, List.map_nil, acv, a32_o, lwLong_o]; rfl) hl.1 (Nat.zero_le _) dl_584 ⟨Nat.le_refl _, Nat.le_refl _⟩ (fun z1 M1' H1 locs1 hk1 hz1 hM1 hP1 hkp1 hS => ?_)
  have hP2 := lw_keep hY.2.2.1 hP2 hkp1
  refine lv_aload_n hx hb dl_587 rfl (lv_at hl 1 rfl) ?_
  refine lv_aload_n hx hb dl_588 rfl (lv_at hl 3 rfl) ?_
  refine lv_iload_n hx hb dl_589 rfl (lv_at hl 0 rfl) ?_
  refine lv_iconst (v := nI 1) hx hb dl_590 (by decide) ?_
  refine lv_iadd hx hb dl_591 ?_
  refine va_sld hx hb hX hbl hbA hS (by rw [nI_add]; exact vp_in_nI (by omega) (by omega)) dl_592 ?_
  rw [nI_add, nI_clamp (show n + 1 < 2 ^ 31 by omega)]
  refine lw_call (hY.2.1.1) (st_str2 l) s2_sb hx hb hml hown hts hY.2.1.2.1 hP2 hS hA hY.2.1.2.2 hM2 hE2 (by omega) (by decide) (q := 0) rfl rfl rfl (n := 1) rfl (by decide +kernel) (lw_mem 1764 _ (by decide +kernel)) (by intro v hv; simp only [List.mem_cons, List.not_mem_nil, or_false] at hv; rcases hv with rfl <;> first | exact aR32_of _ | exact aR64_of _) (rest := [.int (Int32.ofInt z1)]) (by simp only [List.map_cons, List.map_nil, acv, a32_o, lwLong_o]; rfl) hl.1 (Nat.le_of_ble_eq_true rfl) dl_593 ⟨Nat.le_refl _, Nat.le_refl _⟩ (fun z2 M2' H2 locs2 hk2 hz2 hM2 hP2 hkp2 hS => ?_)
  have hP1 := lw_keep hY.2.2.2 hP1 hkp2
  obtain ⟨hzz, hR2⟩ := hEq z1 M1' z2 M2' hk1 hk2
  exact lv_icmp_eq (tgt := 1484) hx hb dl_596 (by decide) (fun _ => kk _ _ _ _ ⟨hl, hP1, hP2, hM1, hM2, hS⟩ hR2) (fun z => absurd (by rw [hzz]) z)
set_option maxHeartbeats 4000000 in
set_option maxRecDepth 100000 in
theorem lw_case11 (hx : p.tables.exec = Jvm.exec) (hb : c.code = code) (hml : c.maxLocals = 4) (hown : s.vm.findClass "DioceseBookLaw" = some m.cls) (hts : ∀ w ∈ lw_tbl, w.before #[Value.ref b] s = true) (hX : va_X b L xs s s.heap) (hbl : b < s.heap.size) (hA : ∀ q, A q ↔ s.heap.size ≤ q) (hY : lwY ad1 ad2 adV cA D s) (hsim : lwSims Rel) {n : Nat} (hn : n + 7 ≤ L) (hL : L ≤ 3584) {H : Heap} {locs : List Loc} {ls : Array Slot} {M1 M2 : AM} (hI : lwI ad1 ad2 cA D A s b (ad1 0) (ad2 0) n M1 M2 H locs ls) (hR : Rel M1 M2)
    (kk : ∀ (H1 : Heap) (locs1 : List Loc) (M1' M2' : AM), lwI ad1 ad2 cA D A s b (ad1 0) (ad2 0) n M1' M2' H1 locs1 ls → Rel M1' M2' → W p l e room_1 s m #[Value.ref b] below meth c H1 locs1 600000 7302250 QQ (F0 m 1484 ls [])) : W p l e room_1 s m #[Value.ref b] below meth c H locs 600000 7302250 QQ (F0 m 601 ls []) := by
  obtain ⟨hl, hP1, hP2, hM1, hM2, hS⟩ := id hI
  have hbA : ¬ A b := fun z => by have := (hA b).mp z; omega
  obtain ⟨K1, K2, hE1, hE2, hEq⟩ := (hsim.2.2.2.2.2.2.2.2.2.2.2.1 : lwSim Rel 118 45 []) M1 M2 hR
  refine lv_aload_n hx hb dl_601 rfl (lv_at hl 2 rfl) ?_
  refine lw_call (hY.1.1) (st_str l) s1_sb hx hb hml hown hts hY.1.2.1 hP1 hS hA hY.1.2.2 hM1 hE1 (by omega) (by decide) (q := 0) rfl rfl rfl (n := 0) rfl (by decide +kernel) (lw_mem 1078 _ (by decide +kernel)) (fun v hv => by cases hv) (rest := []) (by simp only [List.map_cons, List.map_nil, acv, a32_o, lwLong_o]; rfl) hl.1 (Nat.zero_le _) dl_602 ⟨Nat.le_refl _, Nat.le_refl _⟩ (fun z1 M1' H1 locs1 hk1 hz1 hM1 hP1 hkp1 hS => ?_)
  have hP2 := lw_keep hY.2.2.1 hP2 hkp1
  refine lv_aload_n hx hb dl_605 rfl (lv_at hl 1 rfl) ?_
  refine lw_call (hY.2.1.1) (st_str2 l) s2_sb hx hb hml hown hts hY.2.1.2.1 hP2 hS hA hY.2.1.2.2 hM2 hE2 (by omega) (by decide) (q := 0) rfl rfl rfl (n := 0) rfl (by decide +kernel) (lw_mem 1835 _ (by decide +kernel)) (fun v hv => by cases hv) (rest := [.int (Int32.ofInt z1)]) (by simp only [List.map_cons, List.map_nil, acv, a32_o, lwLong_o]; rfl) hl.1 (Nat.le_of_ble_eq_true rfl) dl_606 ⟨Nat.le_refl _, Nat.le_refl _⟩ (fun z2 M2' H2 locs2 hk2 hz2 hM2 hP2 hkp2 hS => ?_)
  have hP1 := lw_keep hY.2.2.2 hP1 hkp2
  obtain ⟨hzz, hR2⟩ := hEq z1 M1' z2 M2' hk1 hk2
  exact lv_icmp_eq (tgt := 1484) hx hb dl_609 (by decide) (fun _ => kk _ _ _ _ ⟨hl, hP1, hP2, hM1, hM2, hS⟩ hR2) (fun z => absurd (by rw [hzz]) z)
end LWK
