/-! the law: cases 28 to 31 -/
section LWK
variable {p : Program} {l : Launch} {e : Env} {s : State} {m : MethodId} {below : List Frame} {meth : Method} {c : Code} {b L : Nat} {xs : Nat → Int32} {ad1 ad2 adV : Nat → Nat} {cA : Nat → ClassId} {D : va_G} {Rel : AM → AM → Prop} {A : Nat → Prop} {QQ : State → Prop}

set_option maxHeartbeats 4000000 in
set_option maxRecDepth 100000 in
theorem lw_case28 (hx : p.tables.exec = Jvm.exec) (hb : c.code = code) (hml : c.maxLocals = 4) (hown : s.vm.findClass "DioceseBookLaw" = some m.cls) (hts : ∀ w ∈ lw_tbl, w.before #[Value.ref b] s = true) (hX : va_X b L xs s s.heap) (hbl : b < s.heap.size) (hA : ∀ q, A q ↔ s.heap.size ≤ q) (hY : lwY ad1 ad2 adV cA D s) (hsim : lwSims Rel) {n : Nat} (hn : n + 7 ≤ L) (hL : L ≤ 3584) {H : Heap} {locs : List Loc} {ls : Array Slot} {M1 M2 : AM} (hI : lwI ad1 ad2 cA D A s b (ad1 0) (ad2 0) n M1 M2 H locs ls) (hR : Rel M1 M2)
    (kk : ∀ (H1 : Heap) (locs1 : List Loc) (M1' M2' : AM), lwI ad1 ad2 cA D A s b (ad1 0) (ad2 0) n M1' M2' H1 locs1 ls → Rel M1' M2' → W p l e room_1 s m #[Value.ref b] below meth c H1 locs1 600000 7302250 QQ (F0 m 1484 ls [])) : W p l e room_1 s m #[Value.ref b] below meth c H locs 600000 7302250 QQ (F0 m 1322 ls []) := by
  obtain ⟨hl, hP1, hP2, hM1, hM2, hS⟩ := id hI
  have hbA : ¬ A b := fun z => by have := (hA b).mp z; omega
  obtain ⟨K1, K2, hE1, hE2, hEq⟩ := (hsim.2.2.2.2.2.2.2.2.2.2.2.2.2.2.2.2.2.2.2.2.2.2.2.2.2.2.2.2.1 _ _ _ _ _ (aR32_of _) (aR32_of _) (aR32_of _) (aR32_of _) (aR32_of _) : lwSim Rel 136 95 [aI ((xs (n + 1)).toInt), aI ((xs (n + 2)).toInt), aI ((xs (n + 3)).toInt), aI ((xs (n + 4)).toInt), aI ((xs (n + 5)).toInt)]) M1 M2 hR
  refine lv_aload_n hx hb dl_1322 rfl (lv_at hl 2 rfl) ?_
  refine lv_aload_n hx hb dl_1323 rfl (lv_at hl 3 rfl) ?_
  refine lv_iload_n hx hb dl_1324 rfl (lv_at hl 0 rfl) ?_
  refine lv_iconst (v := nI 1) hx hb dl_1325 (by decide) ?_
  refine lv_iadd hx hb dl_1326 ?_
  refine va_sld hx hb hX hbl hbA hS (by rw [nI_add]; exact vp_in_nI (by omega) (by omega)) dl_1327 ?_
  rw [nI_add, nI_clamp (show n + 1 < 2 ^ 31 by omega)]
  refine lv_aload_n hx hb dl_1328 rfl (lv_at hl 3 rfl) ?_
  refine lv_iload_n hx hb dl_1329 rfl (lv_at hl 0 rfl) ?_
  refine lv_iconst (v := nI 2) hx hb dl_1330 (by decide) ?_
  refine lv_iadd hx hb dl_1331 ?_
  refine va_sld hx hb hX hbl hbA hS (by rw [nI_add]; exact vp_in_nI (by omega) (by omega)) dl_1332 ?_
  rw [nI_add, nI_clamp (show n + 2 < 2 ^ 31 by omega)]
  refine lv_aload_n hx hb dl_1333 rfl (lv_at hl 3 rfl) ?_
  refine lv_iload_n hx hb dl_1334 rfl (lv_at hl 0 rfl) ?_
  refine lv_iconst (v := nI 3) hx hb dl_1335 (by decide) ?_
  refine lv_iadd hx hb dl_1336 ?_
  refine va_sld hx hb hX hbl hbA hS (by rw [nI_add]; exact vp_in_nI (by omega) (by omega)) dl_1337 ?_
  rw [nI_add, nI_clamp (show n + 3 < 2 ^ 31 by omega)]
  refine lv_aload_n hx hb dl_1338 rfl (lv_at hl 3 rfl) ?_
  refine lv_iload_n hx hb dl_1339 rfl (lv_at hl 0 rfl) ?_
  refine lv_iconst (v := nI 4) hx hb dl_1340 (by decide) ?_
  refine lv_iadd hx hb dl_1341 ?_
  refine va_sld hx hb hX hbl hbA hS (by rw [nI_add]; exact vp_in_nI (by omega) (by omega)) dl_1342 ?_
  rw [nI_add, nI_clamp (show n + 4 < 2 ^ 31 by omega)]
  refine lv_aload_n hx hb dl_1343 rfl (lv_at hl 3 rfl) ?_
  refine lv_iload_n hx hb dl_1344 rfl (lv_at hl 0 rfl) ?_
  refine lv_iconst (v := nI 5) hx hb dl_1345 (by decide) ?_
  refine lv_iadd hx hb dl_1346 ?_
  refine va_sld hx hb hX hbl hbA hS (by rw [nI_add]; exact vp_in_nI (by omega) (by omega)) dl_1347 ?_
  rw [nI_add, nI_clamp (show n + 5 < 2 ^ 31 by omega)]
  refine lw_call (hY.1.1) (st_str l) s1_sb hx hb hml hown hts hY.1.2.1 hP1 hS hA hY.1.2.2 hM1 hE1 (by omega) (by decide) (q := 0) rfl rfl rfl (n := 5) rfl (by decide +kernel) (lw_mem 1279 _ (by decide +kernel)) (by intro v hv; simp only [List.mem_cons, List.not_mem_nil, or_false] at hv; rcases hv with rfl | rfl | rfl | rfl | rfl <;> first | exact aR32_of _ | exact aR64_of _) (rest := []) (by simp only [List.map_cons, List.map_nil, acv, a32_o, lwLong_o]; rfl) hl.1 (Nat.zero_le _) dl_1348 ⟨Nat.le_refl _, Nat.le_refl _⟩ (fun z1 M1' H1 locs1 hk1 hz1 hM1 hP1 hkp1 hS => ?_)
  have hP2 := lw_keep hY.2.2.1 hP2 hkp1
  refine lv_aload_n hx hb dl_1351 rfl (lv_at hl 1 rfl) ?_
  refine lv_aload_n hx hb dl_1352 rfl (lv_at hl 3 rfl) ?_
  refine lv_iload_n hx hb dl_1353 rfl (lv_at hl 0 rfl) ?_
  refine lv_iconst (v := nI 1) hx hb dl_1354 (by decide) ?_
  refine lv_iadd hx hb dl_1355 ?_
  refine va_sld hx hb hX hbl hbA hS (by rw [nI_add]; exact vp_in_nI (by omega) (by omega)) dl_1356 ?_
  rw [nI_add, nI_clamp (show n + 1 < 2 ^ 31 by omega)]
  refine lv_aload_n hx hb dl_1357 rfl (lv_at hl 3 rfl) ?_
  refine lv_iload_n hx hb dl_1358 rfl (lv_at hl 0 rfl) ?_
  refine lv_iconst (v := nI 2) hx hb dl_1359 (by decide) ?_
  refine lv_iadd hx hb dl_1360 ?_
  refine va_sld hx hb hX hbl hbA hS (by rw [nI_add]; exact vp_in_nI (by omega) (by omega)) dl_1361 ?_
  rw [nI_add, nI_clamp (show n + 2 < 2 ^ 31 by omega)]
  refine lv_aload_n hx hb dl_1362 rfl (lv_at hl 3 rfl) ?_
  refine lv_iload_n hx hb dl_1363 rfl (lv_at hl 0 rfl) ?_
  refine lv_iconst (v := nI 3) hx hb dl_1364 (by decide) ?_
  refine lv_iadd hx hb dl_1365 ?_
  refine va_sld hx hb hX hbl hbA hS (by rw [nI_add]; exact vp_in_nI (by omega) (by omega)) dl_1366 ?_
  rw [nI_add, nI_clamp (show n + 3 < 2 ^ 31 by omega)]
  refine lv_aload_n hx hb dl_1367 rfl (lv_at hl 3 rfl) ?_
  refine lv_iload_n hx hb dl_1368 rfl (lv_at hl 0 rfl) ?_
  refine lv_iconst (v := nI 4) hx hb dl_1369 (by decide) ?_
  refine lv_iadd hx hb dl_1370 ?_
  refine va_sld hx hb hX hbl hbA hS (by rw [nI_add]; exact vp_in_nI (by omega) (by omega)) dl_1371 ?_
  rw [nI_add, nI_clamp (show n + 4 < 2 ^ 31 by omega)]
  refine lv_aload_n hx hb dl_1372 rfl (lv_at hl 3 rfl) ?_
  refine lv_iload_n hx hb dl_1373 rfl (lv_at hl 0 rfl) ?_
  refine lv_iconst (v := nI 5) hx hb dl_1374 (by decide) ?_
  refine lv_iadd hx hb dl_1375 ?_
  refine va_sld hx hb hX hbl hbA hS (by rw [nI_add]; exact vp_in_nI (by omega) (by omega)) dl_1376 ?_
  rw [nI_add, nI_clamp (show n + 5 < 2 ^ 31 by omega)]
  refine lw_call (hY.2.1.1) (st_str2 l) s2_sb hx hb hml hown hts hY.2.1.2.1 hP2 hS hA hY.2.1.2.2 hM2 hE2 (by omega) (by decide) (q := 0) rfl rfl rfl (n := 5) rfl (by decide +kernel) (lw_mem 2055 _ (by decide +kernel)) (by intro v hv; simp only [List.mem_cons, List.not_mem_nil, or_false] at hv; rcases hv with rfl | rfl | rfl | rfl | rfl <;> first | exact aR32_of _ | exact aR64_of _) (rest := [.int (Int32.ofInt z1)]) (by simp only [List.map_cons, List.map_nil, acv, a32_o, lwLong_o]; rfl) hl.1 (Nat.le_of_ble_eq_true rfl) dl_1377 ⟨Nat.le_refl _, Nat.le_refl _⟩ (fun z2 M2' H2 locs2 hk2 hz2 hM2 hP2 hkp2 hS => ?_)
  have hP1 := lw_keep hY.2.2.2 hP1 hkp2
  obtain ⟨hzz, hR2⟩ := hEq z1 M1' z2 M2' hk1 hk2
  exact lv_icmp_eq (tgt := 1484) hx hb dl_1380 (by decide) (fun _ => kk _ _ _ _ ⟨hl, hP1, hP2, hM1, hM2, hS⟩ hR2) (fun z => absurd (by rw [hzz]) z)
set_option maxHeartbeats 4000000 in
set_option maxRecDepth 100000 in
theorem lw_case29 (hx : p.tables.exec = Jvm.exec) (hb : c.code = code) (hml : c.maxLocals = 4) (hown : s.vm.findClass "DioceseBookLaw" = some m.cls) (hts : ∀ w ∈ lw_tbl, w.before #[Value.ref b] s = true) (hX : va_X b L xs s s.heap) (hbl : b < s.heap.size) (hA : ∀ q, A q ↔ s.heap.size ≤ q) (hY : lwY ad1 ad2 adV cA D s) (hsim : lwSims Rel) {n : Nat} (hn : n + 7 ≤ L) (hL : L ≤ 3584) {H : Heap} {locs : List Loc} {ls : Array Slot} {M1 M2 : AM} (hI : lwI ad1 ad2 cA D A s b (ad1 0) (ad2 0) n M1 M2 H locs ls) (hR : Rel M1 M2)
    (kk : ∀ (H1 : Heap) (locs1 : List Loc) (M1' M2' : AM), lwI ad1 ad2 cA D A s b (ad1 0) (ad2 0) n M1' M2' H1 locs1 ls → Rel M1' M2' → W p l e room_1 s m #[Value.ref b] below meth c H1 locs1 600000 7302250 QQ (F0 m 1484 ls [])) : W p l e room_1 s m #[Value.ref b] below meth c H locs 600000 7302250 QQ (F0 m 1385 ls []) := by
  obtain ⟨hl, hP1, hP2, hM1, hM2, hS⟩ := id hI
  have hbA : ¬ A b := fun z => by have := (hA b).mp z; omega
  obtain ⟨K1, K2, hE1, hE2, hEq⟩ := (hsim.2.2.2.2.2.2.2.2.2.2.2.2.2.2.2.2.2.2.2.2.2.2.2.2.2.2.2.2.2.1 _ _ (aR32_of _) (aR32_of _) : lwSim Rel 137 99 [aI ((xs (n + 1)).toInt), aI ((xs (n + 2)).toInt)]) M1 M2 hR
  refine lv_aload_n hx hb dl_1385 rfl (lv_at hl 2 rfl) ?_
  refine lv_aload_n hx hb dl_1386 rfl (lv_at hl 3 rfl) ?_
  refine lv_iload_n hx hb dl_1387 rfl (lv_at hl 0 rfl) ?_
  refine lv_iconst (v := nI 1) hx hb dl_1388 (by decide) ?_
  refine lv_iadd hx hb dl_1389 ?_
  refine va_sld hx hb hX hbl hbA hS (by rw [nI_add]; exact vp_in_nI (by omega) (by omega)) dl_1390 ?_
  rw [nI_add, nI_clamp (show n + 1 < 2 ^ 31 by omega)]
  refine lv_aload_n hx hb dl_1391 rfl (lv_at hl 3 rfl) ?_
  refine lv_iload_n hx hb dl_1392 rfl (lv_at hl 0 rfl) ?_
  refine lv_iconst (v := nI 2) hx hb dl_1393 (by decide) ?_
  refine lv_iadd hx hb dl_1394 ?_
  refine va_sld hx hb hX hbl hbA hS (by rw [nI_add]; exact vp_in_nI (by omega) (by omega)) dl_1395 ?_
  rw [nI_add, nI_clamp (show n + 2 < 2 ^ 31 by omega)]
  refine lw_call (hY.1.1) (st_str l) s1_sb hx hb hml hown hts hY.1.2.1 hP1 hS hA hY.1.2.2 hM1 hE1 (by omega) (by decide) (q := 0) rfl rfl rfl (n := 2) rfl (by decide +kernel) (lw_mem 1288 _ (by decide +kernel)) (by intro v hv; simp only [List.mem_cons, List.not_mem_nil, or_false] at hv; rcases hv with rfl | rfl <;> first | exact aR32_of _ | exact aR64_of _) (rest := []) (by simp only [List.map_cons, List.map_nil, acv, a32_o, lwLong_o]; rfl) hl.1 (Nat.zero_le _) dl_1396 ⟨Nat.le_refl _, Nat.le_refl _⟩ (fun z1 M1' H1 locs1 hk1 hz1 hM1 hP1 hkp1 hS => ?_)
  have hP2 := lw_keep hY.2.2.1 hP2 hkp1
  refine lv_aload_n hx hb dl_1399 rfl (lv_at hl 1 rfl) ?_
  refine lv_aload_n hx hb dl_1400 rfl (lv_at hl 3 rfl) ?_
  refine lv_iload_n hx hb dl_1401 rfl (lv_at hl 0 rfl) ?_
  refine lv_iconst (v := nI 1) hx hb dl_1402 (by decide) ?_
  refine lv_iadd hx hb dl_1403 ?_
  refine va_sld hx hb hX hbl hbA hS (by rw [nI_add]; exact vp_in_nI (by omega) (by omega)) dl_1404 ?_
  rw [nI_add, nI_clamp (show n + 1 < 2 ^ 31 by omega)]
  refine lv_aload_n hx hb dl_1405 rfl (lv_at hl 3 rfl) ?_
  refine lv_iload_n hx hb dl_1406 rfl (lv_at hl 0 rfl) ?_
  refine lv_iconst (v := nI 2) hx hb dl_1407 (by decide) ?_
  refine lv_iadd hx hb dl_1408 ?_
  refine va_sld hx hb hX hbl hbA hS (by rw [nI_add]; exact vp_in_nI (by omega) (by omega)) dl_1409 ?_
  rw [nI_add, nI_clamp (show n + 2 < 2 ^ 31 by omega)]
  refine lw_call (hY.2.1.1) (st_str2 l) s2_sb hx hb hml hown hts hY.2.1.2.1 hP2 hS hA hY.2.1.2.2 hM2 hE2 (by omega) (by decide) (q := 0) rfl rfl rfl (n := 2) rfl (by decide +kernel) (lw_mem 2059 _ (by decide +kernel)) (by intro v hv; simp only [List.mem_cons, List.not_mem_nil, or_false] at hv; rcases hv with rfl | rfl <;> first | exact aR32_of _ | exact aR64_of _) (rest := [.int (Int32.ofInt z1)]) (by simp only [List.map_cons, List.map_nil, acv, a32_o, lwLong_o]; rfl) hl.1 (Nat.le_of_ble_eq_true rfl) dl_1410 ⟨Nat.le_refl _, Nat.le_refl _⟩ (fun z2 M2' H2 locs2 hk2 hz2 hM2 hP2 hkp2 hS => ?_)
  have hP1 := lw_keep hY.2.2.2 hP1 hkp2
  obtain ⟨hzz, hR2⟩ := hEq z1 M1' z2 M2' hk1 hk2
  exact lv_icmp_eq (tgt := 1484) hx hb dl_1413 (by decide) (fun _ => kk _ _ _ _ ⟨hl, hP1, hP2, hM1, hM2, hS⟩ hR2) (fun z => absurd (by rw [hzz]) z)
set_option maxHeartbeats 4000000 in
set_option maxRecDepth 100000 in
theorem lw_case30 (hx : p.tables.exec = Jvm.exec) (hb : c.code = code) (hml : c.maxLocals = 4) (hown : s.vm.findClass "DioceseBookLaw" = some m.cls) (hts : ∀ w ∈ lw_tbl, w.before #[Value.ref b] s = true) (hX : va_X b L xs s s.heap) (hbl : b < s.heap.size) (hA : ∀ q, A q ↔ s.heap.size ≤ q) (hY : lwY ad1 ad2 adV cA D s) (hsim : lwSims Rel) {n : Nat} (hn : n + 7 ≤ L) (hL : L ≤ 3584) {H : Heap} {locs : List Loc} {ls : Array Slot} {M1 M2 : AM} (hI : lwI ad1 ad2 cA D A s b (ad1 0) (ad2 0) n M1 M2 H locs ls) (hR : Rel M1 M2)
    (kk : ∀ (H1 : Heap) (locs1 : List Loc) (M1' M2' : AM), lwI ad1 ad2 cA D A s b (ad1 0) (ad2 0) n M1' M2' H1 locs1 ls → Rel M1' M2' → W p l e room_1 s m #[Value.ref b] below meth c H1 locs1 600000 7302250 QQ (F0 m 1484 ls [])) : W p l e room_1 s m #[Value.ref b] below meth c H locs 600000 7302250 QQ (F0 m 1418 ls []) := by
  obtain ⟨hl, hP1, hP2, hM1, hM2, hS⟩ := id hI
  have hbA : ¬ A b := fun z => by have := (hA b).mp z; omega
  obtain ⟨K1, K2, hE1, hE2, hEq⟩ := (hsim.2.2.2.2.2.2.2.2.2.2.2.2.2.2.2.2.2.2.2.2.2.2.2.2.2.2.2.2.2.2.1 _ (aR32_of _) : lwSim Rel 138 103 [aI ((xs (n + 1)).toInt)]) M1 M2 hR
  refine lv_aload_n hx hb dl_1418 rfl (lv_at hl 2 rfl) ?_
  refine lv_aload_n hx hb dl_1419 rfl (lv_at hl 3 rfl) ?_
  refine lv_iload_n hx hb dl_1420 rfl (lv_at hl 0 rfl) ?_
  refine lv_iconst (v := nI 1) hx hb dl_1421 (by decide) ?_
  refine lv_iadd hx hb dl_1422 ?_
  refine va_sld hx hb hX hbl hbA hS (by rw [nI_add]; exact vp_in_nI (by omega) (by omega)) dl_1423 ?_
  rw [nI_add, nI_clamp (show n + 1 < 2 ^ 31 by omega)]
  refine lw_call (hY.1.1) (st_str l) s1_sb hx hb hml hown hts hY.1.2.1 hP1 hS hA hY.1.2.2 hM1 hE1 (by omega) (by decide) (q := 0) rfl rfl rfl (n := 1) rfl (by decide +kernel) (lw_mem 1305 _ (by decide +kernel)) (by intro v hv; simp only [List.mem_cons, List.not_mem_nil, or_false] at hv; rcases hv with rfl <;> first | exact aR32_of _ | exact aR64_of _) (rest := []) (by simp only [List.map_cons, List.map_nil, acv, a32_o, lwLong_o]; rfl) hl.1 (Nat.zero_le _) dl_1424 ⟨Nat.le_refl _, Nat.le_refl _⟩ (fun z1 M1' H1 locs1 hk1 hz1 hM1 hP1 hkp1 hS => ?_)
  have hP2 := lw_keep hY.2.2.1 hP2 hkp1
  refine lv_aload_n hx hb dl_1427 rfl (lv_at hl 1 rfl) ?_
  refine lv_aload_n hx hb dl_1428 rfl (lv_at hl 3 rfl) ?_
  refine lv_iload_n hx hb dl_1429 rfl (lv_at hl 0 rfl) ?_
  refine lv_iconst (v := nI 1) hx hb dl_1430 (by decide) ?_
  refine lv_iadd hx hb dl_1431 ?_
  refine va_sld hx hb hX hbl hbA hS (by rw [nI_add]; exact vp_in_nI (by omega) (by omega)) dl_1432 ?_
  rw [nI_add, nI_clamp (show n + 1 < 2 ^ 31 by omega)]
  refine lw_call (hY.2.1.1) (st_str2 l) s2_sb hx hb hml hown hts hY.2.1.2.1 hP2 hS hA hY.2.1.2.2 hM2 hE2 (by omega) (by decide) (q := 0) rfl rfl rfl (n := 1) rfl (by decide +kernel) (lw_mem 2075 _ (by decide +kernel)) (by intro v hv; simp only [List.mem_cons, List.not_mem_nil, or_false] at hv; rcases hv with rfl <;> first | exact aR32_of _ | exact aR64_of _) (rest := [.int (Int32.ofInt z1)]) (by simp only [List.map_cons, List.map_nil, acv, a32_o, lwLong_o]; rfl) hl.1 (Nat.le_of_ble_eq_true rfl) dl_1433 ⟨Nat.le_refl _, Nat.le_refl _⟩ (fun z2 M2' H2 locs2 hk2 hz2 hM2 hP2 hkp2 hS => ?_)
  have hP1 := lw_keep hY.2.2.2 hP1 hkp2
  obtain ⟨hzz, hR2⟩ := hEq z1 M1' z2 M2' hk1 hk2
  exact lv_icmp_eq (tgt := 1484) hx hb dl_1436 (by decide) (fun _ => kk _ _ _ _ ⟨hl, hP1, hP2, hM1, hM2, hS⟩ hR2) (fun z => absurd (by rw [hzz]) z)
set_option maxHeartbeats 4000000 in
set_option maxRecDepth 100000 in
theorem lw_case31 (hx : p.tables.exec = Jvm.exec) (hb : c.code = code) (hml : c.maxLocals = 4) (hown : s.vm.findClass "DioceseBookLaw" = some m.cls) (hts : ∀ w ∈ lw_tbl, w.before #[Value.ref b] s = true) (hX : va_X b L xs s s.heap) (hbl : b < s.heap.size) (hA : ∀ q, A q ↔ s.heap.size ≤ q) (hY : lwY ad1 ad2 adV cA D s) (hsim : lwSims Rel) {n : Nat} (hn : n + 7 ≤ L) (hL : L ≤ 3584) {H : Heap} {locs : List Loc} {ls : Array Slot} {M1 M2 : AM} (hI : lwI ad1 ad2 cA D A s b (ad1 0) (ad2 0) n M1 M2 H locs ls) (hR : Rel M1 M2)
    (kk : ∀ (H1 : Heap) (locs1 : List Loc) (M1' M2' : AM), lwI ad1 ad2 cA D A s b (ad1 0) (ad2 0) n M1' M2' H1 locs1 ls → Rel M1' M2' → W p l e room_1 s m #[Value.ref b] below meth c H1 locs1 600000 7302250 QQ (F0 m 1484 ls [])) : W p l e room_1 s m #[Value.ref b] below meth c H locs 600000 7302250 QQ (F0 m 1441 ls []) := by
  obtain ⟨hl, hP1, hP2, hM1, hM2, hS⟩ := id hI
  have hbA : ¬ A b := fun z => by have := (hA b).mp z; omega
  obtain ⟨K1, K2, hE1, hE2, hEq⟩ := (hsim.2.2.2.2.2.2.2.2.2.2.2.2.2.2.2.2.2.2.2.2.2.2.2.2.2.2.2.2.2.2.2 _ _ _ (aR32_of _) (aR32_of _) (aR32_of _) : lwSim Rel 139 110 [aI ((xs (n + 1)).toInt), aI ((xs (n + 2)).toInt), aI ((xs (n + 3)).toInt)]) M1 M2 hR
  refine lv_aload_n hx hb dl_1441 rfl (lv_at hl 2 rfl) ?_
  refine lv_aload_n hx hb dl_1442 rfl (lv_at hl 3 rfl) ?_
  refine lv_iload_n hx hb dl_1443 rfl (lv_at hl 0 rfl) ?_
  refine lv_iconst (v := nI 1) hx hb dl_1444 (by decide) ?_
  refine lv_iadd hx hb dl_1445 ?_
  refine va_sld hx hb hX hbl hbA hS (by rw [nI_add]; exact vp_in_nI (by omega) (by omega)) dl_1446 ?_
  rw [nI_add, nI_clamp (show n + 1 < 2 ^ 31 by omega)]
  refine lv_aload_n hx hb dl_1447 rfl (lv_at hl 3 rfl) ?_
  refine lv_iload_n hx hb dl_1448 rfl (lv_at hl 0 rfl) ?_
  refine lv_iconst (v := nI 2) hx hb dl_1449 (by decide) ?_
  refine lv_iadd hx hb dl_1450 ?_
  refine va_sld hx hb hX hbl hbA hS (by rw [nI_add]; exact vp_in_nI (by omega) (by omega)) dl_1451 ?_
  rw [nI_add, nI_clamp (show n + 2 < 2 ^ 31 by omega)]
  refine lv_aload_n hx hb dl_1452 rfl (lv_at hl 3 rfl) ?_
  refine lv_iload_n hx hb dl_1453 rfl (lv_at hl 0 rfl) ?_
  refine lv_iconst (v := nI 3) hx hb dl_1454 (by decide) ?_
  refine lv_iadd hx hb dl_1455 ?_
  refine va_sld hx hb hX hbl hbA hS (by rw [nI_add]; exact vp_in_nI (by omega) (by omega)) dl_1456 ?_
  rw [nI_add, nI_clamp (show n + 3 < 2 ^ 31 by omega)]
  refine lw_call (hY.1.1) (st_str l) s1_sb hx hb hml hown hts hY.1.2.1 hP1 hS hA hY.1.2.2 hM1 hE1 (by omega) (by decide) (q := 0) rfl rfl rfl (n := 3) rfl (by decide +kernel) (lw_mem 1326 _ (by decide +kernel)) (by intro v hv; simp only [List.mem_cons, List.not_mem_nil, or_false] at hv; rcases hv with rfl | rfl | rfl <;> first | exact aR32_of _ | exact aR64_of _) (rest := []) (by simp only [List.map_cons, List.map_nil, acv, a32_o, lwLong_o]; rfl) hl.1 (Nat.zero_le _) dl_1457 ⟨Nat.le_refl _, Nat.le_refl _⟩ (fun z1 M1' H1 locs1 hk1 hz1 hM1 hP1 hkp1 hS => ?_)
  have hP2 := lw_keep hY.2.2.1 hP2 hkp1
  refine lv_aload_n hx hb dl_1460 rfl (lv_at hl 1 rfl) ?_
  refine lv_aload_n hx hb dl_1461 rfl (lv_at hl 3 rfl) ?_
  refine lv_iload_n hx hb dl_1462 rfl (lv_at hl 0 rfl) ?_
  refine lv_iconst (v := nI 1) hx hb dl_1463 (by decide) ?_
  refine lv_iadd hx hb dl_1464 ?_
  refine va_sld hx hb hX hbl hbA hS (by rw [nI_add]; exact vp_in_nI (by omega) (by omega)) dl_1465 ?_
  rw [nI_add, nI_clamp (show n + 1 < 2 ^ 31 by omega)]
  refine lv_aload_n hx hb dl_1466 rfl (lv_at hl 3 rfl) ?_
  refine lv_iload_n hx hb dl_1467 rfl (lv_at hl 0 rfl) ?_
  refine lv_iconst (v := nI 2) hx hb dl_1468 (by decide) ?_
  refine lv_iadd hx hb dl_1469 ?_
  refine va_sld hx hb hX hbl hbA hS (by rw [nI_add]; exact vp_in_nI (by omega) (by omega)) dl_1470 ?_
  rw [nI_add, nI_clamp (show n + 2 < 2 ^ 31 by omega)]
  refine lv_aload_n hx hb dl_1471 rfl (lv_at hl 3 rfl) ?_
  refine lv_iload_n hx hb dl_1472 rfl (lv_at hl 0 rfl) ?_
  refine lv_iconst (v := nI 3) hx hb dl_1473 (by decide) ?_
  refine lv_iadd hx hb dl_1474 ?_
  refine va_sld hx hb hX hbl hbA hS (by rw [nI_add]; exact vp_in_nI (by omega) (by omega)) dl_1475 ?_
  rw [nI_add, nI_clamp (show n + 3 < 2 ^ 31 by omega)]
  refine lw_call (hY.2.1.1) (st_str2 l) s2_sb hx hb hml hown hts hY.2.1.2.1 hP2 hS hA hY.2.1.2.2 hM2 hE2 (by omega) (by decide) (q := 0) rfl rfl rfl (n := 3) rfl (by decide +kernel) (lw_mem 2091 _ (by decide +kernel)) (by intro v hv; simp only [List.mem_cons, List.not_mem_nil, or_false] at hv; rcases hv with rfl | rfl | rfl <;> first | exact aR32_of _ | exact aR64_of _) (rest := [.int (Int32.ofInt z1)]) (by simp only [List.map_cons, List.map_nil, acv, a32_o, lwLong_o]; rfl) hl.1 (Nat.le_of_ble_eq_true rfl) dl_1476 ⟨Nat.le_refl _, Nat.le_refl _⟩ (fun z2 M2' H2 locs2 hk2 hz2 hM2 hP2 hkp2 hS => ?_)
  have hP1 := lw_keep hY.2.2.2 hP1 hkp2
  obtain ⟨hzz, hR2⟩ := hEq z1 M1' z2 M2' hk1 hk2
  exact lv_icmp_eq (tgt := 1484) hx hb dl_1479 (by decide) (fun _ => kk _ _ _ _ ⟨hl, hP1, hP2, hM1, hM2, hS⟩ hR2) (fun z => absurd (by rw [hzz]) z)
end LWK
