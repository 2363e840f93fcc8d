/-! the law: cases 0 to 3 -/
section LWK
variable {p : Program} {l : Launch} {e : Env} {s : State} {m : MethodId} {below : List Frame} {meth : Method} {c : Code} {b L : Nat} {xs : Nat → Int32} {ad1 ad2 adV : Nat → Nat} {cA : Nat → ClassId} {D : va_G} {Rel : AM → AM → Prop} {A : Nat → Prop} {QQ : State → Prop}

set_option maxHeartbeats 4000000 in
set_option maxRecDepth 100000 in
theorem lw_case0 (hx : p.tables.exec = Jvm.exec) (hb : c.code = code) (hml : c.maxLocals = 4) (hown : s.vm.findClass "DioceseBookLaw" = some m.cls) (hts : ∀ w ∈ lw_tbl, w.before #[Value.ref b] s = true) (hX : va_X b L xs s s.heap) (hbl : b < s.heap.size) (hA : ∀ q, A q ↔ s.heap.size ≤ q) (hY : lwY ad1 ad2 adV cA D s) (hsim : lwSims Rel) {n : Nat} (hn : n + 7 ≤ L) (hL : L ≤ 3584) {H : Heap} {locs : List Loc} {ls : Array Slot} {M1 M2 : AM} (hI : lwI ad1 ad2 cA D A s b (ad1 0) (ad2 0) n M1 M2 H locs ls) (hR : Rel M1 M2)
    (kk : ∀ (H1 : Heap) (locs1 : List Loc) (M1' M2' : AM), lwI ad1 ad2 cA D A s b (ad1 0) (ad2 0) n M1' M2' H1 locs1 ls → Rel M1' M2' → W p l e room_1 s m #[Value.ref b] below meth c H1 locs1 600000 7302250 QQ (F0 m 1484 ls [])) : W p l e room_1 s m #[Value.ref b] below meth c H locs 600000 7302250 QQ (F0 m 176 ls []) := by
  obtain ⟨hl, hP1, hP2, hM1, hM2, hS⟩ := id hI
  have hbA : ¬ A b := fun z => by have := (hA b).mp z; omega
  obtain ⟨K1, K2, hE1, hE2, hEq⟩ := (hsim.1 _ (aR32_of _) : lwSim Rel 107 7 [aI ((xs (n + 1)).toInt)]) M1 M2 hR
  refine lv_aload_n hx hb dl_176 rfl (lv_at hl 2 rfl) ?_
  refine lv_aload_n hx hb dl_177 rfl (lv_at hl 3 rfl) ?_
  refine lv_iload_n hx hb dl_178 rfl (lv_at hl 0 rfl) ?_
  refine lv_iconst (v := nI 1) hx hb dl_179 (by decide) ?_
  refine lv_iadd hx hb dl_180 ?_
  refine va_sld hx hb hX hbl hbA hS (by rw [nI_add]; exact vp_in_nI (by omega) (by omega)) dl_181 ?_
  rw [nI_add, nI_clamp (show n + 1 < 2 ^ 31 by omega)]
  refine lw_call (hY.1.1) (st_str l) s1_sb hx hb hml hown hts hY.1.2.1 hP1 hS hA hY.1.2.2 hM1 hE1 (by omega) (by decide) (q := 0) rfl rfl rfl (n := 1) rfl (by decide +kernel) (lw_mem 627 _ (by decide +kernel)) (by intro v hv; simp only [List.mem_cons, List.not_mem_nil, or_false] at hv; rcases hv with rfl <;> first | exact aR32_of _ | exact aR64_of _) (rest := []) (by simp only [List.map_cons, List.map_nil, acv, a32_o, lwLong_o]; rfl) hl.1 (Nat.zero_le _) dl_182 ⟨Nat.le_refl _, Nat.le_refl _⟩ (fun z1 M1' H1 locs1 hk1 hz1 hM1 hP1 hkp1 hS => ?_)
  have hP2 := lw_keep hY.2.2.1 hP2 hkp1
  refine lv_aload_n hx hb dl_185 rfl (lv_at hl 1 rfl) ?_
  refine lv_aload_n hx hb dl_186 rfl (lv_at hl 3 rfl) ?_
  refine lv_iload_n hx hb dl_187 rfl (lv_at hl 0 rfl) ?_
  refine lv_iconst (v := nI 1) hx hb dl_188 (by decide) ?_
  refine lv_iadd hx hb dl_189 ?_
  refine va_sld hx hb hX hbl hbA hS (by rw [nI_add]; exact vp_in_nI (by omega) (by omega)) dl_190 ?_
  rw [nI_add, nI_clamp (show n + 1 < 2 ^ 31 by omega)]
  refine lw_call (hY.2.1.1) (st_str2 l) s2_sb hx hb hml hown hts hY.2.1.2.1 hP2 hS hA hY.2.1.2.2 hM2 hE2 (by omega) (by decide) (q := 0) rfl rfl rfl (n := 1) rfl (by decide +kernel) (lw_mem 1660 _ (by decide +kernel)) (by intro v hv; simp only [List.mem_cons, List.not_mem_nil, or_false] at hv; rcases hv with rfl <;> first | exact aR32_of _ | exact aR64_of _) (rest := [.int (Int32.ofInt z1)]) (by simp only [List.map_cons, List.map_nil, acv, a32_o, lwLong_o]; rfl) hl.1 (Nat.le_of_ble_eq_true rfl) dl_191 ⟨Nat.le_refl _, Nat.le_refl _⟩ (fun z2 M2' H2 locs2 hk2 hz2 hM2 hP2 hkp2 hS => ?_)
  have hP1 := lw_keep hY.2.2.2 hP1 hkp2
  obtain ⟨hzz, hR2⟩ := hEq z1 M1' z2 M2' hk1 hk2
  exact lv_icmp_eq (tgt := 1484) hx hb dl_194 (by decide) (fun _ => kk _ _ _ _ ⟨hl, hP1, hP2, hM1, hM2, hS⟩ hR2) (fun z => absurd (by rw [hzz]) z)
set_option maxHeartbeats 4000000 in
set_option maxRecDepth 100000 in
theorem lw_case1 (hx : p.tables.exec = Jvm.exec) (hb : c.code = code) (hml : c.maxLocals = 4) (hown : s.vm.findClass "DioceseBookLaw" = some m.cls) (hts : ∀ w ∈ lw_tbl, w.before #[Value.ref b] s = true) (hX : va_X b L xs s s.heap) (hbl : b < s.heap.size) (hA : ∀ q, A q ↔ s.heap.size ≤ q) (hY : lwY ad1 ad2 adV cA D s) (hsim : lwSims Rel) {n : Nat} (hn : n + 7 ≤ L) (hL : L ≤ 3584) {H : Heap} {locs : List Loc} {ls : Array Slot} {M1 M2 : AM} (hI : lwI ad1 ad2 cA D A s b (ad1 0) (ad2 0) n M1 M2 H locs ls) (hR : Rel M1 M2)
    (kk : ∀ (H1 : Heap) (locs1 : List Loc) (M1' M2' : AM), lwI ad1 ad2 cA D A s b (ad1 0) (ad2 0) n M1' M2' H1 locs1 ls → Rel M1' M2' → W p l e room_1 s m #[Value.ref b] below meth c H1 locs1 600000 7302250 QQ (F0 m 1484 ls [])) : W p l e room_1 s m #[Value.ref b] below meth c H locs 600000 7302250 QQ (F0 m 199 ls []) := by
  obtain ⟨hl, hP1, hP2, hM1, hM2, hS⟩ := id hI
  have hbA : ¬ A b := fun z => by have := (hA b).mp z; omega
  obtain ⟨K1, K2, hE1, hE2, hEq⟩ := (hsim.2.1 _ (aR32_of _) : lwSim Rel 108 8 [aI ((xs (n + 1)).toInt)]) M1 M2 hR
  refine lv_aload_n hx hb dl_199 rfl (lv_at hl 2 rfl) ?_
  refine lv_aload_n hx hb dl_200 rfl (lv_at hl 3 rfl) ?_
  refine lv_iload_n hx hb dl_201 rfl (lv_at hl 0 rfl) ?_
  refine lv_iconst (v := nI 1) hx hb dl_202 (by decide) ?_
  refine lv_iadd hx hb dl_203 ?_
  refine va_sld hx hb hX hbl hbA hS (by rw [nI_add]; exact vp_in_nI (by omega) (by omega)) dl_204 ?_
  rw [nI_add, nI_clamp (show n + 1 < 2 ^ 31 by omega)]
  refine lw_call (hY.1.1) (st_str l) s1_sb hx hb hml hown hts hY.1.2.1 hP1 hS hA hY.1.2.2 hM1 hE1 (by omega) (by decide) (q := 0) rfl rfl rfl (n := 1) rfl (by decide +kernel) (lw_mem 636 _ (by decide +kernel)) (by intro v hv; simp only [List.mem_cons, List.not_mem_nil, or_false] at hv; rcases hv with rfl <;> first | exact aR32_of _ | exact aR64_of _) (rest := []) (by simp only [List.map_cons, List.map_nil, acv, a32_o, lwLong_o]; rfl) hl.1 (Nat.zero_le _) dl_205 ⟨Nat.le_refl _, Nat.le_refl _⟩ (fun z1 M1' H1 locs1 hk1 hz1 hM1 hP1 hkp1 hS => ?_)
  have hP2 := lw_keep hY.2.2.1 hP2 hkp1
  refine lv_aload_n hx hb dl_208 rfl (lv_at hl 1 rfl) ?_
  refine lv_aload_n hx hb dl_209 rfl (lv_at hl 3 rfl) ?_
  refine lv_iload_n hx hb dl_210 rfl (lv_at hl 0 rfl) ?_
  refine lv_iconst (v := nI 1) hx hb dl_211 (by decide) ?_
  refine lv_iadd hx hb dl_212 ?_
  refine va_sld hx hb hX hbl hbA hS (by rw [nI_add]; exact vp_in_nI (by omega) (by omega)) dl_213 ?_
  rw [nI_add, nI_clamp (show n + 1 < 2 ^ 31 by omega)]
  refine lw_call (hY.2.1.1) (st_str2 l) s2_sb hx hb hml hown hts hY.2.1.2.1 hP2 hS hA hY.2.1.2.2 hM2 hE2 (by omega) (by decide) (q := 0) rfl rfl rfl (n := 1) rfl (by decide +kernel) (lw_mem 1670 _ (by decide +kernel)) (by intro v hv; simp only [List.mem_cons, List.not_mem_nil, or_false] at hv; rcases hv with rfl <;> first | exact aR32_of _ | exact aR64_of _) (rest := [.int (Int32.ofInt z1)]) (by simp only [List.map_cons, List.map_nil, acv, a32_o, lwLong_o]; rfl) hl.1 (Nat.le_of_ble_eq_true rfl) dl_214 ⟨Nat.le_refl _, Nat.le_refl _⟩ (fun z2 M2' H2 locs2 hk2 hz2 hM2 hP2 hkp2 hS => ?_)
  have hP1 := lw_keep hY.2.2.2 hP1 hkp2
  obtain ⟨hzz, hR2⟩ := hEq z1 M1' z2 M2' hk1 hk2
  exact lv_icmp_eq (tgt := 1484) hx hb dl_217 (by decide) (fun _ => kk _ _ _ _ ⟨hl, hP1, hP2, hM1, hM2, hS⟩ hR2) (fun z => absurd (by rw [hzz]) z)
set_option maxHeartbeats 4000000 in
set_option maxRecDepth 100000 in
theorem lw_case2 (hx : p.tables.exec = Jvm.exec) (hb : c.code = code) (hml : c.maxLocals = 4) (hown : s.vm.findClass "DioceseBookLaw" = some m.cls) (hts : ∀ w ∈ lw_tbl, w.before #[Value.ref b] s = true) (hX : va_X b L xs s s.heap) (hbl : b < s.heap.size) (hA : ∀ q, A q ↔ s.heap.size ≤ q) (hY : lwY ad1 ad2 adV cA D s) (hsim : lwSims Rel) {n : Nat} (hn : n + 7 ≤ L) (hL : L ≤ 3584) {H : Heap} {locs : List Loc} {ls : Array Slot} {M1 M2 : AM} (hI : lwI ad1 ad2 cA D A s b (ad1 0) (ad2 0) n M1 M2 H locs ls) (hR : Rel M1 M2)
    (kk : ∀ (H1 : Heap) (locs1 : List Loc) (M1' M2' : AM), lwI ad1 ad2 cA D A s b (ad1 0) (ad2 0) n M1' M2' H1 locs1 ls → Rel M1' M2' → W p l e room_1 s m #[Value.ref b] below meth c H1 locs1 600000 7302250 QQ (F0 m 1484 ls [])) : W p l e room_1 s m #[Value.ref b] below meth c H locs 600000 7302250 QQ (F0 m 222 ls []) := by
  obtain ⟨hl, hP1, hP2, hM1, hM2, hS⟩ := id hI
  have hbA : ¬ A b := fun z => by have := (hA b).mp z; omega
  obtain ⟨K1, K2, hE1, hE2, hEq⟩ := (hsim.2.2.1 _ _ _ (aR32_of _) (aR32_of _) (aR32_of _) : lwSim Rel 109 9 [aI ((xs (n + 1)).toInt), aI ((xs (n + 2)).toInt), aI ((xs (n + 3)).toInt)]) M1 M2 hR
  refine lv_aload_n hx hb dl_222 rfl (lv_at hl 2 rfl) ?_
  refine lv_aload_n hx hb dl_223 rfl (lv_at hl 3 rfl) ?_
  refine lv_iload_n hx hb dl_224 rfl (lv_at hl 0 rfl) ?_
  refine lv_iconst (v := nI 1) hx hb dl_225 (by decide) ?_
  refine lv_iadd hx hb dl_226 ?_
  refine va_sld hx hb hX hbl hbA hS (by rw [nI_add]; exact vp_in_nI (by omega) (by omega)) dl_227 ?_
  rw [nI_add, nI_clamp (show n + 1 < 2 ^ 31 by omega)]
  refine lv_aload_n hx hb dl_228 rfl (lv_at hl 3 rfl) ?_
  refine lv_iload_n hx hb dl_229 rfl (lv_at hl 0 rfl) ?_
  refine lv_iconst (v := nI 2) hx hb dl_230 (by decide) ?_
  refine lv_iadd hx hb dl_231 ?_
  refine va_sld hx hb hX hbl hbA hS (by rw [nI_add]; exact vp_in_nI (by omega) (by omega)) dl_232 ?_
  rw [nI_add, nI_clamp (show n + 2 < 2 ^ 31 by omega)]
  refine lv_aload_n hx hb dl_233 rfl (lv_at hl 3 rfl) ?_
  refine lv_iload_n hx hb dl_234 rfl (lv_at hl 0 rfl) ?_
  refine lv_iconst (v := nI 3) hx hb dl_235 (by decide) ?_
  refine lv_iadd hx hb dl_236 ?_
  refine va_sld hx hb hX hbl hbA hS (by rw [nI_add]; exact vp_in_nI (by omega) (by omega)) dl_237 ?_
  rw [nI_add, nI_clamp (show n + 3 < 2 ^ 31 by omega)]
  refine lw_call (hY.1.1) (st_str l) s1_sb hx hb hml hown hts hY.1.2.1 hP1 hS hA hY.1.2.2 hM1 hE1 (by omega) (by decide) (q := 0) rfl rfl rfl (n := 3) rfl (by decide +kernel) (lw_mem 645 _ (by decide +kernel)) (by intro v hv; simp only [List.mem_cons, List.not_mem_nil, or_false] at hv; rcases hv with rfl | rfl | rfl <;> first | exact aR32_of _ | exact aR64_of _) (rest := []) (by simp only [List.map_cons, List.map_nil, acv, a32_o, lwLong_o]; rfl) hl.1 (Nat.zero_le _) dl_238 ⟨Nat.le_refl _, Nat.le_refl _⟩ (fun z1 M1' H1 locs1 hk1 hz1 hM1 hP1 hkp1 hS => ?_)
  have hP2 := lw_keep hY.2.2.1 hP2 hkp1
  refine lv_aload_n hx hb dl_241 rfl (lv_at hl 1 rfl) ?_
  refine lv_aload_n hx hb dl_242 rfl (lv_at hl 3 rfl) ?_
  refine lv_iload_n hx hb dl_243 rfl (lv_at hl 0 rfl) ?_
  refine lv_iconst (v := nI 1) hx hb dl_244 (by decide) ?_
  refine lv_iadd hx hb dl_245 ?_
  refine va_sld hx hb hX hbl hbA hS (by rw [nI_add]; exact vp_in_nI (by omega) (by omega)) dl_246 ?_
  rw [nI_add, nI_clamp (show n + 1 < 2 ^ 31 by omega)]
  refine lv_aload_n hx hb dl_247 rfl (lv_at hl 3 rfl) ?_
  refine lv_iload_n hx hb dl_248 rfl (lv_at hl 0 rfl) ?_
  refine lv_iconst (v := nI 2) hx hb dl_249 (by decide) ?_
  refine lv_iadd hx hb dl_250 ?_
  refine va_sld hx hb hX hbl hbA hS (by rw [nI_add]; exact vp_in_nI (by omega) (by omega)) dl_251 ?_
  rw [nI_add, nI_clamp (show n + 2 < 2 ^ 31 by omega)]
  refine lv_aload_n hx hb dl_252 rfl (lv_at hl 3 rfl) ?_
  refine lv_iload_n hx hb dl_253 rfl (lv_at hl 0 rfl) ?_
  refine lv_iconst (v := nI 3) hx hb dl_254 (by decide) ?_
  refine lv_iadd hx hb dl_255 ?_
  refine va_sld hx hb hX hbl hbA hS (by rw [nI_add]; exact vp_in_nI (by omega) (by omega)) dl_256 ?_
  rw [nI_add, nI_clamp (show n + 3 < 2 ^ 31 by omega)]
  refine lw_call (hY.2.1.1) (st_str2 l) s2_sb hx hb hml hown hts hY.2.1.2.1 hP2 hS hA hY.2.1.2.2 hM2 hE2 (by omega) (by decide) (q := 0) rfl rfl rfl (n := 3) rfl (by decide +kernel) (lw_mem 1675 _ (by decide +kernel)) (by intro v hv; simp only [List.mem_cons, List.not_mem_nil, or_false] at hv; rcases hv with rfl | rfl | rfl <;> first | exact aR32_of _ | exact aR64_of _) (rest := [.int (Int32.ofInt z1)]) (by simp only [List.map_cons, List.map_nil, acv, a32_o, lwLong_o]; rfl) hl.1 (Nat.le_of_ble_eq_true rfl) dl_257 ⟨Nat.le_refl _, Nat.le_refl _⟩ (fun z2 M2' H2 locs2 hk2 hz2 hM2 hP2 hkp2 hS => ?_)
  have hP1 := lw_keep hY.2.2.2 hP1 hkp2
  obtain ⟨hzz, hR2⟩ := hEq z1 M1' z2 M2' hk1 hk2
  exact lv_icmp_eq (tgt := 1484) hx hb dl_260 (by decide) (fun _ => kk _ _ _ _ ⟨hl, hP1, hP2, hM1, hM2, hS⟩ hR2) (fun z => absurd (by rw [hzz]) z)
set_option maxHeartbeats 4000000 in
set_option maxRecDepth 100000 in
theorem lw_case3 (hx : p.tables.exec = Jvm.exec) (hb : c.code = code) (hml : c.maxLocals = 4) (hown : s.vm.findClass "DioceseBookLaw" = some m.cls) (hts : ∀ w ∈ lw_tbl, w.before #[Value.ref b] s = true) (hX : va_X b L xs s s.heap) (hbl : b < s.heap.size) (hA : ∀ q, A q ↔ s.heap.size ≤ q) (hY : lwY ad1 ad2 adV cA D s) (hsim : lwSims Rel) {n : Nat} (hn : n + 7 ≤ L) (hL : L ≤ 3584) {H : Heap} {locs : List Loc} {ls : Array Slot} {M1 M2 : AM} (hI : lwI ad1 ad2 cA D A s b (ad1 0) (ad2 0) n M1 M2 H locs ls) (hR : Rel M1 M2)
    (kk : ∀ (H1 : Heap) (locs1 : List Loc) (M1' M2' : AM), lwI ad1 ad2 cA D A s b (ad1 0) (ad2 0) n M1' M2' H1 locs1 ls → Rel M1' M2' → W p l e room_1 s m #[Value.ref b] below meth c H1 locs1 600000 7302250 QQ (F0 m 1484 ls [])) : W p l e room_1 s m #[Value.ref b] below meth c H locs 600000 7302250 QQ (F0 m 265 ls []) := by
  obtain ⟨hl, hP1, hP2, hM1, hM2, hS⟩ := id hI
  have hbA : ¬ A b := fun z => by have := (hA b).mp z; omega
  obtain ⟨K1, K2, hE1, hE2, hEq⟩ := (hsim.2.2.2.1 _ _ _ (aR32_of _) (aR32_of _) (aR32_of _) : lwSim Rel 110 11 [aI ((xs (n + 1)).toInt), aI ((xs (n + 2)).toInt), aI ((xs (n + 3)).toInt)]) M1 M2 hR
  refine lv_aload_n hx hb dl_265 rfl (lv_at hl 2 rfl) ?_
  refine lv_aload_n hx hb dl_266 rfl (lv_at hl 3 rfl) ?_
  refine lv_iload_n hx hb dl_267 rfl (lv_at hl 0 rfl) ?_
  refine lv_iconst (v := nI 1) hx hb dl_268 (by decide) ?_
  refine lv_iadd hx hb dl_269 ?_
  refine va_sld hx hb hX hbl hbA hS (by rw [nI_add]; exact vp_in_nI (by omega) (by omega)) dl_270 ?_
  rw [nI_add, nI_clamp (show n + 1 < 2 ^ 31 by omega)]
  refine lv_aload_n hx hb dl_271 rfl (lv_at hl 3 rfl) ?_
  refine lv_iload_n hx hb dl_272 rfl (lv_at hl 0 rfl) ?_
  refine lv_iconst (v := nI 2) hx hb dl_273 (by decide) ?_
  refine lv_iadd hx hb dl_274 ?_
  refine va_sld hx hb hX hbl hbA hS (by rw [nI_add]; exact vp_in_nI (by omega) (by omega)) dl_275 ?_
  rw [nI_add, nI_clamp (show n + 2 < 2 ^ 31 by omega)]
  refine lv_aload_n hx hb dl_276 rfl (lv_at hl 3 rfl) ?_
  refine lv_iload_n hx hb dl_277 rfl (lv_at hl 0 rfl) ?_
  refine lv_iconst (v := nI 3) hx hb dl_278 (by decide) ?_
  refine lv_iadd hx hb dl_279 ?_
  refine va_sld hx hb hX hbl hbA hS (by rw [nI_add]; exact vp_in_nI (by omega) (by omega)) dl_280 ?_
  rw [nI_add, nI_clamp (show n + 3 < 2 ^ 31 by omega)]
  refine lw_call (hY.1.1) (st_str l) s1_sb hx hb hml hown hts hY.1.2.1 hP1 hS hA hY.1.2.2 hM1 hE1 (by omega) (by decide) (q := 0) rfl rfl rfl (n := 3) rfl (by decide +kernel) (lw_mem 656 _ (by decide +kernel)) (by intro v hv; simp only [List.mem_cons, List.not_mem_nil, or_false] at hv; rcases hv with rfl | rfl | rfl <;> first | exact aR32_of _ | exact aR64_of _) (rest := []) (by simp only [List.map_cons, List.map_nil, acv, a32_o, lwLong_o]; rfl) hl.1 (Nat.zero_le _) dl_281 ⟨Nat.le_refl _, Nat.le_refl _⟩ (fun z1 M1' H1 locs1 hk1 hz1 hM1 hP1 hkp1 hS => ?_)
  have hP2 := lw_keep hY.2.2.1 hP2 hkp1
  refine lv_aload_n hx hb dl_284 rfl (lv_at hl 1 rfl) ?_
  refine lv_aload_n hx hb dl_285 rfl (lv_at hl 3 rfl) ?_
  refine lv_iload_n hx hb dl_286 rfl (lv_at hl 0 rfl) ?_
  refine lv_iconst (v := nI 1) hx hb dl_287 (by decide) ?_
  refine lv_iadd hx hb dl_288 ?_
  refine va_sld hx hb hX hbl hbA hS (by rw [nI_add]; exact vp_in_nI (by omega) (by omega)) dl_289 ?_
  rw [nI_add, nI_clamp (show n + 1 < 2 ^ 31 by omega)]
  refine lv_aload_n hx hb dl_290 rfl (lv_at hl 3 rfl) ?_
  refine lv_iload_n hx hb dl_291 rfl (lv_at hl 0 rfl) ?_
  refine lv_iconst (v := nI 2) hx hb dl_292 (by decide) ?_
  refine lv_iadd hx hb dl_293 ?_
  refine va_sld hx hb hX hbl hbA hS (by rw [nI_add]; exact vp_in_nI (by omega) (by omega)) dl_294 ?_
  rw [nI_add, nI_clamp (show n + 2 < 2 ^ 31 by omega)]
  refine lv_aload_n hx hb dl_295 rfl (lv_at hl 3 rfl) ?_
  refine lv_iload_n hx hb dl_296 rfl (lv_at hl 0 rfl) ?_
  refine lv_iconst (v := nI 3) hx hb dl_297 (by decide) ?_
  refine lv_iadd hx hb dl_298 ?_
  refine va_sld hx hb hX hbl hbA hS (by rw [nI_add]; exact vp_in_nI (by omega) (by omega)) dl_299 ?_
  rw [nI_add, nI_clamp (show n + 3 < 2 ^ 31 by omega)]
  refine lw_call (hY.2.1.1) (st_str2 l) s2_sb hx hb hml hown hts hY.2.1.2.1 hP2 hS hA hY.2.1.2.2 hM2 hE2 (by omega) (by decide) (q := 0) rfl rfl rfl (n := 3) rfl (by decide +kernel) (lw_mem 1682 _ (by decide +kernel)) (by intro v hv; simp only [List.mem_cons, List.not_mem_nil, or_false] at hv; rcases hv with rfl | rfl | rfl <;> first | exact aR32_of _ | exact aR64_of _) (rest := [.int (Int32.ofInt z1)]) (by simp only [List.map_cons, List.map_nil, acv, a32_o, lwLong_o]; rfl) hl.1 (Nat.le_of_ble_eq_true rfl) dl_300 ⟨Nat.le_refl _, Nat.le_refl _⟩ (fun z2 M2' H2 locs2 hk2 hz2 hM2 hP2 hkp2 hS => ?_)
  have hP1 := lw_keep hY.2.2.2 hP1 hkp2
  obtain ⟨hzz, hR2⟩ := hEq z1 M1' z2 M2' hk1 hk2
  exact lv_icmp_eq (tgt := 1484) hx hb dl_303 (by decide) (fun _ => kk _ _ _ _ ⟨hl, hP1, hP2, hM1, hM2, hS⟩ hR2) (fun z => absurd (by rw [hzz]) z)
end LWK
