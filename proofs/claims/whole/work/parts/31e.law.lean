/-! the law: cases 12 to 15 -/
section LWK
variable {p : Program} {l : Launch} {e : Env} {s : State} {m : MethodId} {below : List Frame} {meth : Method} {c : Code} {b L : Nat} {xs : Nat → Int32} {ad1 ad2 adV : Nat → Nat} {cA : Nat → ClassId} {D : va_G} {Rel : AM → AM → Prop} {A : Nat → Prop} {QQ : State → Prop}

set_option maxHeartbeats 4000000 in
set_option maxRecDepth 100000 in
theorem lw_case12 (hx : p.tables.exec = Jvm.exec) (hb : c.code = code) (hml : c.maxLocals = 4) (hown : s.vm.findClass "DioceseBookLaw" = some m.cls) (hts : ∀ w ∈ lw_tbl, w.before #[Value.ref b] s = true) (hX : va_X b L xs s s.heap) (hbl : b < s.heap.size) (hA : ∀ q, A q ↔ s.heap.size ≤ q) (hY : lwY ad1 ad2 adV cA D s) (hsim : lwSims Rel) {n : Nat} (hn : n + 7 ≤ L) (hL : L ≤ 3584) {H : Heap} {locs : List Loc} {ls : Array Slot} {M1 M2 : AM} (hI : lwI ad1 ad2 cA D A s b (ad1 0) (ad2 0) n M1 M2 H locs ls) (hR : Rel M1 M2)
    (kk : ∀ (H1 : Heap) (locs1 : List Loc) (M1' M2' : AM), lwI ad1 ad2 cA D A s b (ad1 0) (ad2 0) n M1' M2' H1 locs1 ls → Rel M1' M2' → W p l e room_1 s m #[Value.ref b] below meth c H1 locs1 600000 7302250 QQ (F0 m 1484 ls [])) : W p l e room_1 s m #[Value.ref b] below meth c H locs 600000 7302250 QQ (F0 m 614 ls []) := by
  obtain ⟨hl, hP1, hP2, hM1, hM2, hS⟩ := id hI
  have hbA : ¬ A b := fun z => by have := (hA b).mp z; omega
  obtain ⟨K1, K2, hE1, hE2, hEq⟩ := (hsim.2.2.2.2.2.2.2.2.2.2.2.2.1 _ _ _ (aR32_of _) (aR32_of _) (aR32_of _) : lwSim Rel 119 48 [aI ((xs (n + 1)).toInt), aI ((xs (n + 2)).toInt), aI ((xs (n + 3)).toInt)]) M1 M2 hR
  refine lv_aload_n hx hb dl_614 rfl (lv_at hl 2 rfl) ?_
  refine lv_aload_n hx hb dl_615 rfl (lv_at hl 3 rfl) ?_
  refine lv_iload_n hx hb dl_616 rfl (lv_at hl 0 rfl) ?_
  refine lv_iconst (v := nI 1) hx hb dl_617 (by decide) ?_
  refine lv_iadd hx hb dl_618 ?_
  refine va_sld hx hb hX hbl hbA hS (by rw [nI_add]; exact vp_in_nI (by omega) (by omega)) dl_619 ?_
  rw [nI_add, nI_clamp (show n + 1 < 2 ^ 31 by omega)]
  refine lv_aload_n hx hb dl_620 rfl (lv_at hl 3 rfl) ?_
  refine lv_iload_n hx hb dl_621 rfl (lv_at hl 0 rfl) ?_
  refine lv_iconst (v := nI 2) hx hb dl_622 (by decide) ?_
  refine lv_iadd hx hb dl_623 ?_
  refine va_sld hx hb hX hbl hbA hS (by rw [nI_add]; exact vp_in_nI (by omega) (by omega)) dl_624 ?_
  rw [nI_add, nI_clamp (show n + 2 < 2 ^ 31 by omega)]
  refine lv_aload_n hx hb dl_625 rfl (lv_at hl 3 rfl) ?_
  refine lv_iload_n hx hb dl_626 rfl (lv_at hl 0 rfl) ?_
  refine lv_iconst (v := nI 3) hx hb dl_627 (by decide) ?_
  refine lv_iadd hx hb dl_628 ?_
  refine va_sld hx hb hX hbl hbA hS (by rw [nI_add]; exact vp_in_nI (by omega) (by omega)) dl_629 ?_
  rw [nI_add, nI_clamp (show n + 3 < 2 ^ 31 by omega)]
  refine lw_call (hY.1.1) (st_str l) s1_sb hx hb hml hown hts hY.1.2.1 hP1 hS hA hY.1.2.2 hM1 hE1 (by omega) (by decide) (q := 0) rfl rfl rfl (n := 3) rfl (by decide +kernel) (lw_mem 1082 _ (by decide +kernel)) (by intro v hv; simp only [List.mem_cons, List.not_mem_nil, or_false] at hv; rcases hv with rfl | rfl | rfl <;> first | exact aR32_of _ | exact aR64_of _) (rest := []) (by simp only [List.map_cons, List.map_nil, acv, a32_o, lwLong_o]; rfl) hl.1 (Nat.zero_le _) dl_630 ⟨Nat.le_refl _, Nat.le_refl _⟩ (fun z1 M1' H1 locs1 hk1 hz1 hM1 hP1 hkp1 hS => ?_)
  have hP2 := lw_keep hY.2.2.1 hP2 hkp1
  refine lv_aload_n hx hb dl_633 rfl (lv_at hl 1 rfl) ?_
  refine lv_aload_n hx hb dl_634 rfl (lv_at hl 3 rfl) ?_
  refine lv_iload_n hx hb dl_635 rfl (lv_at hl 0 rfl) ?_
  refine lv_iconst (v := nI 1) hx hb dl_636 (by decide) ?_
  refine lv_iadd hx hb dl_637 ?_
  refine va_sld hx hb hX hbl hbA hS (by rw [nI_add]; exact vp_in_nI (by omega) (by omega)) dl_638 ?_
  rw [nI_add, nI_clamp (show n + 1 < 2 ^ 31 by omega)]
  refine lv_aload_n hx hb dl_639 rfl (lv_at hl 3 rfl) ?_
  refine lv_iload_n hx hb dl_640 rfl (lv_at hl 0 rfl) ?_
  refine lv_iconst (v := nI 2) hx hb dl_641 (by decide) ?_
  refine lv_iadd hx hb dl_642 ?_
  refine va_sld hx hb hX hbl hbA hS (by rw [nI_add]; exact vp_in_nI (by omega) (by omega)) dl_643 ?_
  rw [nI_add, nI_clamp (show n + 2 < 2 ^ 31 by omega)]
  refine lv_aload_n hx hb dl_644 rfl (lv_at hl 3 rfl) ?_
  refine lv_iload_n hx hb dl_645 rfl (lv_at hl 0 rfl) ?_
  refine lv_iconst (v := nI 3) hx hb dl_646 (by decide) ?_
  refine lv_iadd hx hb dl_647 ?_
  refine va_sld hx hb hX hbl hbA hS (by rw [nI_add]; exact vp_in_nI (by omega) (by omega)) dl_648 ?_
  rw [nI_add, nI_clamp (show n + 3 < 2 ^ 31 by omega)]
  refine lw_call (hY.2.1.1) (st_str2 l) s2_sb hx hb hml hown hts hY.2.1.2.1 hP2 hS hA hY.2.1.2.2 hM2 hE2 (by omega) (by decide) (q := 0) rfl rfl rfl (n := 3) rfl (by decide +kernel) (lw_mem 1839 _ (by decide +kernel)) (by intro v hv; simp only [List.mem_cons, List.not_mem_nil, or_false] at hv; rcases hv with rfl | rfl | rfl <;> first | exact aR32_of _ | exact aR64_of _) (rest := [.int (Int32.ofInt z1)]) (by simp only [List.map_cons, List.map_nil, acv, a32_o, lwLong_o]; rfl) hl.1 (Nat.le_of_ble_eq_true rfl) dl_649 ⟨Nat.le_refl _, Nat.le_refl _⟩ (fun z2 M2' H2 locs2 hk2 hz2 hM2 hP2 hkp2 hS => ?_)
  have hP1 := lw_keep hY.2.2.2 hP1 hkp2
  obtain ⟨hzz, hR2⟩ := hEq z1 M1' z2 M2' hk1 hk2
  exact lv_icmp_eq (tgt := 1484) hx hb dl_652 (by decide) (fun _ => kk _ _ _ _ ⟨hl, hP1, hP2, hM1, hM2, hS⟩ hR2) (fun z => absurd (by rw [hzz]) z)
set_option maxHeartbeats 4000000 in
set_option maxRecDepth 100000 in
theorem lw_case13 (hx : p.tables.exec = Jvm.exec) (hb : c.code = code) (hml : c.maxLocals = 4) (hown : s.vm.findClass "DioceseBookLaw" = some m.cls) (hts : ∀ w ∈ lw_tbl, w.before #[Value.ref b] s = true) (hX : va_X b L xs s s.heap) (hbl : b < s.heap.size) (hA : ∀ q, A q ↔ s.heap.size ≤ q) (hY : lwY ad1 ad2 adV cA D s) (hsim : lwSims Rel) {n : Nat} (hn : n + 7 ≤ L) (hL : L ≤ 3584) {H : Heap} {locs : List Loc} {ls : Array Slot} {M1 M2 : AM} (hI : lwI ad1 ad2 cA D A s b (ad1 0) (ad2 0) n M1 M2 H locs ls) (hR : Rel M1 M2)
    (kk : ∀ (H1 : Heap) (locs1 : List Loc) (M1' M2' : AM), lwI ad1 ad2 cA D A s b (ad1 0) (ad2 0) n M1' M2' H1 locs1 ls → Rel M1' M2' → W p l e room_1 s m #[Value.ref b] below meth c H1 locs1 600000 7302250 QQ (F0 m 1484 ls [])) : W p l e room_1 s m #[Value.ref b] below meth c H locs 600000 7302250 QQ (F0 m 657 ls []) := by
  obtain ⟨hl, hP1, hP2, hM1, hM2, hS⟩ := id hI
  have hbA : ¬ A b := fun z => by have := (hA b).mp z; omega
  obtain ⟨K1, K2, hE1, hE2, hEq⟩ := (hsim.2.2.2.2.2.2.2.2.2.2.2.2.2.1 _ _ (aR32_of _) (aR32_of _) : lwSim Rel 120 49 [aI ((xs (n + 1)).toInt), aI ((xs (n + 2)).toInt)]) M1 M2 hR
  refine lv_aload_n hx hb dl_657 rfl (lv_at hl 2 rfl) ?_
  refine lv_aload_n hx hb dl_658 rfl (lv_at hl 3 rfl) ?_
  refine lv_iload_n hx hb dl_659 rfl (lv_at hl 0 rfl) ?_
  refine lv_iconst (v := nI 1) hx hb dl_660 (by decide) ?_
  refine lv_iadd hx hb dl_661 ?_
  refine va_sld hx hb hX hbl hbA hS (by rw [nI_add]; exact vp_in_nI (by omega) (by omega)) dl_662 ?_
  rw [nI_add, nI_clamp (show n + 1 < 2 ^ 31 by omega)]
  refine lv_aload_n hx hb dl_663 rfl (lv_at hl 3 rfl) ?_
  refine lv_iload_n hx hb dl_664 rfl (lv_at hl 0 rfl) ?_
  refine lv_iconst (v := nI 2) hx hb dl_665 (by decide) ?_
  refine lv_iadd hx hb dl_666 ?_
  refine va_sld hx hb hX hbl hbA hS (by rw [nI_add]; exact vp_in_nI (by omega) (by omega)) dl_667 ?_
  rw [nI_add, nI_clamp (show n + 2 < 2 ^ 31 by omega)]
  refine lw_call (hY.1.1) (st_str l) s1_sb hx hb hml hown hts hY.1.2.1 hP1 hS hA hY.1.2.2 hM1 hE1 (by omega) (by decide) (q := 0) rfl rfl rfl (n := 2) rfl (by decide +kernel) (lw_mem 1087 _ (by decide +kernel)) (by intro v hv; simp only [List.mem_cons, List.not_mem_nil, or_false] at hv; rcases hv with rfl | rfl <;> first | exact aR32_of _ | exact aR64_of _) (rest := []) (by simp only [List.map_cons, List.map_nil, acv, a32_o, lwLong_o]; rfl) hl.1 (Nat.zero_le _) dl_668 ⟨Nat.le_refl _, Nat.le_refl _⟩ (fun z1 M1' H1 locs1 hk1 hz1 hM1 hP1 hkp1 hS => ?_)
  have hP2 := lw_keep hY.2.2.1 hP2 hkp1
  refine lv_aload_n hx hb dl_671 rfl (lv_at hl 1 rfl) ?_
  refine lv_aload_n hx hb dl_672 rfl (lv_at hl 3 rfl) ?_
  refine lv_iload_n hx hb dl_673 rfl (lv_at hl 0 rfl) ?_
  refine lv_iconst (v := nI 1) hx hb dl_674 (by decide) ?_
  refine lv_iadd hx hb dl_675 ?_
  refine va_sld hx hb hX hbl hbA hS (by rw [nI_add]; exact vp_in_nI (by omega) (by omega)) dl_676 ?_
  rw [nI_add, nI_clamp (show n + 1 < 2 ^ 31 by omega)]
  refine lv_aload_n hx hb dl_677 rfl (lv_at hl 3 rfl) ?_
  refine lv_iload_n hx hb dl_678 rfl (lv_at hl 0 rfl) ?_
  refine lv_iconst (v := nI 2) hx hb dl_679 (by decide) ?_
  refine lv_iadd hx hb dl_680 ?_
  refine va_sld hx hb hX hbl hbA hS (by rw [nI_add]; exact vp_in_nI (by omega) (by omega)) dl_681 ?_
  rw [nI_add, nI_clamp (show n + 2 < 2 ^ 31 by omega)]
  refine lw_call (hY.2.1.1) (st_str2 l) s2_sb hx hb hml hown hts hY.2.1.2.1 hP2 hS hA hY.2.1.2.2 hM2 hE2 (by omega) (by decide) (q := 0) rfl rfl rfl (n := 2) rfl (by decide +kernel) (lw_mem 1855 _ (by decide +kernel)) (by intro v hv; simp only [List.mem_cons, List.not_mem_nil, or_false] at hv; rcases hv with rfl | rfl <;> first | exact aR32_of _ | exact aR64_of _) (rest := [.int (Int32.ofInt z1)]) (by simp only [List.map_cons, List.map_nil, acv, a32_o, lwLong_o]; rfl) hl.1 (Nat.le_of_ble_eq_true rfl) dl_682 ⟨Nat.le_refl _, Nat.le_refl _⟩ (fun z2 M2' H2 locs2 hk2 hz2 hM2 hP2 hkp2 hS => ?_)
  have hP1 := lw_keep hY.2.2.2 hP1 hkp2
  obtain ⟨hzz, hR2⟩ := hEq z1 M1' z2 M2' hk1 hk2
  exact lv_icmp_eq (tgt := 1484) hx hb dl_685 (by decide) (fun _ => kk _ _ _ _ ⟨hl, hP1, hP2, hM1, hM2, hS⟩ hR2) (fun z => absurd (by rw [hzz]) z)
set_option maxHeartbeats 4000000 in
set_option maxRecDepth 100000 in
theorem lw_case14 (hx : p.tables.exec = Jvm.exec) (hb : c.code = code) (hml : c.maxLocals = 4) (hown : s.vm.findClass "DioceseBookLaw" = some m.cls) (hts : ∀ w ∈ lw_tbl, w.before #[Value.ref b] s = true) (hX : va_X b L xs s s.heap) (hbl : b < s.heap.size) (hA : ∀ q, A q ↔ s.heap.size ≤ q) (hY : lwY ad1 ad2 adV cA D s) (hsim : lwSims Rel) {n : Nat} (hn : n + 7 ≤ L) (hL : L ≤ 3584) {H : Heap} {locs : List Loc} {ls : Array Slot} {M1 M2 : AM} (hI : lwI ad1 ad2 cA D A s b (ad1 0) (ad2 0) n M1 M2 H locs ls) (hR : Rel M1 M2)
    (kk : ∀ (H1 : Heap) (locs1 : List Loc) (M1' M2' : AM), lwI ad1 ad2 cA D A s b (ad1 0) (ad2 0) n M1' M2' H1 locs1 ls → Rel M1' M2' → W p l e room_1 s m #[Value.ref b] below meth c H1 locs1 600000 7302250 QQ (F0 m 1484 ls [])) : W p l e room_1 s m #[Value.ref b] below meth c H locs 600000 7302250 QQ (F0 m 690 ls []) := by
  obtain ⟨hl, hP1, hP2, hM1, hM2, hS⟩ := id hI
  have hbA : ¬ A b := fun z => by have := (hA b).mp z; omega
  obtain ⟨K1, K2, hE1, hE2, hEq⟩ := (hsim.2.2.2.2.2.2.2.2.2.2.2.2.2.2.1 _ _ _ _ (aR32_of _) (aR32_of _) (aR32_of _) (aR32_of _) : lwSim Rel 121 71 [aI ((xs (n + 1)).toInt), aI ((xs (n + 2)).toInt), aI ((xs (n + 3)).toInt), aI ((xs (n + 4)).toInt)]) M1 M2 hR
  refine lv_aload_n hx hb dl_690 rfl (lv_at hl 2 rfl) ?_
  refine lv_aload_n hx hb dl_691 rfl (lv_at hl 3 rfl) ?_
  refine lv_iload_n hx hb dl_692 rfl (lv_at hl 0 rfl) ?_
  refine lv_iconst (v := nI 1) hx hb dl_693 (by decide) ?_
  refine lv_iadd hx hb dl_694 ?_
  refine va_sld hx hb hX hbl hbA hS (by rw [nI_add]; exact vp_in_nI (by omega) (by omega)) dl_695 ?_
  rw [nI_add, nI_clamp (show n + 1 < 2 ^ 31 by omega)]
  refine lv_aload_n hx hb dl_696 rfl (lv_at hl 3 rfl) ?_
  refine lv_iload_n hx hb dl_697 rfl (lv_at hl 0 rfl) ?_
  refine lv_iconst (v := nI 2) hx hb dl_698 (by decide) ?_
  refine lv_iadd hx hb dl_699 ?_
  refine va_sld hx hb hX hbl hbA hS (by rw [nI_add]; exact vp_in_nI (by omega) (by omega)) dl_700 ?_
  rw [nI_add, nI_clamp (show n + 2 < 2 ^ 31 by omega)]
  refine lv_aload_n hx hb dl_701 rfl (lv_at hl 3 rfl) ?_
  refine lv_iload_n hx hb dl_702 rfl (lv_at hl 0 rfl) ?_
  refine lv_iconst (v := nI 3) hx hb dl_703 (by decide) ?_
  refine lv_iadd hx hb dl_704 ?_
  refine va_sld hx hb hX hbl hbA hS (by rw [nI_add]; exact vp_in_nI (by omega) (by omega)) dl_705 ?_
  rw [nI_add, nI_clamp (show n + 3 < 2 ^ 31 by omega)]
  refine lv_aload_n hx hb dl_706 rfl (lv_at hl 3 rfl) ?_
  refine lv_iload_n hx hb dl_707 rfl (lv_at hl 0 rfl) ?_
  refine lv_iconst (v := nI 4) hx hb dl_708 (by decide) ?_
  refine lv_iadd hx hb dl_709 ?_
  refine va_sld hx hb hX hbl hbA hS (by rw [nI_add]; exact vp_in_nI (by omega) (by omega)) dl_710 ?_
  rw [nI_add, nI_clamp (show n + 4 < 2 ^ 31 by omega)]
  refine lw_call (hY.1.1) (st_str l) s1_sb hx hb hml hown hts hY.1.2.1 hP1 hS hA hY.1.2.2 hM1 hE1 (by omega) (by decide) (q := 0) rfl rfl rfl (n := 4) rfl (by decide +kernel) (lw_mem 1092 _ (by decide +kernel)) (by intro v hv; simp only [List.mem_cons, List.not_mem_nil, or_false] at hv; rcases hv with rfl | rfl | rfl | rfl <;> first | exact aR32_of _ | exact aR64_of _) (rest := []) (by simp only [List.map_cons, List.map_nil, acv, a32_o, lwLong_o]; rfl) hl.1 (Nat.zero_le _) dl_711 ⟨Nat.le_refl _, Nat.le_refl _⟩ (fun z1 M1' H1 locs1 hk1 hz1 hM1 hP1 hkp1 hS => ?_)
  have hP2 := lw_keep hY.2.2.1 hP2 hkp1
  refine lv_aload_n hx hb dl_714 rfl (lv_at hl 1 rfl) ?_
  refine lv_aload_n hx hb dl_715 rfl (lv_at hl 3 rfl) ?_
  refine lv_iload_n hx hb dl_716 rfl (lv_at hl 0 rfl) ?_
  refine lv_iconst (v := nI 1) hx hb dl_717 (by decide) ?_
  refine lv_iadd hx hb dl_718 ?_
  refine va_sld hx hb hX hbl hbA hS (by rw [nI_add]; exact vp_in_nI (by omega) (by omega)) dl_719 ?_
  rw [nI_add, nI_clamp (show n + 1 < 2 ^ 31 by omega)]
  refine lv_aload_n hx hb dl_720 rfl (lv_at hl 3 rfl) ?_
  refine lv_iload_n hx hb dl_721 rfl (lv_at hl 0 rfl) ?_
  refine lv_iconst (v := nI 2) hx hb dl_722 (by decide) ?_
  refine lv_iadd hx hb dl_723 ?_
  refine va_sld hx hb hX hbl hbA hS (by rw [nI_add]; exact vp_in_nI (by omega) (by omega)) dl_724 ?_
  rw [nI_add, nI_clamp (show n + 2 < 2 ^ 31 by omega)]
  refine lv_aload_n hx hb dl_725 rfl (lv_at hl 3 rfl) ?_
  refine lv_iload_n hx hb dl_726 rfl (lv_at hl 0 rfl) ?_
  refine lv_iconst (v := nI 3) hx hb dl_727 (by decide) ?_
  refine lv_iadd hx hb dl_728 ?_
  refine va_sld hx hb hX hbl hbA hS (by rw [nI_add]; exact vp_in_nI (by omega) (by omega)) dl_729 ?_
  rw [nI_add, nI_clamp (show n + 3 < 2 ^ 31 by omega)]
  refine lv_aload_n hx hb dl_730 rfl (lv_at hl 3 rfl) ?_
  refine lv_iload_n hx hb dl_731 rfl (lv_at hl 0 rfl) ?_
  refine lv_iconst (v := nI 4) hx hb dl_732 (by decide) ?_
  refine lv_iadd hx hb dl_733 ?_
  refine va_sld hx hb hX hbl hbA hS (by rw [nI_add]; exact vp_in_nI (by omega) (by omega)) dl_734 ?_
  rw [nI_add, nI_clamp (show n + 4 < 2 ^ 31 by omega)]
  refine lw_call (hY.2.1.1) (st_str2 l) s2_sb hx hb hml hown hts hY.2.1.2.1 hP2 hS hA hY.2.1.2.2 hM2 hE2 (by omega) (by decide) (q := 0) rfl rfl rfl (n := 4) rfl (by decide +kernel) (lw_mem 1859 _ (by decide +kernel)) (by intro v hv; simp only [List.mem_cons, List.not_mem_nil, or_false] at hv; rcases hv with rfl | rfl | rfl | rfl <;> first | exact aR32_of _ | exact aR64_of _) (rest := [.int (Int32.ofInt z1)]) (by simp only [List.map_cons, List.map_nil, acv, a32_o, lwLong_o]; rfl) hl.1 (Nat.le_of_ble_eq_true rfl) dl_735 ⟨Nat.le_refl _, Nat.le_refl _⟩ (fun z2 M2' H2 locs2 hk2 hz2 hM2 hP2 hkp2 hS => ?_)
  have hP1 := lw_keep hY.2.2.2 hP1 hkp2
  obtain ⟨hzz, hR2⟩ := hEq z1 M1' z2 M2' hk1 hk2
  exact lv_icmp_eq (tgt := 1484) hx hb dl_738 (by decide) (fun _ => kk _ _ _ _ ⟨hl, hP1, hP2, hM1, hM2, hS⟩ hR2) (fun z => absurd (by rw [hzz]) z)
set_option maxHeartbeats 4000000 in
set_option maxRecDepth 100000 in
theorem lw_case15 (hx : p.tables.exec = Jvm.exec) (hb : c.code = code) (hml : c.maxLocals = 4) (hown : s.vm.findClass "DioceseBookLaw" = some m.cls) (hts : ∀ w ∈ lw_tbl, w.before #[Value.ref b] s = true) (hX : va_X b L xs s s.heap) (hbl : b < s.heap.size) (hA : ∀ q, A q ↔ s.heap.size ≤ q) (hY : lwY ad1 ad2 adV cA D s) (hsim : lwSims Rel) {n : Nat} (hn : n + 7 ≤ L) (hL : L ≤ 3584) {H : Heap} {locs : List Loc} {ls : Array Slot} {M1 M2 : AM} (hI : lwI ad1 ad2 cA D A s b (ad1 0) (ad2 0) n M1 M2 H locs ls) (hR : Rel M1 M2)
    (kk : ∀ (H1 : Heap) (locs1 : List Loc) (M1' M2' : AM), lwI ad1 ad2 cA D A s b (ad1 0) (ad2 0) n M1' M2' H1 locs1 ls → Rel M1' M2' → W p l e room_1 s m #[Value.ref b] below meth c H1 locs1 600000 7302250 QQ (F0 m 1484 ls [])) : W p l e room_1 s m #[Value.ref b] below meth c H locs 600000 7302250 QQ (F0 m 743 ls []) := by
  obtain ⟨hl, hP1, hP2, hM1, hM2, hS⟩ := id hI
  have hbA : ¬ A b := fun z => by have := (hA b).mp z; omega
  obtain ⟨K1, K2, hE1, hE2, hEq⟩ := (hsim.2.2.2.2.2.2.2.2.2.2.2.2.2.2.2.1 _ _ _ _ (aR32_of _) (aR32_of _) (aR32_of _) (aR32_of _) : lwSim Rel 122 74 [aI ((xs (n + 1)).toInt), aI ((xs (n + 2)).toInt), aI ((xs (n + 3)).toInt), aI ((xs (n + 4)).toInt)]) M1 M2 hR
  refine lv_aload_n hx hb dl_743 rfl (lv_at hl 2 rfl) ?_
  refine lv_aload_n hx hb dl_744 rfl (lv_at hl 3 rfl) ?_
  refine lv_iload_n hx hb dl_745 rfl (lv_at hl 0 rfl) ?_
  refine lv_iconst (v := nI 1) hx hb dl_746 (by decide) ?_
  refine lv_iadd hx hb dl_747 ?_
  refine va_sld hx hb hX hbl hbA hS (by rw [nI_add]; exact vp_in_nI (by omega) (by omega)) dl_748 ?_
  rw [nI_add, nI_clamp (show n + 1 < 2 ^ 31 by omega)]
  refine lv_aload_n hx hb dl_749 rfl (lv_at hl 3 rfl) ?_
  refine lv_iload_n hx hb dl_750 rfl (lv_at hl 0 rfl) ?_
  refine lv_iconst (v := nI 2) hx hb dl_751 (by decide) ?_
  refine lv_iadd hx hb dl_752 ?_
  refine va_sld hx hb hX hbl hbA hS (by rw [nI_add]; exact vp_in_nI (by omega) (by omega)) dl_753 ?_
  rw [nI_add, nI_clamp (show n + 2 < 2 ^ 31 by omega)]
  refine lv_aload_n hx hb dl_754 rfl (lv_at hl 3 rfl) ?_
  refine lv_iload_n hx hb dl_755 rfl (lv_at hl 0 rfl) ?_
  refine lv_iconst (v := nI 3) hx hb dl_756 (by decide) ?_
  refine lv_iadd hx hb dl_757 ?_
  refine va_sld hx hb hX hbl hbA hS (by rw [nI_add]; exact vp_in_nI (by omega) (by omega)) dl_758 ?_
  rw [nI_add, nI_clamp (show n + 3 < 2 ^ 31 by omega)]
  refine lv_aload_n hx hb dl_759 rfl (lv_at hl 3 rfl) ?_
  refine lv_iload_n hx hb dl_760 rfl (lv_at hl 0 rfl) ?_
  refine lv_iconst (v := nI 4) hx hb dl_761 (by decide) ?_
  refine lv_iadd hx hb dl_762 ?_
  refine va_sld hx hb hX hbl hbA hS (by rw [nI_add]; exact vp_in_nI (by omega) (by omega)) dl_763 ?_
  rw [nI_add, nI_clamp (show n + 4 < 2 ^ 31 by omega)]
  refine lw_call (hY.1.1) (st_str l) s1_sb hx hb hml hown hts hY.1.2.1 hP1 hS hA hY.1.2.2 hM1 hE1 (by omega) (by decide) (q := 0) rfl rfl rfl (n := 4) rfl (by decide +kernel) (lw_mem 1097 _ (by decide +kernel)) (by intro v hv; simp only [List.mem_cons, List.not_mem_nil, or_false] at hv; rcases hv with rfl | rfl | rfl | rfl <;> first | exact aR32_of _ | exact aR64_of _) (rest := []) (by simp only [List.map_cons, List.map_nil, acv, a32_o, lwLong_o]; rfl) hl.1 (Nat.zero_le _) dl_764 ⟨Nat.le_refl _, Nat.le_refl _⟩ (fun z1 M1' H1 locs1 hk1 hz1 hM1 hP1 hkp1 hS => ?_)
  have hP2 := lw_keep hY.2.2.1 hP2 hkp1
  refine lv_aload_n hx hb dl_767 rfl (lv_at hl 1 rfl) ?_
  refine lv_aload_n hx hb dl_768 rfl (lv_at hl 3 rfl) ?_
  refine lv_iload_n hx hb dl_769 rfl (lv_at hl 0 rfl) ?_
  refine lv_iconst (v := nI 1) hx hb dl_770 (by decide) ?_
  refine lv_iadd hx hb dl_771 ?_
  refine va_sld hx hb hX hbl hbA hS (by rw [nI_add]; exact vp_in_nI (by omega) (by omega)) dl_772 ?_
  rw [nI_add, nI_clamp (show n + 1 < 2 ^ 31 by omega)]
  refine lv_aload_n hx hb dl_773 rfl (lv_at hl 3 rfl) ?_
  refine lv_iload_n hx hb dl_774 rfl (lv_at hl 0 rfl) ?_
  refine lv_iconst (v := nI 2) hx hb dl_775 (by decide) ?_
  refine lv_iadd hx hb dl_776 ?_
  refine va_sld hx hb hX hbl hbA hS (by rw [nI_add]; exact vp_in_nI (by omega) (by omega)) dl_777 ?_
  rw [nI_add, nI_clamp (show n + 2 < 2 ^ 31 by omega)]
  refine lv_aload_n hx hb dl_778 rfl (lv_at hl 3 rfl) ?_
  refine lv_iload_n hx hb dl_779 rfl (lv_at hl 0 rfl) ?_
  refine lv_iconst (v := nI 3) hx hb dl_780 (by decide) ?_
  refine lv_iadd hx hb dl_781 ?_
  refine va_sld hx hb hX hbl hbA hS (by rw [nI_add]; exact vp_in_nI (by omega) (by omega)) dl_782 ?_
  rw [nI_add, nI_clamp (show n + 3 < 2 ^ 31 by omega)]
  refine lv_aload_n hx hb dl_783 rfl (lv_at hl 3 rfl) ?_
  refine lv_iload_n hx hb dl_784 rfl (lv_at hl 0 rfl) ?_
  refine lv_iconst (v := nI 4) hx hb dl_785 (by decide) ?_
  refine lv_iadd hx hb dl_786 ?_
  refine va_sld hx hb hX hbl hbA hS (by rw [nI_add]; exact vp_in_nI (by omega) (by omega)) dl_787 ?_
  rw [nI_add, nI_clamp (show n + 4 < 2 ^ 31 by omega)]
  refine lw_call (hY.2.1.1) (st_str2 l) s2_sb hx hb hml hown hts hY.2.1.2.1 hP2 hS hA hY.2.1.2.2 hM2 hE2 (by omega) (by decide) (q := 0) rfl rfl rfl (n := 4) rfl (by decide +kernel) (lw_mem 1958 _ (by decide +kernel)) (by intro v hv; simp only [List.mem_cons, List.not_mem_nil, or_false] at hv; rcases hv with rfl | rfl | rfl | rfl <;> first | exact aR32_of _ | exact aR64_of _) (rest := [.int (Int32.ofInt z1)]) (by simp only [List.map_cons, List.map_nil, acv, a32_o, lwLong_o]; rfl) hl.1 (Nat.le_of_ble_eq_true rfl) dl_788 ⟨Nat.le_refl _, Nat.le_refl _⟩ (fun z2 M2' H2 locs2 hk2 hz2 hM2 hP2 hkp2 hS => ?_)
  have hP1 := lw_keep hY.2.2.2 hP1 hkp2
  obtain ⟨hzz, hR2⟩ := hEq z1 M1' z2 M2' hk1 hk2
  exact lv_icmp_eq (tgt := 1484) hx hb dl_791 (by decide) (fun _ => kk _ _ _ _ ⟨hl, hP1, hP2, hM1, hM2, hS⟩ hR2) (fun z => absurd (by rw [hzz]) z)
end LWK
