/-! the law: its loop -/
section LWK
variable {p : Program} {l : Launch} {e : Env} {s : State} {m : MethodId} {below : List Frame} {meth : Method} {c : Code} {b L : Nat} {xs : Nat → Int32} {ad1 ad2 adV : Nat → Nat} {cA : Nat → ClassId} {D : va_G} {Rel : AM → AM → Prop} {A : Nat → Prop} {QQ : State → Prop}

set_option maxHeartbeats 4000000 in
set_option maxRecDepth 100000 in
theorem lw_loop (hx : p.tables.exec = Jvm.exec) (hb : c.code = code) (hml : c.maxLocals = 4) (hown : s.vm.findClass "DioceseBookLaw" = some m.cls) (hts : ∀ w ∈ lw_tbl, w.before #[Value.ref b] s = true) (hX : va_X b L xs s s.heap) (hbl : b < s.heap.size) (hA : ∀ q, A q ↔ s.heap.size ≤ q) (hY : lwY ad1 ad2 adV cA D s) (hsim : lwSims Rel) (hr : meth.sig.returnType = ret) (hlocks : meth.locks = false) (hL : L ≤ 3584) : ∀ (f n : Nat), L < n + f * 7 → n ≤ L + 7 → ∀ (H : Heap) (locs : List Loc) (ls : Array Slot) (M1 M2 : AM), lwI ad1 ad2 cA D A s b (ad1 0) (ad2 0) n M1 M2 H locs ls → Rel M1 M2 → W p l e room_1 s m #[Value.ref b] below meth c H locs 600000 7302250 (lw_Z below #[Value.ref b] s) (F0 m 18 ls []) := by
  intro f
  induction f with
  | zero =>
    intro n h1 h2 H locs ls M1 M2 hI hR
    exact lw_out hx hb hX hbl hA hr hlocks (by omega) (by omega) hL hI
  | succ f ih =>
    intro n h1 h2 H locs ls M1 M2 hI hR
    by_cases hn : n + 7 ≤ L
    · obtain ⟨hl, hP1, hP2, hM1, hM2, hS⟩ := id hI
      have hbA : ¬ A b := fun z => by have := (hA b).mp z; omega
      refine lv_iload_n hx hb dl_18 rfl (lv_at hl 0 rfl) ?_
      refine lv_aload_n hx hb dl_19 rfl (lv_at hl 3 rfl) ?_
      refine va_slen hx hb hX hbl hbA hS dl_20 ?_
      refine lv_bipush (v := 7) hx hb dl_21 (by decide) ?_
      refine lv_isub hx hb dl_23 ?_
      refine lv_icmp_gt (tgt := 1490) hx hb dl_24 (by decide) (fun z => absurd z (lw_cmp hn (by omega))) (fun _ => ?_)
      refine lv_aload_n hx hb dl_27 rfl (lv_at hl 3 rfl) ?_
      refine lv_iload_n hx hb dl_28 rfl (lv_at hl 0 rfl) ?_
      refine va_sld hx hb hX hbl hbA hS (vp_in_nI (by omega) (by omega)) dl_29 ?_
      refine lv_bipush (v := 31) hx hb dl_30 (by decide) ?_
      refine lv_iand hx hb dl_32 ?_
      obtain ⟨j, hj, ej⟩ := pk_andE (xs (nI n).toNatClampNeg) (m := 31) 5 (by decide)
      rw [ej]
      have hjt : (nI j).toInt = (j : Int) := nI_toInt (by omega)
      have back : ∀ (H1 : Heap) (locs1 : List Loc) (M1' M2' : AM), lwI ad1 ad2 cA D A s b (ad1 0) (ad2 0) n M1' M2' H1 locs1 ls → Rel M1' M2' → W p l e room_1 s m #[Value.ref b] below meth c H1 locs1 600000 7302250 (lw_Z below #[Value.ref b] s) (F0 m 1484 ls []) := by
        intro H1 locs1 M1' M2' hI' hR'
        obtain ⟨hl', hP1', hP2', hM1', hM2', hS'⟩ := id hI'
        refine lv_iinc (v := nI (n + 7)) (lv' := [(3, .int (nI (n + 7))), (2, .ref (ad2 0)), (1, .ref (ad1 0)), (0, .ref b)]) hx hb dl_1484 hl' (k := 0) rfl (by rw [← nI_add]; rfl) (by decide) rfl (fun ls hl => ?_)
        refine lv_goto (tgt := 18) hx hb dl_1487 (by decide) ?_
        exact ih (n + 7) (by omega) (by omega) H1 locs1 ls M1' M2' ⟨lv_sub hl [0, 1, 2, 3] rfl, hP1', hP2', hM1', hM2', hS'⟩ hR'
      rcases (show j = 0 ∨ j ≠ 0 by omega) with ej0 | ej0
      · subst ej0
        refine lv_tableIn hx hb dl_33 (by rw [hjt]; omega) (by rw [hjt]; omega) (off := 143) (by rw [hjt]; rfl) (tgt := 176) (by decide) ?_
        exact lw_case0 hx hb hml hown hts hX hbl hA hY hsim hn hL hI hR back
      rcases (show j = 1 ∨ j ≠ 1 by omega) with ej1 | ej1
      · subst ej1
        refine lv_tableIn hx hb dl_33 (by rw [hjt]; omega) (by rw [hjt]; omega) (off := 166) (by rw [hjt]; rfl) (tgt := 199) (by decide) ?_
        exact lw_case1 hx hb hml hown hts hX hbl hA hY hsim hn hL hI hR back
      rcases (show j = 2 ∨ j ≠ 2 by omega) with ej2 | ej2
      · subst ej2
        refine lv_tableIn hx hb dl_33 (by rw [hjt]; omega) (by rw [hjt]; omega) (off := 189) (by rw [hjt]; rfl) (tgt := 222) (by decide) ?_
        exact lw_case2 hx hb hml hown hts hX hbl hA hY hsim hn hL hI hR back
      rcases (show j = 3 ∨ j ≠ 3 by omega) with ej3 | ej3
      · subst ej3
        refine lv_tableIn hx hb dl_33 (by rw [hjt]; omega) (by rw [hjt]; omega) (off := 232) (by rw [hjt]; rfl) (tgt := 265) (by decide) ?_
        exact lw_case3 hx hb hml hown hts hX hbl hA hY hsim hn hL hI hR back
      rcases (show j = 4 ∨ j ≠ 4 by omega) with ej4 | ej4
      · subst ej4
        refine lv_tableIn hx hb dl_33 (by rw [hjt]; omega) (by rw [hjt]; omega) (off := 275) (by rw [hjt]; rfl) (tgt := 308) (by decide) ?_
        exact lw_case4 hx hb hml hown hts hX hbl hA hY hsim hn hL hI hR back
      rcases (show j = 5 ∨ j ≠ 5 by omega) with ej5 | ej5
      · subst ej5
        refine lv_tableIn hx hb dl_33 (by rw [hjt]; omega) (by rw [hjt]; omega) (off := 350) (by rw [hjt]; rfl) (tgt := 383) (by decide) ?_
        exact lw_case5 hx hb hml hown hts hX hbl hA hY hsim hn hL hI hR back
      rcases (show j = 6 ∨ j ≠ 6 by omega) with ej6 | ej6
      · subst ej6
        refine lv_tableIn hx hb dl_33 (by rw [hjt]; omega) (by rw [hjt]; omega) (off := 383) (by rw [hjt]; rfl) (tgt := 416) (by decide) ?_
        exact lw_case6 hx hb hml hown hts hX hbl hA hY hsim hn hL hI hR back
      rcases (show j = 7 ∨ j ≠ 7 by omega) with ej7 | ej7
      · subst ej7
        refine lv_tableIn hx hb dl_33 (by rw [hjt]; omega) (by rw [hjt]; omega) (off := 416) (by rw [hjt]; rfl) (tgt := 449) (by decide) ?_
        exact lw_case7 hx hb hml hown hts hX hbl hA hY hsim hn hL hI hR back
      rcases (show j = 8 ∨ j ≠ 8 by omega) with ej8 | ej8
      · subst ej8
        refine lv_tableIn hx hb dl_33 (by rw [hjt]; omega) (by rw [hjt]; omega) (off := 459) (by rw [hjt]; rfl) (tgt := 492) (by decide) ?_
        exact lw_case8 hx hb hml hown hts hX hbl hA hY hsim hn hL hI hR back
      rcases (show j = 9 ∨ j ≠ 9 by omega) with ej9 | ej9
      · subst ej9
        refine lv_tableIn hx hb dl_33 (by rw [hjt]; omega) (by rw [hjt]; omega) (off := 482) (by rw [hjt]; rfl) (tgt := 515) (by decide) ?_
        exact lw_case9 hx hb hml hown hts hX hbl hA hY hsim hn hL hI hR back
      rcases (show j = 10 ∨ j ≠ 10 by omega) with ej10 | ej10
      · subst ej10
        refine lv_tableIn hx hb dl_33 (by rw [hjt]; omega) (by rw [hjt]; omega) (off := 545) (by rw [hjt]; rfl) (tgt := 578) (by decide) ?_
        exact lw_case10 hx hb hml hown hts hX hbl hA hY hsim hn hL hI hR back
      rcases (show j = 11 ∨ j ≠ 11 by omega) with ej11 | ej11
      · subst ej11
        refine lv_tableIn hx hb dl_33 (by rw [hjt]; omega) (by rw [hjt]; omega) (off := 568) (by rw [hjt]; rfl) (tgt := 601) (by decide) ?_
        exact lw_case11 hx hb hml hown hts hX hbl hA hY hsim hn hL hI hR back
      rcases (show j = 12 ∨ j ≠ 12 by omega) with ej12 | ej12
      · subst ej12
        refine lv_tableIn hx hb dl_33 (by rw [hjt]; omega) (by rw [hjt]; omega) (off := 581) (by rw [hjt]; rfl) (tgt := 614) (by decide) ?_
        exact lw_case12 hx hb hml hown hts hX hbl hA hY hsim hn hL hI hR back
      rcases (show j = 13 ∨ j ≠ 13 by omega) with ej13 | ej13
      · subst ej13
        refine lv_tableIn hx hb dl_33 (by rw [hjt]; omega) (by rw [hjt]; omega) (off := 624) (by rw [hjt]; rfl) (tgt := 657) (by decide) ?_
        exact lw_case13 hx hb hml hown hts hX hbl hA hY hsim hn hL hI hR back
      rcases (show j = 14 ∨ j ≠ 14 by omega) with ej14 | ej14
      · subst ej14
        refine lv_tableIn hx hb dl_33 (by rw [hjt]; omega) (by rw [hjt]; omega) (off := 657) (by rw [hjt]; rfl) (tgt := 690) (by decide) ?_
        exact lw_case14 hx hb hml hown hts hX hbl hA hY hsim hn hL hI hR back
      rcases (show j = 15 ∨ j ≠ 15 by omega) with ej15 | ej15
      · subst ej15
        refine lv_tableIn hx hb dl_33 (by rw [hjt]; omega) (by rw [hjt]; omega) (off := 710) (by rw [hjt]; rfl) (tgt := 743) (by decide) ?_
        exact lw_case15 hx hb hml hown hts hX hbl hA hY hsim hn hL hI hR back
      rcases (show j = 16 ∨ j ≠ 16 by omega) with ej16 | ej16
      · subst ej16
        refine lv_tableIn hx hb dl_33 (by rw [hjt]; omega) (by rw [hjt]; omega) (off := 763) (by rw [hjt]; rfl) (tgt := 796) (by decide) ?_
        exact lw_case16 hx hb hml hown hts hX hbl hA hY hsim hn hL hI hR back
      rcases (show j = 17 ∨ j ≠ 17 by omega) with ej17 | ej17
      · subst ej17
        refine lv_tableIn hx hb dl_33 (by rw [hjt]; omega) (by rw [hjt]; omega) (off := 796) (by rw [hjt]; rfl) (tgt := 829) (by decide) ?_
        exact lw_case17 hx hb hml hown hts hX hbl hA hY hsim hn hL hI hR back
      rcases (show j = 18 ∨ j ≠ 18 by omega) with ej18 | ej18
      · subst ej18
        refine lv_tableIn hx hb dl_33 (by rw [hjt]; omega) (by rw [hjt]; omega) (off := 829) (by rw [hjt]; rfl) (tgt := 862) (by decide) ?_
        exact lw_case18 hx hb hml hown hts hX hbl hA hY hsim hn hL hI hR back
      rcases (show j = 19 ∨ j ≠ 19 by omega) with ej19 | ej19
      · subst ej19
        refine lv_tableIn hx hb dl_33 (by rw [hjt]; omega) (by rw [hjt]; omega) (off := 882) (by rw [hjt]; rfl) (tgt := 915) (by decide) ?_
        exact lw_case19 hx hb hml hown hts hX hbl hA hY hsim hn hL hI hR back
      rcases (show j = 20 ∨ j ≠ 20 by omega) with ej20 | ej20
      · subst ej20
        refine lv_tableIn hx hb dl_33 (by rw [hjt]; omega) (by rw [hjt]; omega) (off := 945) (by rw [hjt]; rfl) (tgt := 978) (by decide) ?_
        exact lw_case20 hx hb hml hown hts hX hbl hA hY hsim hn hL hI hR back
      rcases (show j = 21 ∨ j ≠ 21 by omega) with ej21 | ej21
      · subst ej21
        refine lv_tableIn hx hb dl_33 (by rw [hjt]; omega) (by rw [hjt]; omega) (off := 988) (by rw [hjt]; rfl) (tgt := 1021) (by decide) ?_
        exact lw_case21 hx hb hml hown hts hX hbl hA hY hsim hn hL hI hR back
      rcases (show j = 22 ∨ j ≠ 22 by omega) with ej22 | ej22
      · subst ej22
        refine lv_tableIn hx hb dl_33 (by rw [hjt]; omega) (by rw [hjt]; omega) (off := 1031) (by rw [hjt]; rfl) (tgt := 1064) (by decide) ?_
        exact lw_case22 hx hb hml hown hts hX hbl hA hY hsim hn hL hI hR back
      rcases (show j = 23 ∨ j ≠ 23 by omega) with ej23 | ej23
      · subst ej23
        refine lv_tableIn hx hb dl_33 (by rw [hjt]; omega) (by rw [hjt]; omega) (off := 1064) (by rw [hjt]; rfl) (tgt := 1097) (by decide) ?_
        exact lw_case23 hx hb hml hown hts hX hbl hA hY hsim hn hL hI hR back
      rcases (show j = 24 ∨ j ≠ 24 by omega) with ej24 | ej24
      · subst ej24
        refine lv_tableIn hx hb dl_33 (by rw [hjt]; omega) (by rw [hjt]; omega) (off := 1097) (by rw [hjt]; rfl) (tgt := 1130) (by decide) ?_
        exact lw_case24 hx hb hml hown hts hX hbl hA hY hsim hn hL hI hR back
      rcases (show j = 25 ∨ j ≠ 25 by omega) with ej25 | ej25
      · subst ej25
        refine lv_tableIn hx hb dl_33 (by rw [hjt]; omega) (by rw [hjt]; omega) (off := 1140) (by rw [hjt]; rfl) (tgt := 1173) (by decide) ?_
        exact lw_case25 hx hb hml hown hts hX hbl hA hY hsim hn hL hI hR back
      rcases (show j = 26 ∨ j ≠ 26 by omega) with ej26 | ej26
      · subst ej26
        refine lv_tableIn hx hb dl_33 (by rw [hjt]; omega) (by rw [hjt]; omega) (off := 1193) (by rw [hjt]; rfl) (tgt := 1226) (by decide) ?_
        exact lw_case26 hx hb hml hown hts hX hbl hA hY hsim hn hL hI hR back
      rcases (show j = 27 ∨ j ≠ 27 by omega) with ej27 | ej27
      · subst ej27
        refine lv_tableIn hx hb dl_33 (by rw [hjt]; omega) (by rw [hjt]; omega) (off := 1256) (by rw [hjt]; rfl) (tgt := 1289) (by decide) ?_
        exact lw_case27 hx hb hml hown hts hX hbl hA hY hsim hn hL hI hR back
      rcases (show j = 28 ∨ j ≠ 28 by omega) with ej28 | ej28
      · subst ej28
        refine lv_tableIn hx hb dl_33 (by rw [hjt]; omega) (by rw [hjt]; omega) (off := 1289) (by rw [hjt]; rfl) (tgt := 1322) (by decide) ?_
        exact lw_case28 hx hb hml hown hts hX hbl hA hY hsim hn hL hI hR back
      rcases (show j = 29 ∨ j ≠ 29 by omega) with ej29 | ej29
      · subst ej29
        refine lv_tableIn hx hb dl_33 (by rw [hjt]; omega) (by rw [hjt]; omega) (off := 1352) (by rw [hjt]; rfl) (tgt := 1385) (by decide) ?_
        exact lw_case29 hx hb hml hown hts hX hbl hA hY hsim hn hL hI hR back
      rcases (show j = 30 ∨ j ≠ 30 by omega) with ej30 | ej30
      · subst ej30
        refine lv_tableIn hx hb dl_33 (by rw [hjt]; omega) (by rw [hjt]; omega) (off := 1385) (by rw [hjt]; rfl) (tgt := 1418) (by decide) ?_
        exact lw_case30 hx hb hml hown hts hX hbl hA hY hsim hn hL hI hR back
      rcases (show j = 31 ∨ j ≠ 31 by omega) with ej31 | ej31
      · subst ej31
        refine lv_tableIn hx hb dl_33 (by rw [hjt]; omega) (by rw [hjt]; omega) (off := 1408) (by rw [hjt]; rfl) (tgt := 1441) (by decide) ?_
        exact lw_case31 hx hb hml hown hts hX hbl hA hY hsim hn hL hI hR back
      exact absurd hj (by omega)
    · exact lw_out hx hb hX hbl hA hr hlocks (by omega) (by omega) hL hI
end LWK
