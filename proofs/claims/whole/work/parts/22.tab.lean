/-! the tables hold -/
theorem cd_in1 {w : Cond} (h : w ∈ tables_1_1) (g : goodWord w = true) : w ∈ aAW := List.mem_filter.mpr ⟨List.mem_append_right _ (show w ∈ tables_1 from List.mem_append_left _ h), g⟩
theorem cd_in2 {w : Cond} (h : w ∈ tables_1_2) (g : goodWord w = true) : w ∈ aAW := List.mem_filter.mpr ⟨List.mem_append_right _ (show w ∈ tables_1 from List.mem_append_right _ (List.mem_append_left _ h)), g⟩
theorem cd_in3 {w : Cond} (h : w ∈ tables_1_3) (g : goodWord w = true) : w ∈ aAW := List.mem_filter.mpr ⟨List.mem_append_right _ (show w ∈ tables_1 from List.mem_append_right _ (List.mem_append_right _ (List.mem_append_left _ h))), g⟩
theorem cd_in4 {w : Cond} (h : w ∈ tables_1_4) (g : goodWord w = true) : w ∈ aAW := List.mem_filter.mpr ⟨List.mem_append_right _ (show w ∈ tables_1 from List.mem_append_right _ (List.mem_append_right _ (List.mem_append_right _ (List.mem_append_left _ h)))), g⟩
theorem cd_in5 {w : Cond} (h : w ∈ tables_1_5) (g : goodWord w = true) : w ∈ aAW := List.mem_filter.mpr ⟨List.mem_append_right _ (show w ∈ tables_1 from List.mem_append_right _ (List.mem_append_right _ (List.mem_append_right _ (List.mem_append_right _ (List.mem_append_left _ h))))), g⟩
theorem cd_in6 {w : Cond} (h : w ∈ tables_1_6) (g : goodWord w = true) : w ∈ aAW := List.mem_filter.mpr ⟨List.mem_append_right _ (show w ∈ tables_1 from List.mem_append_right _ (List.mem_append_right _ (List.mem_append_right _ (List.mem_append_right _ (List.mem_append_right _ (List.mem_append_left _ h)))))), g⟩
theorem cd_in7 {w : Cond} (h : w ∈ tables_1_7) (g : goodWord w = true) : w ∈ aAW := List.mem_filter.mpr ⟨List.mem_append_right _ (show w ∈ tables_1 from List.mem_append_right _ (List.mem_append_right _ (List.mem_append_right _ (List.mem_append_right _ (List.mem_append_right _ (List.mem_append_right _ (List.mem_append_left _ h))))))), g⟩
theorem cd_in8 {w : Cond} (h : w ∈ tables_1_8) (g : goodWord w = true) : w ∈ aAW := List.mem_filter.mpr ⟨List.mem_append_right _ (show w ∈ tables_1 from List.mem_append_right _ (List.mem_append_right _ (List.mem_append_right _ (List.mem_append_right _ (List.mem_append_right _ (List.mem_append_right _ (List.mem_append_right _ (List.mem_append_left _ h)))))))), g⟩
theorem cd_in9 {w : Cond} (h : w ∈ tables_1_9) (g : goodWord w = true) : w ∈ aAW := List.mem_filter.mpr ⟨List.mem_append_right _ (show w ∈ tables_1 from List.mem_append_right _ (List.mem_append_right _ (List.mem_append_right _ (List.mem_append_right _ (List.mem_append_right _ (List.mem_append_right _ (List.mem_append_right _ (List.mem_append_right _ (h))))))))), g⟩
theorem s1_kd_out : ∀ q, 207 ≤ q → s1_kd q = kC [] := fun q hq => by
  unfold s1_kd
  rw [show Nat.blt q 207 = false from by rw [Bool.eq_false_iff]; intro h; have := Nat.le_of_ble_eq_true h; omega]
  rfl
theorem s1_gw : aGW s1_G 205 := gk_ok (nk := 207) (by decide +kernel) (by decide +kernel) s1_kd_out (by omega)
theorem s1_kf : ∀ q ci fs, s1_G.1 q = kO ci fs → ci < 13 ∧ fs.length = (s1_tf ci).2.1 ∧ ∀ k, (fs[k]? = some 0 → (s1_tf ci).2.2 k = .int) ∧ (fs[k]? = some 1 → (s1_tf ci).2.2 k = .boolean) := gk_f_ok (nk := 207) (by decide +kernel) s1_kd_out
theorem s1_cd0 : Cond.code (s1_yn 0) (s1_bc 0) (aMx s1_G 0) (aRty (s1_G.2.1 0).2.2.1) ∈ aAW := cd_in4 (List.mem_of_getElem? (i := 88) rfl) rfl
theorem s1_cd1 : Cond.code (s1_yn 1) (s1_bc 1) (aMx s1_G 1) (aRty (s1_G.2.1 1).2.2.1) ∈ aAW := cd_in4 (List.mem_of_getElem? (i := 193) rfl) rfl
theorem s1_cd2 : Cond.code (s1_yn 2) (s1_bc 2) (aMx s1_G 2) (aRty (s1_G.2.1 2).2.2.1) ∈ aAW := cd_in4 (List.mem_of_getElem? (i := 228) rfl) rfl
theorem s1_cd3 : Cond.code (s1_yn 3) (s1_bc 3) (aMx s1_G 3) (aRty (s1_G.2.1 3).2.2.1) ∈ aAW := cd_in4 (List.mem_of_getElem? (i := 201) rfl) rfl
theorem s1_cd4 : Cond.code (s1_yn 4) (s1_bc 4) (aMx s1_G 4) (aRty (s1_G.2.1 4).2.2.1) ∈ aAW := cd_in4 (List.mem_of_getElem? (i := 239) rfl) rfl
theorem s1_cd5 : Cond.code (s1_yn 5) (s1_bc 5) (aMx s1_G 5) (aRty (s1_G.2.1 5).2.2.1) ∈ aAW := cd_in3 (List.mem_of_getElem? (i := 230) rfl) rfl
theorem s1_cd6 : Cond.code (s1_yn 6) (s1_bc 6) (aMx s1_G 6) (aRty (s1_G.2.1 6).2.2.1) ∈ aAW := cd_in4 (List.mem_of_getElem? (i := 15) rfl) rfl
theorem s1_cd7 : Cond.code (s1_yn 7) (s1_bc 7) (aMx s1_G 7) (aRty (s1_G.2.1 7).2.2.1) ∈ aAW := cd_in3 (List.mem_of_getElem? (i := 220) rfl) rfl
theorem s1_cd8 : Cond.code (s1_yn 8) (s1_bc 8) (aMx s1_G 8) (aRty (s1_G.2.1 8).2.2.1) ∈ aAW := cd_in3 (List.mem_of_getElem? (i := 224) rfl) rfl
theorem s1_cd9 : Cond.code (s1_yn 9) (s1_bc 9) (aMx s1_G 9) (aRty (s1_G.2.1 9).2.2.1) ∈ aAW := cd_in3 (List.mem_of_getElem? (i := 234) rfl) rfl
theorem s1_cd10 : Cond.code (s1_yn 10) (s1_bc 10) (aMx s1_G 10) (aRty (s1_G.2.1 10).2.2.1) ∈ aAW := cd_in3 (List.mem_of_getElem? (i := 216) rfl) rfl
theorem s1_cd11 : Cond.code (s1_yn 11) (s1_bc 11) (aMx s1_G 11) (aRty (s1_G.2.1 11).2.2.1) ∈ aAW := cd_in3 (List.mem_of_getElem? (i := 238) rfl) rfl
theorem s1_cd12 : Cond.code (s1_yn 12) (s1_bc 12) (aMx s1_G 12) (aRty (s1_G.2.1 12).2.2.1) ∈ aAW := cd_in4 (List.mem_of_getElem? (i := 2) rfl) rfl
theorem s1_cd13 : Cond.code (s1_yn 13) (s1_bc 13) (aMx s1_G 13) (aRty (s1_G.2.1 13).2.2.1) ∈ aAW := cd_in4 (List.mem_of_getElem? (i := 64) rfl) rfl
theorem s1_cd14 : Cond.code (s1_yn 14) (s1_bc 14) (aMx s1_G 14) (aRty (s1_G.2.1 14).2.2.1) ∈ aAW := cd_in3 (List.mem_of_getElem? (i := 165) rfl) rfl
theorem s1_cd15 : Cond.code (s1_yn 15) (s1_bc 15) (aMx s1_G 15) (aRty (s1_G.2.1 15).2.2.1) ∈ aAW := cd_in3 (List.mem_of_getElem? (i := 192) rfl) rfl
theorem s1_cd16 : Cond.code (s1_yn 16) (s1_bc 16) (aMx s1_G 16) (aRty (s1_G.2.1 16).2.2.1) ∈ aAW := cd_in5 (List.mem_of_getElem? (i := 56) rfl) rfl
theorem s1_cd17 : Cond.code (s1_yn 17) (s1_bc 17) (aMx s1_G 17) (aRty (s1_G.2.1 17).2.2.1) ∈ aAW := cd_in5 (List.mem_of_getElem? (i := 134) rfl) rfl
theorem s1_cd18 : Cond.code (s1_yn 18) (s1_bc 18) (aMx s1_G 18) (aRty (s1_G.2.1 18).2.2.1) ∈ aAW := cd_in5 (List.mem_of_getElem? (i := 64) rfl) rfl
theorem s1_cd19 : Cond.code (s1_yn 19) (s1_bc 19) (aMx s1_G 19) (aRty (s1_G.2.1 19).2.2.1) ∈ aAW := cd_in5 (List.mem_of_getElem? (i := 67) rfl) rfl
theorem s1_cd20 : Cond.code (s1_yn 20) (s1_bc 20) (aMx s1_G 20) (aRty (s1_G.2.1 20).2.2.1) ∈ aAW := cd_in5 (List.mem_of_getElem? (i := 209) rfl) rfl
theorem s1_cd21 : Cond.code (s1_yn 21) (s1_bc 21) (aMx s1_G 21) (aRty (s1_G.2.1 21).2.2.1) ∈ aAW := cd_in5 (List.mem_of_getElem? (i := 227) rfl) rfl
theorem s1_cd22 : Cond.code (s1_yn 22) (s1_bc 22) (aMx s1_G 22) (aRty (s1_G.2.1 22).2.2.1) ∈ aAW := cd_in5 (List.mem_of_getElem? (i := 222) rfl) rfl
theorem s1_cd23 : Cond.code (s1_yn 23) (s1_bc 23) (aMx s1_G 23) (aRty (s1_G.2.1 23).2.2.1) ∈ aAW := cd_in5 (List.mem_of_getElem? (i := 235) rfl) rfl
theorem s1_cd24 : Cond.code (s1_yn 24) (s1_bc 24) (aMx s1_G 24) (aRty (s1_G.2.1 24).2.2.1) ∈ aAW := cd_in6 (List.mem_of_getElem? (i := 8) rfl) rfl
theorem s1_cd25 : Cond.code (s1_yn 25) (s1_bc 25) (aMx s1_G 25) (aRty (s1_G.2.1 25).2.2.1) ∈ aAW := cd_in6 (List.mem_of_getElem? (i := 0) rfl) rfl
theorem s1_cd26 : Cond.code (s1_yn 26) (s1_bc 26) (aMx s1_G 26) (aRty (s1_G.2.1 26).2.2.1) ∈ aAW := cd_in6 (List.mem_of_getElem? (i := 4) rfl) rfl
theorem s1_cd27 : Cond.code (s1_yn 27) (s1_bc 27) (aMx s1_G 27) (aRty (s1_G.2.1 27).2.2.1) ∈ aAW := cd_in3 (List.mem_of_getElem? (i := 82) rfl) rfl
theorem s1_cd28 : Cond.code (s1_yn 28) (s1_bc 28) (aMx s1_G 28) (aRty (s1_G.2.1 28).2.2.1) ∈ aAW := cd_in3 (List.mem_of_getElem? (i := 86) rfl) rfl
theorem s1_cd29 : Cond.code (s1_yn 29) (s1_bc 29) (aMx s1_G 29) (aRty (s1_G.2.1 29).2.2.1) ∈ aAW := cd_in3 (List.mem_of_getElem? (i := 89) rfl) rfl
theorem s1_cd30 : Cond.code (s1_yn 30) (s1_bc 30) (aMx s1_G 30) (aRty (s1_G.2.1 30).2.2.1) ∈ aAW := cd_in3 (List.mem_of_getElem? (i := 98) rfl) rfl
theorem s1_cd31 : Cond.code (s1_yn 31) (s1_bc 31) (aMx s1_G 31) (aRty (s1_G.2.1 31).2.2.1) ∈ aAW := cd_in3 (List.mem_of_getElem? (i := 109) rfl) rfl
theorem s1_cd32 : Cond.code (s1_yn 32) (s1_bc 32) (aMx s1_G 32) (aRty (s1_G.2.1 32).2.2.1) ∈ aAW := cd_in3 (List.mem_of_getElem? (i := 113) rfl) rfl
theorem s1_cd33 : Cond.code (s1_yn 33) (s1_bc 33) (aMx s1_G 33) (aRty (s1_G.2.1 33).2.2.1) ∈ aAW := cd_in3 (List.mem_of_getElem? (i := 140) rfl) rfl
theorem s1_cd34 : Cond.code (s1_yn 34) (s1_bc 34) (aMx s1_G 34) (aRty (s1_G.2.1 34).2.2.1) ∈ aAW := cd_in3 (List.mem_of_getElem? (i := 117) rfl) rfl
theorem s1_cd35 : Cond.code (s1_yn 35) (s1_bc 35) (aMx s1_G 35) (aRty (s1_G.2.1 35).2.2.1) ∈ aAW := cd_in3 (List.mem_of_getElem? (i := 136) rfl) rfl
theorem s1_cd36 : Cond.code (s1_yn 36) (s1_bc 36) (aMx s1_G 36) (aRty (s1_G.2.1 36).2.2.1) ∈ aAW := cd_in4 (List.mem_of_getElem? (i := 19) rfl) rfl
theorem s1_cd37 : Cond.code (s1_yn 37) (s1_bc 37) (aMx s1_G 37) (aRty (s1_G.2.1 37).2.2.1) ∈ aAW := cd_in4 (List.mem_of_getElem? (i := 73) rfl) rfl
theorem s1_cd38 : Cond.code (s1_yn 38) (s1_bc 38) (aMx s1_G 38) (aRty (s1_G.2.1 38).2.2.1) ∈ aAW := cd_in4 (List.mem_of_getElem? (i := 84) rfl) rfl
theorem s1_cd39 : Cond.code (s1_yn 39) (s1_bc 39) (aMx s1_G 39) (aRty (s1_G.2.1 39).2.2.1) ∈ aAW := cd_in4 (List.mem_of_getElem? (i := 92) rfl) rfl
theorem s1_cd40 : Cond.code (s1_yn 40) (s1_bc 40) (aMx s1_G 40) (aRty (s1_G.2.1 40).2.2.1) ∈ aAW := cd_in4 (List.mem_of_getElem? (i := 159) rfl) rfl
theorem s1_cd41 : Cond.code (s1_yn 41) (s1_bc 41) (aMx s1_G 41) (aRty (s1_G.2.1 41).2.2.1) ∈ aAW := cd_in4 (List.mem_of_getElem? (i := 163) rfl) rfl
theorem s1_cd42 : Cond.code (s1_yn 42) (s1_bc 42) (aMx s1_G 42) (aRty (s1_G.2.1 42).2.2.1) ∈ aAW := cd_in4 (List.mem_of_getElem? (i := 235) rfl) rfl
theorem s1_cd43 : Cond.code (s1_yn 43) (s1_bc 43) (aMx s1_G 43) (aRty (s1_G.2.1 43).2.2.1) ∈ aAW := cd_in4 (List.mem_of_getElem? (i := 197) rfl) rfl
theorem s1_cd44 : Cond.code (s1_yn 44) (s1_bc 44) (aMx s1_G 44) (aRty (s1_G.2.1 44).2.2.1) ∈ aAW := cd_in4 (List.mem_of_getElem? (i := 205) rfl) rfl
theorem s1_cd45 : Cond.code (s1_yn 45) (s1_bc 45) (aMx s1_G 45) (aRty (s1_G.2.1 45).2.2.1) ∈ aAW := cd_in4 (List.mem_of_getElem? (i := 210) rfl) rfl
theorem s1_cd46 : Cond.code (s1_yn 46) (s1_bc 46) (aMx s1_G 46) (aRty (s1_G.2.1 46).2.2.1) ∈ aAW := cd_in4 (List.mem_of_getElem? (i := 181) rfl) rfl
theorem s1_cd47 : Cond.code (s1_yn 47) (s1_bc 47) (aMx s1_G 47) (aRty (s1_G.2.1 47).2.2.1) ∈ aAW := cd_in4 (List.mem_of_getElem? (i := 185) rfl) rfl
theorem s1_cd48 : Cond.code (s1_yn 48) (s1_bc 48) (aMx s1_G 48) (aRty (s1_G.2.1 48).2.2.1) ∈ aAW := cd_in4 (List.mem_of_getElem? (i := 189) rfl) rfl
theorem s1_cd49 : Cond.code (s1_yn 49) (s1_bc 49) (aMx s1_G 49) (aRty (s1_G.2.1 49).2.2.1) ∈ aAW := cd_in4 (List.mem_of_getElem? (i := 105) rfl) rfl
theorem s1_cd50 : Cond.code (s1_yn 50) (s1_bc 50) (aMx s1_G 50) (aRty (s1_G.2.1 50).2.2.1) ∈ aAW := cd_in4 (List.mem_of_getElem? (i := 96) rfl) rfl
theorem s1_cd51 : Cond.code (s1_yn 51) (s1_bc 51) (aMx s1_G 51) (aRty (s1_G.2.1 51).2.2.1) ∈ aAW := cd_in4 (List.mem_of_getElem? (i := 100) rfl) rfl
theorem s1_cd52 : Cond.code (s1_yn 52) (s1_bc 52) (aMx s1_G 52) (aRty (s1_G.2.1 52).2.2.1) ∈ aAW := cd_in4 (List.mem_of_getElem? (i := 167) rfl) rfl
theorem s1_cd53 : Cond.code (s1_yn 53) (s1_bc 53) (aMx s1_G 53) (aRty (s1_G.2.1 53).2.2.1) ∈ aAW := cd_in4 (List.mem_of_getElem? (i := 214) rfl) rfl
theorem s1_cd54 : Cond.code (s1_yn 54) (s1_bc 54) (aMx s1_G 54) (aRty (s1_G.2.1 54).2.2.1) ∈ aAW := cd_in4 (List.mem_of_getElem? (i := 224) rfl) rfl
theorem s1_cd55 : Cond.code (s1_yn 55) (s1_bc 55) (aMx s1_G 55) (aRty (s1_G.2.1 55).2.2.1) ∈ aAW := cd_in3 (List.mem_of_getElem? (i := 46) rfl) rfl
theorem s1_cd56 : Cond.code (s1_yn 56) (s1_bc 56) (aMx s1_G 56) (aRty (s1_G.2.1 56).2.2.1) ∈ aAW := cd_in3 (List.mem_of_getElem? (i := 58) rfl) rfl
theorem s1_cd57 : Cond.code (s1_yn 57) (s1_bc 57) (aMx s1_G 57) (aRty (s1_G.2.1 57).2.2.1) ∈ aAW := cd_in3 (List.mem_of_getElem? (i := 205) rfl) rfl
theorem s1_cd58 : Cond.code (s1_yn 58) (s1_bc 58) (aMx s1_G 58) (aRty (s1_G.2.1 58).2.2.1) ∈ aAW := cd_in6 (List.mem_of_getElem? (i := 30) rfl) rfl
theorem s1_cd59 : Cond.code (s1_yn 59) (s1_bc 59) (aMx s1_G 59) (aRty (s1_G.2.1 59).2.2.1) ∈ aAW := cd_in3 (List.mem_of_getElem? (i := 157) rfl) rfl
theorem s1_cd60 : Cond.code (s1_yn 60) (s1_bc 60) (aMx s1_G 60) (aRty (s1_G.2.1 60).2.2.1) ∈ aAW := cd_in3 (List.mem_of_getElem? (i := 161) rfl) rfl
theorem s1_cd61 : Cond.code (s1_yn 61) (s1_bc 61) (aMx s1_G 61) (aRty (s1_G.2.1 61).2.2.1) ∈ aAW := cd_in4 (List.mem_of_getElem? (i := 57) rfl) rfl
theorem s1_cd62 : Cond.code (s1_yn 62) (s1_bc 62) (aMx s1_G 62) (aRty (s1_G.2.1 62).2.2.1) ∈ aAW := cd_in4 (List.mem_of_getElem? (i := 30) rfl) rfl
theorem s1_cd63 : Cond.code (s1_yn 63) (s1_bc 63) (aMx s1_G 63) (aRty (s1_G.2.1 63).2.2.1) ∈ aAW := cd_in5 (List.mem_of_getElem? (i := 35) rfl) rfl
theorem s1_cd64 : Cond.code (s1_yn 64) (s1_bc 64) (aMx s1_G 64) (aRty (s1_G.2.1 64).2.2.1) ∈ aAW := cd_in4 (List.mem_of_getElem? (i := 34) rfl) rfl
theorem s1_cd65 : Cond.code (s1_yn 65) (s1_bc 65) (aMx s1_G 65) (aRty (s1_G.2.1 65).2.2.1) ∈ aAW := cd_in4 (List.mem_of_getElem? (i := 26) rfl) rfl
theorem s1_cd66 : Cond.code (s1_yn 66) (s1_bc 66) (aMx s1_G 66) (aRty (s1_G.2.1 66).2.2.1) ∈ aAW := cd_in4 (List.mem_of_getElem? (i := 38) rfl) rfl
theorem s1_cd67 : Cond.code (s1_yn 67) (s1_bc 67) (aMx s1_G 67) (aRty (s1_G.2.1 67).2.2.1) ∈ aAW := cd_in4 (List.mem_of_getElem? (i := 44) rfl) rfl
theorem s1_cd68 : Cond.code (s1_yn 68) (s1_bc 68) (aMx s1_G 68) (aRty (s1_G.2.1 68).2.2.1) ∈ aAW := cd_in3 (List.mem_of_getElem? (i := 75) rfl) rfl
theorem s1_cd69 : Cond.code (s1_yn 69) (s1_bc 69) (aMx s1_G 69) (aRty (s1_G.2.1 69).2.2.1) ∈ aAW := cd_in3 (List.mem_of_getElem? (i := 148) rfl) rfl
theorem s1_cd70 : Cond.code (s1_yn 70) (s1_bc 70) (aMx s1_G 70) (aRty (s1_G.2.1 70).2.2.1) ∈ aAW := cd_in3 (List.mem_of_getElem? (i := 153) rfl) rfl
theorem s1_cd71 : Cond.code (s1_yn 71) (s1_bc 71) (aMx s1_G 71) (aRty (s1_G.2.1 71).2.2.1) ∈ aAW := cd_in3 (List.mem_of_getElem? (i := 196) rfl) rfl
theorem s1_cd72 : Cond.code (s1_yn 72) (s1_bc 72) (aMx s1_G 72) (aRty (s1_G.2.1 72).2.2.1) ∈ aAW := cd_in4 (List.mem_of_getElem? (i := 48) rfl) rfl
theorem s1_cd73 : Cond.code (s1_yn 73) (s1_bc 73) (aMx s1_G 73) (aRty (s1_G.2.1 73).2.2.1) ∈ aAW := cd_in4 (List.mem_of_getElem? (i := 52) rfl) rfl
theorem s1_cd74 : Cond.code (s1_yn 74) (s1_bc 74) (aMx s1_G 74) (aRty (s1_G.2.1 74).2.2.1) ∈ aAW := cd_in3 (List.mem_of_getElem? (i := 169) rfl) rfl
theorem s1_cd75 : Cond.code (s1_yn 75) (s1_bc 75) (aMx s1_G 75) (aRty (s1_G.2.1 75).2.2.1) ∈ aAW := cd_in3 (List.mem_of_getElem? (i := 173) rfl) rfl
theorem s1_cd76 : Cond.code (s1_yn 76) (s1_bc 76) (aMx s1_G 76) (aRty (s1_G.2.1 76).2.2.1) ∈ aAW := cd_in3 (List.mem_of_getElem? (i := 177) rfl) rfl
theorem s1_cd77 : Cond.code (s1_yn 77) (s1_bc 77) (aMx s1_G 77) (aRty (s1_G.2.1 77).2.2.1) ∈ aAW := cd_in3 (List.mem_of_getElem? (i := 182) rfl) rfl
theorem s1_cd78 : Cond.code (s1_yn 78) (s1_bc 78) (aMx s1_G 78) (aRty (s1_G.2.1 78).2.2.1) ∈ aAW := cd_in4 (List.mem_of_getElem? (i := 61) rfl) rfl
theorem s1_cd79 : Cond.code (s1_yn 79) (s1_bc 79) (aMx s1_G 79) (aRty (s1_G.2.1 79).2.2.1) ∈ aAW := cd_in5 (List.mem_of_getElem? (i := 28) rfl) rfl
theorem s1_cd80 : Cond.code (s1_yn 80) (s1_bc 80) (aMx s1_G 80) (aRty (s1_G.2.1 80).2.2.1) ∈ aAW := cd_in4 (List.mem_of_getElem? (i := 7) rfl) rfl
theorem s1_cd81 : Cond.code (s1_yn 81) (s1_bc 81) (aMx s1_G 81) (aRty (s1_G.2.1 81).2.2.1) ∈ aAW := cd_in4 (List.mem_of_getElem? (i := 11) rfl) rfl
theorem s1_cd82 : Cond.code (s1_yn 82) (s1_bc 82) (aMx s1_G 82) (aRty (s1_G.2.1 82).2.2.1) ∈ aAW := cd_in3 (List.mem_of_getElem? (i := 201) rfl) rfl
theorem s1_cd83 : Cond.code (s1_yn 83) (s1_bc 83) (aMx s1_G 83) (aRty (s1_G.2.1 83).2.2.1) ∈ aAW := cd_in5 (List.mem_of_getElem? (i := 138) rfl) rfl
theorem s1_cd84 : Cond.code (s1_yn 84) (s1_bc 84) (aMx s1_G 84) (aRty (s1_G.2.1 84).2.2.1) ∈ aAW := cd_in5 (List.mem_of_getElem? (i := 143) rfl) rfl
theorem s1_cd85 : Cond.code (s1_yn 85) (s1_bc 85) (aMx s1_G 85) (aRty (s1_G.2.1 85).2.2.1) ∈ aAW := cd_in5 (List.mem_of_getElem? (i := 81) rfl) rfl
theorem s1_cd86 : Cond.code (s1_yn 86) (s1_bc 86) (aMx s1_G 86) (aRty (s1_G.2.1 86).2.2.1) ∈ aAW := cd_in5 (List.mem_of_getElem? (i := 102) rfl) rfl
theorem s1_cd87 : Cond.code (s1_yn 87) (s1_bc 87) (aMx s1_G 87) (aRty (s1_G.2.1 87).2.2.1) ∈ aAW := cd_in5 (List.mem_of_getElem? (i := 111) rfl) rfl
theorem s1_cd88 : Cond.code (s1_yn 88) (s1_bc 88) (aMx s1_G 88) (aRty (s1_G.2.1 88).2.2.1) ∈ aAW := cd_in5 (List.mem_of_getElem? (i := 98) rfl) rfl
theorem s1_cd89 : Cond.code (s1_yn 89) (s1_bc 89) (aMx s1_G 89) (aRty (s1_G.2.1 89).2.2.1) ∈ aAW := cd_in5 (List.mem_of_getElem? (i := 94) rfl) rfl
theorem s1_cd90 : Cond.code (s1_yn 90) (s1_bc 90) (aMx s1_G 90) (aRty (s1_G.2.1 90).2.2.1) ∈ aAW := cd_in5 (List.mem_of_getElem? (i := 120) rfl) rfl
theorem s1_cd91 : Cond.code (s1_yn 91) (s1_bc 91) (aMx s1_G 91) (aRty (s1_G.2.1 91).2.2.1) ∈ aAW := cd_in5 (List.mem_of_getElem? (i := 126) rfl) rfl
theorem s1_cd92 : Cond.code (s1_yn 92) (s1_bc 92) (aMx s1_G 92) (aRty (s1_G.2.1 92).2.2.1) ∈ aAW := cd_in5 (List.mem_of_getElem? (i := 155) rfl) rfl
theorem s1_cd93 : Cond.code (s1_yn 93) (s1_bc 93) (aMx s1_G 93) (aRty (s1_G.2.1 93).2.2.1) ∈ aAW := cd_in5 (List.mem_of_getElem? (i := 196) rfl) rfl
theorem s1_cd94 : Cond.code (s1_yn 94) (s1_bc 94) (aMx s1_G 94) (aRty (s1_G.2.1 94).2.2.1) ∈ aAW := cd_in5 (List.mem_of_getElem? (i := 200) rfl) rfl
theorem s1_cd95 : Cond.code (s1_yn 95) (s1_bc 95) (aMx s1_G 95) (aRty (s1_G.2.1 95).2.2.1) ∈ aAW := cd_in5 (List.mem_of_getElem? (i := 164) rfl) rfl
theorem s1_cd96 : Cond.code (s1_yn 96) (s1_bc 96) (aMx s1_G 96) (aRty (s1_G.2.1 96).2.2.1) ∈ aAW := cd_in5 (List.mem_of_getElem? (i := 182) rfl) rfl
theorem s1_cd97 : Cond.code (s1_yn 97) (s1_bc 97) (aMx s1_G 97) (aRty (s1_G.2.1 97).2.2.1) ∈ aAW := cd_in5 (List.mem_of_getElem? (i := 192) rfl) rfl
theorem s1_cd98 : Cond.code (s1_yn 98) (s1_bc 98) (aMx s1_G 98) (aRty (s1_G.2.1 98).2.2.1) ∈ aAW := cd_in5 (List.mem_of_getElem? (i := 186) rfl) rfl
theorem s1_cd99 : Cond.code (s1_yn 99) (s1_bc 99) (aMx s1_G 99) (aRty (s1_G.2.1 99).2.2.1) ∈ aAW := cd_in5 (List.mem_of_getElem? (i := 172) rfl) rfl
theorem s1_cd100 : Cond.code (s1_yn 100) (s1_bc 100) (aMx s1_G 100) (aRty (s1_G.2.1 100).2.2.1) ∈ aAW := cd_in5 (List.mem_of_getElem? (i := 168) rfl) rfl
theorem s1_cd101 : Cond.code (s1_yn 101) (s1_bc 101) (aMx s1_G 101) (aRty (s1_G.2.1 101).2.2.1) ∈ aAW := cd_in6 (List.mem_of_getElem? (i := 17) rfl) rfl
theorem s1_cd102 : Cond.code (s1_yn 102) (s1_bc 102) (aMx s1_G 102) (aRty (s1_G.2.1 102).2.2.1) ∈ aAW := cd_in6 (List.mem_of_getElem? (i := 21) rfl) rfl
theorem s1_cd103 : Cond.code (s1_yn 103) (s1_bc 103) (aMx s1_G 103) (aRty (s1_G.2.1 103).2.2.1) ∈ aAW := cd_in6 (List.mem_of_getElem? (i := 26) rfl) rfl
theorem s1_cd104 : Cond.code (s1_yn 104) (s1_bc 104) (aMx s1_G 104) (aRty (s1_G.2.1 104).2.2.1) ∈ aAW := cd_in6 (List.mem_of_getElem? (i := 36) rfl) rfl
theorem s1_cd105 : Cond.code (s1_yn 105) (s1_bc 105) (aMx s1_G 105) (aRty (s1_G.2.1 105).2.2.1) ∈ aAW := cd_in6 (List.mem_of_getElem? (i := 40) rfl) rfl
theorem s1_cd106 : Cond.code (s1_yn 106) (s1_bc 106) (aMx s1_G 106) (aRty (s1_G.2.1 106).2.2.1) ∈ aAW := cd_in6 (List.mem_of_getElem? (i := 44) rfl) rfl
theorem s1_cd107 : Cond.code (s1_yn 107) (s1_bc 107) (aMx s1_G 107) (aRty (s1_G.2.1 107).2.2.1) ∈ aAW := cd_in3 (List.mem_of_getElem? (i := 33) rfl) rfl
theorem s1_cd108 : Cond.code (s1_yn 108) (s1_bc 108) (aMx s1_G 108) (aRty (s1_G.2.1 108).2.2.1) ∈ aAW := cd_in3 (List.mem_of_getElem? (i := 42) rfl) rfl
theorem s1_cd109 : Cond.code (s1_yn 109) (s1_bc 109) (aMx s1_G 109) (aRty (s1_G.2.1 109).2.2.1) ∈ aAW := cd_in3 (List.mem_of_getElem? (i := 51) rfl) rfl
theorem s1_cd110 : Cond.code (s1_yn 110) (s1_bc 110) (aMx s1_G 110) (aRty (s1_G.2.1 110).2.2.1) ∈ aAW := cd_in3 (List.mem_of_getElem? (i := 62) rfl) rfl
theorem s1_cd111 : Cond.code (s1_yn 111) (s1_bc 111) (aMx s1_G 111) (aRty (s1_G.2.1 111).2.2.1) ∈ aAW := cd_in3 (List.mem_of_getElem? (i := 79) rfl) rfl
theorem s1_cd112 : Cond.code (s1_yn 112) (s1_bc 112) (aMx s1_G 112) (aRty (s1_G.2.1 112).2.2.1) ∈ aAW := cd_in3 (List.mem_of_getElem? (i := 105) rfl) rfl
theorem s1_cd113 : Cond.code (s1_yn 113) (s1_bc 113) (aMx s1_G 113) (aRty (s1_G.2.1 113).2.2.1) ∈ aAW := cd_in3 (List.mem_of_getElem? (i := 124) rfl) rfl
theorem s1_cd114 : Cond.code (s1_yn 114) (s1_bc 114) (aMx s1_G 114) (aRty (s1_G.2.1 114).2.2.1) ∈ aAW := cd_in3 (List.mem_of_getElem? (i := 132) rfl) rfl
theorem s1_cd115 : Cond.code (s1_yn 115) (s1_bc 115) (aMx s1_G 115) (aRty (s1_G.2.1 115).2.2.1) ∈ aAW := cd_in3 (List.mem_of_getElem? (i := 144) rfl) rfl
theorem s1_cd116 : Cond.code (s1_yn 116) (s1_bc 116) (aMx s1_G 116) (aRty (s1_G.2.1 116).2.2.1) ∈ aAW := cd_in4 (List.mem_of_getElem? (i := 69) rfl) rfl
theorem s1_cd117 : Cond.code (s1_yn 117) (s1_bc 117) (aMx s1_G 117) (aRty (s1_G.2.1 117).2.2.1) ∈ aAW := cd_in4 (List.mem_of_getElem? (i := 77) rfl) rfl
theorem s1_cd118 : Cond.code (s1_yn 118) (s1_bc 118) (aMx s1_G 118) (aRty (s1_G.2.1 118).2.2.1) ∈ aAW := cd_in5 (List.mem_of_getElem? (i := 4) rfl) rfl
theorem s1_cd119 : Cond.code (s1_yn 119) (s1_bc 119) (aMx s1_G 119) (aRty (s1_G.2.1 119).2.2.1) ∈ aAW := cd_in5 (List.mem_of_getElem? (i := 8) rfl) rfl
theorem s1_cd120 : Cond.code (s1_yn 120) (s1_bc 120) (aMx s1_G 120) (aRty (s1_G.2.1 120).2.2.1) ∈ aAW := cd_in5 (List.mem_of_getElem? (i := 13) rfl) rfl
theorem s1_cd121 : Cond.code (s1_yn 121) (s1_bc 121) (aMx s1_G 121) (aRty (s1_G.2.1 121).2.2.1) ∈ aAW := cd_in5 (List.mem_of_getElem? (i := 18) rfl) rfl
theorem s1_cd122 : Cond.code (s1_yn 122) (s1_bc 122) (aMx s1_G 122) (aRty (s1_G.2.1 122).2.2.1) ∈ aAW := cd_in5 (List.mem_of_getElem? (i := 23) rfl) rfl
theorem s1_cd123 : Cond.code (s1_yn 123) (s1_bc 123) (aMx s1_G 123) (aRty (s1_G.2.1 123).2.2.1) ∈ aAW := cd_in5 (List.mem_of_getElem? (i := 39) rfl) rfl
theorem s1_cd124 : Cond.code (s1_yn 124) (s1_bc 124) (aMx s1_G 124) (aRty (s1_G.2.1 124).2.2.1) ∈ aAW := cd_in5 (List.mem_of_getElem? (i := 48) rfl) rfl
theorem s1_cd125 : Cond.code (s1_yn 125) (s1_bc 125) (aMx s1_G 125) (aRty (s1_G.2.1 125).2.2.1) ∈ aAW := cd_in5 (List.mem_of_getElem? (i := 43) rfl) rfl
theorem s1_cd126 : Cond.code (s1_yn 126) (s1_bc 126) (aMx s1_G 126) (aRty (s1_G.2.1 126).2.2.1) ∈ aAW := cd_in5 (List.mem_of_getElem? (i := 52) rfl) rfl
theorem s1_cd127 : Cond.code (s1_yn 127) (s1_bc 127) (aMx s1_G 127) (aRty (s1_G.2.1 127).2.2.1) ∈ aAW := cd_in5 (List.mem_of_getElem? (i := 60) rfl) rfl
theorem s1_cd128 : Cond.code (s1_yn 128) (s1_bc 128) (aMx s1_G 128) (aRty (s1_G.2.1 128).2.2.1) ∈ aAW := cd_in5 (List.mem_of_getElem? (i := 73) rfl) rfl
theorem s1_cd129 : Cond.code (s1_yn 129) (s1_bc 129) (aMx s1_G 129) (aRty (s1_G.2.1 129).2.2.1) ∈ aAW := cd_in5 (List.mem_of_getElem? (i := 77) rfl) rfl
theorem s1_cd130 : Cond.code (s1_yn 130) (s1_bc 130) (aMx s1_G 130) (aRty (s1_G.2.1 130).2.2.1) ∈ aAW := cd_in5 (List.mem_of_getElem? (i := 86) rfl) rfl
theorem s1_cd131 : Cond.code (s1_yn 131) (s1_bc 131) (aMx s1_G 131) (aRty (s1_G.2.1 131).2.2.1) ∈ aAW := cd_in5 (List.mem_of_getElem? (i := 107) rfl) rfl
theorem s1_cd132 : Cond.code (s1_yn 132) (s1_bc 132) (aMx s1_G 132) (aRty (s1_G.2.1 132).2.2.1) ∈ aAW := cd_in5 (List.mem_of_getElem? (i := 115) rfl) rfl
theorem s1_cd133 : Cond.code (s1_yn 133) (s1_bc 133) (aMx s1_G 133) (aRty (s1_G.2.1 133).2.2.1) ∈ aAW := cd_in5 (List.mem_of_getElem? (i := 130) rfl) rfl
theorem s1_cd134 : Cond.code (s1_yn 134) (s1_bc 134) (aMx s1_G 134) (aRty (s1_G.2.1 134).2.2.1) ∈ aAW := cd_in5 (List.mem_of_getElem? (i := 148) rfl) rfl
theorem s1_cd135 : Cond.code (s1_yn 135) (s1_bc 135) (aMx s1_G 135) (aRty (s1_G.2.1 135).2.2.1) ∈ aAW := cd_in5 (List.mem_of_getElem? (i := 160) rfl) rfl
theorem s1_cd136 : Cond.code (s1_yn 136) (s1_bc 136) (aMx s1_G 136) (aRty (s1_G.2.1 136).2.2.1) ∈ aAW := cd_in5 (List.mem_of_getElem? (i := 205) rfl) rfl
theorem s1_cd137 : Cond.code (s1_yn 137) (s1_bc 137) (aMx s1_G 137) (aRty (s1_G.2.1 137).2.2.1) ∈ aAW := cd_in5 (List.mem_of_getElem? (i := 214) rfl) rfl
theorem s1_cd138 : Cond.code (s1_yn 138) (s1_bc 138) (aMx s1_G 138) (aRty (s1_G.2.1 138).2.2.1) ∈ aAW := cd_in5 (List.mem_of_getElem? (i := 231) rfl) rfl
theorem s1_cd139 : Cond.code (s1_yn 139) (s1_bc 139) (aMx s1_G 139) (aRty (s1_G.2.1 139).2.2.1) ∈ aAW := cd_in6 (List.mem_of_getElem? (i := 12) rfl) rfl
theorem s1_cd140 : Cond.code (s1_yn 140) (s1_bc 140) (aMx s1_G 140) (aRty (s1_G.2.1 140).2.2.1) ∈ aAW := cd_in3 (List.mem_of_getElem? (i := 36) rfl) rfl
theorem s1_cd141 : Cond.code (s1_yn 141) (s1_bc 141) (aMx s1_G 141) (aRty (s1_G.2.1 141).2.2.1) ∈ aAW := cd_in3 (List.mem_of_getElem? (i := 120) rfl) rfl
theorem s1_cd142 : Cond.code (s1_yn 142) (s1_bc 142) (aMx s1_G 142) (aRty (s1_G.2.1 142).2.2.1) ∈ aAW := cd_in4 (List.mem_of_getElem? (i := 80) rfl) rfl
theorem s1_cd143 : Cond.code (s1_yn 143) (s1_bc 143) (aMx s1_G 143) (aRty (s1_G.2.1 143).2.2.1) ∈ aAW := cd_in5 (List.mem_of_getElem? (i := 151) rfl) rfl
theorem s1_cd144 : Cond.code (s1_yn 144) (s1_bc 144) (aMx s1_G 144) (aRty (s1_G.2.1 144).2.2.1) ∈ aAW := cd_in3 (List.mem_of_getElem? (i := 54) rfl) rfl
theorem s1_cd145 : Cond.code (s1_yn 145) (s1_bc 145) (aMx s1_G 145) (aRty (s1_G.2.1 145).2.2.1) ∈ aAW := cd_in3 (List.mem_of_getElem? (i := 128) rfl) rfl
theorem s1_cd146 : Cond.code (s1_yn 146) (s1_bc 146) (aMx s1_G 146) (aRty (s1_G.2.1 146).2.2.1) ∈ aAW := cd_in3 (List.mem_of_getElem? (i := 70) rfl) rfl
theorem s1_cd147 : Cond.code (s1_yn 147) (s1_bc 147) (aMx s1_G 147) (aRty (s1_G.2.1 147).2.2.1) ∈ aAW := cd_in3 (List.mem_of_getElem? (i := 66) rfl) rfl
theorem s1_cd148 : Cond.code (s1_yn 148) (s1_bc 148) (aMx s1_G 148) (aRty (s1_G.2.1 148).2.2.1) ∈ aAW := cd_in3 (List.mem_of_getElem? (i := 93) rfl) rfl
theorem s1_cd149 : Cond.code (s1_yn 149) (s1_bc 149) (aMx s1_G 149) (aRty (s1_G.2.1 149).2.2.1) ∈ aAW := cd_in5 (List.mem_of_getElem? (i := 90) rfl) rfl
theorem s1_cd150 : Cond.code (s1_yn 150) (s1_bc 150) (aMx s1_G 150) (aRty (s1_G.2.1 150).2.2.1) ∈ aAW := cd_in5 (List.mem_of_getElem? (i := 218) rfl) rfl
theorem s1_cd151 : Cond.code (s1_yn 151) (s1_bc 151) (aMx s1_G 151) (aRty (s1_G.2.1 151).2.2.1) ∈ aAW := cd_in5 (List.mem_of_getElem? (i := 175) rfl) rfl
theorem s1_cd152 : Cond.code (s1_yn 152) (s1_bc 152) (aMx s1_G 152) (aRty (s1_G.2.1 152).2.2.1) ∈ aAW := cd_in3 (List.mem_of_getElem? (i := 185) rfl) rfl
theorem s1_cd : ∀ y, y < 153 → Cond.code (s1_yn y) (s1_bc y) (aMx s1_G y) (aRty (s1_G.2.1 y).2.2.1) ∈ aAW := fun y h => match y, h with
  | 0, _ => s1_cd0
  | 1, _ => s1_cd1
  | 2, _ => s1_cd2
  | 3, _ => s1_cd3
  | 4, _ => s1_cd4
  | 5, _ => s1_cd5
  | 6, _ => s1_cd6
  | 7, _ => s1_cd7
  | 8, _ => s1_cd8
  | 9, _ => s1_cd9
  | 10, _ => s1_cd10
  | 11, _ => s1_cd11
  | 12, _ => s1_cd12
  | 13, _ => s1_cd13
  | 14, _ => s1_cd14
  | 15, _ => s1_cd15
  | 16, _ => s1_cd16
  | 17, _ => s1_cd17
  | 18, _ => s1_cd18
  | 19, _ => s1_cd19
  | 20, _ => s1_cd20
  | 21, _ => s1_cd21
  | 22, _ => s1_cd22
  | 23, _ => s1_cd23
  | 24, _ => s1_cd24
  | 25, _ => s1_cd25
  | 26, _ => s1_cd26
  | 27, _ => s1_cd27
  | 28, _ => s1_cd28
  | 29, _ => s1_cd29
  | 30, _ => s1_cd30
  | 31, _ => s1_cd31
  | 32, _ => s1_cd32
  | 33, _ => s1_cd33
  | 34, _ => s1_cd34
  | 35, _ => s1_cd35
  | 36, _ => s1_cd36
  | 37, _ => s1_cd37
  | 38, _ => s1_cd38
  | 39, _ => s1_cd39
  | 40, _ => s1_cd40
  | 41, _ => s1_cd41
  | 42, _ => s1_cd42
  | 43, _ => s1_cd43
  | 44, _ => s1_cd44
  | 45, _ => s1_cd45
  | 46, _ => s1_cd46
  | 47, _ => s1_cd47
  | 48, _ => s1_cd48
  | 49, _ => s1_cd49
  | 50, _ => s1_cd50
  | 51, _ => s1_cd51
  | 52, _ => s1_cd52
  | 53, _ => s1_cd53
  | 54, _ => s1_cd54
  | 55, _ => s1_cd55
  | 56, _ => s1_cd56
  | 57, _ => s1_cd57
  | 58, _ => s1_cd58
  | 59, _ => s1_cd59
  | 60, _ => s1_cd60
  | 61, _ => s1_cd61
  | 62, _ => s1_cd62
  | 63, _ => s1_cd63
  | 64, _ => s1_cd64
  | 65, _ => s1_cd65
  | 66, _ => s1_cd66
  | 67, _ => s1_cd67
  | 68, _ => s1_cd68
  | 69, _ => s1_cd69
  | 70, _ => s1_cd70
  | 71, _ => s1_cd71
  | 72, _ => s1_cd72
  | 73, _ => s1_cd73
  | 74, _ => s1_cd74
  | 75, _ => s1_cd75
  | 76, _ => s1_cd76
  | 77, _ => s1_cd77
  | 78, _ => s1_cd78
  | 79, _ => s1_cd79
  | 80, _ => s1_cd80
  | 81, _ => s1_cd81
  | 82, _ => s1_cd82
  | 83, _ => s1_cd83
  | 84, _ => s1_cd84
  | 85, _ => s1_cd85
  | 86, _ => s1_cd86
  | 87, _ => s1_cd87
  | 88, _ => s1_cd88
  | 89, _ => s1_cd89
  | 90, _ => s1_cd90
  | 91, _ => s1_cd91
  | 92, _ => s1_cd92
  | 93, _ => s1_cd93
  | 94, _ => s1_cd94
  | 95, _ => s1_cd95
  | 96, _ => s1_cd96
  | 97, _ => s1_cd97
  | 98, _ => s1_cd98
  | 99, _ => s1_cd99
  | 100, _ => s1_cd100
  | 101, _ => s1_cd101
  | 102, _ => s1_cd102
  | 103, _ => s1_cd103
  | 104, _ => s1_cd104
  | 105, _ => s1_cd105
  | 106, _ => s1_cd106
  | 107, _ => s1_cd107
  | 108, _ => s1_cd108
  | 109, _ => s1_cd109
  | 110, _ => s1_cd110
  | 111, _ => s1_cd111
  | 112, _ => s1_cd112
  | 113, _ => s1_cd113
  | 114, _ => s1_cd114
  | 115, _ => s1_cd115
  | 116, _ => s1_cd116
  | 117, _ => s1_cd117
  | 118, _ => s1_cd118
  | 119, _ => s1_cd119
  | 120, _ => s1_cd120
  | 121, _ => s1_cd121
  | 122, _ => s1_cd122
  | 123, _ => s1_cd123
  | 124, _ => s1_cd124
  | 125, _ => s1_cd125
  | 126, _ => s1_cd126
  | 127, _ => s1_cd127
  | 128, _ => s1_cd128
  | 129, _ => s1_cd129
  | 130, _ => s1_cd130
  | 131, _ => s1_cd131
  | 132, _ => s1_cd132
  | 133, _ => s1_cd133
  | 134, _ => s1_cd134
  | 135, _ => s1_cd135
  | 136, _ => s1_cd136
  | 137, _ => s1_cd137
  | 138, _ => s1_cd138
  | 139, _ => s1_cd139
  | 140, _ => s1_cd140
  | 141, _ => s1_cd141
  | 142, _ => s1_cd142
  | 143, _ => s1_cd143
  | 144, _ => s1_cd144
  | 145, _ => s1_cd145
  | 146, _ => s1_cd146
  | 147, _ => s1_cd147
  | 148, _ => s1_cd148
  | 149, _ => s1_cd149
  | 150, _ => s1_cd150
  | 151, _ => s1_cd151
  | 152, _ => s1_cd152
  | y + 153, h => absurd h (by omega)
theorem s1_mt_ok : (List.range 153).all (gk_m s1_G s1_cn s1_yn s1_bc s1_mi) = true := by decide +kernel
theorem s1_cl : ∀ ci, ci < 13 → gk_c13 ci (s1_cn ci) (s1_tf ci).1 (s1_tf ci).2.1 (s1_tf ci).2.2 := fun ci h => match ci, h with
  | 0, _ => gk_cl0
  | 1, _ => gk_cl1
  | 2, _ => gk_cl2
  | 3, _ => gk_cl3
  | 4, _ => gk_cl4
  | 5, _ => gk_cl5
  | 6, _ => gk_cl6
  | 7, _ => gk_cl7
  | 8, _ => gk_cl8
  | 9, _ => gk_cl9
  | 10, _ => gk_cl10
  | 11, _ => gk_cl11
  | 12, _ => gk_cl12
  | n + 13, h => absurd h (by omega)
theorem s1_blk : ∀ y pc, y < 153 → okL s1_G 21 153 13 s1_cn s1_yn s1_bc s1_tf aAW s1_AN s1_zs s1_sk y pc (s1_G.2.2.1 y pc) := by
  intro y pc hy
  have key : ck_B s1_G 21 153 13 s1_cn s1_yn s1_bc s1_tf s1_AN s1_zs s1_sk s1_ar y (s1_bl y) (s1_ix y) = true := by
    rcases Nat.lt_or_ge y 12 with h0 | h0
    · exact List.all_eq_true.mp s1_ck0 y (List.mem_map.mpr ⟨y - 0, List.mem_range.mpr (by omega), by omega⟩)
    rcases Nat.lt_or_ge y 24 with h12 | h12
    · exact List.all_eq_true.mp s1_ck12 y (List.mem_map.mpr ⟨y - 12, List.mem_range.mpr (by omega), by omega⟩)
    rcases Nat.lt_or_ge y 36 with h24 | h24
    · exact List.all_eq_true.mp s1_ck24 y (List.mem_map.mpr ⟨y - 24, List.mem_range.mpr (by omega), by omega⟩)
    rcases Nat.lt_or_ge y 48 with h36 | h36
    · exact List.all_eq_true.mp s1_ck36 y (List.mem_map.mpr ⟨y - 36, List.mem_range.mpr (by omega), by omega⟩)
    rcases Nat.lt_or_ge y 60 with h48 | h48
    · exact List.all_eq_true.mp s1_ck48 y (List.mem_map.mpr ⟨y - 48, List.mem_range.mpr (by omega), by omega⟩)
    rcases Nat.lt_or_ge y 72 with h60 | h60
    · exact List.all_eq_true.mp s1_ck60 y (List.mem_map.mpr ⟨y - 60, List.mem_range.mpr (by omega), by omega⟩)
    rcases Nat.lt_or_ge y 84 with h72 | h72
    · exact List.all_eq_true.mp s1_ck72 y (List.mem_map.mpr ⟨y - 72, List.mem_range.mpr (by omega), by omega⟩)
    rcases Nat.lt_or_ge y 96 with h84 | h84
    · exact List.all_eq_true.mp s1_ck84 y (List.mem_map.mpr ⟨y - 84, List.mem_range.mpr (by omega), by omega⟩)
    rcases Nat.lt_or_ge y 108 with h96 | h96
    · exact List.all_eq_true.mp s1_ck96 y (List.mem_map.mpr ⟨y - 96, List.mem_range.mpr (by omega), by omega⟩)
    rcases Nat.lt_or_ge y 120 with h108 | h108
    · exact List.all_eq_true.mp s1_ck108 y (List.mem_map.mpr ⟨y - 108, List.mem_range.mpr (by omega), by omega⟩)
    rcases Nat.lt_or_ge y 132 with h120 | h120
    · exact List.all_eq_true.mp s1_ck120 y (List.mem_map.mpr ⟨y - 120, List.mem_range.mpr (by omega), by omega⟩)
    rcases Nat.lt_or_ge y 144 with h132 | h132
    · exact List.all_eq_true.mp s1_ck132 y (List.mem_map.mpr ⟨y - 132, List.mem_range.mpr (by omega), by omega⟩)
    exact List.all_eq_true.mp s1_ck144 y (List.mem_map.mpr ⟨y - 144, List.mem_range.mpr (by omega), by omega⟩)
  exact a_find_all (P := okL s1_G 21 153 13 s1_cn s1_yn s1_bc s1_tf aAW s1_AN s1_zs s1_sk y) trivial _ (ck_B_ok s1_har _ _ key)
theorem s1_tab {ad : Nat → Nat} {XS : State → Heap → Prop} (hadi : ∀ i j, i < 205 → j < 205 → ad i = ad j → i = j) (h1 : ∀ {u U : State} {H : Heap}, u.vm.Alike U.vm → XS u H → XS U H) (h2 : ∀ {U : State} {H H1 : Heap}, XS U H → (∀ a : Nat, a < H.size → ¬ aF ad 205 a → H1[a]? = H[a]?) → XS U H1) :
    aTab s1_G ad 205 21 153 13 wCl s1_cn s1_yn s1_bc s1_tf aAW s1_AN s1_zs s1_sk XS :=
  ⟨s1_gw, hadi, s1_cl, s1_kf, gk_m_ok s1_mt_ok s1_cd, aAW_good, fun w hw => (by simp only [s1_AN, List.mem_cons, List.not_mem_nil, or_false] at hw; rcases hw with rfl | rfl | rfl | rfl | rfl <;> exact ⟨_, _, _, _, rfl⟩), s1_blk, h1, h2⟩
theorem s1_sb : ∀ k, k < 21 → aR32 (s1_G.2.2.2 k).length ∧ ∀ z ∈ s1_G.2.2.2 k, aR32 z := by
  have h : (List.range 21).all (fun k => ck_r32 (s1_st k).length && (s1_st k).all ck_r32) = true := by decide +kernel
  intro k hk
  have a := List.all_eq_true.mp h k (List.mem_range.mpr hk)
  rw [Bool.and_eq_true] at a
  exact ⟨ck_r32_ok a.1, fun z hz => ck_r32_ok (List.all_eq_true.mp a.2 z hz)⟩
theorem s2_kd_out : ∀ q, 68 ≤ q → s2_kd q = kC [] := fun q hq => by
  unfold s2_kd
  rw [show Nat.blt q 68 = false from by rw [Bool.eq_false_iff]; intro h; have := Nat.le_of_ble_eq_true h; omega]
  rfl
theorem s2_gw : aGW s2_G 68 := gk_ok (nk := 68) (by decide +kernel) (by decide +kernel) s2_kd_out (by omega)
theorem s2_kf : ∀ q ci fs, s2_G.1 q = kO ci fs → ci < 13 ∧ fs.length = (s2_tf ci).2.1 ∧ ∀ k, (fs[k]? = some 0 → (s2_tf ci).2.2 k = .int) ∧ (fs[k]? = some 1 → (s2_tf ci).2.2 k = .boolean) := gk_f_ok (nk := 68) (by decide +kernel) s2_kd_out
theorem s2_cd0 : Cond.code (s2_yn 0) (s2_bc 0) (aMx s2_G 0) (aRty (s2_G.2.1 0).2.2.1) ∈ aAW := cd_in7 (List.mem_of_getElem? (i := 110) rfl) rfl
theorem s2_cd1 : Cond.code (s2_yn 1) (s2_bc 1) (aMx s2_G 1) (aRty (s2_G.2.1 1).2.2.1) ∈ aAW := cd_in7 (List.mem_of_getElem? (i := 171) rfl) rfl
theorem s2_cd2 : Cond.code (s2_yn 2) (s2_bc 2) (aMx s2_G 2) (aRty (s2_G.2.1 2).2.2.1) ∈ aAW := cd_in8 (List.mem_of_getElem? (i := 112) rfl) rfl
theorem s2_cd3 : Cond.code (s2_yn 3) (s2_bc 3) (aMx s2_G 3) (aRty (s2_G.2.1 3).2.2.1) ∈ aAW := cd_in7 (List.mem_of_getElem? (i := 136) rfl) rfl
theorem s2_cd4 : Cond.code (s2_yn 4) (s2_bc 4) (aMx s2_G 4) (aRty (s2_G.2.1 4).2.2.1) ∈ aAW := cd_in7 (List.mem_of_getElem? (i := 132) rfl) rfl
theorem s2_cd5 : Cond.code (s2_yn 5) (s2_bc 5) (aMx s2_G 5) (aRty (s2_G.2.1 5).2.2.1) ∈ aAW := cd_in7 (List.mem_of_getElem? (i := 213) rfl) rfl
theorem s2_cd6 : Cond.code (s2_yn 6) (s2_bc 6) (aMx s2_G 6) (aRty (s2_G.2.1 6).2.2.1) ∈ aAW := cd_in7 (List.mem_of_getElem? (i := 157) rfl) rfl
theorem s2_cd7 : Cond.code (s2_yn 7) (s2_bc 7) (aMx s2_G 7) (aRty (s2_G.2.1 7).2.2.1) ∈ aAW := cd_in7 (List.mem_of_getElem? (i := 106) rfl) rfl
theorem s2_cd8 : Cond.code (s2_yn 8) (s2_bc 8) (aMx s2_G 8) (aRty (s2_G.2.1 8).2.2.1) ∈ aAW := cd_in7 (List.mem_of_getElem? (i := 116) rfl) rfl
theorem s2_cd9 : Cond.code (s2_yn 9) (s2_bc 9) (aMx s2_G 9) (aRty (s2_G.2.1 9).2.2.1) ∈ aAW := cd_in7 (List.mem_of_getElem? (i := 121) rfl) rfl
theorem s2_cd10 : Cond.code (s2_yn 10) (s2_bc 10) (aMx s2_G 10) (aRty (s2_G.2.1 10).2.2.1) ∈ aAW := cd_in8 (List.mem_of_getElem? (i := 109) rfl) rfl
theorem s2_cd11 : Cond.code (s2_yn 11) (s2_bc 11) (aMx s2_G 11) (aRty (s2_G.2.1 11).2.2.1) ∈ aAW := cd_in7 (List.mem_of_getElem? (i := 128) rfl) rfl
theorem s2_cd12 : Cond.code (s2_yn 12) (s2_bc 12) (aMx s2_G 12) (aRty (s2_G.2.1 12).2.2.1) ∈ aAW := cd_in7 (List.mem_of_getElem? (i := 147) rfl) rfl
theorem s2_cd13 : Cond.code (s2_yn 13) (s2_bc 13) (aMx s2_G 13) (aRty (s2_G.2.1 13).2.2.1) ∈ aAW := cd_in7 (List.mem_of_getElem? (i := 150) rfl) rfl
theorem s2_cd14 : Cond.code (s2_yn 14) (s2_bc 14) (aMx s2_G 14) (aRty (s2_G.2.1 14).2.2.1) ∈ aAW := cd_in7 (List.mem_of_getElem? (i := 153) rfl) rfl
theorem s2_cd15 : Cond.code (s2_yn 15) (s2_bc 15) (aMx s2_G 15) (aRty (s2_G.2.1 15).2.2.1) ∈ aAW := cd_in7 (List.mem_of_getElem? (i := 160) rfl) rfl
theorem s2_cd16 : Cond.code (s2_yn 16) (s2_bc 16) (aMx s2_G 16) (aRty (s2_G.2.1 16).2.2.1) ∈ aAW := cd_in7 (List.mem_of_getElem? (i := 141) rfl) rfl
theorem s2_cd17 : Cond.code (s2_yn 17) (s2_bc 17) (aMx s2_G 17) (aRty (s2_G.2.1 17).2.2.1) ∈ aAW := cd_in7 (List.mem_of_getElem? (i := 168) rfl) rfl
theorem s2_cd18 : Cond.code (s2_yn 18) (s2_bc 18) (aMx s2_G 18) (aRty (s2_G.2.1 18).2.2.1) ∈ aAW := cd_in7 (List.mem_of_getElem? (i := 179) rfl) rfl
theorem s2_cd19 : Cond.code (s2_yn 19) (s2_bc 19) (aMx s2_G 19) (aRty (s2_G.2.1 19).2.2.1) ∈ aAW := cd_in7 (List.mem_of_getElem? (i := 164) rfl) rfl
theorem s2_cd20 : Cond.code (s2_yn 20) (s2_bc 20) (aMx s2_G 20) (aRty (s2_G.2.1 20).2.2.1) ∈ aAW := cd_in7 (List.mem_of_getElem? (i := 175) rfl) rfl
theorem s2_cd21 : Cond.code (s2_yn 21) (s2_bc 21) (aMx s2_G 21) (aRty (s2_G.2.1 21).2.2.1) ∈ aAW := cd_in7 (List.mem_of_getElem? (i := 192) rfl) rfl
theorem s2_cd22 : Cond.code (s2_yn 22) (s2_bc 22) (aMx s2_G 22) (aRty (s2_G.2.1 22).2.2.1) ∈ aAW := cd_in7 (List.mem_of_getElem? (i := 188) rfl) rfl
theorem s2_cd23 : Cond.code (s2_yn 23) (s2_bc 23) (aMx s2_G 23) (aRty (s2_G.2.1 23).2.2.1) ∈ aAW := cd_in8 (List.mem_of_getElem? (i := 89) rfl) rfl
theorem s2_cd24 : Cond.code (s2_yn 24) (s2_bc 24) (aMx s2_G 24) (aRty (s2_G.2.1 24).2.2.1) ∈ aAW := cd_in7 (List.mem_of_getElem? (i := 200) rfl) rfl
theorem s2_cd25 : Cond.code (s2_yn 25) (s2_bc 25) (aMx s2_G 25) (aRty (s2_G.2.1 25).2.2.1) ∈ aAW := cd_in7 (List.mem_of_getElem? (i := 196) rfl) rfl
theorem s2_cd26 : Cond.code (s2_yn 26) (s2_bc 26) (aMx s2_G 26) (aRty (s2_G.2.1 26).2.2.1) ∈ aAW := cd_in7 (List.mem_of_getElem? (i := 183) rfl) rfl
theorem s2_cd27 : Cond.code (s2_yn 27) (s2_bc 27) (aMx s2_G 27) (aRty (s2_G.2.1 27).2.2.1) ∈ aAW := cd_in7 (List.mem_of_getElem? (i := 204) rfl) rfl
theorem s2_cd28 : Cond.code (s2_yn 28) (s2_bc 28) (aMx s2_G 28) (aRty (s2_G.2.1 28).2.2.1) ∈ aAW := cd_in7 (List.mem_of_getElem? (i := 222) rfl) rfl
theorem s2_cd29 : Cond.code (s2_yn 29) (s2_bc 29) (aMx s2_G 29) (aRty (s2_G.2.1 29).2.2.1) ∈ aAW := cd_in7 (List.mem_of_getElem? (i := 236) rfl) rfl
theorem s2_cd30 : Cond.code (s2_yn 30) (s2_bc 30) (aMx s2_G 30) (aRty (s2_G.2.1 30).2.2.1) ∈ aAW := cd_in7 (List.mem_of_getElem? (i := 226) rfl) rfl
theorem s2_cd31 : Cond.code (s2_yn 31) (s2_bc 31) (aMx s2_G 31) (aRty (s2_G.2.1 31).2.2.1) ∈ aAW := cd_in7 (List.mem_of_getElem? (i := 232) rfl) rfl
theorem s2_cd32 : Cond.code (s2_yn 32) (s2_bc 32) (aMx s2_G 32) (aRty (s2_G.2.1 32).2.2.1) ∈ aAW := cd_in8 (List.mem_of_getElem? (i := 11) rfl) rfl
theorem s2_cd33 : Cond.code (s2_yn 33) (s2_bc 33) (aMx s2_G 33) (aRty (s2_G.2.1 33).2.2.1) ∈ aAW := cd_in8 (List.mem_of_getElem? (i := 4) rfl) rfl
theorem s2_cd34 : Cond.code (s2_yn 34) (s2_bc 34) (aMx s2_G 34) (aRty (s2_G.2.1 34).2.2.1) ∈ aAW := cd_in8 (List.mem_of_getElem? (i := 29) rfl) rfl
theorem s2_cd35 : Cond.code (s2_yn 35) (s2_bc 35) (aMx s2_G 35) (aRty (s2_G.2.1 35).2.2.1) ∈ aAW := cd_in8 (List.mem_of_getElem? (i := 7) rfl) rfl
theorem s2_cd36 : Cond.code (s2_yn 36) (s2_bc 36) (aMx s2_G 36) (aRty (s2_G.2.1 36).2.2.1) ∈ aAW := cd_in8 (List.mem_of_getElem? (i := 57) rfl) rfl
theorem s2_cd37 : Cond.code (s2_yn 37) (s2_bc 37) (aMx s2_G 37) (aRty (s2_G.2.1 37).2.2.1) ∈ aAW := cd_in8 (List.mem_of_getElem? (i := 33) rfl) rfl
theorem s2_cd38 : Cond.code (s2_yn 38) (s2_bc 38) (aMx s2_G 38) (aRty (s2_G.2.1 38).2.2.1) ∈ aAW := cd_in8 (List.mem_of_getElem? (i := 25) rfl) rfl
theorem s2_cd39 : Cond.code (s2_yn 39) (s2_bc 39) (aMx s2_G 39) (aRty (s2_G.2.1 39).2.2.1) ∈ aAW := cd_in8 (List.mem_of_getElem? (i := 37) rfl) rfl
theorem s2_cd40 : Cond.code (s2_yn 40) (s2_bc 40) (aMx s2_G 40) (aRty (s2_G.2.1 40).2.2.1) ∈ aAW := cd_in8 (List.mem_of_getElem? (i := 21) rfl) rfl
theorem s2_cd41 : Cond.code (s2_yn 41) (s2_bc 41) (aMx s2_G 41) (aRty (s2_G.2.1 41).2.2.1) ∈ aAW := cd_in8 (List.mem_of_getElem? (i := 17) rfl) rfl
theorem s2_cd42 : Cond.code (s2_yn 42) (s2_bc 42) (aMx s2_G 42) (aRty (s2_G.2.1 42).2.2.1) ∈ aAW := cd_in8 (List.mem_of_getElem? (i := 0) rfl) rfl
theorem s2_cd43 : Cond.code (s2_yn 43) (s2_bc 43) (aMx s2_G 43) (aRty (s2_G.2.1 43).2.2.1) ∈ aAW := cd_in7 (List.mem_of_getElem? (i := 218) rfl) rfl
theorem s2_cd44 : Cond.code (s2_yn 44) (s2_bc 44) (aMx s2_G 44) (aRty (s2_G.2.1 44).2.2.1) ∈ aAW := cd_in7 (List.mem_of_getElem? (i := 210) rfl) rfl
theorem s2_cd45 : Cond.code (s2_yn 45) (s2_bc 45) (aMx s2_G 45) (aRty (s2_G.2.1 45).2.2.1) ∈ aAW := cd_in8 (List.mem_of_getElem? (i := 41) rfl) rfl
theorem s2_cd46 : Cond.code (s2_yn 46) (s2_bc 46) (aMx s2_G 46) (aRty (s2_G.2.1 46).2.2.1) ∈ aAW := cd_in8 (List.mem_of_getElem? (i := 54) rfl) rfl
theorem s2_cd47 : Cond.code (s2_yn 47) (s2_bc 47) (aMx s2_G 47) (aRty (s2_G.2.1 47).2.2.1) ∈ aAW := cd_in8 (List.mem_of_getElem? (i := 50) rfl) rfl
theorem s2_cd48 : Cond.code (s2_yn 48) (s2_bc 48) (aMx s2_G 48) (aRty (s2_G.2.1 48).2.2.1) ∈ aAW := cd_in8 (List.mem_of_getElem? (i := 45) rfl) rfl
theorem s2_cd49 : Cond.code (s2_yn 49) (s2_bc 49) (aMx s2_G 49) (aRty (s2_G.2.1 49).2.2.1) ∈ aAW := cd_in8 (List.mem_of_getElem? (i := 61) rfl) rfl
theorem s2_cd50 : Cond.code (s2_yn 50) (s2_bc 50) (aMx s2_G 50) (aRty (s2_G.2.1 50).2.2.1) ∈ aAW := cd_in8 (List.mem_of_getElem? (i := 105) rfl) rfl
theorem s2_cd51 : Cond.code (s2_yn 51) (s2_bc 51) (aMx s2_G 51) (aRty (s2_G.2.1 51).2.2.1) ∈ aAW := cd_in8 (List.mem_of_getElem? (i := 148) rfl) rfl
theorem s2_cd52 : Cond.code (s2_yn 52) (s2_bc 52) (aMx s2_G 52) (aRty (s2_G.2.1 52).2.2.1) ∈ aAW := cd_in8 (List.mem_of_getElem? (i := 144) rfl) rfl
theorem s2_cd53 : Cond.code (s2_yn 53) (s2_bc 53) (aMx s2_G 53) (aRty (s2_G.2.1 53).2.2.1) ∈ aAW := cd_in8 (List.mem_of_getElem? (i := 156) rfl) rfl
theorem s2_cd54 : Cond.code (s2_yn 54) (s2_bc 54) (aMx s2_G 54) (aRty (s2_G.2.1 54).2.2.1) ∈ aAW := cd_in8 (List.mem_of_getElem? (i := 132) rfl) rfl
theorem s2_cd55 : Cond.code (s2_yn 55) (s2_bc 55) (aMx s2_G 55) (aRty (s2_G.2.1 55).2.2.1) ∈ aAW := cd_in8 (List.mem_of_getElem? (i := 136) rfl) rfl
theorem s2_cd56 : Cond.code (s2_yn 56) (s2_bc 56) (aMx s2_G 56) (aRty (s2_G.2.1 56).2.2.1) ∈ aAW := cd_in8 (List.mem_of_getElem? (i := 128) rfl) rfl
theorem s2_cd57 : Cond.code (s2_yn 57) (s2_bc 57) (aMx s2_G 57) (aRty (s2_G.2.1 57).2.2.1) ∈ aAW := cd_in8 (List.mem_of_getElem? (i := 124) rfl) rfl
theorem s2_cd58 : Cond.code (s2_yn 58) (s2_bc 58) (aMx s2_G 58) (aRty (s2_G.2.1 58).2.2.1) ∈ aAW := cd_in8 (List.mem_of_getElem? (i := 120) rfl) rfl
theorem s2_cd59 : Cond.code (s2_yn 59) (s2_bc 59) (aMx s2_G 59) (aRty (s2_G.2.1 59).2.2.1) ∈ aAW := cd_in8 (List.mem_of_getElem? (i := 116) rfl) rfl
theorem s2_cd60 : Cond.code (s2_yn 60) (s2_bc 60) (aMx s2_G 60) (aRty (s2_G.2.1 60).2.2.1) ∈ aAW := cd_in8 (List.mem_of_getElem? (i := 101) rfl) rfl
theorem s2_cd61 : Cond.code (s2_yn 61) (s2_bc 61) (aMx s2_G 61) (aRty (s2_G.2.1 61).2.2.1) ∈ aAW := cd_in8 (List.mem_of_getElem? (i := 97) rfl) rfl
theorem s2_cd62 : Cond.code (s2_yn 62) (s2_bc 62) (aMx s2_G 62) (aRty (s2_G.2.1 62).2.2.1) ∈ aAW := cd_in8 (List.mem_of_getElem? (i := 93) rfl) rfl
theorem s2_cd63 : Cond.code (s2_yn 63) (s2_bc 63) (aMx s2_G 63) (aRty (s2_G.2.1 63).2.2.1) ∈ aAW := cd_in8 (List.mem_of_getElem? (i := 140) rfl) rfl
theorem s2_cd64 : Cond.code (s2_yn 64) (s2_bc 64) (aMx s2_G 64) (aRty (s2_G.2.1 64).2.2.1) ∈ aAW := cd_in8 (List.mem_of_getElem? (i := 152) rfl) rfl
theorem s2_cd65 : Cond.code (s2_yn 65) (s2_bc 65) (aMx s2_G 65) (aRty (s2_G.2.1 65).2.2.1) ∈ aAW := cd_in8 (List.mem_of_getElem? (i := 85) rfl) rfl
theorem s2_cd66 : Cond.code (s2_yn 66) (s2_bc 66) (aMx s2_G 66) (aRty (s2_G.2.1 66).2.2.1) ∈ aAW := cd_in8 (List.mem_of_getElem? (i := 160) rfl) rfl
theorem s2_cd67 : Cond.code (s2_yn 67) (s2_bc 67) (aMx s2_G 67) (aRty (s2_G.2.1 67).2.2.1) ∈ aAW := cd_in8 (List.mem_of_getElem? (i := 77) rfl) rfl
theorem s2_cd68 : Cond.code (s2_yn 68) (s2_bc 68) (aMx s2_G 68) (aRty (s2_G.2.1 68).2.2.1) ∈ aAW := cd_in8 (List.mem_of_getElem? (i := 81) rfl) rfl
theorem s2_cd69 : Cond.code (s2_yn 69) (s2_bc 69) (aMx s2_G 69) (aRty (s2_G.2.1 69).2.2.1) ∈ aAW := cd_in8 (List.mem_of_getElem? (i := 69) rfl) rfl
theorem s2_cd70 : Cond.code (s2_yn 70) (s2_bc 70) (aMx s2_G 70) (aRty (s2_G.2.1 70).2.2.1) ∈ aAW := cd_in8 (List.mem_of_getElem? (i := 73) rfl) rfl
theorem s2_cd71 : Cond.code (s2_yn 71) (s2_bc 71) (aMx s2_G 71) (aRty (s2_G.2.1 71).2.2.1) ∈ aAW := cd_in8 (List.mem_of_getElem? (i := 65) rfl) rfl
theorem s2_cd72 : Cond.code (s2_yn 72) (s2_bc 72) (aMx s2_G 72) (aRty (s2_G.2.1 72).2.2.1) ∈ aAW := cd_in8 (List.mem_of_getElem? (i := 168) rfl) rfl
theorem s2_cd73 : Cond.code (s2_yn 73) (s2_bc 73) (aMx s2_G 73) (aRty (s2_G.2.1 73).2.2.1) ∈ aAW := cd_in8 (List.mem_of_getElem? (i := 172) rfl) rfl
theorem s2_cd74 : Cond.code (s2_yn 74) (s2_bc 74) (aMx s2_G 74) (aRty (s2_G.2.1 74).2.2.1) ∈ aAW := cd_in8 (List.mem_of_getElem? (i := 164) rfl) rfl
theorem s2_cd75 : Cond.code (s2_yn 75) (s2_bc 75) (aMx s2_G 75) (aRty (s2_G.2.1 75).2.2.1) ∈ aAW := cd_in8 (List.mem_of_getElem? (i := 180) rfl) rfl
theorem s2_cd76 : Cond.code (s2_yn 76) (s2_bc 76) (aMx s2_G 76) (aRty (s2_G.2.1 76).2.2.1) ∈ aAW := cd_in8 (List.mem_of_getElem? (i := 176) rfl) rfl
theorem s2_cd77 : Cond.code (s2_yn 77) (s2_bc 77) (aMx s2_G 77) (aRty (s2_G.2.1 77).2.2.1) ∈ aAW := cd_in8 (List.mem_of_getElem? (i := 184) rfl) rfl
theorem s2_cd78 : Cond.code (s2_yn 78) (s2_bc 78) (aMx s2_G 78) (aRty (s2_G.2.1 78).2.2.1) ∈ aAW := cd_in8 (List.mem_of_getElem? (i := 188) rfl) rfl
theorem s2_cd79 : Cond.code (s2_yn 79) (s2_bc 79) (aMx s2_G 79) (aRty (s2_G.2.1 79).2.2.1) ∈ aAW := cd_in8 (List.mem_of_getElem? (i := 193) rfl) rfl
theorem s2_cd80 : Cond.code (s2_yn 80) (s2_bc 80) (aMx s2_G 80) (aRty (s2_G.2.1 80).2.2.1) ∈ aAW := cd_in8 (List.mem_of_getElem? (i := 197) rfl) rfl
theorem s2_cd81 : Cond.code (s2_yn 81) (s2_bc 81) (aMx s2_G 81) (aRty (s2_G.2.1 81).2.2.1) ∈ aAW := cd_in8 (List.mem_of_getElem? (i := 205) rfl) rfl
theorem s2_cd82 : Cond.code (s2_yn 82) (s2_bc 82) (aMx s2_G 82) (aRty (s2_G.2.1 82).2.2.1) ∈ aAW := cd_in8 (List.mem_of_getElem? (i := 201) rfl) rfl
theorem s2_cd83 : Cond.code (s2_yn 83) (s2_bc 83) (aMx s2_G 83) (aRty (s2_G.2.1 83).2.2.1) ∈ aAW := cd_in8 (List.mem_of_getElem? (i := 209) rfl) rfl
theorem s2_cd84 : Cond.code (s2_yn 84) (s2_bc 84) (aMx s2_G 84) (aRty (s2_G.2.1 84).2.2.1) ∈ aAW := cd_in8 (List.mem_of_getElem? (i := 217) rfl) rfl
theorem s2_cd85 : Cond.code (s2_yn 85) (s2_bc 85) (aMx s2_G 85) (aRty (s2_G.2.1 85).2.2.1) ∈ aAW := cd_in8 (List.mem_of_getElem? (i := 213) rfl) rfl
theorem s2_cd86 : Cond.code (s2_yn 86) (s2_bc 86) (aMx s2_G 86) (aRty (s2_G.2.1 86).2.2.1) ∈ aAW := cd_in8 (List.mem_of_getElem? (i := 221) rfl) rfl
theorem s2_cd87 : Cond.code (s2_yn 87) (s2_bc 87) (aMx s2_G 87) (aRty (s2_G.2.1 87).2.2.1) ∈ aAW := cd_in8 (List.mem_of_getElem? (i := 226) rfl) rfl
theorem s2_cd88 : Cond.code (s2_yn 88) (s2_bc 88) (aMx s2_G 88) (aRty (s2_G.2.1 88).2.2.1) ∈ aAW := cd_in8 (List.mem_of_getElem? (i := 235) rfl) rfl
theorem s2_cd89 : Cond.code (s2_yn 89) (s2_bc 89) (aMx s2_G 89) (aRty (s2_G.2.1 89).2.2.1) ∈ aAW := cd_in8 (List.mem_of_getElem? (i := 231) rfl) rfl
theorem s2_cd90 : Cond.code (s2_yn 90) (s2_bc 90) (aMx s2_G 90) (aRty (s2_G.2.1 90).2.2.1) ∈ aAW := cd_in8 (List.mem_of_getElem? (i := 239) rfl) rfl
theorem s2_cd91 : Cond.code (s2_yn 91) (s2_bc 91) (aMx s2_G 91) (aRty (s2_G.2.1 91).2.2.1) ∈ aAW := cd_in9 (List.mem_of_getElem? (i := 12) rfl) rfl
theorem s2_cd92 : Cond.code (s2_yn 92) (s2_bc 92) (aMx s2_G 92) (aRty (s2_G.2.1 92).2.2.1) ∈ aAW := cd_in9 (List.mem_of_getElem? (i := 17) rfl) rfl
theorem s2_cd93 : Cond.code (s2_yn 93) (s2_bc 93) (aMx s2_G 93) (aRty (s2_G.2.1 93).2.2.1) ∈ aAW := cd_in9 (List.mem_of_getElem? (i := 8) rfl) rfl
theorem s2_cd94 : Cond.code (s2_yn 94) (s2_bc 94) (aMx s2_G 94) (aRty (s2_G.2.1 94).2.2.1) ∈ aAW := cd_in9 (List.mem_of_getElem? (i := 4) rfl) rfl
theorem s2_cd95 : Cond.code (s2_yn 95) (s2_bc 95) (aMx s2_G 95) (aRty (s2_G.2.1 95).2.2.1) ∈ aAW := cd_in9 (List.mem_of_getElem? (i := 21) rfl) rfl
theorem s2_cd96 : Cond.code (s2_yn 96) (s2_bc 96) (aMx s2_G 96) (aRty (s2_G.2.1 96).2.2.1) ∈ aAW := cd_in9 (List.mem_of_getElem? (i := 29) rfl) rfl
theorem s2_cd97 : Cond.code (s2_yn 97) (s2_bc 97) (aMx s2_G 97) (aRty (s2_G.2.1 97).2.2.1) ∈ aAW := cd_in9 (List.mem_of_getElem? (i := 37) rfl) rfl
theorem s2_cd98 : Cond.code (s2_yn 98) (s2_bc 98) (aMx s2_G 98) (aRty (s2_G.2.1 98).2.2.1) ∈ aAW := cd_in9 (List.mem_of_getElem? (i := 33) rfl) rfl
theorem s2_cd99 : Cond.code (s2_yn 99) (s2_bc 99) (aMx s2_G 99) (aRty (s2_G.2.1 99).2.2.1) ∈ aAW := cd_in9 (List.mem_of_getElem? (i := 25) rfl) rfl
theorem s2_cd100 : Cond.code (s2_yn 100) (s2_bc 100) (aMx s2_G 100) (aRty (s2_G.2.1 100).2.2.1) ∈ aAW := cd_in9 (List.mem_of_getElem? (i := 53) rfl) rfl
theorem s2_cd101 : Cond.code (s2_yn 101) (s2_bc 101) (aMx s2_G 101) (aRty (s2_G.2.1 101).2.2.1) ∈ aAW := cd_in9 (List.mem_of_getElem? (i := 49) rfl) rfl
theorem s2_cd102 : Cond.code (s2_yn 102) (s2_bc 102) (aMx s2_G 102) (aRty (s2_G.2.1 102).2.2.1) ∈ aAW := cd_in9 (List.mem_of_getElem? (i := 45) rfl) rfl
theorem s2_cd103 : Cond.code (s2_yn 103) (s2_bc 103) (aMx s2_G 103) (aRty (s2_G.2.1 103).2.2.1) ∈ aAW := cd_in9 (List.mem_of_getElem? (i := 41) rfl) rfl
theorem s2_cd104 : Cond.code (s2_yn 104) (s2_bc 104) (aMx s2_G 104) (aRty (s2_G.2.1 104).2.2.1) ∈ aAW := cd_in9 (List.mem_of_getElem? (i := 68) rfl) rfl
theorem s2_cd105 : Cond.code (s2_yn 105) (s2_bc 105) (aMx s2_G 105) (aRty (s2_G.2.1 105).2.2.1) ∈ aAW := cd_in9 (List.mem_of_getElem? (i := 64) rfl) rfl
theorem s2_cd106 : Cond.code (s2_yn 106) (s2_bc 106) (aMx s2_G 106) (aRty (s2_G.2.1 106).2.2.1) ∈ aAW := cd_in9 (List.mem_of_getElem? (i := 72) rfl) rfl
theorem s2_cd107 : Cond.code (s2_yn 107) (s2_bc 107) (aMx s2_G 107) (aRty (s2_G.2.1 107).2.2.1) ∈ aAW := cd_in9 (List.mem_of_getElem? (i := 80) rfl) rfl
theorem s2_cd108 : Cond.code (s2_yn 108) (s2_bc 108) (aMx s2_G 108) (aRty (s2_G.2.1 108).2.2.1) ∈ aAW := cd_in9 (List.mem_of_getElem? (i := 76) rfl) rfl
theorem s2_cd109 : Cond.code (s2_yn 109) (s2_bc 109) (aMx s2_G 109) (aRty (s2_G.2.1 109).2.2.1) ∈ aAW := cd_in9 (List.mem_of_getElem? (i := 60) rfl) rfl
theorem s2_cd110 : Cond.code (s2_yn 110) (s2_bc 110) (aMx s2_G 110) (aRty (s2_G.2.1 110).2.2.1) ∈ aAW := cd_in9 (List.mem_of_getElem? (i := 57) rfl) rfl
theorem s2_cd : ∀ y, y < 111 → Cond.code (s2_yn y) (s2_bc y) (aMx s2_G y) (aRty (s2_G.2.1 y).2.2.1) ∈ aAW := fun y h => match y, h with
  | 0, _ => s2_cd0
  | 1, _ => s2_cd1
  | 2, _ => s2_cd2
  | 3, _ => s2_cd3
  | 4, _ => s2_cd4
  | 5, _ => s2_cd5
  | 6, _ => s2_cd6
  | 7, _ => s2_cd7
  | 8, _ => s2_cd8
  | 9, _ => s2_cd9
  | 10, _ => s2_cd10
  | 11, _ => s2_cd11
  | 12, _ => s2_cd12
  | 13, _ => s2_cd13
  | 14, _ => s2_cd14
  | 15, _ => s2_cd15
  | 16, _ => s2_cd16
  | 17, _ => s2_cd17
  | 18, _ => s2_cd18
  | 19, _ => s2_cd19
  | 20, _ => s2_cd20
  | 21, _ => s2_cd21
  | 22, _ => s2_cd22
  | 23, _ => s2_cd23
  | 24, _ => s2_cd24
  | 25, _ => s2_cd25
  | 26, _ => s2_cd26
  | 27, _ => s2_cd27
  | 28, _ => s2_cd28
  | 29, _ => s2_cd29
  | 30, _ => s2_cd30
  | 31, _ => s2_cd31
  | 32, _ => s2_cd32
  | 33, _ => s2_cd33
  | 34, _ => s2_cd34
  | 35, _ => s2_cd35
  | 36, _ => s2_cd36
  | 37, _ => s2_cd37
  | 38, _ => s2_cd38
  | 39, _ => s2_cd39
  | 40, _ => s2_cd40
  | 41, _ => s2_cd41
  | 42, _ => s2_cd42
  | 43, _ => s2_cd43
  | 44, _ => s2_cd44
  | 45, _ => s2_cd45
  | 46, _ => s2_cd46
  | 47, _ => s2_cd47
  | 48, _ => s2_cd48
  | 49, _ => s2_cd49
  | 50, _ => s2_cd50
  | 51, _ => s2_cd51
  | 52, _ => s2_cd52
  | 53, _ => s2_cd53
  | 54, _ => s2_cd54
  | 55, _ => s2_cd55
  | 56, _ => s2_cd56
  | 57, _ => s2_cd57
  | 58, _ => s2_cd58
  | 59, _ => s2_cd59
  | 60, _ => s2_cd60
  | 61, _ => s2_cd61
  | 62, _ => s2_cd62
  | 63, _ => s2_cd63
  | 64, _ => s2_cd64
  | 65, _ => s2_cd65
  | 66, _ => s2_cd66
  | 67, _ => s2_cd67
  | 68, _ => s2_cd68
  | 69, _ => s2_cd69
  | 70, _ => s2_cd70
  | 71, _ => s2_cd71
  | 72, _ => s2_cd72
  | 73, _ => s2_cd73
  | 74, _ => s2_cd74
  | 75, _ => s2_cd75
  | 76, _ => s2_cd76
  | 77, _ => s2_cd77
  | 78, _ => s2_cd78
  | 79, _ => s2_cd79
  | 80, _ => s2_cd80
  | 81, _ => s2_cd81
  | 82, _ => s2_cd82
  | 83, _ => s2_cd83
  | 84, _ => s2_cd84
  | 85, _ => s2_cd85
  | 86, _ => s2_cd86
  | 87, _ => s2_cd87
  | 88, _ => s2_cd88
  | 89, _ => s2_cd89
  | 90, _ => s2_cd90
  | 91, _ => s2_cd91
  | 92, _ => s2_cd92
  | 93, _ => s2_cd93
  | 94, _ => s2_cd94
  | 95, _ => s2_cd95
  | 96, _ => s2_cd96
  | 97, _ => s2_cd97
  | 98, _ => s2_cd98
  | 99, _ => s2_cd99
  | 100, _ => s2_cd100
  | 101, _ => s2_cd101
  | 102, _ => s2_cd102
  | 103, _ => s2_cd103
  | 104, _ => s2_cd104
  | 105, _ => s2_cd105
  | 106, _ => s2_cd106
  | 107, _ => s2_cd107
  | 108, _ => s2_cd108
  | 109, _ => s2_cd109
  | 110, _ => s2_cd110
  | y + 111, h => absurd h (by omega)
theorem s2_mt_ok : (List.range 111).all (gk_m s2_G s2_cn s2_yn s2_bc s2_mi) = true := by decide +kernel
theorem s2_cl : ∀ ci, ci < 13 → gk_c13 ci (s2_cn ci) (s2_tf ci).1 (s2_tf ci).2.1 (s2_tf ci).2.2 := fun ci h => match ci, h with
  | 0, _ => gk_cl0
  | 1, _ => gk_cl1
  | 2, _ => gk_cl2
  | 3, _ => gk_cl3
  | 4, _ => gk_cl4
  | 5, _ => gk_cl5
  | 6, _ => gk_cl6
  | 7, _ => gk_cl7
  | 8, _ => gk_cl8
  | 9, _ => gk_cl9
  | 10, _ => gk_cl10
  | 11, _ => gk_cl11
  | 12, _ => gk_cl12
  | n + 13, h => absurd h (by omega)
theorem s2_blk : ∀ y pc, y < 111 → okL s2_G 0 111 13 s2_cn s2_yn s2_bc s2_tf aAW s2_AN s2_zs s2_sk y pc (s2_G.2.2.1 y pc) := by
  intro y pc hy
  have key : ck_B s2_G 0 111 13 s2_cn s2_yn s2_bc s2_tf s2_AN s2_zs s2_sk s2_ar y (s2_bl y) (s2_ix y) = true := by
    rcases Nat.lt_or_ge y 12 with h0 | h0
    · exact List.all_eq_true.mp s2_ck0 y (List.mem_map.mpr ⟨y - 0, List.mem_range.mpr (by omega), by omega⟩)
    rcases Nat.lt_or_ge y 24 with h12 | h12
    · exact List.all_eq_true.mp s2_ck12 y (List.mem_map.mpr ⟨y - 12, List.mem_range.mpr (by omega), by omega⟩)
    rcases Nat.lt_or_ge y 36 with h24 | h24
    · exact List.all_eq_true.mp s2_ck24 y (List.mem_map.mpr ⟨y - 24, List.mem_range.mpr (by omega), by omega⟩)
    rcases Nat.lt_or_ge y 48 with h36 | h36
    · exact List.all_eq_true.mp s2_ck36 y (List.mem_map.mpr ⟨y - 36, List.mem_range.mpr (by omega), by omega⟩)
    rcases Nat.lt_or_ge y 60 with h48 | h48
    · exact List.all_eq_true.mp s2_ck48 y (List.mem_map.mpr ⟨y - 48, List.mem_range.mpr (by omega), by omega⟩)
    rcases Nat.lt_or_ge y 72 with h60 | h60
    · exact List.all_eq_true.mp s2_ck60 y (List.mem_map.mpr ⟨y - 60, List.mem_range.mpr (by omega), by omega⟩)
    rcases Nat.lt_or_ge y 84 with h72 | h72
    · exact List.all_eq_true.mp s2_ck72 y (List.mem_map.mpr ⟨y - 72, List.mem_range.mpr (by omega), by omega⟩)
    rcases Nat.lt_or_ge y 96 with h84 | h84
    · exact List.all_eq_true.mp s2_ck84 y (List.mem_map.mpr ⟨y - 84, List.mem_range.mpr (by omega), by omega⟩)
    rcases Nat.lt_or_ge y 108 with h96 | h96
    · exact List.all_eq_true.mp s2_ck96 y (List.mem_map.mpr ⟨y - 96, List.mem_range.mpr (by omega), by omega⟩)
    exact List.all_eq_true.mp s2_ck108 y (List.mem_map.mpr ⟨y - 108, List.mem_range.mpr (by omega), by omega⟩)
  exact a_find_all (P := okL s2_G 0 111 13 s2_cn s2_yn s2_bc s2_tf aAW s2_AN s2_zs s2_sk y) trivial _ (ck_B_ok s2_har _ _ key)
theorem s2_tab {ad : Nat → Nat} {XS : State → Heap → Prop} (hadi : ∀ i j, i < 68 → j < 68 → ad i = ad j → i = j) (h1 : ∀ {u U : State} {H : Heap}, u.vm.Alike U.vm → XS u H → XS U H) (h2 : ∀ {U : State} {H H1 : Heap}, XS U H → (∀ a : Nat, a < H.size → ¬ aF ad 68 a → H1[a]? = H[a]?) → XS U H1) :
    aTab s2_G ad 68 0 111 13 wCl s2_cn s2_yn s2_bc s2_tf aAW s2_AN s2_zs s2_sk XS :=
  ⟨s2_gw, hadi, s2_cl, s2_kf, gk_m_ok s2_mt_ok s2_cd, aAW_good, fun w hw => (by cases hw), s2_blk, h1, h2⟩
theorem s2_sb : ∀ k, k < 0 → aR32 (s2_G.2.2.2 k).length ∧ ∀ z ∈ s2_G.2.2.2 k, aR32 z := fun k h => absurd h (Nat.not_lt_zero k)
