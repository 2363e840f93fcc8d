/-! classes, more -/
theorem gk_in6 : ∀ w ∈ wsX60, w ∈ lw_tbl := by decide +kernel
theorem gk_gd6 : wsX60.all goodWord = true := by decide +kernel
theorem gk_cl6 : gk_c13 6 RX6 TX6 7 tyX6 := ⟨rfl, fun w hw => List.mem_filter.mpr ⟨gk_in6 w hw, List.all_eq_true.mp gk_gd6 w hw⟩, tyX6_ok, nmX6⟩
theorem gk_in7 : ∀ w ∈ wsX70, w ∈ lw_tbl := by decide +kernel
theorem gk_gd7 : wsX70.all goodWord = true := by decide +kernel
theorem gk_cl7 : gk_c13 7 RX7 TX7 13 tyX7 := ⟨rfl, fun w hw => List.mem_filter.mpr ⟨gk_in7 w hw, List.all_eq_true.mp gk_gd7 w hw⟩, tyX7_ok, nmX7⟩
theorem gk_in8 : ∀ w ∈ wsX80, w ∈ lw_tbl := by decide +kernel
theorem gk_gd8 : wsX80.all goodWord = true := by decide +kernel
theorem gk_cl8 : gk_c13 8 RX8 TX8 5 tyX8 := ⟨rfl, fun w hw => List.mem_filter.mpr ⟨gk_in8 w hw, List.all_eq_true.mp gk_gd8 w hw⟩, tyX8_ok, nmX8⟩
theorem gk_in9 : ∀ w ∈ wsX90, w ∈ lw_tbl := by decide +kernel
theorem gk_gd9 : wsX90.all goodWord = true := by decide +kernel
theorem gk_cl9 : gk_c13 9 RX9 TX9 7 tyX9 := ⟨rfl, fun w hw => List.mem_filter.mpr ⟨gk_in9 w hw, List.all_eq_true.mp gk_gd9 w hw⟩, tyX9_ok, nmX9⟩
theorem gk_in10 : ∀ w ∈ wsX100, w ∈ lw_tbl := by decide +kernel
theorem gk_gd10 : wsX100.all goodWord = true := by decide +kernel
theorem gk_cl10 : gk_c13 10 RX10 TX10 11 tyX10 := ⟨rfl, fun w hw => List.mem_filter.mpr ⟨gk_in10 w hw, List.all_eq_true.mp gk_gd10 w hw⟩, tyX10_ok, nmX10⟩
theorem gk_in11 : ∀ w ∈ wsX110, w ∈ lw_tbl := by decide +kernel
theorem gk_gd11 : wsX110.all goodWord = true := by decide +kernel
theorem gk_cl11 : gk_c13 11 RX11 TX11 11 tyX11 := ⟨rfl, fun w hw => List.mem_filter.mpr ⟨gk_in11 w hw, List.all_eq_true.mp gk_gd11 w hw⟩, tyX11_ok, nmX11⟩
