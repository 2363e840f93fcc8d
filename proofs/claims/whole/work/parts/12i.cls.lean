/-! classes, the last -/
theorem gk_in12 : ∀ w ∈ wsX120, w ∈ lw_tbl := fun w hw => by
  obtain ⟨k, hk, rfl⟩ := List.mem_map.mp (show w ∈ (List.range 97).map (u_lay RX12 TX12) from hw)
  have hk := List.mem_range.mp hk
  by_cases h1 : k < 24
  · exact gk_in12_0 k h1
  · by_cases h2 : k < 48
    · have := gk_in12_24 (k - 24) (by omega)
      rw [show 24 + (k - 24) = k by omega] at this
      exact this
    · by_cases h3 : k < 72
      · have := gk_in12_48 (k - 48) (by omega)
        rw [show 48 + (k - 48) = k by omega] at this
        exact this
      · have := gk_in12_72 (k - 72) (by omega)
        rw [show 72 + (k - 72) = k by omega] at this
        exact this
theorem gk_gd12 : wsX120.all goodWord = true := by decide +kernel
theorem gk_cl12 : gk_c13 12 RX12 TX12 97 tyX12 := ⟨rfl, fun w hw => List.mem_filter.mpr ⟨gk_in12 w hw, List.all_eq_true.mp gk_gd12 w hw⟩, tyX12_ok, nmX12⟩
