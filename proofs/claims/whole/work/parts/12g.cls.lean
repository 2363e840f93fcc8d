/-! the words of the second system, 24 of them from 48 on -/
theorem gk_in12_48 : ∀ k, k < 24 → u_lay RX12 TX12 (48 + k) ∈ lw_tbl := by decide +kernel
