/-! the words of the second system, 24 of them from 0 on -/
theorem gk_in12_0 : ∀ k, k < 24 → u_lay RX12 TX12 k ∈ lw_tbl := by decide +kernel
