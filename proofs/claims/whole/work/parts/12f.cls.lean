/-! the words of the second system, 24 of them from 24 on -/
theorem gk_in12_24 : ∀ k, k < 24 → u_lay RX12 TX12 (24 + k) ∈ lw_tbl := by decide +kernel
