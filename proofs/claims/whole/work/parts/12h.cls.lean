/-! the words of the second system, 25 of them from 72 on -/
theorem gk_in12_72 : ∀ k, k < 25 → u_lay RX12 TX12 (72 + k) ∈ lw_tbl := by decide +kernel
