/-! ===== at first ===== -/
abbrev H0 : HP := nw zX10_init_L (103, 1)
theorem H0_1 : H0.1 = SL := by decide +kernel
theorem S0_SL : SL = S0 := H0_1.symm
