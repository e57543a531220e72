/-! ===== methods of the reference: checks ===== -/
theorem chk_X12_keepsAct_17 : k_check gTT gGS M_X12_keepsAct_17 4000 = true := by decide +kernel
theorem chk_X12_keepsAct_18 : k_check gTT gGS M_X12_keepsAct_18 4000 = true := by decide +kernel
theorem chk_X12_keepsAct_19 : k_check gTT gGS M_X12_keepsAct_19 4000 = true := by decide +kernel
