/-! ===== methods of the reference: checks ===== -/
theorem chk_X12_back_1 : k_check gTT gGS M_X12_back_1 4000 = true := by decide +kernel
theorem chk_X12_back_2 : k_check gTT gGS M_X12_back_2 4000 = true := by decide +kernel
