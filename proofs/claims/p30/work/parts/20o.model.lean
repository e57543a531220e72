/-! ===== methods of the reference: checks ===== -/
theorem chk_X12_back_3 : k_check gTT gGS M_X12_back_3 4000 = true := by decide +kernel
theorem chk_X12_back_lo : k_check gTT gGS M_X12_back_lo 4000 = true := by decide +kernel
theorem chk_X12_back_hi : k_check gTT gGS M_X12_back_hi 4000 = true := by decide +kernel
