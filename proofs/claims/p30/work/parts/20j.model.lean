/-! ===== methods of the reference: checks ===== -/
theorem chk_X12_canBurn : k_check gTT gGS M_X12_canBurn 4000 = true := by decide +kernel
