/-! ===== methods of the reference: checks ===== -/
theorem chk_X12_image_3 : k_check gTT gGS M_X12_image_3 4000 = true := by decide +kernel
theorem chk_X12_image_lo : k_check gTT gGS M_X12_image_lo 4000 = true := by decide +kernel
theorem chk_X12_image_hi : k_check gTT gGS M_X12_image_hi 4000 = true := by decide +kernel
theorem chk_X12_back_0 : k_check gTT gGS M_X12_back_0 4000 = true := by decide +kernel
