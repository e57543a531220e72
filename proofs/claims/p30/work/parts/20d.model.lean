/-! ===== methods of the reference: checks ===== -/
theorem chk_X12_keepsAct_2 : k_check gTT gGS M_X12_keepsAct_2 4000 = true := by decide +kernel
theorem chk_X12_keepsAct_3 : k_check gTT gGS M_X12_keepsAct_3 4000 = true := by decide +kernel
theorem chk_X12_keepsAct_4 : k_check gTT gGS M_X12_keepsAct_4 4000 = true := by decide +kernel
theorem chk_X12_keepsAct_5 : k_check gTT gGS M_X12_keepsAct_5 4000 = true := by decide +kernel
theorem chk_X12_keepsAct_6 : k_check gTT gGS M_X12_keepsAct_6 4000 = true := by decide +kernel
theorem chk_X12_keepsAct_7 : k_check gTT gGS M_X12_keepsAct_7 4000 = true := by decide +kernel
theorem chk_X12_keepsAct_8 : k_check gTT gGS M_X12_keepsAct_8 4000 = true := by decide +kernel
theorem chk_X12_keepsAct_9 : k_check gTT gGS M_X12_keepsAct_9 4000 = true := by decide +kernel
theorem chk_X12_keepsAct_10 : k_check gTT gGS M_X12_keepsAct_10 4000 = true := by decide +kernel
theorem chk_X12_keepsAct_11 : k_check gTT gGS M_X12_keepsAct_11 4000 = true := by decide +kernel
theorem chk_X12_keepsAct_12 : k_check gTT gGS M_X12_keepsAct_12 4000 = true := by decide +kernel
theorem chk_X12_keepsAct_13 : k_check gTT gGS M_X12_keepsAct_13 4000 = true := by decide +kernel
theorem chk_X12_keepsAct_14 : k_check gTT gGS M_X12_keepsAct_14 4000 = true := by decide +kernel
theorem chk_X12_keepsAct_15 : k_check gTT gGS M_X12_keepsAct_15 4000 = true := by decide +kernel
theorem chk_X12_keepsAct_16 : k_check gTT gGS M_X12_keepsAct_16 4000 = true := by decide +kernel
