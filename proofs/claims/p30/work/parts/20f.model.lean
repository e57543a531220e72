/-! ===== methods of the reference: checks ===== -/
theorem chk_X12_keepsAct_20 : k_check gTT gGS M_X12_keepsAct_20 4000 = true := by decide +kernel
theorem chk_X12_undo_0 : k_check gTT gGS M_X12_undo_0 4000 = true := by decide +kernel
