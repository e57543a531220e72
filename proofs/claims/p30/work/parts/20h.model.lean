/-! ===== methods of the reference: checks ===== -/
theorem chk_X12_undo_9 : k_check gTT gGS M_X12_undo_9 4000 = true := by decide +kernel
theorem chk_X12_undo_10 : k_check gTT gGS M_X12_undo_10 4000 = true := by decide +kernel
theorem chk_X12_undo_11 : k_check gTT gGS M_X12_undo_11 4000 = true := by decide +kernel
theorem chk_X12_undo_12 : k_check gTT gGS M_X12_undo_12 4000 = true := by decide +kernel
theorem chk_X12_undo_13 : k_check gTT gGS M_X12_undo_13 4000 = true := by decide +kernel
theorem chk_X12_undo_14 : k_check gTT gGS M_X12_undo_14 4000 = true := by decide +kernel
theorem chk_X12_undo_15 : k_check gTT gGS M_X12_undo_15 4000 = true := by decide +kernel
theorem chk_X12_undo_16 : k_check gTT gGS M_X12_undo_16 4000 = true := by decide +kernel
