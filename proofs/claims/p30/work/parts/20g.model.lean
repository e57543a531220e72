/-! ===== methods of the reference: checks ===== -/
theorem chk_X12_undo_1 : k_check gTT gGS M_X12_undo_1 4000 = true := by decide +kernel
theorem chk_X12_undo_2 : k_check gTT gGS M_X12_undo_2 4000 = true := by decide +kernel
theorem chk_X12_undo_3 : k_check gTT gGS M_X12_undo_3 4000 = true := by decide +kernel
theorem chk_X12_undo_4 : k_check gTT gGS M_X12_undo_4 4000 = true := by decide +kernel
theorem chk_X12_undo_5 : k_check gTT gGS M_X12_undo_5 4000 = true := by decide +kernel
theorem chk_X12_undo_6 : k_check gTT gGS M_X12_undo_6 4000 = true := by decide +kernel
theorem chk_X12_undo_7 : k_check gTT gGS M_X12_undo_7 4000 = true := by decide +kernel
theorem chk_X12_undo_8 : k_check gTT gGS M_X12_undo_8 4000 = true := by decide +kernel
