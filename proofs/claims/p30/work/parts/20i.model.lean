/-! ===== methods of the reference: checks ===== -/
theorem chk_X12_undo_17 : k_check gTT gGS M_X12_undo_17 4000 = true := by decide +kernel
theorem chk_X12_undo_18 : k_check gTT gGS M_X12_undo_18 4000 = true := by decide +kernel
theorem chk_X12_undo_19 : k_check gTT gGS M_X12_undo_19 4000 = true := by decide +kernel
theorem chk_X12_undo_20 : k_check gTT gGS M_X12_undo_20 4000 = true := by decide +kernel
theorem chk_X12_hour : k_check gTT gGS M_X12_hour 4000 = true := by decide +kernel
theorem chk_X12_canLight : k_check gTT gGS M_X12_canLight 4000 = true := by decide +kernel
theorem chk_X12_light : k_check gTT gGS M_X12_light 4000 = true := by decide +kernel
theorem chk_X12_douse : k_check gTT gGS M_X12_douse 4000 = true := by decide +kernel
theorem chk_X12_say : k_check gTT gGS M_X12_say 4000 = true := by decide +kernel
theorem chk_X12_send : k_check gTT gGS M_X12_send 4000 = true := by decide +kernel
theorem chk_X12_keeps : k_check gTT gGS M_X12_keeps 4000 = true := by decide +kernel
theorem chk_X12_laysBack : k_check gTT gGS M_X12_laysBack 4000 = true := by decide +kernel
theorem chk_X12_ahead : k_check gTT gGS M_X12_ahead 4000 = true := by decide +kernel
theorem chk_X12_worthIn : k_check gTT gGS M_X12_worthIn 4000 = true := by decide +kernel
theorem chk_X12_left : k_check gTT gGS M_X12_left 4000 = true := by decide +kernel
theorem chk_X12_out : k_check gTT gGS M_X12_out 4000 = true := by decide +kernel
