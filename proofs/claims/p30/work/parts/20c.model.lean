/-! ===== methods of the reference: checks ===== -/
theorem chk_X12_compare_10_15 : k_check gTT gGS M_X12_compare_10_15 4000 = true := by decide +kernel
theorem chk_X12_opens_11c : k_check gTT gGS M_X12_opens_11c 4000 = true := by decide +kernel
theorem chk_X12_opens_91c : k_check gTT gGS M_X12_opens_91c 4000 = true := by decide +kernel
theorem chk_X12_fact_30_31 : k_checkG gTT gGS M_X12_fact_30_31 4000 40 [(40, 41)] [] = true := by decide +kernel
theorem chk_X12_closes_31 : k_checkG gTT gGS M_X12_closes_31 4000 42 [(42, 43)] [] = true := by decide +kernel
theorem chk_X12_tested_10_54 : k_checkG gTT gGS M_X12_tested_10_54 4000 50 [(50, 53)] [(50, 30)] = true := by decide +kernel
theorem chk_X12_clauseHere_rule : k_check gTT gGS M_X12_clauseHere_rule 4000 = true := by decide +kernel
theorem chk_X12_clauseHere_valley : k_check gTT gGS M_X12_clauseHere_valley 4000 = true := by decide +kernel
theorem chk_X12_readsAll_rule : k_checkG gTT gGS M_X12_readsAll_rule 4000 65 [(65, 66)] [(65, 60)] = true := by decide +kernel
theorem chk_X12_readsAll_valley : k_checkG gTT gGS M_X12_readsAll_valley 4000 65 [(65, 66)] [(65, 2)] = true := by decide +kernel
theorem chk_X12_rule : k_check gTT gGS M_X12_rule 4000 = true := by decide +kernel
theorem chk_X12_isRule : k_check gTT gGS M_X12_isRule 4000 = true := by decide +kernel
theorem chk_X12_one : k_check gTT gGS M_X12_one 4000 = true := by decide +kernel
theorem chk_X12_isValley : k_check gTT gGS M_X12_isValley 4000 = true := by decide +kernel
theorem chk_X12_isHouse : k_check gTT gGS M_X12_isHouse 4000 = true := by decide +kernel
theorem chk_X12_worthOf : k_check gTT gGS M_X12_worthOf 4000 = true := by decide +kernel
theorem chk_X12_heatOf : k_check gTT gGS M_X12_heatOf 4000 = true := by decide +kernel
theorem chk_X12_saysOf : k_check gTT gGS M_X12_saysOf 4000 = true := by decide +kernel
theorem chk_X12_lostOf : k_check gTT gGS M_X12_lostOf 4000 = true := by decide +kernel
theorem chk_X12_farOf : k_check gTT gGS M_X12_farOf 4000 = true := by decide +kernel
theorem chk_X12_fires : k_check gTT gGS M_X12_fires 4000 = true := by decide +kernel
theorem chk_X12_worthAll : k_check gTT gGS M_X12_worthAll 4000 = true := by decide +kernel
theorem chk_X12_lostAll : k_check gTT gGS M_X12_lostAll 4000 = true := by decide +kernel
theorem chk_X12_measures : k_check gTT gGS M_X12_measures 4000 = true := by decide +kernel
theorem chk_X12_begins : k_check gTT gGS M_X12_begins 4000 = true := by decide +kernel
theorem chk_X12_valley : k_check gTT gGS M_X12_valley 4000 = true := by decide +kernel
theorem chk_X12_force : k_check gTT gGS M_X12_force 4000 = true := by decide +kernel
theorem chk_X12_house : k_check gTT gGS M_X12_house 4000 = true := by decide +kernel
theorem chk_X12_isPlace : k_check gTT gGS M_X12_isPlace 4000 = true := by decide +kernel
theorem chk_X12_far : k_check gTT gGS M_X12_far 4000 = true := by decide +kernel
theorem chk_X12_sumOf : k_check gTT gGS M_X12_sumOf 4000 = true := by decide +kernel
theorem chk_X12_choice : k_check gTT gGS M_X12_choice 4000 = true := by decide +kernel
theorem chk_X12_nextOfRow : k_check gTT gGS M_X12_nextOfRow 4000 = true := by decide +kernel
theorem chk_X12_isOnItsWay : k_check gTT gGS M_X12_isOnItsWay 4000 = true := by decide +kernel
theorem chk_X12_whereItIs : k_check gTT gGS M_X12_whereItIs 4000 = true := by decide +kernel
theorem chk_X12_sends : k_check gTT gGS M_X12_sends 4000 = true := by decide +kernel
theorem chk_X12_goes : k_check gTT gGS M_X12_goes 4000 = true := by decide +kernel
theorem chk_X12_comes : k_check gTT gGS M_X12_comes 4000 = true := by decide +kernel
theorem chk_X12_burns : k_check gTT gGS M_X12_burns 4000 = true := by decide +kernel
theorem chk_X12_passes : k_check gTT gGS M_X12_passes 4000 = true := by decide +kernel
theorem chk_X12_passesAll : k_check gTT gGS M_X12_passesAll 4000 = true := by decide +kernel
theorem chk_X12_keepsAct_0 : k_check gTT gGS M_X12_keepsAct_0 4000 = true := by decide +kernel
theorem chk_X12_keepsAct_1 : k_check gTT gGS M_X12_keepsAct_1 4000 = true := by decide +kernel
