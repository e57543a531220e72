/-! ===== contracts ===== -/
section
variable {l : Launch} {g : va_G} {tys : List (ClassId × FieldType)} {B0 : Nat} {GI : Nat → kTau → Heap → Prop} {τ : kTau}
theorem wl_RX12_189 : Jvm.Cond.methodLink RX12 189 yX12_opens ∈ gTB := gIn (i := 1538) (by decide +kernel) (by decide +kernel)
theorem wk_X12_opens : Jvm.Cond.code yX12_opens cX12_opens 2 (k_rty 2) ∈ gTB ∧ Jvm.Cond.initialized yX12_opens.cls ∈ gTB ∧ Jvm.Cond.instanceMethod yX12_opens ∈ gTB ∧ Jvm.Cond.selects RX12 yX12_opens yX12_opens ∈ gTB := ⟨gIn (i := 1541) (by decide +kernel) (by decide +kernel), gIn (i := 137) (by decide +kernel) (by decide +kernel), gIn (i := 1540) (by decide +kernel) (by decide +kernel), gIn (i := 75) (by decide +kernel) (by decide +kernel)⟩
theorem wd_X12_opens : yX12_opens.cls ≠ "java/lang/invoke/MethodHandle" ∧ yX12_opens.cls ≠ "java/lang/invoke/VarHandle" ∧ (parseMethodDescriptor yX12_opens.desc).map (fun d => d.parameters.length) = some 1 := by decide +kernel
theorem wl_RX12_192 : Jvm.Cond.methodLink RX12 192 yX12_compare ∈ gTB := gIn (i := 1542) (by decide +kernel) (by decide +kernel)
theorem wk_X12_compare : Jvm.Cond.code yX12_compare cX12_compare 5 (k_rty 2) ∈ gTB ∧ Jvm.Cond.initialized yX12_compare.cls ∈ gTB ∧ Jvm.Cond.instanceMethod yX12_compare ∈ gTB ∧ Jvm.Cond.selects RX12 yX12_compare yX12_compare ∈ gTB := ⟨gIn (i := 1545) (by decide +kernel) (by decide +kernel), gIn (i := 137) (by decide +kernel) (by decide +kernel), gIn (i := 1544) (by decide +kernel) (by decide +kernel), gIn (i := 76) (by decide +kernel) (by decide +kernel)⟩
theorem wd_X12_compare : yX12_compare.cls ≠ "java/lang/invoke/MethodHandle" ∧ yX12_compare.cls ≠ "java/lang/invoke/VarHandle" ∧ (parseMethodDescriptor yX12_compare.desc).map (fun d => d.parameters.length) = some 0 := by decide +kernel
theorem C_X12_fact_30_31 (h0 : gE1 g) (hu : gU τ) (hT : ∀ GI, k_tys (gE g tys B0 GI)) (c : gGh) : k_Met l (gE g tys B0 (gGI g (c.1, c.2.1, c.2.2.1, c.2.2.2.1, 0))) τ gTB yX12_fact cX12_fact 3 2 K_X12_fact_30_31 ⟨7, 0, 0, 154⟩ := by
  obtain ⟨cb, cn, ck, cm, cd⟩ := c
  exact k_metH (GI := fun m => gGI g (cb, cn, ck, cm, m)) (m0 := 0) (B := 10) (f := 4000) (d := 40) (sh := [(40, 41)]) (sh0 := []) (M := M_X12_fact_30_31) (by decide +kernel)
    (fun m' _ => ⟨by
    intro i hi
    exact absurd hi List.not_mem_nil, by
    intro A hA
    rcases List.mem_cons.mp hA with rfl | hA
    · intro q hq hz
      rcases List.mem_cons.mp hq with rfl | hq
      · rfl
      exact absurd hq List.not_mem_nil
    rcases List.mem_cons.mp hA with rfl | hA
    · intro q hq hz
      rcases List.mem_cons.mp hq with rfl | hq
      · rfl
      rcases List.mem_cons.mp hq with rfl | hq
      · rfl
      exact absurd hq List.not_mem_nil
    exact absurd hA List.not_mem_nil⟩)
    (fun m' hm' X hl hr hF hts hK => ⟨gFLk12 hts, gCIk12 hts, gCJk12 hts, (show ∀ q ∈ ([(9, K_X12_see), (17, K_X12_isWord_71), (17, K_X12_isWord), (26, K_X12_opens_11), (35, K_X12_passWord), (52, K_X12_opens_91), (76, K_X12_compare_30_31)] : List (Nat × kCtr)), k_call X (gE g tys B0 (gGI g (cb, cn, ck, cm, m'))) 3 τ q.2 q.1 from List.forall_mem_cons.mpr ⟨k_callV (cc := cX12_fact) (C := RX12) hF hK hts gGood (C_X12_see h0 hu hT (cb, cn, ck, cm, m')) wk_X12_see.1 wk_X12_see.2.1 wl_RX12_96 wk_X12_see.2.2.1 wk_X12_see.2.2.2 rfl rfl rfl rfl rfl wd_X12_see ⟨by rw [hr]; decide, by rw [hr]; decide⟩ (dec_X12_fact (9, .invokevirtual 96, 3) (List.mem_of_getElem? (i := 7) rfl)),
    List.forall_mem_cons.mpr ⟨k_callV (cc := cX12_fact) (C := RX12) hF hK hts gGood (C_X12_isWord_71 h0 hu hT (cb, cn, ck, cm, m')) wk_X12_isWord.1 wk_X12_isWord.2.1 wl_RX12_104 wk_X12_isWord.2.2.1 wk_X12_isWord.2.2.2 rfl rfl rfl rfl rfl wd_X12_isWord ⟨by rw [hr]; decide, by rw [hr]; decide⟩ (dec_X12_fact (17, .invokevirtual 104, 3) (List.mem_of_getElem? (i := 11) rfl)),
    List.forall_mem_cons.mpr ⟨k_callV (cc := cX12_fact) (C := RX12) hF hK hts gGood (C_X12_isWord h0 hu hT (cb, cn, ck, cm, m')) wk_X12_isWord.1 wk_X12_isWord.2.1 wl_RX12_104 wk_X12_isWord.2.2.1 wk_X12_isWord.2.2.2 rfl rfl rfl rfl rfl wd_X12_isWord ⟨by rw [hr]; decide, by rw [hr]; decide⟩ (dec_X12_fact (17, .invokevirtual 104, 3) (List.mem_of_getElem? (i := 11) rfl)),
    List.forall_mem_cons.mpr ⟨k_callV (cc := cX12_fact) (C := RX12) hF hK hts gGood (C_X12_opens_11 h0 hu hT (cb, cn, ck, cm, m')) wk_X12_opens.1 wk_X12_opens.2.1 wl_RX12_189 wk_X12_opens.2.2.1 wk_X12_opens.2.2.2 rfl rfl rfl rfl rfl wd_X12_opens ⟨by rw [hr]; decide, by rw [hr]; decide⟩ (dec_X12_fact (26, .invokevirtual 189, 3) (List.mem_of_getElem? (i := 15) rfl)),
    List.forall_mem_cons.mpr ⟨k_callV (cc := cX12_fact) (C := RX12) hF hK hts gGood (C_X12_passWord h0 hu hT (cb, cn, ck, cm, m')) wk_X12_passWord.1 wk_X12_passWord.2.1 wl_RX12_108 wk_X12_passWord.2.2.1 wk_X12_passWord.2.2.2 rfl rfl rfl rfl rfl wd_X12_passWord ⟨by rw [hr]; decide, by rw [hr]; decide⟩ (dec_X12_fact (35, .invokevirtual 108, 3) (List.mem_of_getElem? (i := 20) rfl)),
    List.forall_mem_cons.mpr ⟨k_callV (cc := cX12_fact) (C := RX12) hF hK hts gGood (C_X12_opens_91 h0 hu hT (cb, cn, ck, cm, m')) wk_X12_opens.1 wk_X12_opens.2.1 wl_RX12_189 wk_X12_opens.2.2.1 wk_X12_opens.2.2.2 rfl rfl rfl rfl rfl wd_X12_opens ⟨by rw [hr]; decide, by rw [hr]; decide⟩ (dec_X12_fact (52, .invokevirtual 189, 3) (List.mem_of_getElem? (i := 29) rfl)),
    List.forall_mem_cons.mpr ⟨k_callV (cc := cX12_fact) (C := RX12) hF hK hts gGood (C_X12_compare_30_31 h0 hu hT (cb, cn, ck, cm, m')) wk_X12_compare.1 wk_X12_compare.2.1 wl_RX12_192 wk_X12_compare.2.2.1 wk_X12_compare.2.2.2 rfl rfl rfl rfl rfl wd_X12_compare ⟨by rw [hr]; decide, by rw [hr]; decide⟩ (dec_X12_fact (76, .invokevirtual 192, 3) (List.mem_of_getElem? (i := 43) rfl)),
    List.forall_mem_nil _⟩⟩⟩⟩⟩⟩⟩), gEok h0 _, hT _⟩) dec_X12_fact chk_X12_fact_30_31
    (fun m' _ => (by
    intro q hq
    have hq : q = _ := List.mem_singleton.mp hq
    subst hq
    intro i hi
    have hi : i ∈ [1, 30, 40] := hi
    simp only [List.mem_cons, List.not_mem_nil, or_false] at hi
    rcases hi with rfl | rfl | rfl
    · exact fun H hH h => gGI_map (c := (cb, cn, ck, cm, m')) (c' := (cb, cn, ck, cm, (m' + 1))) (i := 1) (j := 1) (by decide) (by decide) (fun _ _ h => h) h
    · exact fun H hH h => gGI_map (c := (cb, cn, ck, cm, m')) (c' := (cb, cn, ck, cm, (m' + 1))) (i := 30) (j := 30) (by decide) (by decide) (fun _ _ h => h) h
    · exact fun H hH h => gGI_map (c := (cb, cn, ck, cm, m')) (c' := (cb, cn, ck, cm, (m' + 1))) (i := 41) (j := 40) (by decide) (by decide) (fun I A h => by
        have h : (m' : Int) + 1 ≤ I 13 := h
        show ((m' + 1 : Nat) : Int) ≤ I 13
        omega) h))
    (by
    intro q hq
    have hq : q = _ := List.mem_singleton.mp hq
    subst hq
    intro i hi
    have hi : i ∈ [1, 30, 40] := hi
    simp only [List.mem_cons, List.not_mem_nil, or_false] at hi
    rcases hi with rfl | rfl | rfl
    · exact fun H hH h => gGI_map (c := (cb, cn, ck, cm, (0))) (c' := (cb, cn, ck, cm, (0))) (i := 1) (j := 1) (by decide) (by decide) (fun _ _ h => h) h
    · exact fun H hH h => gGI_map (c := (cb, cn, ck, cm, (0))) (c' := (cb, cn, ck, cm, (0))) (i := 30) (j := 30) (by decide) (by decide) (fun _ _ h => h) h
    · exact fun H hH h => gGI_map (c := (cb, cn, ck, cm, (0))) (c' := (cb, cn, ck, cm, (0))) (i := 40) (j := 40) (by decide) (by decide) (fun _ _ h => h) h)
    (fun m H hH h => by
    obtain ⟨a, ha, -, h⟩ := gGI_get (i := 40) (by decide) h
    obtain ⟨x, -, e, l1, l2⟩ := vI_in h0 hH ha (k := 13) rfl
    have h : (m : Int) ≤ vI g H a 13 := h
    rw [e] at h
    dsimp only at l1 l2
    omega)
theorem C_X12_fact_50_51 (h0 : gE1 g) (hu : gU τ) (hT : ∀ GI, k_tys (gE g tys B0 GI)) (c : gGh) : k_Met l (gE g tys B0 (gGI g c)) τ gTB yX12_fact cX12_fact 3 2 K_X12_fact_50_51 ⟨7, 0, 0, 154⟩ := by
  obtain ⟨cb, cn, ck, cm, cd⟩ := c
  exact k_cvmG (GI := gGI g (cb, cn, ck, cd, 0)) (GI' := gGI g (cb, cn, ck, cm, cd)) (K := K_X12_fact_30_31) (K' := K_X12_fact_50_51) (C_X12_fact_30_31 h0 hu hT (cb, cn, ck, cd, 0)) rfl rfl rfl
    (fun H hH h => List.forall_mem_cons.mpr ⟨gGI_map (c := (cb, cn, ck, cm, cd)) (c' := (cb, cn, ck, cd, 0)) (i := 1) (j := 1) (by decide) (by decide) (fun _ _ h => h) (h 1 (List.mem_of_getElem? (i := 0) rfl)), List.forall_mem_cons.mpr ⟨gGI_map (c := (cb, cn, ck, cm, cd)) (c' := (cb, cn, ck, cd, 0)) (i := 50) (j := 30) (by decide) (by decide) (fun _ _ h => h) (h 50 (List.mem_of_getElem? (i := 1) rfl)), List.forall_mem_cons.mpr ⟨gGI_kind (i := 50) (j := 40) (k := 13) h0 hH (by decide) (by decide) rfl (fun _ _ l1 _ _ => l1) (h 50 (List.mem_of_getElem? (i := 1) rfl)), List.forall_mem_nil _⟩⟩⟩)
    (fun H hH h => List.forall_mem_nil _)
    (List.forall_mem_cons.mpr ⟨⟨_, List.mem_of_getElem? (i := 0) rfl, rfl, rfl, fun H hH h => List.forall_mem_cons.mpr ⟨Or.inr ⟨by decide, gGI_map (c := (cb, cn, ck, cd, 0)) (c' := (cb, cn, ck, cm, cd)) (i := 1) (j := 1) (by decide) (by decide) (fun _ _ h => h) (h (1001, 0, .inl (0, 1)) (List.mem_of_getElem? (i := 0) rfl) (by decide))⟩, List.forall_mem_nil _⟩⟩, List.forall_mem_cons.mpr ⟨⟨_, List.mem_of_getElem? (i := 1) rfl, rfl, rfl, fun H hH h => List.forall_mem_cons.mpr ⟨Or.inr ⟨by decide, gGI_map (c := (cb, cn, ck, cd, 0)) (c' := (cb, cn, ck, cm, cd)) (i := 1) (j := 1) (by decide) (by decide) (fun _ _ h => h) (h (1001, 0, .inl (0, 1)) (List.mem_of_getElem? (i := 0) rfl) (by decide))⟩, List.forall_mem_cons.mpr ⟨Or.inr ⟨by decide, gGI_map (c := (cb, cn, ck, cd, 0)) (c' := (cb, cn, ck, cm, cd)) (i := 31) (j := 51) (by decide) (by decide) (fun _ _ h => h) (h (1031, 0, .inl (0, 1)) (List.mem_of_getElem? (i := 1) rfl) (by decide))⟩, List.forall_mem_nil _⟩⟩⟩, List.forall_mem_nil _⟩⟩)
theorem wl_RX12_195 : Jvm.Cond.methodLink RX12 195 yX12_layDown ∈ gTB := gIn (i := 1550) (by decide +kernel) (by decide +kernel)
theorem wk_X12_layDown : Jvm.Cond.code yX12_layDown cX12_layDown 2 (k_rty 0) ∈ gTB ∧ Jvm.Cond.initialized yX12_layDown.cls ∈ gTB ∧ Jvm.Cond.instanceMethod yX12_layDown ∈ gTB ∧ Jvm.Cond.selects RX12 yX12_layDown yX12_layDown ∈ gTB := ⟨gIn (i := 1553) (by decide +kernel) (by decide +kernel), gIn (i := 137) (by decide +kernel) (by decide +kernel), gIn (i := 1552) (by decide +kernel) (by decide +kernel), gIn (i := 78) (by decide +kernel) (by decide +kernel)⟩
theorem wd_X12_layDown : yX12_layDown.cls ≠ "java/lang/invoke/MethodHandle" ∧ yX12_layDown.cls ≠ "java/lang/invoke/VarHandle" ∧ (parseMethodDescriptor yX12_layDown.desc).map (fun d => d.parameters.length) = some 1 := by decide +kernel
theorem wl_RX12_198 : Jvm.Cond.methodLink RX12 198 yX12_isInside ∈ gTB := gIn (i := 1557) (by decide +kernel) (by decide +kernel)
theorem wk_X12_isInside : Jvm.Cond.code yX12_isInside cX12_isInside 2 (k_rty 2) ∈ gTB ∧ Jvm.Cond.initialized yX12_isInside.cls ∈ gTB ∧ Jvm.Cond.instanceMethod yX12_isInside ∈ gTB ∧ Jvm.Cond.selects RX12 yX12_isInside yX12_isInside ∈ gTB := ⟨gIn (i := 1560) (by decide +kernel) (by decide +kernel), gIn (i := 137) (by decide +kernel) (by decide +kernel), gIn (i := 1559) (by decide +kernel) (by decide +kernel), gIn (i := 79) (by decide +kernel) (by decide +kernel)⟩
theorem wd_X12_isInside : yX12_isInside.cls ≠ "java/lang/invoke/MethodHandle" ∧ yX12_isInside.cls ≠ "java/lang/invoke/VarHandle" ∧ (parseMethodDescriptor yX12_isInside.desc).map (fun d => d.parameters.length) = some 0 := by decide +kernel
theorem C_X12_closes_31 (h0 : gE1 g) (hu : gU τ) (hT : ∀ GI, k_tys (gE g tys B0 GI)) (c : gGh) : k_Met l (gE g tys B0 (gGI g (c.1, c.2.1, c.2.2.1, c.2.2.2.1, 0))) τ gTB yX12_closes cX12_closes 1 0 K_X12_closes_31 ⟨2, 0, 0, 51⟩ := by
  obtain ⟨cb, cn, ck, cm, cd⟩ := c
  exact k_metH (GI := fun m => gGI g (cb, cn, ck, cm, m)) (m0 := 0) (B := 400) (f := 4000) (d := 42) (sh := [(42, 43)]) (sh0 := []) (M := M_X12_closes_31) (by decide +kernel)
    (fun m' _ => ⟨by
    intro i hi
    rcases List.mem_cons.mp hi with rfl | hi
    · rfl
    rcases List.mem_cons.mp hi with rfl | hi
    · rfl
    exact absurd hi List.not_mem_nil, by
    intro A hA
    rcases List.mem_cons.mp hA with rfl | hA
    · intro q hq hz
      exact absurd hq List.not_mem_nil
    exact absurd hA List.not_mem_nil⟩)
    (fun m' hm' X hl hr hF hts hK => ⟨gFLk12 hts, gCIk12 hts, gCJk12 hts, (show ∀ q ∈ ([(2, K_X12_layDown_3), (6, K_X12_see), (15, K_X12_isInside), (23, K_X12_layDown_in), (58, K_X12_layDown_3b)] : List (Nat × kCtr)), k_call X (gE g tys B0 (gGI g (cb, cn, ck, cm, m'))) 1 τ q.2 q.1 from List.forall_mem_cons.mpr ⟨k_callV (cc := cX12_closes) (C := RX12) hF hK hts gGood (C_X12_layDown_3 h0 hu hT (cb, cn, ck, cm, m')) wk_X12_layDown.1 wk_X12_layDown.2.1 wl_RX12_195 wk_X12_layDown.2.2.1 wk_X12_layDown.2.2.2 rfl rfl rfl rfl rfl wd_X12_layDown ⟨by rw [hr]; decide, by rw [hr]; decide⟩ (dec_X12_closes (2, .invokevirtual 195, 3) (List.mem_of_getElem? (i := 2) rfl)),
    List.forall_mem_cons.mpr ⟨k_callV (cc := cX12_closes) (C := RX12) hF hK hts gGood (C_X12_see h0 hu hT (cb, cn, ck, cm, m')) wk_X12_see.1 wk_X12_see.2.1 wl_RX12_96 wk_X12_see.2.2.1 wk_X12_see.2.2.2 rfl rfl rfl rfl rfl wd_X12_see ⟨by rw [hr]; decide, by rw [hr]; decide⟩ (dec_X12_closes (6, .invokevirtual 96, 3) (List.mem_of_getElem? (i := 4) rfl)),
    List.forall_mem_cons.mpr ⟨k_callV (cc := cX12_closes) (C := RX12) hF hK hts gGood (C_X12_isInside h0 hu hT (cb, cn, ck, cm, m')) wk_X12_isInside.1 wk_X12_isInside.2.1 wl_RX12_198 wk_X12_isInside.2.2.1 wk_X12_isInside.2.2.2 rfl rfl rfl rfl rfl wd_X12_isInside ⟨by rw [hr]; decide, by rw [hr]; decide⟩ (dec_X12_closes (15, .invokevirtual 198, 3) (List.mem_of_getElem? (i := 8) rfl)),
    List.forall_mem_cons.mpr ⟨k_callV (cc := cX12_closes) (C := RX12) hF hK hts gGood (C_X12_layDown_in h0 hu hT (cb, cn, ck, cm, m')) wk_X12_layDown.1 wk_X12_layDown.2.1 wl_RX12_195 wk_X12_layDown.2.2.1 wk_X12_layDown.2.2.2 rfl rfl rfl rfl rfl wd_X12_layDown ⟨by rw [hr]; decide, by rw [hr]; decide⟩ (dec_X12_closes (23, .invokevirtual 195, 3) (List.mem_of_getElem? (i := 12) rfl)),
    List.forall_mem_cons.mpr ⟨k_callV (cc := cX12_closes) (C := RX12) hF hK hts gGood (C_X12_layDown_3b h0 hu hT (cb, cn, ck, cm, m')) wk_X12_layDown.1 wk_X12_layDown.2.1 wl_RX12_195 wk_X12_layDown.2.2.1 wk_X12_layDown.2.2.2 rfl rfl rfl rfl rfl wd_X12_layDown ⟨by rw [hr]; decide, by rw [hr]; decide⟩ (dec_X12_closes (58, .invokevirtual 195, 3) (List.mem_of_getElem? (i := 33) rfl)),
    List.forall_mem_nil _⟩⟩⟩⟩⟩), gEok h0 _, hT _⟩) dec_X12_closes chk_X12_closes_31
    (fun m' _ => (by
    intro q hq
    have hq : q = _ := List.mem_singleton.mp hq
    subst hq
    intro i hi
    have hi : i ∈ [1, 31, 42] := hi
    simp only [List.mem_cons, List.not_mem_nil, or_false] at hi
    rcases hi with rfl | rfl | rfl
    · exact fun H hH h => gGI_map (c := (cb, cn, ck, cm, m')) (c' := (cb, cn, ck, cm, (m' + 1))) (i := 1) (j := 1) (by decide) (by decide) (fun _ _ h => h) h
    · exact fun H hH h => gGI_map (c := (cb, cn, ck, cm, m')) (c' := (cb, cn, ck, cm, (m' + 1))) (i := 31) (j := 31) (by decide) (by decide) (fun _ _ h => h) h
    · exact fun H hH h => gGI_map (c := (cb, cn, ck, cm, m')) (c' := (cb, cn, ck, cm, (m' + 1))) (i := 43) (j := 42) (by decide) (by decide) (fun I A h => by
        have h : I 16 + (m' : Int) + 1 ≤ 400 := h
        show I 16 + ((m' + 1 : Nat) : Int) ≤ 400
        omega) h))
    (by
    intro q hq
    have hq : q = _ := List.mem_singleton.mp hq
    subst hq
    intro i hi
    have hi : i ∈ [1, 31, 42] := hi
    simp only [List.mem_cons, List.not_mem_nil, or_false] at hi
    rcases hi with rfl | rfl | rfl
    · exact fun H hH h => gGI_map (c := (cb, cn, ck, cm, (0))) (c' := (cb, cn, ck, cm, (0))) (i := 1) (j := 1) (by decide) (by decide) (fun _ _ h => h) h
    · exact fun H hH h => gGI_map (c := (cb, cn, ck, cm, (0))) (c' := (cb, cn, ck, cm, (0))) (i := 31) (j := 31) (by decide) (by decide) (fun _ _ h => h) h
    · exact fun H hH h => gGI_map (c := (cb, cn, ck, cm, (0))) (c' := (cb, cn, ck, cm, (0))) (i := 42) (j := 42) (by decide) (by decide) (fun _ _ h => h) h)
    (fun m H hH h => by
    obtain ⟨a, ha, -, h⟩ := gGI_get (i := 42) (by decide) h
    obtain ⟨x, -, e, l1, l2⟩ := vI_in h0 hH ha (k := 16) rfl
    have h : vI g H a 16 + (m : Int) ≤ 400 := h
    rw [e] at h
    dsimp only at l1 l2
    omega)
theorem C_X12_closes_51 (h0 : gE1 g) (hu : gU τ) (hT : ∀ GI, k_tys (gE g tys B0 GI)) (c : gGh) : k_Met l (gE g tys B0 (gGI g c)) τ gTB yX12_closes cX12_closes 1 0 K_X12_closes_51 ⟨2, 0, 0, 51⟩ := by
  obtain ⟨cb, cn, ck, cm, cd⟩ := c
  exact k_cvmG (GI := gGI g (cb, cn, ck, cd, 0)) (GI' := gGI g (cb, cn, ck, cm, cd)) (K := K_X12_closes_31) (K' := K_X12_closes_51) (C_X12_closes_31 h0 hu hT (cb, cn, ck, cd, 0)) rfl rfl rfl
    (fun H hH h => List.forall_mem_cons.mpr ⟨gGI_map (c := (cb, cn, ck, cm, cd)) (c' := (cb, cn, ck, cd, 0)) (i := 51) (j := 31) (by decide) (by decide) (fun _ _ h => h) (h 51 (List.mem_of_getElem? (i := 0) rfl)), List.forall_mem_cons.mpr ⟨gGI_kind (i := 51) (j := 42) (k := 16) h0 hH (by decide) (by decide) rfl (fun I _ _ l2 _ => show I 16 + ((0 : Nat) : Int) ≤ 400 by dsimp only at l2; omega) (h 51 (List.mem_of_getElem? (i := 0) rfl)), List.forall_mem_nil _⟩⟩)
    (fun H hH h => List.forall_mem_cons.mpr ⟨gGI_map (c := (cb, cn, ck, cd, 0)) (c' := (cb, cn, ck, cm, cd)) (i := 1) (j := 1) (by decide) (by decide) (fun _ _ h => h) (h 1 (List.mem_of_getElem? (i := 0) rfl)), List.forall_mem_cons.mpr ⟨gGI_map (c := (cb, cn, ck, cd, 0)) (c' := (cb, cn, ck, cm, cd)) (i := 31) (j := 51) (by decide) (by decide) (fun _ _ h => h) (h 31 (List.mem_of_getElem? (i := 1) rfl)), List.forall_mem_nil _⟩⟩)
    (List.forall_mem_cons.mpr ⟨⟨_, List.mem_of_getElem? (i := 0) rfl, rfl, rfl, fun H hH h => List.forall_mem_nil _⟩, List.forall_mem_nil _⟩)
theorem wl_RX12_201 : Jvm.Cond.methodLink RX12 201 yX12_fact ∈ gTB := gIn (i := 1533) (by decide +kernel) (by decide +kernel)
theorem wk_X12_fact : Jvm.Cond.code yX12_fact cX12_fact 3 (k_rty 2) ∈ gTB ∧ Jvm.Cond.initialized yX12_fact.cls ∈ gTB ∧ Jvm.Cond.instanceMethod yX12_fact ∈ gTB ∧ Jvm.Cond.selects RX12 yX12_fact yX12_fact ∈ gTB := ⟨gIn (i := 1536) (by decide +kernel) (by decide +kernel), gIn (i := 137) (by decide +kernel) (by decide +kernel), gIn (i := 1535) (by decide +kernel) (by decide +kernel), gIn (i := 74) (by decide +kernel) (by decide +kernel)⟩
theorem wd_X12_fact : yX12_fact.cls ≠ "java/lang/invoke/MethodHandle" ∧ yX12_fact.cls ≠ "java/lang/invoke/VarHandle" ∧ (parseMethodDescriptor yX12_fact.desc).map (fun d => d.parameters.length) = some 0 := by decide +kernel
theorem wl_RX12_204 : Jvm.Cond.methodLink RX12 204 yX12_closes ∈ gTB := gIn (i := 1546) (by decide +kernel) (by decide +kernel)
theorem wk_X12_closes : Jvm.Cond.code yX12_closes cX12_closes 1 (k_rty 0) ∈ gTB ∧ Jvm.Cond.initialized yX12_closes.cls ∈ gTB ∧ Jvm.Cond.instanceMethod yX12_closes ∈ gTB ∧ Jvm.Cond.selects RX12 yX12_closes yX12_closes ∈ gTB := ⟨gIn (i := 1549) (by decide +kernel) (by decide +kernel), gIn (i := 137) (by decide +kernel) (by decide +kernel), gIn (i := 1548) (by decide +kernel) (by decide +kernel), gIn (i := 77) (by decide +kernel) (by decide +kernel)⟩
theorem wd_X12_closes : yX12_closes.cls ≠ "java/lang/invoke/MethodHandle" ∧ yX12_closes.cls ≠ "java/lang/invoke/VarHandle" ∧ (parseMethodDescriptor yX12_closes.desc).map (fun d => d.parameters.length) = some 0 := by decide +kernel
theorem C_X12_tested_10_54 (h0 : gE1 g) (hu : gU τ) (hT : ∀ GI, k_tys (gE g tys B0 GI)) (c : gGh) : k_Met l (gE g tys B0 (gGI g c)) τ gTB yX12_tested cX12_tested 3 2 K_X12_tested_10_54 ⟨8, 0, 0, 176⟩ := by
  obtain ⟨cb, cn, ck, cm, cd⟩ := c
  have hM : k_Met l (gE g tys B0 (gGI g (cb, cn, ck, cm, cm))) τ gTB yX12_tested cX12_tested 3 2 K_X12_tested_10_54 ⟨8, 0, 0, 176⟩ := k_metH (GI := fun m => gGI g (cb, cn, ck, cm, m)) (m0 := cm) (B := 60) (f := 4000) (d := 50) (sh := [(50, 53)]) (sh0 := [(50, 30)]) (M := M_X12_tested_10_54) (by decide +kernel)
    (fun m' _ => ⟨by
    intro i hi
    exact absurd hi List.not_mem_nil, by
    intro A hA
    rcases List.mem_cons.mp hA with rfl | hA
    · intro q hq hz
      rcases List.mem_cons.mp hq with rfl | hq
      · rfl
      exact absurd hq List.not_mem_nil
    rcases List.mem_cons.mp hA with rfl | hA
    · intro q hq hz
      rcases List.mem_cons.mp hq with rfl | hq
      · rfl
      rcases List.mem_cons.mp hq with rfl | hq
      · rfl
      exact absurd hq List.not_mem_nil
    exact absurd hA List.not_mem_nil⟩)
    (fun m' hm' X hl hr hF hts hK => ⟨gFLk12 hts, gCIk12 hts, gCJk12 hts, (show ∀ q ∈ ([(17, K_X12_fact_50_51), (26, K_X12_closes_51), (33, K_X12_isWord), (43, K_X12_isWord), (63, K_X12_isWord), (78, K_X12_passWord), (83, K_X12_strength_12), (83, K_X12_strength_13), (86, K_X12_layDown_51), (113, K_X12_isInside), (120, K_X12_see), (130, K_X12_fails), (136, K_X12_layDown_end)] : List (Nat × kCtr)), k_call X (gE g tys B0 (gGI g (cb, cn, ck, cm, m'))) 3 τ q.2 q.1 from List.forall_mem_cons.mpr ⟨k_callV (cc := cX12_tested) (C := RX12) hF hK hts gGood (C_X12_fact_50_51 h0 hu hT (cb, cn, ck, cm, m')) wk_X12_fact.1 wk_X12_fact.2.1 wl_RX12_201 wk_X12_fact.2.2.1 wk_X12_fact.2.2.2 rfl rfl rfl rfl rfl wd_X12_fact ⟨by rw [hr]; decide, by rw [hr]; decide⟩ (dec_X12_tested (17, .invokevirtual 201, 3) (List.mem_of_getElem? (i := 11) rfl)),
    List.forall_mem_cons.mpr ⟨k_callV (cc := cX12_tested) (C := RX12) hF hK hts gGood (C_X12_closes_51 h0 hu hT (cb, cn, ck, cm, m')) wk_X12_closes.1 wk_X12_closes.2.1 wl_RX12_204 wk_X12_closes.2.2.1 wk_X12_closes.2.2.2 rfl rfl rfl rfl rfl wd_X12_closes ⟨by rw [hr]; decide, by rw [hr]; decide⟩ (dec_X12_tested (26, .invokevirtual 204, 3) (List.mem_of_getElem? (i := 16) rfl)),
    List.forall_mem_cons.mpr ⟨k_callV (cc := cX12_tested) (C := RX12) hF hK hts gGood (C_X12_isWord h0 hu hT (cb, cn, ck, cm, m')) wk_X12_isWord.1 wk_X12_isWord.2.1 wl_RX12_104 wk_X12_isWord.2.2.1 wk_X12_isWord.2.2.2 rfl rfl rfl rfl rfl wd_X12_isWord ⟨by rw [hr]; decide, by rw [hr]; decide⟩ (dec_X12_tested (33, .invokevirtual 104, 3) (List.mem_of_getElem? (i := 19) rfl)),
    List.forall_mem_cons.mpr ⟨k_callV (cc := cX12_tested) (C := RX12) hF hK hts gGood (C_X12_isWord h0 hu hT (cb, cn, ck, cm, m')) wk_X12_isWord.1 wk_X12_isWord.2.1 wl_RX12_104 wk_X12_isWord.2.2.1 wk_X12_isWord.2.2.2 rfl rfl rfl rfl rfl wd_X12_isWord ⟨by rw [hr]; decide, by rw [hr]; decide⟩ (dec_X12_tested (43, .invokevirtual 104, 3) (List.mem_of_getElem? (i := 23) rfl)),
    List.forall_mem_cons.mpr ⟨k_callV (cc := cX12_tested) (C := RX12) hF hK hts gGood (C_X12_isWord h0 hu hT (cb, cn, ck, cm, m')) wk_X12_isWord.1 wk_X12_isWord.2.1 wl_RX12_104 wk_X12_isWord.2.2.1 wk_X12_isWord.2.2.2 rfl rfl rfl rfl rfl wd_X12_isWord ⟨by rw [hr]; decide, by rw [hr]; decide⟩ (dec_X12_tested (63, .invokevirtual 104, 3) (List.mem_of_getElem? (i := 33) rfl)),
    List.forall_mem_cons.mpr ⟨k_callV (cc := cX12_tested) (C := RX12) hF hK hts gGood (C_X12_passWord h0 hu hT (cb, cn, ck, cm, m')) wk_X12_passWord.1 wk_X12_passWord.2.1 wl_RX12_108 wk_X12_passWord.2.2.1 wk_X12_passWord.2.2.2 rfl rfl rfl rfl rfl wd_X12_passWord ⟨by rw [hr]; decide, by rw [hr]; decide⟩ (dec_X12_tested (78, .invokevirtual 108, 3) (List.mem_of_getElem? (i := 40) rfl)),
    List.forall_mem_cons.mpr ⟨k_callS (cc := cX12_tested) hF hK hts gGood (C_X12_strength_12 h0 hu hT (cb, cn, ck, cm, m')) wk_X12_strength.1 wk_X12_strength.2.1 wl_RX12_159 wk_X12_strength.2.2 rfl rfl wd_X12_strength ⟨by rw [hr]; decide, by rw [hr]; decide⟩ (dec_X12_tested (83, .invokestatic 159, 3) (List.mem_of_getElem? (i := 43) rfl)),
    List.forall_mem_cons.mpr ⟨k_callS (cc := cX12_tested) hF hK hts gGood (C_X12_strength_13 h0 hu hT (cb, cn, ck, cm, m')) wk_X12_strength.1 wk_X12_strength.2.1 wl_RX12_159 wk_X12_strength.2.2 rfl rfl wd_X12_strength ⟨by rw [hr]; decide, by rw [hr]; decide⟩ (dec_X12_tested (83, .invokestatic 159, 3) (List.mem_of_getElem? (i := 43) rfl)),
    List.forall_mem_cons.mpr ⟨k_callV (cc := cX12_tested) (C := RX12) hF hK hts gGood (C_X12_layDown_51 h0 hu hT (cb, cn, ck, cm, m')) wk_X12_layDown.1 wk_X12_layDown.2.1 wl_RX12_195 wk_X12_layDown.2.2.1 wk_X12_layDown.2.2.2 rfl rfl rfl rfl rfl wd_X12_layDown ⟨by rw [hr]; decide, by rw [hr]; decide⟩ (dec_X12_tested (86, .invokevirtual 195, 3) (List.mem_of_getElem? (i := 44) rfl)),
    List.forall_mem_cons.mpr ⟨k_callV (cc := cX12_tested) (C := RX12) hF hK hts gGood (C_X12_isInside h0 hu hT (cb, cn, ck, cm, m')) wk_X12_isInside.1 wk_X12_isInside.2.1 wl_RX12_198 wk_X12_isInside.2.2.1 wk_X12_isInside.2.2.2 rfl rfl rfl rfl rfl wd_X12_isInside ⟨by rw [hr]; decide, by rw [hr]; decide⟩ (dec_X12_tested (113, .invokevirtual 198, 3) (List.mem_of_getElem? (i := 59) rfl)),
    List.forall_mem_cons.mpr ⟨k_callV (cc := cX12_tested) (C := RX12) hF hK hts gGood (C_X12_see h0 hu hT (cb, cn, ck, cm, m')) wk_X12_see.1 wk_X12_see.2.1 wl_RX12_96 wk_X12_see.2.2.1 wk_X12_see.2.2.2 rfl rfl rfl rfl rfl wd_X12_see ⟨by rw [hr]; decide, by rw [hr]; decide⟩ (dec_X12_tested (120, .invokevirtual 96, 3) (List.mem_of_getElem? (i := 62) rfl)),
    List.forall_mem_cons.mpr ⟨k_callV (cc := cX12_tested) (C := RX12) hF hK hts gGood (C_X12_fails h0 hu hT (cb, cn, ck, cm, m')) wk_X12_fails.1 wk_X12_fails.2.1 wl_RX12_114 wk_X12_fails.2.2.1 wk_X12_fails.2.2.2 rfl rfl rfl rfl rfl wd_X12_fails ⟨by rw [hr]; decide, by rw [hr]; decide⟩ (dec_X12_tested (130, .invokevirtual 114, 3) (List.mem_of_getElem? (i := 68) rfl)),
    List.forall_mem_cons.mpr ⟨k_callV (cc := cX12_tested) (C := RX12) hF hK hts gGood (C_X12_layDown_end h0 hu hT (cb, cn, ck, cm, m')) wk_X12_layDown.1 wk_X12_layDown.2.1 wl_RX12_195 wk_X12_layDown.2.2.1 wk_X12_layDown.2.2.2 rfl rfl rfl rfl rfl wd_X12_layDown ⟨by rw [hr]; decide, by rw [hr]; decide⟩ (dec_X12_tested (136, .invokevirtual 195, 3) (List.mem_of_getElem? (i := 72) rfl)),
    List.forall_mem_nil _⟩⟩⟩⟩⟩⟩⟩⟩⟩⟩⟩⟩⟩), gEok h0 _, hT _⟩) dec_X12_tested chk_X12_tested_10_54
    (fun m' _ => (by
    intro q hq
    have hq : q = _ := List.mem_singleton.mp hq
    subst hq
    intro i hi
    have hi : i ∈ [1, 50] := hi
    simp only [List.mem_cons, List.not_mem_nil, or_false] at hi
    rcases hi with rfl | rfl
    · exact fun H hH h => gGI_map (c := (cb, cn, ck, cm, m')) (c' := (cb, cn, ck, cm, (m' + 1))) (i := 1) (j := 1) (by decide) (by decide) (fun _ _ h => h) h
    · exact fun H hH h => gGI_map (c := (cb, cn, ck, cm, m')) (c' := (cb, cn, ck, cm, (m' + 1))) (i := 53) (j := 50) (by decide) (by decide) (fun _ _ h => h) h))
    (by
    intro q hq
    have hq : q = _ := List.mem_singleton.mp hq
    subst hq
    intro i hi
    have hi : i ∈ [1, 50] := hi
    simp only [List.mem_cons, List.not_mem_nil, or_false] at hi
    rcases hi with rfl | rfl
    · exact fun H hH h => gGI_map (c := (cb, cn, ck, cm, (cm))) (c' := (cb, cn, ck, cm, (cm))) (i := 1) (j := 1) (by decide) (by decide) (fun _ _ h => h) h
    · exact fun H hH h => gGI_map (c := (cb, cn, ck, cm, (cm))) (c' := (cb, cn, ck, cm, (cm))) (i := 30) (j := 50) (by decide) (by decide) (fun _ _ h => h) h)
    (fun m H hH h => by
    obtain ⟨a, ha, -, h⟩ := gGI_get (i := 50) (by decide) h
    obtain ⟨-, -, h1, h2, h3, h4, -⟩ := h
    have h4 : (m : Int) ≤ _ := h4
    omega)
  exact k_cvmG (GI := gGI g (cb, cn, ck, cm, cm)) (GI' := gGI g (cb, cn, ck, cm, cd)) (K := K_X12_tested_10_54) (K' := K_X12_tested_10_54) (hM) rfl rfl rfl
    (fun H hH h => List.forall_mem_cons.mpr ⟨gGI_map (c := (cb, cn, ck, cm, cd)) (c' := (cb, cn, ck, cm, cm)) (i := 1) (j := 1) (by decide) (by decide) (fun _ _ h => h) (h 1 (List.mem_of_getElem? (i := 0) rfl)), List.forall_mem_cons.mpr ⟨gGI_map (c := (cb, cn, ck, cm, cd)) (c' := (cb, cn, ck, cm, cm)) (i := 10) (j := 10) (by decide) (by decide) (fun _ _ h => h) (h 10 (List.mem_of_getElem? (i := 1) rfl)), List.forall_mem_nil _⟩⟩)
    (fun H hH h => List.forall_mem_nil _)
    (List.forall_mem_cons.mpr ⟨⟨_, List.mem_of_getElem? (i := 0) rfl, rfl, rfl, fun H hH h => List.forall_mem_cons.mpr ⟨Or.inr ⟨by decide, gGI_map (c := (cb, cn, ck, cm, cm)) (c' := (cb, cn, ck, cm, cd)) (i := 1) (j := 1) (by decide) (by decide) (fun _ _ h => h) (h (1001, 0, .inl (0, 1)) (List.mem_of_getElem? (i := 0) rfl) (by decide))⟩, List.forall_mem_nil _⟩⟩, List.forall_mem_cons.mpr ⟨⟨_, List.mem_of_getElem? (i := 1) rfl, rfl, rfl, fun H hH h => List.forall_mem_cons.mpr ⟨Or.inr ⟨by decide, gGI_map (c := (cb, cn, ck, cm, cm)) (c' := (cb, cn, ck, cm, cd)) (i := 1) (j := 1) (by decide) (by decide) (fun _ _ h => h) (h (1001, 0, .inl (0, 1)) (List.mem_of_getElem? (i := 0) rfl) (by decide))⟩, List.forall_mem_cons.mpr ⟨Or.inr ⟨by decide, gGI_map (c := (cb, cn, ck, cm, cm)) (c' := (cb, cn, ck, cm, cd)) (i := 54) (j := 54) (by decide) (by decide) (fun _ _ h => h) (h (1054, 0, .inl (0, 1)) (List.mem_of_getElem? (i := 1) rfl) (by decide))⟩, List.forall_mem_nil _⟩⟩⟩, List.forall_mem_nil _⟩⟩)
end
