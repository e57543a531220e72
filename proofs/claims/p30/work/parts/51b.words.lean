/-! ===== otherWordFrom, wordFrom ===== -/
section
variable {l : Launch} {g : va_G} {tys : List (ClassId × FieldType)} {B0 : Nat} {c : gGh} {τ : kTau}
theorem s_arg3 {GI : kGI} {H : Heap} {K : kCtr} {ps : List Value} (hK : K.1 = [.inr (.inr (.inl (false, [1]))), kA, kA]) (hp : k_pre (gE g tys B0 GI) τ H K ps) : ∃ (a : Nat) (x y : Int32), ps = [.ref a, .int x, .int y] ∧ τ a = some 1 := by
  obtain ⟨p1, p2, -⟩ := hp
  rw [hK] at p1 p2
  match ps, p1 with
  | [w0, w1, w2], _ =>
    obtain ⟨u0, z0, o0⟩ := p2 0 _ rfl
    obtain ⟨u1, z1, x, o1, -⟩ := p2 1 _ rfl
    obtain ⟨u2, z2, y, o2, -⟩ := p2 2 _ rfl
    obtain ⟨a, r0, ha⟩ := k_refOk o0
    have y0 : w0 = .ref a := by simpa [r0] using z0
    have y1 : w1 = .int x := by simpa [o1] using z1
    have y2 : w2 = .int y := by simpa [o2] using z2
    subst y0; subst y1; subst y2
    exact ⟨a, x, y, rfl, ha⟩
theorem s_preO {H : Heap} {a : Nat} {x y : Int32} (ha : τ a = some 1) : k_pre (gE g tys B0 (gGI g c)) τ H K_X7_otherWordFrom [.ref a, .int x, .int y] := by
  refine ⟨rfl, fun i z hz => ?_, trivial, fun _ h => (by cases h)⟩
  match i, hz with
  | 0, hz => cases hz; exact ⟨_, rfl, Or.inr ⟨a, 1, rfl, List.mem_singleton.mpr rfl, ha⟩⟩
  | 1, hz => cases hz; exact ⟨_, rfl, _, rfl, k_in_top _⟩
  | 2, hz => cases hz; exact ⟨_, rfl, _, rfl, k_in_top _⟩
  | n + 3, hz => cases hz
theorem s_preI {H : Heap} {a b : Nat} {x y : Int32} (ha : τ a = some 1) : k_pre (gE g tys B0 (gGI g c)) τ H K_X7_is [.ref a, .int x, .int y, .ref b] := by
  refine ⟨rfl, fun i z hz => ?_, trivial, fun _ h => (by cases h)⟩
  match i, hz with
  | 0, hz => cases hz; exact ⟨_, rfl, Or.inr ⟨a, 1, rfl, List.mem_singleton.mpr rfl, ha⟩⟩
  | 1, hz => cases hz; exact ⟨_, rfl, _, rfl, k_in_top _⟩
  | 2, hz => cases hz; exact ⟨_, rfl, _, rfl, k_in_top _⟩
  | 3, hz => cases hz; exact ⟨_, rfl, rfl⟩
  | n + 4, hz => cases hz
theorem C_X7_otherWordFrom (h0 : gE1 g) (hu : gUU τ) (hT : k_tys (gE g tys B0 (gGI g c))) : k_Met l (gE g tys B0 (gGI g c)) τ gTB yX7_otherWordFrom cX7_otherWordFrom 3 1 K_X7_otherWordFrom ⟨8, 0, 0, 200⟩ := by
  refine x_met (I := I_X7_otherWordFrom) (FL := gFL7) (CI := gCI7) (CJ := gCJ7) (by decide +kernel) dec_X7_otherWordFrom (fun X hts => ⟨gFLk7 hts, gCIk7 hts, gCJk7 hts⟩) (gEok0 h0) hT (fun _ => by show 3 ≤ 3; decide) ?_
  intro X ps hl hr hts hC hH hpre
  obtain ⟨a, x, y, rfl, ha⟩ := s_arg3 rfl hpre
  have hF := xF hC
  have hK : kK g gCl tys B0 X.2.2.2.2.1 := xKK hC
  subst hl
  have post : ∀ (H : Heap) (w : Int32), k_HT (gE g tys B0 (gGI g c)) τ H → k_fr (gE g tys B0 (gGI g c)) τ [] X.2.2.2.2.1.heap H → k_post (gE g tys B0 (gGI g c)) τ X.2.2.2.2.1.heap H K_X7_otherWordFrom [.ref a, .int x, .int y] (some (.int w)) := fun H w hH hf => ⟨hH, hf, fun _ h => (by cases h), _, List.mem_cons_self, ⟨_, rfl, _, rfl, k_in_top _⟩, fun _ h => (by cases h), fun _ h => (by cases h)⟩
  have hf0 : k_fr (gE g tys B0 (gGI g c)) τ [] X.2.2.2.2.1.heap X.2.2.2.2.1.heap := k_fr_refl
  refine x_lda hC rfl rfl rfl ?_
  refine x_ldi hC rfl rfl rfl ?_
  refine x_ldi hC rfl rfl rfl ?_
  refine x_ldcS hC rfl (hK.2.2.1 11 (by decide)) ?_
  refine x_callZ (E2 := (gE g tys B0 (gGI g c))) (K2 := K_X7_is) (as := [.ref a, .int x, .int y, .ref (g.2 100 11)]) (rest := []) (s_callV (cc := cX7_otherWordFrom) (C := RX7) hF hK hts gGood (C_X7_is (l := X.2.1) (i := 11) h0 hu hT (by decide)) wk_X7_is.1 wk_X7_is.2.1 wl_RX7_59 wk_X7_is.2.2.1 wk_X7_is.2.2.2 rfl rfl rfl rfl rfl wd_X7_is ⟨by rw [hr]; decide, by rw [hr]; decide⟩ (dec_X7_otherWordFrom (5, .invokevirtual 59, 3) (List.mem_of_getElem? (i := 4) rfl))) ⟨a, x, y, rfl, ha⟩ rfl hH (s_preI ha) rfl (by decide) (fun H1 w1 hp1 => ?_)
  obtain ⟨hH1, hg1, v1, rfl, -⟩ := s_post1 hp1
  have hf1 := k_fr_trans hf0 hg1 (fun _ h => h)
  refine x_if (t := 15) hC rfl (by decide) (fun _ => ?_) (fun _ => ?_)
  rotate_left
  · refine x_cst hC rfl rfl ?_
    exact x_iret hC rfl (post H1 _ hH1 hf1)
  refine x_lda hC rfl rfl rfl ?_
  refine x_ldi hC rfl rfl rfl ?_
  refine x_ldi hC rfl rfl rfl ?_
  refine x_ldcS hC rfl (hK.2.2.1 12 (by decide)) ?_
  refine x_callZ (E2 := (gE g tys B0 (gGI g c))) (K2 := K_X7_is) (as := [.ref a, .int x, .int y, .ref (g.2 100 12)]) (rest := []) (s_callV (cc := cX7_otherWordFrom) (C := RX7) hF hK hts gGood (C_X7_is (l := X.2.1) (i := 12) h0 hu hT (by decide)) wk_X7_is.1 wk_X7_is.2.1 wl_RX7_59 wk_X7_is.2.2.1 wk_X7_is.2.2.2 rfl rfl rfl rfl rfl wd_X7_is ⟨by rw [hr]; decide, by rw [hr]; decide⟩ (dec_X7_otherWordFrom (20, .invokevirtual 59, 3) (List.mem_of_getElem? (i := 12) rfl))) ⟨a, x, y, rfl, ha⟩ rfl hH1 (s_preI ha) rfl (by decide) (fun H2 w2 hp2 => ?_)
  obtain ⟨hH2, hg2, v2, rfl, -⟩ := s_post1 hp2
  have hf2 := k_fr_trans hf1 hg2 (fun _ h => h)
  refine x_if (t := 30) hC rfl (by decide) (fun _ => ?_) (fun _ => ?_)
  rotate_left
  · refine x_cst hC rfl rfl ?_
    exact x_iret hC rfl (post H2 _ hH2 hf2)
  refine x_lda hC rfl rfl rfl ?_
  refine x_ldi hC rfl rfl rfl ?_
  refine x_ldi hC rfl rfl rfl ?_
  refine x_ldcS hC rfl (hK.2.2.1 13 (by decide)) ?_
  refine x_callZ (E2 := (gE g tys B0 (gGI g c))) (K2 := K_X7_is) (as := [.ref a, .int x, .int y, .ref (g.2 100 13)]) (rest := []) (s_callV (cc := cX7_otherWordFrom) (C := RX7) hF hK hts gGood (C_X7_is (l := X.2.1) (i := 13) h0 hu hT (by decide)) wk_X7_is.1 wk_X7_is.2.1 wl_RX7_59 wk_X7_is.2.2.1 wk_X7_is.2.2.2 rfl rfl rfl rfl rfl wd_X7_is ⟨by rw [hr]; decide, by rw [hr]; decide⟩ (dec_X7_otherWordFrom (35, .invokevirtual 59, 3) (List.mem_of_getElem? (i := 20) rfl))) ⟨a, x, y, rfl, ha⟩ rfl hH2 (s_preI ha) rfl (by decide) (fun H3 w3 hp3 => ?_)
  obtain ⟨hH3, hg3, v3, rfl, -⟩ := s_post1 hp3
  have hf3 := k_fr_trans hf2 hg3 (fun _ h => h)
  refine x_if (t := 45) hC rfl (by decide) (fun _ => ?_) (fun _ => ?_)
  rotate_left
  · refine x_cst hC rfl rfl ?_
    exact x_iret hC rfl (post H3 _ hH3 hf3)
  refine x_lda hC rfl rfl rfl ?_
  refine x_ldi hC rfl rfl rfl ?_
  refine x_ldi hC rfl rfl rfl ?_
  refine x_ldcS hC rfl (hK.2.2.1 14 (by decide)) ?_
  refine x_callZ (E2 := (gE g tys B0 (gGI g c))) (K2 := K_X7_is) (as := [.ref a, .int x, .int y, .ref (g.2 100 14)]) (rest := []) (s_callV (cc := cX7_otherWordFrom) (C := RX7) hF hK hts gGood (C_X7_is (l := X.2.1) (i := 14) h0 hu hT (by decide)) wk_X7_is.1 wk_X7_is.2.1 wl_RX7_59 wk_X7_is.2.2.1 wk_X7_is.2.2.2 rfl rfl rfl rfl rfl wd_X7_is ⟨by rw [hr]; decide, by rw [hr]; decide⟩ (dec_X7_otherWordFrom (50, .invokevirtual 59, 3) (List.mem_of_getElem? (i := 28) rfl))) ⟨a, x, y, rfl, ha⟩ rfl hH3 (s_preI ha) rfl (by decide) (fun H4 w4 hp4 => ?_)
  obtain ⟨hH4, hg4, v4, rfl, -⟩ := s_post1 hp4
  have hf4 := k_fr_trans hf3 hg4 (fun _ h => h)
  refine x_if (t := 60) hC rfl (by decide) (fun _ => ?_) (fun _ => ?_)
  rotate_left
  · refine x_cst hC rfl rfl ?_
    exact x_iret hC rfl (post H4 _ hH4 hf4)
  refine x_lda hC rfl rfl rfl ?_
  refine x_ldi hC rfl rfl rfl ?_
  refine x_ldi hC rfl rfl rfl ?_
  refine x_ldcS hC rfl (hK.2.2.1 15 (by decide)) ?_
  refine x_callZ (E2 := (gE g tys B0 (gGI g c))) (K2 := K_X7_is) (as := [.ref a, .int x, .int y, .ref (g.2 100 15)]) (rest := []) (s_callV (cc := cX7_otherWordFrom) (C := RX7) hF hK hts gGood (C_X7_is (l := X.2.1) (i := 15) h0 hu hT (by decide)) wk_X7_is.1 wk_X7_is.2.1 wl_RX7_59 wk_X7_is.2.2.1 wk_X7_is.2.2.2 rfl rfl rfl rfl rfl wd_X7_is ⟨by rw [hr]; decide, by rw [hr]; decide⟩ (dec_X7_otherWordFrom (65, .invokevirtual 59, 3) (List.mem_of_getElem? (i := 36) rfl))) ⟨a, x, y, rfl, ha⟩ rfl hH4 (s_preI ha) rfl (by decide) (fun H5 w5 hp5 => ?_)
  obtain ⟨hH5, hg5, v5, rfl, -⟩ := s_post1 hp5
  have hf5 := k_fr_trans hf4 hg5 (fun _ h => h)
  refine x_if (t := 75) hC rfl (by decide) (fun _ => ?_) (fun _ => ?_)
  rotate_left
  · refine x_cst hC rfl rfl ?_
    exact x_iret hC rfl (post H5 _ hH5 hf5)
  refine x_lda hC rfl rfl rfl ?_
  refine x_ldi hC rfl rfl rfl ?_
  refine x_ldi hC rfl rfl rfl ?_
  refine x_ldcS hC rfl (hK.2.2.1 16 (by decide)) ?_
  refine x_callZ (E2 := (gE g tys B0 (gGI g c))) (K2 := K_X7_is) (as := [.ref a, .int x, .int y, .ref (g.2 100 16)]) (rest := []) (s_callV (cc := cX7_otherWordFrom) (C := RX7) hF hK hts gGood (C_X7_is (l := X.2.1) (i := 16) h0 hu hT (by decide)) wk_X7_is.1 wk_X7_is.2.1 wl_RX7_59 wk_X7_is.2.2.1 wk_X7_is.2.2.2 rfl rfl rfl rfl rfl wd_X7_is ⟨by rw [hr]; decide, by rw [hr]; decide⟩ (dec_X7_otherWordFrom (80, .invokevirtual 59, 3) (List.mem_of_getElem? (i := 44) rfl))) ⟨a, x, y, rfl, ha⟩ rfl hH5 (s_preI ha) rfl (by decide) (fun H6 w6 hp6 => ?_)
  obtain ⟨hH6, hg6, v6, rfl, -⟩ := s_post1 hp6
  have hf6 := k_fr_trans hf5 hg6 (fun _ h => h)
  refine x_if (t := 90) hC rfl (by decide) (fun _ => ?_) (fun _ => ?_)
  rotate_left
  · refine x_cst hC rfl rfl ?_
    exact x_iret hC rfl (post H6 _ hH6 hf6)
  refine x_lda hC rfl rfl rfl ?_
  refine x_ldi hC rfl rfl rfl ?_
  refine x_ldi hC rfl rfl rfl ?_
  refine x_ldcS hC rfl (hK.2.2.1 17 (by decide)) ?_
  refine x_callZ (E2 := (gE g tys B0 (gGI g c))) (K2 := K_X7_is) (as := [.ref a, .int x, .int y, .ref (g.2 100 17)]) (rest := []) (s_callV (cc := cX7_otherWordFrom) (C := RX7) hF hK hts gGood (C_X7_is (l := X.2.1) (i := 17) h0 hu hT (by decide)) wk_X7_is.1 wk_X7_is.2.1 wl_RX7_59 wk_X7_is.2.2.1 wk_X7_is.2.2.2 rfl rfl rfl rfl rfl wd_X7_is ⟨by rw [hr]; decide, by rw [hr]; decide⟩ (dec_X7_otherWordFrom (95, .invokevirtual 59, 3) (List.mem_of_getElem? (i := 52) rfl))) ⟨a, x, y, rfl, ha⟩ rfl hH6 (s_preI ha) rfl (by decide) (fun H7 w7 hp7 => ?_)
  obtain ⟨hH7, hg7, v7, rfl, -⟩ := s_post1 hp7
  have hf7 := k_fr_trans hf6 hg7 (fun _ h => h)
  refine x_if (t := 105) hC rfl (by decide) (fun _ => ?_) (fun _ => ?_)
  rotate_left
  · refine x_cst hC rfl rfl ?_
    exact x_iret hC rfl (post H7 _ hH7 hf7)
  refine x_lda hC rfl rfl rfl ?_
  refine x_ldi hC rfl rfl rfl ?_
  refine x_ldi hC rfl rfl rfl ?_
  refine x_ldcS hC rfl (hK.2.2.1 18 (by decide)) ?_
  refine x_callZ (E2 := (gE g tys B0 (gGI g c))) (K2 := K_X7_is) (as := [.ref a, .int x, .int y, .ref (g.2 100 18)]) (rest := []) (s_callV (cc := cX7_otherWordFrom) (C := RX7) hF hK hts gGood (C_X7_is (l := X.2.1) (i := 18) h0 hu hT (by decide)) wk_X7_is.1 wk_X7_is.2.1 wl_RX7_59 wk_X7_is.2.2.1 wk_X7_is.2.2.2 rfl rfl rfl rfl rfl wd_X7_is ⟨by rw [hr]; decide, by rw [hr]; decide⟩ (dec_X7_otherWordFrom (110, .invokevirtual 59, 3) (List.mem_of_getElem? (i := 60) rfl))) ⟨a, x, y, rfl, ha⟩ rfl hH7 (s_preI ha) rfl (by decide) (fun H8 w8 hp8 => ?_)
  obtain ⟨hH8, hg8, v8, rfl, -⟩ := s_post1 hp8
  have hf8 := k_fr_trans hf7 hg8 (fun _ h => h)
  refine x_if (t := 122) hC rfl (by decide) (fun _ => ?_) (fun _ => ?_)
  rotate_left
  · refine x_cst hC rfl rfl ?_
    refine x_goto (t := 125) hC rfl (by decide) ?_
    exact x_iret hC rfl (post H8 _ hH8 hf8)
  refine x_cst hC rfl rfl ?_
  exact x_iret hC rfl (post H8 _ hH8 hf8)
theorem C_X7_wordFrom (h0 : gE1 g) (hu : gUU τ) (hT : k_tys (gE g tys B0 (gGI g c))) : k_Met l (gE g tys B0 (gGI g c)) τ gTB yX7_wordFrom cX7_wordFrom 3 1 K_X7_wordFrom ⟨16, 0, 0, 600⟩ := by
  refine x_met (I := I_X7_wordFrom) (FL := gFL7) (CI := gCI7) (CJ := gCJ7) (by decide +kernel) dec_X7_wordFrom (fun X hts => ⟨gFLk7 hts, gCIk7 hts, gCJk7 hts⟩) (gEok0 h0) hT (fun _ => by show 3 ≤ 3; decide) ?_
  intro X ps hl hr hts hC hH hpre
  obtain ⟨a, x, y, rfl, ha⟩ := s_arg3 rfl hpre
  have hF := xF hC
  have hK : kK g gCl tys B0 X.2.2.2.2.1 := xKK hC
  subst hl
  have post : ∀ (H : Heap) (w : Int32), k_HT (gE g tys B0 (gGI g c)) τ H → k_fr (gE g tys B0 (gGI g c)) τ [] X.2.2.2.2.1.heap H → k_post (gE g tys B0 (gGI g c)) τ X.2.2.2.2.1.heap H K_X7_wordFrom [.ref a, .int x, .int y] (some (.int w)) := fun H w hH hf => ⟨hH, hf, fun _ h => (by cases h), _, List.mem_cons_self, ⟨_, rfl, _, rfl, k_in_top _⟩, fun _ h => (by cases h), fun _ h => (by cases h)⟩
  have hf0 : k_fr (gE g tys B0 (gGI g c)) τ [] X.2.2.2.2.1.heap X.2.2.2.2.1.heap := k_fr_refl
  refine x_lda hC rfl rfl rfl ?_
  refine x_ldi hC rfl rfl rfl ?_
  refine x_ldi hC rfl rfl rfl ?_
  refine x_ldcS hC rfl (hK.2.2.1 0 (by decide)) ?_
  refine x_callZ (E2 := (gE g tys B0 (gGI g c))) (K2 := K_X7_is) (as := [.ref a, .int x, .int y, .ref (g.2 100 0)]) (rest := []) (s_callV (cc := cX7_wordFrom) (C := RX7) hF hK hts gGood (C_X7_is (l := X.2.1) (i := 0) h0 hu hT (by decide)) wk_X7_is.1 wk_X7_is.2.1 wl_RX7_59 wk_X7_is.2.2.1 wk_X7_is.2.2.2 rfl rfl rfl rfl rfl wd_X7_is ⟨by rw [hr]; decide, by rw [hr]; decide⟩ (dec_X7_wordFrom (5, .invokevirtual 59, 3) (List.mem_of_getElem? (i := 4) rfl))) ⟨a, x, y, rfl, ha⟩ rfl hH (s_preI ha) rfl (by decide) (fun H1 w1 hp1 => ?_)
  obtain ⟨hH1, hg1, v1, rfl, -⟩ := s_post1 hp1
  have hf1 := k_fr_trans hf0 hg1 (fun _ h => h)
  refine x_if (t := 15) hC rfl (by decide) (fun _ => ?_) (fun _ => ?_)
  rotate_left
  · refine x_cst hC rfl rfl ?_
    exact x_iret hC rfl (post H1 _ hH1 hf1)
  refine x_lda hC rfl rfl rfl ?_
  refine x_ldi hC rfl rfl rfl ?_
  refine x_ldi hC rfl rfl rfl ?_
  refine x_ldcS hC rfl (hK.2.2.1 1 (by decide)) ?_
  refine x_callZ (E2 := (gE g tys B0 (gGI g c))) (K2 := K_X7_is) (as := [.ref a, .int x, .int y, .ref (g.2 100 1)]) (rest := []) (s_callV (cc := cX7_wordFrom) (C := RX7) hF hK hts gGood (C_X7_is (l := X.2.1) (i := 1) h0 hu hT (by decide)) wk_X7_is.1 wk_X7_is.2.1 wl_RX7_59 wk_X7_is.2.2.1 wk_X7_is.2.2.2 rfl rfl rfl rfl rfl wd_X7_is ⟨by rw [hr]; decide, by rw [hr]; decide⟩ (dec_X7_wordFrom (20, .invokevirtual 59, 3) (List.mem_of_getElem? (i := 12) rfl))) ⟨a, x, y, rfl, ha⟩ rfl hH1 (s_preI ha) rfl (by decide) (fun H2 w2 hp2 => ?_)
  obtain ⟨hH2, hg2, v2, rfl, -⟩ := s_post1 hp2
  have hf2 := k_fr_trans hf1 hg2 (fun _ h => h)
  refine x_if (t := 30) hC rfl (by decide) (fun _ => ?_) (fun _ => ?_)
  rotate_left
  · refine x_cst hC rfl rfl ?_
    exact x_iret hC rfl (post H2 _ hH2 hf2)
  refine x_lda hC rfl rfl rfl ?_
  refine x_ldi hC rfl rfl rfl ?_
  refine x_ldi hC rfl rfl rfl ?_
  refine x_ldcS hC rfl (hK.2.2.1 2 (by decide)) ?_
  refine x_callZ (E2 := (gE g tys B0 (gGI g c))) (K2 := K_X7_is) (as := [.ref a, .int x, .int y, .ref (g.2 100 2)]) (rest := []) (s_callV (cc := cX7_wordFrom) (C := RX7) hF hK hts gGood (C_X7_is (l := X.2.1) (i := 2) h0 hu hT (by decide)) wk_X7_is.1 wk_X7_is.2.1 wl_RX7_59 wk_X7_is.2.2.1 wk_X7_is.2.2.2 rfl rfl rfl rfl rfl wd_X7_is ⟨by rw [hr]; decide, by rw [hr]; decide⟩ (dec_X7_wordFrom (35, .invokevirtual 59, 3) (List.mem_of_getElem? (i := 20) rfl))) ⟨a, x, y, rfl, ha⟩ rfl hH2 (s_preI ha) rfl (by decide) (fun H3 w3 hp3 => ?_)
  obtain ⟨hH3, hg3, v3, rfl, -⟩ := s_post1 hp3
  have hf3 := k_fr_trans hf2 hg3 (fun _ h => h)
  refine x_if (t := 45) hC rfl (by decide) (fun _ => ?_) (fun _ => ?_)
  rotate_left
  · refine x_cst hC rfl rfl ?_
    exact x_iret hC rfl (post H3 _ hH3 hf3)
  refine x_lda hC rfl rfl rfl ?_
  refine x_ldi hC rfl rfl rfl ?_
  refine x_ldi hC rfl rfl rfl ?_
  refine x_ldcS hC rfl (hK.2.2.1 3 (by decide)) ?_
  refine x_callZ (E2 := (gE g tys B0 (gGI g c))) (K2 := K_X7_is) (as := [.ref a, .int x, .int y, .ref (g.2 100 3)]) (rest := []) (s_callV (cc := cX7_wordFrom) (C := RX7) hF hK hts gGood (C_X7_is (l := X.2.1) (i := 3) h0 hu hT (by decide)) wk_X7_is.1 wk_X7_is.2.1 wl_RX7_59 wk_X7_is.2.2.1 wk_X7_is.2.2.2 rfl rfl rfl rfl rfl wd_X7_is ⟨by rw [hr]; decide, by rw [hr]; decide⟩ (dec_X7_wordFrom (50, .invokevirtual 59, 3) (List.mem_of_getElem? (i := 28) rfl))) ⟨a, x, y, rfl, ha⟩ rfl hH3 (s_preI ha) rfl (by decide) (fun H4 w4 hp4 => ?_)
  obtain ⟨hH4, hg4, v4, rfl, -⟩ := s_post1 hp4
  have hf4 := k_fr_trans hf3 hg4 (fun _ h => h)
  refine x_if (t := 60) hC rfl (by decide) (fun _ => ?_) (fun _ => ?_)
  rotate_left
  · refine x_cst hC rfl rfl ?_
    exact x_iret hC rfl (post H4 _ hH4 hf4)
  refine x_lda hC rfl rfl rfl ?_
  refine x_ldi hC rfl rfl rfl ?_
  refine x_ldi hC rfl rfl rfl ?_
  refine x_ldcS hC rfl (hK.2.2.1 4 (by decide)) ?_
  refine x_callZ (E2 := (gE g tys B0 (gGI g c))) (K2 := K_X7_is) (as := [.ref a, .int x, .int y, .ref (g.2 100 4)]) (rest := []) (s_callV (cc := cX7_wordFrom) (C := RX7) hF hK hts gGood (C_X7_is (l := X.2.1) (i := 4) h0 hu hT (by decide)) wk_X7_is.1 wk_X7_is.2.1 wl_RX7_59 wk_X7_is.2.2.1 wk_X7_is.2.2.2 rfl rfl rfl rfl rfl wd_X7_is ⟨by rw [hr]; decide, by rw [hr]; decide⟩ (dec_X7_wordFrom (65, .invokevirtual 59, 3) (List.mem_of_getElem? (i := 36) rfl))) ⟨a, x, y, rfl, ha⟩ rfl hH4 (s_preI ha) rfl (by decide) (fun H5 w5 hp5 => ?_)
  obtain ⟨hH5, hg5, v5, rfl, -⟩ := s_post1 hp5
  have hf5 := k_fr_trans hf4 hg5 (fun _ h => h)
  refine x_if (t := 75) hC rfl (by decide) (fun _ => ?_) (fun _ => ?_)
  rotate_left
  · refine x_cst hC rfl rfl ?_
    exact x_iret hC rfl (post H5 _ hH5 hf5)
  refine x_lda hC rfl rfl rfl ?_
  refine x_ldi hC rfl rfl rfl ?_
  refine x_ldi hC rfl rfl rfl ?_
  refine x_ldcS hC rfl (hK.2.2.1 5 (by decide)) ?_
  refine x_callZ (E2 := (gE g tys B0 (gGI g c))) (K2 := K_X7_is) (as := [.ref a, .int x, .int y, .ref (g.2 100 5)]) (rest := []) (s_callV (cc := cX7_wordFrom) (C := RX7) hF hK hts gGood (C_X7_is (l := X.2.1) (i := 5) h0 hu hT (by decide)) wk_X7_is.1 wk_X7_is.2.1 wl_RX7_59 wk_X7_is.2.2.1 wk_X7_is.2.2.2 rfl rfl rfl rfl rfl wd_X7_is ⟨by rw [hr]; decide, by rw [hr]; decide⟩ (dec_X7_wordFrom (80, .invokevirtual 59, 3) (List.mem_of_getElem? (i := 44) rfl))) ⟨a, x, y, rfl, ha⟩ rfl hH5 (s_preI ha) rfl (by decide) (fun H6 w6 hp6 => ?_)
  obtain ⟨hH6, hg6, v6, rfl, -⟩ := s_post1 hp6
  have hf6 := k_fr_trans hf5 hg6 (fun _ h => h)
  refine x_if (t := 90) hC rfl (by decide) (fun _ => ?_) (fun _ => ?_)
  rotate_left
  · refine x_cst hC rfl rfl ?_
    exact x_iret hC rfl (post H6 _ hH6 hf6)
  refine x_lda hC rfl rfl rfl ?_
  refine x_ldi hC rfl rfl rfl ?_
  refine x_ldi hC rfl rfl rfl ?_
  refine x_ldcS hC rfl (hK.2.2.1 6 (by decide)) ?_
  refine x_callZ (E2 := (gE g tys B0 (gGI g c))) (K2 := K_X7_is) (as := [.ref a, .int x, .int y, .ref (g.2 100 6)]) (rest := []) (s_callV (cc := cX7_wordFrom) (C := RX7) hF hK hts gGood (C_X7_is (l := X.2.1) (i := 6) h0 hu hT (by decide)) wk_X7_is.1 wk_X7_is.2.1 wl_RX7_59 wk_X7_is.2.2.1 wk_X7_is.2.2.2 rfl rfl rfl rfl rfl wd_X7_is ⟨by rw [hr]; decide, by rw [hr]; decide⟩ (dec_X7_wordFrom (95, .invokevirtual 59, 3) (List.mem_of_getElem? (i := 52) rfl))) ⟨a, x, y, rfl, ha⟩ rfl hH6 (s_preI ha) rfl (by decide) (fun H7 w7 hp7 => ?_)
  obtain ⟨hH7, hg7, v7, rfl, -⟩ := s_post1 hp7
  have hf7 := k_fr_trans hf6 hg7 (fun _ h => h)
  refine x_if (t := 105) hC rfl (by decide) (fun _ => ?_) (fun _ => ?_)
  rotate_left
  · refine x_cst hC rfl rfl ?_
    exact x_iret hC rfl (post H7 _ hH7 hf7)
  refine x_lda hC rfl rfl rfl ?_
  refine x_ldi hC rfl rfl rfl ?_
  refine x_ldi hC rfl rfl rfl ?_
  refine x_ldcS hC rfl (hK.2.2.1 7 (by decide)) ?_
  refine x_callZ (E2 := (gE g tys B0 (gGI g c))) (K2 := K_X7_is) (as := [.ref a, .int x, .int y, .ref (g.2 100 7)]) (rest := []) (s_callV (cc := cX7_wordFrom) (C := RX7) hF hK hts gGood (C_X7_is (l := X.2.1) (i := 7) h0 hu hT (by decide)) wk_X7_is.1 wk_X7_is.2.1 wl_RX7_59 wk_X7_is.2.2.1 wk_X7_is.2.2.2 rfl rfl rfl rfl rfl wd_X7_is ⟨by rw [hr]; decide, by rw [hr]; decide⟩ (dec_X7_wordFrom (110, .invokevirtual 59, 3) (List.mem_of_getElem? (i := 60) rfl))) ⟨a, x, y, rfl, ha⟩ rfl hH7 (s_preI ha) rfl (by decide) (fun H8 w8 hp8 => ?_)
  obtain ⟨hH8, hg8, v8, rfl, -⟩ := s_post1 hp8
  have hf8 := k_fr_trans hf7 hg8 (fun _ h => h)
  refine x_if (t := 120) hC rfl (by decide) (fun _ => ?_) (fun _ => ?_)
  rotate_left
  · refine x_cst hC rfl rfl ?_
    exact x_iret hC rfl (post H8 _ hH8 hf8)
  refine x_lda hC rfl rfl rfl ?_
  refine x_ldi hC rfl rfl rfl ?_
  refine x_ldi hC rfl rfl rfl ?_
  refine x_ldcS hC rfl (hK.2.2.1 8 (by decide)) ?_
  refine x_callZ (E2 := (gE g tys B0 (gGI g c))) (K2 := K_X7_is) (as := [.ref a, .int x, .int y, .ref (g.2 100 8)]) (rest := []) (s_callV (cc := cX7_wordFrom) (C := RX7) hF hK hts gGood (C_X7_is (l := X.2.1) (i := 8) h0 hu hT (by decide)) wk_X7_is.1 wk_X7_is.2.1 wl_RX7_59 wk_X7_is.2.2.1 wk_X7_is.2.2.2 rfl rfl rfl rfl rfl wd_X7_is ⟨by rw [hr]; decide, by rw [hr]; decide⟩ (dec_X7_wordFrom (125, .invokevirtual 59, 3) (List.mem_of_getElem? (i := 68) rfl))) ⟨a, x, y, rfl, ha⟩ rfl hH8 (s_preI ha) rfl (by decide) (fun H9 w9 hp9 => ?_)
  obtain ⟨hH9, hg9, v9, rfl, -⟩ := s_post1 hp9
  have hf9 := k_fr_trans hf8 hg9 (fun _ h => h)
  refine x_if (t := 135) hC rfl (by decide) (fun _ => ?_) (fun _ => ?_)
  rotate_left
  · refine x_cst hC rfl rfl ?_
    exact x_iret hC rfl (post H9 _ hH9 hf9)
  refine x_lda hC rfl rfl rfl ?_
  refine x_ldi hC rfl rfl rfl ?_
  refine x_ldi hC rfl rfl rfl ?_
  refine x_ldcS hC rfl (hK.2.2.1 9 (by decide)) ?_
  refine x_callZ (E2 := (gE g tys B0 (gGI g c))) (K2 := K_X7_is) (as := [.ref a, .int x, .int y, .ref (g.2 100 9)]) (rest := []) (s_callV (cc := cX7_wordFrom) (C := RX7) hF hK hts gGood (C_X7_is (l := X.2.1) (i := 9) h0 hu hT (by decide)) wk_X7_is.1 wk_X7_is.2.1 wl_RX7_59 wk_X7_is.2.2.1 wk_X7_is.2.2.2 rfl rfl rfl rfl rfl wd_X7_is ⟨by rw [hr]; decide, by rw [hr]; decide⟩ (dec_X7_wordFrom (140, .invokevirtual 59, 3) (List.mem_of_getElem? (i := 76) rfl))) ⟨a, x, y, rfl, ha⟩ rfl hH9 (s_preI ha) rfl (by decide) (fun H10 w10 hp10 => ?_)
  obtain ⟨hH10, hg10, v10, rfl, -⟩ := s_post1 hp10
  have hf10 := k_fr_trans hf9 hg10 (fun _ h => h)
  refine x_if (t := 150) hC rfl (by decide) (fun _ => ?_) (fun _ => ?_)
  rotate_left
  · refine x_cst hC rfl rfl ?_
    exact x_iret hC rfl (post H10 _ hH10 hf10)
  refine x_lda hC rfl rfl rfl ?_
  refine x_ldi hC rfl rfl rfl ?_
  refine x_ldi hC rfl rfl rfl ?_
  refine x_ldcS hC rfl (hK.2.2.1 10 (by decide)) ?_
  refine x_callZ (E2 := (gE g tys B0 (gGI g c))) (K2 := K_X7_is) (as := [.ref a, .int x, .int y, .ref (g.2 100 10)]) (rest := []) (s_callV (cc := cX7_wordFrom) (C := RX7) hF hK hts gGood (C_X7_is (l := X.2.1) (i := 10) h0 hu hT (by decide)) wk_X7_is.1 wk_X7_is.2.1 wl_RX7_59 wk_X7_is.2.2.1 wk_X7_is.2.2.2 rfl rfl rfl rfl rfl wd_X7_is ⟨by rw [hr]; decide, by rw [hr]; decide⟩ (dec_X7_wordFrom (155, .invokevirtual 59, 3) (List.mem_of_getElem? (i := 84) rfl))) ⟨a, x, y, rfl, ha⟩ rfl hH10 (s_preI ha) rfl (by decide) (fun H11 w11 hp11 => ?_)
  obtain ⟨hH11, hg11, v11, rfl, -⟩ := s_post1 hp11
  have hf11 := k_fr_trans hf10 hg11 (fun _ h => h)
  refine x_if (t := 167) hC rfl (by decide) (fun _ => ?_) (fun _ => ?_)
  rotate_left
  · refine x_cst hC rfl rfl ?_
    refine x_goto (t := 173) hC rfl (by decide) ?_
    exact x_iret hC rfl (post H11 _ hH11 hf11)
  refine x_lda hC rfl rfl rfl ?_
  refine x_ldi hC rfl rfl rfl ?_
  refine x_ldi hC rfl rfl rfl ?_
  refine x_call (E2 := (gE g tys B0 (gGI g c))) (K2 := K_X7_otherWordFrom) (as := [.ref a, .int x, .int y]) (rest := []) (k_callV (cc := cX7_wordFrom) (C := RX7) hF hK hts gGood (C_X7_otherWordFrom (l := X.2.1) h0 hu hT) wk_X7_otherWordFrom.1 wk_X7_otherWordFrom.2.1 wl_RX7_83 wk_X7_otherWordFrom.2.2.1 wk_X7_otherWordFrom.2.2.2 rfl rfl rfl rfl rfl wd_X7_otherWordFrom ⟨by rw [hr]; decide, by rw [hr]; decide⟩ (dec_X7_wordFrom (170, .invokevirtual 83, 3) (List.mem_of_getElem? (i := 91) rfl))) rfl hH11 (s_preO ha) rfl (by decide) (fun H99 w99 hp99 => ?_)
  obtain ⟨hH99, hg99, v99, rfl, -⟩ := s_post1 hp99
  exact x_iret hC rfl (post H99 _ hH99 (k_fr_trans hf11 hg99 (fun _ h => h)))
end
