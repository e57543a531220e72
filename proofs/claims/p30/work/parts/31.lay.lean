/-! ===== layDown: signs that wait are put ===== -/
theorem bP_congr {b : gB} {n k m : Nat} {I I' : Nat → Int} {A A' : Nat → Nat → Int} (h : bP b n k m I A) (e11 : I' 11 = I 11) (e12 : I' 12 = I 12) (a3 : A' 3 = A 3) (a4 : A' 4 = A 4) (a5 : A' 5 = A 5) (a6 : A' 6 = A 6) : bP b n k m I' A' := by
  unfold bP at h ⊢
  rw [e11, e12, a3, a4, a5, a6]
  exact h
def lst (w : Int) : Int := if w = 13 then 1 else if w = 12 then 2 else if w = 11 then 3 else 0
theorem lay_not {b : gB} {n m : Nat} {I I1 I2 I3 : Nat → Int} {A A1 A2 A3 : Nat → Nat → Int} (h : bF1 b n m I A) (h1 : 1 ≤ I 16) (hw : A 15 (I 16 - 1).toNat = 11) (u1 : upI 16 I I1 A A1) (x1 : I1 16 = I 16 - 1) (hp : pPost I1 A1 11 I2 A2) (u3 : upI 13 I2 I3 A2 A3) (x3 : I3 13 = I2 13 - 1) : bF1 b n m I3 A3 := by
  obtain ⟨⟨o1, o2, o3, o4, o5⟩, h⟩ := h
  have hN : (I 16).toNat = (I 16 - 1).toNat + 1 := by omega
  have hdp : isDP (A 15 (I 16 - 1).toNat) = true := by unfold isDP; exact decide_eq_true (Or.inl hw)
  have hao : isAO (A 15 (I 16 - 1).toNat) = false := by unfold isAO; exact decide_eq_false (by omega)
  have c1 : cq isDP (A 15) (I 16).toNat = cq isDP (A 15) (I 16 - 1).toNat + 1 := by rw [hN, cq, if_pos hdp]
  have c2 : cq isAO (A 15) (I 16).toNat = cq isAO (A 15) (I 16 - 1).toNat := by rw [hN, cq, if_neg (by rw [hao]; decide), Nat.add_zero]
  obtain ⟨v1, v2⟩ := u1
  have g1 : bP b (n + bAO I A + 1) ((3 * (I 16 - 1).toNat + 9) + 3) m I1 A1 := by
    have := bP_congr h (v1 11 (by decide) (by decide)) (v1 12 (by decide) (by decide)) (v2 (3, 33) (by decide)) (v2 (4, 34) (by decide)) (v2 (5, 35) (by decide)) (v2 (6, 36) (by decide))
    rw [hN] at this
    exact this
  have hs : hst 11 (n + bAO I A + 1) = some (n + bAO I A + 1) := by
    unfold hst
    rw [if_neg (by decide), if_neg (by decide), if_pos (by decide), if_pos (by omega)]
  have g2 := p_puts g1 hp hs g1.2.2.2.2.2.1
  obtain ⟨w1, w2, w3, w4⟩ := hp
  obtain ⟨r1, r2⟩ := u3
  have a15 : A3 15 = A 15 := by rw [r2 (15, 38) (by decide), w2 (15, 38) (by decide) (by decide) (by decide), v2 (15, 38) (by decide)]
  have e16 : I3 16 = I 16 - 1 := by rw [r1 16 (by decide) (by decide), w1 16 (by decide), x1]
  have e13 : I3 13 = I 13 - 1 := by rw [x3, w1 13 (by decide), v1 13 (by decide) (by decide)]
  have g3 := bP_congr g2 (r1 11 (by decide) (by decide)) (r1 12 (by decide) (by decide)) (r2 (3, 33) (by decide)) (r2 (4, 34) (by decide)) (r2 (5, 35) (by decide)) (r2 (6, 36) (by decide))
  refine ⟨?_, ?_⟩
  · rw [a15, e16, e13]
    exact ⟨by omega, by omega, fun j hj => o3 j (by omega), by omega, by omega⟩
  · unfold bAO at g3 ⊢
    rw [a15, e16, ← c2]
    exact g3
theorem lay_ao {b : gB} {n m : Nat} {I I1 I2 : Nat → Int} {A A1 A2 : Nat → Nat → Int} {w : Int} (h : bF1 b n m I A) (h1 : 1 ≤ I 16) (hw : A 15 (I 16 - 1).toNat = w) (hw2 : w = 12 ∨ w = 13) (u1 : upI 16 I I1 A A1) (x1 : I1 16 = I 16 - 1) (hp : pPost I1 A1 w I2 A2) : bF1 b n m I2 A2 := by
  obtain ⟨⟨o1, o2, o3, o4, o5⟩, h⟩ := h
  have hN : (I 16).toNat = (I 16 - 1).toNat + 1 := by omega
  have hdp : isDP (A 15 (I 16 - 1).toNat) = false := by unfold isDP; exact decide_eq_false (by omega)
  have hao : isAO (A 15 (I 16 - 1).toNat) = true := by unfold isAO; exact decide_eq_true (by omega)
  have c1 : cq isDP (A 15) (I 16).toNat = cq isDP (A 15) (I 16 - 1).toNat := by rw [hN, cq, if_neg (by rw [hdp]; decide), Nat.add_zero]
  have c2 : cq isAO (A 15) (I 16).toNat = cq isAO (A 15) (I 16 - 1).toNat + 1 := by rw [hN, cq, if_pos hao]
  obtain ⟨v1, v2⟩ := u1
  have g1 : bP b (n + bAO I A + 1) ((3 * (I 16 - 1).toNat + 9) + 3) m I1 A1 := by
    have := bP_congr h (v1 11 (by decide) (by decide)) (v1 12 (by decide) (by decide)) (v2 (3, 33) (by decide)) (v2 (4, 34) (by decide)) (v2 (5, 35) (by decide)) (v2 (6, 36) (by decide))
    rw [hN] at this
    exact this
  have hb : bAO I A = cq isAO (A 15) (I 16 - 1).toNat + 1 := c2
  have hs : hst (w + 16 * 0) (n + bAO I A + 1) = some (n + bAO I A + 1 - 1) := p_op (by omega) rfl (by omega)
  have hs : hst w (n + bAO I A + 1) = some (n + bAO I A) := by
    have e : w + 16 * 0 = w := by omega
    rw [e] at hs
    exact hs
  have hle := g1.2.2.2.2.2.1
  have g2 := p_puts g1 hp hs (by omega)
  obtain ⟨w1, w2, w3, w4⟩ := hp
  have a15 : A2 15 = A 15 := by rw [w2 (15, 38) (by decide) (by decide) (by decide), v2 (15, 38) (by decide)]
  have e16 : I2 16 = I 16 - 1 := by rw [w1 16 (by decide), x1]
  have e13 : I2 13 = I 13 := by rw [w1 13 (by decide), v1 13 (by decide) (by decide)]
  refine ⟨?_, ?_⟩
  · rw [a15, e16, e13]
    exact ⟨by omega, by omega, fun j hj => o3 j (by omega), by omega, by omega⟩
  · rw [hb] at g2
    unfold bAO
    rw [a15, e16]
    exact g2
section
variable {l : Launch} {g : va_G} {tys : List (ClassId × FieldType)} {B0 : Nat} {τ : kTau}
theorem bF1_congr {b : gB} {n m : Nat} {I I' : Nat → Int} {A A' : Nat → Nat → Int} (h : bF1 b n m I A) (u1 : ∀ j, j < 43 → I' j = I j) (u2 : ∀ q ∈ gAT, A' q.1 = A q.1) : bF1 b n m I' A' := by
  have e11 := u1 11 (by decide)
  have e12 := u1 12 (by decide)
  have e13 := u1 13 (by decide)
  have e16 := u1 16 (by decide)
  have a3 : A' 3 = A 3 := u2 (3, 33) (by decide)
  have a4 : A' 4 = A 4 := u2 (4, 34) (by decide)
  have a5 : A' 5 = A 5 := u2 (5, 35) (by decide)
  have a6 : A' 6 = A 6 := u2 (6, 36) (by decide)
  have a15 : A' 15 = A 15 := u2 (15, 38) (by decide)
  unfold bF1 bAO bP at h ⊢
  rw [e11, e12, e13, e16, a3, a4, a5, a6, a15]
  exact h
/-- nothing of what has a kind has changed -/
theorem vw_same (h0 : gE1 g) {GI : kGI} {H H' : Heap} {a : Nat} (hH : k_HT (gE g tys B0 GI) τ H) (hf : k_fr (gE g tys B0 GI) τ [] H H') (ha : τ a = some 11) : (∀ j, j < 43 → vI g H' a j = vI g H a j) ∧ ∀ q ∈ gAT, vA g H' a q.1 = vA g H a q.1 :=
  ⟨fun j hj => vI_kept hf ha hj List.not_mem_nil, fun q hq => vA_kept h0 hH hf ha hq List.not_mem_nil List.not_mem_nil⟩
abbrev layM : List (Nat × Nat) := [(11, 13), (11, 16), (33, 0), (34, 0)]
/-- one sign is put; behind it the loop's head -/
theorem lay_body (h0 : gE1 g) (hu : gU τ) (hT : ∀ GI, k_tys (gE g tys B0 GI)) {c : gGh} {K : kCtr} {X : kX} {a : Nat} {xl : Int32} (hC : xC X (gE g tys B0 (gGI g c)) 2 τ cX12_layDown yX12_layDown.cls I_X12_layDown gFL12 gCI12 gCJ12 K 0 [.ref a, .int xl]) (hts : ∀ w ∈ gTB, w.before X.2.2.2.2.2.2.1 X.2.2.2.2.1 = true) (hr : X.2.2.2.1 = ⟨1, 0, 0, 30⟩) {b : gB} {n m : Nat} (ha : τ a = some 11) {H : Heap} (hH : k_HT (gE g tys B0 (gGI g c)) τ H) (hF1 : bF1 b n m (vI g H a) (vA g H a)) (h1 : 1 ≤ vI g H a 16) {w : Int} (hw : vA g H a 15 (vI g H a 16 - 1).toNat = w) (hw3 : w = 11 ∨ w = 12 ∨ w = 13)
    (kk : ∀ H', k_HT (gE g tys B0 (gGI g c)) τ H' → k_fr (gE g tys B0 (gGI g c)) τ layM H H' → bF1 b n m (vI g H' a) (vA g H' a) → vI g H' a 16 = vI g H a 16 - 1 → vA g H' a 15 = vA g H a 15 → kx X (gE g tys B0 (gGI g c)) H' 0 2 [(0, .ref a), (1, .int xl)] []) : kx X (gE g tys B0 (gGI g c)) H 25 2 [(0, .ref a), (1, .int xl)] [] := by
  have hF := xF hC
  have hK : kK g gCl tys B0 X.2.2.2.2.1 := xKK hC
  obtain ⟨xo, fo, eo, n1, n2⟩ := vI_in h0 hH ha (k := 16) rfl
  have n2 : xo.toInt ≤ 400 := n2
  rw [eo] at h1
  have hx1 : (k_binV .isub xo (Int32.ofInt 1)).toInt = xo.toInt - 1 := i_sub (by rw [i_of (by decide) (by decide)]) (by omega) (by omega)
  refine x_lda hC rfl rfl rfl ?_
  refine x_dup hC rfl rfl ?_
  refine x_get hC rfl rfl hH ha gM_at rfl (by decide) fo ?_
  refine x_cst hC rfl rfl ?_
  refine x_bin hC rfl rfl ?_
  refine x_put hC rfl rfl hH ha gM_at rfl (k := 16) rfl ⟨_, rfl, by rw [hx1]; show (0 : Int) ≤ _; omega, by rw [hx1]; show _ ≤ (400 : Int); omega⟩ (fun H1 hH1 fr1 w1 o1 => ?_)
  have w1 : (H1[a]?).bind (fun c => c.slots[g.2 12 16]?) = some (.int (k_binV .isub xo (Int32.ofInt 1))) := w1
  have e16 : vI g H1 a 16 = xo.toInt - 1 := by unfold vI; rw [w1]; exact hx1
  have u1 : upI 16 (vI g H a) (vI g H1 a) (vA g H a) (vA g H1 a) := ⟨fun j hj hjk => vI_kept fr1 ha hj (by simp only [List.mem_singleton, Prod.mk.injEq, not_and]; exact fun _ => hjk), fun q hq => vA_kept h0 hH fr1 ha hq (by
    have hz : ∀ w ∈ gAT, w.1 ≠ 16 := by decide
    simp only [List.mem_singleton, Prod.mk.injEq, not_and]
    exact fun _ => hz q hq) (by
    have hz : ∀ w ∈ gAT, w.2 ≠ 11 := by decide
    simp only [List.mem_singleton, Prod.mk.injEq, not_and]
    exact fun z => absurd z (hz q hq))⟩
  obtain ⟨b5, fb, tb5, eb⟩ := vR_in h0 hH1 ha (k := 15) (t := 38) rfl
  obtain ⟨cA, ty, mm, f, q1, q2, q3, q4, q5⟩ := k_arr hH1 tb5 (show gTT[38]? = some (.inr _) from rfl)
  have q3 : 400 ≤ mm := q3
  obtain ⟨y, hy, -⟩ := q5 (xo.toInt - 1).toNat (by omega)
  have hvy := vE_at q2 (by omega) hy
  have a15 : vA g H1 a 15 = vA g H a 15 := u1.2 (15, 38) (by decide)
  have hyw : y.toInt = w := by rw [← hvy, ← eb, a15, ← hw, eo]
  have hb1 : 0 ≤ vI g H1 a 11 ∧ vI g H1 a 11 ≤ 5 ∧ vA g H1 a 4 (vI g H1 a 11).toNat ≤ 399 := by
    have r11 := u1.1 11 (by decide) (by decide)
    have r4 : vA g H1 a 4 = vA g H a 4 := u1.2 (4, 34) (by decide)
    rw [r11, r4]
    obtain ⟨-, -, b1, b2, b3, b4, b5, b6, b7, b8⟩ := hF1
    exact ⟨b1, b2, by omega⟩
  refine x_lda hC rfl rfl rfl ?_
  refine x_lda hC rfl rfl rfl ?_
  refine x_get hC rfl rfl hH1 ha gM_at rfl (by decide) fb ?_
  refine x_lda hC rfl rfl rfl ?_
  refine x_get hC rfl rfl hH1 ha gM_at rfl (by decide) w1 ?_
  refine x_ald (v := .int y) hC rfl (ai := 0) rfl q1 q2 (by rw [hx1]; omega) (by rw [hx1]; exact hy) ?_
  refine x_cst hC rfl rfl ?_
  refine x_call (E2 := gE g tys B0 (exGI g a (pPre (vI g H1 a) (vA g H1 a)) (pPost (vI g H1 a) (vA g H1 a) (w + 16 * 0)))) (K2 := K_pex w 0) (as := [.ref a, .int y, .int (Int32.ofInt 0)]) (rest := []) (k_callV (cc := cX12_layDown) (C := RX12) hF hK hts gGood (X_puts h0 hT a (vI g H1 a) (vA g H1 a) w 0 (by omega) (by omega) hb1.2.1 hb1.2.2) wk_X12_puts.1 wk_X12_puts.2.1 wl_RX12_163 wk_X12_puts.2.2.1 wk_X12_puts.2.2.2 rfl rfl rfl rfl rfl wd_X12_puts ⟨by rw [hr]; decide, by rw [hr]; decide⟩ (dec_X12_layDown (46, .invokevirtual 163, 3) (List.mem_of_getElem? (i := 26) rfl))) rfl hH1 ⟨rfl, ?_, trivial, ?_⟩ rfl (by decide) (fun H2 v hp => ?_)
  · intro i x hx
    match i, hx with
    | 0, hx => cases hx; exact ⟨.ref a, rfl, Or.inr ⟨a, 11, rfl, List.mem_singleton.mpr rfl, ha⟩⟩
    | 1, hx => cases hx; exact ⟨.int y, rfl, y, rfl, by rw [hyw]; exact Int.le_refl _, by rw [hyw]; exact Int.le_refl _⟩
    | 2, hx => cases hx; exact ⟨_, rfl, _, rfl, by decide, by decide⟩
    | n + 3, hx => cases hx
  · intro i hi
    have hi : i = 0 := List.mem_singleton.mp hi
    subst hi
    exact ⟨gU_of hu ha, fun _ => ⟨fun _ _ => rfl, fun _ _ => rfl⟩, (fun z => by cases z)⟩
  obtain ⟨hH2, fr2, hg2, A, hA', s4, -⟩ := hp
  have hA' := List.mem_singleton.mp hA'
  subst hA'
  have s4 : v = none := s4
  subst s4
  have hH2 : k_HT (gE g tys B0 (gGI g c)) τ H2 := k_HT_g hH2
  have fr2 : k_fr (gE g tys B0 (gGI g c)) τ [(33, 0), (34, 0)] H1 H2 := k_fr_g fr2
  obtain ⟨-, -, hpo⟩ := hg2 1 List.mem_cons_self
  have hpo : pPost (vI g H1 a) (vA g H1 a) (w + 16 * 0) (vI g H2 a) (vA g H2 a) := hpo rfl
  rw [show w + 16 * 0 = w by omega] at hpo
  have frA : k_fr (gE g tys B0 (gGI g c)) τ layM H H2 := k_fr_trans (k_frU fr1 (by decide +kernel)) fr2 (by decide +kernel)
  have e16' : vI g H2 a 16 = vI g H a 16 - 1 := by rw [hpo.1 16 (by decide), e16, eo]
  have a15' : vA g H2 a 15 = vA g H a 15 := by rw [hpo.2.1 (15, 38) (by decide) (by decide) (by decide), a15]
  obtain ⟨b6, fb6, tb6, eb6⟩ := vR_in h0 hH2 ha (k := 15) (t := 38) rfl
  obtain ⟨cA', ty', mm', f', r1, r2, r3, r4, r5⟩ := k_arr hH2 tb6 (show gTT[38]? = some (.inr _) from rfl)
  have r3 : 400 ≤ mm' := r3
  obtain ⟨xo2, fo2, eo2, m1, m2⟩ := vI_in h0 hH2 ha (k := 16) rfl
  have hxo2 : xo2.toInt = xo.toInt - 1 := by rw [← eo2, e16', eo]
  obtain ⟨y2, hy2, -⟩ := r5 xo2.toInt.toNat (by omega)
  have hvy2 := vE_at r2 (by omega) hy2
  have hyw2 : y2.toInt = w := by rw [← hvy2, ← eb6, a15', hxo2, ← hw, eo]
  have e11 : (Int32.ofInt 11).toInt = 11 := i_of (by decide) (by decide)
  refine x_lda hC rfl rfl rfl ?_
  refine x_get hC rfl rfl hH2 ha gM_at rfl (by decide) fb6 ?_
  refine x_lda hC rfl rfl rfl ?_
  refine x_get hC rfl rfl hH2 ha gM_at rfl (by decide) fo2 ?_
  refine x_ald hC rfl (ai := 0) rfl r1 r2 ⟨by omega, by omega⟩ hy2 ?_
  refine x_cst hC rfl rfl ?_
  refine x_icmp (t := 0) hC rfl (by decide) (fun z => ?_) (fun z => ?_)
  · have z : ¬ y2.toInt = (Int32.ofInt 11).toInt := z
    rw [e11, hyw2] at z
    exact kk H2 hH2 frA (lay_ao hF1 (by rw [eo]; exact h1) hw (by omega) u1 (by rw [e16, eo]) hpo) e16' a15'
  · have z : ¬ ¬ y2.toInt = (Int32.ofInt 11).toInt := z
    rw [e11, hyw2] at z
    have z : w = 11 := by omega
    subst z
    obtain ⟨xd, fd, ed, d1, d2⟩ := vI_in h0 hH2 ha (k := 13) rfl
    have d1 : 0 ≤ xd.toInt := d1
    have d2 : xd.toInt ≤ 10 := d2
    have hd1 : 1 ≤ xd.toInt := by
      have k1 := hF1.1.2.2.2.1
      have k2 : vI g H2 a 13 = vI g H a 13 := by rw [hpo.1 13 (by decide), u1.1 13 (by decide) (by decide)]
      rw [← ed, k2, k1]
      have hN : (vI g H a 16).toNat = (vI g H a 16 - 1).toNat + 1 := by rw [eo]; omega
      have hdp : isDP (vA g H a 15 (vI g H a 16 - 1).toNat) = true := by unfold isDP; exact decide_eq_true (Or.inl hw)
      rw [hN, cq, if_pos hdp]
      omega
    have hx3 : (k_binV .isub xd (Int32.ofInt 1)).toInt = xd.toInt - 1 := i_sub (by rw [i_of (by decide) (by decide)]) (by omega) (by omega)
    refine x_lda hC rfl rfl rfl ?_
    refine x_dup hC rfl rfl ?_
    refine x_get hC rfl rfl hH2 ha gM_at rfl (by decide) fd ?_
    refine x_cst hC rfl rfl ?_
    refine x_bin hC rfl rfl ?_
    refine x_put hC rfl rfl hH2 ha gM_at rfl (k := 13) rfl ⟨_, rfl, by rw [hx3]; show (0 : Int) ≤ _; omega, by rw [hx3]; show _ ≤ (10 : Int); omega⟩ (fun H3 hH3 fr3 w3 o3 => ?_)
    have w3 : (H3[a]?).bind (fun c => c.slots[g.2 12 13]?) = some (.int (k_binV .isub xd (Int32.ofInt 1))) := w3
    have e13 : vI g H3 a 13 = vI g H2 a 13 - 1 := by rw [ed]; unfold vI; rw [w3]; exact hx3
    have u3 : upI 13 (vI g H2 a) (vI g H3 a) (vA g H2 a) (vA g H3 a) := ⟨fun j hj hjk => vI_kept fr3 ha hj (by simp only [List.mem_singleton, Prod.mk.injEq, not_and]; exact fun _ => hjk), fun q hq => vA_kept h0 hH2 fr3 ha hq (by
      have hz : ∀ w ∈ gAT, w.1 ≠ 13 := by decide
      simp only [List.mem_singleton, Prod.mk.injEq, not_and]
      exact fun _ => hz q hq) (by
      have hz : ∀ w ∈ gAT, w.2 ≠ 11 := by decide
      simp only [List.mem_singleton, Prod.mk.injEq, not_and]
      exact fun z => absurd z (hz q hq))⟩
    refine x_goto (t := 0) hC rfl (by decide) ?_
    refine kk H3 hH3 (k_fr_trans frA fr3 (by decide +kernel)) (lay_not hF1 (by rw [eo]; exact h1) hw u1 (by rw [e16, eo]) hpo u3 e13) ?_ ?_
    · rw [u3.1 16 (by decide) (by decide), e16']
    · rw [show vA g H3 a 15 = vA g H2 a 15 from u3.2 (15, 38) (by decide), a15']
theorem lay_str (h0 : gE1 g) (hu : gU τ) (hT : ∀ GI, k_tys (gE g tys B0 GI)) (c : gGh) {y : Int} (hw : y = 11 ∨ y = 12 ∨ y = 13 ∨ y = 91) : ∃ rm : Room, rm = ⟨0, 0, 0, 0⟩ ∧ k_Met l (gE g tys B0 (gGI g c)) τ gTB yX12_strength cX12_strength 1 1 ([.inl (y, y)], [], [(some (.inl (lst y, lst y)), [], [])], [], [], []) rm := by
  rcases hw with rfl | rfl | rfl | rfl
  · exact ⟨_, rfl, C_X12_strength_11 h0 hu hT c⟩
  · exact ⟨_, rfl, C_X12_strength_12 h0 hu hT c⟩
  · exact ⟨_, rfl, C_X12_strength_13 h0 hu hT c⟩
  · exact ⟨_, rfl, C_X12_strength_91 h0 hu hT c⟩
theorem lay_loop (h0 : gE1 g) (hu : gU τ) (hT : ∀ GI, k_tys (gE g tys B0 GI)) {c : gGh} {K : kCtr} {X : kX} {a : Nat} {xl : Int32} (hC : xC X (gE g tys B0 (gGI g c)) 2 τ cX12_layDown yX12_layDown.cls I_X12_layDown gFL12 gCI12 gCJ12 K 0 [.ref a, .int xl]) (hts : ∀ w ∈ gTB, w.before X.2.2.2.2.2.2.1 X.2.2.2.2.1 = true) (hr : X.2.2.2.1 = ⟨1, 0, 0, 30⟩) {b : gB} {n m : Nat} (hxl : 1 ≤ xl.toInt) (ha : τ a = some 11) {o0 : Int} {A15 : Nat → Int}
    (kk : ∀ H, k_HT (gE g tys B0 (gGI g c)) τ H → k_fr (gE g tys B0 (gGI g c)) τ layM X.2.2.2.2.1.heap H → bF1 b n m (vI g H a) (vA g H a) → vI g H a 16 ≤ o0 → vA g H a 15 = A15 → (∀ j : Nat, vI g H a 16 ≤ (j : Int) → (j : Int) < o0 → A15 j ≠ 91) → (vI g H a 16 = 0 ∨ lst (A15 (vI g H a 16 - 1).toNat) < xl.toInt) → k_post (gE g tys B0 (gGI g c)) τ X.2.2.2.2.1.heap H K [.ref a, .int xl] none) :
    ∀ (N : Nat) (H : Heap), k_HT (gE g tys B0 (gGI g c)) τ H → k_fr (gE g tys B0 (gGI g c)) τ layM X.2.2.2.2.1.heap H → bF1 b n m (vI g H a) (vA g H a) → vI g H a 16 ≤ o0 → vA g H a 15 = A15 → (∀ j : Nat, vI g H a 16 ≤ (j : Int) → (j : Int) < o0 → A15 j ≠ 91) → (vI g H a 16).toNat < N → kx X (gE g tys B0 (gGI g c)) H 0 2 [(0, .ref a), (1, .int xl)] [] := by
  intro N
  induction N with
  | zero => intro H _ _ _ _ _ _ h; omega
  | succ N ih =>
    intro H hH hf hF1 ho hA hq hN
    have hk := kk H hH hf hF1 ho hA hq
    obtain ⟨b5, fb, tb5, eb⟩ := vR_in h0 hH ha (k := 15) (t := 38) rfl
    obtain ⟨cA, ty, mm, f, q1, q2, q3, q4, q5⟩ := k_arr hH tb5 (show gTT[38]? = some (.inr _) from rfl)
    have q3 : 400 ≤ mm := q3
    obtain ⟨xo, fo, eo, n1, n2⟩ := vI_in h0 hH ha (k := 16) rfl
    have n1 : 0 ≤ xo.toInt := n1
    have n2 : xo.toInt ≤ 400 := n2
    refine x_lda hC rfl rfl rfl ?_
    refine x_get hC rfl rfl hH ha gM_at rfl (by decide) fo ?_
    refine x_if (t := 76) hC rfl (by decide) (fun z => ?_) (fun z => ?_)
    · have z : xo.toInt ≤ 0 := z
      exact x_vret hC rfl (hk (Or.inl (by rw [eo]; omega)))
    have z : ¬ xo.toInt ≤ 0 := z
    have hx1 : (k_binV .isub xo (Int32.ofInt 1)).toInt = xo.toInt - 1 := i_sub (by rw [i_of (by decide) (by decide)]) (by omega) (by omega)
    obtain ⟨y, hy, -⟩ := q5 (xo.toInt - 1).toNat (by omega)
    have hvy := vE_at q2 (by omega) hy
    have hy15 : A15 (vI g H a 16 - 1).toNat = y.toInt := by rw [← hA, eb, eo]; exact hvy
    refine x_lda hC rfl rfl rfl ?_
    refine x_get hC rfl rfl hH ha gM_at rfl (by decide) fb ?_
    refine x_lda hC rfl rfl rfl ?_
    refine x_get hC rfl rfl hH ha gM_at rfl (by decide) fo ?_
    refine x_cst hC rfl rfl ?_
    refine x_bin hC rfl rfl ?_
    refine x_ald (v := .int y) hC rfl (ai := 0) rfl q1 q2 (by rw [hx1]; omega) (by rw [hx1]; exact hy) ?_
    have hw : y.toInt = 11 ∨ y.toInt = 12 ∨ y.toInt = 13 ∨ y.toInt = 91 := by
      have := hF1.1.2.2.1 (xo.toInt - 1).toNat (by rw [eo]; omega)
      rw [eb, hvy] at this
      exact this
    have hF := xF hC
    have hK : kK g gCl tys B0 X.2.2.2.2.1 := xKK hC
    obtain ⟨rm, hrm, hM⟩ := lay_str (l := X.2.1) h0 hu hT c hw
    subst hrm
    refine x_call (E2 := gE g tys B0 (gGI g c)) (K2 := ([.inl (y.toInt, y.toInt)], [], [(some (.inl (lst y.toInt, lst y.toInt)), [], [])], [], [], [])) (as := [.int y]) (rest := []) (k_callS (cc := cX12_layDown) hF hK hts gGood hM wk_X12_strength.1 wk_X12_strength.2.1 wl_RX12_159 wk_X12_strength.2.2 rfl rfl wd_X12_strength ⟨by rw [hr]; decide, by rw [hr]; decide⟩ (dec_X12_layDown (18, .invokestatic 159, 3) (List.mem_of_getElem? (i := 10) rfl))) rfl hH ⟨rfl, ?_, trivial, fun _ h => (by cases h)⟩ rfl (by decide) (fun H' v hp => ?_)
    · intro i x hx
      match i, hx with
      | 0, hx => cases hx; exact ⟨_, rfl, y, rfl, Int.le_refl _, Int.le_refl _⟩
      | n + 1, hx => cases hx
    obtain ⟨hH', fr', -, A, hA', s4, -⟩ := hp
    have hA' := List.mem_singleton.mp hA'
    subst hA'
    obtain ⟨w, rfl, x, rfl, x1, x2⟩ := s4
    have hx : x.toInt = lst y.toInt := Int.le_antisymm x2 x1
    obtain ⟨s1, s2⟩ := vw_same h0 hH fr' ha
    have e16 := s1 16 (by decide)
    have a15 : vA g H' a 15 = vA g H a 15 := s2 (15, 38) (by decide)
    have hF1' := bF1_congr hF1 s1 s2
    have hf' : k_fr (gE g tys B0 (gGI g c)) τ layM X.2.2.2.2.1.heap H' := k_fr_trans hf fr' (fun _ h => by cases h)
    refine x_ldi hC rfl rfl rfl ?_
    refine x_icmp (t := 76) hC rfl (by decide) (fun z2 => ?_) (fun z2 => ?_)
    · have z2 : x.toInt < xl.toInt := z2
      refine x_vret hC rfl (kk H' hH' hf' hF1' (by rw [e16]; exact ho) (by rw [a15]; exact hA) (by rw [e16]; exact hq) (Or.inr ?_))
      rw [e16, hy15, ← hx]
      exact z2
    · have z2 : ¬ x.toInt < xl.toInt := z2
      rw [hx] at z2
      have hw3 : y.toInt = 11 ∨ y.toInt = 12 ∨ y.toInt = 13 := by
        rcases hw with h | h | h | h
        · exact Or.inl h
        · exact Or.inr (Or.inl h)
        · exact Or.inr (Or.inr h)
        · rw [h] at z2
          exact absurd (show lst 91 < xl.toInt from (by show (0 : Int) < _; omega)) z2
      refine lay_body h0 hu hT hC hts hr ha hH' hF1' (by rw [e16, eo]; omega) (w := y.toInt) (by rw [a15, e16, hA]; exact hy15) hw3 (fun H3 hH3 fr3 hF3 e3 a3 => ?_)
      refine ih H3 hH3 (k_fr_trans hf' fr3 (fun _ h => h)) hF3 (by rw [e3, e16]; omega) (by rw [a3, a15]; exact hA) ?_ (by rw [e3, e16]; rw [eo] at hN ⊢; omega)
      intro j hj1 hj2
      rw [e3, e16] at hj1
      by_cases hj : vI g H a 16 ≤ (j : Int)
      · exact hq j hj hj2
      · have : j = (vI g H a 16 - 1).toNat := by rw [eo] at hj hj1 ⊢; omega
        rw [this, hy15]
        omega
theorem lay_arg {GI : kGI} {H : Heap} {K : kCtr} {ps : List Value} {lo hi : Int} (hK : K.1 = [.inr (.inr (.inl (false, [11]))), .inl (lo, hi)]) (hp : k_pre (gE g tys B0 GI) τ H K ps) : ∃ a xl, ps = [.ref a, .int xl] ∧ τ a = some 11 ∧ lo ≤ xl.toInt ∧ xl.toInt ≤ hi := by
  obtain ⟨p1, p2, -⟩ := hp
  rw [hK] at p1 p2
  match ps, p1 with
  | [w0, w1], _ =>
    obtain ⟨u0, z0, o0⟩ := p2 0 _ rfl
    obtain ⟨u1, z1, xs, o1, b1⟩ := p2 1 _ rfl
    obtain ⟨a, r0, ha⟩ := k_refOk o0
    have y0 : w0 = .ref a := by simpa [r0] using z0
    have y1 : w1 = .int xs := by simpa [o1] using z1
    subst y0; subst y1
    exact ⟨a, xs, rfl, ha, b1.1, b1.2⟩
theorem lay_met (h0 : gE1 g) (hu : gU τ) (hT : ∀ GI, k_tys (gE g tys B0 GI)) {c : gGh} {K : kCtr} {lo hi : Int} (hK : K.1 = [.inr (.inr (.inl (false, [11]))), .inl (lo, hi)] ∧ K.2.2.2.1 = layM) (hlo : 1 ≤ lo) {b : gB} {n m gp : Nat} (hgp : gp ∈ K.2.2.2.2.1) (hg : ∀ I A, iv c I A gp → bF1 b n m I A)
    (kk : ∀ (a : Nat) (xl : Int32) (H0 H : Heap), τ a = some 11 → lo ≤ xl.toInt → xl.toInt ≤ hi → (∀ i ∈ K.2.2.2.2.1, gGI g c i τ H0) → k_HT (gE g tys B0 (gGI g c)) τ H → bF1 b n m (vI g H a) (vA g H a) → vI g H a 16 ≤ vI g H0 a 16 → vA g H a 15 = vA g H0 a 15 → (∀ j : Nat, vI g H a 16 ≤ (j : Int) → (j : Int) < vI g H0 a 16 → vA g H0 a 15 j ≠ 91) → (vI g H a 16 = 0 ∨ lst (vA g H0 a 15 (vI g H a 16 - 1).toNat) < xl.toInt) → (∀ i ∈ K.2.2.2.2.2, gGI g c i τ H) ∧ ∃ A ∈ K.2.2.1, k_alt (gE g tys B0 (gGI g c)) τ H [.ref a, .int xl] none A) : k_Met l (gE g tys B0 (gGI g c)) τ gTB yX12_layDown cX12_layDown 2 0 K ⟨1, 0, 0, 30⟩ := by
  refine x_met (I := I_X12_layDown) (FL := gFL12) (CI := gCI12) (CJ := gCJ12) (by decide +kernel) dec_X12_layDown (fun X hts => ⟨gFLk12 hts, gCIk12 hts, gCJk12 hts⟩) (gEok0 h0) (hT _) (fun _ => by rw [hK.1]; show 2 ≤ 2; decide) ?_
  intro X ps hl hr hts hC hH hpre
  obtain ⟨a, xl, rfl, ha, l1, l2⟩ := lay_arg hK.1 hpre
  have hF1 := hg _ _ ((hpre.2.2.2 gp hgp).2.2 a ha).2
  obtain ⟨xo, fo, eo, n1, n2⟩ := vI_in h0 hH ha (k := 16) rfl
  refine lay_loop h0 hu hT hC hts hr (by omega) ha (o0 := vI g X.2.2.2.2.1.heap a 16) (A15 := vA g X.2.2.2.2.1.heap a 15) (fun H hH' hf hF1' h16 h15 hq hx => ?_) _ _ hH k_fr_refl hF1 (Int.le_refl _) rfl (fun j h1 h2 => absurd h2 (by omega)) (Nat.lt_succ_self _)
  obtain ⟨k1, k2⟩ := kk a xl _ H ha l1 l2 hpre.2.2.2 hH' hF1' h16 h15 hq hx
  exact ⟨hH', by rw [hK.2]; exact hf, k1, k2⟩
theorem lay_le {b : gB} {n m : Nat} {I : Nat → Int} {A : Nat → Nat → Int} (h : bF1 b n m I A) : I 16 ≤ 317 := by
  obtain ⟨⟨o1, o2, -⟩, -, b1, b2, b3, b4, b5, b6, b7, b8⟩ := h
  obtain ⟨e, b6, -⟩ := b6
  omega
theorem lay_alt0 {GI : kGI} {H : Heap} {a : Nat} {xl : Int32} : ∃ A ∈ ([(none, [], [])] : List kAlt), k_alt (gE g tys B0 GI) τ H [.ref a, .int xl] none A := ⟨_, List.mem_cons_self, rfl, fun _ h => (by cases h), fun _ h => (by cases h)⟩
theorem C_X12_layDown_3 (h0 : gE1 g) (hu : gU τ) (hT : ∀ GI, k_tys (gE g tys B0 GI)) (c : gGh) : k_Met l (gE g tys B0 (gGI g c)) τ gTB yX12_layDown cX12_layDown 2 0 K_X12_layDown_3 ⟨1, 0, 0, 30⟩ := by
  refine lay_met h0 hu hT ⟨rfl, rfl⟩ (by decide) (b := c.1) (n := c.2.1) (m := c.2.2.2.1 + 1) (gp := 31) (by decide) (fun _ _ h => h) (fun a xl H0 H ha l1 l2 hg hH h1 h2 h3 h4 h5 => ⟨?_, lay_alt0⟩)
  have h42 : vI g H0 a 16 + (c.2.2.2.2 : Int) ≤ 400 := ((hg 42 (by decide)).2.2 a ha).2
  exact List.forall_mem_cons.mpr ⟨gGI_put (i := 1) (by decide) ha (gU_of hu ha) h1.2.1, List.forall_mem_cons.mpr ⟨gGI_put (i := 31) (by decide) ha (gU_of hu ha) h1, List.forall_mem_cons.mpr ⟨gGI_put (i := 42) (by decide) ha (gU_of hu ha) (show vI g H a 16 + (c.2.2.2.2 : Int) ≤ 400 by omega), List.forall_mem_nil _⟩⟩⟩
theorem C_X12_layDown_3b (h0 : gE1 g) (hu : gU τ) (hT : ∀ GI, k_tys (gE g tys B0 GI)) (c : gGh) : k_Met l (gE g tys B0 (gGI g c)) τ gTB yX12_layDown cX12_layDown 2 0 K_X12_layDown_3b ⟨1, 0, 0, 30⟩ := by
  refine lay_met h0 hu hT ⟨rfl, rfl⟩ (by decide) (b := c.1) (n := c.2.1) (m := c.2.2.2.1 + 1) (gp := 31) (by decide) (fun _ _ h => h) (fun a xl H0 H ha l1 l2 hg hH h1 h2 h3 h4 h5 => ⟨?_, lay_alt0⟩)
  have h42 : vI g H0 a 16 + (c.2.2.2.2 : Int) + 1 ≤ 400 := ((hg 43 (by decide)).2.2 a ha).2
  exact List.forall_mem_cons.mpr ⟨gGI_put (i := 1) (by decide) ha (gU_of hu ha) h1.2.1, List.forall_mem_cons.mpr ⟨gGI_put (i := 31) (by decide) ha (gU_of hu ha) h1, List.forall_mem_cons.mpr ⟨gGI_put (i := 43) (by decide) ha (gU_of hu ha) (show vI g H a 16 + (c.2.2.2.2 : Int) + 1 ≤ 400 by omega), List.forall_mem_nil _⟩⟩⟩
theorem lay_fo (h0 : gE1 g) {GI : kGI} {H : Heap} {a k : Nat} {q : kB} {lo hi : Int} (hH : k_HT (gE g tys B0 GI) τ H) (ha : τ a = some 11) (hk : gMF[k]? = some (.inl q)) (h1 : lo ≤ vI g H a k) (h2 : vI g H a k ≤ hi) : k_fo (gE g tys B0 GI) τ H (.ref a) k (.inl (lo, hi)) := by
  obtain ⟨x, fx, ex, -, -⟩ := vI_in h0 hH ha hk
  rw [ex] at h1 h2
  exact ⟨a, 11, (12, gMF), .int x, rfl, ha, gM_at, (List.getElem?_eq_some_iff.mp hk).1, fx, x, rfl, h1, h2⟩
theorem C_X12_layDown_51 (h0 : gE1 g) (hu : gU τ) (hT : ∀ GI, k_tys (gE g tys B0 GI)) (c : gGh) : k_Met l (gE g tys B0 (gGI g c)) τ gTB yX12_layDown cX12_layDown 2 0 K_X12_layDown_51 ⟨1, 0, 0, 30⟩ := by
  refine lay_met h0 hu hT ⟨rfl, rfl⟩ (by decide) (b := c.1) (n := c.2.1) (m := c.2.2.2.2 + 1) (gp := 51) (by decide) (fun _ _ h => h) (fun a xl H0 H ha l1 l2 hg hH h1 h2 h3 h4 h5 => ⟨?_, ?_⟩)
  · exact List.forall_mem_cons.mpr ⟨gGI_put (i := 1) (by decide) ha (gU_of hu ha) h1.2.1, List.forall_mem_cons.mpr ⟨gGI_put (i := 51) (by decide) ha (gU_of hu ha) h1, List.forall_mem_nil _⟩⟩
  · have hle := lay_le h1
    exact ⟨_, List.mem_cons_self, rfl, fun _ h => (by cases h), List.forall_mem_cons.mpr ⟨⟨fun _ => ⟨_, rfl, lay_fo h0 hH ha (k := 16) rfl h1.1.1 (by omega)⟩, fun z => absurd z (by decide)⟩, List.forall_mem_nil _⟩⟩
theorem C_X12_layDown_end (h0 : gE1 g) (hu : gU τ) (hT : ∀ GI, k_tys (gE g tys B0 GI)) (c : gGh) : k_Met l (gE g tys B0 (gGI g c)) τ gTB yX12_layDown cX12_layDown 2 0 K_X12_layDown_end ⟨1, 0, 0, 30⟩ := by
  refine lay_met h0 hu hT ⟨rfl, rfl⟩ (by decide) (b := c.1) (n := c.2.1) (m := c.2.2.2.2 + 1) (gp := 51) (by decide) (fun _ _ h => h) (fun a xl H0 H ha l1 l2 hg hH h1 h2 h3 h4 h5 => ⟨?_, lay_alt0⟩)
  have h35 : ∀ j : Nat, (j : Int) < vI g H0 a 16 → vA g H0 a 15 j ≠ 91 := ((hg 35 (by decide)).2.2 a ha).2
  have hz : vI g H a 16 = 0 := by
    rcases h5 with h5 | h5
    · exact h5
    · by_cases z : vI g H a 16 = 0
      · exact z
      · have o1 := h1.1.1
        have ho := h1.1.2.2.1 (vI g H a 16 - 1).toNat (by omega)
        rw [h3] at ho
        have := h35 (vI g H a 16 - 1).toNat (by omega)
        unfold lst at h5
        split at h5
        · omega
        · split at h5
          · omega
          · split at h5
            · omega
            · omega
  have h9 : bP c.1 (c.2.1 + 1) 0 0 (vI g H a) (vA g H a) := by
    have h := h1.2
    unfold bAO at h
    rw [hz] at h
    exact bP_mono h (Nat.zero_le _) (Nat.zero_le _)
  exact List.forall_mem_cons.mpr ⟨gGI_put (i := 1) (by decide) ha (gU_of hu ha) h1.2.1, List.forall_mem_cons.mpr ⟨gGI_put (i := 54) (by decide) ha (gU_of hu ha) h9, List.forall_mem_nil _⟩⟩
theorem C_X12_layDown_in (h0 : gE1 g) (hu : gU τ) (hT : ∀ GI, k_tys (gE g tys B0 GI)) (c : gGh) : k_Met l (gE g tys B0 (gGI g c)) τ gTB yX12_layDown cX12_layDown 2 0 K_X12_layDown_in ⟨1, 0, 0, 30⟩ := by
  refine lay_met h0 hu hT ⟨rfl, rfl⟩ (by decide) (b := c.1) (n := c.2.1) (m := c.2.2.2.1 + 1) (gp := 31) (by decide) (fun _ _ h => h) (fun a xl H0 H ha l1 l2 hg hH h1 h2 h3 h4 h5 => ?_)
  have h42 : vI g H0 a 16 + (c.2.2.2.2 : Int) ≤ 400 := ((hg 42 (by decide)).2.2 a ha).2
  obtain ⟨j, hj1, hj2⟩ : ∃ j : Nat, (j : Int) < vI g H0 a 16 ∧ vA g H0 a 15 j = 91 := ((hg 34 (by decide)).2.2 a ha).2
  have hjl : (j : Int) < vI g H a 16 := by
    by_cases z : vI g H a 16 ≤ (j : Int)
    · exact absurd hj2 (h4 j z hj1)
    · omega
  have hle := lay_le h1
  have ht : vA g H a 15 (vI g H a 16 - 1).toNat = 91 := by
    have ho := h1.1.2.2.1 (vI g H a 16 - 1).toNat (by omega)
    rcases h5 with h5 | h5
    · omega
    · rw [← h3] at h5
      unfold lst at h5
      split at h5
      · omega
      · split at h5
        · omega
        · split at h5
          · omega
          · omega
  have hM : (vI g H a 16).toNat - 1 = (vI g H a 16 - 1).toNat := by omega
  have hd : 1 ≤ vI g H a 13 := by
    have k1 := h1.1.2.2.2.1
    rw [k1]
    have hN : (vI g H a 16).toNat = (vI g H a 16 - 1).toNat + 1 := by omega
    have hdp : isDP (vA g H a 15 (vI g H a 16 - 1).toNat) = true := by unfold isDP; exact decide_eq_true (Or.inr ht)
    rw [hN, cq, if_pos hdp]
    omega
  refine ⟨List.forall_mem_cons.mpr ⟨gGI_put (i := 1) (by decide) ha (gU_of hu ha) h1.2.1, List.forall_mem_cons.mpr ⟨gGI_put (i := 36) (by decide) ha (gU_of hu ha) (show bF1 c.1 c.2.1 (c.2.2.2.1 + 1) (vI g H a) (vA g H a) ∧ 1 ≤ vI g H a 16 ∧ vA g H a 15 ((vI g H a 16).toNat - 1) = 91 from ⟨h1, by omega, by rw [hM]; exact ht⟩), List.forall_mem_cons.mpr ⟨gGI_put (i := 42) (by decide) ha (gU_of hu ha) (show vI g H a 16 + (c.2.2.2.2 : Int) ≤ 400 by omega), List.forall_mem_nil _⟩⟩⟩, ?_⟩
  exact ⟨_, List.mem_cons_self, rfl, fun _ h => (by cases h), List.forall_mem_cons.mpr ⟨⟨fun _ => ⟨_, rfl, lay_fo h0 hH ha (k := 16) rfl (by omega) (by omega)⟩, fun z => absurd z (by decide)⟩, List.forall_mem_cons.mpr ⟨⟨fun _ => ⟨_, rfl, lay_fo h0 hH ha (k := 13) rfl hd h1.1.2.2.2.2⟩, fun z => absurd z (by decide)⟩, List.forall_mem_nil _⟩⟩⟩
theorem cq_sum {f : Nat → Int} : ∀ {N : Nat}, (∀ j, j < N → f j = 11 ∨ f j = 12 ∨ f j = 13 ∨ f j = 91) → cq isAO f N + cq isDP f N = N
  | 0, _ => rfl
  | N + 1, h => by
    unfold cq
    have ih := cq_sum (N := N) (fun j hj => h j (by omega))
    rcases h N (by omega) with e | e | e | e <;> rw [e] <;> simp [isAO, isDP] <;> omega
theorem open_le {b : gB} {n k m : Nat} {I : Nat → Int} {A : Nat → Nat → Int} (ho : bOpen (I 16) (I 13) (A 15)) (h : bP b n k m I A) (hk : 3 * bAO I A ≤ k) : I 16 ≤ 330 ∧ 3 * (I 16).toNat + 9 ≤ 3 * bAO I A + 39 := by
  obtain ⟨o1, o2, o3, o4, o5⟩ := ho
  obtain ⟨-, b1, b2, b3, b4, b5, ⟨e, b6, -⟩, b7, b8⟩ := h
  have hs := cq_sum (f := A 15) (N := (I 16).toNat) (fun j hj => o3 j (by omega))
  unfold bAO at hk ⊢
  omega
theorem C_X12_compare_30_31 (h0 : gE1 g) (hu : gU τ) (hT : ∀ GI, k_tys (gE g tys B0 GI)) (c : gGh) : k_Met l (gE g tys B0 (gGI g c)) τ gTB yX12_compare cX12_compare 5 2 K_X12_compare_30_31 ⟨6, 0, 0, 130⟩ := by
  obtain ⟨cb, cn, ck, cm, cd⟩ := c
  refine k_convG (γ := gGh) (GI := fun c' => gGI g c') (K := fun _ => K_X12_compare_10_15) (fun c' => C_X12_compare_10_15 h0 hu hT c') (fun as H hH hp => ?_)
  obtain ⟨p1, p2, p3, p4⟩ := hp
  have hg30 := p4 30 (by decide)
  obtain ⟨a, ha, huq, hF0⟩ := gGI_get (i := 30) (by decide) hg30
  have hF0 : bF0 cb cn cm (vI g H a) (vA g H a) := hF0
  refine ⟨(cb, cn + bAO (vI g H a) (vA g H a), 3 * bAO (vI g H a) (vA g H a), cm, 0), ⟨p1, p2, trivial, List.forall_mem_cons.mpr ⟨gGI_put (i := 1) (by decide) ha huq hF0.2.1, List.forall_mem_cons.mpr ⟨gGI_put (i := 10) (by decide) ha huq hF0.2, List.forall_mem_nil _⟩⟩⟩, fun H' v hq => ?_⟩
  obtain ⟨q1, q2, -, A, hA, a1, a2, a3⟩ := hq
  have q1 : k_HT (gE g tys B0 (gGI g (cb, cn, ck, cm, cd))) τ H' := k_HT_g q1
  have q2 : k_fr (gE g tys B0 (gGI g (cb, cn, ck, cm, cd))) τ K_X12_compare_10_15.2.2.2.1 H H' := k_fr_g q2
  refine ⟨q1, q2, fun _ h => (by cases h), ?_⟩
  have hA : A ∈ [((some (.inl (0, 0)), [], [(1001, 0, .inl (0, 1))]) : kAlt), (some (.inl (1, 1)), [], [(1001, 0, .inl (0, 1)), (1015, 0, .inl (0, 1))])] := hA
  rcases List.mem_cons.mp hA with rfl | hA
  · refine ⟨_, List.mem_of_getElem? (i := 0) rfl, a1, fun _ h => (by cases h), List.forall_mem_cons.mpr ⟨⟨fun z => absurd z (by decide), fun _ => ?_⟩, List.forall_mem_nil _⟩⟩
    have h1 := (a3 (1001, 0, .inl (0, 1)) (List.mem_of_getElem? (i := 0) rfl)).2 (by decide)
    have h1 := (h1.2.2 a ha).2
    have h1 : bGood (vA g H' a 3) (vA g H' a 5) (vA g H' a 6) := h1
    exact gGI_put (i := 1) (by decide) ha huq h1
  · have hA := List.mem_singleton.mp hA
    subst hA
    have h15 := (a3 (1015, 0, .inl (0, 1)) (List.mem_of_getElem? (i := 1) rfl)).2 (by decide)
    have h15 := (h15.2.2 a ha).2
    have h15 : bP cb (cn + bAO (vI g H a) (vA g H a) + 1) (3 * bAO (vI g H a) (vA g H a) + 39) (cm + 3) (vI g H' a) (vA g H' a) := h15
    have e13 : vI g H' a 13 = vI g H a 13 := vI_kept q2 ha (by decide +kernel) (by decide +kernel)
    have e16 : vI g H' a 16 = vI g H a 16 := vI_kept q2 ha (by decide +kernel) (by decide +kernel)
    have a15 : vA g H' a 15 = vA g H a 15 := vA_kept h0 hH q2 ha (k := 15) (t := 38) (by decide +kernel) (by decide +kernel) (by decide +kernel)
    obtain ⟨-, hle⟩ := open_le hF0.1 hF0.2 (Nat.le_refl _)
    have hb : bAO (vI g H' a) (vA g H' a) = bAO (vI g H a) (vA g H a) := by unfold bAO; rw [e16, a15]
    have hF1 : bF1 cb cn (cm + 1) (vI g H' a) (vA g H' a) := by
      refine ⟨by rw [e13, e16, a15]; exact hF0.1, ?_⟩
      rw [hb, e16]
      exact bP_mono h15 hle (by omega)
    exact ⟨_, List.mem_of_getElem? (i := 1) rfl, a1, fun _ h => (by cases h), List.forall_mem_cons.mpr ⟨⟨fun z => absurd z (by decide), fun _ => gGI_put (i := 1) (by decide) ha huq hF1.2.1⟩, List.forall_mem_cons.mpr ⟨⟨fun z => absurd z (by decide), fun _ => gGI_put (i := 31) (by decide) ha huq hF1⟩, List.forall_mem_nil _⟩⟩⟩
theorem C_X12_opens_11 (h0 : gE1 g) (hu : gU τ) (hT : ∀ GI, k_tys (gE g tys B0 GI)) (c : gGh) : k_Met l (gE g tys B0 (gGI g c)) τ gTB yX12_opens cX12_opens 2 2 K_X12_opens_11 ⟨1, 0, 0, 22⟩ := by
  refine k_convG (γ := Unit) (GI := fun _ => gGI g c) (K := fun _ => K_X12_opens_11c) (fun _ => C_X12_opens_11c h0 hu hT c) (fun as H hH hp => ⟨(), ?_, fun H' v hq => hq⟩)
  obtain ⟨a, xl, rfl, ha, -, -⟩ := lay_arg (lo := 11) (hi := 11) rfl hp
  obtain ⟨p1, p2, p3, p4⟩ := hp
  have hg := ((p4 30 (by decide)).2.2 a ha).2
  have hg : bF0 c.1 c.2.1 c.2.2.2.1 (vI g H a) (vA g H a) := hg
  obtain ⟨x, fx, ex, l1, l2⟩ := vI_in h0 hH ha (k := 16) rfl
  have hle := (open_le hg.1 hg.2 (Nat.le_refl _)).1
  rw [ex] at hle
  exact ⟨p1, p2, ⟨.ref a, .int x, rfl, ⟨a, 11, (12, gMF), rfl, ha, gM_at, by decide, fx⟩, ⟨x, rfl, l1, by show x.toInt ≤ (339 : Int); omega⟩, trivial⟩, p4⟩
theorem C_X12_opens_91 (h0 : gE1 g) (hu : gU τ) (hT : ∀ GI, k_tys (gE g tys B0 GI)) (c : gGh) : k_Met l (gE g tys B0 (gGI g c)) τ gTB yX12_opens cX12_opens 2 2 K_X12_opens_91 ⟨1, 0, 0, 22⟩ := by
  refine k_convG (γ := Unit) (GI := fun _ => gGI g c) (K := fun _ => K_X12_opens_91c) (fun _ => C_X12_opens_91c h0 hu hT c) (fun as H hH hp => ⟨(), ?_, fun H' v hq => hq⟩)
  obtain ⟨a, xl, rfl, ha, -, -⟩ := lay_arg (lo := 91) (hi := 91) rfl hp
  obtain ⟨p1, p2, p3, p4⟩ := hp
  have hg := ((p4 30 (by decide)).2.2 a ha).2
  have hg : bF0 c.1 c.2.1 c.2.2.2.1 (vI g H a) (vA g H a) := hg
  obtain ⟨x, fx, ex, l1, l2⟩ := vI_in h0 hH ha (k := 16) rfl
  have hle := (open_le hg.1 hg.2 (Nat.le_refl _)).1
  rw [ex] at hle
  exact ⟨p1, p2, ⟨.ref a, .int x, rfl, ⟨a, 11, (12, gMF), rfl, ha, gM_at, by decide, fx⟩, ⟨x, rfl, l1, by show x.toInt ≤ (339 : Int); omega⟩, trivial⟩, p4⟩
end
