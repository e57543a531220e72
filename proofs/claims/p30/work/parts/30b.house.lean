/-! ===== isHouseHere: the houses that were read stay six at most ===== -/
theorem s_postX {E : kE} {τ : kTau} {H H' : Heap} {P : List kInfo} {fs : List (Nat × Nat × kInfo)} {q : kB} {m : List (Nat × Nat)} {gp gq : List Nat} {as : List Value} {v : Option Value} (hp : k_post E τ H H' (P, fs, [(some (.inl q), [], [])], m, gp, gq) as v) : k_HT E τ H' ∧ k_fr E τ m H H' ∧ (∀ i ∈ gq, E.2.2.2.2.2.1 i τ H') ∧ ∃ x : Int32, v = some (.int x) ∧ k_in q x.toInt := by
  obtain ⟨p1, p2, p3, A, hA, hA2⟩ := hp
  obtain rfl := List.mem_singleton.mp hA
  obtain ⟨⟨w, hw, x, hx, hq⟩, -, -⟩ := hA2
  subst hx
  exact ⟨p1, p2, p3, x, hw, hq⟩
theorem s_postV {E : kE} {τ : kTau} {H H' : Heap} {P : List kInfo} {fs : List (Nat × Nat × kInfo)} {m : List (Nat × Nat)} {gp gq : List Nat} {as : List Value} {v : Option Value} (hp : k_post E τ H H' (P, fs, [(none, [], [])], m, gp, gq) as v) : k_HT E τ H' ∧ k_fr E τ m H H' ∧ (∀ i ∈ gq, E.2.2.2.2.2.1 i τ H') ∧ v = none := by
  obtain ⟨p1, p2, p3, A, hA, hA2⟩ := hp
  obtain rfl := List.mem_singleton.mp hA
  exact ⟨p1, p2, p3, hA2.1⟩
def rGI (g : va_G) (r : Int) : kGI := fun _ τ H => ∀ a, τ a = some 11 → vA g H a 7 3 = r
def K_nh (lo hi : Int) : kCtr := ([.inr (.inr (.inl (false, [11]))), .inl (lo, lo), .inl (hi, hi)], [], [(some (.inl (0, 0)), [], []), (some (.inl (1, 1)), [], [(0, 10, .inl (lo, hi))])], [(11, 8), (11, 9), (11, 10)], [], [])
def K_ch (lo hi : Int) : kCtr := ([.inr (.inr (.inl (false, [11]))), .inl (93, 110), .inl (lo, lo), .inl (hi, hi)], [], [(some (.inl (0, 1)), [], [])], [(11, 8), (11, 9), (11, 10), (37, 0)], [0], [0])
theorem rd_el {j : Nat} (hj : 13 ≤ j) : k_el [(3, 3, .inl (0, 6)), (11, 12, .inl (0, 0))] kA j = kA := by
  unfold k_el
  rw [if_neg (fun h => by
    rw [Bool.and_eq_true] at h
    have := Nat.le_of_ble_eq_true h.2
    dsimp only at this
    omega)]
  unfold k_el
  rw [if_neg (fun h => by
    rw [Bool.and_eq_true] at h
    have := Nat.le_of_ble_eq_true h.2
    dsimp only at this
    omega)]
  rfl
section
variable {l : Launch} {g : va_G} {tys : List (ClassId × FieldType)} {B0 : Nat} {τ : kTau}
theorem rd_in (h0 : gE1 g) {GI : kGI} {H : Heap} {a : Nat} (hH : k_HT (gE g tys B0 GI) τ H) (ha : τ a = some 11) : ∃ (b : Nat) (cA : ClassId) (ty : FieldType) (m : Nat) (f : Nat → Value), (H[a]?).bind (fun c => c.slots[g.2 12 7]?) = some (.ref b) ∧ τ b = some 37 ∧ tys[0]? = some (cA, ty) ∧ H[b]? = some (arrV cA m f) ∧ 111 ≤ m ∧ vA g H a 7 = vE H b ∧ (∀ j, j < m → ∃ y : Int32, f j = .int y ∧ k_ok τ (k_el [(3, 3, .inl (0, 6)), (11, 12, .inl (0, 0))] kA j) (.int y)) := by
  obtain ⟨b, fb, tb, eb⟩ := vR_in h0 hH ha (k := 7) (t := 37) rfl
  obtain ⟨cA, ty, m, f, q1, q2, q3, q4, q5⟩ := k_arr hH tb (show gTT[37]? = some (.inr _) from rfl)
  refine ⟨b, cA, ty, m, f, fb, tb, q1, q2, q3, eb, fun j hj => ?_⟩
  have hk := q5 j hj
  have hk' : k_ok τ (k_el [(3, 3, .inl (0, 6)), (11, 12, .inl (0, 0))] kA j) (f j) := hk
  by_cases c3 : 3 = j
  · subst c3
    obtain ⟨y, hy, hq⟩ : k_ok τ (.inl (0, 6)) (f 3) := hk'
    exact ⟨y, hy, by rw [← hy]; exact hk⟩
  by_cases c11 : 11 = j
  · subst c11
    obtain ⟨y, hy, hq⟩ : k_ok τ (.inl (0, 0)) (f 11) := hk'
    exact ⟨y, hy, by rw [← hy]; exact hk⟩
  by_cases c12 : 12 = j
  · subst c12
    obtain ⟨y, hy, hq⟩ : k_ok τ (.inl (0, 0)) (f 12) := hk'
    exact ⟨y, hy, by rw [← hy]; exact hk⟩
  have e : k_el [(3, 3, .inl (0, 6)), (11, 12, .inl (0, 0))] kA j = kA := by
    unfold k_el
    rw [if_neg (fun h => by
      rw [Bool.and_eq_true] at h
      have h1 := Nat.le_of_ble_eq_true h.1
      have h2 := Nat.le_of_ble_eq_true h.2
      dsimp only at h1 h2
      omega)]
    unfold k_el
    rw [if_neg (fun h => by
      rw [Bool.and_eq_true] at h
      have h1 := Nat.le_of_ble_eq_true h.1
      have h2 := Nat.le_of_ble_eq_true h.2
      dsimp only at h1 h2
      omega)]
    rfl
  rw [e] at hk'
  obtain ⟨y, hy, hq⟩ : k_ok τ kA (f j) := hk'
  exact ⟨y, hy, by rw [e]; exact ⟨y, rfl, hq⟩⟩
theorem X_cell (h0 : gE1 g) (hT : ∀ GI, k_tys (gE g tys B0 GI)) (c : gGh) (r lo hi : Int) (hN : k_Met l (gE g tys B0 (gGI g c)) τ gTB yX12_numberHere cX12_numberHere 5 2 (K_nh lo hi) ⟨1, 0, 0, 25⟩) : k_Met l (gE g tys B0 (rGI g r)) τ gTB yX12_cellHere cX12_cellHere 4 2 (K_ch lo hi) ⟨2, 0, 0, 49⟩ := by
  refine x_met (I := I_X12_cellHere) (FL := gFL12) (CI := gCI12) (CJ := gCJ12) (by decide +kernel) dec_X12_cellHere (fun X hts => ⟨gFLk12 hts, gCIk12 hts, gCJk12 hts⟩) (gEok0 h0) (hT _) (fun _ => by show 4 ≤ 4; decide) ?_
  intro X ps hl hr hts hC hH hpre
  obtain ⟨p1, p2, -, p4⟩ := hpre
  match ps, p1 with
  | [w0, w1, w2, w3], _ =>
    obtain ⟨u0, z0, o0⟩ := p2 0 _ rfl
    obtain ⟨u1, z1, x, o1, b1⟩ := p2 1 _ rfl
    obtain ⟨u2, z2, y, o2, b2⟩ := p2 2 _ rfl
    obtain ⟨u3, z3, z, o3, b3⟩ := p2 3 _ rfl
    obtain ⟨a, r0, ha⟩ := k_refOk o0
    have y0 : w0 = .ref a := by simpa [r0] using z0
    have y1 : w1 = .int x := by simpa [o1] using z1
    have y2 : w2 = .int y := by simpa [o2] using z2
    have y3 : w3 = .int z := by simpa [o3] using z3
    subst y0; subst y1; subst y2; subst y3
    have x1 : 93 ≤ x.toInt := b1.1
    have x2 : x.toInt ≤ 110 := b1.2
    have hg0 := p4 0 List.mem_cons_self
    have hF := xF hC
    have hK : kK g gCl tys B0 X.2.2.2.2.1 := xKK hC
    subst hl
    refine x_lda hC rfl rfl rfl ?_
    refine x_ldi hC rfl rfl rfl ?_
    refine x_ldi hC rfl rfl rfl ?_
    refine x_call (E2 := gE g tys B0 (gGI g c)) (K2 := K_nh lo hi) (as := [.ref a, .int y, .int z]) (rest := []) (k_callV (cc := cX12_cellHere) (C := RX12) hF hK hts gGood hN wk_X12_numberHere.1 wk_X12_numberHere.2.1 wl_RX12_168 wk_X12_numberHere.2.2.1 wk_X12_numberHere.2.2.2 rfl rfl rfl rfl rfl wd_X12_numberHere ⟨by rw [hr]; decide, by rw [hr]; decide⟩ (dec_X12_cellHere (3, .invokevirtual 168, 3) (List.mem_of_getElem? (i := 3) rfl))) rfl (k_HT_g hH) ⟨rfl, fun i w hw => ?_, trivial, fun _ h => (by cases h)⟩ rfl (by decide) (fun H1 v hp => ?_)
    · match i, hw with
      | 0, hw => cases hw; exact ⟨_, rfl, Or.inr ⟨a, 11, rfl, List.mem_singleton.mpr rfl, ha⟩⟩
      | 1, hw => cases hw; exact ⟨_, rfl, _, rfl, b2⟩
      | 2, hw => cases hw; exact ⟨_, rfl, _, rfl, b3⟩
      | n + 3, hw => cases hw
    · obtain ⟨q1, q2, -, A, hA, hA2⟩ := hp
      have hH1 : k_HT (gE g tys B0 (rGI g r)) τ H1 := k_HT_g q1
      have fr1 : k_fr (gE g tys B0 (rGI g r)) τ [(11, 8), (11, 9), (11, 10)] X.2.2.2.2.1.heap H1 := k_fr_g q2
      have keep : vA g H1 a 7 = vA g X.2.2.2.2.1.heap a 7 := vA_kept1 h0 hH fr1 ha (k := 7) (t := 37) (by decide) rfl ⟨_, rfl⟩ (by decide) (by decide)
      have hgr : ∀ H' : Heap, vA g H' a 7 3 = r → ∀ a', τ a' = some 11 → (∀ b, τ b = some 11 → b = a) → vA g H' a' 7 3 = r := fun H' h a' ha' hu => by rw [hu a' ha']; exact h
      obtain ⟨w, rfl, hw⟩ : ∃ w : Int32, v = some (.int w) ∧ (w = 0 ∨ w = 1) := by
        rcases List.mem_cons.mp hA with e | hA
        · subst e
          obtain ⟨⟨v', e1, w, e2, h1, h2⟩, -, -⟩ := hA2
          subst e2
          exact ⟨w, e1, Or.inl (Int32.toInt_inj.mp (Int.le_antisymm h2 h1))⟩
        · obtain rfl := List.mem_singleton.mp hA
          obtain ⟨⟨v', e1, w, e2, h1, h2⟩, -, -⟩ := hA2
          subst e2
          exact ⟨w, e1, Or.inr (Int32.toInt_inj.mp (Int.le_antisymm h2 h1))⟩
      have fin0 : ∀ a', τ a' = some 11 → vA g H1 a' 7 3 = r := fun a' ha' => by
        rw [vA_kept1 h0 hH fr1 ha' (k := 7) (t := 37) (by decide) rfl ⟨_, rfl⟩ (by decide) (by decide)]
        exact hg0 a' ha'
      refine x_if (t := 11) hC rfl (by decide) (fun _ => ?_) (fun _ => ?_)
      rotate_left
      · refine x_cst hC rfl rfl ?_
        exact x_zret hC rfl ⟨by decide, by decide⟩ ⟨hH1, k_frU fr1 (show ∀ q ∈ ([(11, 8), (11, 9), (11, 10)] : List (Nat × Nat)), q ∈ ([(11, 8), (11, 9), (11, 10), (37, 0)] : List (Nat × Nat)) by decide), List.forall_mem_cons.mpr ⟨fin0, List.forall_mem_nil _⟩, _, List.mem_cons_self, ⟨_, rfl, _, rfl, by decide, by decide⟩, fun _ h => (by cases h), fun _ h => (by cases h)⟩
      obtain ⟨b, cA, ty, m, f, fb, tb, t1, t2, t3, eb, t5⟩ := rd_in h0 hH1 ha
      obtain ⟨xn, fn, -, -, -⟩ := vI_in h0 hH1 ha (k := 10) rfl
      refine x_lda hC rfl rfl rfl ?_
      refine x_get hC rfl rfl hH1 ha gM_at rfl (by decide) fb ?_
      refine x_ldi hC rfl rfl rfl ?_
      refine x_lda hC rfl rfl rfl ?_
      refine x_get hC rfl rfl hH1 ha gM_at rfl (by decide) fn ?_
      refine x_iast hC rfl hH1 tb (show gTT[37]? = some (.inr _) from rfl) rfl t2 ⟨by omega, by omega⟩ (show k_ok τ (k_el [(3, 3, .inl (0, 6)), (11, 12, .inl (0, 0))] kA x.toInt.toNat) (.int xn) by rw [rd_el (by omega)]; exact ⟨_, rfl, k_in_top _⟩) (fun H2 hH2 fr2 s2 o2 => ?_)
      refine x_cst hC rfl rfl ?_
      refine x_zret hC rfl ⟨by decide, by decide⟩ ⟨hH2, k_fr_trans (k_frU fr1 (show ∀ q ∈ ([(11, 8), (11, 9), (11, 10)] : List (Nat × Nat)), q ∈ ([(11, 8), (11, 9), (11, 10), (37, 0)] : List (Nat × Nat)) by decide)) fr2 (show ∀ q ∈ ([(37, 0)] : List (Nat × Nat)), q ∈ ([(11, 8), (11, 9), (11, 10), (37, 0)] : List (Nat × Nat)) by decide), List.forall_mem_cons.mpr ⟨fun a' ha' => ?_, List.forall_mem_nil _⟩, _, List.mem_cons_self, ⟨_, rfl, _, rfl, by decide, by decide⟩, fun _ h => (by cases h), fun _ h => (by cases h)⟩
      obtain ⟨b', fb', tb', eb'⟩ := vR_in h0 hH2 ha' (k := 7) (t := 37) rfl
      have nab : a' ≠ b := fun z => by rw [z, tb] at ha'; cases ha'
      rw [o2 a' nab] at fb'
      rw [eb']
      by_cases hbb : b' = b
      · subst hbb
        rw [vE_upd t2 s2 (by omega) 3, if_neg (by omega)]
        have e := fin0 a' ha'
        obtain ⟨b'', fb'', -, eb''⟩ := vR_in h0 hH1 ha' (k := 7) (t := 37) rfl
        rw [fb'] at fb''
        cases fb''
        rw [eb''] at e
        exact e
      · rw [vE_kept (o2 b' hbb)]
        have e := fin0 a' ha'
        obtain ⟨b'', fb'', -, eb''⟩ := vR_in h0 hH1 ha' (k := 7) (t := 37) rfl
        rw [fb'] at fb''
        cases fb''
        rw [eb''] at e
        exact e
theorem C_X12_isHouseHere (h0 : gE1 g) (hu : gU τ) (hT : ∀ GI, k_tys (gE g tys B0 GI)) (c : gGh) : k_Met l (gE g tys B0 (gGI g c)) τ gTB yX12_isHouseHere cX12_isHouseHere 3 2 K_X12_isHouseHere ⟨16, 0, 0, 600⟩ := by
  refine x_met (I := I_X12_isHouseHere) (FL := gFL12) (CI := gCI12) (CJ := gCJ12) (by decide +kernel) dec_X12_isHouseHere (fun X hts => ⟨gFLk12 hts, gCIk12 hts, gCJk12 hts⟩) (gEok0 h0) (hT _) (fun _ => by show 2 ≤ 3; decide) ?_
  intro X ps hl hr hts hC hH hpre
  obtain ⟨p1, p2, -, p4⟩ := hpre
  match ps, p1 with
  | [w0, w1], _ =>
    obtain ⟨u0, z0, o0⟩ := p2 0 _ rfl
    obtain ⟨u1, z1, xa, o1, b1⟩ := p2 1 _ rfl
    obtain ⟨a, r0, ha⟩ := k_refOk o0
    have y0 : w0 = .ref a := by simpa [r0] using z0
    have y1 : w1 = .int xa := by simpa [o1] using z1
    subst y0; subst y1
    have hF := xF hC
    have hK : kK g gCl tys B0 X.2.2.2.2.1 := xKK hC
    subst hl
    have e3 : (Int32.ofInt 3).toInt = 3 := i_of (by decide) (by decide)
    have e6 : (Int32.ofInt 6).toInt = 6 := i_of (by decide) (by decide)
    have e1 : (Int32.ofInt 1).toInt = 1 := i_of (by decide) (by decide)
    have e2 : (Int32.ofInt 2).toInt = 2 := i_of (by decide) (by decide)
    have e93 : (Int32.ofInt 93).toInt = 93 := i_of (by decide) (by decide)
    have hsub1 : ∀ q ∈ ([(11, 8)] : List (Nat × Nat)), q ∈ ([(11, 8), (11, 9), (11, 10), (37, 0)] : List (Nat × Nat)) := by decide
    have hsub9 : ∀ q ∈ ([(11, 9)] : List (Nat × Nat)), q ∈ ([(11, 8), (11, 9), (11, 10), (37, 0)] : List (Nat × Nat)) := by decide
    have hsub7 : ∀ q ∈ ([(37, 0)] : List (Nat × Nat)), q ∈ ([(11, 8), (11, 9), (11, 10), (37, 0)] : List (Nat × Nat)) := by decide
    have post : ∀ (H : Heap) (w : Int32), k_HT (gE g tys B0 (gGI g c)) τ H → k_fr (gE g tys B0 (gGI g c)) τ [(11, 8), (11, 9), (11, 10), (37, 0)] X.2.2.2.2.1.heap H → k_in (0, 1) w.toInt → k_post (gE g tys B0 (gGI g c)) τ X.2.2.2.2.1.heap H K_X12_isHouseHere [.ref a, .int xa] (some (.int w)) := fun H w hH hf hw => ⟨hH, hf, fun _ h => (by cases h), _, List.mem_cons_self, ⟨_, rfl, _, rfl, hw⟩, fun _ h => (by cases h), fun _ h => (by cases h)⟩
    obtain ⟨b, cA, ty, m, f, fb, tb, t1, t2, t3, eb, t5⟩ := rd_in h0 hH ha
    obtain ⟨y3, hy3, hk3⟩ := t5 3 (by omega)
    obtain ⟨y3', e33, k1, k2⟩ : k_ok τ (.inl (0, 6)) (.int y3) := hk3
    cases e33
    have k1 : 0 ≤ y3.toInt := k1
    have k2 : y3.toInt ≤ 6 := k2
    refine x_lda hC rfl rfl rfl ?_
    refine x_get hC rfl rfl hH ha gM_at rfl (by decide) fb ?_
    refine x_cst hC rfl rfl ?_
    refine x_ald hC rfl (ai := 0) rfl t1 t2 ⟨by rw [e3]; decide, by rw [e3]; omega⟩ (v := .int y3) (by rw [e3]; exact hy3) ?_
    refine x_cst hC rfl rfl ?_
    refine x_icmp (t := 18) hC rfl (by decide) (fun z => ?_) (fun z => ?_)
    rotate_left
    · refine x_lda hC rfl rfl rfl ?_
      refine x_cst hC rfl rfl ?_
      refine x_ldi hC rfl rfl rfl ?_
      refine x_call (E2 := gE g tys B0 (gGI g c)) (K2 := K_X12_fails) (as := [.ref a, .int (Int32.ofInt 4), .int xa]) (rest := []) (k_callV (cc := cX12_isHouseHere) (C := RX12) hF hK hts gGood (C_X12_fails (l := X.2.1) h0 hu hT c) wk_X12_fails.1 wk_X12_fails.2.1 wl_RX12_114 wk_X12_fails.2.2.1 wk_X12_fails.2.2.2 rfl rfl rfl rfl rfl wd_X12_fails ⟨by rw [hr]; decide, by rw [hr]; decide⟩ (dec_X12_isHouseHere (14, .invokevirtual 114, 3) (List.mem_of_getElem? (i := 9) rfl))) rfl hH ⟨rfl, fun i w hw => ?_, trivial, fun _ h => (by cases h)⟩ rfl (by decide) (fun H1 v hp => ?_)
      · match i, hw with
        | 0, hw => cases hw; exact ⟨_, rfl, Or.inr ⟨a, 11, rfl, List.mem_singleton.mpr rfl, ha⟩⟩
        | 1, hw => cases hw; exact ⟨_, rfl, _, rfl, k_in_top _⟩
        | 2, hw => cases hw; exact ⟨_, rfl, _, rfl, k_in_top _⟩
        | n + 3, hw => cases hw
      · obtain ⟨q1, q2, -, w, rfl, h1, h2⟩ := s_postX hp
        have h1 : 0 ≤ w.toInt := h1
        have h2 : w.toInt ≤ 0 := h2
        exact x_zret hC rfl ⟨h1, by show _ ≤ (1 : Int); omega⟩ (post H1 _ q1 (k_frU q2 hsub9) ⟨h1, by show _ ≤ (1 : Int); omega⟩)
    have z : ¬ y3.toInt = (Int32.ofInt 6).toInt := z
    rw [e6] at z
    have hr3 : vA g X.2.2.2.2.1.heap a 7 3 = y3.toInt := by rw [eb]; exact vE_at t2 (by omega) hy3
    refine x_lda hC rfl rfl rfl ?_
    refine x_call (E2 := gE g tys B0 (gGI g c)) (K2 := K_X12_passWord) (as := [.ref a]) (rest := []) (k_callV (cc := cX12_isHouseHere) (C := RX12) hF hK hts gGood (C_X12_passWord (l := X.2.1) h0 hu hT c) wk_X12_passWord.1 wk_X12_passWord.2.1 wl_RX12_108 wk_X12_passWord.2.2.1 wk_X12_passWord.2.2.2 rfl rfl rfl rfl rfl wd_X12_passWord ⟨by rw [hr]; decide, by rw [hr]; decide⟩ (dec_X12_isHouseHere (19, .invokevirtual 108, 3) (List.mem_of_getElem? (i := 12) rfl))) rfl hH ⟨rfl, fun i w hw => ?_, trivial, fun _ h => (by cases h)⟩ rfl (by decide) (fun H1 v hp => ?_)
    · match i, hw with
      | 0, hw => cases hw; exact ⟨_, rfl, Or.inr ⟨a, 11, rfl, List.mem_singleton.mpr rfl, ha⟩⟩
      | n + 1, hw => cases hw
    obtain ⟨hH1, q2, -, rfl⟩ := s_postV hp
    have hf1 := k_frU q2 hsub1
    have hr1 : vA g H1 a 7 3 = y3.toInt := by
      rw [vA_kept1 h0 hH q2 ha (k := 7) (t := 37) (by decide) rfl ⟨_, rfl⟩ (by decide) (by decide)]
      exact hr3
    obtain ⟨b', cA', ty', m', f', fb', tb', s1, s2, s3, eb', s5⟩ := rd_in h0 hH1 ha
    obtain ⟨y3', hy3', -⟩ := s5 3 (by omega)
    have ey : y3' = y3 := Int32.toInt_inj.mp (by rw [← hr1, eb']; exact (vE_at s2 (by omega) hy3').symm)
    subst ey
    have hm3 : (k_binV .imul (Int32.ofInt 3) y3').toInt = 3 * y3'.toInt := i_mul (by rw [e3]) (by omega) (by omega)
    have ht : (k_binV .iadd (Int32.ofInt 93) (k_binV .imul (Int32.ofInt 3) y3')).toInt = 93 + 3 * y3'.toInt := i_add (by rw [e93, hm3]) (by omega) (by omega)
    refine x_cst hC rfl rfl ?_
    refine x_cst hC rfl rfl ?_
    refine x_lda hC rfl rfl rfl ?_
    refine x_get hC rfl rfl hH1 ha gM_at rfl (by decide) fb' ?_
    refine x_cst hC rfl rfl ?_
    refine x_ald hC rfl (ai := 0) rfl s1 s2 ⟨by rw [e3]; decide, by rw [e3]; omega⟩ (v := .int y3') (by rw [e3]; exact hy3') ?_
    refine x_bin hC rfl rfl ?_
    refine x_bin hC rfl rfl ?_
    refine x_ist_n hC rfl (by decide) rfl ?_
    generalize hTold : k_binV .iadd (Int32.ofInt 93) (k_binV .imul (Int32.ofInt 3) y3') = told at ht
    have ht1 : (k_binV .iadd told (Int32.ofInt 1)).toInt = 94 + 3 * y3'.toInt := i_add (by rw [e1, ht]; omega) (by omega) (by omega)
    have ht2 : (k_binV .iadd told (Int32.ofInt 2)).toInt = 95 + 3 * y3'.toInt := i_add (by rw [e2, ht]; omega) (by omega) (by omega)
    have cell : ∀ (lo hi : Int) (pc : Nat) (H : Heap) (x : Int32) (L : List (Nat × Value)), k_call X (gE g tys B0 (rGI g y3'.toInt)) 3 τ (K_ch lo hi) pc → -2147483648 ≤ lo → lo ≤ 2147483647 → -2147483648 ≤ hi → hi ≤ 2147483647 → k_HT (gE g tys B0 (gGI g c)) τ H → k_fr (gE g tys B0 (gGI g c)) τ [(11, 8), (11, 9), (11, 10), (37, 0)] X.2.2.2.2.1.heap H → vA g H a 7 3 = y3'.toInt → 93 ≤ x.toInt → x.toInt ≤ 110 →
        (∀ (H' : Heap) (w : Int32), k_HT (gE g tys B0 (gGI g c)) τ H' → k_fr (gE g tys B0 (gGI g c)) τ [(11, 8), (11, 9), (11, 10), (37, 0)] X.2.2.2.2.1.heap H' → vA g H' a 7 3 = y3'.toInt → k_in (0, 1) w.toInt → kx X (gE g tys B0 (gGI g c)) H' (pc + 3) 3 L [.int w]) → kx X (gE g tys B0 (gGI g c)) H pc 3 L [.int (Int32.ofInt hi), .int (Int32.ofInt lo), .int x, .ref a] := by
      intro lo hi pc H x L hcl l1 l2 l3 l4 hH hf h3 x1 x2 kk
      refine x_call (E2 := gE g tys B0 (rGI g y3'.toInt)) (K2 := K_ch lo hi) (as := [.ref a, .int x, .int (Int32.ofInt lo), .int (Int32.ofInt hi)]) (rest := []) hcl rfl (k_HT_g hH) ⟨rfl, fun i w hw => ?_, trivial, List.forall_mem_cons.mpr ⟨fun a' ha' => ?_, List.forall_mem_nil _⟩⟩ rfl (by decide) (fun H' v hp => ?_)
      · match i, hw with
        | 0, hw => cases hw; exact ⟨_, rfl, Or.inr ⟨a, 11, rfl, List.mem_singleton.mpr rfl, ha⟩⟩
        | 1, hw => cases hw; exact ⟨_, rfl, _, rfl, x1, x2⟩
        | 2, hw => cases hw; exact ⟨_, rfl, _, rfl, by rw [i_of l1 l2]; exact ⟨Int.le_refl _, Int.le_refl _⟩⟩
        | 3, hw => cases hw; exact ⟨_, rfl, _, rfl, by rw [i_of l3 l4]; exact ⟨Int.le_refl _, Int.le_refl _⟩⟩
        | n + 4, hw => cases hw
      · rw [gU_of hu ha a' ha']
        exact h3
      · obtain ⟨q1, q2, q3, w, rfl, hw⟩ := s_postX hp
        exact kk H' w (k_HT_g q1) (k_fr_trans hf (k_fr_g q2) (fun _ h => h)) (q3 0 List.mem_cons_self a ha) hw
    have no : ∀ H : Heap, k_HT (gE g tys B0 (gGI g c)) τ H → k_fr (gE g tys B0 (gGI g c)) τ [(11, 8), (11, 9), (11, 10), (37, 0)] X.2.2.2.2.1.heap H → kx X (gE g tys B0 (gGI g c)) H 71 3 [(2, .int told), (0, .ref a), (1, .int xa)] [] := by
      intro H hH hf
      refine x_cst hC rfl rfl ?_
      exact x_zret hC rfl ⟨by decide, by decide⟩ (post H _ hH hf ⟨by decide, by decide⟩)
    refine x_lda hC rfl rfl rfl ?_
    refine x_ldi hC rfl rfl rfl ?_
    refine x_cst hC rfl rfl ?_
    refine x_cst hC rfl rfl ?_
    refine cell 0 99 39 H1 told _ (k_callV (cc := cX12_isHouseHere) (C := RX12) hF hK hts gGood (X_cell h0 hT c y3'.toInt 0 99 (C_X12_numberHere_0_99 (l := X.2.1) h0 hu hT c)) wk_X12_cellHere.1 wk_X12_cellHere.2.1 wl_RX12_219 wk_X12_cellHere.2.2.1 wk_X12_cellHere.2.2.2 rfl rfl rfl rfl rfl wd_X12_cellHere ⟨by rw [hr]; decide, by rw [hr]; decide⟩ (dec_X12_isHouseHere (39, .invokevirtual 219, 3) (List.mem_of_getElem? (i := 26) rfl))) (by decide) (by decide) (by decide) (by decide) hH1 hf1 hr1 (by omega) (by omega) (fun H2 w2 hH2 hf2 hr2 _ => ?_)
    refine x_if (t := 71) hC rfl (by decide) (fun _ => no H2 hH2 hf2) (fun _ => ?_)
    refine x_lda hC rfl rfl rfl ?_
    refine x_ldi hC rfl rfl rfl ?_
    refine x_cst hC rfl rfl ?_
    refine x_bin hC rfl rfl ?_
    refine x_cst hC rfl rfl ?_
    refine x_cst hC rfl rfl ?_
    refine cell 0 9 52 H2 _ _ (k_callV (cc := cX12_isHouseHere) (C := RX12) hF hK hts gGood (X_cell h0 hT c y3'.toInt 0 9 (C_X12_numberHere_0_9 (l := X.2.1) h0 hu hT c)) wk_X12_cellHere.1 wk_X12_cellHere.2.1 wl_RX12_219 wk_X12_cellHere.2.2.1 wk_X12_cellHere.2.2.2 rfl rfl rfl rfl rfl wd_X12_cellHere ⟨by rw [hr]; decide, by rw [hr]; decide⟩ (dec_X12_isHouseHere (52, .invokevirtual 219, 3) (List.mem_of_getElem? (i := 34) rfl))) (by decide) (by decide) (by decide) (by decide) hH2 hf2 hr2 (by omega) (by omega) (fun H3 w3 hH3 hf3 hr3' _ => ?_)
    refine x_if (t := 71) hC rfl (by decide) (fun _ => no H3 hH3 hf3) (fun _ => ?_)
    refine x_lda hC rfl rfl rfl ?_
    refine x_ldi hC rfl rfl rfl ?_
    refine x_cst hC rfl rfl ?_
    refine x_bin hC rfl rfl ?_
    refine x_cst hC rfl rfl ?_
    refine x_cst hC rfl rfl ?_
    refine cell 0 20 65 H3 _ _ (k_callV (cc := cX12_isHouseHere) (C := RX12) hF hK hts gGood (X_cell h0 hT c y3'.toInt 0 20 (C_X12_numberHere_0_20 (l := X.2.1) h0 hu hT c)) wk_X12_cellHere.1 wk_X12_cellHere.2.1 wl_RX12_219 wk_X12_cellHere.2.2.1 wk_X12_cellHere.2.2.2 rfl rfl rfl rfl rfl wd_X12_cellHere ⟨by rw [hr]; decide, by rw [hr]; decide⟩ (dec_X12_isHouseHere (65, .invokevirtual 219, 3) (List.mem_of_getElem? (i := 42) rfl))) (by decide) (by decide) (by decide) (by decide) hH3 hf3 hr3' (by omega) (by omega) (fun H4 w4 hH4 hf4 hr4 _ => ?_)
    refine x_if (t := 73) hC rfl (by decide) (fun _ => ?_) (fun _ => no H4 hH4 hf4)
    have fin : ∀ H : Heap, k_HT (gE g tys B0 (gGI g c)) τ H → k_fr (gE g tys B0 (gGI g c)) τ [(11, 8), (11, 9), (11, 10), (37, 0)] X.2.2.2.2.1.heap H → vA g H a 7 3 = y3'.toInt → kx X (gE g tys B0 (gGI g c)) H 91 3 [(2, .int told), (0, .ref a), (1, .int xa)] [] := by
      intro H hH hf hrr
      obtain ⟨b', cA', ty', m', f', fb', tb', s1, s2, s3, eb', s5⟩ := rd_in h0 hH ha
      obtain ⟨yy, hyy, -⟩ := s5 3 (by omega)
      have ey : yy = y3' := Int32.toInt_inj.mp (by rw [← hrr, eb']; exact (vE_at s2 (by omega) hyy).symm)
      subst ey
      have hinc : (k_binV .iadd yy (Int32.ofInt 1)).toInt = yy.toInt + 1 := i_add (by rw [e1]) (by omega) (by omega)
      have e3n : (Int32.ofInt 3).toInt.toNat = 3 := by rw [e3]; rfl
      refine x_lda hC rfl rfl rfl ?_
      refine x_get hC rfl rfl hH ha gM_at rfl (by decide) fb' ?_
      refine x_cst hC rfl rfl ?_
      refine x_dup2 hC rfl rfl rfl ?_
      refine x_ald hC rfl (ai := 0) rfl s1 s2 ⟨by rw [e3]; decide, by rw [e3]; omega⟩ (v := .int yy) (by rw [e3]; exact hyy) ?_
      refine x_cst hC rfl rfl ?_
      refine x_bin hC rfl rfl ?_
      refine x_iast hC rfl hH tb' (show gTT[37]? = some (.inr _) from rfl) rfl s2 ⟨by rw [e3]; decide, by rw [e3]; omega⟩ (show k_ok τ (k_el [(3, 3, .inl (0, 6)), (11, 12, .inl (0, 0))] kA (Int32.ofInt 3).toInt.toNat) (.int (k_binV .iadd yy (Int32.ofInt 1))) by rw [e3n]; exact ⟨_, rfl, by rw [hinc]; show (0 : Int) ≤ _; omega, by rw [hinc]; show _ ≤ (6 : Int); omega⟩) (fun H5 hH5 fr5 s5 o5 => ?_)
      refine x_cst hC rfl rfl ?_
      exact x_zret hC rfl ⟨by decide, by decide⟩ (post H5 _ hH5 (k_fr_trans hf fr5 hsub7) ⟨by decide, by decide⟩)
    obtain ⟨b4, cA4, ty4, m4, f4, fb4, tb4, v1, v2, v3, eb4, v5⟩ := rd_in h0 hH4 ha
    obtain ⟨yt, hyt, -⟩ := v5 told.toInt.toNat (by omega)
    refine x_lda hC rfl rfl rfl ?_
    refine x_get hC rfl rfl hH4 ha gM_at rfl (by decide) fb4 ?_
    refine x_ldi hC rfl rfl rfl ?_
    refine x_ald hC rfl (ai := 0) rfl v1 v2 ⟨by omega, by omega⟩ hyt ?_
    refine x_if (t := 91) hC rfl (by decide) (fun _ => fin H4 hH4 hf4 hr4) (fun _ => ?_)
    refine x_lda hC rfl rfl rfl ?_
    refine x_get hC rfl rfl hH4 ha gM_at rfl (by decide) fb4 ?_
    refine x_ldi hC rfl rfl rfl ?_
    refine x_cst hC rfl rfl ?_
    refine x_bin hC rfl rfl ?_
    refine x_cst hC rfl rfl ?_
    refine x_iast hC rfl hH4 tb4 (show gTT[37]? = some (.inr _) from rfl) rfl v2 ⟨by omega, by omega⟩ (show k_ok τ (k_el [(3, 3, .inl (0, 6)), (11, 12, .inl (0, 0))] kA (k_binV .iadd told (Int32.ofInt 1)).toInt.toNat) (.int (Int32.ofInt 0)) by rw [rd_el (by omega)]; exact ⟨_, rfl, k_in_top _⟩) (fun H5 hH5 fr5 s5 o5 => ?_)
    refine fin H5 hH5 (k_fr_trans hf4 fr5 hsub7) ?_
    have nab : a ≠ b4 := fun z => by rw [← z, ha] at tb4; cases tb4
    obtain ⟨b6, fb6, -, eb6⟩ := vR_in h0 hH5 ha (k := 7) (t := 37) rfl
    rw [o5 a nab, fb4] at fb6
    cases fb6
    rw [eb6, vE_upd v2 s5 (by omega) 3, if_neg (by omega), ← eb4]
    exact hr4
end
