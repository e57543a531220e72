/-! ===== exact effects on what is drawn: seed, copyFrom, back ===== -/
def hGI (H0 : Heap) (P : Heap → Prop) : kGI := fun i _ H => (i = 0 → H = H0) ∧ (i = 1 → P H)
def dS (g : va_G) (H : Heap) (b : Nat) : Option Value := (H[b]?).bind (fun c => c.slots[g.2 10 5]?)
theorem lgc_lt {x y : Int64} : (lg_cmp x y).toInt < 0 ↔ x.toInt < y.toInt := by
  have h := lg_cmp_ge x y
  rw [Int32.le_iff_toInt_le, Int64.le_iff_toInt_le] at h
  have e : (0 : Int32).toInt = 0 := rfl
  rw [e] at h
  omega
theorem lgc_gt {x y : Int64} : 0 < (lg_cmp x y).toInt ↔ y.toInt < x.toInt := by
  have h := lg_cmp_le x y
  rw [Int32.le_iff_toInt_le, Int64.le_iff_toInt_le] at h
  have e : (0 : Int32).toInt = 0 := rfl
  rw [e] at h
  omega
def K_in (r : Int) : kCtr := ([kL, kL, kL], [], [(some (.inl (r, r)), [], [])], [], [], [])
def K_sdM (r : Int) : kCtr := ([.inr (.inr (.inl (false, [11]))), kA], [], [(some (.inl (r, r)), [], [])], [(11, 23)], [0], [1])
def K_sdC (r : Int) : kCtr := ([.inr (.inr (.inl (false, [0]))), kA], [], [(some (.inl (r, r)), [], [])], [(2, 5)], [0], [1])
abbrev cpM : List (Nat × Nat) := [(2, 4), (2, 5), (2, 6), (3, 0), (3, 1), (3, 2), (3, 3), (4, 4), (4, 5), (4, 6), (4, 7), (4, 8), (16, 0), (17, 0), (18, 0), (19, 0)]
def K_cpW : kCtr := ([.inr (.inr (.inl (false, [2]))), .inr (.inr (.inl (false, [2])))], [], [(none, [], [])], cpM, [0], [1])
theorem K_cpW_mods : K_X10_copyFrom.2.2.2.1 = cpM := rfl
theorem i_self (n : Int32) : k_in (n.toInt, n.toInt) n.toInt := ⟨Int.le_refl _, Int.le_refl _⟩
section
variable {X : kX} {E : kE} {nL : Nat} {τ : kTau} {cc : ByteArray} {own : String} {I : List (Nat × Instr × Nat)} {FL : List (Nat × Nat × Nat × Nat)} {CI CJ : List (Nat × Int)} {K : kCtr} {rk : Nat} {ps : List Value} {H : Heap} {pc : Nat} {L : List (Nat × Value)} {st : List Value} {i : Instr} {n : Nat}
theorem x_lcmpE {x y : Int64} (hC : xC X E nL τ cc own I FL CI CJ K rk ps) (h : k_cd I pc = some (.lcmp, 1)) (k : kx X E H (pc + 1) nL L (.int (lg_cmp x y) :: st)) : kx X E H pc nL L (.long y :: .long x :: st) := by
  have hF := xF hC
  have hdc := xD hC _ (k_cd_ok h)
  intro locs hl ls hls
  have hgo := k locs hl ls hls
  exact W.lcmp hF.1 hF.2.1 hdc hgo
theorem x_i2lE {x : Int32} (hC : xC X E nL τ cc own I FL CI CJ K rk ps) (h : k_cd I pc = some (.i2l, 1)) (k : kx X E H (pc + 1) nL L (.long x.toInt64 :: st)) : kx X E H pc nL L (.int x :: st) := by
  have hF := xF hC
  have hdc := xD hC _ (k_cd_ok h)
  intro locs hl ls hls
  have hgo := k locs hl ls hls
  exact lv_i2l hF.1 hF.2.1 hdc rfl hgo
end
section
variable {l : Launch} {g : va_G} {tys : List (ClassId × FieldType)} {B0 : Nat} {GI : kGI} {τ : kTau}
theorem C_in (h0 : gE1 g) (hT : k_tys (gE g tys B0 GI)) (v lo hi : Int64) : s_Met l (gE g tys B0 GI) τ gTB yX12_in cX12_in 6 2 (K_in (if lo.toInt ≤ v.toInt ∧ v.toInt ≤ hi.toInt then 1 else 0)) ⟨0, 0, 0, 0⟩ (fun ps => ps = [.long v, .long lo, .long hi]) := by
  refine x_metZ (I := I_X12_in) (FL := []) (CI := []) (CJ := []) (by decide +kernel) dec_X12_in (fun X hts => ⟨k_nilFL, k_nilCI, k_nilCJ⟩) (gEok0 h0) hT (fun _ => by show 6 ≤ 6; decide) ?_
  rintro X ps rfl hl hr hts hC hH hpre
  have fin : ∀ (w : Int), 0 ≤ w → w ≤ 1 → w = (if lo.toInt ≤ v.toInt ∧ v.toInt ≤ hi.toInt then 1 else 0) → kx X (gE g tys B0 GI) X.2.2.2.2.1.heap 18 6 [(0, .long v), (2, .long lo), (4, .long hi)] [.int (Int32.ofInt w)] := by
    intro w w1 w2 hw
    have e : (Int32.ofInt w).toInt = w := i_of (by omega) (by omega)
    exact x_zret hC rfl ⟨by rw [e]; exact w1, by rw [e]; exact w2⟩ ⟨hH, k_fr_refl, fun _ h => (by cases h), _, List.mem_cons_self, ⟨_, rfl, _, rfl, by rw [e, hw]; exact ⟨Int.le_refl _, Int.le_refl _⟩⟩, fun _ h => (by cases h), fun _ h => (by cases h)⟩
  have no : ¬ (lo.toInt ≤ v.toInt ∧ v.toInt ≤ hi.toInt) → kx X (gE g tys B0 GI) X.2.2.2.2.1.heap 17 6 [(0, .long v), (2, .long lo), (4, .long hi)] [] := by
    intro hn
    refine x_cst hC rfl rfl ?_
    exact fin 0 (by decide) (by decide) (by rw [if_neg hn])
  refine x_ldl hC rfl rfl rfl ?_
  refine x_ldl hC rfl rfl rfl ?_
  refine x_lcmpE hC rfl ?_
  refine x_if (t := 17) hC rfl (by decide) (fun z => ?_) (fun z => ?_)
  · have z : (lg_cmp v lo).toInt < 0 := z
    rw [lgc_lt] at z
    exact no (by omega)
  have z : ¬ (lg_cmp v lo).toInt < 0 := z
  rw [lgc_lt] at z
  refine x_ldl hC rfl rfl rfl ?_
  refine x_ldl hC rfl rfl rfl ?_
  refine x_lcmpE hC rfl ?_
  refine x_if (t := 17) hC rfl (by decide) (fun z2 => ?_) (fun z2 => ?_)
  · have z2 : 0 < (lg_cmp v hi).toInt := z2
    rw [lgc_gt] at z2
    exact no (by omega)
  have z2 : ¬ 0 < (lg_cmp v hi).toInt := z2
  rw [lgc_gt] at z2
  refine x_cst hC rfl rfl ?_
  refine x_goto (t := 18) hC rfl (by decide) ?_
  exact fin 1 (by decide) (by decide) (by rw [if_pos (by omega)])
theorem C_seedM (h0 : gE1 g) (hT : ∀ GI, k_tys (gE g tys B0 GI)) (H0 : Heap) (a : Nat) (ha : τ a = some 11) (n : Int32) : s_Met l (gE g tys B0 (hGI H0 (fun H => vI g H a 23 = if n.toInt < 0 then vI g H0 a 23 else n.toInt))) τ gTB yX12_seed cX12_seed 3 1 (K_sdM (if n.toInt < 0 then -1 else vI g H0 a 23)) ⟨0, 0, 0, 0⟩ (fun ps => ps = [.ref a, .int n]) := by
  refine x_metZ (I := I_X12_seed) (FL := gFL12) (CI := gCI12) (CJ := gCJ12) (by decide +kernel) dec_X12_seed (fun X hts => ⟨gFLk12 hts, gCIk12 hts, gCJk12 hts⟩) (gEok0 h0) (hT _) (fun _ => by show 2 ≤ 3; decide) ?_
  rintro X ps rfl hl hr hts hC hH hpre
  have hH0 : X.2.2.2.2.1.heap = H0 := (hpre.2.2.2 0 List.mem_cons_self).1 rfl
  subst hH0
  have em : (Int32.ofInt (-1)).toInt = -1 := i_of (by decide) (by decide)
  obtain ⟨xx, fx, ex, l1, l2⟩ := vI_in h0 hH ha (k := 23) rfl
  refine x_ldi hC rfl rfl rfl ?_
  refine x_if (t := 6) hC rfl (by decide) (fun z => ?_) (fun z => ?_)
  rotate_left
  · have z : ¬ (0 : Int32).toInt ≤ n.toInt := z
    have z : ¬ (0 : Int) ≤ n.toInt := z
    have zn : n.toInt < 0 := by omega
    refine x_cst hC rfl rfl ?_
    exact x_iret hC rfl ⟨hH, k_fr_refl, List.forall_mem_cons.mpr ⟨⟨fun z => (by cases z), fun _ => by rw [if_pos zn]⟩, List.forall_mem_nil _⟩, _, List.mem_cons_self, ⟨_, rfl, _, rfl, by rw [em, if_pos zn]; exact ⟨Int.le_refl _, Int.le_refl _⟩⟩, fun _ h => (by cases h), fun _ h => (by cases h)⟩
  have z : (0 : Int32).toInt ≤ n.toInt := z
  have z : (0 : Int) ≤ n.toInt := z
  have zn : ¬ n.toInt < 0 := by omega
  refine x_lda hC rfl rfl rfl ?_
  refine x_get hC rfl rfl hH ha gM_at rfl (by decide) fx ?_
  refine x_ist_n hC rfl (by decide) rfl ?_
  refine x_lda hC rfl rfl rfl ?_
  refine x_ldi hC rfl rfl rfl ?_
  refine x_put hC rfl rfl hH ha gM_at rfl (k := 23) rfl ⟨_, rfl, z, (k_in_top n).2⟩ (fun H1 hH1 fr1 w1 o1 => ?_)
  have w1 : (H1[a]?).bind (fun c => c.slots[g.2 12 23]?) = some (.int n) := w1
  refine x_ldi hC rfl rfl rfl ?_
  exact x_iret hC rfl ⟨hH1, fr1, List.forall_mem_cons.mpr ⟨⟨fun z => (by cases z), fun _ => by show vI g H1 a 23 = _; rw [if_neg zn]; unfold vI; rw [w1]⟩, List.forall_mem_nil _⟩, _, List.mem_cons_self, ⟨_, rfl, _, rfl, by rw [if_neg zn, ex]; exact i_self _⟩, fun _ h => (by cases h), fun _ h => (by cases h)⟩
def gSF : List kInfo := match (gTT[0]? : Option kDesc) with
  | some (.inl q) => q.2
  | _ => []
theorem gS_at : gTT[0]? = some (.inl (11, gSF)) := rfl
def gWF : List kInfo := match (gTT[2]? : Option kDesc) with
  | some (.inl q) => q.2
  | _ => []
theorem gW_at : gTT[2]? = some (.inl (10, gWF)) := rfl
theorem C_seedC (h0 : gE1 g) (hT : ∀ GI, k_tys (gE g tys B0 GI)) (H0 : Heap) (a w : Nat) (ha : τ a = some 0) (hw : τ w = some 2) (sw : (H0[a]?).bind (fun c => c.slots[g.2 11 1]?) = some (.ref w)) (d : Int32) (hd : dS g H0 w = some (.int d)) (n : Int32) : s_Met l (gE g tys B0 (hGI H0 (fun H => dS g H w = some (.int (if n.toInt < 0 then d else n)) ∧ ∀ b, b ≠ w → H[b]? = H0[b]?))) τ gTB yX11_seed cX11_seed 3 1 (K_sdC (if n.toInt < 0 then -1 else d.toInt)) ⟨0, 0, 0, 0⟩ (fun ps => ps = [.ref a, .int n]) := by
  refine x_metZ (I := I_X11_seed) (FL := gFL11) (CI := gCI11) (CJ := gCJ11) (by decide +kernel) dec_X11_seed (fun X hts => ⟨gFLk11 hts, gCIk11 hts, gCJk11 hts⟩) (gEok0 h0) (hT _) (fun _ => by show 2 ≤ 3; decide) ?_
  rintro X ps rfl hl hr hts hC hH hpre
  have hH0 : X.2.2.2.2.1.heap = H0 := (hpre.2.2.2 0 List.mem_cons_self).1 rfl
  subst hH0
  have em : (Int32.ofInt (-1)).toInt = -1 := i_of (by decide) (by decide)
  have hd : (X.2.2.2.2.1.heap[w]?).bind (fun c => c.slots[g.2 10 5]?) = some (.int d) := hd
  refine x_ldi hC rfl rfl rfl ?_
  refine x_if (t := 6) hC rfl (by decide) (fun z => ?_) (fun z => ?_)
  rotate_left
  · have z : ¬ (0 : Int32).toInt ≤ n.toInt := z
    have z : ¬ (0 : Int) ≤ n.toInt := z
    have zn : n.toInt < 0 := by omega
    refine x_cst hC rfl rfl ?_
    exact x_iret hC rfl ⟨hH, k_fr_refl, List.forall_mem_cons.mpr ⟨⟨fun z => (by cases z), fun _ => ⟨by rw [if_pos zn]; exact hd, fun _ _ => rfl⟩⟩, List.forall_mem_nil _⟩, _, List.mem_cons_self, ⟨_, rfl, _, rfl, by rw [em, if_pos zn]; exact ⟨Int.le_refl _, Int.le_refl _⟩⟩, fun _ h => (by cases h), fun _ h => (by cases h)⟩
  have z : (0 : Int32).toInt ≤ n.toInt := z
  have z : (0 : Int) ≤ n.toInt := z
  have zn : ¬ n.toInt < 0 := by omega
  refine x_lda hC rfl rfl rfl ?_
  refine x_get hC rfl rfl hH ha gS_at rfl (by decide) sw ?_
  refine x_get hC rfl rfl hH hw gW_at rfl (by decide) hd ?_
  refine x_ist_n hC rfl (by decide) rfl ?_
  refine x_lda hC rfl rfl rfl ?_
  refine x_get hC rfl rfl hH ha gS_at rfl (by decide) sw ?_
  refine x_ldi hC rfl rfl rfl ?_
  refine x_put hC rfl rfl hH hw gW_at rfl (k := 5) rfl ⟨_, rfl, z, (k_in_top n).2⟩ (fun H1 hH1 fr1 w1 o1 => ?_)
  refine x_ldi hC rfl rfl rfl ?_
  exact x_iret hC rfl ⟨hH1, fr1, List.forall_mem_cons.mpr ⟨⟨fun z => (by cases z), fun _ => ⟨by rw [if_neg zn]; exact w1, o1⟩⟩, List.forall_mem_nil _⟩, _, List.mem_cons_self, ⟨_, rfl, _, rfl, by rw [if_neg zn]; exact i_self _⟩, fun _ h => (by cases h), fun _ h => (by cases h)⟩
/-- a world is made like another -/
theorem C_cpW (h0 : gE1 g) (hu : gUU τ) (hT : ∀ GI, k_tys (gE g tys B0 GI)) (H0 : Heap) (a b : Nat) (ha : τ a = some 2) (hb : τ b = some 2) (d : Int32) (hd : dS g H0 b = some (.int d)) : s_Met l (gE g tys B0 (hGI H0 (fun H => dS g H a = some (.int d) ∧ ∀ w, τ w = some 2 → w ≠ a → dS g H w = dS g H0 w))) τ gTB yX10_copyFrom cX10_copyFrom 2 0 K_cpW ⟨2, 0, 0, 60⟩ (fun ps => ps = [.ref a, .ref b]) := by
  refine x_metZ (I := I_X10_copyFrom) (FL := gFL10) (CI := gCI10) (CJ := gCJ10) (by decide +kernel) dec_X10_copyFrom (fun X hts => ⟨gFLk10 hts, gCIk10 hts, gCJk10 hts⟩) (gEok0 h0) (hT _) (fun _ => by show 2 ≤ 2; decide) ?_
  rintro X ps rfl hl hr hts hC hH hpre
  have hH0 : X.2.2.2.2.1.heap = H0 := (hpre.2.2.2 0 List.mem_cons_self).1 rfl
  subst hH0
  have hF := xF hC
  have hK : kK g gCl tys B0 X.2.2.2.2.1 := xKK hC
  subst hl
  obtain ⟨P, hP⟩ : ∃ P : Heap → Prop, P = fun H => dS g H a = some (.int d) ∧ ∀ w, τ w = some 2 → w ≠ a → dS g H w = dS g X.2.2.2.2.1.heap w := ⟨_, rfl⟩
  rw [← hP] at hC hH hpre ⊢
  have pre2 : ∀ (H : Heap) (t x y : Nat) (A : List kAlt) (m : List (Nat × Nat)) (GI' : kGI), τ x = some t → τ y = some t → k_pre (gE g tys B0 GI') τ H ([.inr (.inr (.inl (false, [t]))), .inr (.inr (.inl (false, [t])))], [], A, m, [], []) [.ref x, .ref y] := by
    intro H t x y A m GI' hx hy
    refine ⟨rfl, fun i z hz => ?_, trivial, fun _ h => (by cases h)⟩
    match i, hz with
    | 0, hz => cases hz; exact ⟨_, rfl, Or.inr ⟨_, t, rfl, List.mem_singleton.mpr rfl, hx⟩⟩
    | 1, hz => cases hz; exact ⟨_, rfl, Or.inr ⟨_, t, rfl, List.mem_singleton.mpr rfl, hy⟩⟩
    | n + 2, hz => cases hz
  have keep : ∀ (H H' : Heap) (m : List (Nat × Nat)) (GI' : kGI), k_fr (gE g tys B0 GI') τ m H H' → (2, 5) ∉ m → ∀ w, τ w = some 2 → dS g H' w = dS g H w := fun H H' m GI' hf hm w hw => (hf.2.2 w 2 hw).1 _ gW_at 5 (by decide) hm
  have c : gGh := ((0, fun _ => True), 0, 0, 0, 0)
  have z0 : (Int32.ofInt 0).toInt = 0 := i_of (by decide) (by decide)
  have z10 : (Int32.ofInt 10).toInt = 10 := i_of (by decide) (by decide)
  obtain ⟨va, fva, tva⟩ := tR_in h0 hH ha gW_at (k := 0) (u := 3) rfl
  obtain ⟨vb, fvb, tvb⟩ := tR_in h0 hH hb gW_at (k := 0) (u := 3) rfl
  refine x_lda hC rfl rfl rfl ?_
  refine x_get hC rfl rfl hH ha gW_at rfl (by decide) fva ?_
  refine x_lda hC rfl rfl rfl ?_
  refine x_get hC rfl rfl hH hb gW_at rfl (by decide) fvb ?_
  refine x_call (E2 := gE g tys B0 (gGI g c)) (K2 := K_X8_copyFrom) (as := [.ref va, .ref vb]) (rest := []) (k_callV (cc := cX10_copyFrom) (C := RX8) hF hK hts gGood (C_X8_copyFrom (l := X.2.1) h0 hu (hT _)) wk_X8_copyFrom.1 wk_X8_copyFrom.2.1 wl_RX10_36 wk_X8_copyFrom.2.2.1 wk_X8_copyFrom.2.2.2 rfl rfl rfl rfl rfl wd_X8_copyFrom ⟨by rw [hr]; decide, by rw [hr]; decide⟩ (dec_X10_copyFrom (8, .invokevirtual 36, 3) (List.mem_of_getElem? (i := 4) rfl))) rfl (k_HT_g hH) (pre2 _ 3 va vb _ _ _ tva tvb) rfl (by decide) (fun H1 v1 hp1 => ?_)
  obtain ⟨q1, f1, -, rfl⟩ := s_postV hp1
  have hH1 : k_HT (gE g tys B0 (hGI X.2.2.2.2.1.heap P)) τ H1 := k_HT_g q1
  have k1 := keep _ _ _ _ f1 (by decide)
  have g1 : k_fr (gE g tys B0 (hGI X.2.2.2.2.1.heap P)) τ cpM X.2.2.2.2.1.heap H1 := k_frU (k_fr_g f1) (by decide)
  obtain ⟨sa, fsa, tsa⟩ := tR_in h0 hH1 ha gW_at (k := 1) (u := 4) rfl
  obtain ⟨sb, fsb, tsb⟩ := tR_in h0 hH1 hb gW_at (k := 1) (u := 4) rfl
  refine x_lda hC rfl rfl rfl ?_
  refine x_get hC rfl rfl hH1 ha gW_at rfl (by decide) fsa ?_
  refine x_lda hC rfl rfl rfl ?_
  refine x_get hC rfl rfl hH1 hb gW_at rfl (by decide) fsb ?_
  refine x_call (E2 := gE g tys B0 (gGI g c)) (K2 := K_X6_copyFrom) (as := [.ref sa, .ref sb]) (rest := []) (k_callV (cc := cX10_copyFrom) (C := RX6) hF hK hts gGood (C_X6_copyFrom (l := X.2.1) h0 hu (hT _)) wk_X6_copyFrom.1 wk_X6_copyFrom.2.1 wl_RX10_40 wk_X6_copyFrom.2.2.1 wk_X6_copyFrom.2.2.2 rfl rfl rfl rfl rfl wd_X6_copyFrom ⟨by rw [hr]; decide, by rw [hr]; decide⟩ (dec_X10_copyFrom (19, .invokevirtual 40, 3) (List.mem_of_getElem? (i := 9) rfl))) rfl (k_HT_g hH1) (pre2 _ 4 sa sb _ _ _ tsa tsb) rfl (by decide) (fun H2 v2 hp2 => ?_)
  obtain ⟨q2, f2, -, rfl⟩ := s_postV hp2
  have hH2 : k_HT (gE g tys B0 (hGI X.2.2.2.2.1.heap P)) τ H2 := k_HT_g q2
  have k2 := keep _ _ _ _ f2 (by decide)
  have g2 : k_fr (gE g tys B0 (hGI X.2.2.2.2.1.heap P)) τ cpM X.2.2.2.2.1.heap H2 := k_fr_trans g1 (k_fr_g f2) (by decide)
  have pre5 : ∀ (H : Heap) (t x y : Nat) (GI' : kGI), τ x = some t → τ y = some t → k_pre (gE g tys B0 GI') τ H (k_Kcp t 10) [.ref x, .int (Int32.ofInt 0), .ref y, .int (Int32.ofInt 0), .int (Int32.ofInt 10)] := by
    intro H t x y GI' hx hy
    refine ⟨rfl, fun i z hz => ?_, trivial, fun _ h => (by cases h)⟩
    match i, hz with
    | 0, hz => cases hz; exact ⟨_, rfl, Or.inr ⟨_, t, rfl, List.mem_singleton.mpr rfl, hx⟩⟩
    | 1, hz => cases hz; exact ⟨_, rfl, _, rfl, by rw [z0]; decide, by rw [z0]; decide⟩
    | 2, hz => cases hz; exact ⟨_, rfl, Or.inr ⟨_, t, rfl, List.mem_singleton.mpr rfl, hy⟩⟩
    | 3, hz => cases hz; exact ⟨_, rfl, _, rfl, by rw [z0]; decide, by rw [z0]; decide⟩
    | 4, hz => cases hz; exact ⟨_, rfl, _, rfl, by rw [z10]; decide, by rw [z10]; decide⟩
    | n + 5, hz => cases hz
  obtain ⟨na, fna, tna⟩ := tR_in h0 hH2 ha gW_at (k := 2) (u := 18) rfl
  obtain ⟨nb, fnb, tnb⟩ := tR_in h0 hH2 hb gW_at (k := 2) (u := 18) rfl
  refine x_lda hC rfl rfl rfl ?_
  refine x_get hC rfl rfl hH2 hb gW_at rfl (by decide) fnb ?_
  refine x_cst hC rfl rfl ?_
  refine x_lda hC rfl rfl rfl ?_
  refine x_get hC rfl rfl hH2 ha gW_at rfl (by decide) fna ?_
  refine x_cst hC rfl rfl ?_
  refine x_cst hC rfl rfl ?_
  refine x_call (E2 := gE g tys B0 (gGI g c)) (K2 := k_Kcp 18 10) (as := [.ref nb, .int (Int32.ofInt 0), .ref na, .int (Int32.ofInt 0), .int (Int32.ofInt 10)]) (rest := []) (k_copyi (cc := cX10_copyFrom) (t := 18) (N := 10) hF hK (hT _) (hts _ wl_RX10_43) (hts _ wm_cp.1) (hts _ wm_cp.2.1) (hts _ wm_cp.2.2) rfl (by decide) (by rw [hr]; decide) (by rw [hr]; decide) (dec_X10_copyFrom (34, .invokestatic 43, 3) (List.mem_of_getElem? (i := 17) rfl))) rfl (k_HT_g hH2) (pre5 _ 18 nb na _ tnb tna) rfl (by decide) (fun H3 v3 hp3 => ?_)
  obtain ⟨q3, f3, -, rfl⟩ := s_postV hp3
  have hH3 : k_HT (gE g tys B0 (hGI X.2.2.2.2.1.heap P)) τ H3 := k_HT_g q3
  have k3 := keep _ _ _ _ f3 (by decide)
  have g3 : k_fr (gE g tys B0 (hGI X.2.2.2.2.1.heap P)) τ cpM X.2.2.2.2.1.heap H3 := k_fr_trans g2 (k_fr_g f3) (by decide)
  obtain ⟨pa, fpa, tpa⟩ := tR_in h0 hH3 ha gW_at (k := 3) (u := 19) rfl
  obtain ⟨pb, fpb, tpb⟩ := tR_in h0 hH3 hb gW_at (k := 3) (u := 19) rfl
  refine x_lda hC rfl rfl rfl ?_
  refine x_get hC rfl rfl hH3 hb gW_at rfl (by decide) fpb ?_
  refine x_cst hC rfl rfl ?_
  refine x_lda hC rfl rfl rfl ?_
  refine x_get hC rfl rfl hH3 ha gW_at rfl (by decide) fpa ?_
  refine x_cst hC rfl rfl ?_
  refine x_cst hC rfl rfl ?_
  refine x_call (E2 := gE g tys B0 (gGI g c)) (K2 := k_Kcp 19 10) (as := [.ref pb, .int (Int32.ofInt 0), .ref pa, .int (Int32.ofInt 0), .int (Int32.ofInt 10)]) (rest := []) (k_copyi (cc := cX10_copyFrom) (t := 19) (N := 10) hF hK (hT _) (hts _ wl_RX10_43) (hts _ wm_cp.1) (hts _ wm_cp.2.1) (hts _ wm_cp.2.2) rfl (by decide) (by rw [hr]; decide) (by rw [hr]; decide) (dec_X10_copyFrom (49, .invokestatic 43, 3) (List.mem_of_getElem? (i := 25) rfl))) rfl (k_HT_g hH3) (pre5 _ 19 pb pa _ tpb tpa) rfl (by decide) (fun H4 v4 hp4 => ?_)
  obtain ⟨q4, f4, -, rfl⟩ := s_postV hp4
  have hH4 : k_HT (gE g tys B0 (hGI X.2.2.2.2.1.heap P)) τ H4 := k_HT_g q4
  have k4 := keep _ _ _ _ f4 (by decide)
  have g4 : k_fr (gE g tys B0 (hGI X.2.2.2.2.1.heap P)) τ cpM X.2.2.2.2.1.heap H4 := k_fr_trans g3 (k_fr_g f4) (by decide)
  have e4 : ∀ w, τ w = some 2 → dS g H4 w = dS g X.2.2.2.2.1.heap w := fun w hw => by rw [k4 w hw, k3 w hw, k2 w hw, k1 w hw]
  obtain ⟨xn, fxn, n1, n2⟩ := tI_in h0 hH4 hb gW_at (k := 4) rfl
  refine x_lda hC rfl rfl rfl ?_
  refine x_lda hC rfl rfl rfl ?_
  refine x_get hC rfl rfl hH4 hb gW_at rfl (by decide) fxn ?_
  refine x_put hC rfl rfl hH4 ha gW_at rfl (k := 4) rfl ⟨_, rfl, n1, n2⟩ (fun H5 hH5 fr5 w5 o5 => ?_)
  have k5 := keep _ _ _ _ fr5 (by decide)
  have g5 := k_fr_trans g4 fr5 (by decide)
  have hd5 : (H5[b]?).bind (fun c => c.slots[g.2 10 5]?) = some (.int d) := by
    have h1 : dS g H5 b = some (.int d) := by rw [k5 b hb, e4 b hb]; exact hd
    exact h1
  obtain ⟨xd, fxd, d1, d2⟩ := tI_in h0 hH5 hb gW_at (k := 5) rfl
  have exd : xd = d := by
    have h1 := fxd.symm.trans hd5
    cases h1
    rfl
  subst exd
  refine x_lda hC rfl rfl rfl ?_
  refine x_lda hC rfl rfl rfl ?_
  refine x_get hC rfl rfl hH5 hb gW_at rfl (by decide) fxd ?_
  refine x_put hC rfl rfl hH5 ha gW_at rfl (k := 5) rfl ⟨_, rfl, d1, d2⟩ (fun H6 hH6 fr6 w6 o6 => ?_)
  have g6 := k_fr_trans g5 fr6 (by decide)
  obtain ⟨xf, fxf, i1, i2⟩ := tI_in h0 hH6 hb gW_at (k := 6) rfl
  refine x_lda hC rfl rfl rfl ?_
  refine x_lda hC rfl rfl rfl ?_
  refine x_get hC rfl rfl hH6 hb gW_at rfl (by decide) fxf ?_
  refine x_put hC rfl rfl hH6 ha gW_at rfl (k := 6) rfl ⟨_, rfl, i1, i2⟩ (fun H7 hH7 fr7 w7 o7 => ?_)
  have k7 := keep _ _ _ _ fr7 (by decide)
  have g7 := k_fr_trans g6 fr7 (by decide)
  refine x_vret hC rfl ⟨hH7, g7, List.forall_mem_cons.mpr ⟨⟨fun z => (by cases z), fun _ => ?_⟩, List.forall_mem_nil _⟩, _, List.mem_cons_self, rfl, fun _ h => (by cases h), fun _ h => (by cases h)⟩
  rw [hP]
  refine ⟨by rw [k7 a ha]; exact w6, fun w hw hne => ?_⟩
  rw [k7 w hw]
  show (H6[w]?).bind _ = _
  rw [o6 w hne]
  show dS g H5 w = _
  rw [k5 w hw]
  exact e4 w hw
end
