/-! ===== what is drawn, what the images hold: in the class, in the reference; back ===== -/
def iS (H : Heap) (b k : Nat) : Option Value := (H[b]?).bind (fun c => c.slots[k]?)
def fS (g : va_G) (H : Heap) (a ci k : Nat) : Option Value := (H[a]?).bind (fun c => c.slots[g.2 ci k]?)
def CV (g : va_G) (a : Nat) (τ : kTau) (H : Heap) (d : Int) (im : Nat → Option Int) : Prop := ∃ (w b : Nat) (x : Int32), fS g H a 11 1 = some (.ref w) ∧ τ w = some 2 ∧ dS g H w = some (.int x) ∧ x.toInt = d ∧ fS g H a 11 2 = some (.ref b) ∧ τ b = some 20 ∧
  (∀ k, k < 4 → (im k = none ∧ iS H b k = some .null) ∨ ∃ (u : Nat) (y : Int32), im k = some y.toInt ∧ iS H b k = some (.ref u) ∧ τ u = some 2 ∧ u ≠ w ∧ dS g H u = some (.int y)) ∧
  ∀ j k p, j < 4 → k < 4 → iS H b j = some (.ref p) → iS H b k = some (.ref p) → j = k
def MV (g : va_G) (a : Nat) (H : Heap) (d : Int) (im : Nat → Option Int) : Prop := vI g H a 23 = d ∧ ∀ k, k < 4 → (im k = none → vA g H a 42 k = 0) ∧ ∀ y, im k = some y → vA g H a 42 k ≠ 0 ∧ vA g H a 41 k = y
def bkD (d : Int) (im : Nat → Option Int) (n : Int32) : Int := if inI n then (im n.toInt.toNat).getD d else d
def imU (d : Int) (im : Nat → Option Int) (n : Int32) : Nat → Option Int := fun k => if inI n ∧ k = n.toInt.toNat then some d else im k
section
variable {g : va_G} {tys : List (ClassId × FieldType)} {B0 : Nat} {GI : kGI} {τ : kTau} {H H' : Heap} {m : List (Nat × Nat)} {a : Nat} {d : Int} {im : Nat → Option Int}
theorem CV_fr (hf : k_fr (gE g tys B0 GI) τ m H H') (ha : τ a = some 0) (hm : (0, 1) ∉ m ∧ (0, 2) ∉ m ∧ (2, 5) ∉ m ∧ (20, 0) ∉ m) (h : CV g a τ H d im) : CV g a τ H' d im := by
  obtain ⟨w, b, x, h1, h2, h3, h4, h5, h6, h7, h8⟩ := h
  have k1 : fS g H' a 11 1 = fS g H a 11 1 := (hf.2.2 a 0 ha).1 _ gS_at 1 (by decide) hm.1
  have k2 : fS g H' a 11 2 = fS g H a 11 2 := (hf.2.2 a 0 ha).1 _ gS_at 2 (by decide) hm.2.1
  have k3 : ∀ u, τ u = some 2 → dS g H' u = dS g H u := fun u hu => (hf.2.2 u 2 hu).1 _ gW_at 5 (by decide) hm.2.2.1
  have k4 : ∀ k, iS H' b k = iS H b k := fun k => by
    unfold iS
    rw [(hf.2.2 b 20 h6).2 _ (show gTT[20]? = some (.inr _) from rfl) hm.2.2.2]
  refine ⟨w, b, x, by rw [k1]; exact h1, h2, by rw [k3 w h2]; exact h3, h4, by rw [k2]; exact h5, h6, fun k hk => ?_, fun j k p hj hk e1 e2 => h8 j k p hj hk (by rw [← k4 j]; exact e1) (by rw [← k4 k]; exact e2)⟩
  rcases h7 k hk with ⟨e1, e2⟩ | ⟨u, y, e1, e2, e3, e4, e5⟩
  · exact Or.inl ⟨e1, by rw [k4]; exact e2⟩
  · exact Or.inr ⟨u, y, e1, by rw [k4]; exact e2, e3, e4, by rw [k3 u e3]; exact e5⟩
theorem MV_fr (h0 : gE1 g) (hH : k_HT (gE g tys B0 GI) τ H) (hf : k_fr (gE g tys B0 GI) τ m H H') (ha : τ a = some 11) (hm : (11, 23) ∉ m ∧ (11, 41) ∉ m ∧ (11, 42) ∉ m ∧ (51, 0) ∉ m ∧ (52, 0) ∉ m) (h : MV g a H d im) : MV g a H' d im := by
  obtain ⟨h1, h2⟩ := h
  have k1 : vI g H' a 23 = vI g H a 23 := vI_kept hf ha (by decide) hm.1
  have k2 : vA g H' a 41 = vA g H a 41 := vA_kept1 h0 hH hf ha (k := 41) (t := 51) (by decide) rfl ⟨_, rfl⟩ hm.2.1 hm.2.2.2.1
  have k3 : vA g H' a 42 = vA g H a 42 := vA_kept1 h0 hH hf ha (k := 42) (t := 52) (by decide) rfl ⟨_, rfl⟩ hm.2.2.1 hm.2.2.2.2
  refine ⟨by rw [k1]; exact h1, ?_⟩
  rw [k2, k3]
  exact h2
/-- the place of an array that has a kind -/
theorem iS_at {b t ai n0 n1 k : Nat} {e : List (Nat × Nat × kInfo)} {q : kInfo} {v : Value} (hH : k_HT (gE g tys B0 GI) τ H) (hb : τ b = some t) (hd : gTT[t]? = some (.inr (ai, n0, n1, e, q))) (hk : k < n0) (hv : iS H b k = some v) : ∃ (cA : ClassId) (ty : FieldType) (m : Nat) (f : Nat → Value), tys[ai]? = some (cA, ty) ∧ H[b]? = some (arrV cA m f) ∧ n0 ≤ m ∧ m ≤ n1 ∧ f k = v := by
  obtain ⟨cA, ty, m, f, q1, q2, q3, q4, q5⟩ := k_arr hH hb hd
  have q3 : n0 ≤ m := q3
  refine ⟨cA, ty, m, f, q1, q2, q3, q4, ?_⟩
  unfold iS at hv
  rw [q2] at hv
  have hv : (arrV cA m f).slots[k]? = some v := hv
  rw [arrV_read cA f (by omega)] at hv
  exact Option.some.inj hv
end
def K_bkC : kCtr := ([.inr (.inr (.inl (false, [0]))), kA], [], [(some kA, [], [])], (0, 7) :: cpM, [0], [1])
section
variable {X : kX} {E : kE} {nL : Nat} {τ : kTau} {cc : ByteArray} {own : String} {I : List (Nat × Instr × Nat)} {FL : List (Nat × Nat × Nat × Nat)} {CI CJ : List (Nat × Int)} {K : kCtr} {rk : Nat} {ps : List Value} {H : Heap} {pc : Nat} {L : List (Nat × Value)} {st : List Value}
theorem x_nn {x t : Nat} {off : Int} (hC : xC X E nL τ cc own I FL CI CJ K rk ps) (h : k_cd I pc = some (.ifnonnull off, 3)) (ht : (pc : Int) + off = (t : Int)) (k : kx X E H t nL L st) : kx X E H pc nL L (.ref x :: st) := by
  have hF := xF hC
  have hdc := xD hC _ (k_cd_ok h)
  intro locs hl ls hls
  have hgo := k locs hl ls hls
  exact lv_ifnonnull hF.1 hF.2.1 hdc ht hgo
theorem x_nnN {off : Int} (hC : xC X E nL τ cc own I FL CI CJ K rk ps) (h : k_cd I pc = some (.ifnonnull off, 3)) (k : kx X E H (pc + 3) nL L st) : kx X E H pc nL L (.null :: st) := by
  have hF := xF hC
  have hdc := xD hC _ (k_cd_ok h)
  intro locs hl ls hls
  have hgo := k locs hl ls hls
  exact lv_ifnonnullN hF.1 hF.2.1 hdc hgo
end
def I_X11_back : List (Nat × Instr × Nat) := [(0, .iload_n 1, 1), (1, .ifCond .lt 17, 3), (4, .iload_n 1, 1), (5, .iconst 4, 1), (6, .if_icmp .ge 12, 3), (9, .aload_n 0, 1), (10, .getfield 23, 3), (13, .iload_n 1, 1), (14, .aaload, 1), (15, .ifnonnull 5, 3), (18, .iconst (-1), 1), (19, .ireturn, 1), (20, .aload_n 0, 1), (21, .getfield 19, 3), (24, .aload_n 0, 1), (25, .getfield 23, 3), (28, .iload_n 1, 1), (29, .aaload, 1), (30, .invokevirtual 303, 3), (33, .aload_n 0, 1), (34, .iconst 0, 1), (35, .putfield 126, 3), (38, .aload_n 0, 1), (39, .getfield 19, 3), (42, .getfield 116, 3), (45, .getfield 173, 3), (48, .ireturn, 1)]
theorem dec_X11_back : ∀ q ∈ I_X11_back, decode cX11_back q.1 = .ok q.2 := by decide +kernel
theorem wl_RX11_303 : Jvm.Cond.methodLink RX11 303 yX10_copyFrom ∈ gTB := gIn (i := 1245) (by decide +kernel) (by decide +kernel)
theorem wk_X10_copyFrom : Jvm.Cond.code yX10_copyFrom cX10_copyFrom 2 (k_rty 0) ∈ gTB ∧ Jvm.Cond.initialized yX10_copyFrom.cls ∈ gTB ∧ Jvm.Cond.instanceMethod yX10_copyFrom ∈ gTB ∧ Jvm.Cond.selects RX10 yX10_copyFrom yX10_copyFrom ∈ gTB := ⟨gIn (i := 1248) (by decide +kernel) (by decide +kernel), gIn (i := 128) (by decide +kernel) (by decide +kernel), gIn (i := 1246) (by decide +kernel) (by decide +kernel), gIn (i := 1247) (by decide +kernel) (by decide +kernel)⟩
theorem wd_X10_copyFrom : yX10_copyFrom.cls ≠ "java/lang/invoke/MethodHandle" ∧ yX10_copyFrom.cls ≠ "java/lang/invoke/VarHandle" ∧ (parseMethodDescriptor yX10_copyFrom.desc).map (fun d => d.parameters.length) = some 1 := by decide +kernel
section
variable {l : Launch} {g : va_G} {tys : List (ClassId × FieldType)} {B0 : Nat} {τ : kTau}
theorem C_bkC (h0 : gE1 g) (hu : gUU τ) (hT : ∀ GI, k_tys (gE g tys B0 GI)) (H0 : Heap) (a : Nat) (ha : τ a = some 0) (d : Int) (im : Nat → Option Int) (hcv : CV g a τ H0 d im) (n : Int32) : s_Met l (gE g tys B0 (hGI H0 (fun H => CV g a τ H (bkD d im n) im))) τ gTB yX11_back cX11_back 2 1 K_bkC ⟨3, 0, 0, 90⟩ (fun ps => ps = [.ref a, .int n]) := by
  refine x_metZ (I := I_X11_back) (FL := gFL11) (CI := gCI11) (CJ := gCJ11) (by decide +kernel) dec_X11_back (fun X hts => ⟨gFLk11 hts, gCIk11 hts, gCJk11 hts⟩) (gEok0 h0) (hT _) (fun _ => by show 2 ≤ 2; decide) ?_
  rintro X ps rfl hl hr hts hC hH hpre
  have hH0 : X.2.2.2.2.1.heap = H0 := (hpre.2.2.2 0 List.mem_cons_self).1 rfl
  subst hH0
  have hF := xF hC
  have hK : kK g gCl tys B0 X.2.2.2.2.1 := xKK hC
  subst hl
  obtain ⟨P, hP⟩ : ∃ P : Heap → Prop, P = fun H => CV g a τ H (bkD d im n) im := ⟨_, rfl⟩
  rw [← hP] at hC hH hpre ⊢
  have hcv0 := hcv
  obtain ⟨w, b, x, c1, c2, c3, c4, c5, c6, c7, c8⟩ := hcv
  have z0 : (Int32.ofInt 0).toInt = 0 := i_of (by decide) (by decide)
  have e4 : (Int32.ofInt 4).toInt = 4 := i_of (by decide) (by decide)
  have no : bkD d im n = d → kx X (gE g tys B0 (hGI X.2.2.2.2.1.heap P)) X.2.2.2.2.1.heap 18 2 [(0, .ref a), (1, .int n)] [] := by
    intro hd
    refine x_cst hC rfl rfl ?_
    refine x_iret hC rfl ⟨hH, k_fr_refl, List.forall_mem_cons.mpr ⟨⟨fun z => (by cases z), fun _ => ?_⟩, List.forall_mem_nil _⟩, _, List.mem_cons_self, ⟨_, rfl, _, rfl, k_in_top _⟩, fun _ h => (by cases h), fun _ h => (by cases h)⟩
    rw [hP]
    show CV g a τ _ (bkD d im n) im
    rw [hd]
    exact hcv0
  refine x_ldi hC rfl rfl rfl ?_
  refine x_if (t := 18) hC rfl (by decide) (fun z => ?_) (fun z => ?_)
  · have z : n.toInt < (0 : Int32).toInt := z
    have z : n.toInt < 0 := z
    exact no (by unfold bkD; rw [if_neg (fun h => by have := h.1; omega)])
  have z : ¬ n.toInt < (0 : Int32).toInt := z
  have z : ¬ n.toInt < 0 := z
  refine x_ldi hC rfl rfl rfl ?_
  refine x_cst hC rfl rfl ?_
  refine x_icmp (t := 18) hC rfl (by decide) (fun z2 => ?_) (fun z2 => ?_)
  · have z2 : (Int32.ofInt 4).toInt ≤ n.toInt := z2
    rw [e4] at z2
    exact no (by unfold bkD; rw [if_neg (fun h => by have := h.2; omega)])
  have z2 : ¬ (Int32.ofInt 4).toInt ≤ n.toInt := z2
  rw [e4] at z2
  have hn : inI n := ⟨by omega, by omega⟩
  refine x_lda hC rfl rfl rfl ?_
  refine x_get hC rfl rfl hH ha gS_at rfl (by decide) c5 ?_
  refine x_ldi hC rfl rfl rfl ?_
  rcases c7 n.toInt.toNat (by omega) with ⟨m1, m2⟩ | ⟨u, y, m1, m2, m3, m4, m5⟩
  · obtain ⟨cA, ty, mm, f, q1, q2, q3, q4, q5⟩ := iS_at hH c6 (show gTT[20]? = some (.inr _) from rfl) (by omega) m2
    refine x_ald hC rfl (ai := 5) rfl q1 q2 ⟨by omega, by omega⟩ q5 ?_
    refine x_nnN hC rfl ?_
    exact no (by unfold bkD; rw [if_pos hn, m1]; rfl)
  · obtain ⟨cA, ty, mm, f, q1, q2, q3, q4, q5⟩ := iS_at hH c6 (show gTT[20]? = some (.inr _) from rfl) (by omega) m2
    refine x_ald hC rfl (ai := 5) rfl q1 q2 ⟨by omega, by omega⟩ q5 ?_
    refine x_nn (t := 20) hC rfl (by decide) ?_
    refine x_lda hC rfl rfl rfl ?_
    refine x_get hC rfl rfl hH ha gS_at rfl (by decide) c1 ?_
    refine x_lda hC rfl rfl rfl ?_
    refine x_get hC rfl rfl hH ha gS_at rfl (by decide) c5 ?_
    refine x_ldi hC rfl rfl rfl ?_
    refine x_ald hC rfl (ai := 5) rfl q1 q2 ⟨by omega, by omega⟩ q5 ?_
    refine x_callZ (E2 := gE g tys B0 (hGI X.2.2.2.2.1.heap (fun H => dS g H w = some (.int y) ∧ ∀ v, τ v = some 2 → v ≠ w → dS g H v = dS g X.2.2.2.2.1.heap v))) (K2 := K_cpW) (as := [.ref w, .ref u]) (rest := []) (s_callV (cc := cX11_back) (C := RX10) hF hK hts gGood (C_cpW (l := X.2.1) h0 hu hT X.2.2.2.2.1.heap w u c2 m3 y m5) wk_X10_copyFrom.1 wk_X10_copyFrom.2.1 wl_RX11_303 wk_X10_copyFrom.2.2.1 wk_X10_copyFrom.2.2.2 rfl rfl rfl rfl rfl wd_X10_copyFrom ⟨by rw [hr]; decide, by rw [hr]; decide⟩ (dec_X11_back (30, .invokevirtual 303, 3) (List.mem_of_getElem? (i := 18) rfl))) rfl rfl (k_HT_g hH) ⟨rfl, fun i z hz => ?_, trivial, List.forall_mem_cons.mpr ⟨⟨fun _ => rfl, fun z => (by cases z)⟩, List.forall_mem_nil _⟩⟩ rfl (by decide) (fun H1 v1 hp1 => ?_)
    · match i, hz with
      | 0, hz => cases hz; exact ⟨_, rfl, Or.inr ⟨_, 2, rfl, List.mem_singleton.mpr rfl, c2⟩⟩
      | 1, hz => cases hz; exact ⟨_, rfl, Or.inr ⟨_, 2, rfl, List.mem_singleton.mpr rfl, m3⟩⟩
      | n + 2, hz => cases hz
    obtain ⟨p1, f1, p3, rfl⟩ := s_postV hp1
    obtain ⟨d1, d2⟩ := (p3 1 List.mem_cons_self).2 rfl
    have hH1 : k_HT (gE g tys B0 (hGI X.2.2.2.2.1.heap P)) τ H1 := k_HT_g p1
    have f1' : k_fr (gE g tys B0 (hGI X.2.2.2.2.1.heap P)) τ cpM X.2.2.2.2.1.heap H1 := k_fr_g f1
    have hcv1 : CV g a τ H1 y.toInt im := by
      have k1 : fS g H1 a 11 1 = fS g X.2.2.2.2.1.heap a 11 1 := (f1'.2.2 a 0 ha).1 _ gS_at 1 (by decide) (by decide)
      have k2 : fS g H1 a 11 2 = fS g X.2.2.2.2.1.heap a 11 2 := (f1'.2.2 a 0 ha).1 _ gS_at 2 (by decide) (by decide)
      have k4 : ∀ k, iS H1 b k = iS X.2.2.2.2.1.heap b k := fun k => by
        unfold iS
        rw [(f1'.2.2 b 20 c6).2 _ (show gTT[20]? = some (.inr _) from rfl) (by decide)]
      refine ⟨w, b, y, by rw [k1]; exact c1, c2, d1, rfl, by rw [k2]; exact c5, c6, fun k hk => ?_, fun j k p hj hk t1 t2 => c8 j k p hj hk (by rw [← k4 j]; exact t1) (by rw [← k4 k]; exact t2)⟩
      rcases c7 k hk with ⟨t1, t2⟩ | ⟨u', y', t1, t2, t3, t4, t5⟩
      · exact Or.inl ⟨t1, by rw [k4]; exact t2⟩
      · exact Or.inr ⟨u', y', t1, by rw [k4]; exact t2, t3, t4, by rw [d2 u' t3 t4]; exact t5⟩
    refine x_lda hC rfl rfl rfl ?_
    refine x_cst hC rfl rfl ?_
    refine x_put hC rfl rfl hH1 ha gS_at rfl (k := 7) rfl ⟨_, rfl, by rw [z0]; decide, by rw [z0]; decide⟩ (fun H2 hH2 f2 w2 o2 => ?_)
    have hcv2 : CV g a τ H2 y.toInt im := CV_fr f2 ha (by decide) hcv1
    obtain ⟨w2', b2, x2, v1, v2, v3, v4, v5, -⟩ := hcv2
    obtain ⟨s, fs, ts⟩ := tR_in h0 hH2 v2 gW_at (k := 1) (u := 4) rfl
    obtain ⟨xh, fh, -, -⟩ := tI_in h0 hH2 ts (show gTT[4]? = some (.inl (6, _)) from rfl) (k := 5) rfl
    refine x_lda hC rfl rfl rfl ?_
    refine x_get hC rfl rfl hH2 ha gS_at rfl (by decide) v1 ?_
    refine x_get hC rfl rfl hH2 v2 gW_at rfl (by decide) fs ?_
    refine x_get hC rfl rfl hH2 ts (show gTT[4]? = some (.inl (6, _)) from rfl) rfl (by decide) fh ?_
    refine x_iret hC rfl ⟨hH2, k_fr_trans (k_frU f1' (fun q hq => List.mem_cons_of_mem _ hq)) f2 (by decide), List.forall_mem_cons.mpr ⟨⟨fun z => (by cases z), fun _ => ?_⟩, List.forall_mem_nil _⟩, _, List.mem_cons_self, ⟨_, rfl, _, rfl, k_in_top _⟩, fun _ h => (by cases h), fun _ h => (by cases h)⟩
    rw [hP]
    show CV g a τ H2 (bkD d im n) im
    have hb : bkD d im n = y.toInt := by unfold bkD; rw [if_pos hn, m1]; rfl
    rw [hb]
    exact CV_fr f2 ha (by decide) hcv1
end
