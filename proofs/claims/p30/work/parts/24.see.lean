/-! ===== see: over spaces ===== -/
section
variable {l : Launch} {g : va_G} {tys : List (ClassId × FieldType)} {B0 : Nat} {τ : kTau}
/-- what see has seen -/
theorem see_end (h0 : gE1 g) {GI : kGI} {X : kX} {cc : ByteArray} {own : String} {K : kCtr} {ps : List Value} {H : Heap} {a : Nat} {xn xt : Int32} {L : List (Nat × Value)} (hC : xC X (gE g tys B0 GI) 1 τ cc own I_X12_see gFL12 gCI12 gCJ12 K 1 ps) (hL : k_lv L 0 = some (.ref a)) (hH : k_HT (gE g tys B0 GI) τ H) (ha : τ a = some 11) (fn : (H[a]?).bind (fun c => c.slots[g.2 12 8]?) = some (.int xn)) (ft : (H[a]?).bind (fun c => c.slots[g.2 12 1]?) = some (.int xt)) (bn : 0 ≤ xn.toInt) (bt : xt.toInt ≤ 400)
    (k1 : ¬ xn.toInt < xt.toInt → k_post (gE g tys B0 GI) τ X.2.2.2.2.1.heap H K ps (some (.int (-1)))) (k2 : xn.toInt < xt.toInt → ∀ y : Int32, 0 ≤ y.toInt → y.toInt ≤ 255 → k_post (gE g tys B0 GI) τ X.2.2.2.2.1.heap H K ps (some (.int y))) : kx X (gE g tys B0 GI) H 38 1 L [] := by
  obtain ⟨b0, f0, t0, e0⟩ := vR_in h0 hH ha (k := 0) (t := 32) rfl
  obtain ⟨cA, ty, m, f, q1, q2, q3, q4, q5⟩ := k_arr hH t0 (show gTT[32]? = some (.inr _) from rfl)
  have q3 : 400 ≤ m := q3
  refine x_lda hC rfl rfl hL ?_
  refine x_get hC rfl rfl hH ha gM_at rfl (by decide) fn ?_
  refine x_lda hC rfl rfl hL ?_
  refine x_get hC rfl rfl hH ha gM_at rfl (by decide) ft ?_
  refine x_icmp (t := 65) hC rfl (by decide) (fun z => ?_) (fun z => ?_)
  · have z : xt.toInt ≤ xn.toInt := z
    refine x_cst hC rfl rfl ?_
    exact x_iret hC rfl (k1 (by omega))
  · have z : ¬ xt.toInt ≤ xn.toInt := z
    obtain ⟨y, hy, -⟩ := q5 xn.toInt.toNat (by omega)
    refine x_lda hC rfl rfl hL ?_
    refine x_get hC rfl rfl hH ha gM_at rfl (by decide) f0 ?_
    refine x_lda hC rfl rfl hL ?_
    refine x_get hC rfl rfl hH ha gM_at rfl (by decide) fn ?_
    refine x_ald hC rfl (ai := 1) rfl q1 q2 ⟨bn, by omega⟩ hy ?_
    refine x_cst hC rfl rfl ?_
    refine x_bin hC rfl rfl ?_
    refine x_goto (t := 66) hC rfl (by decide) ?_
    have hb : k_in (0, 255) (k_binV .iand y (Int32.ofInt 255)).toInt := k_andI_ok (p := k_top) (q := (255, 255)) (k_in_top y) ⟨by decide, by decide⟩
    exact x_iret hC rfl (k2 (by omega) _ hb.1 hb.2)
theorem see_loop (h0 : gE1 g) {GI : kGI} {X : kX} {cc : ByteArray} {own : String} {K : kCtr} {ps : List Value} {a : Nat} {L : List (Nat × Value)} (hC : xC X (gE g tys B0 GI) 1 τ cc own I_X12_see gFL12 gCI12 gCJ12 K 1 ps) (hL : k_lv L 0 = some (.ref a)) (ha : τ a = some 11)
    (kk : ∀ (H : Heap) (xn xt : Int32), k_HT (gE g tys B0 GI) τ H → k_fr (gE g tys B0 GI) τ [(11, 8)] X.2.2.2.2.1.heap H → vI g H a 8 = xn.toInt → vI g H a 1 = xt.toInt → (¬ xn.toInt < xt.toInt → k_post (gE g tys B0 GI) τ X.2.2.2.2.1.heap H K ps (some (.int (-1)))) ∧ (xn.toInt < xt.toInt → vA g H a 0 xn.toInt.toNat ≠ 32 → ∀ y : Int32, 0 ≤ y.toInt → y.toInt ≤ 255 → k_post (gE g tys B0 GI) τ X.2.2.2.2.1.heap H K ps (some (.int y)))) :
    ∀ (N : Nat) (H : Heap), k_HT (gE g tys B0 GI) τ H → k_fr (gE g tys B0 GI) τ [(11, 8)] X.2.2.2.2.1.heap H → (400 - vI g H a 8).toNat < N → kx X (gE g tys B0 GI) H 0 1 L [] := by
  intro N
  induction N with
  | zero => intro H _ _ h; omega
  | succ N ih =>
    intro H hH hf hN
    obtain ⟨b0, f0, t0, e0⟩ := vR_in h0 hH ha (k := 0) (t := 32) rfl
    obtain ⟨cA, ty, m, f, q1, q2, q3, q4, q5⟩ := k_arr hH t0 (show gTT[32]? = some (.inr _) from rfl)
    have q3 : 400 ≤ m := q3
    obtain ⟨xn, fn, en, n1, n2⟩ := vI_in h0 hH ha (k := 8) rfl
    obtain ⟨xt, ft, et, t1, t2⟩ := vI_in h0 hH ha (k := 1) rfl
    have n1 : 0 ≤ xn.toInt := n1
    have t2 : xt.toInt ≤ 400 := t2
    obtain ⟨k1, k2⟩ := kk H xn xt hH hf en et
    refine x_lda hC rfl rfl hL ?_
    refine x_get hC rfl rfl hH ha gM_at rfl (by decide) fn ?_
    refine x_lda hC rfl rfl hL ?_
    refine x_get hC rfl rfl hH ha gM_at rfl (by decide) ft ?_
    refine x_icmp (t := 38) hC rfl (by decide) (fun z => ?_) (fun z => ?_)
    · have z : xt.toInt ≤ xn.toInt := z
      exact see_end h0 hC hL hH ha fn ft n1 t2 k1 (fun z2 => absurd z2 (by omega))
    · have z : ¬ xt.toInt ≤ xn.toInt := z
      obtain ⟨y, hy, -⟩ := q5 xn.toInt.toNat (by omega)
      refine x_lda hC rfl rfl hL ?_
      refine x_get hC rfl rfl hH ha gM_at rfl (by decide) f0 ?_
      refine x_lda hC rfl rfl hL ?_
      refine x_get hC rfl rfl hH ha gM_at rfl (by decide) fn ?_
      refine x_ald hC rfl (ai := 1) rfl q1 q2 ⟨n1, by omega⟩ hy ?_
      refine x_cst hC rfl rfl ?_
      have e32 : (Int32.ofInt 32).toInt = 32 := i_of (by decide) (by decide)
      refine x_icmp (t := 38) hC rfl (by decide) (fun z2 => ?_) (fun z2 => ?_)
      · have z2 : ¬ y.toInt = (Int32.ofInt 32).toInt := z2
        rw [e32] at z2
        exact see_end h0 hC hL hH ha fn ft n1 t2 k1 (fun z3 => k2 z3 (by rw [e0, vE_at q2 (by omega) hy]; exact z2))
      · have hx1 : (k_binV .iadd xn (Int32.ofInt 1)).toInt = xn.toInt + 1 := i_add (by rw [i_of (by decide) (by decide)]) (by omega) (by omega)
        refine x_lda hC rfl rfl hL ?_
        refine x_dup hC rfl rfl ?_
        refine x_get hC rfl rfl hH ha gM_at rfl (by decide) fn ?_
        refine x_cst hC rfl rfl ?_
        refine x_bin hC rfl rfl ?_
        refine x_put hC rfl rfl hH ha gM_at rfl (k := 8) rfl ⟨_, rfl, by rw [hx1]; omega, by rw [hx1]; show _ ≤ (400 : Int); omega⟩ (fun H1 hH1 fr1 w1 o1 => ?_)
        refine x_goto (t := 0) hC rfl (by decide) ?_
        refine ih H1 hH1 (k_fr_trans hf fr1 (fun _ h => h)) ?_
        have w1 : (H1[a]?).bind (fun c => c.slots[g.2 12 8]?) = some (.int (k_binV .iadd xn (Int32.ofInt 1))) := w1
        have : vI g H1 a 8 = xn.toInt + 1 := by unfold vI; rw [w1]; exact hx1
        rw [this]
        rw [en] at hN
        omega
theorem see_arg {GI : kGI} {H : Heap} {K : kCtr} {ps : List Value} (hK : K.1 = [.inr (.inr (.inl (false, [11])))]) (hp : k_pre (gE g tys B0 GI) τ H K ps) : ∃ a, ps = [.ref a] ∧ τ a = some 11 := by
  obtain ⟨p1, p2, -⟩ := hp
  rw [hK] at p1 p2
  match ps, p1 with
  | [w0], _ =>
    obtain ⟨u0, z0, o0⟩ := p2 0 _ rfl
    obtain ⟨a, r0, ha⟩ := k_refOk o0
    have y0 : w0 = .ref a := by simpa [r0] using z0
    subst y0
    exact ⟨a, rfl, ha⟩
theorem see_post (h0 : gE1 g) (hu : gU τ) {c : gGh} {H0 H : Heap} {a : Nat} {xn xt y : Int32} {K : kCtr} (hK : K.2.2.2.1 = [(11, 8)] ∧ K.2.2.2.2.2 = [] ∧ (some (.inl (0, 255)), [], [(0, 8, .inl (0, 399)), (1071, 0, .inl (0, 1))]) ∈ K.2.2.1) (hH : k_HT (gE g tys B0 (gGI g c)) τ H) (hf : k_fr (gE g tys B0 (gGI g c)) τ [(11, 8)] H0 H) (ha : τ a = some 11) (en : vI g H a 8 = xn.toInt) (et : vI g H a 1 = xt.toInt) (z : xn.toInt < xt.toInt) (z2 : vA g H a 0 xn.toInt.toNat ≠ 32) (y1 : 0 ≤ y.toInt) (y2 : y.toInt ≤ 255) : k_post (gE g tys B0 (gGI g c)) τ H0 H K [.ref a] (some (.int y)) := by
  obtain ⟨x, fx, ex, l1, l2⟩ := vI_in h0 hH ha (k := 8) rfl
  obtain ⟨x', fx', ex', l1', l2'⟩ := vI_in h0 hH ha (k := 1) rfl
  have l1 : 0 ≤ x.toInt := l1
  have l2' : x'.toInt ≤ 400 := l2'
  refine ⟨hH, by rw [hK.1]; exact hf, by rw [hK.2.1]; exact fun _ h => (by cases h), _, hK.2.2, ⟨_, rfl, y, rfl, y1, y2⟩, fun _ h => (by cases h), ?_⟩
  refine List.forall_mem_cons.mpr ⟨⟨fun _ => ⟨_, rfl, a, 11, (12, gMF), .int x, rfl, ha, gM_at, by decide, fx, x, rfl, l1, ?_⟩, fun z => absurd z (by decide)⟩, List.forall_mem_cons.mpr ⟨⟨fun z => absurd z (by decide), fun _ => gGI_put (i := 71) (by decide) ha (gU_of hu ha) (show vI g H a 8 < vI g H a 1 ∧ vA g H a 0 (vI g H a 8).toNat ≠ 32 by rw [en, et]; exact ⟨z, z2⟩)⟩, List.forall_mem_nil _⟩⟩
  show x.toInt ≤ (399 : Int)
  rw [← ex, en]
  rw [et] at ex'
  omega
theorem C_X12_see (h0 : gE1 g) (hu : gU τ) (hT : ∀ GI, k_tys (gE g tys B0 GI)) (c : gGh) : k_Met l (gE g tys B0 (gGI g c)) τ gTB yX12_see cX12_see 1 1 K_X12_see ⟨0, 0, 0, 0⟩ := by
  refine x_met (I := I_X12_see) (FL := gFL12) (CI := gCI12) (CJ := gCJ12) (by decide +kernel) dec_X12_see (fun X hts => ⟨gFLk12 hts, gCIk12 hts, gCJk12 hts⟩) (gEok0 h0) (hT _) (fun _ => by show 1 ≤ 1; decide) ?_
  intro X ps hl hr hts hC hH hpre
  obtain ⟨a, rfl, ha⟩ := see_arg rfl hpre
  obtain ⟨x, fx, ex, l1, l2⟩ := vI_in h0 hH ha (k := 8) rfl
  have l1 : 0 ≤ x.toInt := l1
  refine see_loop h0 hC rfl ha (fun H xn xt hH' hf en et => ⟨fun z => ?_, fun z z2 y y1 y2 => see_post h0 hu ⟨rfl, rfl, List.mem_of_getElem? (i := 1) rfl⟩ hH' hf ha en et z z2 y1 y2⟩) 401 _ hH k_fr_refl (by rw [ex]; omega)
  exact ⟨hH', hf, fun _ h => (by cases h), _, List.mem_cons_self, ⟨_, rfl, -1, rfl, by decide, by decide⟩, fun _ h => (by cases h), fun _ h => (by cases h)⟩
theorem C_X12_see_71 (h0 : gE1 g) (hu : gU τ) (hT : ∀ GI, k_tys (gE g tys B0 GI)) (c : gGh) : k_Met l (gE g tys B0 (gGI g c)) τ gTB yX12_see cX12_see 1 1 K_X12_see_71 ⟨0, 0, 0, 0⟩ := by
  refine x_met (I := I_X12_see) (FL := gFL12) (CI := gCI12) (CJ := gCJ12) (by decide +kernel) dec_X12_see (fun X hts => ⟨gFLk12 hts, gCIk12 hts, gCJk12 hts⟩) (gEok0 h0) (hT _) (fun _ => by show 1 ≤ 1; decide) ?_
  intro X ps hl hr hts hC hH hpre
  obtain ⟨a, rfl, ha⟩ := see_arg rfl hpre
  have hg := hpre.2.2.2 71 List.mem_cons_self
  have hg := (hg.2.2 a ha).2
  have hg : vI g X.2.2.2.2.1.heap a 8 < vI g X.2.2.2.2.1.heap a 1 ∧ vA g X.2.2.2.2.1.heap a 0 (vI g X.2.2.2.2.1.heap a 8).toNat ≠ 32 := hg
  obtain ⟨b0, f0, t0, e0⟩ := vR_in h0 hH ha (k := 0) (t := 32) rfl
  obtain ⟨cA, ty, m, f, q1, q2, q3, q4, q5⟩ := k_arr hH t0 (show gTT[32]? = some (.inr _) from rfl)
  have q3 : 400 ≤ m := q3
  obtain ⟨xn, fn, en, n1, n2⟩ := vI_in h0 hH ha (k := 8) rfl
  obtain ⟨xt, ft, et, t1, t2⟩ := vI_in h0 hH ha (k := 1) rfl
  have n1 : 0 ≤ xn.toInt := n1
  have t2 : xt.toInt ≤ 400 := t2
  rw [en, et] at hg
  obtain ⟨y, hy, -⟩ := q5 xn.toInt.toNat (by omega)
  have e32 : (Int32.ofInt 32).toInt = 32 := i_of (by decide) (by decide)
  refine x_lda hC rfl rfl rfl ?_
  refine x_get hC rfl rfl hH ha gM_at rfl (by decide) fn ?_
  refine x_lda hC rfl rfl rfl ?_
  refine x_get hC rfl rfl hH ha gM_at rfl (by decide) ft ?_
  refine x_icmp (t := 38) hC rfl (by decide) (fun z => ?_) (fun z => ?_)
  · have z : xt.toInt ≤ xn.toInt := z
    omega
  refine x_lda hC rfl rfl rfl ?_
  refine x_get hC rfl rfl hH ha gM_at rfl (by decide) f0 ?_
  refine x_lda hC rfl rfl rfl ?_
  refine x_get hC rfl rfl hH ha gM_at rfl (by decide) fn ?_
  refine x_ald hC rfl (ai := 1) rfl q1 q2 ⟨n1, by omega⟩ hy ?_
  refine x_cst hC rfl rfl ?_
  refine x_icmp (t := 38) hC rfl (by decide) (fun z2 => ?_) (fun z2 => ?_)
  · exact see_end h0 hC rfl hH ha fn ft n1 t2 (fun z3 => absurd hg.1 z3) (fun z3 y y1 y2 => see_post h0 hu ⟨rfl, rfl, List.mem_of_getElem? (i := 0) rfl⟩ hH k_fr_refl ha en et hg.1 hg.2 y1 y2)
  · refine absurd ?_ z2
    show ¬ y.toInt = (Int32.ofInt 32).toInt
    rw [e32, ← vE_at q2 (by omega) hy, ← e0]
    exact hg.2
end
