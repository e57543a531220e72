/-! ===== push, pop, reckons, summedBy: the stack is as high as the signs say ===== -/
theorem i_and15 (y : Int32) : (y &&& Int32.ofInt 15).toInt = y.toInt % 16 := by
  have e15 : (Int32.ofInt 15).toBitVec = 15#32 := by decide
  show ((y &&& Int32.ofInt 15).toBitVec).toInt = y.toBitVec.toInt % 16
  rw [Int32.toBitVec_and, e15]
  have h1 : (y.toBitVec &&& 15#32).toNat = y.toBitVec.toNat % 16 := by
    rw [BitVec.toNat_and]
    exact Nat.and_two_pow_sub_one_eq_mod _ 4
  rw [BitVec.toInt_eq_toNat_cond, BitVec.toInt_eq_toNat_cond, h1]
  have := y.toBitVec.isLt
  split <;> split <;> omega
theorem i_shr4 (y : Int32) : (y >>> (Int32.ofInt 4 &&& 31)).toInt = y.toInt / 16 := by
  have e : Int32.ofInt 4 &&& 31 = 4 := by decide
  rw [e, k_shr_to (by decide) (by decide)]
  rfl
theorem hs_pre {f : Nat → Int} {b : Nat} : ∀ {n h : Nat}, hs f b n = some h → ∀ j, j ≤ n → ∃ h', hs f b j = some h'
  | 0, h, e, j, hj => by
    have : j = 0 := by omega
    subst this
    exact ⟨h, e⟩
  | n + 1, h, e, j, hj => by
    by_cases c : j = n + 1
    · subst c
      exact ⟨h, e⟩
    · unfold hs at e
      cases hn : hs f b n with
      | none => rw [hn] at e; cases e
      | some h' => exact hs_pre hn j (by omega)
theorem hst_le {x : Int} {h h' : Nat} (e : hst x h = some h') (hh : h ≤ 64) : h' ≤ 64 := by
  unfold hst at e
  split at e
  · split at e
    · cases e; omega
    · cases e
  · split at e
    · split at e
      · cases e; omega
      · cases e
    · split at e
      · split at e
        · cases e; exact hh
        · cases e
      · split at e
        · cases e; omega
        · cases e
theorem hs_le {f : Nat → Int} {b : Nat} : ∀ {n h : Nat}, hs f b n = some h → h ≤ 64
  | 0, h, e => by cases e; omega
  | n + 1, h, e => by
    unfold hs at e
    cases hn : hs f b n with
    | none => rw [hn] at e; cases e
    | some h' => rw [hn] at e; exact hst_le e (hs_le hn)
def tGI (g : va_G) (d : Int) : kGI := fun i τ H => ∀ a, τ a = some 11 → vI g H a 19 = d + (i : Int)
def qGI (g : va_G) (t b n : Nat) : kGI := fun _ τ H => ∀ a, τ a = some 11 → hs (vA g H a 3) (400 * t + b) n = some 1
def K_push : kCtr := ([.inr (.inr (.inl (false, [11]))), kL], [], [(none, [], [])], [(39, 0), (11, 19)], [0], [1])
def K_pop : kCtr := ([.inr (.inr (.inl (false, [11])))], [], [(some kL, [], [])], [(11, 19)], [1], [0])
def K_rk (t b n : Nat) : kCtr := ([.inr (.inr (.inl (false, [11]))), .inl ((t : Int), (t : Int)), .inl ((b : Int), (b : Int)), .inl (((b + n : Nat) : Int), ((b + n : Nat) : Int))], [], [(some kL, [], [])], [(39, 0), (11, 19)], [0], [])
theorem s_postJ {E : kE} {τ : kTau} {H H' : Heap} {P : List kInfo} {fs : List (Nat × Nat × kInfo)} {m : List (Nat × Nat)} {gp gq : List Nat} {as : List Value} {v : Option Value} (hp : k_post E τ H H' (P, fs, [(some kL, [], [])], m, gp, gq) as v) : k_HT E τ H' ∧ k_fr E τ m H H' ∧ (∀ i ∈ gq, E.2.2.2.2.2.1 i τ H') ∧ ∃ x : Int64, v = some (.long x) := by
  obtain ⟨p1, p2, p3, A, hA, hA2⟩ := hp
  obtain rfl := List.mem_singleton.mp hA
  obtain ⟨⟨w, hw, x, hx, hq⟩, -, -⟩ := hA2
  subst hx
  exact ⟨p1, p2, p3, x, hw⟩
theorem k_okL {τ : kTau} {x : Int64} : k_ok τ kL (.long x) := by
  have h1 : -9223372036854775808 ≤ x.toInt := by simpa using Int64.le_toInt x
  have h2 : x.toInt < 9223372036854775808 := by simpa using Int64.toInt_lt x
  exact ⟨x, rfl, h1, by show _ ≤ (9223372036854775807 : Int); omega⟩
section
variable {X : kX} {E : kE} {nL : Nat} {τ : kTau} {cc : ByteArray} {own : String} {I : List (Nat × Instr × Nat)} {FL : List (Nat × Nat × Nat × Nat)} {CI CJ : List (Nat × Int)} {K : kCtr} {rk : Nat} {ps : List Value} {H : Heap} {pc : Nat} {L : List (Nat × Value)} {st : List Value} {i : Instr} {n : Nat}
/-- a long is stored into an array of longs -/
theorem x_last {a m t : Nat} {cA : ClassId} {f : Nat → Value} {x : Int32} {y : Int64} {d : Nat × Nat × Nat × List (Nat × Nat × kInfo) × kInfo} (hC : xC X E nL τ cc own I FL CI CJ K rk ps) (h : k_cd I pc = some (.lastore, 1)) (hH : k_HT E τ H) (ha : τ a = some t) (ht : E.2.2.2.1[t]? = some (.inr d)) (h0 : d.1 = 3) (hc : H[a]? = some (arrV cA m f)) (hx : 0 ≤ x.toInt ∧ x.toInt < (m : Int)) (hv : k_ok τ (k_el d.2.2.2.1 d.2.2.2.2 x.toInt.toNat) (.long y))
    (kk : ∀ H' : Heap, k_HT E τ H' → k_fr E τ [(t, 0)] H H' → (∀ b : Nat, b ≠ a → H'[b]? = H[b]?) → kx X E H' (pc + 1) nL L st) : kx X E H pc nL L (.long y :: .int x :: .ref a :: st) := by
  have hF := xF hC
  have hT := xT hC
  have hK := xK hC
  have hdc := xD hC _ (k_cd_ok h)
  intro locs hl ls hls
  obtain ⟨cA', ty, m', f', p1, p2, p3, p4, p5⟩ := k_arr hH ha ht
  have hsz : m = m' := by
    have hs : (arrV cA m f).slots.size = (arrV cA' m' f').slots.size := by rw [Option.some.inj (hc.symm.trans p2)]
    rwa [arrV_size, arrV_size] at hs
  subst hsz
  have hcls : cA = cA' := by
    have := Option.some.inj (hc.symm.trans p2)
    exact congrArg Cell.cls this
  subst hcls
  have hff : ∀ j, j < m → f' j = f j := fun j hj => by
    have r1 := arrV_read cA f hj
    have r2 := arrV_read cA f' hj
    rw [Option.some.inj (hc.symm.trans p2), r2] at r1
    exact Option.some.inj r1
  rw [h0] at p1
  have hin := k_idx hx cA f
  obtain ⟨rfl⟩ := (hT 3 cA ty p1).2.2.2.1 rfl
  refine W.last hF.1 hF.2.1 hc ((hK.2 3 _ p1).1 m f) (fun z => by cases z) hin rfl rfl hdc (fun H' e1 e2 e3 => ?_)
  obtain ⟨g1, g2⟩ := k_awrite hH ha ht (show E.2.2.1[d.1]? = some (cA, .long) by rw [h0]; exact p1) hc p3 p4 (fun j hj => by rw [← hff j hj]; exact p5 j hj) hv e1 e2 e3
  refine kk H' g1 g2 e3 _ (fun z hz => ?_) ls hls
  rcases List.mem_append.mp hz with e' | e'
  · exact hl z e'
  · rw [List.mem_singleton.mp e']; exact (hH a t ha).1
theorem x_i2l {x : Int32} (hC : xC X E nL τ cc own I FL CI CJ K rk ps) (h : k_cd I pc = some (.i2l, 1)) (k : ∀ y : Int64, kx X E H (pc + 1) nL L (.long y :: st)) : kx X E H pc nL L (.int x :: st) := by
  have hF := xF hC
  have hdc := xD hC _ (k_cd_ok h)
  intro locs hl ls hls
  exact lv_i2l hF.1 hF.2.1 hdc rfl (k _ locs hl ls hls)
theorem x_lsub {x y : Int64} (hC : xC X E nL τ cc own I FL CI CJ K rk ps) (h : k_cd I pc = some (.lsub, 1)) (k : ∀ z : Int64, kx X E H (pc + 1) nL L (.long z :: st)) : kx X E H pc nL L (.long y :: .long x :: st) := by
  have hF := xF hC
  have hdc := xD hC _ (k_cd_ok h)
  intro locs hl ls hls
  exact lv_lsub hF.1 hF.2.1 hdc (k _ locs hl ls hls)
theorem x_lcmp {x y : Int64} (hC : xC X E nL τ cc own I FL CI CJ K rk ps) (h : k_cd I pc = some (.lcmp, 1)) (k : ∀ z : Int32, kx X E H (pc + 1) nL L (.int z :: st)) : kx X E H pc nL L (.long y :: .long x :: st) := by
  have hF := xF hC
  have hdc := xD hC _ (k_cd_ok h)
  intro locs hl ls hls
  exact W.lcmp hF.1 hF.2.1 hdc (k _ locs hl ls hls)
theorem x_sub0 {L' : List (Nat × Value)} (h : ∀ q ∈ L, q ∈ L') (k : kx X E H pc nL L st) : kx X E H pc nL L' st := fun locs hl ls hls => k locs hl ls ⟨hls.1, hls.2.1, fun q hq => hls.2.2 q (h q hq)⟩
end
section
variable {l : Launch} {g : va_G} {tys : List (ClassId × FieldType)} {B0 : Nat} {τ : kTau}
/-- a field that is an array of ints -/
theorem ar_in (h0 : gE1 g) {GI : kGI} {H : Heap} {a k t n0 n1 : Nat} {q : kB} (hH : k_HT (gE g tys B0 GI) τ H) (ha : τ a = some 11) (hx : gMF[k]? = some (.inr (.inr (.inl (false, [t]))))) (hd : gTT[t]? = some (.inr (0, n0, n1, [], .inl q))) : ∃ (b : Nat) (cA : ClassId) (ty : FieldType) (m : Nat) (f : Nat → Value), (H[a]?).bind (fun c => c.slots[g.2 12 k]?) = some (.ref b) ∧ τ b = some t ∧ tys[0]? = some (cA, ty) ∧ H[b]? = some (arrV cA m f) ∧ n0 ≤ m ∧ vA g H a k = vE H b ∧ ∀ j, j < m → ∃ y : Int32, f j = .int y ∧ q.1 ≤ y.toInt ∧ y.toInt ≤ q.2 := by
  obtain ⟨b, fb, tb, eb⟩ := vR_in h0 hH ha hx
  obtain ⟨cA, ty, m, f, q1, q2, q3, q4, q5⟩ := k_arr hH tb hd
  exact ⟨b, cA, ty, m, f, fb, tb, q1, q2, q3, eb, fun j hj => by obtain ⟨y, hy, hq⟩ := q5 j hj; exact ⟨y, hy, hq.1, hq.2⟩⟩
theorem m_arg1 {GI : kGI} {H : Heap} {K : kCtr} {ps : List Value} {x : kInfo} (hK : K.1 = [.inr (.inr (.inl (false, [11]))), x]) (hp : k_pre (gE g tys B0 GI) τ H K ps) : ∃ (a : Nat) (v : Value), ps = [.ref a, v] ∧ τ a = some 11 ∧ k_ok τ x v := by
  obtain ⟨p1, p2, -⟩ := hp
  rw [hK] at p1 p2
  match ps, p1 with
  | [w0, w1], _ =>
    obtain ⟨u0, z0, o0⟩ := p2 0 _ rfl
    obtain ⟨u1, z1, o1⟩ := p2 1 _ rfl
    obtain ⟨a, r0, ha⟩ := k_refOk o0
    have y0 : w0 = .ref a := by simpa [r0] using z0
    have y1 : w1 = u1 := by simpa using z1
    subst y0; subst y1
    exact ⟨a, w1, rfl, ha, o1⟩
theorem X_push (h0 : gE1 g) (hu : gU τ) (hT : ∀ GI, k_tys (gE g tys B0 GI)) (d : Int) (d1 : 0 ≤ d) (d2 : d ≤ 63) : k_Met l (gE g tys B0 (tGI g d)) τ gTB yX12_push cX12_push 3 0 K_push ⟨0, 0, 0, 0⟩ := by
  refine x_met (I := I_X12_push) (FL := gFL12) (CI := gCI12) (CJ := gCJ12) (by decide +kernel) dec_X12_push (fun X hts => ⟨gFLk12 hts, gCIk12 hts, gCJk12 hts⟩) (gEok0 h0) (hT _) (fun _ => by show 3 ≤ 3; decide) ?_
  intro X ps hl hr hts hC hH hpre
  obtain ⟨a, v, rfl, ha, w, rfl, -⟩ := m_arg1 rfl hpre
  have hg0 : vI g X.2.2.2.2.1.heap a 19 = d + ((0 : Nat) : Int) := hpre.2.2.2 0 List.mem_cons_self a ha
  obtain ⟨b, fb, tb, -⟩ := vR_in h0 hH ha (k := 18) (t := 39) rfl
  obtain ⟨cA, ty, m, f, q1, q2, q3, q4, q5⟩ := k_arr hH tb (show gTT[39]? = some (.inr _) from rfl)
  have q3 : 64 ≤ m := q3
  obtain ⟨xd, fd, ed, -, -⟩ := vI_in h0 hH ha (k := 19) rfl
  rw [ed] at hg0
  have hinc : (k_binV .iadd xd (Int32.ofInt 1)).toInt = d + 1 := i_add (by rw [i_of (by decide) (by decide)]; omega) (by omega) (by omega)
  refine x_lda hC rfl rfl rfl ?_
  refine x_get hC rfl rfl hH ha gM_at rfl (by decide) fb ?_
  refine x_lda hC rfl rfl rfl ?_
  refine x_get hC rfl rfl hH ha gM_at rfl (by decide) fd ?_
  refine x_ldl hC rfl rfl rfl ?_
  refine x_last hC rfl hH tb (show gTT[39]? = some (.inr _) from rfl) rfl q2 ⟨by omega, by omega⟩ k_okL (fun H1 hH1 fr1 o1 => ?_)
  have nab : a ≠ b := fun z => by rw [← z, ha] at tb; cases tb
  have fd1 : (H1[a]?).bind (fun c => c.slots[g.2 12 19]?) = some (.int xd) := by rw [o1 a nab]; exact fd
  refine x_lda hC rfl rfl rfl ?_
  refine x_dup hC rfl rfl ?_
  refine x_get hC rfl rfl hH1 ha gM_at rfl (by decide) fd1 ?_
  refine x_cst hC rfl rfl ?_
  refine x_bin hC rfl rfl ?_
  refine x_put hC rfl rfl hH1 ha gM_at rfl (k := 19) rfl ⟨_, rfl, by rw [hinc]; show (0 : Int) ≤ _; omega, by rw [hinc]; show _ ≤ (64 : Int); omega⟩ (fun H2 hH2 fr2 w2 o2 => ?_)
  refine x_vret hC rfl ⟨hH2, k_fr_trans (k_frU fr1 (show ∀ q ∈ ([(39, 0)] : List (Nat × Nat)), q ∈ ([(39, 0), (11, 19)] : List (Nat × Nat)) by decide)) fr2 (show ∀ q ∈ ([(11, 19)] : List (Nat × Nat)), q ∈ ([(39, 0), (11, 19)] : List (Nat × Nat)) by decide), List.forall_mem_cons.mpr ⟨fun a' ha' => ?_, List.forall_mem_nil _⟩, _, List.mem_cons_self, rfl, fun _ h => (by cases h), fun _ h => (by cases h)⟩
  rw [gU_of hu ha a' ha']
  have w2 : (H2[a]?).bind (fun c => c.slots[g.2 12 19]?) = some (.int (k_binV .iadd xd (Int32.ofInt 1))) := w2
  unfold vI
  rw [w2]
  exact hinc
theorem X_pop (h0 : gE1 g) (hu : gU τ) (hT : ∀ GI, k_tys (gE g tys B0 GI)) (d : Int) (d1 : 0 ≤ d) (d2 : d ≤ 63) : k_Met l (gE g tys B0 (tGI g d)) τ gTB yX12_pop cX12_pop 1 3 K_pop ⟨0, 0, 0, 0⟩ := by
  refine x_met (I := I_X12_pop) (FL := gFL12) (CI := gCI12) (CJ := gCJ12) (by decide +kernel) dec_X12_pop (fun X hts => ⟨gFLk12 hts, gCIk12 hts, gCJk12 hts⟩) (gEok0 h0) (hT _) (fun _ => by show 1 ≤ 1; decide) ?_
  intro X ps hl hr hts hC hH hpre
  obtain ⟨a, rfl, ha⟩ := see_arg rfl hpre
  have hg0 : vI g X.2.2.2.2.1.heap a 19 = d + ((1 : Nat) : Int) := hpre.2.2.2 1 List.mem_cons_self a ha
  obtain ⟨xd, fd, ed, -, -⟩ := vI_in h0 hH ha (k := 19) rfl
  rw [ed] at hg0
  have hinc : (k_binV .isub xd (Int32.ofInt 1)).toInt = d := i_sub (by rw [i_of (by decide) (by decide)]; omega) (by omega) (by omega)
  refine x_lda hC rfl rfl rfl ?_
  refine x_dup hC rfl rfl ?_
  refine x_get hC rfl rfl hH ha gM_at rfl (by decide) fd ?_
  refine x_cst hC rfl rfl ?_
  refine x_bin hC rfl rfl ?_
  refine x_put hC rfl rfl hH ha gM_at rfl (k := 19) rfl ⟨_, rfl, by rw [hinc]; exact d1, by rw [hinc]; show _ ≤ (64 : Int); omega⟩ (fun H2 hH2 fr2 w2 o2 => ?_)
  have w2 : (H2[a]?).bind (fun c => c.slots[g.2 12 19]?) = some (.int (k_binV .isub xd (Int32.ofInt 1))) := w2
  obtain ⟨b, fb, tb, -⟩ := vR_in h0 hH2 ha (k := 18) (t := 39) rfl
  obtain ⟨cA, ty, m, f, q1, q2, q3, q4, q5⟩ := k_arr hH2 tb (show gTT[39]? = some (.inr _) from rfl)
  have q3 : 64 ≤ m := q3
  obtain ⟨y, hy, -⟩ := q5 (k_binV .isub xd (Int32.ofInt 1)).toInt.toNat (by rw [hinc]; omega)
  refine x_lda hC rfl rfl rfl ?_
  refine x_get hC rfl rfl hH2 ha gM_at rfl (by decide) fb ?_
  refine x_lda hC rfl rfl rfl ?_
  refine x_get hC rfl rfl hH2 ha gM_at rfl (by decide) w2 ?_
  refine x_ald hC rfl (ai := 3) rfl q1 q2 ⟨by rw [hinc]; exact d1, by rw [hinc]; omega⟩ hy ?_
  refine x_lret hC rfl ⟨hH2, fr2, List.forall_mem_cons.mpr ⟨fun a' ha' => ?_, List.forall_mem_nil _⟩, _, List.mem_cons_self, ⟨_, rfl, k_okL⟩, fun _ h => (by cases h), fun _ h => (by cases h)⟩
  rw [gU_of hu ha a' ha']
  unfold vI
  rw [w2]
  show (k_binV .isub xd (Int32.ofInt 1)).toInt = d + ((0 : Nat) : Int)
  rw [hinc]
  omega
theorem hs_step {f : Nat → Int} {b n j h1 h : Nat} (e : hs f b n = some h1) (hj : j < n) (hh : hs f b j = some h) : ∃ h', hst (f (b + j)) h = some h' ∧ hs f b (j + 1) = some h' := by
  obtain ⟨h', e'⟩ := hs_pre e (j + 1) (by omega)
  have e2 := e'
  unfold hs at e2
  rw [hh] at e2
  exact ⟨h', e2, e'⟩
theorem X_reckons (h0 : gE1 g) (hu : gU τ) (hT : ∀ GI, k_tys (gE g tys B0 GI)) (c : gGh) (t b n : Nat) (ht : t ≤ 5) (hb : b + n ≤ 400) : k_Met l (gE g tys B0 (qGI g t b n)) τ gTB yX12_reckons cX12_reckons 11 3 (K_rk t b n) ⟨1, 0, 0, 40⟩ := by
  refine x_met (I := I_X12_reckons) (FL := gFL12) (CI := gCI12) (CJ := gCJ12) (by decide +kernel) dec_X12_reckons (fun X hts => ⟨gFLk12 hts, gCIk12 hts, gCJk12 hts⟩) (gEok0 h0) (hT _) (fun _ => by show 4 ≤ 11; decide) ?_
  intro X ps hl hr hts hC hH hpre
  obtain ⟨p1, p2, -, p4⟩ := hpre
  match ps, p1 with
  | [w0, w1, w2, w3], _ =>
    obtain ⟨u0, z0, o0⟩ := p2 0 _ rfl
    obtain ⟨u1, z1, xt, o1, b1⟩ := p2 1 _ rfl
    obtain ⟨u2, z2, xb, o2, b2⟩ := p2 2 _ rfl
    obtain ⟨u3, z3, xe, o3, b3⟩ := p2 3 _ rfl
    obtain ⟨a, r0, ha⟩ := k_refOk o0
    have y0 : w0 = .ref a := by simpa [r0] using z0
    have y1 : w1 = .int xt := by simpa [o1] using z1
    have y2 : w2 = .int xb := by simpa [o2] using z2
    have y3 : w3 = .int xe := by simpa [o3] using z3
    subst y0; subst y1; subst y2; subst y3
    have hxt : xt.toInt = (t : Int) := Int.le_antisymm b1.2 b1.1
    have hxb : xb.toInt = (b : Int) := Int.le_antisymm b2.2 b2.1
    have hxe : xe.toInt = ((b + n : Nat) : Int) := Int.le_antisymm b3.2 b3.1
    have hgood : hs (vA g X.2.2.2.2.1.heap a 3) (400 * t + b) n = some 1 := p4 0 List.mem_cons_self a ha
    have hF := xF hC
    have hK : kK g gCl tys B0 X.2.2.2.2.1 := xKK hC
    subst hl
    have z0 : (Int32.ofInt 0).toInt = 0 := i_of (by decide) (by decide)
    have e400 : (Int32.ofInt 400).toInt = 400 := i_of (by decide) (by decide)
    have e1 : (Int32.ofInt 1).toInt = 1 := i_of (by decide) (by decide)
    have e11 : (Int32.ofInt 11).toInt = 11 := i_of (by decide) (by decide)
    have sM : ∀ q ∈ ([(11, 19)] : List (Nat × Nat)), q ∈ ([(39, 0), (11, 19)] : List (Nat × Nat)) := by decide
    have push : ∀ (pc : Nat) (H : Heap) (d : Int) (v : Int64) (L : List (Nat × Value)), decode cX12_reckons pc = .ok (.invokevirtual 282, 3) → 0 ≤ d → d ≤ 63 → k_HT (gE g tys B0 (qGI g t b n)) τ H → k_fr (gE g tys B0 (qGI g t b n)) τ [(39, 0), (11, 19)] X.2.2.2.2.1.heap H → vI g H a 19 = d →
        (∀ H' : Heap, k_HT (gE g tys B0 (qGI g t b n)) τ H' → k_fr (gE g tys B0 (qGI g t b n)) τ [(39, 0), (11, 19)] X.2.2.2.2.1.heap H' → vI g H' a 19 = d + 1 → kx X (gE g tys B0 (qGI g t b n)) H' (pc + 3) 11 L []) → kx X (gE g tys B0 (qGI g t b n)) H pc 11 L [.long v, .ref a] := by
      intro pc H d v L hdc d1 d2 hH hf hd kk
      refine x_call (E2 := gE g tys B0 (tGI g d)) (K2 := K_push) (as := [.ref a, .long v]) (rest := []) (k_callV (cc := cX12_reckons) (C := RX12) hF hK hts gGood (X_push (l := X.2.1) h0 hu hT d d1 d2) wk_X12_push.1 wk_X12_push.2.1 wl_RX12_282 wk_X12_push.2.2.1 wk_X12_push.2.2.2 rfl rfl rfl rfl rfl wd_X12_push ⟨by rw [hr]; decide, by rw [hr]; decide⟩ hdc) rfl (k_HT_g hH) ⟨rfl, fun i w hw => ?_, trivial, List.forall_mem_cons.mpr ⟨fun a' ha' => ?_, List.forall_mem_nil _⟩⟩ rfl (by decide) (fun H' v' hp => ?_)
      · match i, hw with
        | 0, hw => cases hw; exact ⟨_, rfl, Or.inr ⟨a, 11, rfl, List.mem_singleton.mpr rfl, ha⟩⟩
        | 1, hw => cases hw; exact ⟨_, rfl, k_okL⟩
        | n + 2, hw => cases hw
      · rw [gU_of hu ha a' ha', hd]
        show d = d + ((0 : Nat) : Int)
        omega
      · obtain ⟨q1, q2, q3, rfl⟩ := s_postV hp
        exact kk H' (k_HT_g q1) (k_fr_trans hf (k_fr_g q2) (fun _ h => h)) (q3 1 List.mem_cons_self a ha)
    have pop : ∀ (pc : Nat) (H : Heap) (d : Int) (rest : List Value) (L : List (Nat × Value)), decode cX12_reckons pc = .ok (.invokevirtual 286, 3) → (rest.map fun v => v.category).sum ≤ 8 → 0 ≤ d → d ≤ 63 → k_HT (gE g tys B0 (qGI g t b n)) τ H → k_fr (gE g tys B0 (qGI g t b n)) τ [(39, 0), (11, 19)] X.2.2.2.2.1.heap H → vI g H a 19 = d + 1 →
        (∀ (H' : Heap) (v : Int64), k_HT (gE g tys B0 (qGI g t b n)) τ H' → k_fr (gE g tys B0 (qGI g t b n)) τ [(39, 0), (11, 19)] X.2.2.2.2.1.heap H' → vI g H' a 19 = d → kx X (gE g tys B0 (qGI g t b n)) H' (pc + 3) 11 L (.long v :: rest)) → kx X (gE g tys B0 (qGI g t b n)) H pc 11 L (.ref a :: rest) := by
      intro pc H d rest L hdc hcat d1 d2 hH hf hd kk
      refine x_call (E2 := gE g tys B0 (tGI g d)) (K2 := K_pop) (as := [.ref a]) (rest := rest) (k_callV (cc := cX12_reckons) (C := RX12) hF hK hts gGood (X_pop (l := X.2.1) h0 hu hT d d1 d2) wk_X12_pop.1 wk_X12_pop.2.1 wl_RX12_286 wk_X12_pop.2.2.1 wk_X12_pop.2.2.2 rfl rfl rfl rfl rfl wd_X12_pop ⟨by rw [hr]; decide, by rw [hr]; decide⟩ hdc) rfl (k_HT_g hH) ⟨rfl, th1 ha, trivial, List.forall_mem_cons.mpr ⟨fun a' ha' => ?_, List.forall_mem_nil _⟩⟩ rfl hcat (fun H' v' hp => ?_)
      · rw [gU_of hu ha a' ha', hd]
        rfl
      · obtain ⟨q1, q2, q3, v, rfl⟩ := s_postJ hp
        have q3 : vI g H' a 19 = d + ((0 : Nat) : Int) := q3 0 List.mem_cons_self a ha
        exact kk H' v (k_HT_g q1) (k_fr_trans hf (k_fr_g q2) sM) (by rw [q3]; omega)
    have loop : ∀ (N : Nat) (H : Heap) (x : Int32) (j h : Nat), k_HT (gE g tys B0 (qGI g t b n)) τ H → k_fr (gE g tys B0 (qGI g t b n)) τ [(39, 0), (11, 19)] X.2.2.2.2.1.heap H → x.toInt = ((b + j : Nat) : Int) → j ≤ n → hs (vA g X.2.2.2.2.1.heap a 3) (400 * t + b) j = some h → vI g H a 19 = (h : Int) → n - j < N → kx X (gE g tys B0 (qGI g t b n)) H 8 11 [(4, .int x), (0, .ref a), (1, .int xt), (2, .int xb), (3, .int xe)] [] := by
      intro N
      induction N with
      | zero => intro H x j h _ _ _ _ _ _ hN; omega
      | succ N ih =>
        intro H x j h hH hf hx hj hh hd hN
        have h64 := hs_le hh
        refine x_ldi hC rfl rfl rfl ?_
        refine x_ldi hC rfl rfl rfl ?_
        refine x_icmp (t := 135) hC rfl (by decide) (fun z => ?_) (fun z => ?_)
        · have z : xe.toInt ≤ x.toInt := z
          have hjn : j = n := by omega
          subst hjn
          rw [hgood] at hh
          cases hh
          refine x_lda hC rfl rfl rfl ?_
          refine pop 136 H 0 [] _ (dec_X12_reckons (136, .invokevirtual 286, 3) (List.mem_of_getElem? (i := 72) rfl)) (by decide) (by decide) (by decide) hH hf (by rw [hd]; rfl) (fun H1 v hH1 hf1 _ => ?_)
          exact x_lret hC rfl ⟨hH1, hf1, fun _ h => (by cases h), _, List.mem_cons_self, ⟨_, rfl, k_okL⟩, fun _ h => (by cases h), fun _ h => (by cases h)⟩
        · have z : ¬ xe.toInt ≤ x.toInt := z
          have hjn : j < n := by omega
          obtain ⟨h', hst', hs'⟩ := hs_step hgood hjn hh
          obtain ⟨bs, cA, ty, m, f, fb, tb, q1, q2, q3, eb, q5⟩ := ar_in h0 hH ha (k := 3) (t := 33) rfl rfl
          have q3 : 2400 ≤ m := q3
          have hkeep : vA g H a 3 = vA g X.2.2.2.2.1.heap a 3 := vA_kept h0 (GI := qGI g t b n) (by assumption) hf ha (k := 3) (t := 33) (by decide) (by decide) (by decide)
          have hmul : (k_binV .imul (Int32.ofInt 400) xt).toInt = 400 * (t : Int) := i_mul (by rw [e400, hxt]) (by omega) (by omega)
          have hix : (k_binV .iadd (k_binV .imul (Int32.ofInt 400) xt) x).toInt = ((400 * t + b + j : Nat) : Int) := i_add (by rw [hmul, hx]; omega) (by omega) (by omega)
          have hixn : (k_binV .iadd (k_binV .imul (Int32.ofInt 400) xt) x).toInt.toNat = 400 * t + b + j := by omega
          obtain ⟨y, hy, -, -⟩ := q5 (400 * t + b + j) (by omega)
          have hyv : vA g X.2.2.2.2.1.heap a 3 (400 * t + b + j) = y.toInt := by rw [← hkeep, eb]; exact vE_at q2 (by omega) hy
          rw [hyv] at hst'
          have hs15 : (k_binV .iand y (Int32.ofInt 15)).toInt = y.toInt % 16 := i_and15 y
          have hv4 : (k_binV .ishr y (Int32.ofInt 4)).toInt = y.toInt / 16 := i_shr4 y
          have hx1 : (x + Int32.ofInt 1).toInt = ((b + (j + 1) : Nat) : Int) := i_add (by rw [e1, hx]; omega) (by omega) (by omega)
          have nxt : ∀ H' : Heap, k_HT (gE g tys B0 (qGI g t b n)) τ H' → k_fr (gE g tys B0 (qGI g t b n)) τ [(39, 0), (11, 19)] X.2.2.2.2.1.heap H' → vI g H' a 19 = (h' : Int) → kx X (gE g tys B0 (qGI g t b n)) H' 129 11 [(4, .int x), (0, .ref a), (1, .int xt), (2, .int xb), (3, .int xe)] [] := by
            intro H' hH' hf' hd'
            refine x_iinc hC rfl (m := 0) rfl (by decide) rfl ?_
            refine x_goto (t := 8) hC rfl (by decide) ?_
            exact ih H' _ (j + 1) h' hH' hf' hx1 (by omega) hs' hd' (by omega)
          refine x_lda hC rfl rfl rfl ?_
          refine x_get hC rfl rfl hH ha gM_at rfl (by decide) fb ?_
          refine x_cst hC rfl rfl ?_
          refine x_ldi hC rfl rfl rfl ?_
          refine x_bin hC rfl rfl ?_
          refine x_ldi hC rfl rfl rfl ?_
          refine x_bin hC rfl rfl ?_
          refine x_ald hC rfl (ai := 0) rfl q1 q2 ⟨by omega, by omega⟩ (v := .int y) (by rw [hixn]; exact hy) ?_
          refine x_cst hC rfl rfl ?_
          refine x_bin hC rfl rfl ?_
          refine x_ist hC rfl (by decide) rfl ?_
          refine x_lda hC rfl rfl rfl ?_
          refine x_get hC rfl rfl hH ha gM_at rfl (by decide) fb ?_
          refine x_cst hC rfl rfl ?_
          refine x_ldi hC rfl rfl rfl ?_
          refine x_bin hC rfl rfl ?_
          refine x_ldi hC rfl rfl rfl ?_
          refine x_bin hC rfl rfl ?_
          refine x_ald hC rfl (ai := 0) rfl q1 q2 ⟨by omega, by omega⟩ (v := .int y) (by rw [hixn]; exact hy) ?_
          refine x_cst hC rfl rfl ?_
          refine x_bin hC rfl rfl ?_
          refine x_ist hC rfl (by decide) rfl ?_
          generalize hS : k_binV .iand y (Int32.ofInt 15) = s at hs15
          generalize hV : k_binV .ishr y (Int32.ofInt 4) = v at hv4
          have sub5 : ∀ q ∈ ([(4, .int x), (0, .ref a), (1, .int xt), (2, .int xb), (3, .int xe)] : List (Nat × Value)), q ∈ ([(6, .int v), (5, .int s), (4, .int x), (0, .ref a), (1, .int xt), (2, .int xb), (3, .int xe)] : List (Nat × Value)) := fun q hq => List.mem_cons_of_mem _ (List.mem_cons_of_mem _ hq)
          unfold hst at hst'
          refine x_ldi hC rfl rfl rfl ?_
          refine x_if (t := 64) hC rfl (by decide) (fun z1 => ?_) (fun z1 => ?_)
          rotate_left
          · have z1 : ¬ ¬ s.toInt = (0 : Int32).toInt := z1
            have z1 : s.toInt = 0 := Classical.not_not.mp z1
            rw [if_pos (by omega)] at hst'
            split at hst'
            · rename_i hlt
              cases hst'
              refine x_lda hC rfl rfl rfl ?_
              refine x_ldi hC rfl rfl rfl ?_
              refine x_i2l hC rfl (fun w => ?_)
              refine push 58 H (h : Int) w _ (dec_X12_reckons (58, .invokevirtual 282, 3) (List.mem_of_getElem? (i := 35) rfl)) (by omega) (by omega) hH hf hd (fun H' hH' hf' hd' => ?_)
              refine x_goto (t := 129) hC rfl (by decide) ?_
              exact x_sub0 sub5 (nxt H' hH' hf' (by rw [hd']; rfl))
            · cases hst'
          have z1 : ¬ s.toInt = (0 : Int32).toInt := z1
          have z1 : ¬ s.toInt = 0 := z1
          rw [if_neg (by omega)] at hst'
          refine x_ldi hC rfl rfl rfl ?_
          refine x_cst hC rfl rfl ?_
          refine x_icmp (t := 84) hC rfl (by decide) (fun z2 => ?_) (fun z2 => ?_)
          rotate_left
          · have z2 : ¬ ¬ s.toInt = (Int32.ofInt 1).toInt := z2
            rw [e1] at z2
            have z2 := Classical.not_not.mp z2
            rw [if_pos (by omega)] at hst'
            split at hst'
            · rename_i hlt
              cases hst'
              obtain ⟨bw, fw, tw, -⟩ := vR_in h0 hH ha (k := 20) (t := 40) rfl
              obtain ⟨cB, tyB, mB, fB, v1, v2, v3, v4, v5⟩ := k_arr hH tw (show gTT[40]? = some (.inr _) from rfl)
              have v3 : 11 ≤ mB := v3
              obtain ⟨yw, hyw, -⟩ := v5 v.toInt.toNat (by omega)
              refine x_lda hC rfl rfl rfl ?_
              refine x_lda hC rfl rfl rfl ?_
              refine x_get hC rfl rfl hH ha gM_at rfl (by decide) fw ?_
              refine x_ldi hC rfl rfl rfl ?_
              refine x_ald hC rfl (ai := 3) rfl v1 v2 ⟨by omega, by omega⟩ hyw ?_
              refine push 78 H (h : Int) yw _ (dec_X12_reckons (78, .invokevirtual 282, 3) (List.mem_of_getElem? (i := 45) rfl)) (by omega) (by omega) hH hf hd (fun H' hH' hf' hd' => ?_)
              refine x_goto (t := 129) hC rfl (by decide) ?_
              exact x_sub0 sub5 (nxt H' hH' hf' (by rw [hd']; rfl))
            · cases hst'
          have z2 : ¬ s.toInt = (Int32.ofInt 1).toInt := z2
          rw [e1] at z2
          rw [if_neg (by omega)] at hst'
          refine x_ldi hC rfl rfl rfl ?_
          refine x_cst hC rfl rfl ?_
          refine x_icmp (t := 104) hC rfl (by decide) (fun z3 => ?_) (fun z3 => ?_)
          rotate_left
          · have z3 : ¬ ¬ s.toInt = (Int32.ofInt 11).toInt := z3
            rw [e11] at z3
            have z3 := Classical.not_not.mp z3
            rw [if_pos (by omega)] at hst'
            split at hst'
            · rename_i hlt
              cases hst'
              refine x_lda hC rfl rfl rfl ?_
              refine x_lcst hC rfl rfl (fun w => ?_)
              refine x_lda hC rfl rfl rfl ?_
              refine pop 94 H ((h : Int) - 1) [.long w, .ref a] _ (dec_X12_reckons (94, .invokevirtual 286, 3) (List.mem_of_getElem? (i := 53) rfl)) (by show 2 + (1 + 0) ≤ 8; decide) (by omega) (by omega) hH hf (by rw [hd]; omega) (fun H' v' hH' hf' hd' => ?_)
              refine x_lsub hC rfl (fun w' => ?_)
              refine push 98 H' ((h : Int) - 1) w' _ (dec_X12_reckons (98, .invokevirtual 282, 3) (List.mem_of_getElem? (i := 55) rfl)) (by omega) (by omega) hH' hf' hd' (fun H2 hH2 hf2 hd2 => ?_)
              refine x_goto (t := 129) hC rfl (by decide) ?_
              exact x_sub0 sub5 (nxt H2 hH2 hf2 (by rw [hd2]; omega))
            · cases hst'
          have z3 : ¬ s.toInt = (Int32.ofInt 11).toInt := z3
          rw [e11] at z3
          rw [if_neg (by omega)] at hst'
          split at hst'
          · rename_i hlt
            cases hst'
            refine x_lda hC rfl rfl rfl ?_
            refine pop 105 H ((h : Int) - 1) [] _ (dec_X12_reckons (105, .invokevirtual 286, 3) (List.mem_of_getElem? (i := 58) rfl)) (by decide) (by omega) (by omega) hH hf (by rw [hd]; omega) (fun H1 v7 hH1 hf1 hd1 => ?_)
            refine x_lst hC rfl (by decide) rfl ?_
            refine x_lda hC rfl rfl rfl ?_
            refine pop 111 H1 ((h : Int) - 2) [] _ (dec_X12_reckons (111, .invokevirtual 286, 3) (List.mem_of_getElem? (i := 61) rfl)) (by decide) (by omega) (by omega) hH1 hf1 (by rw [hd1]; omega) (fun H2 v9 hH2 hf2 hd2 => ?_)
            refine x_lst hC rfl (by decide) rfl ?_
            refine x_lda hC rfl rfl rfl ?_
            refine x_ldi hC rfl rfl rfl ?_
            refine x_ldl hC rfl rfl rfl ?_
            refine x_ldl hC rfl rfl rfl ?_
            refine x_call (E2 := gE g tys B0 (gGI g c)) (K2 := K_X12_one) (as := [.int s, .long v9, .long v7]) (rest := [.ref a]) (k_callS (cc := cX12_reckons) hF hK hts gGood (C_X12_one (l := X.2.1) h0 hu hT c) wk_X12_one.1 wk_X12_one.2.1 wl_RX12_290 wk_X12_one.2.2 rfl rfl wd_X12_one ⟨by rw [hr]; decide, by rw [hr]; decide⟩ (dec_X12_reckons (123, .invokestatic 290, 3) (List.mem_of_getElem? (i := 67) rfl))) rfl (k_HT_g hH2) ⟨rfl, fun i w hw => ?_, trivial, fun _ h => (by cases h)⟩ rfl (by show 1 + 0 ≤ 8; decide) (fun H3 v3 hp => ?_)
            · match i, hw with
              | 0, hw => cases hw; exact ⟨_, rfl, _, rfl, k_in_top _⟩
              | 1, hw => cases hw; exact ⟨_, rfl, k_okL⟩
              | 2, hw => cases hw; exact ⟨_, rfl, k_okL⟩
              | n + 3, hw => cases hw
            · obtain ⟨q1', q2', -, w, rfl⟩ := s_postJ hp
              have hH3 : k_HT (gE g tys B0 (qGI g t b n)) τ H3 := k_HT_g q1'
              have fr3 : k_fr (gE g tys B0 (qGI g t b n)) τ [] H2 H3 := k_fr_g q2'
              have hd3 : vI g H3 a 19 = (h : Int) - 2 := by rw [vI_kept fr3 ha (by decide) (by decide)]; exact hd2
              refine push 126 H3 ((h : Int) - 2) w _ (dec_X12_reckons (126, .invokevirtual 282, 3) (List.mem_of_getElem? (i := 68) rfl)) (by omega) (by omega) hH3 (k_fr_trans hf2 fr3 (fun _ h => by cases h)) hd3 (fun H4 hH4 hf4 hd4 => ?_)
              refine x_sub0 ?_ (nxt H4 hH4 hf4 (by rw [hd4]; omega))
              exact fun q hq => List.mem_cons_of_mem _ (List.mem_cons_of_mem _ (sub5 q hq))
          · cases hst'
    refine x_lda hC rfl rfl rfl ?_
    refine x_cst hC rfl rfl ?_
    refine x_put hC rfl rfl hH ha gM_at rfl (k := 19) rfl ⟨_, rfl, by rw [z0]; decide, by rw [z0]; decide⟩ (fun H1 hH1 fr1 w1 o1 => ?_)
    have w1 : (H1[a]?).bind (fun c => c.slots[g.2 12 19]?) = some (.int (Int32.ofInt 0)) := w1
    have hd1 : vI g H1 a 19 = ((0 : Nat) : Int) := by unfold vI; rw [w1]; exact z0
    refine x_ldi hC rfl rfl rfl ?_
    refine x_ist hC rfl (by decide) rfl ?_
    exact loop (n + 1) H1 xb 0 0 hH1 (k_frU fr1 sM) (by rw [hxb]; rfl) (by omega) rfl hd1 (by omega)
theorem C_X12_summedBy (h0 : gE1 g) (hu : gU τ) (hT : ∀ GI, k_tys (gE g tys B0 GI)) (c : gGh) : k_Met l (gE g tys B0 (gGI g c)) τ gTB yX12_summedBy cX12_summedBy 4 3 K_X12_summedBy ⟨16, 0, 0, 600⟩ := by
  refine x_met (I := I_X12_summedBy) (FL := gFL12) (CI := gCI12) (CJ := gCJ12) (by decide +kernel) dec_X12_summedBy (fun X hts => ⟨gFLk12 hts, gCIk12 hts, gCJk12 hts⟩) (gEok0 h0) (hT _) (fun _ => by show 2 ≤ 4; decide) ?_
  intro X ps hl hr hts hC hH0 hpre
  obtain ⟨a, v, rfl, ha, xr, rfl, xr1, xr2⟩ := m_arg1 rfl hpre
  have xr1 : 0 ≤ xr.toInt := xr1
  have xr2 : xr.toInt ≤ 5 := xr2
  have hg1 := hpre.2.2.2 1 List.mem_cons_self
  have hF := xF hC
  have hK : kK g gCl tys B0 X.2.2.2.2.1 := xKK hC
  subst hl
  have z0 : (Int32.ofInt 0).toInt = 0 := i_of (by decide) (by decide)
  have e1 : (Int32.ofInt 1).toInt = 1 := i_of (by decide) (by decide)
  have e2 : (Int32.ofInt 2).toInt = 2 := i_of (by decide) (by decide)
  have e3 : (Int32.ofInt 3).toInt = 3 := i_of (by decide) (by decide)
  have e4 : (Int32.ofInt 4).toInt = 4 := i_of (by decide) (by decide)
  have e48 : (Int32.ofInt 48).toInt = 48 := i_of (by decide) (by decide)
  have hm48 : (k_binV .imul (Int32.ofInt 48) xr).toInt = 48 * xr.toInt := i_mul (by rw [e48]) (by omega) (by omega)
  have post : ∀ (H : Heap) (w : Int64), k_HT (gE g tys B0 (gGI g c)) τ H → k_fr (gE g tys B0 (gGI g c)) τ [(39, 0), (11, 19)] X.2.2.2.2.1.heap H → k_post (gE g tys B0 (gGI g c)) τ X.2.2.2.2.1.heap H K_X12_summedBy [.ref a, .int xr] (some (.long w)) := fun H w hH hf => ⟨hH, hf, List.forall_mem_cons.mpr ⟨gGI_fr h0 (mods := [(39, 0), (11, 19)]) (by decide +kernel) hf hH0 hg1, List.forall_mem_nil _⟩, _, List.mem_cons_self, ⟨_, rfl, k_okL⟩, fun _ h => (by cases h), fun _ h => (by cases h)⟩
  -- a segment is reckoned
  have reck : ∀ (pc : Nat) (H : Heap) (x y : Int32) (L : List (Nat × Value)), decode cX12_summedBy pc = .ok (.invokevirtual 322, 3) → k_HT (gE g tys B0 (gGI g c)) τ H → k_fr (gE g tys B0 (gGI g c)) τ [(39, 0), (11, 19)] X.2.2.2.2.1.heap H → bSeg (vA g H a 3) xr.toInt.toNat x.toInt y.toInt →
      (∀ (H' : Heap) (w : Int64), k_HT (gE g tys B0 (gGI g c)) τ H' → k_fr (gE g tys B0 (gGI g c)) τ [(39, 0), (11, 19)] X.2.2.2.2.1.heap H' → kx X (gE g tys B0 (gGI g c)) H' (pc + 3) 4 L [.long w]) → kx X (gE g tys B0 (gGI g c)) H pc 4 L [.int y, .int x, .int xr, .ref a] := by
    intro pc H x y L hdc hH hf hs kk
    obtain ⟨b, e, ex, ey, he, hh⟩ := hs
    refine x_call (E2 := gE g tys B0 (qGI g xr.toInt.toNat b e)) (K2 := K_rk xr.toInt.toNat b e) (as := [.ref a, .int xr, .int x, .int y]) (rest := []) (k_callV (cc := cX12_summedBy) (C := RX12) hF hK hts gGood (X_reckons (l := X.2.1) h0 hu hT c xr.toInt.toNat b e (by omega) he) wk_X12_reckons.1 wk_X12_reckons.2.1 wl_RX12_322 wk_X12_reckons.2.2.1 wk_X12_reckons.2.2.2 rfl rfl rfl rfl rfl wd_X12_reckons ⟨by rw [hr]; decide, by rw [hr]; decide⟩ hdc) rfl (k_HT_g hH) ⟨rfl, fun i w hw => ?_, trivial, List.forall_mem_cons.mpr ⟨fun a' ha' => ?_, List.forall_mem_nil _⟩⟩ rfl (by decide) (fun H' v hp => ?_)
    · match i, hw with
      | 0, hw => cases hw; exact ⟨_, rfl, Or.inr ⟨a, 11, rfl, List.mem_singleton.mpr rfl, ha⟩⟩
      | 1, hw => cases hw; exact ⟨_, rfl, _, rfl, by show ((xr.toInt.toNat : Nat) : Int) ≤ _; omega, by show _ ≤ ((xr.toInt.toNat : Nat) : Int); omega⟩
      | 2, hw => cases hw; exact ⟨_, rfl, _, rfl, by show (b : Int) ≤ _; omega, by show _ ≤ (b : Int); omega⟩
      | 3, hw => cases hw; exact ⟨_, rfl, _, rfl, by show ((b + e : Nat) : Int) ≤ _; omega, by show _ ≤ ((b + e : Nat) : Int); omega⟩
      | n + 4, hw => cases hw
    · rw [gU_of hu ha a' ha']
      exact hh
    · obtain ⟨q1, q2, -, w, rfl⟩ := s_postJ hp
      exact kk H' w (k_HT_g q1) (k_fr_trans hf (k_fr_g q2) (fun _ h => h))
  have good : ∀ H : Heap, k_HT (gE g tys B0 (gGI g c)) τ H → k_fr (gE g tys B0 (gGI g c)) τ [(39, 0), (11, 19)] X.2.2.2.2.1.heap H → bGood (vA g H a 3) (vA g H a 5) (vA g H a 6) := fun H hH hf => by
    have := gGI_fr h0 (mods := [(39, 0), (11, 19)]) (by decide +kernel) hf hH0 hg1
    exact ((this : gGI g c 1 τ H).2.2 a ha).2
  have tail : ∀ (H : Heap) (x at_ : Int32) (i : Nat), k_HT (gE g tys B0 (gGI g c)) τ H → k_fr (gE g tys B0 (gGI g c)) τ [(39, 0), (11, 19)] X.2.2.2.2.1.heap H → (i : Int) < vA g H a 6 xr.toInt.toNat → i ≤ 11 → at_.toInt = 48 * xr.toInt + 4 * (i : Int) → kx X (gE g tys B0 (gGI g c)) H 58 4 [(3, .int at_), (2, .int x), (0, .ref a), (1, .int xr)] [] := by
    intro H x at_ i hH hf hi hi2 hat
    obtain ⟨bc, cA, ty, m, f, fb, tb, q1, q2, q3, eb, q5⟩ := ar_in h0 hH ha (k := 5) (t := 35) rfl rfl
    have q3 : 288 ≤ m := q3
    have hgd := (good H hH hf xr.toInt.toNat (by omega) i hi).1
    have h1 : (k_binV .iadd at_ (Int32.ofInt 1)).toInt = 48 * xr.toInt + 4 * (i : Int) + 1 := i_add (by rw [e1, hat]) (by omega) (by omega)
    obtain ⟨y0, hy0, -, -⟩ := q5 (48 * xr.toInt.toNat + 4 * i) (by omega)
    obtain ⟨y1, hy1, -, -⟩ := q5 (48 * xr.toInt.toNat + 4 * i + 1) (by omega)
    rw [eb, vE_at q2 (by omega) hy0, vE_at q2 (by omega) hy1] at hgd
    have n0 : at_.toInt.toNat = 48 * xr.toInt.toNat + 4 * i := by omega
    have n1 : (k_binV .iadd at_ (Int32.ofInt 1)).toInt.toNat = 48 * xr.toInt.toNat + 4 * i + 1 := by omega
    refine x_lda hC rfl rfl rfl ?_
    refine x_ldi hC rfl rfl rfl ?_
    refine x_lda hC rfl rfl rfl ?_
    refine x_get hC rfl rfl hH ha gM_at rfl (by decide) fb ?_
    refine x_ldi hC rfl rfl rfl ?_
    refine x_ald hC rfl (ai := 0) rfl q1 q2 ⟨by omega, by omega⟩ (v := .int y0) (by rw [n0]; exact hy0) ?_
    refine x_lda hC rfl rfl rfl ?_
    refine x_get hC rfl rfl hH ha gM_at rfl (by decide) fb ?_
    refine x_ldi hC rfl rfl rfl ?_
    refine x_cst hC rfl rfl ?_
    refine x_bin hC rfl rfl ?_
    refine x_ald hC rfl (ai := 0) rfl q1 q2 ⟨by omega, by omega⟩ (v := .int y1) (by rw [n1]; exact hy1) ?_
    refine reck 74 H y0 y1 _ (dec_X12_summedBy (74, .invokevirtual 322, 3) (List.mem_of_getElem? (i := 53) rfl)) hH hf hgd (fun H' w hH' hf' => ?_)
    exact x_lret hC rfl (post H' w hH' hf')
  have loop : ∀ (N : Nat) (H : Heap) (x : Int32) (i : Nat), k_HT (gE g tys B0 (gGI g c)) τ H → k_fr (gE g tys B0 (gGI g c)) τ [(39, 0), (11, 19)] X.2.2.2.2.1.heap H → x.toInt = (i : Int) → i ≤ 12 → 12 - i < N → kx X (gE g tys B0 (gGI g c)) H 2 4 [(2, .int x), (0, .ref a), (1, .int xr)] [] := by
    intro N
    induction N with
    | zero => intro H x i _ _ _ _ hN; omega
    | succ N ih =>
      intro H x i hH hf hx hi hN
      obtain ⟨bs, cS, tyS, mS, fS, fbS, tbS, s1, s2, s3, ebS, s5⟩ := ar_in h0 hH ha (k := 6) (t := 36) rfl rfl
      have s3 : 6 ≤ mS := s3
      obtain ⟨yc, hyc, c1, c2⟩ := s5 xr.toInt.toNat (by omega)
      have c2 : yc.toInt ≤ 12 := c2
      have hyv : vA g H a 6 xr.toInt.toNat = yc.toInt := by rw [ebS]; exact vE_at s2 (by omega) hyc
      refine x_ldi hC rfl rfl rfl ?_
      refine x_lda hC rfl rfl rfl ?_
      refine x_get hC rfl rfl hH ha gM_at rfl (by decide) fbS ?_
      refine x_ldi hC rfl rfl rfl ?_
      refine x_ald hC rfl (ai := 0) rfl s1 s2 ⟨by omega, by omega⟩ hyc ?_
      refine x_icmp (t := 84) hC rfl (by decide) (fun _ => ?_) (fun z => ?_)
      · refine x_lcst hC rfl rfl (fun w => ?_)
        exact x_lret hC rfl (post H w hH hf)
      · have z : ¬ yc.toInt ≤ x.toInt := z
        have hm4 : (k_binV .imul (Int32.ofInt 4) x).toInt = 4 * (i : Int) := i_mul (by rw [e4, hx]) (by omega) (by omega)
        have hat : (k_binV .iadd (k_binV .imul (Int32.ofInt 48) xr) (k_binV .imul (Int32.ofInt 4) x)).toInt = 48 * xr.toInt + 4 * (i : Int) := i_add (by rw [hm48, hm4]) (by omega) (by omega)
        refine x_cst hC rfl rfl ?_
        refine x_ldi hC rfl rfl rfl ?_
        refine x_bin hC rfl rfl ?_
        refine x_cst hC rfl rfl ?_
        refine x_ldi hC rfl rfl rfl ?_
        refine x_bin hC rfl rfl ?_
        refine x_bin hC rfl rfl ?_
        refine x_ist_n hC rfl (by decide) rfl ?_
        generalize hA : k_binV .iadd (k_binV .imul (Int32.ofInt 48) xr) (k_binV .imul (Int32.ofInt 4) x) = at_ at hat
        obtain ⟨bc, cA, ty, m, f, fb, tb, q1, q2, q3, eb, q5⟩ := ar_in h0 hH ha (k := 5) (t := 35) rfl rfl
        have q3 : 288 ≤ m := q3
        have h2 : (k_binV .iadd at_ (Int32.ofInt 2)).toInt = 48 * xr.toInt + 4 * (i : Int) + 2 := i_add (by rw [e2, hat]) (by omega) (by omega)
        have h3 : (k_binV .iadd at_ (Int32.ofInt 3)).toInt = 48 * xr.toInt + 4 * (i : Int) + 3 := i_add (by rw [e3, hat]) (by omega) (by omega)
        obtain ⟨y2, hy2, -, -⟩ := q5 (48 * xr.toInt.toNat + 4 * i + 2) (by omega)
        obtain ⟨y3, hy3, -, -⟩ := q5 (48 * xr.toInt.toNat + 4 * i + 3) (by omega)
        have hgd := (good H hH hf xr.toInt.toNat (by omega) i (by rw [hyv]; omega)).2
        rw [eb, vE_at q2 (by omega) hy2, vE_at q2 (by omega) hy3] at hgd
        have n2 : (k_binV .iadd at_ (Int32.ofInt 2)).toInt.toNat = 48 * xr.toInt.toNat + 4 * i + 2 := by omega
        have n3 : (k_binV .iadd at_ (Int32.ofInt 3)).toInt.toNat = 48 * xr.toInt.toNat + 4 * i + 3 := by omega
        refine x_lda hC rfl rfl rfl ?_
        refine x_get hC rfl rfl hH ha gM_at rfl (by decide) fb ?_
        refine x_ldi hC rfl rfl rfl ?_
        refine x_cst hC rfl rfl ?_
        refine x_bin hC rfl rfl ?_
        refine x_ald hC rfl (ai := 0) rfl q1 q2 ⟨by omega, by omega⟩ (v := .int y2) (by rw [n2]; exact hy2) ?_
        refine x_if (t := 58) hC rfl (by decide) (fun _ => tail H x at_ i hH hf (by rw [hyv]; omega) (by omega) hat) (fun z2 => ?_)
        have z2 : ¬ y2.toInt < (0 : Int32).toInt := z2
        have z2 : ¬ y2.toInt < 0 := z2
        have hgd := hgd.resolve_left z2
        refine x_lda hC rfl rfl rfl ?_
        refine x_ldi hC rfl rfl rfl ?_
        refine x_lda hC rfl rfl rfl ?_
        refine x_get hC rfl rfl hH ha gM_at rfl (by decide) fb ?_
        refine x_ldi hC rfl rfl rfl ?_
        refine x_cst hC rfl rfl ?_
        refine x_bin hC rfl rfl ?_
        refine x_ald hC rfl (ai := 0) rfl q1 q2 ⟨by omega, by omega⟩ (v := .int y2) (by rw [n2]; exact hy2) ?_
        refine x_lda hC rfl rfl rfl ?_
        refine x_get hC rfl rfl hH ha gM_at rfl (by decide) fb ?_
        refine x_ldi hC rfl rfl rfl ?_
        refine x_cst hC rfl rfl ?_
        refine x_bin hC rfl rfl ?_
        refine x_ald hC rfl (ai := 0) rfl q1 q2 ⟨by omega, by omega⟩ (v := .int y3) (by rw [n3]; exact hy3) ?_
        refine reck 50 H y2 y3 _ (dec_X12_summedBy (50, .invokevirtual 322, 3) (List.mem_of_getElem? (i := 37) rfl)) hH hf hgd (fun H' w hH' hf' => ?_)
        refine x_lcst hC rfl rfl (fun w1 => ?_)
        refine x_lcmp hC rfl (fun w2 => ?_)
        have keep6 : vA g H' a 6 xr.toInt.toNat = yc.toInt := by
          rw [vA_kept h0 hH0 hf' ha (k := 6) (t := 36) (by decide) (by decide) (by decide), ← vA_kept h0 hH0 hf ha (k := 6) (t := 36) (by decide) (by decide) (by decide)]
          exact hyv
        refine x_if (t := 78) hC rfl (by decide) (fun _ => ?_) (fun _ => tail H' x at_ i hH' hf' (by rw [keep6]; omega) (by omega) hat)
        have hx1 : (x + Int32.ofInt 1).toInt = ((i + 1 : Nat) : Int) := i_add (by rw [e1, hx]; omega) (by omega) (by omega)
        refine x_iinc hC rfl (m := 1) rfl (by decide) rfl ?_
        refine x_goto (t := 2) hC rfl (by decide) ?_
        refine x_sub0 (L := [(2, .int (x + Int32.ofInt 1)), (0, .ref a), (1, .int xr)]) ?_ (ih H' _ (i + 1) hH' hf' hx1 (by omega) (by omega))
        intro q hq
        rcases List.mem_cons.mp hq with e | hq
        · subst e; exact List.mem_of_getElem? (i := 0) rfl
        · exact List.mem_cons_of_mem _ (List.mem_cons_of_mem _ hq)
  refine x_cst hC rfl rfl ?_
  refine x_ist_n hC rfl (by decide) rfl ?_
  exact loop 13 _ _ 0 hH0 k_fr_refl z0 (by decide) (by decide)
end
