/-! ===== the reference's images, exactly ===== -/
def imgE : List (Nat × Nat × kInfo) := match (gTT[49]? : Option kDesc) with
  | some (.inr q) => q.2.2.2.1
  | _ => []
def saidE : List (Nat × Nat × kInfo) := match (gTT[41]? : Option kDesc) with
  | some (.inr q) => q.2.2.2.1
  | _ => []
theorem img_at : gTT[49]? = some (.inr (0, 528, 528, imgE, kA)) := rfl
theorem said_at : gTT[41]? = some (.inr (0, 132, 132, saidE, kA)) := rfl
theorem img_el0 : ∀ k, k < 4 → ∀ i, i < 132 → (k_isub (k_el saidE kA i) (k_el imgE kA (132 * k + i)) && k_isub (k_el imgE kA (132 * k + i)) (k_el saidE kA i)) = true := by decide +kernel
theorem img_el {τ : kTau} {v : Value} {k i : Nat} (hk : k < 4) (hi : i < 132) : k_ok τ (k_el saidE kA i) v ↔ k_ok τ (k_el imgE kA (132 * k + i)) v := by
  have h := img_el0 k hk i hi
  rw [Bool.and_eq_true] at h
  exact ⟨k_isub_ok h.1, k_isub_ok h.2⟩
theorem said_int {τ : kTau} {v : Value} : ∀ {i : Nat}, k_ok τ (k_el saidE kA i) v → ∃ y : Int32, v = .int y := by
  intro i h
  have key : ∀ x : kInfo, (x = kA ∨ ∃ q : kB, x = .inl q) → k_ok τ x v → ∃ y : Int32, v = .int y := by
    intro x hx h
    rcases hx with rfl | ⟨q, rfl⟩
    · obtain ⟨y, e, -⟩ := h; exact ⟨y, e⟩
    · obtain ⟨y, e, -⟩ := h; exact ⟨y, e⟩
  refine key _ ?_ h
  have gen : ∀ L : List (Nat × Nat × kInfo), (∀ q ∈ L, ∃ z : kB, q.2.2 = .inl z) → (k_el L kA i = kA ∨ ∃ q : kB, k_el L kA i = .inl q) := by
    intro L
    induction L with
    | nil => intro _; exact Or.inl rfl
    | cons q r ih =>
      intro hq
      unfold k_el
      split
      · exact Or.inr (hq q List.mem_cons_self)
      · exact ih (fun z hz => hq z (List.mem_cons_of_mem _ hz))
  refine gen saidE ?_
  intro q hq
  have hall : saidE.all (fun q => match q.2.2 with | .inl _ => true | _ => false) = true := by decide
  rw [List.all_eq_true] at hall
  have := hall q hq
  split at this
  · rename_i z hz; exact ⟨z, hz⟩
  · cases this
def K_imM : kCtr := ([.inr (.inr (.inl (false, [11]))), kA], [], [(some kA, [], [])], [(49, 0), (50, 0), (51, 0), (52, 0)], [0], [1])
def K_bkM : kCtr := ([.inr (.inr (.inl (false, [11]))), kA], [], [(some kA, [], [])], [(11, 22), (11, 23), (11, 31), (41, 0)], [0], [1])
abbrev inI (n : Int32) : Prop := 0 ≤ n.toInt ∧ n.toInt ≤ 3
section
variable {X : kX} {E : kE} {nL : Nat} {τ : kTau} {cc : ByteArray} {own : String} {I : List (Nat × Instr × Nat)} {FL : List (Nat × Nat × Nat × Nat)} {CI CJ : List (Nat × Int)} {K : kCtr} {rk : Nat} {ps : List Value} {H : Heap} {pc : Nat} {L : List (Nat × Value)} {st : List Value} {i : Instr} {n : Nat}
theorem x_lcstE {c : Int} (hC : xC X E nL τ cc own I FL CI CJ K rk ps) (h : k_cd I pc = some (i, n)) (e : k_lcst CJ i = some (c, n)) (k : ∀ x : Int64, x.toInt = c → kx X E H (pc + n) nL L (.long x :: st)) : kx X E H pc nL L st := by
  have hF := xF hC
  have hCJ := xCJ hC
  have hdc := xD hC _ (k_cd_ok h)
  intro locs hl ls hls
  exact k_lcst_ok hF hCJ e hdc (fun x hx => k x hx locs hl ls hls)
/-- a truth is stored into an array of them -/
theorem x_zast {a m t : Nat} {cA : ClassId} {f : Nat → Value} {x y : Int32} {d : Nat × Nat × Nat × List (Nat × Nat × kInfo) × kInfo} (hC : xC X E nL τ cc own I FL CI CJ K rk ps) (h : k_cd I pc = some (.bastore, 1)) (hH : k_HT E τ H) (ha : τ a = some t) (ht : E.2.2.2.1[t]? = some (.inr d)) (h0 : d.1 = 2) (hc : H[a]? = some (arrV cA m f)) (hx : 0 ≤ x.toInt ∧ x.toInt < (m : Int)) (hy : k_in (0, 1) y.toInt) (hv : k_ok τ (k_el d.2.2.2.1 d.2.2.2.2 x.toInt.toNat) (.int y))
    (kk : ∀ H' : Heap, k_HT E τ H' → k_fr E τ [(t, 0)] H H' → H'[a]? = some (arrV cA m (updV f x.toInt.toNat (.int y))) → (∀ b : Nat, b ≠ a → H'[b]? = H[b]?) → kx X E H' (pc + 1) nL L st) : kx X E H pc nL L (.int y :: .int x :: .ref a :: st) := by
  have hF := xF hC
  have hT := xT hC
  have hK := xK hC
  have hdc := xD hC _ (k_cd_ok h)
  intro locs hl ls hls
  obtain ⟨cA', ty, m', f', p1, p2, p3, p4, p5⟩ := k_arr hH ha ht
  have hsz : m = m' := by
    have hs : (arrV cA m f).slots.size = (arrV cA' m' f').slots.size := by rw [Option.some.inj (hc.symm.trans p2)]
    rwa [arrV_size, arrV_size] at hs
  subst hsz
  have hcls : cA = cA' := by
    have := Option.some.inj (hc.symm.trans p2)
    exact congrArg Cell.cls this
  subst hcls
  have hff : ∀ j, j < m → f' j = f j := fun j hj => by
    have r1 := arrV_read cA f hj
    have r2 := arrV_read cA f' hj
    rw [Option.some.inj (hc.symm.trans p2), r2] at r1
    exact Option.some.inj r1
  rw [h0] at p1
  have hin := k_idx hx cA f
  obtain ⟨rfl⟩ := (hT 2 cA ty p1).2.2.1 rfl
  refine W.zast hF.1 hF.2.1 hc ((hK.2 2 _ p1).1 m f) (fun z => by cases z) hin rfl rfl hdc (fun H' e1 e2 e3 => ?_)
  rw [k_nz01 hy] at e1
  obtain ⟨g1, g2⟩ := k_awrite hH ha ht (show E.2.2.1[d.1]? = some (cA, .boolean) by rw [h0]; exact p1) hc p3 p4 (fun j hj => by rw [← hff j hj]; exact p5 j hj) hv e1 e2 e3
  have e1' := e1
  rw [arrV_store] at e1'
  refine kk H' g1 g2 e1' e3 _ (fun z hz => ?_) ls hls
  rcases List.mem_append.mp hz with e' | e'
  · exact hl z e'
  · rw [List.mem_singleton.mp e']; exact (hH a t ha).1
end
section
variable {l : Launch} {g : va_G} {tys : List (ClassId × FieldType)} {B0 : Nat} {τ : kTau}
theorem C_imM (h0 : gE1 g) (hT : ∀ GI, k_tys (gE g tys B0 GI)) (H0 : Heap) (a : Nat) (ha : τ a = some 11) (n : Int32) : s_Met l (gE g tys B0 (hGI H0 (fun H => (∀ j, vA g H a 41 j = if inI n ∧ j = n.toInt.toNat then vI g H0 a 23 else vA g H0 a 41 j) ∧ ∀ j, vA g H a 42 j = if inI n ∧ j = n.toInt.toNat then 1 else vA g H0 a 42 j))) τ gTB yX12_image cX12_image 3 1 K_imM ⟨1, 0, 0, 30⟩ (fun ps => ps = [.ref a, .int n]) := by
  refine x_metZ (I := I_X12_image) (FL := gFL12) (CI := gCI12) (CJ := gCJ12) (by decide +kernel) dec_X12_image (fun X hts => ⟨gFLk12 hts, gCIk12 hts, gCJk12 hts⟩) (gEok0 h0) (hT _) (fun _ => by show 2 ≤ 3; decide) ?_
  rintro X ps rfl hl hr hts hC hH hpre
  have hH0 : X.2.2.2.2.1.heap = H0 := (hpre.2.2.2 0 List.mem_cons_self).1 rfl
  subst hH0
  have hF := xF hC
  have hK : kK g gCl tys B0 X.2.2.2.2.1 := xKK hC
  subst hl
  obtain ⟨P, hP⟩ : ∃ P : Heap → Prop, P = fun H => (∀ j, vA g H a 41 j = if inI n ∧ j = n.toInt.toNat then vI g X.2.2.2.2.1.heap a 23 else vA g X.2.2.2.2.1.heap a 41 j) ∧ ∀ j, vA g H a 42 j = if inI n ∧ j = n.toInt.toNat then 1 else vA g X.2.2.2.2.1.heap a 42 j := ⟨_, rfl⟩
  rw [← hP] at hC hH hpre ⊢
  have z0 : (Int32.ofInt 0).toInt = 0 := i_of (by decide) (by decide)
  have e1 : (Int32.ofInt 1).toInt = 1 := i_of (by decide) (by decide)
  have e132 : (Int32.ofInt 132).toInt = 132 := i_of (by decide) (by decide)
  have e10 : (Int32.ofInt 10).toInt = 10 := i_of (by decide) (by decide)
  refine x_ldi hC rfl rfl rfl ?_
  refine x_i2lE hC rfl ?_
  refine x_lcstE hC rfl rfl (fun y0 hy0 => ?_)
  refine x_lcstE hC rfl rfl (fun y3 hy3 => ?_)
  have h64 : n.toInt64.toInt = n.toInt := Int32.toInt_toInt64 n
  refine x_callZ (E2 := gE g tys B0 (hGI X.2.2.2.2.1.heap P)) (K2 := K_in (if y0.toInt ≤ n.toInt64.toInt ∧ n.toInt64.toInt ≤ y3.toInt then 1 else 0)) (as := [.long n.toInt64, .long y0, .long y3]) (rest := []) (s_callS (cc := cX12_image) hF hK hts gGood (C_in h0 (hT _) n.toInt64 y0 y3) wk_X12_in.1 wk_X12_in.2.1 wl_RX12_121 wk_X12_in.2.2 rfl rfl wd_X12_in ⟨by rw [hr]; decide, by rw [hr]; decide⟩ (dec_X12_image (6, .invokestatic 121, 3) (List.mem_of_getElem? (i := 4) rfl))) rfl rfl hH ⟨rfl, fun i w hw => ?_, trivial, fun _ h => (by cases h)⟩ rfl (by decide) (fun H1 v hp => ?_)
  · match i, hw with
    | 0, hw => cases hw; exact ⟨_, rfl, k_okL⟩
    | 1, hw => cases hw; exact ⟨_, rfl, k_okL⟩
    | 2, hw => cases hw; exact ⟨_, rfl, k_okL⟩
    | n + 3, hw => cases hw
  obtain ⟨hH1, f1, -, w, rfl, w1, w2⟩ := s_postX hp
  rw [hy0, hy3, h64] at w1 w2
  have hw : w.toInt = if 0 ≤ n.toInt ∧ n.toInt ≤ 3 then 1 else 0 := Int.le_antisymm w2 w1
  have sE : ∀ q ∈ ([] : List (Nat × Nat)), q ∈ ([(49, 0), (50, 0), (51, 0), (52, 0)] : List (Nat × Nat)) := fun _ h => by cases h
  have g1 := k_frU f1 sE
  have kA1 : ∀ (k t : Nat), k < 43 → gMF[k]? = some (.inr (.inr (.inl (false, [t])))) → (∃ q, gTT[t]? = some (.inr q)) → vA g H1 a k = vA g X.2.2.2.2.1.heap a k := fun k t hk hx hq => vA_kept1 h0 hH f1 ha hk hx hq (fun h => by cases h) (fun h => by cases h)
  have kI1 : vI g H1 a 23 = vI g X.2.2.2.2.1.heap a 23 := vI_kept f1 ha (by decide) (fun h => by cases h)
  refine x_if (t := 14) hC rfl (by decide) (fun z => ?_) (fun z => ?_)
  rotate_left
  · have z : ¬ ¬ w.toInt = (0 : Int32).toInt := z
    have z : w.toInt = 0 := Classical.not_not.mp z
    have hn : ¬ inI n := fun h => by rw [if_pos h] at hw; omega
    refine x_cst hC rfl rfl ?_
    refine x_iret hC rfl ⟨hH1, g1, List.forall_mem_cons.mpr ⟨⟨fun z => (by cases z), fun _ => ?_⟩, List.forall_mem_nil _⟩, _, List.mem_cons_self, ⟨_, rfl, _, rfl, k_in_top _⟩, fun _ h => (by cases h), fun _ h => (by cases h)⟩
    rw [hP]
    exact ⟨fun j => by rw [if_neg (fun h => hn h.1), kA1 41 51 (by decide) rfl ⟨_, rfl⟩], fun j => by rw [if_neg (fun h => hn h.1), kA1 42 52 (by decide) rfl ⟨_, rfl⟩]⟩
  have z : ¬ w.toInt = (0 : Int32).toInt := z
  have z : ¬ w.toInt = 0 := z
  have hn : inI n := Classical.byContradiction fun h => by rw [if_neg h] at hw; omega
  have n1 := hn.1
  have n2 := hn.2
  obtain ⟨bm, fm, tm, em⟩ := vR_in h0 hH1 ha (k := 42) (t := 52) rfl
  obtain ⟨cM, tyM, mM, fM, q1, q2, q3, q4, q5⟩ := k_arr hH1 tm (show gTT[52]? = some (.inr _) from rfl)
  have q3 : 4 ≤ mM := q3
  refine x_lda hC rfl rfl rfl ?_
  refine x_get hC rfl rfl hH1 ha gM_at rfl (by decide) fm ?_
  refine x_ldi hC rfl rfl rfl ?_
  refine x_cst hC rfl rfl ?_
  refine x_zast hC rfl hH1 tm (show gTT[52]? = some (.inr _) from rfl) rfl q2 ⟨n1, by omega⟩ ⟨by rw [e1]; decide, by rw [e1]; decide⟩ ⟨_, rfl, by rw [e1]; decide, by rw [e1]; decide⟩ (fun H2 hH2 f2 s2 o2 => ?_)
  have nam : a ≠ bm := fun z => by rw [← z, ha] at tm; cases tm
  have g2 := k_fr_trans g1 f2 (by decide)
  have v42 : ∀ j, vA g H2 a 42 j = if j = n.toInt.toNat then 1 else vA g X.2.2.2.2.1.heap a 42 j := by
    intro j
    obtain ⟨b', fb', -, eb'⟩ := vR_in h0 hH2 ha (k := 42) (t := 52) rfl
    rw [o2 a nam, fm] at fb'
    cases fb'
    rw [eb', vE_upd q2 s2 (by omega) j, e1, ← em, kA1 42 52 (by decide) rfl ⟨_, rfl⟩]
  have k41 : vA g H2 a 41 = vA g X.2.2.2.2.1.heap a 41 := Eq.trans (vA_kept1 h0 hH1 f2 ha (k := 41) (t := 51) (by decide) rfl ⟨_, rfl⟩ (by decide) (by decide)) (kA1 41 51 (by decide) rfl ⟨_, rfl⟩)
  have k23 : vI g H2 a 23 = vI g X.2.2.2.2.1.heap a 23 := Eq.trans (vI_kept f2 ha (by decide) (by decide)) kI1
  obtain ⟨bf, cF, tyF, mF, fF, ff, tf, p1, p2, p3, ef, p5⟩ := ar_in h0 hH2 ha (k := 40) (t := 50) rfl rfl
  have p3 : 4 ≤ mF := p3
  obtain ⟨xf, fxf, -, i1, i2⟩ := vI_in h0 hH2 ha (k := 22) rfl
  refine x_lda hC rfl rfl rfl ?_
  refine x_get hC rfl rfl hH2 ha gM_at rfl (by decide) ff ?_
  refine x_ldi hC rfl rfl rfl ?_
  refine x_lda hC rfl rfl rfl ?_
  refine x_get hC rfl rfl hH2 ha gM_at rfl (by decide) fxf ?_
  refine x_iast hC rfl hH2 tf (show gTT[50]? = some (.inr _) from rfl) rfl p2 ⟨n1, by omega⟩ ⟨_, rfl, i1, i2⟩ (fun H3 hH3 f3 s3 o3 => ?_)
  have g3 := k_fr_trans g2 f3 (by decide)
  have v42' : vA g H3 a 42 = vA g H2 a 42 := vA_kept1 h0 hH2 f3 ha (k := 42) (t := 52) (by decide) rfl ⟨_, rfl⟩ (by decide) (by decide)
  have k41' : vA g H3 a 41 = vA g H2 a 41 := vA_kept1 h0 hH2 f3 ha (k := 41) (t := 51) (by decide) rfl ⟨_, rfl⟩ (by decide) (by decide)
  have k23' : vI g H3 a 23 = vI g H2 a 23 := vI_kept f3 ha (by decide) (by decide)
  obtain ⟨bx, cX, tyX, mX, fX, fx, tx, r1, r2, r3, ex, r5⟩ := ar_in h0 hH3 ha (k := 41) (t := 51) rfl rfl
  have r3 : 4 ≤ mX := r3
  obtain ⟨xx, fxx, exx, j1, j2⟩ := vI_in h0 hH3 ha (k := 23) rfl
  refine x_lda hC rfl rfl rfl ?_
  refine x_get hC rfl rfl hH3 ha gM_at rfl (by decide) fx ?_
  refine x_ldi hC rfl rfl rfl ?_
  refine x_lda hC rfl rfl rfl ?_
  refine x_get hC rfl rfl hH3 ha gM_at rfl (by decide) fxx ?_
  refine x_iast hC rfl hH3 tx (show gTT[51]? = some (.inr _) from rfl) rfl r2 ⟨n1, by omega⟩ ⟨_, rfl, j1, j2⟩ (fun H4 hH4 f4 s4 o4 => ?_)
  have g4 := k_fr_trans g3 f4 (by decide)
  have nax : a ≠ bx := fun z => by rw [← z, ha] at tx; cases tx
  have v41 : ∀ j, vA g H4 a 41 j = if j = n.toInt.toNat then vI g X.2.2.2.2.1.heap a 23 else vA g X.2.2.2.2.1.heap a 41 j := by
    intro j
    obtain ⟨b', fb', -, eb'⟩ := vR_in h0 hH4 ha (k := 41) (t := 51) rfl
    rw [o4 a nax, fx] at fb'
    cases fb'
    rw [eb', vE_upd r2 s4 (by omega) j, ← ex, k41', k41, ← exx, k23', k23]
  have v42'' : vA g H4 a 42 = vA g H3 a 42 := vA_kept1 h0 hH3 f4 ha (k := 42) (t := 52) (by decide) rfl ⟨_, rfl⟩ (by decide) (by decide)
  have loop : ∀ (N : Nat) (H : Heap) (x : Int32), k_HT (gE g tys B0 (hGI X.2.2.2.2.1.heap P)) τ H → k_fr (gE g tys B0 (hGI X.2.2.2.2.1.heap P)) τ [(49, 0), (50, 0), (51, 0), (52, 0)] X.2.2.2.2.1.heap H → vA g H a 41 = vA g H4 a 41 → vA g H a 42 = vA g H4 a 42 → 0 ≤ x.toInt → x.toInt ≤ 132 → (132 - x.toInt).toNat < N → kx X (gE g tys B0 (hGI X.2.2.2.2.1.heap P)) H 43 3 [(2, .int x), (0, .ref a), (1, .int n)] [] := by
    intro N
    induction N with
    | zero => intro H x _ _ _ _ _ _ h; omega
    | succ N ih =>
      intro H x hH hf h41 h42 x1 x2 hN
      obtain ⟨bs, fs, ts, -⟩ := vR_in h0 hH ha (k := 21) (t := 41) rfl
      obtain ⟨cS, tyS, mS, fS, u1, u2, u3, u4, u5⟩ := k_arr hH ts said_at
      have u3 : 132 ≤ mS := u3
      refine x_ldi hC rfl rfl rfl ?_
      refine x_cst hC rfl rfl ?_
      refine x_icmp (t := 74) hC rfl (by decide) (fun _ => ?_) (fun z => ?_)
      · obtain ⟨y, hy⟩ := said_int (u5 10 (by omega))
        refine x_lda hC rfl rfl rfl ?_
        refine x_get hC rfl rfl hH ha gM_at rfl (by decide) fs ?_
        refine x_cst hC rfl rfl ?_
        refine x_ald hC rfl (ai := 0) rfl u1 u2 ⟨by rw [e10]; decide, by rw [e10]; omega⟩ (v := .int y) (by rw [e10]; exact hy) ?_
        refine x_iret hC rfl ⟨hH, hf, List.forall_mem_cons.mpr ⟨⟨fun z => (by cases z), fun _ => ?_⟩, List.forall_mem_nil _⟩, _, List.mem_cons_self, ⟨_, rfl, _, rfl, k_in_top _⟩, fun _ h => (by cases h), fun _ h => (by cases h)⟩
        rw [hP]
        refine ⟨fun j => ?_, fun j => ?_⟩
        · rw [h41, v41 j]
          by_cases c : j = n.toInt.toNat
          · rw [if_pos c, if_pos ⟨hn, c⟩]
          · rw [if_neg c, if_neg (fun h => c h.2)]
        · rw [h42, v42'', v42', v42 j]
          by_cases c : j = n.toInt.toNat
          · rw [if_pos c, if_pos ⟨hn, c⟩]
          · rw [if_neg c, if_neg (fun h => c h.2)]
      · have z : ¬ (Int32.ofInt 132).toInt ≤ x.toInt := z
        rw [e132] at z
        obtain ⟨y, hy⟩ := said_int (u5 x.toInt.toNat (by omega))
        obtain ⟨bi, fi, ti, -⟩ := vR_in h0 hH ha (k := 39) (t := 49) rfl
        obtain ⟨cI, tyI, mI, fI, t1, t2, t3, t4, t5⟩ := k_arr hH ti img_at
        have t3 : 528 ≤ mI := t3
        have hm : (k_binV .imul (Int32.ofInt 132) n).toInt = 132 * n.toInt := i_mul (by rw [e132]) (by omega) (by omega)
        have hix : (k_binV .iadd (k_binV .imul (Int32.ofInt 132) n) x).toInt = 132 * n.toInt + x.toInt := i_add (by rw [hm]) (by omega) (by omega)
        have hixn : (k_binV .iadd (k_binV .imul (Int32.ofInt 132) n) x).toInt.toNat = 132 * n.toInt.toNat + x.toInt.toNat := by omega
        refine x_lda hC rfl rfl rfl ?_
        refine x_get hC rfl rfl hH ha gM_at rfl (by decide) fi ?_
        refine x_cst hC rfl rfl ?_
        refine x_ldi hC rfl rfl rfl ?_
        refine x_bin hC rfl rfl ?_
        refine x_ldi hC rfl rfl rfl ?_
        refine x_bin hC rfl rfl ?_
        refine x_lda hC rfl rfl rfl ?_
        refine x_get hC rfl rfl hH ha gM_at rfl (by decide) fs ?_
        refine x_ldi hC rfl rfl rfl ?_
        refine x_ald hC rfl (ai := 0) rfl u1 u2 ⟨x1, by omega⟩ hy ?_
        refine x_iast hC rfl hH ti img_at rfl t2 ⟨by omega, by omega⟩ (show k_ok τ (k_el imgE kA _) (.int y) by rw [hixn, ← img_el (by omega) (by omega), ← hy]; exact u5 x.toInt.toNat (by omega)) (fun H5 hH5 f5 s5 o5 => ?_)
        have hx1 : (x + Int32.ofInt 1).toInt = x.toInt + 1 := i_add (by rw [e1]) (by omega) (by omega)
        refine x_iinc hC rfl (m := 0) rfl (by decide) rfl ?_
        refine x_goto (t := 43) hC rfl (by decide) ?_
        exact ih H5 _ hH5 (k_fr_trans hf f5 (by decide)) (Eq.trans (vA_kept1 h0 hH f5 ha (k := 41) (t := 51) (by decide) rfl ⟨_, rfl⟩ (by decide) (by decide)) h41) (Eq.trans (vA_kept1 h0 hH f5 ha (k := 42) (t := 52) (by decide) rfl ⟨_, rfl⟩ (by decide) (by decide)) h42) (by rw [hx1]; omega) (by rw [hx1]; omega) (by rw [hx1]; omega)
  refine x_cst hC rfl rfl ?_
  refine x_ist_n hC rfl (by decide) rfl ?_
  exact loop 133 H4 _ hH4 g4 rfl rfl (by rw [z0]; decide) (by rw [z0]; decide) (by rw [z0]; decide)
theorem C_bkM (h0 : gE1 g) (hT : ∀ GI, k_tys (gE g tys B0 GI)) (H0 : Heap) (a : Nat) (ha : τ a = some 11) (n : Int32) : s_Met l (gE g tys B0 (hGI H0 (fun H => vI g H a 23 = if inI n ∧ vA g H0 a 42 n.toInt.toNat ≠ 0 then vA g H0 a 41 n.toInt.toNat else vI g H0 a 23))) τ gTB yX12_back cX12_back 3 1 K_bkM ⟨1, 0, 0, 30⟩ (fun ps => ps = [.ref a, .int n]) := by
  refine x_metZ (I := I_X12_back) (FL := gFL12) (CI := gCI12) (CJ := gCJ12) (by decide +kernel) dec_X12_back (fun X hts => ⟨gFLk12 hts, gCIk12 hts, gCJk12 hts⟩) (gEok0 h0) (hT _) (fun _ => by show 2 ≤ 3; decide) ?_
  rintro X ps rfl hl hr hts hC hH hpre
  have hH0 : X.2.2.2.2.1.heap = H0 := (hpre.2.2.2 0 List.mem_cons_self).1 rfl
  subst hH0
  have hF := xF hC
  have hK : kK g gCl tys B0 X.2.2.2.2.1 := xKK hC
  subst hl
  obtain ⟨P, hP⟩ : ∃ P : Heap → Prop, P = fun H => vI g H a 23 = if inI n ∧ vA g X.2.2.2.2.1.heap a 42 n.toInt.toNat ≠ 0 then vA g X.2.2.2.2.1.heap a 41 n.toInt.toNat else vI g X.2.2.2.2.1.heap a 23 := ⟨_, rfl⟩
  rw [← hP] at hC hH hpre ⊢
  have z0 : (Int32.ofInt 0).toInt = 0 := i_of (by decide) (by decide)
  have e1 : (Int32.ofInt 1).toInt = 1 := i_of (by decide) (by decide)
  have e132 : (Int32.ofInt 132).toInt = 132 := i_of (by decide) (by decide)
  have e10 : (Int32.ofInt 10).toInt = 10 := i_of (by decide) (by decide)
  refine x_ldi hC rfl rfl rfl ?_
  refine x_i2lE hC rfl ?_
  refine x_lcstE hC rfl rfl (fun y0 hy0 => ?_)
  refine x_lcstE hC rfl rfl (fun y3 hy3 => ?_)
  have h64 : n.toInt64.toInt = n.toInt := Int32.toInt_toInt64 n
  refine x_callZ (E2 := gE g tys B0 (hGI X.2.2.2.2.1.heap P)) (K2 := K_in (if y0.toInt ≤ n.toInt64.toInt ∧ n.toInt64.toInt ≤ y3.toInt then 1 else 0)) (as := [.long n.toInt64, .long y0, .long y3]) (rest := []) (s_callS (cc := cX12_back) hF hK hts gGood (C_in h0 (hT _) n.toInt64 y0 y3) wk_X12_in.1 wk_X12_in.2.1 wl_RX12_121 wk_X12_in.2.2 rfl rfl wd_X12_in ⟨by rw [hr]; decide, by rw [hr]; decide⟩ (dec_X12_back (6, .invokestatic 121, 3) (List.mem_of_getElem? (i := 4) rfl))) rfl rfl hH ⟨rfl, fun i w hw => ?_, trivial, fun _ h => (by cases h)⟩ rfl (by decide) (fun H1 v hp => ?_)
  · match i, hw with
    | 0, hw => cases hw; exact ⟨_, rfl, k_okL⟩
    | 1, hw => cases hw; exact ⟨_, rfl, k_okL⟩
    | 2, hw => cases hw; exact ⟨_, rfl, k_okL⟩
    | n + 3, hw => cases hw
  obtain ⟨hH1, f1, -, w, rfl, w1, w2⟩ := s_postX hp
  rw [hy0, hy3, h64] at w1 w2
  have hw : w.toInt = if 0 ≤ n.toInt ∧ n.toInt ≤ 3 then 1 else 0 := Int.le_antisymm w2 w1
  have sE : ∀ q ∈ ([] : List (Nat × Nat)), q ∈ ([(11, 22), (11, 23), (11, 31), (41, 0)] : List (Nat × Nat)) := fun _ h => by cases h
  have g1 := k_frU f1 sE
  have kA1 : ∀ (k t : Nat), k < 43 → gMF[k]? = some (.inr (.inr (.inl (false, [t])))) → (∃ q, gTT[t]? = some (.inr q)) → vA g H1 a k = vA g X.2.2.2.2.1.heap a k := fun k t hk hx hq => vA_kept1 h0 hH f1 ha hk hx hq (fun h => by cases h) (fun h => by cases h)
  have kI1 : vI g H1 a 23 = vI g X.2.2.2.2.1.heap a 23 := vI_kept f1 ha (by decide) (fun h => by cases h)
  have no : ¬ (inI n ∧ vA g X.2.2.2.2.1.heap a 42 n.toInt.toNat ≠ 0) → kx X (gE g tys B0 (hGI X.2.2.2.2.1.heap P)) H1 21 3 [(0, .ref a), (1, .int n)] [] := by
    intro hno
    refine x_cst hC rfl rfl ?_
    refine x_iret hC rfl ⟨hH1, g1, List.forall_mem_cons.mpr ⟨⟨fun z => (by cases z), fun _ => ?_⟩, List.forall_mem_nil _⟩, _, List.mem_cons_self, ⟨_, rfl, _, rfl, k_in_top _⟩, fun _ h => (by cases h), fun _ h => (by cases h)⟩
    rw [hP]
    show vI g H1 a 23 = _
    rw [if_neg hno, kI1]
  refine x_if (t := 21) hC rfl (by decide) (fun z => ?_) (fun z => ?_)
  · have z : w.toInt = (0 : Int32).toInt := z
    have z : w.toInt = 0 := z
    exact no (fun h => by rw [if_pos h.1] at hw; omega)
  have z : ¬ w.toInt = (0 : Int32).toInt := z
  have z : ¬ w.toInt = 0 := z
  have hn : inI n := Classical.byContradiction fun h => by rw [if_neg h] at hw; omega
  have n1 := hn.1
  have n2 := hn.2
  obtain ⟨bm, fm, tm, em⟩ := vR_in h0 hH1 ha (k := 42) (t := 52) rfl
  obtain ⟨cM, tyM, mM, fM, q1, q2, q3, q4, q5⟩ := k_arr hH1 tm (show gTT[52]? = some (.inr _) from rfl)
  have q3 : 4 ≤ mM := q3
  obtain ⟨ym, hym, -⟩ := q5 n.toInt.toNat (by omega)
  have hymv : vA g X.2.2.2.2.1.heap a 42 n.toInt.toNat = ym.toInt := by rw [← kA1 42 52 (by decide) rfl ⟨_, rfl⟩, em]; exact vE_at q2 (by omega) hym
  refine x_lda hC rfl rfl rfl ?_
  refine x_get hC rfl rfl hH1 ha gM_at rfl (by decide) fm ?_
  refine x_ldi hC rfl rfl rfl ?_
  refine x_ald hC rfl (ai := 2) rfl q1 q2 ⟨n1, by omega⟩ hym ?_
  refine x_if (t := 23) hC rfl (by decide) (fun zm => ?_) (fun zm => ?_)
  rotate_left
  · have zm : ¬ ¬ ym.toInt = (0 : Int32).toInt := zm
    have zm : ym.toInt = 0 := Classical.not_not.mp zm
    exact no (fun h => h.2 (by rw [hymv]; exact zm))
  have zm : ¬ ym.toInt = (0 : Int32).toInt := zm
  have zm : ¬ ym.toInt = 0 := zm
  have hyes : inI n ∧ vA g X.2.2.2.2.1.heap a 42 n.toInt.toNat ≠ 0 := ⟨hn, by rw [hymv]; exact zm⟩
  obtain ⟨bf, cF, tyF, mF, fF, ff, tf, p1, p2, p3, ef, p5⟩ := ar_in h0 hH1 ha (k := 40) (t := 50) rfl rfl
  have p3 : 4 ≤ mF := p3
  obtain ⟨yf, hyf, i1, i2⟩ := p5 n.toInt.toNat (by omega)
  refine x_lda hC rfl rfl rfl ?_
  refine x_lda hC rfl rfl rfl ?_
  refine x_get hC rfl rfl hH1 ha gM_at rfl (by decide) ff ?_
  refine x_ldi hC rfl rfl rfl ?_
  refine x_ald hC rfl (ai := 0) rfl p1 p2 ⟨n1, by omega⟩ hyf ?_
  refine x_put hC rfl rfl hH1 ha gM_at rfl (k := 22) rfl ⟨_, rfl, i1, i2⟩ (fun H2 hH2 f2 w2' o2 => ?_)
  have g2 := k_fr_trans g1 f2 (by decide)
  have k41 : vA g H2 a 41 = vA g X.2.2.2.2.1.heap a 41 := Eq.trans (vA_kept1 h0 hH1 f2 ha (k := 41) (t := 51) (by decide) rfl ⟨_, rfl⟩ (by decide) (by decide)) (kA1 41 51 (by decide) rfl ⟨_, rfl⟩)
  obtain ⟨bx, cX, tyX, mX, fX, fx, tx, r1, r2, r3, ex, r5⟩ := ar_in h0 hH2 ha (k := 41) (t := 51) rfl rfl
  have r3 : 4 ≤ mX := r3
  obtain ⟨yx, hyx, j1, j2⟩ := r5 n.toInt.toNat (by omega)
  have hyxv : vA g X.2.2.2.2.1.heap a 41 n.toInt.toNat = yx.toInt := by rw [← k41, ex]; exact vE_at r2 (by omega) hyx
  refine x_lda hC rfl rfl rfl ?_
  refine x_lda hC rfl rfl rfl ?_
  refine x_get hC rfl rfl hH2 ha gM_at rfl (by decide) fx ?_
  refine x_ldi hC rfl rfl rfl ?_
  refine x_ald hC rfl (ai := 0) rfl r1 r2 ⟨n1, by omega⟩ hyx ?_
  refine x_put hC rfl rfl hH2 ha gM_at rfl (k := 23) rfl ⟨_, rfl, j1, j2⟩ (fun H3 hH3 f3 w3 o3 => ?_)
  have g3 := k_fr_trans g2 f3 (by decide)
  have v23 : vI g H3 a 23 = yx.toInt := by
    have w3 : (H3[a]?).bind (fun c => c.slots[g.2 12 23]?) = some (.int yx) := w3
    unfold vI
    rw [w3]
  refine x_lda hC rfl rfl rfl ?_
  refine x_cst hC rfl rfl ?_
  refine x_put hC rfl rfl hH3 ha gM_at rfl (k := 31) rfl ⟨_, rfl, by rw [z0]; decide, by rw [z0]; decide⟩ (fun H4 hH4 f4 w4 o4 => ?_)
  have g4 := k_fr_trans g3 f4 (by decide)
  have v23' : vI g H4 a 23 = yx.toInt := Eq.trans (vI_kept f4 ha (by decide) (by decide)) v23
  have loop : ∀ (N : Nat) (H : Heap) (x : Int32), k_HT (gE g tys B0 (hGI X.2.2.2.2.1.heap P)) τ H → k_fr (gE g tys B0 (hGI X.2.2.2.2.1.heap P)) τ [(11, 22), (11, 23), (11, 31), (41, 0)] X.2.2.2.2.1.heap H → vI g H a 23 = yx.toInt → 0 ≤ x.toInt → x.toInt ≤ 132 → (132 - x.toInt).toNat < N → kx X (gE g tys B0 (hGI X.2.2.2.2.1.heap P)) H 50 3 [(2, .int x), (0, .ref a), (1, .int n)] [] := by
    intro N
    induction N with
    | zero => intro H x _ _ _ _ _ h; omega
    | succ N ih =>
      intro H x hH hf h23 x1 x2 hN
      obtain ⟨bs, fs, ts, -⟩ := vR_in h0 hH ha (k := 21) (t := 41) rfl
      obtain ⟨cS, tyS, mS, fS, u1, u2, u3, u4, u5⟩ := k_arr hH ts said_at
      have u3 : 132 ≤ mS := u3
      refine x_ldi hC rfl rfl rfl ?_
      refine x_cst hC rfl rfl ?_
      refine x_icmp (t := 81) hC rfl (by decide) (fun _ => ?_) (fun z => ?_)
      · obtain ⟨y, hy⟩ := said_int (u5 10 (by omega))
        refine x_lda hC rfl rfl rfl ?_
        refine x_get hC rfl rfl hH ha gM_at rfl (by decide) fs ?_
        refine x_cst hC rfl rfl ?_
        refine x_ald hC rfl (ai := 0) rfl u1 u2 ⟨by rw [e10]; decide, by rw [e10]; omega⟩ (v := .int y) (by rw [e10]; exact hy) ?_
        refine x_iret hC rfl ⟨hH, hf, List.forall_mem_cons.mpr ⟨⟨fun z => (by cases z), fun _ => ?_⟩, List.forall_mem_nil _⟩, _, List.mem_cons_self, ⟨_, rfl, _, rfl, k_in_top _⟩, fun _ h => (by cases h), fun _ h => (by cases h)⟩
        rw [hP]
        show vI g H a 23 = _
        rw [if_pos hyes, hyxv]
        exact h23
      · have z : ¬ (Int32.ofInt 132).toInt ≤ x.toInt := z
        rw [e132] at z
        obtain ⟨bi, fi, ti, -⟩ := vR_in h0 hH ha (k := 39) (t := 49) rfl
        obtain ⟨cI, tyI, mI, fI, t1, t2, t3, t4, t5⟩ := k_arr hH ti img_at
        have t3 : 528 ≤ mI := t3
        have hm : (k_binV .imul (Int32.ofInt 132) n).toInt = 132 * n.toInt := i_mul (by rw [e132]) (by omega) (by omega)
        have hix : (k_binV .iadd (k_binV .imul (Int32.ofInt 132) n) x).toInt = 132 * n.toInt + x.toInt := i_add (by rw [hm]) (by omega) (by omega)
        have hixn : (k_binV .iadd (k_binV .imul (Int32.ofInt 132) n) x).toInt.toNat = 132 * n.toInt.toNat + x.toInt.toNat := by omega
        have hk := (img_el (k := n.toInt.toNat) (i := x.toInt.toNat) (by omega) (by omega)).mpr (t5 (132 * n.toInt.toNat + x.toInt.toNat) (by omega))
        obtain ⟨y, hy⟩ := said_int hk
        refine x_lda hC rfl rfl rfl ?_
        refine x_get hC rfl rfl hH ha gM_at rfl (by decide) fs ?_
        refine x_ldi hC rfl rfl rfl ?_
        refine x_lda hC rfl rfl rfl ?_
        refine x_get hC rfl rfl hH ha gM_at rfl (by decide) fi ?_
        refine x_cst hC rfl rfl ?_
        refine x_ldi hC rfl rfl rfl ?_
        refine x_bin hC rfl rfl ?_
        refine x_ldi hC rfl rfl rfl ?_
        refine x_bin hC rfl rfl ?_
        refine x_ald hC rfl (ai := 0) rfl t1 t2 ⟨by omega, by omega⟩ (v := .int y) (by rw [hixn]; exact hy) ?_
        refine x_iast hC rfl hH ts said_at rfl u2 ⟨x1, by omega⟩ (show k_ok τ (k_el saidE kA _) (.int y) by rw [← hy]; exact hk) (fun H5 hH5 f5 s5 o5 => ?_)
        have hx1 : (x + Int32.ofInt 1).toInt = x.toInt + 1 := i_add (by rw [e1]) (by omega) (by omega)
        refine x_iinc hC rfl (m := 0) rfl (by decide) rfl ?_
        refine x_goto (t := 50) hC rfl (by decide) ?_
        exact ih H5 _ hH5 (k_fr_trans hf f5 (by decide)) (Eq.trans (vI_kept f5 ha (by decide) (by decide)) h23) (by rw [hx1]; omega) (by rw [hx1]; omega) (by rw [hx1]; omega)
  refine x_cst hC rfl rfl ?_
  refine x_ist_n hC rfl (by decide) rfl ?_
  exact loop 133 H4 _ hH4 g4 v23' (by rw [z0]; decide) (by rw [z0]; decide) (by rw [z0]; decide)
end
