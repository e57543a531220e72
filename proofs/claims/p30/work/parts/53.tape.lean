/-! ===== Tape: pass, number, scan ===== -/
theorem x_sub {X : kX} {E : kE} {H : Heap} {pc nL : Nat} {L L' : List (Nat × Value)} {st : List Value} (h : ∀ q ∈ L, q ∈ L') (k : kx X E H pc nL L st) : kx X E H pc nL L' st := fun locs hl ls hls => k locs hl ls ⟨hls.1, hls.2.1, fun q hq => hls.2.2 q (h q hq)⟩
theorem s_postM {E : kE} {τ : kTau} {H H' : Heap} {P : List kInfo} {q : kB} {m : List (Nat × Nat)} {as : List Value} {v : Option Value} (hp : k_post E τ H H' (P, [], [(some (.inl q), [], [])], m, [], []) as v) : k_HT E τ H' ∧ k_fr E τ m H H' ∧ ∃ x : Int32, v = some (.int x) ∧ k_in q x.toInt := by
  obtain ⟨p1, p2, -, A, hA, hA2⟩ := hp
  obtain rfl := List.mem_singleton.mp hA
  obtain ⟨⟨w, hw, x, hx, hq⟩, -, -⟩ := hA2
  subst hx
  exact ⟨p1, p2, x, hw, hq⟩
section
variable {l : Launch} {g : va_G} {tys : List (ClassId × FieldType)} {B0 : Nat} {c : gGh} {τ : kTau}
theorem t_arg1 {GI : kGI} {H : Heap} {K : kCtr} {ps : List Value} (hK : K.1 = [.inr (.inr (.inl (false, [1])))]) (hp : k_pre (gE g tys B0 GI) τ H K ps) : ∃ a, ps = [.ref a] ∧ τ a = some 1 := by
  obtain ⟨p1, p2, -⟩ := hp
  rw [hK] at p1 p2
  match ps, p1 with
  | [w0], _ =>
    obtain ⟨u0, z0, o0⟩ := p2 0 _ rfl
    obtain ⟨a, r0, ha⟩ := k_refOk o0
    have y0 : w0 = .ref a := by simpa [r0] using z0
    subst y0
    exact ⟨a, rfl, ha⟩
theorem t_inv {H : Heap} {a b T : Nat} {x : Int32} (hu : gUU τ) (ha : τ a = some 1) (fk : (H[a]?).bind (fun c => c.slots[g.2 7 2]?) = some (.ref b)) (fn : (H[a]?).bind (fun c => c.slots[g.2 7 5]?) = some (.int x)) (hT : T ≤ 400) (hx : x.toInt ≤ (T : Int)) (hv : vE H b T = -1) : gGI g c 0 τ H :=
  ⟨fun _ a' b' ha' fb => by
    have := hu.2 a' a ha' ha
    subst this
    rw [fk] at fb
    cases fb
    exact ⟨T, x, hT, fn, hx, hv⟩, Or.inl rfl, fun a' ha' => ⟨gU_of hu.1 ha', (show iv c _ _ 0 from trivial)⟩⟩
/-- behind the next kind, if it isn't the end -/
theorem t_next (h0 : gE1 g) {H : Heap} {a bk m : Nat} {cA : ClassId} {f : Nat → Value} {xn y : Int32} (ha : τ a = some 1) (hg : gGI g c 0 τ H) (fk : (H[a]?).bind (fun c => c.slots[g.2 7 2]?) = some (.ref bk)) (fn : (H[a]?).bind (fun c => c.slots[g.2 7 5]?) = some (.int xn)) (q2 : H[bk]? = some (arrV cA m f)) (n1 : 0 ≤ xn.toInt) (hm : xn.toInt.toNat < m) (hy : f xn.toInt.toNat = .int y) (hne : y.toInt ≠ -1) : ∃ T : Nat, T ≤ 400 ∧ xn.toInt + 1 ≤ (T : Int) ∧ vE H bk T = -1 := by
  obtain ⟨T, x', t1, t2, t3, t4⟩ := hg.1 rfl a bk ha fk
  rw [fn] at t2
  cases t2
  refine ⟨T, t1, ?_, t4⟩
  have e := vE_at q2 hm hy
  have : T ≠ xn.toInt.toNat := fun z => by
    rw [z, e] at t4
    exact hne t4
  omega
theorem C_X7_pass (h0 : gE1 g) (hu : gUU τ) (hT : k_tys (gE g tys B0 (gGI g c))) : k_Met l (gE g tys B0 (gGI g c)) τ gTB yX7_pass cX7_pass 1 0 K_X7_pass ⟨16, 0, 0, 600⟩ := by
  refine x_met (I := I_X7_pass) (FL := gFL7) (CI := gCI7) (CJ := gCJ7) (by decide +kernel) dec_X7_pass (fun X hts => ⟨gFLk7 hts, gCIk7 hts, gCJk7 hts⟩) (gEok0 h0) hT (fun _ => by show 1 ≤ 1; decide) ?_
  intro X ps hl hr hts hC hH hpre
  obtain ⟨a, rfl, ha⟩ := t_arg1 rfl hpre
  have hg0 := hpre.2.2.2 0 List.mem_cons_self
  obtain ⟨bk, fk, tk⟩ := tR_in h0 hH ha gT_at (k := 2) (u := 13) rfl
  obtain ⟨xn, fn, n1, n2⟩ := tI_in h0 hH ha gT_at (k := 5) rfl
  have n1 : 0 ≤ xn.toInt := n1
  have n2 : xn.toInt ≤ 400 := n2
  obtain ⟨cA, ty, m, f, q1, q2, q3, q4, q5⟩ := k_arr hH tk (show gTT[13]? = some (.inr _) from rfl)
  have q3 : 401 ≤ m := q3
  obtain ⟨y, hy, -⟩ := q5 xn.toInt.toNat (by omega)
  have em : (Int32.ofInt (-1)).toInt = -1 := i_of (by decide) (by decide)
  refine x_lda hC rfl rfl rfl ?_
  refine x_get hC rfl rfl hH ha gT_at rfl (by decide) fk ?_
  refine x_lda hC rfl rfl rfl ?_
  refine x_get hC rfl rfl hH ha gT_at rfl (by decide) fn ?_
  refine x_ald hC rfl (ai := 0) rfl q1 q2 ⟨n1, by omega⟩ hy ?_
  refine x_cst hC rfl rfl ?_
  refine x_icmp (t := 23) hC rfl (by decide) (fun z => ?_) (fun z => ?_)
  · exact x_vret hC rfl ⟨hH, k_fr_refl, List.forall_mem_cons.mpr ⟨hg0, List.forall_mem_nil _⟩, _, List.mem_cons_self, rfl, fun _ h => (by cases h), fun _ h => (by cases h)⟩
  · have z : ¬ y.toInt = (Int32.ofInt (-1)).toInt := z
    rw [em] at z
    obtain ⟨T, t1, t2, t3⟩ := t_next h0 ha hg0 fk fn q2 n1 (by omega) hy z
    have hx1 : (k_binV .iadd xn (Int32.ofInt 1)).toInt = xn.toInt + 1 := i_add (by rw [i_of (by decide) (by decide)]) (by omega) (by omega)
    refine x_lda hC rfl rfl rfl ?_
    refine x_dup hC rfl rfl ?_
    refine x_get hC rfl rfl hH ha gT_at rfl (by decide) fn ?_
    refine x_cst hC rfl rfl ?_
    refine x_bin hC rfl rfl ?_
    refine x_put hC rfl rfl hH ha gT_at rfl (k := 5) rfl ⟨_, rfl, by rw [hx1]; show (0 : Int) ≤ _; omega, by rw [hx1]; show _ ≤ (400 : Int); omega⟩ (fun H1 hH1 fr1 w1 o1 => ?_)
    have nk : bk ≠ a := fun z => by rw [z, ha] at tk; cases tk
    have e2 : (H1[a]?).bind (fun c => c.slots[g.2 7 2]?) = some (.ref bk) := by
      have := (fr1.2.2 a 1 ha).1 _ gT_at 2 (by decide) (by decide)
      exact Eq.trans this fk
    refine x_vret hC rfl ⟨hH1, fr1, List.forall_mem_cons.mpr ⟨t_inv hu ha e2 w1 t1 (by rw [hx1]; exact t2) (by rw [vE_kept (o1 bk nk)]; exact t3), List.forall_mem_nil _⟩, _, List.mem_cons_self, rfl, fun _ h => (by cases h), fun _ h => (by cases h)⟩
def K_num (lo hi : Int) : kCtr := ([.inr (.inr (.inl (false, [1]))), .inl (lo, 2147483647), .inl ((-2147483648), hi), kA], [], [(some (.inl ((-1), (-1))), [], []), (some (.inl (lo, hi)), [], [])], [(1, 5), (1, 6)], [0], [0])
theorem t_arg4 {GI : kGI} {H : Heap} {lo hi : Int} {ps : List Value} (hp : k_pre (gE g tys B0 GI) τ H (K_num lo hi) ps) : ∃ (a : Nat) (x y z : Int32), ps = [.ref a, .int x, .int y, .int z] ∧ τ a = some 1 ∧ lo ≤ x.toInt ∧ y.toInt ≤ hi := by
  obtain ⟨p1, p2, -⟩ := hp
  match ps, p1 with
  | [w0, w1, w2, w3], _ =>
    obtain ⟨u0, z0, o0⟩ := p2 0 _ rfl
    obtain ⟨u1, z1, x, o1, b1⟩ := p2 1 _ rfl
    obtain ⟨u2, z2, y, o2, b2⟩ := p2 2 _ rfl
    obtain ⟨u3, z3, z, o3, -⟩ := p2 3 _ rfl
    obtain ⟨a, r0, ha⟩ := k_refOk o0
    have y0 : w0 = .ref a := by simpa [r0] using z0
    have y1 : w1 = .int x := by simpa [o1] using z1
    have y2 : w2 = .int y := by simpa [o2] using z2
    have y3 : w3 = .int z := by simpa [o3] using z3
    subst y0; subst y1; subst y2; subst y3
    exact ⟨a, x, y, z, rfl, ha, b1.1, b2.2⟩
theorem C_num (h0 : gE1 g) (hu : gUU τ) (hT : k_tys (gE g tys B0 (gGI g c))) (lo hi : Int) : k_Met l (gE g tys B0 (gGI g c)) τ gTB yX7_number cX7_number 5 1 (K_num lo hi) ⟨16, 0, 0, 600⟩ := by
  refine x_met (I := I_X7_number) (FL := gFL7) (CI := gCI7) (CJ := gCJ7) (by decide +kernel) dec_X7_number (fun X hts => ⟨gFLk7 hts, gCIk7 hts, gCJk7 hts⟩) (gEok0 h0) hT (fun _ => by show 4 ≤ 5; decide) ?_
  intro X ps hl hr hts hC hH hpre
  obtain ⟨a, xl, xm, xt, rfl, ha, b1, b2⟩ := t_arg4 hpre
  have hg0 := hpre.2.2.2 0 List.mem_cons_self
  have hF := xF hC
  have hK : kK g gCl tys B0 X.2.2.2.2.1 := xKK hC
  subst hl
  obtain ⟨bk, fk, tk⟩ := tR_in h0 hH ha gT_at (k := 2) (u := 13) rfl
  obtain ⟨bv, fv, tv⟩ := tR_in h0 hH ha gT_at (k := 4) (u := 15) rfl
  obtain ⟨xn, fn, n1, n2⟩ := tI_in h0 hH ha gT_at (k := 5) rfl
  have n1 : 0 ≤ xn.toInt := n1
  have n2 : xn.toInt ≤ 400 := n2
  obtain ⟨cA, ty, m, f, q1, q2, q3, q4, q5⟩ := k_arr hH tk (show gTT[13]? = some (.inr _) from rfl)
  obtain ⟨cB, tyB, mB, fB, v1, v2, v3, v4, v5⟩ := k_arr hH tv (show gTT[15]? = some (.inr _) from rfl)
  have q3 : 401 ≤ m := q3
  have v3 : 401 ≤ mB := v3
  obtain ⟨y, hy, -⟩ := q5 xn.toInt.toNat (by omega)
  obtain ⟨yv, hyv, -⟩ := v5 xn.toInt.toNat (by omega)
  have e256 : (Int32.ofInt 256).toInt = 256 := i_of (by decide) (by decide)
  have ref : ∀ (pc j : Nat) (L : List (Nat × Value)) (k : Int32), k_call X (gE g tys B0 (gGI g c)) 5 τ K_X7_refuse pc → (∀ (H1 : Heap) (w : Int32), k_post (gE g tys B0 (gGI g c)) τ X.2.2.2.2.1.heap H1 (K_num lo hi) [.ref a, .int xl, .int xm, .int xt] (some (.int (Int32.ofInt (-1)))) → kx X (gE g tys B0 (gGI g c)) H1 (pc + 3) 5 L [.int w]) → kx X (gE g tys B0 (gGI g c)) X.2.2.2.2.1.heap pc 5 L [.int k, .ref a] := by
    intro pc j L k hcl kk
    refine x_call (E2 := gE g tys B0 (gGI g c)) (K2 := K_X7_refuse) (as := [.ref a, .int k]) (rest := []) hcl rfl hH ⟨rfl, fun i z hz => ?_, trivial, fun _ h => (by cases h)⟩ rfl (by decide) (fun H1 w hp => ?_)
    · match i, hz with
      | 0, hz => cases hz; exact ⟨_, rfl, Or.inr ⟨a, 1, rfl, List.mem_singleton.mpr rfl, ha⟩⟩
      | 1, hz => cases hz; exact ⟨_, rfl, _, rfl, k_in_top _⟩
      | n + 2, hz => cases hz
    · obtain ⟨p1, p2, w', rfl, -⟩ := s_postM hp
      exact kk H1 w' ⟨p1, k_frU p2 (show ∀ q ∈ ([(1, 6)] : List (Nat × Nat)), q ∈ ([(1, 5), (1, 6)] : List (Nat × Nat)) by decide), List.forall_mem_cons.mpr ⟨gGI_fr h0 (mods := [(1, 6)]) (by decide +kernel) p2 hH hg0, List.forall_mem_nil _⟩, _, List.mem_cons_self, ⟨_, rfl, _, rfl, by rw [i_of (by decide) (by decide)]; exact ⟨Int.le_refl _, Int.le_refl _⟩⟩, fun _ h => (by cases h), fun _ h => (by cases h)⟩
  refine x_lda hC rfl rfl rfl ?_
  refine x_get hC rfl rfl hH ha gT_at rfl (by decide) fk ?_
  refine x_lda hC rfl rfl rfl ?_
  refine x_get hC rfl rfl hH ha gT_at rfl (by decide) fn ?_
  refine x_ald hC rfl (ai := 0) rfl q1 q2 ⟨n1, by omega⟩ hy ?_
  refine x_cst hC rfl rfl ?_
  refine x_icmp (t := 23) hC rfl (by decide) (fun z => ?_) (fun z => ?_)
  rotate_left
  · refine x_lda hC rfl rfl rfl ?_
    refine x_cst hC rfl rfl ?_
    refine ref 17 0 _ _ (k_callV (cc := cX7_number) (C := RX7) hF hK hts gGood (C_X7_refuse (l := X.2.1) h0 hu hT) wk_X7_refuse.1 wk_X7_refuse.2.1 wl_RX7_111 wk_X7_refuse.2.2.1 wk_X7_refuse.2.2.2 rfl rfl rfl rfl rfl wd_X7_refuse ⟨by rw [hr]; decide, by rw [hr]; decide⟩ (dec_X7_number (17, .invokevirtual 111, 3) (List.mem_of_getElem? (i := 9) rfl))) (fun H1 w hp => ?_)
    refine x_pop hC rfl rfl ?_
    refine x_cst hC rfl rfl ?_
    exact x_iret hC rfl hp
  have z : y.toInt = (Int32.ofInt 256).toInt := z
  rw [e256] at z
  obtain ⟨T, t1, t2, t3⟩ := t_next h0 ha hg0 fk fn q2 n1 (by omega) hy (by omega)
  refine x_lda hC rfl rfl rfl ?_
  refine x_get hC rfl rfl hH ha gT_at rfl (by decide) fv ?_
  refine x_lda hC rfl rfl rfl ?_
  refine x_get hC rfl rfl hH ha gT_at rfl (by decide) fn ?_
  refine x_ald hC rfl (ai := 0) rfl v1 v2 ⟨n1, by omega⟩ hyv ?_
  refine x_ist hC rfl (by decide) rfl ?_
  have bad : kx X (gE g tys B0 (gGI g c)) X.2.2.2.2.1.heap 52 5 [(4, .int yv), (0, .ref a), (1, .int xl), (2, .int xm), (3, .int xt)] [] := by
    refine x_lda hC rfl rfl rfl ?_
    refine x_cst hC rfl rfl ?_
    refine ref 54 0 _ _ (k_callV (cc := cX7_number) (C := RX7) hF hK hts gGood (C_X7_refuse (l := X.2.1) h0 hu hT) wk_X7_refuse.1 wk_X7_refuse.2.1 wl_RX7_111 wk_X7_refuse.2.2.1 wk_X7_refuse.2.2.2 rfl rfl rfl rfl rfl wd_X7_refuse ⟨by rw [hr]; decide, by rw [hr]; decide⟩ (dec_X7_number (54, .invokevirtual 111, 3) (List.mem_of_getElem? (i := 30) rfl))) (fun H1 w hp => ?_)
    refine x_pop hC rfl rfl ?_
    refine x_cst hC rfl rfl ?_
    exact x_iret hC rfl hp
  refine x_ldi hC rfl rfl rfl ?_
  refine x_ldi hC rfl rfl rfl ?_
  refine x_icmp (t := 52) hC rfl (by decide) (fun _ => bad) (fun z1 => ?_)
  have z1 : ¬ yv.toInt < xl.toInt := z1
  refine x_ldi hC rfl rfl rfl ?_
  refine x_ldi hC rfl rfl rfl ?_
  refine x_icmp (t := 52) hC rfl (by decide) (fun _ => bad) (fun z2 => ?_)
  have z2 : ¬ xm.toInt < yv.toInt := z2
  refine x_ldi hC rfl rfl rfl ?_
  refine x_ldi hC rfl rfl rfl ?_
  refine x_icmp (t := 60) hC rfl (by decide) (fun _ => ?_) (fun _ => bad)
  have hx1 : (k_binV .iadd xn (Int32.ofInt 1)).toInt = xn.toInt + 1 := i_add (by rw [i_of (by decide) (by decide)]) (by omega) (by omega)
  refine x_lda hC rfl rfl rfl ?_
  refine x_dup hC rfl rfl ?_
  refine x_get hC rfl rfl hH ha gT_at rfl (by decide) fn ?_
  refine x_cst hC rfl rfl ?_
  refine x_bin hC rfl rfl ?_
  refine x_put hC rfl rfl hH ha gT_at rfl (k := 5) rfl ⟨_, rfl, by rw [hx1]; show (0 : Int) ≤ _; omega, by rw [hx1]; show _ ≤ (400 : Int); omega⟩ (fun H1 hH1 fr1 w1 o1 => ?_)
  have nk : bk ≠ a := fun z => by rw [z, ha] at tk; cases tk
  have e2 : (H1[a]?).bind (fun c => c.slots[g.2 7 2]?) = some (.ref bk) := by
    have := (fr1.2.2 a 1 ha).1 _ gT_at 2 (by decide) (by decide)
    exact Eq.trans this fk
  refine x_ldi hC rfl rfl rfl ?_
  exact x_iret hC rfl ⟨hH1, k_frU fr1 (show ∀ q ∈ ([(1, 5)] : List (Nat × Nat)), q ∈ ([(1, 5), (1, 6)] : List (Nat × Nat)) by decide), List.forall_mem_cons.mpr ⟨t_inv hu ha e2 w1 t1 (by rw [hx1]; exact t2) (by rw [vE_kept (o1 bk nk)]; exact t3), List.forall_mem_nil _⟩, _, List.mem_of_getElem? (i := 1) rfl, ⟨_, rfl, _, rfl, by show lo ≤ _; omega, by show _ ≤ hi; omega⟩, fun _ h => (by cases h), fun _ h => (by cases h)⟩
theorem C_X7_number_0_5 (h0 : gE1 g) (hu : gUU τ) (hT : k_tys (gE g tys B0 (gGI g c))) : k_Met l (gE g tys B0 (gGI g c)) τ gTB yX7_number cX7_number 5 1 K_X7_number_0_5 ⟨16, 0, 0, 600⟩ := C_num h0 hu hT 0 5
theorem C_X7_number_0_6 (h0 : gE1 g) (hu : gUU τ) (hT : k_tys (gE g tys B0 (gGI g c))) : k_Met l (gE g tys B0 (gGI g c)) τ gTB yX7_number cX7_number 5 1 K_X7_number_0_6 ⟨16, 0, 0, 600⟩ := C_num h0 hu hT 0 6
theorem C_X7_number_0_9 (h0 : gE1 g) (hu : gUU τ) (hT : k_tys (gE g tys B0 (gGI g c))) : k_Met l (gE g tys B0 (gGI g c)) τ gTB yX7_number cX7_number 5 1 K_X7_number_0_9 ⟨16, 0, 0, 600⟩ := C_num h0 hu hT 0 9
theorem C_X7_number_1_9 (h0 : gE1 g) (hu : gUU τ) (hT : k_tys (gE g tys B0 (gGI g c))) : k_Met l (gE g tys B0 (gGI g c)) τ gTB yX7_number cX7_number 5 1 K_X7_number_1_9 ⟨16, 0, 0, 600⟩ := C_num h0 hu hT 1 9
theorem C_X7_number_0_20 (h0 : gE1 g) (hu : gUU τ) (hT : k_tys (gE g tys B0 (gGI g c))) : k_Met l (gE g tys B0 (gGI g c)) τ gTB yX7_number cX7_number 5 1 K_X7_number_0_20 ⟨16, 0, 0, 600⟩ := C_num h0 hu hT 0 20
theorem C_X7_number_0_99 (h0 : gE1 g) (hu : gUU τ) (hT : k_tys (gE g tys B0 (gGI g c))) : k_Met l (gE g tys B0 (gGI g c)) τ gTB yX7_number cX7_number 5 1 K_X7_number_0_99 ⟨16, 0, 0, 600⟩ := C_num h0 hu hT 0 99
abbrev scM : List (Nat × Nat) := [(1, 5), (1, 6), (13, 0), (14, 0), (15, 0)]
theorem C_X7_scan (h0 : gE1 g) (hu : gUU τ) (hT : k_tys (gE g tys B0 (gGI g c))) : k_Met l (gE g tys B0 (gGI g c)) τ gTB yX7_scan cX7_scan 3 0 K_X7_scan ⟨18, 0, 0, 650⟩ := by
  refine x_met (I := I_X7_scan) (FL := gFL7) (CI := gCI7) (CJ := gCJ7) (by decide +kernel) dec_X7_scan (fun X hts => ⟨gFLk7 hts, gCIk7 hts, gCJk7 hts⟩) (gEok0 h0) hT (fun _ => by show 1 ≤ 3; decide) ?_
  intro X ps hl hr hts hC hH hpre
  obtain ⟨a, rfl, ha⟩ := t_arg1 rfl hpre
  have hF := xF hC
  have hK : kK g gCl tys B0 X.2.2.2.2.1 := xKK hC
  subst hl
  have z0 : (Int32.ofInt 0).toInt = 0 := i_of (by decide) (by decide)
  have em : (Int32.ofInt (-1)).toInt = -1 := i_of (by decide) (by decide)
  have e400 : (Int32.ofInt 400).toInt = 400 := i_of (by decide) (by decide)
  have fin : ∀ (H : Heap) (t p : Int32), k_HT (gE g tys B0 (gGI g c)) τ H → k_fr (gE g tys B0 (gGI g c)) τ scM X.2.2.2.2.1.heap H → 0 ≤ t.toInt → t.toInt ≤ 400 → kx X (gE g tys B0 (gGI g c)) H 56 3 [(2, .int p), (1, .int t), (0, .ref a)] [] := by
    intro H t p hH hf t1 t2
    obtain ⟨bk, fk, tk⟩ := tR_in h0 hH ha gT_at (k := 2) (u := 13) rfl
    obtain ⟨bp, fp, tp⟩ := tR_in h0 hH ha gT_at (k := 3) (u := 14) rfl
    obtain ⟨xl, fl, l1, l2⟩ := tI_in h0 hH ha gT_at (k := 1) rfl
    have fk : (H[a]?).bind (fun c => c.slots[g.2 7 2]?) = some (.ref bk) := fk
    have fp : (H[a]?).bind (fun c => c.slots[g.2 7 3]?) = some (.ref bp) := fp
    have fl : (H[a]?).bind (fun c => c.slots[g.2 7 1]?) = some (.int xl) := fl
    have l1 : 0 ≤ xl.toInt := l1
    have l2 : xl.toInt ≤ 400 := l2
    obtain ⟨cA, ty, m, f, q1, q2, q3, q4, q5⟩ := k_arr hH tk (show gTT[13]? = some (.inr _) from rfl)
    have q3 : 401 ≤ m := q3
    obtain ⟨cB, tyB, mB, fB, v1, v2, v3, v4, v5⟩ := k_arr hH tp (show gTT[14]? = some (.inr _) from rfl)
    have v3 : 401 ≤ mB := v3
    have nk : a ≠ bk := fun z => by rw [← z, ha] at tk; cases tk
    have np : a ≠ bp := fun z => by rw [← z, ha] at tp; cases tp
    have nkp : bp ≠ bk := fun z => by rw [z, tk] at tp; cases tp
    refine x_lda hC rfl rfl rfl ?_
    refine x_get hC rfl rfl hH ha gT_at rfl (by decide) fk ?_
    refine x_ldi hC rfl rfl rfl ?_
    refine x_cst hC rfl rfl ?_
    refine x_iast hC rfl hH tk (show gTT[13]? = some (.inr _) from rfl) rfl q2 ⟨t1, by omega⟩ ⟨_, rfl, k_in_top _⟩ (fun H1 hH1 fr1 s1 o1 => ?_)
    have fk1 : (H1[a]?).bind (fun c => c.slots[g.2 7 2]?) = some (.ref bk) := by rw [o1 a nk]; exact fk
    have fp1 : (H1[a]?).bind (fun c => c.slots[g.2 7 3]?) = some (.ref bp) := by rw [o1 a nk]; exact fp
    have fl1 : (H1[a]?).bind (fun c => c.slots[g.2 7 1]?) = some (.int xl) := by rw [o1 a nk]; exact fl
    have v21 : H1[bp]? = some (arrV cB mB fB) := by rw [o1 bp nkp]; exact v2
    refine x_lda hC rfl rfl rfl ?_
    refine x_get hC rfl rfl hH1 ha gT_at rfl (by decide) fp1 ?_
    refine x_ldi hC rfl rfl rfl ?_
    refine x_lda hC rfl rfl rfl ?_
    refine x_get hC rfl rfl hH1 ha gT_at rfl (by decide) fl1 ?_
    refine x_iast hC rfl hH1 tp (show gTT[14]? = some (.inr _) from rfl) rfl v21 ⟨t1, by omega⟩ ⟨_, rfl, l1, l2⟩ (fun H2 hH2 fr2 s2 o2 => ?_)
    have fk2 : (H2[a]?).bind (fun c => c.slots[g.2 7 2]?) = some (.ref bk) := by rw [o2 a np]; exact fk1
    refine x_lda hC rfl rfl rfl ?_
    refine x_cst hC rfl rfl ?_
    refine x_put hC rfl rfl hH2 ha gT_at rfl (k := 5) rfl ⟨_, rfl, by rw [z0]; decide, by rw [z0]; decide⟩ (fun H3 hH3 fr3 w3 o3 => ?_)
    have fk3 : (H3[a]?).bind (fun c => c.slots[g.2 7 2]?) = some (.ref bk) := Eq.trans ((fr3.2.2 a 1 ha).1 _ gT_at 2 (by decide) (by decide)) fk2
    refine x_lda hC rfl rfl rfl ?_
    refine x_cst hC rfl rfl ?_
    refine x_put hC rfl rfl hH3 ha gT_at rfl (k := 6) rfl ⟨_, rfl, k_in_top _⟩ (fun H4 hH4 fr4 w4 o4 => ?_)
    have fk4 : (H4[a]?).bind (fun c => c.slots[g.2 7 2]?) = some (.ref bk) := Eq.trans ((fr4.2.2 a 1 ha).1 _ gT_at 2 (by decide) (by decide)) fk3
    have fn4 : (H4[a]?).bind (fun c => c.slots[g.2 7 5]?) = some (.int (Int32.ofInt 0)) := Eq.trans ((fr4.2.2 a 1 ha).1 _ gT_at 5 (by decide) (by decide)) w3
    have hv : vE H4 bk t.toInt.toNat = -1 := by
      rw [vE_kept (o4 bk (Ne.symm nk)), vE_kept (o3 bk (Ne.symm nk)), vE_kept (o2 bk (Ne.symm nkp)), vE_upd q2 s1 (by omega) t.toInt.toNat, if_pos rfl]
      exact em
    exact x_vret hC rfl ⟨hH4, k_fr_trans (k_fr_trans (k_fr_trans (k_fr_trans hf fr1 (by decide)) fr2 (by decide)) fr3 (by decide)) fr4 (by decide), List.forall_mem_cons.mpr ⟨t_inv hu ha fk4 fn4 (T := t.toInt.toNat) (by omega) (by rw [z0]; omega) hv, List.forall_mem_nil _⟩, _, List.mem_cons_self, rfl, fun _ h => (by cases h), fun _ h => (by cases h)⟩
  have loop : ∀ (N : Nat) (H : Heap) (t p : Int32), k_HT (gE g tys B0 (gGI g c)) τ H → k_fr (gE g tys B0 (gGI g c)) τ scM X.2.2.2.2.1.heap H → 0 ≤ t.toInt → t.toInt ≤ 400 → 0 ≤ p.toInt → p.toInt ≤ 402 → ((400 - t.toInt) * 500 + (402 - p.toInt)).toNat < N → kx X (gE g tys B0 (gGI g c)) H 4 3 [(2, .int p), (1, .int t), (0, .ref a)] [] := by
    intro N
    induction N with
    | zero => intro H t p _ _ _ _ _ _ h; omega
    | succ N ih =>
      intro H t p hH hf t1 t2 p1 p2 hN
      obtain ⟨bb, fb, tb⟩ := tR_in h0 hH ha gT_at (k := 0) (u := 12) rfl
      obtain ⟨bp, fp, tp⟩ := tR_in h0 hH ha gT_at (k := 3) (u := 14) rfl
      obtain ⟨xl, fl, l1, l2⟩ := tI_in h0 hH ha gT_at (k := 1) rfl
      have l1 : 0 ≤ xl.toInt := l1
      have l2 : xl.toInt ≤ 400 := l2
      obtain ⟨cA, ty, m, f, q1, q2, q3, q4, q5⟩ := k_arr hH tb (show gTT[12]? = some (.inr _) from rfl)
      have q3 : 400 ≤ m := q3
      obtain ⟨cB, tyB, mB, fB, v1, v2, v3, v4, v5⟩ := k_arr hH tp (show gTT[14]? = some (.inr _) from rfl)
      have v3 : 401 ≤ mB := v3
      refine x_ldi hC rfl rfl rfl ?_
      refine x_lda hC rfl rfl rfl ?_
      refine x_get hC rfl rfl hH ha gT_at rfl (by decide) fl ?_
      refine x_icmp (t := 56) hC rfl (by decide) (fun _ => fin H t p hH hf t1 t2) (fun z1 => ?_)
      have z1 : ¬ xl.toInt ≤ p.toInt := z1
      refine x_ldi hC rfl rfl rfl ?_
      refine x_cst hC rfl rfl ?_
      refine x_icmp (t := 56) hC rfl (by decide) (fun _ => fin H t p hH hf t1 t2) (fun z2 => ?_)
      have z2 : ¬ (Int32.ofInt 400).toInt ≤ t.toInt := z2
      rw [e400] at z2
      obtain ⟨yb, hyb, -⟩ := q5 p.toInt.toNat (by omega)
      refine x_lda hC rfl rfl rfl ?_
      refine x_get hC rfl rfl hH ha gT_at rfl (by decide) fb ?_
      refine x_ldi hC rfl rfl rfl ?_
      refine x_ald hC rfl (ai := 1) rfl q1 q2 ⟨p1, by omega⟩ hyb ?_
      refine x_cst hC rfl rfl ?_
      refine x_icmp (t := 36) hC rfl (by decide) (fun _ => ?_) (fun _ => ?_)
      rotate_left
      · have hx1 : (p + Int32.ofInt 1).toInt = p.toInt + 1 := i_add (by rw [i_of (by decide) (by decide)]) (by omega) (by omega)
        refine x_iinc hC rfl (m := 0) rfl (by decide) rfl ?_
        refine x_goto (t := 4) hC rfl (by decide) ?_
        exact ih H t _ hH hf t1 t2 (by rw [hx1]; omega) (by rw [hx1]; omega) (by rw [hx1]; omega)
      · refine x_lda hC rfl rfl rfl ?_
        refine x_get hC rfl rfl hH ha gT_at rfl (by decide) fp ?_
        refine x_ldi hC rfl rfl rfl ?_
        refine x_ldi hC rfl rfl rfl ?_
        refine x_iast hC rfl hH tp (show gTT[14]? = some (.inr _) from rfl) rfl v2 ⟨t1, by omega⟩ ⟨_, rfl, p1, by show _ ≤ (400 : Int); omega⟩ (fun H1 hH1 fr1 s1 o1 => ?_)
        have hf1 := k_fr_trans hf fr1 (by decide)
        refine x_lda hC rfl rfl rfl ?_
        refine x_ldi hC rfl rfl rfl ?_
        refine x_ldi hC rfl rfl rfl ?_
        refine x_call (E2 := gE g tys B0 (gGI g c)) (K2 := K_X7_scanToken) (as := [.ref a, .int p, .int t]) (rest := []) (k_callV (cc := cX7_scan) (C := RX7) hF hK hts gGood (C_X7_scanToken (l := X.2.1) h0 hu hT) wk_X7_scanToken.1 wk_X7_scanToken.2.1 wl_RX7_29 wk_X7_scanToken.2.2.1 wk_X7_scanToken.2.2.2 rfl rfl rfl rfl rfl wd_X7_scanToken ⟨by rw [hr]; decide, by rw [hr]; decide⟩ (dec_X7_scan (46, .invokevirtual 29, 3) (List.mem_of_getElem? (i := 27) rfl))) rfl hH1 ⟨rfl, fun i z hz => ?_, trivial, fun _ h => (by cases h)⟩ rfl (by decide) (fun H2 w2 hp2 => ?_)
        · match i, hz with
          | 0, hz => cases hz; exact ⟨_, rfl, Or.inr ⟨a, 1, rfl, List.mem_singleton.mpr rfl, ha⟩⟩
          | 1, hz => cases hz; exact ⟨_, rfl, _, rfl, p1, by show _ ≤ (399 : Int); omega⟩
          | 2, hz => cases hz; exact ⟨_, rfl, _, rfl, t1, by show _ ≤ (399 : Int); omega⟩
          | n + 3, hz => cases hz
        · obtain ⟨r1, r2, w3, rfl, w4, w5⟩ := s_postM hp2
          have w4 : 0 ≤ w3.toInt := w4
          have w5 : w3.toInt ≤ 402 := w5
          have hf2 := k_fr_trans hf1 r2 (by decide)
          have hx1 : (t + Int32.ofInt 1).toInt = t.toInt + 1 := i_add (by rw [i_of (by decide) (by decide)]) (by omega) (by omega)
          refine x_ist_n hC rfl (by decide) rfl ?_
          refine x_iinc hC rfl (m := 1) rfl (by decide) rfl ?_
          refine x_goto (t := 4) hC rfl (by decide) ?_
          refine x_sub (L := [(2, .int w3), (1, .int (t + Int32.ofInt 1)), (0, .ref a)]) ?_ (ih H2 _ w3 r1 hf2 (by rw [hx1]; omega) (by rw [hx1]; omega) w4 w5 (by rw [hx1]; omega))
          intro q hq
          rcases List.mem_cons.mp hq with e | hq
          · subst e; exact List.mem_of_getElem? (i := 1) rfl
          rcases List.mem_cons.mp hq with e | hq
          · subst e; exact List.mem_of_getElem? (i := 0) rfl
          rcases List.mem_cons.mp hq with e | hq
          · subst e; exact List.mem_of_getElem? (i := 2) rfl
          · cases hq
  refine x_cst hC rfl rfl ?_
  refine x_ist_n hC rfl (by decide) rfl ?_
  refine x_cst hC rfl rfl ?_
  refine x_ist_n hC rfl (by decide) rfl ?_
  exact loop 300000 _ _ _ hH k_fr_refl (by rw [z0]; decide) (by rw [z0]; decide) (by rw [z0]; decide) (by rw [z0]; decide) (by rw [z0]; decide)
end
