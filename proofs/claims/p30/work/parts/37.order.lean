/-! ===== findsOrder: the rows are gone through in their order ===== -/
def pw : Nat → Int
  | 0 => 1048576
  | 1 => 65536
  | 2 => 4096
  | 3 => 256
  | 4 => 16
  | _ => 1
def mz (R : Nat → Int) : Nat → Int
  | 0 => 0
  | n + 1 => mz R n + (8 - R n) * pw n
theorem pw_pos : ∀ n : Nat, 1 ≤ pw n
  | 0 => by decide
  | 1 => by decide
  | 2 => by decide
  | 3 => by decide
  | 4 => by decide
  | n + 5 => by show (1 : Int) ≤ 1; decide
theorem pw_16 : ∀ n : Nat, n ≤ 4 → pw n = 16 * pw (n + 1)
  | 0, _ => rfl
  | 1, _ => rfl
  | 2, _ => rfl
  | 3, _ => rfl
  | 4, _ => rfl
  | n + 5, h => absurd h (by omega)
theorem mz_eq {R R' : Nat → Int} : ∀ {n : Nat}, (∀ j, j < n → R' j = R j) → mz R' n = mz R n
  | 0, _ => rfl
  | n + 1, h => by
    unfold mz
    rw [mz_eq (n := n) (fun j hj => h j (by omega)), h n (by omega)]
theorem mz_nn {R : Nat → Int} : ∀ {n : Nat}, (∀ j, j < n → R j ≤ 5) → 0 ≤ mz R n
  | 0, _ => Int.le_refl _
  | n + 1, h => by
    have h1 := mz_nn (n := n) (fun j hj => h j (by omega))
    have h2 := h n (by omega)
    have h3 : 0 ≤ (8 - R n) * pw n := Int.mul_nonneg (by omega) (by have := pw_pos n; omega)
    show 0 ≤ mz R n + (8 - R n) * pw n
    omega
theorem mz_up {R R' : Nat → Int} {k : Nat} (h : ∀ j, j < k → R' j = R j) (hk : R' k = R k + 1) : mz R' (k + 1) = mz R (k + 1) - pw k := by
  show mz R' k + (8 - R' k) * pw k = mz R k + (8 - R k) * pw k - pw k
  rw [mz_eq h, hk]
  have : (8 - (R k + 1)) * pw k = (8 - R k) * pw k - pw k := by
    rw [show (8 - (R k + 1)) = (8 - R k) - 1 by omega, Int.sub_mul, Int.one_mul]
  omega
theorem fo_again {R R' : Nat → Int} {k N : Nat} (hj : ∀ j, j < k → R' j = R j) (hk : R' k = R k + 1) (h5 : ∀ j, j < k + 1 → R' j ≤ 5) (hN : (mz R (k + 1)).toNat < N + 1) : (mz R' (k + 1)).toNat < N := by
  have h1 := mz_up hj hk
  have h2 := mz_nn h5
  have h3 := pw_pos k
  generalize mz R' (k + 1) = M' at h1 h2 ⊢
  generalize mz R (k + 1) = M at h1 hN
  generalize pw k = p at h1 h3
  clear hj hk h5
  omega
theorem fo_down {R R' : Nat → Int} {k N : Nat} (hj : ∀ j, j < k → R' j = R j) (h5 : ∀ j, j < k + 1 → R j ≤ 5) (hN : (mz R (k + 1)).toNat < N + 1) : (mz R' k).toNat < N := by
  rw [mz_eq hj]
  have h1 : mz R (k + 1) = mz R k + (8 - R k) * pw k := rfl
  have h2 := mz_nn (R := R) (n := k) (fun j hj => h5 j (Nat.lt_succ_of_lt hj))
  have h3 := h5 k (Nat.lt_succ_self k)
  have h4 : 1 * 1 ≤ (8 - R k) * pw k := Int.mul_le_mul (by omega) (pw_pos k) (by decide) (by omega)
  generalize (8 - R k) * pw k = t at h1 h4
  generalize mz R (k + 1) = M at h1 hN
  generalize mz R k = M' at h1 h2 ⊢
  clear hj h5 h3
  omega
theorem fo_up {R R' R'' : Nat → Int} {k N : Nat} (hk4 : k ≤ 4) (hj : ∀ j, j < k → R' j = R j) (hk : R' k = R k + 1) (h5 : ∀ j, j < k + 1 → R' j ≤ 5) (hj2 : ∀ j, j < k + 1 → R'' j = R' j) (hl : R'' (k + 1) = -1) (hN : (mz R (k + 1)).toNat < N + 1) : (mz R'' (k + 2)).toNat < N := by
  have h1 : mz R'' (k + 2) = mz R'' (k + 1) + (8 - R'' (k + 1)) * pw (k + 1) := rfl
  rw [mz_eq hj2, hl] at h1
  have h2 := mz_up hj hk
  have h3 := mz_nn h5
  have h4 := pw_16 k hk4
  have h6 := pw_pos (k + 1)
  generalize mz R'' (k + 2) = M'' at h1 ⊢
  generalize mz R' (k + 1) = M' at h1 h2 h3
  generalize mz R (k + 1) = M at h2 hN
  generalize pw (k + 1) = p at h1 h4 h6
  generalize pw k = p' at h2 h4
  clear hj hk h5 hj2 hl hk4
  omega
abbrev foM : List (Nat × Nat) := [(11, 19), (11, 25), (11, 26), (11, 28), (11, 29), (11, 34), (39, 0), (40, 0), (41, 0), (42, 0), (45, 0)]
section
variable {l : Launch} {g : va_G} {tys : List (ClassId × FieldType)} {B0 : Nat} {τ : kTau}
theorem C_X12_findsOrder (h0 : gE1 g) (hu : gU τ) (hT : ∀ GI, k_tys (gE g tys B0 GI)) (c : gGh) : k_Met l (gE g tys B0 (gGI g c)) τ gTB yX12_findsOrder cX12_findsOrder 5 0 K_X12_findsOrder ⟨24, 0, 0, 800⟩ := by
  refine x_met (I := I_X12_findsOrder) (FL := gFL12) (CI := gCI12) (CJ := gCJ12) (by decide +kernel) dec_X12_findsOrder (fun X hts => ⟨gFLk12 hts, gCIk12 hts, gCJk12 hts⟩) (gEok0 h0) (hT _) (fun _ => by show 3 ≤ 5; decide) ?_
  intro X ps hl hr hts hC hH0 hpre
  obtain ⟨p1, p2, -, p4⟩ := hpre
  match ps, p1 with
  | [w0, w1, w2], _ =>
    obtain ⟨u0, z0, o0⟩ := p2 0 _ rfl
    obtain ⟨u1, z1, xn, o1, b1⟩ := p2 1 _ rfl
    obtain ⟨u2, z2, xa, o2, b2⟩ := p2 2 _ rfl
    obtain ⟨a, r0, ha⟩ := k_refOk o0
    have y0 : w0 = .ref a := by simpa [r0] using z0
    have y1 : w1 = .int xn := by simpa [o1] using z1
    have y2 : w2 = .int xa := by simpa [o2] using z2
    subst y0; subst y1; subst y2
    have hg1 := p4 1 List.mem_cons_self
    have hF := xF hC
    have hK : kK g gCl tys B0 X.2.2.2.2.1 := xKK hC
    subst hl
    have z0 : (Int32.ofInt 0).toInt = 0 := i_of (by decide) (by decide)
    have e1 : (Int32.ofInt 1).toInt = 1 := i_of (by decide) (by decide)
    have em : (Int32.ofInt (-1)).toInt = -1 := i_of (by decide) (by decide)
    have e3 : (Int32.ofInt 3).toInt = 3 := i_of (by decide) (by decide)
    have sE : ∀ q ∈ ([] : List (Nat × Nat)), q ∈ foM := fun _ h => by cases h
    have s42 : ∀ q ∈ ([(42, 0)] : List (Nat × Nat)), q ∈ foM := by decide
    have s34 : ∀ q ∈ ([(11, 34)] : List (Nat × Nat)), q ∈ foM := by decide
    have sW : ∀ q ∈ ([(11, 19), (11, 25), (11, 26), (11, 28), (11, 29), (11, 34), (39, 0), (40, 0), (41, 0), (45, 0)] : List (Nat × Nat)), q ∈ foM := by decide
    have inv : ∀ H : Heap, k_fr (gE g tys B0 (gGI g c)) τ foM X.2.2.2.2.1.heap H → gGI g c 1 τ H := fun H hf => gGI_fr h0 (mods := foM) (by decide +kernel) hf hH0 hg1
    have post : ∀ H : Heap, k_HT (gE g tys B0 (gGI g c)) τ H → k_fr (gE g tys B0 (gGI g c)) τ foM X.2.2.2.2.1.heap H → k_post (gE g tys B0 (gGI g c)) τ X.2.2.2.2.1.heap H K_X12_findsOrder [.ref a, .int xn, .int xa] none := fun H hH hf => ⟨hH, hf, List.forall_mem_cons.mpr ⟨inv H hf, List.forall_mem_nil _⟩, _, List.mem_cons_self, rfl, fun _ h => (by cases h), fun _ h => (by cases h)⟩
    have weigh : ∀ (pc : Nat) (H : Heap) (x : Int32) (L : List (Nat × Value)), decode cX12_findsOrder pc = .ok (.invokevirtual 414, 3) → k_HT (gE g tys B0 (gGI g c)) τ H → k_fr (gE g tys B0 (gGI g c)) τ foM X.2.2.2.2.1.heap H → 0 ≤ x.toInt → x.toInt ≤ 6 →
        (∀ H' : Heap, k_HT (gE g tys B0 (gGI g c)) τ H' → k_fr (gE g tys B0 (gGI g c)) τ foM X.2.2.2.2.1.heap H' → vA g H' a 24 = vA g H a 24 → kx X (gE g tys B0 (gGI g c)) H' (pc + 3) 5 L []) → kx X (gE g tys B0 (gGI g c)) H pc 5 L [.int x, .int xn, .ref a] := by
      intro pc H x L hdc hH hf x1 x2 kk
      refine x_call (E2 := gE g tys B0 (gGI g c)) (K2 := K_X12_weighsRow) (as := [.ref a, .int xn, .int x]) (rest := []) (k_callV (cc := cX12_findsOrder) (C := RX12) hF hK hts gGood (C_X12_weighsRow (l := X.2.1) h0 hu hT c) wk_X12_weighsRow.1 wk_X12_weighsRow.2.1 wl_RX12_414 wk_X12_weighsRow.2.2.1 wk_X12_weighsRow.2.2.2 rfl rfl rfl rfl rfl wd_X12_weighsRow ⟨by rw [hr]; decide, by rw [hr]; decide⟩ hdc) rfl hH ⟨rfl, fun i w hw => ?_, trivial, List.forall_mem_cons.mpr ⟨inv H hf, List.forall_mem_nil _⟩⟩ rfl (by decide) (fun H' v hp => ?_)
      · match i, hw with
        | 0, hw => cases hw; exact ⟨_, rfl, Or.inr ⟨a, 11, rfl, List.mem_singleton.mpr rfl, ha⟩⟩
        | 1, hw => cases hw; exact ⟨_, rfl, _, rfl, k_in_top _⟩
        | 2, hw => cases hw; exact ⟨_, rfl, _, rfl, x1, x2⟩
        | n + 3, hw => cases hw
      · obtain ⟨q1, q2, -, rfl⟩ := s_postV hp
        exact kk H' q1 (k_fr_trans hf q2 sW) (vA_kept1 h0 hH q2 ha (k := 24) (t := 42) (by decide) rfl ⟨_, rfl⟩ (by decide) (by decide))
    refine x_ldi hC rfl rfl rfl ?_
    refine x_call (E2 := gE g tys B0 (gGI g c)) (K2 := K_X12_bits) (as := [.int xa]) (rest := []) (k_callS (cc := cX12_findsOrder) hF hK hts gGood (C_X12_bits (l := X.2.1) h0 hu hT c) wk_X12_bits.1 wk_X12_bits.2.1 wl_RX12_332 wk_X12_bits.2.2 rfl rfl wd_X12_bits ⟨by rw [hr]; decide, by rw [hr]; decide⟩ (dec_X12_findsOrder (1, .invokestatic 332, 3) (List.mem_of_getElem? (i := 1) rfl))) rfl hH0 ⟨rfl, fun i w hw => ?_, trivial, fun _ h => (by cases h)⟩ rfl (by decide) (fun H1 v hp => ?_)
    · match i, hw with
      | 0, hw => cases hw; exact ⟨_, rfl, _, rfl, b2⟩
      | n + 1, hw => cases hw
    obtain ⟨hH1, q2, -, xm, rfl, m1, m2⟩ := s_postX hp
    have m1 : 0 ≤ xm.toInt := m1
    have m2 : xm.toInt ≤ 6 := m2
    have hf1 := k_frU q2 sE
    refine x_ist_n hC rfl (by decide) rfl ?_
    refine x_lda hC rfl rfl rfl ?_
    refine x_cst hC rfl rfl ?_
    refine x_put hC rfl rfl hH1 ha gM_at rfl (k := 34) rfl ⟨_, rfl, k_in_top _⟩ (fun H2 hH2 fr2 w2 o2 => ?_)
    have hf2 := k_fr_trans hf1 fr2 s34
    refine x_ldi hC rfl rfl rfl ?_
    refine x_if (t := 21) hC rfl (by decide) (fun zm => ?_) (fun _ => ?_)
    rotate_left
    · refine x_lda hC rfl rfl rfl ?_
      refine x_ldi hC rfl rfl rfl ?_
      refine x_cst hC rfl rfl ?_
      refine weigh 17 H2 _ _ (dec_X12_findsOrder (17, .invokevirtual 414, 3) (List.mem_of_getElem? (i := 11) rfl)) hH2 hf2 (by rw [z0]; decide) (by rw [z0]; decide) (fun H3 hH3 hf3 _ => ?_)
      exact x_vret hC rfl (post H3 hH3 hf3)
    have zm : ¬ xm.toInt = (0 : Int32).toInt := zm
    have zm : ¬ xm.toInt = 0 := zm
    -- a place of the row is written
    have setR : ∀ (pc : Nat) (H : Heap) (k : Nat) (x y : Int32) (L : List (Nat × Value)) (b m : Nat) (cA : ClassId) (f : Nat → Value), k_cd I_X12_findsOrder pc = some (.iastore, 1) → k_HT (gE g tys B0 (gGI g c)) τ H → k_fr (gE g tys B0 (gGI g c)) τ foM X.2.2.2.2.1.heap H → (H[a]?).bind (fun c => c.slots[g.2 12 24]?) = some (.ref b) → τ b = some 42 → H[b]? = some (arrV cA m f) → 6 ≤ m → x.toInt = (k : Int) → k ≤ 5 → -1 ≤ y.toInt → y.toInt ≤ 6 →
        (∀ H' : Heap, k_HT (gE g tys B0 (gGI g c)) τ H' → k_fr (gE g tys B0 (gGI g c)) τ foM X.2.2.2.2.1.heap H' → (∀ j, vA g H' a 24 j = if j = k then y.toInt else vA g H a 24 j) → kx X (gE g tys B0 (gGI g c)) H' (pc + 1) 5 L []) → kx X (gE g tys B0 (gGI g c)) H pc 5 L [.int y, .int x, .ref b] := by
      intro pc H k x y L b m cA f hcd hH hf fb tb q2 q3 hx hk y1 y2 kk
      refine x_iast hC hcd hH tb (show gTT[42]? = some (.inr _) from rfl) rfl q2 ⟨by omega, by omega⟩ ⟨_, rfl, y1, y2⟩ (fun H' hH' fr' s' o' => ?_)
      refine kk H' hH' (k_fr_trans hf fr' s42) (fun j => ?_)
      have nab : a ≠ b := fun z => by rw [← z, ha] at tb; cases tb
      obtain ⟨b', fb', -, eb'⟩ := vR_in h0 hH' ha (k := 24) (t := 42) rfl
      rw [o' a nab, fb] at fb'
      cases fb'
      obtain ⟨b', fb', -, eb⟩ := vR_in h0 hH ha (k := 24) (t := 42) rfl
      rw [fb] at fb'
      cases fb'
      rw [eb', eb, vE_upd q2 s' (by omega) j]
      have : x.toInt.toNat = k := by omega
      rw [this]
    have loop : ∀ (N : Nat) (H : Heap) (x : Int32) (cnt : Nat), k_HT (gE g tys B0 (gGI g c)) τ H → k_fr (gE g tys B0 (gGI g c)) τ foM X.2.2.2.2.1.heap H → x.toInt + 1 = (cnt : Int) → (cnt : Int) ≤ xm.toInt → (∀ j, j < cnt → -1 ≤ vA g H a 24 j ∧ vA g H a 24 j ≤ 5) → (mz (vA g H a 24) cnt).toNat < N → kx X (gE g tys B0 (gGI g c)) H 31 5 [(4, .int x), (3, .int xm), (0, .ref a), (1, .int xn), (2, .int xa)] [] := by
      intro N
      induction N with
      | zero => intro H x cnt _ _ _ _ _ hN; omega
      | succ N ih =>
        intro H x cnt hH hf hx hc hR hN
        refine x_ldi hC rfl rfl rfl ?_
        refine x_if (t := 130) hC rfl (by decide) (fun _ => x_vret hC rfl (post H hH hf)) (fun z => ?_)
        have z : ¬ x.toInt < (0 : Int32).toInt := z
        have z : ¬ x.toInt < 0 := z
        obtain ⟨k, rfl⟩ : ∃ k, cnt = k + 1 := ⟨cnt - 1, by omega⟩
        have hxk : x.toInt = (k : Int) := by omega
        obtain ⟨b, cA, ty, m, f, fb, tb, q1, q2, q3, eb, q5⟩ := ar_in h0 hH ha (k := 24) (t := 42) rfl rfl
        have q3 : 6 ≤ m := q3
        obtain ⟨y, hy, -, -⟩ := q5 k (by omega)
        have hyv : vA g H a 24 k = y.toInt := by rw [eb]; exact vE_at q2 (by omega) hy
        obtain ⟨r1, r2⟩ := hR k (by omega)
        rw [hyv] at r1 r2
        have hinc : (k_binV .iadd y (Int32.ofInt 1)).toInt = y.toInt + 1 := i_add (by rw [e1]) (by omega) (by omega)
        have hxn : x.toInt.toNat = k := by omega
        refine x_lda hC rfl rfl rfl ?_
        refine x_get hC rfl rfl hH ha gM_at rfl (by decide) fb ?_
        refine x_ldi hC rfl rfl rfl ?_
        refine x_dup2 hC rfl rfl rfl ?_
        refine x_ald hC rfl (ai := 0) rfl q1 q2 ⟨by omega, by omega⟩ (v := .int y) (by rw [hxn]; exact hy) ?_
        refine x_cst hC rfl rfl ?_
        refine x_bin hC rfl rfl ?_
        refine setR 46 H k x _ _ b m cA f rfl hH hf fb tb q2 q3 hxk (by omega) (by rw [hinc]; omega) (by rw [hinc]; omega) (fun H3 hH3 hf3 hv3 => ?_)
        rw [hinc] at hv3
        have hk3 : vA g H3 a 24 k = vA g H a 24 k + 1 := by rw [hv3 k, if_pos rfl, hyv]
        have hj3 : ∀ j, j < k → vA g H3 a 24 j = vA g H a 24 j := fun j hj => by rw [hv3 j, if_neg (by omega)]
        obtain ⟨b3, cA3, ty3, m3, f3, fb3, tb3, s1, s2, s3, eb3, s5⟩ := ar_in h0 hH3 ha (k := 24) (t := 42) rfl rfl
        have s3 : 6 ≤ m3 := s3
        obtain ⟨y3, hy3, -, -⟩ := s5 k (by omega)
        have hy3v : y3.toInt = y.toInt + 1 := by rw [← hyv, ← hk3, eb3]; exact (vE_at s2 (by omega) hy3).symm
        obtain ⟨bd, fd, td, -⟩ := vR_in h0 hH3 ha (k := 21) (t := 41) rfl
        obtain ⟨cD, tyD, mD, fD, d1, d2, d3, d4, d5⟩ := k_arr hH3 td (show gTT[41]? = some (.inr _) from rfl)
        have d3 : 132 ≤ mD := d3
        obtain ⟨yd, hyd, l1, l2⟩ : k_ok τ (.inl (0, 6)) (fD 3) := d5 3 (by omega)
        have l2 : yd.toInt ≤ 6 := l2
        refine x_lda hC rfl rfl rfl ?_
        refine x_get hC rfl rfl hH3 ha gM_at rfl (by decide) fb3 ?_
        refine x_ldi hC rfl rfl rfl ?_
        refine x_ald hC rfl (ai := 0) rfl s1 s2 ⟨by omega, by omega⟩ (v := .int y3) (by rw [hxn]; exact hy3) ?_
        refine x_lda hC rfl rfl rfl ?_
        refine x_get hC rfl rfl hH3 ha gM_at rfl (by decide) fd ?_
        refine x_cst hC rfl rfl ?_
        refine x_ald hC rfl (ai := 0) rfl d1 d2 ⟨by rw [e3]; decide, by rw [e3]; omega⟩ (v := .int yd) (by rw [e3]; exact hyd) ?_
        refine x_icmp (t := 69) hC rfl (by decide) (fun z1 => ?_) (fun _ => ?_)
        rotate_left
        · have hdec : (x + Int32.ofInt (-1)).toInt = x.toInt - 1 := i_add (by rw [em]; omega) (by omega) (by omega)
          refine x_iinc hC rfl (m := 0) rfl (by decide) rfl ?_
          refine x_goto (t := 31) hC rfl (by decide) ?_
          generalize x + Int32.ofInt (-1) = x' at hdec ⊢
          exact ih H3 x' k hH3 hf3 (by rw [hdec]; omega) (by omega) (fun j hj => by rw [hj3 j hj]; exact hR j (Nat.lt_succ_of_lt hj)) (fo_down hj3 (fun j hj => (hR j hj).2) hN)
        have z1 : y3.toInt < yd.toInt := z1
        have hR3 : ∀ j, j < k + 1 → -1 ≤ vA g H3 a 24 j ∧ vA g H3 a 24 j ≤ 5 := fun j hj => by
          by_cases hjk : j < k
          · rw [hj3 j hjk]; exact hR j hj
          · have : j = k := by omega
            subst this
            rw [hk3, hyv]
            omega
        have again : ∀ H' : Heap, k_HT (gE g tys B0 (gGI g c)) τ H' → k_fr (gE g tys B0 (gGI g c)) τ foM X.2.2.2.2.1.heap H' → vA g H' a 24 = vA g H3 a 24 → kx X (gE g tys B0 (gGI g c)) H' 31 5 [(4, .int x), (3, .int xm), (0, .ref a), (1, .int xn), (2, .int xa)] [] := by
          intro H' hH' hf' hv'
          refine ih H' x (k + 1) hH' hf' hx hc (by rw [hv']; exact hR3) ?_
          rw [hv']
          exact fo_again hj3 hk3 (fun j hj => (hR3 j hj).2) hN
        refine x_ldi hC rfl rfl rfl ?_
        refine x_lda hC rfl rfl rfl ?_
        refine x_get hC rfl rfl hH3 ha gM_at rfl (by decide) fb3 ?_
        refine x_ldi hC rfl rfl rfl ?_
        refine x_ald hC rfl (ai := 0) rfl s1 s2 ⟨by omega, by omega⟩ (v := .int y3) (by rw [hxn]; exact hy3) ?_
        refine x_call (E2 := gE g tys B0 (gGI g c)) (K2 := K_X12_isOf) (as := [.int xa, .int y3]) (rest := []) (k_callS (cc := cX12_findsOrder) hF hK hts gGood (C_X12_isOf (l := X.2.1) h0 hu hT c) wk_X12_isOf.1 wk_X12_isOf.2.1 wl_RX12_408 wk_X12_isOf.2.2 rfl rfl wd_X12_isOf ⟨by rw [hr]; decide, by rw [hr]; decide⟩ (dec_X12_findsOrder (77, .invokestatic 408, 3) (List.mem_of_getElem? (i := 46) rfl))) rfl hH3 ⟨rfl, fun i w hw => ?_, trivial, fun _ h => (by cases h)⟩ rfl (by decide) (fun H4 v4 hp4 => ?_)
        · match i, hw with
          | 0, hw => cases hw; exact ⟨_, rfl, _, rfl, k_in_top _⟩
          | 1, hw => cases hw; exact ⟨_, rfl, _, rfl, by show (0 : Int) ≤ _; omega, by show _ ≤ (6 : Int); omega⟩
          | n + 2, hw => cases hw
        obtain ⟨hH4, fr4, -, x4, rfl, -⟩ := s_postX hp4
        have hf4 := k_fr_trans hf3 fr4 sE
        have hv4 : vA g H4 a 24 = vA g H3 a 24 := vA_kept1 h0 hH3 fr4 ha (k := 24) (t := 42) (by decide) rfl ⟨_, rfl⟩ (by decide) (by decide)
        refine x_if (t := 31) hC rfl (by decide) (fun _ => again H4 hH4 hf4 hv4) (fun _ => ?_)
        obtain ⟨b4, cA4, ty4, m4, f4, fb4, tb4, t1, t2, t3, eb4, t5⟩ := ar_in h0 hH4 ha (k := 24) (t := 42) rfl rfl
        have t3 : 6 ≤ m4 := t3
        obtain ⟨y4, hy4, -, -⟩ := t5 k (by omega)
        refine x_lda hC rfl rfl rfl ?_
        refine x_ldi hC rfl rfl rfl ?_
        refine x_lda hC rfl rfl rfl ?_
        refine x_get hC rfl rfl hH4 ha gM_at rfl (by decide) fb4 ?_
        refine x_ldi hC rfl rfl rfl ?_
        refine x_ald hC rfl (ai := 0) rfl t1 t2 ⟨by omega, by omega⟩ (v := .int y4) (by rw [hxn]; exact hy4) ?_
        refine x_call (E2 := gE g tys B0 (gGI g c)) (K2 := K_X12_isInRow) (as := [.ref a, .int x, .int y4]) (rest := []) (k_callV (cc := cX12_findsOrder) (C := RX12) hF hK hts gGood (C_X12_isInRow (l := X.2.1) h0 hu hT c) wk_X12_isInRow.1 wk_X12_isInRow.2.1 wl_RX12_417 wk_X12_isInRow.2.2.1 wk_X12_isInRow.2.2.2 rfl rfl rfl rfl rfl wd_X12_isInRow ⟨by rw [hr]; decide, by rw [hr]; decide⟩ (dec_X12_findsOrder (93, .invokevirtual 417, 3) (List.mem_of_getElem? (i := 54) rfl))) rfl hH4 ⟨rfl, fun i w hw => ?_, trivial, fun _ h => (by cases h)⟩ rfl (by decide) (fun H5 v5 hp5 => ?_)
        · match i, hw with
          | 0, hw => cases hw; exact ⟨_, rfl, Or.inr ⟨a, 11, rfl, List.mem_singleton.mpr rfl, ha⟩⟩
          | 1, hw => cases hw; exact ⟨_, rfl, _, rfl, by show (0 : Int) ≤ _; omega, by show _ ≤ (6 : Int); omega⟩
          | 2, hw => cases hw; exact ⟨_, rfl, _, rfl, k_in_top _⟩
          | n + 3, hw => cases hw
        obtain ⟨hH5, fr5, -, x5, rfl, -⟩ := s_postX hp5
        have hf5 := k_fr_trans hf4 fr5 sE
        have hv5 : vA g H5 a 24 = vA g H3 a 24 := Eq.trans (vA_kept1 h0 hH4 fr5 ha (k := 24) (t := 42) (by decide) rfl ⟨_, rfl⟩ (by decide) (by decide)) hv4
        refine x_if (t := 31) hC rfl (by decide) (fun _ => again H5 hH5 hf5 hv5) (fun _ => ?_)
        have hx1 : (k_binV .iadd x (Int32.ofInt 1)).toInt = x.toInt + 1 := i_add (by rw [e1]) (by omega) (by omega)
        refine x_ldi hC rfl rfl rfl ?_
        refine x_cst hC rfl rfl ?_
        refine x_bin hC rfl rfl ?_
        refine x_ldi hC rfl rfl rfl ?_
        refine x_icmp (t := 116) hC rfl (by decide) (fun z2 => ?_) (fun _ => ?_)
        rotate_left
        · refine x_lda hC rfl rfl rfl ?_
          refine x_ldi hC rfl rfl rfl ?_
          refine x_ldi hC rfl rfl rfl ?_
          refine weigh 110 H5 xm _ (dec_X12_findsOrder (110, .invokevirtual 414, 3) (List.mem_of_getElem? (i := 64) rfl)) hH5 hf5 m1 m2 (fun H6 hH6 hf6 hv6 => ?_)
          refine x_goto (t := 31) hC rfl (by decide) ?_
          exact again H6 hH6 hf6 (Eq.trans hv6 hv5)
        have z2 : ¬ (k_binV .iadd x (Int32.ofInt 1)).toInt = xm.toInt := z2
        rw [hx1] at z2
        have hx2 : (x + Int32.ofInt 1).toInt = x.toInt + 1 := hx1
        obtain ⟨b5, cA5, ty5, m5, f5, fb5, tb5, v1, v2, v3, eb5, -⟩ := ar_in h0 hH5 ha (k := 24) (t := 42) rfl rfl
        refine x_iinc hC rfl (m := 0) rfl (by decide) rfl ?_
        refine x_lda hC rfl rfl rfl ?_
        refine x_get hC rfl rfl hH5 ha gM_at rfl (by decide) fb5 ?_
        refine x_ldi hC rfl rfl rfl ?_
        refine x_cst hC rfl rfl ?_
        refine setR 126 H5 (k + 1) _ _ _ b5 m5 cA5 f5 rfl hH5 hf5 fb5 tb5 v2 v3 (by rw [hx2]; omega) (by omega) (by rw [em]; decide) (by rw [em]; decide) (fun H6 hH6 hf6 hv6 => ?_)
        refine x_goto (t := 31) hC rfl (by decide) ?_
        rw [em] at hv6
        have hk6 : ∀ j, j < k + 1 → vA g H6 a 24 j = vA g H3 a 24 j := fun j hj => by rw [hv6 j, if_neg (by omega), hv5]
        have hl6 : vA g H6 a 24 (k + 1) = -1 := by rw [hv6 (k + 1), if_pos rfl]
        refine ih H6 _ (k + 2) hH6 hf6 (by rw [hx2]; omega) (by omega) (fun j hj => ?_) (fo_up (by omega) hj3 hk3 (fun j hj => (hR3 j hj).2) hk6 hl6 hN)
        by_cases hjk : j < k + 1
        · rw [hk6 j hjk]; exact hR3 j hjk
        · have : j = k + 1 := by omega
          subst this
          rw [hl6]
          decide
    refine x_cst hC rfl rfl ?_
    refine x_ist hC rfl (by decide) rfl ?_
    obtain ⟨b2', cA2, ty2, m2', f2, fb2, tb2, v1, v2, v3, eb2, -⟩ := ar_in h0 hH2 ha (k := 24) (t := 42) rfl rfl
    refine x_lda hC rfl rfl rfl ?_
    refine x_get hC rfl rfl hH2 ha gM_at rfl (by decide) fb2 ?_
    refine x_cst hC rfl rfl ?_
    refine x_cst hC rfl rfl ?_
    refine setR 30 H2 0 _ _ _ b2' m2' cA2 f2 rfl hH2 hf2 fb2 tb2 v2 v3 z0 (by omega) (by rw [em]; decide) (by rw [em]; decide) (fun H3 hH3 hf3 hv3 => ?_)
    rw [em] at hv3
    have h0v : vA g H3 a 24 0 = -1 := by rw [hv3 0, if_pos rfl]
    refine loop (((mz (vA g H3 a 24) 1).toNat) + 1) H3 _ 1 hH3 hf3 (by rw [z0]; rfl) (by omega) (fun j hj => ?_) (Nat.lt_succ_self _)
    have : j = 0 := by omega
    subst this
    rw [h0v]
    decide
end
