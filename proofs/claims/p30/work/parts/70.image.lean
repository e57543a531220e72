/-! ===== the class's image: a world is made when there is none ===== -/
def NT_im : List Nat := 2 :: NT_10
def imM : List (Nat × Nat) := (20, 0) :: cpM
def I_X11_image : List (Nat × Instr × Nat) := [(0, .iload_n 1, 1), (1, .ifCond .lt 8, 3), (4, .iload_n 1, 1), (5, .iconst 4, 1), (6, .if_icmp .lt 5, 3), (9, .iconst (-1), 1), (10, .ireturn, 1), (11, .aload_n 0, 1), (12, .getfield 23, 3), (15, .iload_n 1, 1), (16, .aaload, 1), (17, .ifnonnull 16, 3), (20, .aload_n 0, 1), (21, .getfield 23, 3), (24, .iload_n 1, 1), (25, .new 16, 3), (28, .dup, 1), (29, .invokespecial 18, 3), (32, .aastore, 1), (33, .aload_n 0, 1), (34, .getfield 23, 3), (37, .iload_n 1, 1), (38, .aaload, 1), (39, .aload_n 0, 1), (40, .getfield 19, 3), (43, .invokevirtual 303, 3), (46, .aload_n 0, 1), (47, .getfield 19, 3), (50, .getfield 116, 3), (53, .getfield 173, 3), (56, .ireturn, 1)]
theorem dec_X11_image : ∀ q ∈ I_X11_image, decode cX11_image q.1 = .ok q.2 := by decide +kernel
def imR (g : va_G) (tys : List (ClassId × FieldType)) (B0 : Nat) (τ : kTau) (H0 : Heap) (a : Nat) (d : Int) (im : Nat → Option Int) : Heap → Option Value → Prop := fun H' v => (∃ x : Int32, v = some (.int x)) ∧ ∃ τ' : kTau, m_ok g tys B0 τ τ' NT_im imM H0 H' ∧ CV g a τ' H' d im
section
variable {l : Launch} {g : va_G} {tys : List (ClassId × FieldType)} {B0 : Nat} {τ : kTau}
theorem C_imC (h0 : gE1 g) (hu : gUU τ) (htys : tys.map Prod.snd = gTyL) (H0 : Heap) (a : Nat) (ha : τ a = some 0) (d : Int) (im : Nat → Option Int) (hcv : CV g a τ H0 d im) (n : Int32) : m_Met l g tys B0 τ H0 yX11_image cX11_image 2 (some .int) [.ref a, .int n] (imR g tys B0 τ H0 a d (imU d im n)) ⟨3, 14, 142, 90⟩ := by
  refine m_met (I := I_X11_image) (FL := gFL11) h0 htys (by decide +kernel) dec_X11_image (fun X hts => gFLk11 hts) (by show 2 ≤ 2; decide) ?_
  intro X hl hr hC hret hQ hH hsz
  have hT := gTyL_tys (g := g) (B0 := B0) htys
  subst hl
  have e4 : (Int32.ofInt 4).toInt = 4 := i_of (by decide) (by decide)
  have no : ¬ inI n → kz X B0 0 0 H0 9 2 [(0, .ref a), (1, .int n)] [] := by
    intro hn
    refine z_cst hC rfl rfl ?_
    refine z_iret hC hret hQ rfl (Nat.zero_le _) (Nat.zero_le _) ⟨⟨_, rfl⟩, τ, m_ok_refl hH, ?_⟩
    have : imU d im n = im := by
      funext k
      unfold imU
      rw [if_neg (fun h => hn h.1)]
    rw [this]
    exact hcv
  refine z_ldi hC rfl rfl rfl ?_
  refine z_if (t := 9) hC rfl (by decide) (fun z => ?_) (fun z => ?_)
  · have z : n.toInt < (0 : Int32).toInt := z
    have z : n.toInt < 0 := z
    exact no (fun h => by have := h.1; omega)
  have z : ¬ n.toInt < (0 : Int32).toInt := z
  have z : ¬ n.toInt < 0 := z
  refine z_ldi hC rfl rfl rfl ?_
  refine z_cst hC rfl rfl ?_
  refine z_icmp (t := 11) hC rfl (by decide) (fun z2 => ?_) (fun z2 => ?_)
  rotate_left
  · have z2 : ¬ n.toInt < (Int32.ofInt 4).toInt := z2
    rw [e4] at z2
    exact no (fun h => by have := h.2; omega)
  have z2 : n.toInt < (Int32.ofInt 4).toInt := z2
  rw [e4] at z2
  have hn : inI n := ⟨by omega, by omega⟩
  have tail : ∀ (τ3 : kTau) (H3 : Heap) (im3 : Nat → Option Int) (cells slots : Nat), cells ≤ 14 → slots ≤ 142 → m_ok g tys B0 τ τ3 NT_im imM H0 H3 → CV g a τ3 H3 d im3 → (∃ y, im3 n.toInt.toNat = some y) → imU d im3 n = imU d im n → kz X B0 cells slots H3 33 2 [(0, .ref a), (1, .int n)] [] := by
    intro τ3 H3 im3 cells slots hce hsl hm hcv3 hy he
    have hu3 : gUU τ3 := gUU_up hm.1 hm.2.1 (by decide) (by decide) hu
    have hH3 := hm.2.2.1
    have ha3 := hm.1 _ _ ha
    obtain ⟨w, b, x, c1, c2, c3, c4, c5, c6, c7, c8⟩ := hcv3
    rcases c7 n.toInt.toNat (by omega) with ⟨m1, m2⟩ | ⟨u, y, m1, m2, m3, m4, m5⟩
    · obtain ⟨y, hy⟩ := hy
      rw [m1] at hy
      cases hy
    obtain ⟨cA, ty, mm, f, q1, q2, q3, q4, q5⟩ := iS_at hH3 c6 (show gTT[20]? = some (.inr _) from rfl) (by omega) m2
    refine z_lda hC rfl rfl rfl ?_
    refine z_get (τ := τ3) (ks := gSF) (ci := 11) (k := 2) hC rfl rfl (ht_cell hH3 ha3 gS_at) c5 ?_
    refine z_ldi hC rfl rfl rfl ?_
    refine z_ald hC rfl (ai := 5) rfl q1 q2 ⟨by omega, by omega⟩ q5 ?_
    refine z_lda hC rfl rfl rfl ?_
    refine z_get (τ := τ3) (ks := gSF) (ci := 11) (k := 1) hC rfl rfl (ht_cell hH3 ha3 gS_at) c1 ?_
    have hM := C_cpW (l := X.2.1) (B0 := B0) h0 hu3 hT H3 u w m3 c2 x c3 [.ref u, .ref w] rfl
    refine z_mV (τ := τ3) (C := RX10) (T := TX10) (N := 7) (ci := 10) (ks := gWF) (b := u) (As := [.ref w]) (rest := []) (rm := ⟨2, 0, 0, 60⟩) hC rfl hM k_Pc_blind (fun U hU hk hz => ⟨rfl, hk, by rw [hU]; exact k_HT_g hH3, rfl, fun i z hz => ?_, trivial, List.forall_mem_cons.mpr ⟨⟨fun _ => hU, fun z => (by cases z)⟩, List.forall_mem_nil _⟩⟩) wk_X10_copyFrom.1 wk_X10_copyFrom.2.1 wl_RX11_303 wk_X10_copyFrom.2.2.1 wk_X10_copyFrom.2.2.2 rfl (ht_cell hH3 m3 gW_at) wd_X10_copyFrom ⟨by rw [hr]; decide, by rw [hr]; decide⟩ ⟨by rw [hr]; exact hce, by rw [hr]; exact hsl⟩ rfl (by decide) (fun st0 u4 v4 hst hq => ?_)
    · match i, hz with
      | 0, hz => cases hz; exact ⟨_, rfl, Or.inr ⟨_, 2, rfl, List.mem_singleton.mpr rfl, m3⟩⟩
      | 1, hz => cases hz; exact ⟨_, rfl, Or.inr ⟨_, 2, rfl, List.mem_singleton.mpr rfl, c2⟩⟩
      | n + 2, hz => cases hz
    obtain ⟨v4', e, hp⟩ := hq
    cases e
    rw [hst] at hp
    obtain ⟨p1, f1, p3, rfl⟩ := s_postV hp
    obtain ⟨d1, d2⟩ := (p3 1 List.mem_cons_self).2 rfl
    generalize hg4 : u4.heap = H4 at p1 f1 d1 d2 ⊢
    have hH4 : k_HT (e0 g tys B0) τ3 H4 := k_HT_g p1
    have f4 : k_fr (e0 g tys B0) τ3 cpM H3 H4 := k_fr_g f1
    have k1 : fS g H4 a 11 1 = fS g H3 a 11 1 := (f4.2.2 a 0 ha3).1 _ gS_at 1 (by decide) (by decide)
    have k2 : fS g H4 a 11 2 = fS g H3 a 11 2 := (f4.2.2 a 0 ha3).1 _ gS_at 2 (by decide) (by decide)
    have k4 : ∀ k, iS H4 b k = iS H3 b k := fun k => by
      unfold iS
      rw [(f4.2.2 b 20 c6).2 _ (show gTT[20]? = some (.inr _) from rfl) (by decide)]
    have hcv4 : CV g a τ3 H4 d (imU d im n) := by
      rw [← he]
      refine ⟨w, b, x, by rw [k1]; exact c1, c2, by rw [d2 w c2 (Ne.symm m4)]; exact c3, c4, by rw [k2]; exact c5, c6, fun k hk => ?_, fun j k p hj hk t1 t2 => c8 j k p hj hk (by rw [← k4 j]; exact t1) (by rw [← k4 k]; exact t2)⟩
      by_cases hkn : k = n.toInt.toNat
      · refine Or.inr ⟨u, x, ?_, by rw [k4, hkn]; exact m2, m3, m4, d1⟩
        unfold imU
        rw [if_pos ⟨hn, hkn⟩, c4]
      · have hi : imU d im3 n k = im3 k := by
          unfold imU
          rw [if_neg (fun h => hkn h.2)]
        rw [hi]
        rcases c7 k hk with ⟨t1, t2⟩ | ⟨u', y', t1, t2, t3, t4, t5⟩
        · exact Or.inl ⟨t1, by rw [k4]; exact t2⟩
        · refine Or.inr ⟨u', y', t1, by rw [k4]; exact t2, t3, t4, ?_⟩
          rw [d2 u' t3 (fun z => hkn (c8 k n.toInt.toNat u hk (by omega) (by rw [← z]; exact t2) m2))]
          exact t5
    have hm4 : m_ok g tys B0 τ τ3 NT_im imM H0 H4 := m_ok_fr hm hH4 f4 (fun q hq => List.mem_cons_of_mem _ hq)
    obtain ⟨s, fs, ts⟩ := tR_in h0 hH4 c2 gW_at (k := 1) (u := 4) rfl
    obtain ⟨xh, fh, -, -⟩ := tI_in h0 hH4 ts (show gTT[4]? = some (.inl (6, _)) from rfl) (k := 5) rfl
    have c1' : fS g H4 a 11 1 = some (.ref w) := by rw [k1]; exact c1
    refine z_lda hC rfl rfl rfl ?_
    refine z_get (τ := τ3) (ks := gSF) (ci := 11) (k := 1) hC rfl rfl (ht_cell hH4 ha3 gS_at) c1' ?_
    refine z_get (τ := τ3) (ks := gWF) (ci := 10) (k := 1) hC rfl rfl (ht_cell hH4 c2 gW_at) fs ?_
    refine z_get (τ := τ3) (ci := 6) (k := 5) hC rfl rfl (ht_cell hH4 ts (show gTT[4]? = some (.inl (6, _)) from rfl)) fh ?_
    exact z_iret hC hret hQ rfl hce hsl ⟨⟨_, rfl⟩, τ3, hm4, hcv4⟩
  have hcv0 := hcv
  obtain ⟨w, b, x, c1, c2, c3, c4, c5, c6, c7, c8⟩ := hcv
  refine z_lda hC rfl rfl rfl ?_
  refine z_get (τ := τ) (ks := gSF) (ci := 11) (k := 2) hC rfl rfl (ht_cell hH ha gS_at) c5 ?_
  refine z_ldi hC rfl rfl rfl ?_
  rcases c7 n.toInt.toNat (by omega) with ⟨m1, m2⟩ | ⟨u, y, m1, m2, m3, m4, m5⟩
  rotate_left
  · obtain ⟨cA, ty, mm, f, q1, q2, q3, q4, q5⟩ := iS_at hH c6 (show gTT[20]? = some (.inr _) from rfl) (by omega) m2
    refine z_ald hC rfl (ai := 5) rfl q1 q2 ⟨by omega, by omega⟩ q5 ?_
    refine z_nn (t := 33) hC rfl (by decide) ?_
    exact tail τ H0 im 0 0 (Nat.zero_le _) (Nat.zero_le _) (m_ok_refl hH) hcv0 ⟨_, m1⟩ rfl
  obtain ⟨cA, ty, mm, f, q1, q2, q3, q4, q5⟩ := iS_at hH c6 (show gTT[20]? = some (.inr _) from rfl) (by omega) m2
  refine z_ald hC rfl (ai := 5) rfl q1 q2 ⟨by omega, by omega⟩ q5 ?_
  refine z_nnN hC rfl ?_
  refine z_lda hC rfl rfl rfl ?_
  refine z_get (τ := τ) (ks := gSF) (ci := 11) (k := 2) hC rfl rfl (ht_cell hH ha gS_at) c5 ?_
  refine z_ldi hC rfl rfl rfl ?_
  refine z_new (τ := τ) (ci := 10) (C := RX10) (T := TX10) (N := 7) (ty := tyX10) hC rfl rfl gW10 tyX10_ok (z_dok10 _) wc_RX11_16 wn_10 wz_10 (by rw [hr]; exact Nat.le_of_ble_eq_true rfl) (by rw [hr]; exact Nat.le_of_ble_eq_true rfl) (fun H1 n1 s1 o1 => ?_)
  have hH1 : k_HT (e0 g tys B0) τ H1 := k_HT_kept hH (fun q u hq => o1 q (k_HT_lt hH hq))
  refine z_dup hC rfl rfl ?_
  refine z_initN (b := H0.size) (As := []) (rest := [.ref H0.size, .int n, .ref b]) (rm := R_10) hC rfl (C_X10_init (l := X.2.1) h0 htys) wic_10 wz_10 (List.mem_of_getElem? (i := 1) rfl) wim_10 rfl wid_10 ⟨by rw [hr]; decide, by rw [hr]; decide⟩ ⟨by rw [hr]; exact Nat.le_of_ble_eq_true rfl, by rw [hr]; exact Nat.le_of_ble_eq_true rfl⟩ hH1 (by omega) (k_HT_top hH (Nat.le_refl _)) hsz n1 rfl (fun i x h => by cases h) rfl (by show 3 ≤ 8; decide) (fun H2 τ2 hp => ?_)
  have hm2 : m_ok g tys B0 τ τ2 NT_im imM H0 H2 := m_ok_obj (m_ok_refl hH) (by decide) (fun u hu => List.mem_cons_of_mem _ hu) s1 o1 hp
  have hex := hp.2.2.2.2.2.2
  have hs2 : τ2 H0.size = some 2 := hp.2.2.2.1
  have old : ∀ q : Nat, q < H0.size → H2[q]? = H0[q]? := fun q hq => by
    rw [(hp.2.2.2.2.1 q (by omega) (by omega)).1, o1 q hq]
  have hH2 := hm2.2.2.1
  have lb : b < H0.size := k_HT_lt hH c6
  have la : a < H0.size := k_HT_lt hH ha
  have c62 := hm2.1 _ _ c6
  obtain ⟨v0, fv0, ok0⟩ := k_cell_at (k := 5) (x := .inl (0, 0)) h0 hN_10 hex rfl
  obtain ⟨xz, rfl, hz1, hz2⟩ := ok0
  obtain ⟨cB, tyB, N, fB, r1, r2, r3, r4, r5⟩ := k_arr hH2 c62 (show gTT[20]? = some (.inr (5, 4, 4, [], _)) from rfl)
  have r3 : 4 ≤ N := r3
  have htyB : tyB = .object RX10 := by
    have h1 : gTyL[5]? = some tyB := by rw [← htys, List.getElem?_map]; have r1 : tys[5]? = some (cB, tyB) := r1; rw [r1]; rfl
    cases h1
    rfl
  subst htyB
  refine z_aast (τ := τ2) (ai := 5) (ci := 10) (r := (RX10, TX10, 7)) hC rfl rfl r1 r2 hex ⟨by omega, by omega⟩ (hH2 _ _ c62).1 (fun H3 w3 s3 o3 => ?_)
  obtain ⟨hH3, f3⟩ := ht_arr hH2 c62 (show gTT[20]? = some (.inr (5, 4, 4, [], _)) from rfl) r1 r3 r4 r5 (Or.inr ⟨_, 2, rfl, List.mem_singleton.mpr rfl, hs2⟩) w3 o3 s3
  have hm3 := m_ok_fr hm2 hH3 f3 (fun q hq => by rw [List.mem_singleton.mp hq]; exact List.mem_cons_self)
  have hi3 : ∀ k, k < 4 → iS H3 b k = if k = n.toInt.toNat then some (.ref H0.size) else iS H0 b k := fun k hk => by
    have h1 : iS H0 b k = some (fB k) := by
      unfold iS
      rw [← old b lb, r2]
      exact arrV_read cB fB (by omega)
    rw [h1]
    unfold iS
    rw [w3]
    show (arrV cB N _).slots[k]? = _
    rw [arrV_read cB _ (by omega)]
    unfold updV
    split <;> rfl
  have ha3 : H3[a]? = H0[a]? := by
    rw [o3 a (fun z => by rw [z, c6] at ha; cases ha)]
    exact old a la
  have hw3 : ∀ v, τ v = some 2 → dS g H3 v = dS g H0 v := fun v hv => by
    unfold dS
    rw [o3 v (fun z => by rw [z, c6] at hv; cases hv), old v (k_HT_lt hH hv)]
  have hns : H3[H0.size]? = H2[H0.size]? := o3 _ (by omega)
  refine tail τ2 H3 (fun k => if k = n.toInt.toNat then some xz.toInt else im k) (0 + 1 + R_10.cells) (0 + 7 + R_10.slots) (Nat.le_of_ble_eq_true rfl) (Nat.le_of_ble_eq_true rfl) hm3 ?_ ⟨_, if_pos rfl⟩ ?_
  · have notold : ∀ k p : Nat, k < 4 → iS H0 b k = some (.ref p) → p ≠ H0.size := fun k p hk hp z => by
      rcases c7 k hk with ⟨t1, t2⟩ | ⟨u', y', t1, t2, t3, t4, t5⟩
      · rw [t2] at hp; cases hp
      · rw [t2] at hp
        cases hp
        have := k_HT_lt hH t3
        omega
    refine ⟨w, b, x, ?_, hm2.1 _ _ c2, by rw [hw3 w c2]; exact c3, c4, ?_, c62, fun k hk => ?_, fun j k p hj hk t1 t2 => ?_⟩
    · unfold fS; rw [ha3]; exact c1
    · unfold fS; rw [ha3]; exact c5
    · by_cases hkn : k = n.toInt.toNat
      · refine Or.inr ⟨H0.size, xz, if_pos hkn, by rw [hi3 k hk, if_pos hkn], hs2, fun z => by have := k_HT_lt hH c2; omega, ?_⟩
        unfold dS
        rw [hns]
        exact fv0
      · rcases c7 k hk with ⟨t1, t2⟩ | ⟨u', y', t1, t2, t3, t4, t5⟩
        · exact Or.inl ⟨by show (if _ then _ else _) = _; rw [if_neg hkn]; exact t1, by rw [hi3 k hk, if_neg hkn]; exact t2⟩
        · exact Or.inr ⟨u', y', by show (if _ then _ else _) = _; rw [if_neg hkn]; exact t1, by rw [hi3 k hk, if_neg hkn]; exact t2, hm2.1 _ _ t3, t4, by rw [hw3 u' t3]; exact t5⟩
    · rw [hi3 j hj] at t1
      rw [hi3 k hk] at t2
      by_cases hjn : j = n.toInt.toNat
      · by_cases hkn : k = n.toInt.toNat
        · rw [hjn, hkn]
        · rw [if_pos hjn] at t1
          rw [if_neg hkn] at t2
          cases t1
          exact absurd rfl (notold k _ hk t2)
      · by_cases hkn : k = n.toInt.toNat
        · rw [if_pos hkn] at t2
          rw [if_neg hjn] at t1
          cases t2
          exact absurd rfl (notold j _ hj t1)
        · rw [if_neg hjn] at t1
          rw [if_neg hkn] at t2
          exact c8 j k p hj hk t1 t2
  · funext k
    unfold imU
    by_cases h : inI n ∧ k = n.toInt.toNat
    · rw [if_pos h, if_pos h]
    · rw [if_neg h, if_neg h]
      show (if k = n.toInt.toNat then _ else _) = _
      rw [if_neg (fun z => h ⟨hn, z⟩)]
end
