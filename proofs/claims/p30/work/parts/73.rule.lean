/-! ===== SmokeWord.rule ===== -/
def gPF : List kInfo := match (gTT[1]? : Option kDesc) with
  | some (.inl q) => q.2
  | _ => []
theorem gP_at : gTT[1]? = some (.inl (7, gPF)) := rfl
def ruM : List (Nat × Nat) := [(0, 4), (1, 1), (21, 0), (1, 5), (1, 6), (6, 2), (6, 4), (6, 5), (13, 0), (14, 0), (15, 0), (23, 0), (24, 0)]
def I_X11_rule : List (Nat × Instr × Nat) := [(0, .aload_n 0, 1), (1, .getfield 132, 3), (4, .bipush 6, 2), (6, .if_icmp .lt 5, 3), (9, .iconst (-1), 1), (10, .ireturn, 1), (11, .aload_n 0, 1), (12, .getfield 51, 3), (15, .invokevirtual 135, 3), (18, .ifCond .ne 14, 3), (21, .bipush (-2), 2), (23, .aload_n 0, 1), (24, .getfield 10, 3), (27, .getfield 102, 3), (30, .isub, 1), (31, .ireturn, 1), (32, .aload_n 0, 1), (33, .getfield 29, 3), (36, .aload_n 0, 1), (37, .getfield 132, 3), (40, .aload_n 0, 1), (41, .getfield 51, 3), (44, .invokevirtual 136, 3), (47, .aastore, 1), (48, .aload_n 0, 1), (49, .getfield 10, 3), (52, .iconst 0, 1), (53, .putfield 90, 3), (56, .aload_n 0, 1), (57, .dup, 1), (58, .getfield 132, 3), (61, .dup_x1, 1), (62, .iconst 1, 1), (63, .iadd, 1), (64, .putfield 132, 3), (67, .ireturn, 1)]
theorem dec_X11_rule : ∀ q ∈ I_X11_rule, decode cX11_rule q.1 = .ok q.2 := by decide +kernel
theorem ru1 {x : Int32} (h1 : 0 ≤ x.toInt) (h2 : x.toInt < 6) : (x + Int32.ofInt 1).toInt = x.toInt + 1 := by
  obtain ⟨c, hc⟩ : ∃ c : Nat, x.toInt = (c : Int) := ⟨x.toInt.toNat, by omega⟩
  have ey : x = Int32.ofInt (c : Int) := Int32.toInt_inj.mp (by rw [i_of (by omega) (by omega)]; exact hc)
  have c6 : c < 6 := by omega
  rw [hc, ey]
  match c, c6 with
  | 0, _ => decide
  | 1, _ => decide
  | 2, _ => decide
  | 3, _ => decide
  | 4, _ => decide
  | 5, _ => decide
  | n + 6, h => exact absurd h (by omega)
section
variable {l : Launch} {g : va_G} {tys : List (ClassId × FieldType)} {B0 : Nat} {τ : kTau}
def ruR (g : va_G) (tys : List (ClassId × FieldType)) (B0 : Nat) (τ : kTau) (H0 : Heap) : Heap → Option Value → Prop := fun H' v => (∃ x : Int32, v = some (.int x)) ∧ ∃ τ' : kTau, m_ok g tys B0 τ τ' NT_ru ruM H0 H'
theorem C_ruC (h0 : gE1 g) (hu : gUU τ) (htys : tys.map Prod.snd = gTyL) (H0 : Heap) (a : Nat) (ha : τ a = some 0) : m_Met l g tys B0 τ H0 yX11_rule cX11_rule 1 (some .int) [.ref a] (ruR g tys B0 τ H0) ⟨43, 3, 803, 1230⟩ := by
  refine m_met (I := I_X11_rule) (FL := gFL11) h0 htys (by decide +kernel) dec_X11_rule (fun X hts => gFLk11 hts) (by show 1 ≤ 1; decide) ?_
  intro X hl hr hC hret hQ hH hsz
  subst hl
  have hT := gTyL_tys (g := g) (B0 := B0) htys
  have z0 : (Int32.ofInt 0).toInt = 0 := i_of (by decide) (by decide)
  have e6 : (Int32.ofInt 6).toInt = 6 := i_of (by decide) (by decide)
  obtain ⟨rc, f1, c1, c2⟩ := tI_in h0 hH ha gS_at (k := 4) rfl
  obtain ⟨rr, f2, t2⟩ := tR_in h0 hH ha gS_at (k := 9) (u := 6) rfl
  obtain ⟨tp, f3, t3⟩ := tR_in h0 hH ha gS_at (k := 0) (u := 1) rfl
  obtain ⟨ra, f4, t4⟩ := tR_in h0 hH ha gS_at (k := 3) (u := 21) rfl
  have c1 : (0 : Int) ≤ rc.toInt := c1
  refine z_lda hC rfl rfl rfl ?_
  refine z_get (τ := τ) (ci := 11) (k := 4) (ks := gSF) hC rfl rfl (ht_cell hH ha gS_at) f1 ?_
  refine z_cst hC rfl rfl ?_
  refine z_icmp (t := 11) hC rfl (by decide) (fun z => ?_) (fun z => ?_)
  rotate_left
  · refine z_cst hC rfl rfl ?_
    exact z_iret hC hret hQ rfl (Nat.zero_le _) (Nat.zero_le _) ⟨⟨_, rfl⟩, τ, m_ok_refl hH⟩
  have z : rc.toInt < (Int32.ofInt 6).toInt := z
  rw [e6] at z
  refine z_lda hC rfl rfl rfl ?_
  refine z_get (τ := τ) (ci := 11) (k := 9) (ks := gSF) hC rfl rfl (ht_cell hH ha gS_at) f2 ?_
  have c : gGh := ((0, fun _ => True), 0, 0, 0, 0)
  have hM := C_X5_read (l := X.2.1) (c := c) (B0 := B0) h0 hu (hT _) [.ref rr]
  refine z_mV (τ := τ) (C := RX5) (T := TX5) (N := 6) (ci := 5) (ks := gRF) (b := rr) (As := []) (rest := []) (rm := ⟨42, 0, 0, 1193⟩) hC rfl hM k_Pc_blind (fun U hU hk hz => ⟨rfl, hk, by rw [hU]; exact k_HT_g hH, rfl, fun i z hz => ?_, trivial, List.forall_mem_nil _⟩) wkr_1 wkr_2 wl_RX11_135r wkr_3 wkr_4 rfl (ht_cell hH t2 gR_at) wkr_5 ⟨by rw [hr]; decide, by rw [hr]; decide⟩ ⟨by rw [hr]; decide, by rw [hr]; decide⟩ rfl (by decide) (fun st0 u v hst hq => ?_)
  · match i, hz with
    | 0, hz => cases hz; exact ⟨_, rfl, Or.inr ⟨_, 6, rfl, List.mem_singleton.mpr rfl, t2⟩⟩
    | n + 1, hz => cases hz
  obtain ⟨v', e, p1, p2, -, A, hA, hAlt⟩ := hq
  cases e
  rw [hst] at p2
  cases List.mem_singleton.mp hA
  obtain ⟨⟨v1, rfl, x1, rfl, -⟩, -⟩ := hAlt
  generalize hu1 : u.heap = H1 at p1 p2 ⊢
  have hH1 : k_HT (e0 g tys B0) τ H1 := k_HT_g p1
  have fr1 : k_fr (e0 g tys B0) τ K_X5_read.2.2.2.1 H0 H1 := k_fr_g p2
  have m1 : m_ok g tys B0 τ τ NT_ru ruM H0 H1 := m_ok_fr (m_ok_refl hH) hH1 fr1 (by decide)
  have g1 : fS g H1 a 11 4 = fS g H0 a 11 4 := (fr1.2.2 a 0 ha).1 _ gS_at 4 (by decide) (by decide)
  have g2 : fS g H1 a 11 9 = fS g H0 a 11 9 := (fr1.2.2 a 0 ha).1 _ gS_at 9 (by decide) (by decide)
  have g3 : fS g H1 a 11 0 = fS g H0 a 11 0 := (fr1.2.2 a 0 ha).1 _ gS_at 0 (by decide) (by decide)
  have g4 : fS g H1 a 11 3 = fS g H0 a 11 3 := (fr1.2.2 a 0 ha).1 _ gS_at 3 (by decide) (by decide)
  have f1' : fS g H1 a 11 4 = some (.int rc) := g1.trans f1
  have f2' : fS g H1 a 11 9 = some (.ref rr) := g2.trans f2
  have f3' : fS g H1 a 11 0 = some (.ref tp) := g3.trans f3
  have f4' : fS g H1 a 11 3 = some (.ref ra) := g4.trans f4
  show kz X B0 0 0 H1 18 1 [(0, .ref a)] [.int x1]
  refine z_if (t := 32) hC rfl (by decide) (fun z' => ?_) (fun z' => ?_)
  rotate_left
  · obtain ⟨xf, ff, -, -⟩ := tI_in h0 hH1 t3 gP_at (k := 6) rfl
    refine z_cst hC rfl rfl ?_
    refine z_lda hC rfl rfl rfl ?_
    refine z_get (τ := τ) (ci := 11) (k := 0) (ks := gSF) hC rfl rfl (ht_cell hH1 ha gS_at) f3' ?_
    refine z_get (τ := τ) (ci := 7) (k := 6) (ks := gPF) hC rfl rfl (ht_cell hH1 t3 gP_at) ff ?_
    refine z_isub hC rfl ?_
    exact z_iret hC hret hQ rfl (Nat.zero_le _) (Nat.zero_le _) ⟨⟨_, rfl⟩, τ, m1⟩
  refine z_lda hC rfl rfl rfl ?_
  refine z_get (τ := τ) (ci := 11) (k := 3) (ks := gSF) hC rfl rfl (ht_cell hH1 ha gS_at) f4' ?_
  refine z_lda hC rfl rfl rfl ?_
  refine z_get (τ := τ) (ci := 11) (k := 4) (ks := gSF) hC rfl rfl (ht_cell hH1 ha gS_at) f1' ?_
  refine z_lda hC rfl rfl rfl ?_
  refine z_get (τ := τ) (ci := 11) (k := 9) (ks := gSF) hC rfl rfl (ht_cell hH1 ha gS_at) f2' ?_
  refine z_mV (τ := τ) (C := RX5) (T := TX5) (N := 6) (ci := 5) (ks := gRF) (b := rr) (As := []) (rest := [.int rc, .ref ra]) (rm := ⟨2, 3, 803, 70⟩) hC rfl (C_compiled (l := X.2.1) (τ := τ) h0 htys H1 rr t2) m_Pc_blind (fun U hU hk hz => ⟨rfl, ⟨hk, hz⟩, by rw [hU]; have := fr1.1; omega, by rw [hU]; exact hH1, hU⟩) wkp_1 wkp_2 wl_RX11_136 wkp_3 wkp_4 rfl (ht_cell hH1 t2 gR_at) wkp_5 ⟨by rw [hr]; decide, by rw [hr]; decide⟩ ⟨by rw [hr]; decide, by rw [hr]; decide⟩ rfl (by show 2 ≤ 8; decide) (fun st0 u v hst hq => ?_)
  obtain ⟨v', e, b, k, τ2, rfl, k13, m2, tb⟩ := hq
  cases e
  generalize hu2 : u.heap = H2 at m2 ⊢
  have m2' : m_ok g tys B0 τ τ2 NT_ru ruM H0 H2 := by
    obtain ⟨i1, i2, i3, i4, i5⟩ := m2
    refine ⟨i1, i2, i3, k_fr_trans m1.2.2.2.1 i4 (fun q hq => by cases hq), fun q hq => ?_⟩
    have := fr1.1
    exact i5 q (by omega)
  have hH2 := m2.2.2.1
  have fr2 := m2.2.2.2.1
  have ha2 := m2.1 _ _ ha
  have t32 := m2.1 _ _ t3
  have t42 := m2.1 _ _ t4
  have h1' : fS g H2 a 11 4 = fS g H1 a 11 4 := (fr2.2.2 a 0 ha).1 _ gS_at 4 (by decide) (by decide)
  have h3' : fS g H2 a 11 0 = fS g H1 a 11 0 := (fr2.2.2 a 0 ha).1 _ gS_at 0 (by decide) (by decide)
  have f1'' : fS g H2 a 11 4 = some (.int rc) := h1'.trans f1'
  have f3'' : fS g H2 a 11 0 = some (.ref tp) := h3'.trans f3'
  show kz X B0 3 803 H2 47 1 [(0, .ref a)] [.ref b, .int rc, .ref ra]
  obtain ⟨cB, tyB, N, fB, r1, r2, r3, r4, r5⟩ := k_arr hH2 t42 (show gTT[21]? = some (.inr (6, 6, 6, [], .inr (.inr (.inl (true, [53, 54, 55, 56, 57, 58, 59, 60, 61, 62, 63, 64, 65]))))) from rfl)
  have r3 : 6 ≤ N := r3
  have htyB : tyB = .object RX4 := by
    have h1 : gTyL[6]? = some tyB := by rw [← htys, List.getElem?_map]; have r1 : tys[6]? = some (cB, tyB) := r1; rw [r1]; rfl
    cases h1
    rfl
  subst htyB
  refine z_aast (τ := τ2) (ai := 6) (ci := 4) (r := (RX4, TX4, 3)) (ks := rF k) hC rfl rfl r1 r2 (ht_cell hH2 tb (rT_at k k13)) ⟨by omega, by omega⟩ (hH2 _ _ t42).1 (fun H3 w3 s3 o3 => ?_)
  obtain ⟨hH3, fr3⟩ := ht_arr hH2 t42 (show gTT[21]? = some (.inr (6, 6, 6, [], .inr (.inr (.inl (true, [53, 54, 55, 56, 57, 58, 59, 60, 61, 62, 63, 64, 65]))))) from rfl) r1 r3 r4 r5 (Or.inr ⟨_, 53 + k, rfl, rM3 k k13, tb⟩) w3 o3 s3
  have m3 := m_ok_fr m2' hH3 fr3 (by decide)
  have a3 : H3[a]? = H2[a]? := o3 a (fun z => by rw [z, t42] at ha2; cases ha2)
  refine z_lda hC rfl rfl rfl ?_
  refine z_get (τ := τ2) (ci := 11) (k := 0) (ks := gSF) hC rfl rfl (ht_cell hH3 ha2 gS_at) (by rw [a3]; exact f3'') ?_
  refine z_cst hC rfl rfl ?_
  refine z_put (τ := τ2) (ci := 7) (k := 1) (ks := gPF) (x := .inl (0, 400)) hC rfl rfl (hap_7 h0) hN_7 (ht_cell hH3 t32 gP_at) (hH3 _ _ t32).1 (by decide) ⟨_, rfl, by rw [z0]; decide, by rw [z0]; decide⟩ (fun ty h _ _ _ => by rw [h rfl]; exact ⟨rfl, rfl, by decide⟩) (fun H4 c4 s4 o4 y4 => ?_)
  obtain ⟨hH4, fr4⟩ := ht_put hH3 t32 gP_at (k := 1) rfl c4 s4 o4 y4
  have m4 := m_ok_fr m3 hH4 fr4 (by decide)
  have a4 : H4[a]? = H2[a]? := by
    rw [o4 a (fun z => by rw [z, t32] at ha2; cases ha2)]
    exact a3
  refine z_lda hC rfl rfl rfl ?_
  refine z_dup hC rfl rfl ?_
  refine z_get (τ := τ2) (ci := 11) (k := 4) (ks := gSF) hC rfl rfl (ht_cell hH4 ha2 gS_at) (by rw [a4]; exact f1'') ?_
  refine z_dup_x1 hC rfl rfl rfl ?_
  refine z_cst hC rfl rfl ?_
  refine z_iadd hC rfl ?_
  have er := ru1 c1 z
  generalize rc + Int32.ofInt 1 = rc' at er ⊢
  refine z_put (τ := τ2) (ci := 11) (k := 4) (ks := gSF) (x := .inl (0, 6)) hC rfl rfl (hap_11 h0) hN_11 (ht_cell hH4 ha2 gS_at) (hH4 _ _ ha2).1 (by decide) ⟨_, rfl, by show (0 : Int) ≤ rc'.toInt; omega, by show rc'.toInt ≤ 6; omega⟩ (fun ty h _ _ _ => by rw [h rfl]; exact ⟨rfl, rfl, by decide⟩) (fun H5 c5 s5 o5 y5 => ?_)
  obtain ⟨hH5, fr5⟩ := ht_put hH4 ha2 gS_at (k := 4) rfl c5 s5 o5 y5
  have m5 := m_ok_fr m4 hH5 fr5 (by decide)
  exact z_iret hC hret hQ rfl (Nat.le_refl _) (Nat.le_refl _) ⟨⟨_, rfl⟩, τ2, m5⟩
end
