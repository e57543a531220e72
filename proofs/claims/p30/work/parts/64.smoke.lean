/-! ===== constructors with loops ===== -/
theorem zI_other {g : va_G} {tys : List (ClassId × FieldType)} {B0 : Nat} {τ0 τ : kTau} {H0 H H' : Heap} {a ci b : Nat} {NT : List Nat} {ks : List kInfo} (hI : zI g tys B0 τ0 H0 a ci NT ks τ H) (hb : τ b = none) (hb0 : H0.size ≤ b) (hba : b ≠ a) (hs : H'.size = H.size) (ho : ∀ q : Nat, q ≠ b → H'[q]? = H[q]?) : zI g tys B0 τ0 H0 a ci NT ks τ H' := by
  obtain ⟨h1, h2, h3, h4, h5, h6, h7, h8, h9, h10⟩ := hI
  exact ⟨k_HT_kept h1 (fun q u hq => ho q (fun z => by rw [z, hb] at hq; cases hq)), h2, h3, k_cell_kept h4 (ho a (Ne.symm hba)), h5, h6, by omega, h8, fun q hq hne => ⟨by rw [ho q (by omega)]; exact (h9 q hq hne).1, (h9 q hq hne).2⟩, h10⟩
def NT_3 : List Nat := [4, 16, 26]
def R_3 : Room := ⟨2, 38, 250, 34⟩
theorem C_X3_init {l : Launch} {g : va_G} {tys : List (ClassId × FieldType)} {B0 : Nat} {τ : kTau} (h0 : gE1 g) (htys : tys.map Prod.snd = gTyL) : c_Met l g tys B0 τ yX3_init cX3_init 3 3 (z_ks tyX3 7) [.inr (.inr (.inl (false, [7])))] 9 NT_3 (fun τ' H' b => k_cell (e0 g tys B0) τ' b H' (.inl (3, [.inr (.inr (.inl (false, [7]))), .inr (.inr (.inl (false, [26]))), .inr (.inr (.inl (false, [16]))), .inr (.inr (.inl (false, [16]))), .inl (0, 0), .inl (0, 0), .inl (0, 0)]))) R_3 := by
  refine z_met (I := I_X3_init) (FL := gFL3) h0 htys (by decide +kernel) rfl dec_X3_init (fun X hts => gFLk3 hts) (by decide) ?_
  intro X a As hl hr hC hin hret hQ hH hb hB hc hAl hA
  obtain ⟨p0, rfl, tp0⟩ := z_arg1 hAl hA
  have hc : k_cell (e0 g tys B0) τ a X.2.2.2.2.1.heap (.inl (3, [.inr (.inr (.inl (true, []))), .inr (.inr (.inl (true, []))), .inr (.inr (.inl (true, []))), .inr (.inr (.inl (true, []))), .inl (0, 0), .inl (0, 0), .inl (0, 0)])) := hc
  have I0 : zI g tys B0 τ X.2.2.2.2.1.heap a 3 NT_3 [.inr (.inr (.inl (true, []))), .inr (.inr (.inl (true, []))), .inr (.inr (.inl (true, []))), .inr (.inr (.inl (true, []))), .inl (0, 0), .inl (0, 0), .inl (0, 0)] τ X.2.2.2.2.1.heap := zI_begin hH hb hB hc hC.2.2.2.2.1
  refine z_lda hC rfl rfl rfl ?_
  refine z_objinit hC rfl wlo_RX3_3 wo_inst wo_code (by rw [hr]; decide) (by rw [hr]; decide) ?_
  refine z_lda hC rfl rfl rfl ?_
  refine z_cst hC rfl rfl ?_
  refine z_anew (N := 7) (ai := 4) hC rfl rfl wc_RX3_9 (List.mem_of_getElem? (i := 0) rfl) (i_of (by decide) (by decide)) (by decide) (by rw [hr]; exact Nat.le_of_ble_eq_true rfl) (by rw [hr]; exact Nat.le_of_ble_eq_true rfl) (fun H1 cA1 t1 e1 s1 o1 => ?_)
  have J1 := (zI_new (H1 := H1) I0 s1 o1).1
  have n1 := zI_new (H1 := H1) I0 s1 o1
  have kc_c26_1 : H1[X.2.2.2.2.1.heap.size]? = H1[X.2.2.2.2.1.heap.size]? := rfl
  have ne_c26 : X.2.2.2.2.1.heap.size ≠ a := fun z => by have h1 := k_cell_lt I0.2.2.2.1; omega
  have lt_c26_1 : X.2.2.2.2.1.heap.size < H1.size := by rw [s1]; exact Nat.lt_succ_self _
  have nb_1 := n1.2.1
  refine z_putF (k := 1) (ks := [.inr (.inr (.inl (true, []))), .inr (.inr (.inl (true, []))), .inr (.inr (.inl (true, []))), .inr (.inr (.inl (true, []))), .inl (0, 0), .inl (0, 0), .inl (0, 0)]) (x := .inr (.inr (.inr ()))) hC hin rfl rfl (hap_3 h0) hN_3 J1.2.2.2.1 hB (by decide) (rfl) (fun r hr' => by cases hr'; exact ⟨rfl, rfl, tyX3_ok 1 (by decide)⟩) rfl rfl (fun H2 c2 s2 o2 z2 => ?_)
  have J2 : zI g tys B0 τ X.2.2.2.2.1.heap a 3 NT_3 [.inr (.inr (.inl (true, []))), .inr (.inr (.inr ())), .inr (.inr (.inl (true, []))), .inr (.inr (.inl (true, []))), .inl (0, 0), .inl (0, 0), .inl (0, 0)] _ H2 := zI_put (k := 1) (x := .inr (.inr (.inr ()))) J1 c2 s2 o2
  have kc_c26_2 : H2[X.2.2.2.2.1.heap.size]? = H1[X.2.2.2.2.1.heap.size]? := Eq.trans (o2 _ ne_c26) kc_c26_1
  have lt_c26_2 : X.2.2.2.2.1.heap.size < H2.size := by rw [s2]; exact lt_c26_1
  have zf_1_2 : (H2[a]?).bind (fun c => c.slots[g.2 3 1]?) = some (.ref X.2.2.2.2.1.heap.size) := by rw [z2 1 (by decide), if_pos rfl]
  refine z_lda hC rfl rfl rfl ?_
  refine z_cst hC rfl rfl ?_
  refine z_newa (N := 6) (ai := 0) hC rfl rfl wa_int ⟨by decide, by decide, by decide, by decide⟩ (i_of (by decide) (by decide)) (by decide) (by rw [hr]; exact Nat.le_of_ble_eq_true rfl) (by rw [hr]; exact Nat.le_of_ble_eq_true rfl) (fun H3 cA3 t3 e3 s3 o3 => ?_)
  have J3 := zI_arr (t := 16) (H' := H3) J2 (by decide) rfl s3 o3 ⟨cA3, _, 6, (fun _ => .int 0), t3, e3, by decide, by decide, fun j hj => z_el0 (v := .int 0) (exc := []) (d := kA) (by decide) j⟩
  have nb_3 : (zt τ H2.size 16) X.2.2.2.2.1.heap.size = none := by rw [zt_ne (Nat.ne_of_lt lt_c26_2)]; exact nb_1
  have kc_c26_3 : H3[X.2.2.2.2.1.heap.size]? = H1[X.2.2.2.2.1.heap.size]? := Eq.trans (o3 _ lt_c26_2) kc_c26_2
  have lt_c26_3 : X.2.2.2.2.1.heap.size < H3.size := by rw [s3]; exact Nat.lt_succ_of_lt lt_c26_2
  have zf_1_3 : (H3[a]?).bind (fun c => c.slots[g.2 3 1]?) = some (.ref X.2.2.2.2.1.heap.size) := by rw [o3 a (k_cell_lt J2.2.2.2.1)]; exact zf_1_2
  refine z_putF (k := 2) (ks := [.inr (.inr (.inl (true, []))), .inr (.inr (.inr ())), .inr (.inr (.inl (true, []))), .inr (.inr (.inl (true, []))), .inl (0, 0), .inl (0, 0), .inl (0, 0)]) (x := .inr (.inr (.inl (false, [16])))) hC hin rfl rfl (hap_3 h0) hN_3 J3.2.2.2.1 hB (by decide) (Or.inr ⟨_, 16, rfl, List.mem_singleton.mpr rfl, zt_at⟩) (fun r hr' => by cases hr'; exact ⟨rfl, rfl, tyX3_ok 2 (by decide)⟩) rfl rfl (fun H4 c4 s4 o4 z4 => ?_)
  have J4 : zI g tys B0 τ X.2.2.2.2.1.heap a 3 NT_3 [.inr (.inr (.inl (true, []))), .inr (.inr (.inr ())), .inr (.inr (.inl (false, [16]))), .inr (.inr (.inl (true, []))), .inl (0, 0), .inl (0, 0), .inl (0, 0)] _ H4 := zI_put (k := 2) (x := .inr (.inr (.inl (false, [16])))) J3 c4 s4 o4
  have kc_c26_4 : H4[X.2.2.2.2.1.heap.size]? = H1[X.2.2.2.2.1.heap.size]? := Eq.trans (o4 _ ne_c26) kc_c26_3
  have lt_c26_4 : X.2.2.2.2.1.heap.size < H4.size := by rw [s4]; exact lt_c26_3
  have zf_1_4 : (H4[a]?).bind (fun c => c.slots[g.2 3 1]?) = some (.ref X.2.2.2.2.1.heap.size) := by rw [z4 1 (by decide), if_neg (by decide)]; exact zf_1_3
  refine z_lda hC rfl rfl rfl ?_
  refine z_cst hC rfl rfl ?_
  refine z_newa (N := 6) (ai := 0) hC rfl rfl wa_int ⟨by decide, by decide, by decide, by decide⟩ (i_of (by decide) (by decide)) (by decide) (by rw [hr]; exact Nat.le_of_ble_eq_true rfl) (by rw [hr]; exact Nat.le_of_ble_eq_true rfl) (fun H5 cA5 t5 e5 s5 o5 => ?_)
  have J5 := zI_arr (t := 16) (H' := H5) J4 (by decide) rfl s5 o5 ⟨cA5, _, 6, (fun _ => .int 0), t5, e5, by decide, by decide, fun j hj => z_el0 (v := .int 0) (exc := []) (d := kA) (by decide) j⟩
  have nb_5 : (zt (zt τ H2.size 16) H4.size 16) X.2.2.2.2.1.heap.size = none := by rw [zt_ne (Nat.ne_of_lt lt_c26_4)]; exact nb_3
  have kc_c26_5 : H5[X.2.2.2.2.1.heap.size]? = H1[X.2.2.2.2.1.heap.size]? := Eq.trans (o5 _ lt_c26_4) kc_c26_4
  have lt_c26_5 : X.2.2.2.2.1.heap.size < H5.size := by rw [s5]; exact Nat.lt_succ_of_lt lt_c26_4
  have zf_1_5 : (H5[a]?).bind (fun c => c.slots[g.2 3 1]?) = some (.ref X.2.2.2.2.1.heap.size) := by rw [o5 a (k_cell_lt J4.2.2.2.1)]; exact zf_1_4
  refine z_putF (k := 3) (ks := [.inr (.inr (.inl (true, []))), .inr (.inr (.inr ())), .inr (.inr (.inl (false, [16]))), .inr (.inr (.inl (true, []))), .inl (0, 0), .inl (0, 0), .inl (0, 0)]) (x := .inr (.inr (.inl (false, [16])))) hC hin rfl rfl (hap_3 h0) hN_3 J5.2.2.2.1 hB (by decide) (Or.inr ⟨_, 16, rfl, List.mem_singleton.mpr rfl, zt_at⟩) (fun r hr' => by cases hr'; exact ⟨rfl, rfl, tyX3_ok 3 (by decide)⟩) rfl rfl (fun H6 c6 s6 o6 z6 => ?_)
  have J6 : zI g tys B0 τ X.2.2.2.2.1.heap a 3 NT_3 [.inr (.inr (.inl (true, []))), .inr (.inr (.inr ())), .inr (.inr (.inl (false, [16]))), .inr (.inr (.inl (false, [16]))), .inl (0, 0), .inl (0, 0), .inl (0, 0)] _ H6 := zI_put (k := 3) (x := .inr (.inr (.inl (false, [16])))) J5 c6 s6 o6
  have kc_c26_6 : H6[X.2.2.2.2.1.heap.size]? = H1[X.2.2.2.2.1.heap.size]? := Eq.trans (o6 _ ne_c26) kc_c26_5
  have lt_c26_6 : X.2.2.2.2.1.heap.size < H6.size := by rw [s6]; exact lt_c26_5
  have zf_1_6 : (H6[a]?).bind (fun c => c.slots[g.2 3 1]?) = some (.ref X.2.2.2.2.1.heap.size) := by rw [z6 1 (by decide), if_neg (by decide)]; exact zf_1_5
  refine z_lda hC rfl rfl rfl ?_
  refine z_lda hC rfl rfl rfl ?_
  refine z_putF (k := 0) (ks := [.inr (.inr (.inl (true, []))), .inr (.inr (.inr ())), .inr (.inr (.inl (false, [16]))), .inr (.inr (.inl (false, [16]))), .inl (0, 0), .inl (0, 0), .inl (0, 0)]) (x := .inr (.inr (.inl (false, [7])))) hC hin rfl rfl (hap_3 h0) hN_3 J6.2.2.2.1 hB (by decide) (Or.inr ⟨_, 7, rfl, List.mem_singleton.mpr rfl, J6.2.1 _ _ tp0⟩) (fun r hr' => by cases hr'; exact ⟨rfl, rfl, tyX3_ok 0 (by decide)⟩) rfl rfl (fun H7 c7 s7 o7 z7 => ?_)
  have J7 : zI g tys B0 τ X.2.2.2.2.1.heap a 3 NT_3 [.inr (.inr (.inl (false, [7]))), .inr (.inr (.inr ())), .inr (.inr (.inl (false, [16]))), .inr (.inr (.inl (false, [16]))), .inl (0, 0), .inl (0, 0), .inl (0, 0)] _ H7 := zI_put (k := 0) (x := .inr (.inr (.inl (false, [7])))) J6 c7 s7 o7
  have kc_c26_7 : H7[X.2.2.2.2.1.heap.size]? = H1[X.2.2.2.2.1.heap.size]? := Eq.trans (o7 _ ne_c26) kc_c26_6
  have lt_c26_7 : X.2.2.2.2.1.heap.size < H7.size := by rw [s7]; exact lt_c26_6
  have zf_1_7 : (H7[a]?).bind (fun c => c.slots[g.2 3 1]?) = some (.ref X.2.2.2.2.1.heap.size) := by rw [z7 1 (by decide), if_neg (by decide)]; exact zf_1_6
  have hbl0 : X.2.2.2.2.1.heap.size ≤ X.2.2.2.2.1.heap.size := I0.2.2.2.2.2.2.1
  have hblB : B0 ≤ X.2.2.2.2.1.heap.size := Nat.le_trans I0.2.2.2.2.2.2.2.1 hbl0
  have hlim : (Int32.ofInt 6).toInt = 6 := i_of (by decide) (by decide)
  have z0 : (Int32.ofInt 0).toInt = 0 := i_of (by decide) (by decide)
  have hti : tys[4]? = some (cA1, .object RX6) := t1
  have loop : ∀ (m i : Nat) (x : Int32) (τ1 : kTau) (H : Heap) (f : Nat → Value), m + i = 7 → x.toInt = (i : Int) → zI g tys B0 τ X.2.2.2.2.1.heap a 3 NT_3 [.inr (.inr (.inl (false, [7]))), .inr (.inr (.inr ())), .inr (.inr (.inl (false, [16]))), .inr (.inr (.inl (false, [16]))), .inl (0, 0), .inl (0, 0), .inl (0, 0)] τ1 H → (H[a]?).bind (fun c => c.slots[g.2 3 1]?) = some (.ref X.2.2.2.2.1.heap.size) → τ1 X.2.2.2.2.1.heap.size = none → H7.size ≤ H.size → (∀ q, q < H7.size → q ≠ X.2.2.2.2.1.heap.size → H[q]? = H7[q]?) → H[X.2.2.2.2.1.heap.size]? = some (arrV cA1 7 f) → (∀ d, d < i → ∃ s, f d = .ref s ∧ τ1 s = some 4) → kz X B0 (3 + 5 * i) (19 + 33 * i) H 36 3 [(2, .int x), (0, .ref a), (1, .ref p0)] [] := by
    intro m
    induction m with
    | zero =>
      intro i x τ1 H f hmi hx hI hsl hbn hsz hfr hcell hf
      refine z_ldi hC rfl rfl rfl ?_
      refine z_cst hC rfl rfl ?_
      refine z_icmp (t := 61) hC rfl (by decide) (fun _ => ?_) (fun z => absurd (show (Int32.ofInt 6).toInt < x.toInt by rw [hlim]; omega) z)
      have hi : i = 7 := by omega
      subst hi
      have J := zI_raw (ks := [.inr (.inr (.inl (false, [7]))), .inr (.inr (.inr ())), .inr (.inr (.inl (false, [16]))), .inr (.inr (.inl (false, [16]))), .inl (0, 0), .inl (0, 0), .inl (0, 0)]) (ci := 3) (k := 1) (t := 26) (u := 4) (ai := 4) (N := 7) h0 (hap_3 h0) hN_3 hI hbn hbl0 ne_c26 hblB (by decide) rfl hti hcell hf (by decide) hsl
      refine z_vret hC hret hQ rfl (by exact Nat.le_of_ble_eq_true rfl) (by exact Nat.le_of_ble_eq_true rfl) (zI_end (t := 9) J rfl (by decide) (by decide) (fun hle hat hcl => ?_))
      exact hcl
    | succ m ih =>
      intro i x τ1 H f hmi hx hI hsl hbn hsz hfr hcell hf
      refine z_ldi hC rfl rfl rfl ?_
      refine z_cst hC rfl rfl ?_
      refine z_icmp (t := 61) hC rfl (by decide) (fun z => absurd z (show ¬ (Int32.ofInt 6).toInt < x.toInt by rw [hlim]; omega)) (fun _ => ?_)
      refine z_lda hC rfl rfl rfl ?_
      refine z_get hC rfl rfl hI.2.2.2.1 hsl ?_
      refine z_ldi hC rfl rfl rfl ?_
      refine z_new (τ := τ1) (ci := 6) (C := RX6) (T := TX6) (N := 9) (ty := tyX6) hC rfl rfl gW6 tyX6_ok (z_dok6 _) wc_RX3_9 wn_6 wz_6 (by rw [hr]; show 3 + 5 * i + 1 ≤ 38; omega) (by rw [hr]; show 19 + 33 * i + 9 ≤ 250; omega) (fun H1 c1 s1 o1 => ?_)
      obtain ⟨J1, f1, g1, h1, l1⟩ := zI_new (H1 := H1) hI s1 o1
      refine z_dup hC rfl rfl ?_
      refine z_initN (b := H.size) (As := []) (rest := [.ref H.size, .int x, .ref X.2.2.2.2.1.heap.size]) (rm := R_6) hC rfl (C_X6_init (l := X.2.1) h0 htys) wic_6 wz_6 (List.mem_of_getElem? (i := 6) rfl) wim_6 rfl wid_6 ⟨by rw [hr]; decide, by rw [hr]; decide⟩ ⟨by rw [hr]; show 3 + 5 * i + 1 + 4 ≤ 38; omega, by rw [hr]; show 19 + 33 * i + 9 + 24 ≤ 250; omega⟩ J1.1 l1 f1 g1 c1 rfl (fun i x h => by cases h) rfl (by show 3 ≤ 8; decide) (fun H2 T2 hp2 => ?_)
      have J2 := zI_obj J1 h1 (by decide) (by decide) hp2
      have hb1 : X.2.2.2.2.1.heap.size < H.size := (Array.getElem?_eq_some_iff.mp hcell).1
      have ha1 : a < H.size := k_cell_lt hI.2.2.2.1
      have hq2 : ∀ q, q < H.size → H2[q]? = H[q]? ∧ T2 q = τ1 q := fun q hq => by have h5 := hp2.2.2.2.2.1 q (by omega) (by omega); exact ⟨by rw [h5.1]; exact o1 q hq, h5.2⟩
      have hcell2 : H2[X.2.2.2.2.1.heap.size]? = some (arrV cA1 7 f) := by rw [(hq2 _ hb1).1]; exact hcell
      obtain ⟨-, dd, hdd, hcc⟩ := hp2.2.2.1 H.size 4 hp2.2.2.2.1
      have hdd : gTT[4]? = some dd := hdd
      cases hdd
      refine z_aast (ai := 4) (r := gC 6) hC rfl rfl hti hcell2 hcc ⟨by omega, by omega⟩ hblB (fun H3 e3 s3 o3 => ?_)
      have hsz2 : H1.size ≤ H2.size := hp2.2.2.2.2.2.1
      have J3 : zI g tys B0 τ X.2.2.2.2.1.heap a 3 NT_3 [.inr (.inr (.inl (false, [7]))), .inr (.inr (.inr ())), .inr (.inr (.inl (false, [16]))), .inr (.inr (.inl (false, [16]))), .inl (0, 0), .inl (0, 0), .inl (0, 0)] T2 H3 := zI_other J2 (by rw [(hq2 _ hb1).2]; exact hbn) hbl0 ne_c26 s3 o3
      have hx1 : (x + Int32.ofInt 1).toInt = ((i + 1 : Nat) : Int) := i_add (by rw [i_of (by decide) (by decide), hx]; omega) (by omega) (by omega)
      refine z_iinc hC rfl (m := 0) rfl (by decide) rfl ?_
      refine z_goto (t := 36) hC rfl (by decide) ?_
      refine ih (i + 1) _ T2 H3 _ (by omega) hx1 J3 (by rw [o3 a (Ne.symm ne_c26), (hq2 a ha1).1]; exact hsl) (by rw [(hq2 _ hb1).2]; exact hbn) (by omega) (fun q hq hne => by rw [o3 q hne, (hq2 q (by omega)).1]; exact hfr q hq hne) e3 (fun d hd => ?_)
      have hxn : x.toInt.toNat = i := by omega
      rw [hxn]
      by_cases hdi : d = i
      · subst hdi; exact ⟨H.size, by simp [updV], hp2.2.2.2.1⟩
      · obtain ⟨s, q1, q2⟩ := hf d (by omega); exact ⟨s, by simp [updV, hdi]; exact q1, hp2.1 _ _ q2⟩
  refine z_cst hC rfl rfl ?_
  refine z_ist_n hC rfl (by decide) rfl ?_
  exact loop 7 0 _ _ H7 _ rfl z0 J7 zf_1_7 nb_5 (Nat.le_refl _) (fun _ _ _ => rfl) (by rw [kc_c26_7]; exact e1) (fun d hd => absurd hd (Nat.not_lt_zero d))
def NT_11 : List Nat := [1, 2, 3, 4, 5, 6, 7, 8, 9, 10, 12, 13, 14, 15, 16, 17, 18, 19, 20, 21, 22, 23, 24, 25, 26, 27, 28, 29, 30]
def R_11 : Room := ⟨3, 185, 3825, 56⟩
theorem C_X11_init {l : Launch} {g : va_G} {tys : List (ClassId × FieldType)} {B0 : Nat} {τ : kTau} (h0 : gE1 g) (htys : tys.map Prod.snd = gTyL) : c_Met l g tys B0 τ yX11_init cX11_init 2 11 (z_ks tyX11 14) [] 0 NT_11 (fun τ' H' b => k_cell (e0 g tys B0) τ' b H' (.inl (11, [.inr (.inr (.inl (false, [1]))), .inr (.inr (.inl (false, [2]))), .inr (.inr (.inl (false, [20]))), .inr (.inr (.inl (false, [21]))), .inl (0, 0), .inr (.inr (.inl (false, [22]))), .inl (0, 0), .inl (0, 0), .inr (.inr (.inl (false, [5]))), .inr (.inr (.inl (false, [6]))), .inr (.inr (.inl (false, [7]))), .inr (.inr (.inl (false, [8]))), .inr (.inr (.inl (false, [9]))), .inr (.inr (.inl (false, [10])))])) ∧ (∃ w : Nat, (H'[b]?).bind (fun c => c.slots[g.2 11 1]?) = some (.ref w) ∧ τ' w = some 2 ∧ (H'[w]?).bind (fun c => c.slots[g.2 10 5]?) = some (.int 0)) ∧ (∃ (d : Nat) (cA : ClassId), (H'[b]?).bind (fun c => c.slots[g.2 11 2]?) = some (.ref d) ∧ H'[d]? = some (arrV cA 4 (fun _ => .null))) ∧ ∃ d : Nat, ∀ q, τ' q = some 1 → τ q = some 1 ∨ q = d) R_11 := by
  refine z_met (I := I_X11_init) (FL := gFL11) h0 htys (by decide +kernel) rfl dec_X11_init (fun X hts => gFLk11 hts) (by decide) ?_
  intro X a As hl hr hC hin hret hQ hH hb hB hc hAl hA
  obtain rfl : As = [] := List.eq_nil_of_length_eq_zero hAl
  have hc : k_cell (e0 g tys B0) τ a X.2.2.2.2.1.heap (.inl (11, [.inr (.inr (.inl (true, []))), .inr (.inr (.inl (true, []))), .inr (.inr (.inl (true, []))), .inr (.inr (.inl (true, []))), .inl (0, 0), .inr (.inr (.inl (true, []))), .inl (0, 0), .inl (0, 0), .inr (.inr (.inl (true, []))), .inr (.inr (.inl (true, []))), .inr (.inr (.inl (true, []))), .inr (.inr (.inl (true, []))), .inr (.inr (.inl (true, []))), .inr (.inr (.inl (true, [])))])) := hc
  have I0 : zI g tys B0 τ X.2.2.2.2.1.heap a 11 NT_11 [.inr (.inr (.inl (true, []))), .inr (.inr (.inl (true, []))), .inr (.inr (.inl (true, []))), .inr (.inr (.inl (true, []))), .inl (0, 0), .inr (.inr (.inl (true, []))), .inl (0, 0), .inl (0, 0), .inr (.inr (.inl (true, []))), .inr (.inr (.inl (true, []))), .inr (.inr (.inl (true, []))), .inr (.inr (.inl (true, []))), .inr (.inr (.inl (true, []))), .inr (.inr (.inl (true, [])))] τ X.2.2.2.2.1.heap := zI_begin hH hb hB hc hC.2.2.2.2.1
  refine z_lda hC rfl rfl rfl ?_
  refine z_objinit hC rfl wlo_RX11_1 wo_inst wo_code (by rw [hr]; decide) (by rw [hr]; decide) ?_
  refine z_lda hC rfl rfl rfl ?_
  refine z_new (τ := τ) (ci := 7) (C := RX7) (T := TX7) (N := 7) (ty := tyX7) hC rfl rfl gW7 tyX7_ok (z_dok7 _) wc_RX11_7 wn_7 wz_7 (by rw [hr]; exact Nat.le_of_ble_eq_true rfl) (by rw [hr]; exact Nat.le_of_ble_eq_true rfl) (fun H1 c1 s1 o1 => ?_)
  obtain ⟨J1, f1, g1, h1, l1⟩ := zI_new (H1 := H1) I0 s1 o1
  have lta_1 : a < X.2.2.2.2.1.heap.size := k_cell_lt I0.2.2.2.1
  refine z_dup hC rfl rfl ?_
  refine z_initN (b := X.2.2.2.2.1.heap.size) (As := []) (rest := [.ref X.2.2.2.2.1.heap.size, .ref a]) (rm := R_7) hC rfl (C_X7_init (l := X.2.1) h0 htys) wic_7 wz_7 (List.mem_of_getElem? (i := 0) rfl) wim_7 rfl wid_7 ⟨by rw [hr]; decide, by rw [hr]; decide⟩ ⟨by rw [hr]; exact Nat.le_of_ble_eq_true rfl, by rw [hr]; exact Nat.le_of_ble_eq_true rfl⟩ J1.1 l1 f1 g1 c1 rfl (fun i x h => by cases h) rfl (by show 2 ≤ 8; decide) (fun H2 T2 hp2 => ?_)
  have J2 := zI_obj J1 h1 (by decide) (by decide) hp2
  have u1_2 : ∀ q, T2 q = some 1 → τ q = some 1 ∨ q = X.2.2.2.2.1.heap.size := fun q hq => by
    rcases hp2.2.1 q 1 hq with e | ⟨e, -⟩ | e
    · exact Or.inl e
    · exact Or.inr e
    · exact absurd e (by decide)
  refine z_putF (k := 0) (ks := [.inr (.inr (.inl (true, []))), .inr (.inr (.inl (true, []))), .inr (.inr (.inl (true, []))), .inr (.inr (.inl (true, []))), .inl (0, 0), .inr (.inr (.inl (true, []))), .inl (0, 0), .inl (0, 0), .inr (.inr (.inl (true, []))), .inr (.inr (.inl (true, []))), .inr (.inr (.inl (true, []))), .inr (.inr (.inl (true, []))), .inr (.inr (.inl (true, []))), .inr (.inr (.inl (true, [])))]) (x := .inr (.inr (.inl (false, [1])))) hC hin rfl rfl (hap_11 h0) hN_11 J2.2.2.2.1 hB (by decide) (Or.inr ⟨_, 1, rfl, List.mem_singleton.mpr rfl, hp2.2.2.2.1⟩) (fun r hr' => by cases hr'; exact ⟨rfl, rfl, tyX11_ok 0 (by decide)⟩) rfl rfl (fun H3 c3 s3 o3 z3 => ?_)
  have J3 : zI g tys B0 τ X.2.2.2.2.1.heap a 11 NT_11 [.inr (.inr (.inl (false, [1]))), .inr (.inr (.inl (true, []))), .inr (.inr (.inl (true, []))), .inr (.inr (.inl (true, []))), .inl (0, 0), .inr (.inr (.inl (true, []))), .inl (0, 0), .inl (0, 0), .inr (.inr (.inl (true, []))), .inr (.inr (.inl (true, []))), .inr (.inr (.inl (true, []))), .inr (.inr (.inl (true, []))), .inr (.inr (.inl (true, []))), .inr (.inr (.inl (true, [])))] _ H3 := zI_put (k := 0) (x := .inr (.inr (.inl (false, [1])))) J2 c3 s3 o3
  refine z_lda hC rfl rfl rfl ?_
  refine z_new (τ := T2) (ci := 10) (C := RX10) (T := TX10) (N := 7) (ty := tyX10) hC rfl rfl gW10 tyX10_ok (z_dok10 _) wc_RX11_16 wn_10 wz_10 (by rw [hr]; exact Nat.le_of_ble_eq_true rfl) (by rw [hr]; exact Nat.le_of_ble_eq_true rfl) (fun H4 c4 s4 o4 => ?_)
  obtain ⟨J4, f4, g4, h4, l4⟩ := zI_new (H1 := H4) J3 s4 o4
  have lta_4 : a < H3.size := k_cell_lt J3.2.2.2.1
  refine z_dup hC rfl rfl ?_
  refine z_initN (b := H3.size) (As := []) (rest := [.ref H3.size, .ref a]) (rm := R_10) hC rfl (C_X10_init (l := X.2.1) h0 htys) wic_10 wz_10 (List.mem_of_getElem? (i := 1) rfl) wim_10 rfl wid_10 ⟨by rw [hr]; decide, by rw [hr]; decide⟩ ⟨by rw [hr]; exact Nat.le_of_ble_eq_true rfl, by rw [hr]; exact Nat.le_of_ble_eq_true rfl⟩ J4.1 l4 f4 g4 c4 rfl (fun i x h => by cases h) rfl (by show 2 ≤ 8; decide) (fun H5 T5 hp5 => ?_)
  have J5 := zI_obj J4 h4 (by decide) (by decide) hp5
  have u1_5 := cp_u1 hp5 (by decide) (by decide) u1_2
  have kc_c2_5 : H5[H3.size]? = H5[H3.size]? := rfl
  have ne_c2 : H3.size ≠ a := fun z => by have h1 := k_cell_lt J3.2.2.2.1; omega
  have lt_c2_5 : H3.size < H5.size := by have h1 := s4; have h2 := hp5.2.2.2.2.2.1; omega
  refine z_putF (k := 1) (ks := [.inr (.inr (.inl (false, [1]))), .inr (.inr (.inl (true, []))), .inr (.inr (.inl (true, []))), .inr (.inr (.inl (true, []))), .inl (0, 0), .inr (.inr (.inl (true, []))), .inl (0, 0), .inl (0, 0), .inr (.inr (.inl (true, []))), .inr (.inr (.inl (true, []))), .inr (.inr (.inl (true, []))), .inr (.inr (.inl (true, []))), .inr (.inr (.inl (true, []))), .inr (.inr (.inl (true, [])))]) (x := .inr (.inr (.inl (false, [2])))) hC hin rfl rfl (hap_11 h0) hN_11 J5.2.2.2.1 hB (by decide) (Or.inr ⟨_, 2, rfl, List.mem_singleton.mpr rfl, hp5.2.2.2.1⟩) (fun r hr' => by cases hr'; exact ⟨rfl, rfl, tyX11_ok 1 (by decide)⟩) rfl rfl (fun H6 c6 s6 o6 z6 => ?_)
  have J6 : zI g tys B0 τ X.2.2.2.2.1.heap a 11 NT_11 [.inr (.inr (.inl (false, [1]))), .inr (.inr (.inl (false, [2]))), .inr (.inr (.inl (true, []))), .inr (.inr (.inl (true, []))), .inl (0, 0), .inr (.inr (.inl (true, []))), .inl (0, 0), .inl (0, 0), .inr (.inr (.inl (true, []))), .inr (.inr (.inl (true, []))), .inr (.inr (.inl (true, []))), .inr (.inr (.inl (true, []))), .inr (.inr (.inl (true, []))), .inr (.inr (.inl (true, [])))] _ H6 := zI_put (k := 1) (x := .inr (.inr (.inl (false, [2])))) J5 c6 s6 o6
  have kc_c2_6 : H6[H3.size]? = H5[H3.size]? := Eq.trans (o6 _ ne_c2) kc_c2_5
  have lt_c2_6 : H3.size < H6.size := by rw [s6]; exact lt_c2_5
  have zf_1_6 : (H6[a]?).bind (fun c => c.slots[g.2 11 1]?) = some (.ref H3.size) := by rw [z6 1 (by decide), if_pos rfl]
  refine z_lda hC rfl rfl rfl ?_
  refine z_cst hC rfl rfl ?_
  refine z_anew (N := 4) (ai := 5) hC rfl rfl wc_RX11_16 (List.mem_of_getElem? (i := 1) rfl) (i_of (by decide) (by decide)) (by decide) (by rw [hr]; exact Nat.le_of_ble_eq_true rfl) (by rw [hr]; exact Nat.le_of_ble_eq_true rfl) (fun H7 cA7 t7 e7 s7 o7 => ?_)
  have J7 := zI_arr (t := 20) (H' := H7) J6 (by decide) rfl s7 o7 ⟨cA7, _, 4, (fun _ => .null), t7, e7, by decide, by decide, fun j hj => Or.inl ⟨rfl, rfl⟩⟩
  have kc_c2_7 : H7[H3.size]? = H5[H3.size]? := Eq.trans (o7 _ lt_c2_6) kc_c2_6
  have lt_c2_7 : H3.size < H7.size := by rw [s7]; exact Nat.lt_succ_of_lt lt_c2_6
  have zf_1_7 : (H7[a]?).bind (fun c => c.slots[g.2 11 1]?) = some (.ref H3.size) := by rw [o7 a (k_cell_lt J6.2.2.2.1)]; exact zf_1_6
  have u1_7 := zt_u1 (b := H6.size) (t := 20) (by decide) u1_5
  have kc_c20_7 : H7[H6.size]? = H7[H6.size]? := rfl
  have ne_c20 : H6.size ≠ a := fun z => by have h1 := k_cell_lt J6.2.2.2.1; omega
  have lt_c20_7 : H6.size < H7.size := by rw [s7]; exact Nat.lt_succ_self _
  refine z_putF (k := 2) (ks := [.inr (.inr (.inl (false, [1]))), .inr (.inr (.inl (false, [2]))), .inr (.inr (.inl (true, []))), .inr (.inr (.inl (true, []))), .inl (0, 0), .inr (.inr (.inl (true, []))), .inl (0, 0), .inl (0, 0), .inr (.inr (.inl (true, []))), .inr (.inr (.inl (true, []))), .inr (.inr (.inl (true, []))), .inr (.inr (.inl (true, []))), .inr (.inr (.inl (true, []))), .inr (.inr (.inl (true, [])))]) (x := .inr (.inr (.inl (false, [20])))) hC hin rfl rfl (hap_11 h0) hN_11 J7.2.2.2.1 hB (by decide) (Or.inr ⟨_, 20, rfl, List.mem_singleton.mpr rfl, zt_at⟩) (fun r hr' => by cases hr'; exact ⟨rfl, rfl, tyX11_ok 2 (by decide)⟩) rfl rfl (fun H8 c8 s8 o8 z8 => ?_)
  have J8 : zI g tys B0 τ X.2.2.2.2.1.heap a 11 NT_11 [.inr (.inr (.inl (false, [1]))), .inr (.inr (.inl (false, [2]))), .inr (.inr (.inl (false, [20]))), .inr (.inr (.inl (true, []))), .inl (0, 0), .inr (.inr (.inl (true, []))), .inl (0, 0), .inl (0, 0), .inr (.inr (.inl (true, []))), .inr (.inr (.inl (true, []))), .inr (.inr (.inl (true, []))), .inr (.inr (.inl (true, []))), .inr (.inr (.inl (true, []))), .inr (.inr (.inl (true, [])))] _ H8 := zI_put (k := 2) (x := .inr (.inr (.inl (false, [20])))) J7 c8 s8 o8
  have kc_c2_8 : H8[H3.size]? = H5[H3.size]? := Eq.trans (o8 _ ne_c2) kc_c2_7
  have lt_c2_8 : H3.size < H8.size := by rw [s8]; exact lt_c2_7
  have kc_c20_8 : H8[H6.size]? = H7[H6.size]? := Eq.trans (o8 _ ne_c20) kc_c20_7
  have lt_c20_8 : H6.size < H8.size := by rw [s8]; exact lt_c20_7
  have zf_1_8 : (H8[a]?).bind (fun c => c.slots[g.2 11 1]?) = some (.ref H3.size) := by rw [z8 1 (by decide), if_neg (by decide)]; exact zf_1_7
  have zf_2_8 : (H8[a]?).bind (fun c => c.slots[g.2 11 2]?) = some (.ref H6.size) := by rw [z8 2 (by decide), if_pos rfl]
  refine z_lda hC rfl rfl rfl ?_
  refine z_cst hC rfl rfl ?_
  refine z_anew (N := 6) (ai := 6) hC rfl rfl wc_RX11_27 (List.mem_of_getElem? (i := 2) rfl) (i_of (by decide) (by decide)) (by decide) (by rw [hr]; exact Nat.le_of_ble_eq_true rfl) (by rw [hr]; exact Nat.le_of_ble_eq_true rfl) (fun H9 cA9 t9 e9 s9 o9 => ?_)
  have J9 := zI_arr (t := 21) (H' := H9) J8 (by decide) rfl s9 o9 ⟨cA9, _, 6, (fun _ => .null), t9, e9, by decide, by decide, fun j hj => Or.inl ⟨rfl, rfl⟩⟩
  have kc_c2_9 : H9[H3.size]? = H5[H3.size]? := Eq.trans (o9 _ lt_c2_8) kc_c2_8
  have lt_c2_9 : H3.size < H9.size := by rw [s9]; exact Nat.lt_succ_of_lt lt_c2_8
  have kc_c20_9 : H9[H6.size]? = H7[H6.size]? := Eq.trans (o9 _ lt_c20_8) kc_c20_8
  have lt_c20_9 : H6.size < H9.size := by rw [s9]; exact Nat.lt_succ_of_lt lt_c20_8
  have zf_1_9 : (H9[a]?).bind (fun c => c.slots[g.2 11 1]?) = some (.ref H3.size) := by rw [o9 a (k_cell_lt J8.2.2.2.1)]; exact zf_1_8
  have zf_2_9 : (H9[a]?).bind (fun c => c.slots[g.2 11 2]?) = some (.ref H6.size) := by rw [o9 a (k_cell_lt J8.2.2.2.1)]; exact zf_2_8
  have u1_9 := zt_u1 (b := H8.size) (t := 21) (by decide) u1_7
  refine z_putF (k := 3) (ks := [.inr (.inr (.inl (false, [1]))), .inr (.inr (.inl (false, [2]))), .inr (.inr (.inl (false, [20]))), .inr (.inr (.inl (true, []))), .inl (0, 0), .inr (.inr (.inl (true, []))), .inl (0, 0), .inl (0, 0), .inr (.inr (.inl (true, []))), .inr (.inr (.inl (true, []))), .inr (.inr (.inl (true, []))), .inr (.inr (.inl (true, []))), .inr (.inr (.inl (true, []))), .inr (.inr (.inl (true, [])))]) (x := .inr (.inr (.inl (false, [21])))) hC hin rfl rfl (hap_11 h0) hN_11 J9.2.2.2.1 hB (by decide) (Or.inr ⟨_, 21, rfl, List.mem_singleton.mpr rfl, zt_at⟩) (fun r hr' => by cases hr'; exact ⟨rfl, rfl, tyX11_ok 3 (by decide)⟩) rfl rfl (fun H10 c10 s10 o10 z10 => ?_)
  have J10 : zI g tys B0 τ X.2.2.2.2.1.heap a 11 NT_11 [.inr (.inr (.inl (false, [1]))), .inr (.inr (.inl (false, [2]))), .inr (.inr (.inl (false, [20]))), .inr (.inr (.inl (false, [21]))), .inl (0, 0), .inr (.inr (.inl (true, []))), .inl (0, 0), .inl (0, 0), .inr (.inr (.inl (true, []))), .inr (.inr (.inl (true, []))), .inr (.inr (.inl (true, []))), .inr (.inr (.inl (true, []))), .inr (.inr (.inl (true, []))), .inr (.inr (.inl (true, [])))] _ H10 := zI_put (k := 3) (x := .inr (.inr (.inl (false, [21])))) J9 c10 s10 o10
  have kc_c2_10 : H10[H3.size]? = H5[H3.size]? := Eq.trans (o10 _ ne_c2) kc_c2_9
  have lt_c2_10 : H3.size < H10.size := by rw [s10]; exact lt_c2_9
  have kc_c20_10 : H10[H6.size]? = H7[H6.size]? := Eq.trans (o10 _ ne_c20) kc_c20_9
  have lt_c20_10 : H6.size < H10.size := by rw [s10]; exact lt_c20_9
  have zf_1_10 : (H10[a]?).bind (fun c => c.slots[g.2 11 1]?) = some (.ref H3.size) := by rw [z10 1 (by decide), if_neg (by decide)]; exact zf_1_9
  have zf_2_10 : (H10[a]?).bind (fun c => c.slots[g.2 11 2]?) = some (.ref H6.size) := by rw [z10 2 (by decide), if_neg (by decide)]; exact zf_2_9
  refine z_lda hC rfl rfl rfl ?_
  refine z_cst hC rfl rfl ?_
  refine z_anew (N := 20) (ai := 4) hC rfl rfl wc_RX11_33 (List.mem_of_getElem? (i := 0) rfl) (i_of (by decide) (by decide)) (by decide) (by rw [hr]; exact Nat.le_of_ble_eq_true rfl) (by rw [hr]; exact Nat.le_of_ble_eq_true rfl) (fun H11 cA11 t11 e11 s11 o11 => ?_)
  have J11 := (zI_new (H1 := H11) J10 s11 o11).1
  have n11 := zI_new (H1 := H11) J10 s11 o11
  have kc_c2_11 : H11[H3.size]? = H5[H3.size]? := Eq.trans (o11 _ lt_c2_10) kc_c2_10
  have lt_c2_11 : H3.size < H11.size := by rw [s11]; exact Nat.lt_succ_of_lt lt_c2_10
  have kc_c20_11 : H11[H6.size]? = H7[H6.size]? := Eq.trans (o11 _ lt_c20_10) kc_c20_10
  have lt_c20_11 : H6.size < H11.size := by rw [s11]; exact Nat.lt_succ_of_lt lt_c20_10
  have zf_1_11 : (H11[a]?).bind (fun c => c.slots[g.2 11 1]?) = some (.ref H3.size) := by rw [o11 a (k_cell_lt J10.2.2.2.1)]; exact zf_1_10
  have zf_2_11 : (H11[a]?).bind (fun c => c.slots[g.2 11 2]?) = some (.ref H6.size) := by rw [o11 a (k_cell_lt J10.2.2.2.1)]; exact zf_2_10
  have kc_c22_11 : H11[H10.size]? = H11[H10.size]? := rfl
  have ne_c22 : H10.size ≠ a := fun z => by have h1 := k_cell_lt J10.2.2.2.1; omega
  have lt_c22_11 : H10.size < H11.size := by rw [s11]; exact Nat.lt_succ_self _
  have nb_11 := n11.2.1
  refine z_putF (k := 5) (ks := [.inr (.inr (.inl (false, [1]))), .inr (.inr (.inl (false, [2]))), .inr (.inr (.inl (false, [20]))), .inr (.inr (.inl (false, [21]))), .inl (0, 0), .inr (.inr (.inl (true, []))), .inl (0, 0), .inl (0, 0), .inr (.inr (.inl (true, []))), .inr (.inr (.inl (true, []))), .inr (.inr (.inl (true, []))), .inr (.inr (.inl (true, []))), .inr (.inr (.inl (true, []))), .inr (.inr (.inl (true, [])))]) (x := .inr (.inr (.inr ()))) hC hin rfl rfl (hap_11 h0) hN_11 J11.2.2.2.1 hB (by decide) (rfl) (fun r hr' => by cases hr'; exact ⟨rfl, rfl, tyX11_ok 5 (by decide)⟩) rfl rfl (fun H12 c12 s12 o12 z12 => ?_)
  have J12 : zI g tys B0 τ X.2.2.2.2.1.heap a 11 NT_11 [.inr (.inr (.inl (false, [1]))), .inr (.inr (.inl (false, [2]))), .inr (.inr (.inl (false, [20]))), .inr (.inr (.inl (false, [21]))), .inl (0, 0), .inr (.inr (.inr ())), .inl (0, 0), .inl (0, 0), .inr (.inr (.inl (true, []))), .inr (.inr (.inl (true, []))), .inr (.inr (.inl (true, []))), .inr (.inr (.inl (true, []))), .inr (.inr (.inl (true, []))), .inr (.inr (.inl (true, [])))] _ H12 := zI_put (k := 5) (x := .inr (.inr (.inr ()))) J11 c12 s12 o12
  have kc_c2_12 : H12[H3.size]? = H5[H3.size]? := Eq.trans (o12 _ ne_c2) kc_c2_11
  have lt_c2_12 : H3.size < H12.size := by rw [s12]; exact lt_c2_11
  have kc_c20_12 : H12[H6.size]? = H7[H6.size]? := Eq.trans (o12 _ ne_c20) kc_c20_11
  have lt_c20_12 : H6.size < H12.size := by rw [s12]; exact lt_c20_11
  have kc_c22_12 : H12[H10.size]? = H11[H10.size]? := Eq.trans (o12 _ ne_c22) kc_c22_11
  have lt_c22_12 : H10.size < H12.size := by rw [s12]; exact lt_c22_11
  have zf_1_12 : (H12[a]?).bind (fun c => c.slots[g.2 11 1]?) = some (.ref H3.size) := by rw [z12 1 (by decide), if_neg (by decide)]; exact zf_1_11
  have zf_2_12 : (H12[a]?).bind (fun c => c.slots[g.2 11 2]?) = some (.ref H6.size) := by rw [z12 2 (by decide), if_neg (by decide)]; exact zf_2_11
  have zf_5_12 : (H12[a]?).bind (fun c => c.slots[g.2 11 5]?) = some (.ref H10.size) := by rw [z12 5 (by decide), if_pos rfl]
  refine z_lda hC rfl rfl rfl ?_
  refine z_new (τ := (zt (zt T5 H6.size 20) H8.size 21)) (ci := 9) (C := RX9) (T := TX9) (N := 2) (ty := tyX9) hC rfl rfl gW9 tyX9_ok (z_dok9 _) wc_RX11_39 wn_9 wz_9 (by rw [hr]; exact Nat.le_of_ble_eq_true rfl) (by rw [hr]; exact Nat.le_of_ble_eq_true rfl) (fun H13 c13 s13 o13 => ?_)
  obtain ⟨J13, f13, g13, h13, l13⟩ := zI_new (H1 := H13) J12 s13 o13
  have kc_c2_13 : H13[H3.size]? = H5[H3.size]? := Eq.trans (o13 _ lt_c2_12) kc_c2_12
  have lt_c2_13 : H3.size < H13.size := by rw [s13]; exact Nat.lt_succ_of_lt lt_c2_12
  have kc_c20_13 : H13[H6.size]? = H7[H6.size]? := Eq.trans (o13 _ lt_c20_12) kc_c20_12
  have lt_c20_13 : H6.size < H13.size := by rw [s13]; exact Nat.lt_succ_of_lt lt_c20_12
  have kc_c22_13 : H13[H10.size]? = H11[H10.size]? := Eq.trans (o13 _ lt_c22_12) kc_c22_12
  have lt_c22_13 : H10.size < H13.size := by rw [s13]; exact Nat.lt_succ_of_lt lt_c22_12
  have zf_1_13 : (H13[a]?).bind (fun c => c.slots[g.2 11 1]?) = some (.ref H3.size) := by rw [o13 a (k_cell_lt J12.2.2.2.1)]; exact zf_1_12
  have zf_2_13 : (H13[a]?).bind (fun c => c.slots[g.2 11 2]?) = some (.ref H6.size) := by rw [o13 a (k_cell_lt J12.2.2.2.1)]; exact zf_2_12
  have zf_5_13 : (H13[a]?).bind (fun c => c.slots[g.2 11 5]?) = some (.ref H10.size) := by rw [o13 a (k_cell_lt J12.2.2.2.1)]; exact zf_5_12
  have lta_13 : a < H12.size := k_cell_lt J12.2.2.2.1
  refine z_dup hC rfl rfl ?_
  refine z_lda hC rfl rfl rfl ?_
  obtain ⟨w14, sl14, ok14⟩ := k_cell_at (k := 0) h0 hN_11 J13.2.2.2.1 rfl
  obtain ⟨r14, rfl, tr14⟩ := k_refOk (t := 1) ok14
  refine z_get hC rfl rfl J13.2.2.2.1 sl14 ?_
  refine z_init (b := H12.size) (As := [.ref r14]) (rest := [.ref H12.size, .ref a]) (rm := R_9) hC rfl (C_X9_init (l := X.2.1) h0 htys) wic_9 wz_9 wl_RX11_41 wim_9 rfl wid_9 ⟨by rw [hr]; decide, by rw [hr]; decide⟩ ⟨by rw [hr]; exact Nat.le_of_ble_eq_true rfl, by rw [hr]; exact Nat.le_of_ble_eq_true rfl⟩ J13.1 l13 f13 g13 c13 rfl (fun i x h => match i, h with | 0, h => by cases h; exact ⟨_, rfl, Or.inr ⟨_, 1, rfl, List.mem_singleton.mpr rfl, tr14⟩⟩ | n + 1, h => by cases h) rfl (by show 2 ≤ 8; decide) (fun H15 T15 hp15 => ?_)
  have J15 := zI_obj J13 h13 (by decide) (by decide) hp15
  have nb_15 : T15 H10.size = none := by rw [(hp15.2.2.2.2.1 _ lt_c22_13 (Nat.ne_of_lt lt_c22_12)).2]; exact nb_11
  have kc_c2_15 : H15[H3.size]? = H5[H3.size]? := Eq.trans (hp15.2.2.2.2.1 _ lt_c2_13 (Nat.ne_of_lt lt_c2_12)).1 kc_c2_13
  have lt_c2_15 : H3.size < H15.size := Nat.lt_of_lt_of_le lt_c2_13 hp15.2.2.2.2.2.1
  have kc_c20_15 : H15[H6.size]? = H7[H6.size]? := Eq.trans (hp15.2.2.2.2.1 _ lt_c20_13 (Nat.ne_of_lt lt_c20_12)).1 kc_c20_13
  have lt_c20_15 : H6.size < H15.size := Nat.lt_of_lt_of_le lt_c20_13 hp15.2.2.2.2.2.1
  have kc_c22_15 : H15[H10.size]? = H11[H10.size]? := Eq.trans (hp15.2.2.2.2.1 _ lt_c22_13 (Nat.ne_of_lt lt_c22_12)).1 kc_c22_13
  have lt_c22_15 : H10.size < H15.size := Nat.lt_of_lt_of_le lt_c22_13 hp15.2.2.2.2.2.1
  have zf_1_15 : (H15[a]?).bind (fun c => c.slots[g.2 11 1]?) = some (.ref H3.size) := by rw [(hp15.2.2.2.2.1 a (k_cell_lt J13.2.2.2.1) (Nat.ne_of_lt lta_13)).1]; exact zf_1_13
  have zf_2_15 : (H15[a]?).bind (fun c => c.slots[g.2 11 2]?) = some (.ref H6.size) := by rw [(hp15.2.2.2.2.1 a (k_cell_lt J13.2.2.2.1) (Nat.ne_of_lt lta_13)).1]; exact zf_2_13
  have zf_5_15 : (H15[a]?).bind (fun c => c.slots[g.2 11 5]?) = some (.ref H10.size) := by rw [(hp15.2.2.2.2.1 a (k_cell_lt J13.2.2.2.1) (Nat.ne_of_lt lta_13)).1]; exact zf_5_13
  have u1_15 := cp_u1 hp15 (by decide) (by decide) u1_9
  refine z_putF (k := 8) (ks := [.inr (.inr (.inl (false, [1]))), .inr (.inr (.inl (false, [2]))), .inr (.inr (.inl (false, [20]))), .inr (.inr (.inl (false, [21]))), .inl (0, 0), .inr (.inr (.inr ())), .inl (0, 0), .inl (0, 0), .inr (.inr (.inl (true, []))), .inr (.inr (.inl (true, []))), .inr (.inr (.inl (true, []))), .inr (.inr (.inl (true, []))), .inr (.inr (.inl (true, []))), .inr (.inr (.inl (true, [])))]) (x := .inr (.inr (.inl (false, [5])))) hC hin rfl rfl (hap_11 h0) hN_11 J15.2.2.2.1 hB (by decide) (Or.inr ⟨_, 5, rfl, List.mem_singleton.mpr rfl, hp15.2.2.2.1⟩) (fun r hr' => by cases hr'; exact ⟨rfl, rfl, tyX11_ok 8 (by decide)⟩) rfl rfl (fun H16 c16 s16 o16 z16 => ?_)
  have J16 : zI g tys B0 τ X.2.2.2.2.1.heap a 11 NT_11 [.inr (.inr (.inl (false, [1]))), .inr (.inr (.inl (false, [2]))), .inr (.inr (.inl (false, [20]))), .inr (.inr (.inl (false, [21]))), .inl (0, 0), .inr (.inr (.inr ())), .inl (0, 0), .inl (0, 0), .inr (.inr (.inl (false, [5]))), .inr (.inr (.inl (true, []))), .inr (.inr (.inl (true, []))), .inr (.inr (.inl (true, []))), .inr (.inr (.inl (true, []))), .inr (.inr (.inl (true, [])))] _ H16 := zI_put (k := 8) (x := .inr (.inr (.inl (false, [5])))) J15 c16 s16 o16
  have kc_c2_16 : H16[H3.size]? = H5[H3.size]? := Eq.trans (o16 _ ne_c2) kc_c2_15
  have lt_c2_16 : H3.size < H16.size := by rw [s16]; exact lt_c2_15
  have kc_c20_16 : H16[H6.size]? = H7[H6.size]? := Eq.trans (o16 _ ne_c20) kc_c20_15
  have lt_c20_16 : H6.size < H16.size := by rw [s16]; exact lt_c20_15
  have kc_c22_16 : H16[H10.size]? = H11[H10.size]? := Eq.trans (o16 _ ne_c22) kc_c22_15
  have lt_c22_16 : H10.size < H16.size := by rw [s16]; exact lt_c22_15
  have zf_1_16 : (H16[a]?).bind (fun c => c.slots[g.2 11 1]?) = some (.ref H3.size) := by rw [z16 1 (by decide), if_neg (by decide)]; exact zf_1_15
  have zf_2_16 : (H16[a]?).bind (fun c => c.slots[g.2 11 2]?) = some (.ref H6.size) := by rw [z16 2 (by decide), if_neg (by decide)]; exact zf_2_15
  have zf_5_16 : (H16[a]?).bind (fun c => c.slots[g.2 11 5]?) = some (.ref H10.size) := by rw [z16 5 (by decide), if_neg (by decide)]; exact zf_5_15
  refine z_lda hC rfl rfl rfl ?_
  refine z_new (τ := T15) (ci := 5) (C := RX5) (T := TX5) (N := 6) (ty := tyX5) hC rfl rfl gW5 tyX5_ok (z_dok5 _) wc_RX11_48 wn_5 wz_5 (by rw [hr]; exact Nat.le_of_ble_eq_true rfl) (by rw [hr]; exact Nat.le_of_ble_eq_true rfl) (fun H17 c17 s17 o17 => ?_)
  obtain ⟨J17, f17, g17, h17, l17⟩ := zI_new (H1 := H17) J16 s17 o17
  have kc_c2_17 : H17[H3.size]? = H5[H3.size]? := Eq.trans (o17 _ lt_c2_16) kc_c2_16
  have lt_c2_17 : H3.size < H17.size := by rw [s17]; exact Nat.lt_succ_of_lt lt_c2_16
  have kc_c20_17 : H17[H6.size]? = H7[H6.size]? := Eq.trans (o17 _ lt_c20_16) kc_c20_16
  have lt_c20_17 : H6.size < H17.size := by rw [s17]; exact Nat.lt_succ_of_lt lt_c20_16
  have kc_c22_17 : H17[H10.size]? = H11[H10.size]? := Eq.trans (o17 _ lt_c22_16) kc_c22_16
  have lt_c22_17 : H10.size < H17.size := by rw [s17]; exact Nat.lt_succ_of_lt lt_c22_16
  have zf_1_17 : (H17[a]?).bind (fun c => c.slots[g.2 11 1]?) = some (.ref H3.size) := by rw [o17 a (k_cell_lt J16.2.2.2.1)]; exact zf_1_16
  have zf_2_17 : (H17[a]?).bind (fun c => c.slots[g.2 11 2]?) = some (.ref H6.size) := by rw [o17 a (k_cell_lt J16.2.2.2.1)]; exact zf_2_16
  have zf_5_17 : (H17[a]?).bind (fun c => c.slots[g.2 11 5]?) = some (.ref H10.size) := by rw [o17 a (k_cell_lt J16.2.2.2.1)]; exact zf_5_16
  have lta_17 : a < H16.size := k_cell_lt J16.2.2.2.1
  refine z_dup hC rfl rfl ?_
  refine z_lda hC rfl rfl rfl ?_
  obtain ⟨w18, sl18, ok18⟩ := k_cell_at (k := 0) h0 hN_11 J17.2.2.2.1 rfl
  obtain ⟨r18, rfl, tr18⟩ := k_refOk (t := 1) ok18
  refine z_get hC rfl rfl J17.2.2.2.1 sl18 ?_
  refine z_init (b := H16.size) (As := [.ref r18]) (rest := [.ref H16.size, .ref a]) (rm := R_5) hC rfl (C_X5_init (l := X.2.1) h0 htys) wic_5 wz_5 wl_RX11_50 wim_5 rfl wid_5 ⟨by rw [hr]; decide, by rw [hr]; decide⟩ ⟨by rw [hr]; exact Nat.le_of_ble_eq_true rfl, by rw [hr]; exact Nat.le_of_ble_eq_true rfl⟩ J17.1 l17 f17 g17 c17 rfl (fun i x h => match i, h with | 0, h => by cases h; exact ⟨_, rfl, Or.inr ⟨_, 1, rfl, List.mem_singleton.mpr rfl, tr18⟩⟩ | n + 1, h => by cases h) rfl (by show 2 ≤ 8; decide) (fun H19 T19 hp19 => ?_)
  have J19 := zI_obj J17 h17 (by decide) (by decide) hp19
  have nb_19 : T19 H10.size = none := by rw [(hp19.2.2.2.2.1 _ lt_c22_17 (Nat.ne_of_lt lt_c22_16)).2]; exact nb_15
  have kc_c2_19 : H19[H3.size]? = H5[H3.size]? := Eq.trans (hp19.2.2.2.2.1 _ lt_c2_17 (Nat.ne_of_lt lt_c2_16)).1 kc_c2_17
  have lt_c2_19 : H3.size < H19.size := Nat.lt_of_lt_of_le lt_c2_17 hp19.2.2.2.2.2.1
  have kc_c20_19 : H19[H6.size]? = H7[H6.size]? := Eq.trans (hp19.2.2.2.2.1 _ lt_c20_17 (Nat.ne_of_lt lt_c20_16)).1 kc_c20_17
  have lt_c20_19 : H6.size < H19.size := Nat.lt_of_lt_of_le lt_c20_17 hp19.2.2.2.2.2.1
  have kc_c22_19 : H19[H10.size]? = H11[H10.size]? := Eq.trans (hp19.2.2.2.2.1 _ lt_c22_17 (Nat.ne_of_lt lt_c22_16)).1 kc_c22_17
  have lt_c22_19 : H10.size < H19.size := Nat.lt_of_lt_of_le lt_c22_17 hp19.2.2.2.2.2.1
  have zf_1_19 : (H19[a]?).bind (fun c => c.slots[g.2 11 1]?) = some (.ref H3.size) := by rw [(hp19.2.2.2.2.1 a (k_cell_lt J17.2.2.2.1) (Nat.ne_of_lt lta_17)).1]; exact zf_1_17
  have zf_2_19 : (H19[a]?).bind (fun c => c.slots[g.2 11 2]?) = some (.ref H6.size) := by rw [(hp19.2.2.2.2.1 a (k_cell_lt J17.2.2.2.1) (Nat.ne_of_lt lta_17)).1]; exact zf_2_17
  have zf_5_19 : (H19[a]?).bind (fun c => c.slots[g.2 11 5]?) = some (.ref H10.size) := by rw [(hp19.2.2.2.2.1 a (k_cell_lt J17.2.2.2.1) (Nat.ne_of_lt lta_17)).1]; exact zf_5_17
  have u1_19 := cp_u1 hp19 (by decide) (by decide) u1_15
  refine z_putF (k := 9) (ks := [.inr (.inr (.inl (false, [1]))), .inr (.inr (.inl (false, [2]))), .inr (.inr (.inl (false, [20]))), .inr (.inr (.inl (false, [21]))), .inl (0, 0), .inr (.inr (.inr ())), .inl (0, 0), .inl (0, 0), .inr (.inr (.inl (false, [5]))), .inr (.inr (.inl (true, []))), .inr (.inr (.inl (true, []))), .inr (.inr (.inl (true, []))), .inr (.inr (.inl (true, []))), .inr (.inr (.inl (true, [])))]) (x := .inr (.inr (.inl (false, [6])))) hC hin rfl rfl (hap_11 h0) hN_11 J19.2.2.2.1 hB (by decide) (Or.inr ⟨_, 6, rfl, List.mem_singleton.mpr rfl, hp19.2.2.2.1⟩) (fun r hr' => by cases hr'; exact ⟨rfl, rfl, tyX11_ok 9 (by decide)⟩) rfl rfl (fun H20 c20 s20 o20 z20 => ?_)
  have J20 : zI g tys B0 τ X.2.2.2.2.1.heap a 11 NT_11 [.inr (.inr (.inl (false, [1]))), .inr (.inr (.inl (false, [2]))), .inr (.inr (.inl (false, [20]))), .inr (.inr (.inl (false, [21]))), .inl (0, 0), .inr (.inr (.inr ())), .inl (0, 0), .inl (0, 0), .inr (.inr (.inl (false, [5]))), .inr (.inr (.inl (false, [6]))), .inr (.inr (.inl (true, []))), .inr (.inr (.inl (true, []))), .inr (.inr (.inl (true, []))), .inr (.inr (.inl (true, [])))] _ H20 := zI_put (k := 9) (x := .inr (.inr (.inl (false, [6])))) J19 c20 s20 o20
  have kc_c2_20 : H20[H3.size]? = H5[H3.size]? := Eq.trans (o20 _ ne_c2) kc_c2_19
  have lt_c2_20 : H3.size < H20.size := by rw [s20]; exact lt_c2_19
  have kc_c20_20 : H20[H6.size]? = H7[H6.size]? := Eq.trans (o20 _ ne_c20) kc_c20_19
  have lt_c20_20 : H6.size < H20.size := by rw [s20]; exact lt_c20_19
  have kc_c22_20 : H20[H10.size]? = H11[H10.size]? := Eq.trans (o20 _ ne_c22) kc_c22_19
  have lt_c22_20 : H10.size < H20.size := by rw [s20]; exact lt_c22_19
  have zf_1_20 : (H20[a]?).bind (fun c => c.slots[g.2 11 1]?) = some (.ref H3.size) := by rw [z20 1 (by decide), if_neg (by decide)]; exact zf_1_19
  have zf_2_20 : (H20[a]?).bind (fun c => c.slots[g.2 11 2]?) = some (.ref H6.size) := by rw [z20 2 (by decide), if_neg (by decide)]; exact zf_2_19
  have zf_5_20 : (H20[a]?).bind (fun c => c.slots[g.2 11 5]?) = some (.ref H10.size) := by rw [z20 5 (by decide), if_neg (by decide)]; exact zf_5_19
  refine z_lda hC rfl rfl rfl ?_
  refine z_new (τ := T19) (ci := 1) (C := RX1) (T := TX1) (N := 11) (ty := tyX1) hC rfl rfl gW1 tyX1_ok (z_dok1 _) wc_RX11_55 wn_1 wz_1 (by rw [hr]; exact Nat.le_of_ble_eq_true rfl) (by rw [hr]; exact Nat.le_of_ble_eq_true rfl) (fun H21 c21 s21 o21 => ?_)
  obtain ⟨J21, f21, g21, h21, l21⟩ := zI_new (H1 := H21) J20 s21 o21
  have kc_c2_21 : H21[H3.size]? = H5[H3.size]? := Eq.trans (o21 _ lt_c2_20) kc_c2_20
  have lt_c2_21 : H3.size < H21.size := by rw [s21]; exact Nat.lt_succ_of_lt lt_c2_20
  have kc_c20_21 : H21[H6.size]? = H7[H6.size]? := Eq.trans (o21 _ lt_c20_20) kc_c20_20
  have lt_c20_21 : H6.size < H21.size := by rw [s21]; exact Nat.lt_succ_of_lt lt_c20_20
  have kc_c22_21 : H21[H10.size]? = H11[H10.size]? := Eq.trans (o21 _ lt_c22_20) kc_c22_20
  have lt_c22_21 : H10.size < H21.size := by rw [s21]; exact Nat.lt_succ_of_lt lt_c22_20
  have zf_1_21 : (H21[a]?).bind (fun c => c.slots[g.2 11 1]?) = some (.ref H3.size) := by rw [o21 a (k_cell_lt J20.2.2.2.1)]; exact zf_1_20
  have zf_2_21 : (H21[a]?).bind (fun c => c.slots[g.2 11 2]?) = some (.ref H6.size) := by rw [o21 a (k_cell_lt J20.2.2.2.1)]; exact zf_2_20
  have zf_5_21 : (H21[a]?).bind (fun c => c.slots[g.2 11 5]?) = some (.ref H10.size) := by rw [o21 a (k_cell_lt J20.2.2.2.1)]; exact zf_5_20
  have lta_21 : a < H20.size := k_cell_lt J20.2.2.2.1
  refine z_dup hC rfl rfl ?_
  refine z_lda hC rfl rfl rfl ?_
  obtain ⟨w22, sl22, ok22⟩ := k_cell_at (k := 1) h0 hN_11 J21.2.2.2.1 rfl
  obtain ⟨r22, rfl, tr22⟩ := k_refOk (t := 2) ok22
  refine z_get hC rfl rfl J21.2.2.2.1 sl22 ?_
  refine z_lda hC rfl rfl rfl ?_
  obtain ⟨w23, sl23, ok23⟩ := k_cell_at (k := 3) h0 hN_11 J21.2.2.2.1 rfl
  obtain ⟨r23, rfl, tr23⟩ := k_refOk (t := 21) ok23
  refine z_get hC rfl rfl J21.2.2.2.1 sl23 ?_
  refine z_init (b := H20.size) (As := [.ref r22, .ref r23]) (rest := [.ref H20.size, .ref a]) (rm := R_1) hC rfl (C_X1_init (l := X.2.1) h0 htys) wic_1 wz_1 wl_RX11_57 wim_1 rfl wid_1 ⟨by rw [hr]; decide, by rw [hr]; decide⟩ ⟨by rw [hr]; exact Nat.le_of_ble_eq_true rfl, by rw [hr]; exact Nat.le_of_ble_eq_true rfl⟩ J21.1 l21 f21 g21 c21 rfl (fun i x h => match i, h with | 0, h => by cases h; exact ⟨_, rfl, Or.inr ⟨_, 2, rfl, List.mem_singleton.mpr rfl, tr22⟩⟩ | 1, h => by cases h; exact ⟨_, rfl, Or.inr ⟨_, 21, rfl, List.mem_singleton.mpr rfl, tr23⟩⟩ | n + 2, h => by cases h) rfl (by show 2 ≤ 8; decide) (fun H24 T24 hp24 => ?_)
  have J24 := zI_obj J21 h21 (by decide) (by decide) hp24
  have nb_24 : T24 H10.size = none := by rw [(hp24.2.2.2.2.1 _ lt_c22_21 (Nat.ne_of_lt lt_c22_20)).2]; exact nb_19
  have kc_c2_24 : H24[H3.size]? = H5[H3.size]? := Eq.trans (hp24.2.2.2.2.1 _ lt_c2_21 (Nat.ne_of_lt lt_c2_20)).1 kc_c2_21
  have lt_c2_24 : H3.size < H24.size := Nat.lt_of_lt_of_le lt_c2_21 hp24.2.2.2.2.2.1
  have kc_c20_24 : H24[H6.size]? = H7[H6.size]? := Eq.trans (hp24.2.2.2.2.1 _ lt_c20_21 (Nat.ne_of_lt lt_c20_20)).1 kc_c20_21
  have lt_c20_24 : H6.size < H24.size := Nat.lt_of_lt_of_le lt_c20_21 hp24.2.2.2.2.2.1
  have kc_c22_24 : H24[H10.size]? = H11[H10.size]? := Eq.trans (hp24.2.2.2.2.1 _ lt_c22_21 (Nat.ne_of_lt lt_c22_20)).1 kc_c22_21
  have lt_c22_24 : H10.size < H24.size := Nat.lt_of_lt_of_le lt_c22_21 hp24.2.2.2.2.2.1
  have zf_1_24 : (H24[a]?).bind (fun c => c.slots[g.2 11 1]?) = some (.ref H3.size) := by rw [(hp24.2.2.2.2.1 a (k_cell_lt J21.2.2.2.1) (Nat.ne_of_lt lta_21)).1]; exact zf_1_21
  have zf_2_24 : (H24[a]?).bind (fun c => c.slots[g.2 11 2]?) = some (.ref H6.size) := by rw [(hp24.2.2.2.2.1 a (k_cell_lt J21.2.2.2.1) (Nat.ne_of_lt lta_21)).1]; exact zf_2_21
  have zf_5_24 : (H24[a]?).bind (fun c => c.slots[g.2 11 5]?) = some (.ref H10.size) := by rw [(hp24.2.2.2.2.1 a (k_cell_lt J21.2.2.2.1) (Nat.ne_of_lt lta_21)).1]; exact zf_5_21
  have u1_24 := cp_u1 hp24 (by decide) (by decide) u1_19
  refine z_putF (k := 10) (ks := [.inr (.inr (.inl (false, [1]))), .inr (.inr (.inl (false, [2]))), .inr (.inr (.inl (false, [20]))), .inr (.inr (.inl (false, [21]))), .inl (0, 0), .inr (.inr (.inr ())), .inl (0, 0), .inl (0, 0), .inr (.inr (.inl (false, [5]))), .inr (.inr (.inl (false, [6]))), .inr (.inr (.inl (true, []))), .inr (.inr (.inl (true, []))), .inr (.inr (.inl (true, []))), .inr (.inr (.inl (true, [])))]) (x := .inr (.inr (.inl (false, [7])))) hC hin rfl rfl (hap_11 h0) hN_11 J24.2.2.2.1 hB (by decide) (Or.inr ⟨_, 7, rfl, List.mem_singleton.mpr rfl, hp24.2.2.2.1⟩) (fun r hr' => by cases hr'; exact ⟨rfl, rfl, tyX11_ok 10 (by decide)⟩) rfl rfl (fun H25 c25 s25 o25 z25 => ?_)
  have J25 : zI g tys B0 τ X.2.2.2.2.1.heap a 11 NT_11 [.inr (.inr (.inl (false, [1]))), .inr (.inr (.inl (false, [2]))), .inr (.inr (.inl (false, [20]))), .inr (.inr (.inl (false, [21]))), .inl (0, 0), .inr (.inr (.inr ())), .inl (0, 0), .inl (0, 0), .inr (.inr (.inl (false, [5]))), .inr (.inr (.inl (false, [6]))), .inr (.inr (.inl (false, [7]))), .inr (.inr (.inl (true, []))), .inr (.inr (.inl (true, []))), .inr (.inr (.inl (true, [])))] _ H25 := zI_put (k := 10) (x := .inr (.inr (.inl (false, [7])))) J24 c25 s25 o25
  have kc_c2_25 : H25[H3.size]? = H5[H3.size]? := Eq.trans (o25 _ ne_c2) kc_c2_24
  have lt_c2_25 : H3.size < H25.size := by rw [s25]; exact lt_c2_24
  have kc_c20_25 : H25[H6.size]? = H7[H6.size]? := Eq.trans (o25 _ ne_c20) kc_c20_24
  have lt_c20_25 : H6.size < H25.size := by rw [s25]; exact lt_c20_24
  have kc_c22_25 : H25[H10.size]? = H11[H10.size]? := Eq.trans (o25 _ ne_c22) kc_c22_24
  have lt_c22_25 : H10.size < H25.size := by rw [s25]; exact lt_c22_24
  have zf_1_25 : (H25[a]?).bind (fun c => c.slots[g.2 11 1]?) = some (.ref H3.size) := by rw [z25 1 (by decide), if_neg (by decide)]; exact zf_1_24
  have zf_2_25 : (H25[a]?).bind (fun c => c.slots[g.2 11 2]?) = some (.ref H6.size) := by rw [z25 2 (by decide), if_neg (by decide)]; exact zf_2_24
  have zf_5_25 : (H25[a]?).bind (fun c => c.slots[g.2 11 5]?) = some (.ref H10.size) := by rw [z25 5 (by decide), if_neg (by decide)]; exact zf_5_24
  refine z_lda hC rfl rfl rfl ?_
  refine z_new (τ := T24) (ci := 0) (C := RX0) (T := TX0) (N := 6) (ty := tyX0) hC rfl rfl gW0 tyX0_ok (z_dok0 _) wc_RX11_64 wn_0 wz_0 (by rw [hr]; exact Nat.le_of_ble_eq_true rfl) (by rw [hr]; exact Nat.le_of_ble_eq_true rfl) (fun H26 c26 s26 o26 => ?_)
  obtain ⟨J26, f26, g26, h26, l26⟩ := zI_new (H1 := H26) J25 s26 o26
  have kc_c2_26 : H26[H3.size]? = H5[H3.size]? := Eq.trans (o26 _ lt_c2_25) kc_c2_25
  have lt_c2_26 : H3.size < H26.size := by rw [s26]; exact Nat.lt_succ_of_lt lt_c2_25
  have kc_c20_26 : H26[H6.size]? = H7[H6.size]? := Eq.trans (o26 _ lt_c20_25) kc_c20_25
  have lt_c20_26 : H6.size < H26.size := by rw [s26]; exact Nat.lt_succ_of_lt lt_c20_25
  have kc_c22_26 : H26[H10.size]? = H11[H10.size]? := Eq.trans (o26 _ lt_c22_25) kc_c22_25
  have lt_c22_26 : H10.size < H26.size := by rw [s26]; exact Nat.lt_succ_of_lt lt_c22_25
  have zf_1_26 : (H26[a]?).bind (fun c => c.slots[g.2 11 1]?) = some (.ref H3.size) := by rw [o26 a (k_cell_lt J25.2.2.2.1)]; exact zf_1_25
  have zf_2_26 : (H26[a]?).bind (fun c => c.slots[g.2 11 2]?) = some (.ref H6.size) := by rw [o26 a (k_cell_lt J25.2.2.2.1)]; exact zf_2_25
  have zf_5_26 : (H26[a]?).bind (fun c => c.slots[g.2 11 5]?) = some (.ref H10.size) := by rw [o26 a (k_cell_lt J25.2.2.2.1)]; exact zf_5_25
  have lta_26 : a < H25.size := k_cell_lt J25.2.2.2.1
  refine z_dup hC rfl rfl ?_
  refine z_lda hC rfl rfl rfl ?_
  obtain ⟨w27, sl27, ok27⟩ := k_cell_at (k := 1) h0 hN_11 J26.2.2.2.1 rfl
  obtain ⟨r27, rfl, tr27⟩ := k_refOk (t := 2) ok27
  refine z_get hC rfl rfl J26.2.2.2.1 sl27 ?_
  refine z_lda hC rfl rfl rfl ?_
  obtain ⟨w28, sl28, ok28⟩ := k_cell_at (k := 10) h0 hN_11 J26.2.2.2.1 rfl
  obtain ⟨r28, rfl, tr28⟩ := k_refOk (t := 7) ok28
  refine z_get hC rfl rfl J26.2.2.2.1 sl28 ?_
  refine z_init (b := H25.size) (As := [.ref r27, .ref r28]) (rest := [.ref H25.size, .ref a]) (rm := R_0) hC rfl (C_X0_init (l := X.2.1) h0 htys) wic_0 wz_0 wl_RX11_66 wim_0 rfl wid_0 ⟨by rw [hr]; decide, by rw [hr]; decide⟩ ⟨by rw [hr]; exact Nat.le_of_ble_eq_true rfl, by rw [hr]; exact Nat.le_of_ble_eq_true rfl⟩ J26.1 l26 f26 g26 c26 rfl (fun i x h => match i, h with | 0, h => by cases h; exact ⟨_, rfl, Or.inr ⟨_, 2, rfl, List.mem_singleton.mpr rfl, tr27⟩⟩ | 1, h => by cases h; exact ⟨_, rfl, Or.inr ⟨_, 7, rfl, List.mem_singleton.mpr rfl, tr28⟩⟩ | n + 2, h => by cases h) rfl (by show 2 ≤ 8; decide) (fun H29 T29 hp29 => ?_)
  have J29 := zI_obj J26 h26 (by decide) (by decide) hp29
  have nb_29 : T29 H10.size = none := by rw [(hp29.2.2.2.2.1 _ lt_c22_26 (Nat.ne_of_lt lt_c22_25)).2]; exact nb_24
  have kc_c2_29 : H29[H3.size]? = H5[H3.size]? := Eq.trans (hp29.2.2.2.2.1 _ lt_c2_26 (Nat.ne_of_lt lt_c2_25)).1 kc_c2_26
  have lt_c2_29 : H3.size < H29.size := Nat.lt_of_lt_of_le lt_c2_26 hp29.2.2.2.2.2.1
  have kc_c20_29 : H29[H6.size]? = H7[H6.size]? := Eq.trans (hp29.2.2.2.2.1 _ lt_c20_26 (Nat.ne_of_lt lt_c20_25)).1 kc_c20_26
  have lt_c20_29 : H6.size < H29.size := Nat.lt_of_lt_of_le lt_c20_26 hp29.2.2.2.2.2.1
  have kc_c22_29 : H29[H10.size]? = H11[H10.size]? := Eq.trans (hp29.2.2.2.2.1 _ lt_c22_26 (Nat.ne_of_lt lt_c22_25)).1 kc_c22_26
  have lt_c22_29 : H10.size < H29.size := Nat.lt_of_lt_of_le lt_c22_26 hp29.2.2.2.2.2.1
  have zf_1_29 : (H29[a]?).bind (fun c => c.slots[g.2 11 1]?) = some (.ref H3.size) := by rw [(hp29.2.2.2.2.1 a (k_cell_lt J26.2.2.2.1) (Nat.ne_of_lt lta_26)).1]; exact zf_1_26
  have zf_2_29 : (H29[a]?).bind (fun c => c.slots[g.2 11 2]?) = some (.ref H6.size) := by rw [(hp29.2.2.2.2.1 a (k_cell_lt J26.2.2.2.1) (Nat.ne_of_lt lta_26)).1]; exact zf_2_26
  have zf_5_29 : (H29[a]?).bind (fun c => c.slots[g.2 11 5]?) = some (.ref H10.size) := by rw [(hp29.2.2.2.2.1 a (k_cell_lt J26.2.2.2.1) (Nat.ne_of_lt lta_26)).1]; exact zf_5_26
  have u1_29 := cp_u1 hp29 (by decide) (by decide) u1_24
  refine z_putF (k := 11) (ks := [.inr (.inr (.inl (false, [1]))), .inr (.inr (.inl (false, [2]))), .inr (.inr (.inl (false, [20]))), .inr (.inr (.inl (false, [21]))), .inl (0, 0), .inr (.inr (.inr ())), .inl (0, 0), .inl (0, 0), .inr (.inr (.inl (false, [5]))), .inr (.inr (.inl (false, [6]))), .inr (.inr (.inl (false, [7]))), .inr (.inr (.inl (true, []))), .inr (.inr (.inl (true, []))), .inr (.inr (.inl (true, [])))]) (x := .inr (.inr (.inl (false, [8])))) hC hin rfl rfl (hap_11 h0) hN_11 J29.2.2.2.1 hB (by decide) (Or.inr ⟨_, 8, rfl, List.mem_singleton.mpr rfl, hp29.2.2.2.1⟩) (fun r hr' => by cases hr'; exact ⟨rfl, rfl, tyX11_ok 11 (by decide)⟩) rfl rfl (fun H30 c30 s30 o30 z30 => ?_)
  have J30 : zI g tys B0 τ X.2.2.2.2.1.heap a 11 NT_11 [.inr (.inr (.inl (false, [1]))), .inr (.inr (.inl (false, [2]))), .inr (.inr (.inl (false, [20]))), .inr (.inr (.inl (false, [21]))), .inl (0, 0), .inr (.inr (.inr ())), .inl (0, 0), .inl (0, 0), .inr (.inr (.inl (false, [5]))), .inr (.inr (.inl (false, [6]))), .inr (.inr (.inl (false, [7]))), .inr (.inr (.inl (false, [8]))), .inr (.inr (.inl (true, []))), .inr (.inr (.inl (true, [])))] _ H30 := zI_put (k := 11) (x := .inr (.inr (.inl (false, [8])))) J29 c30 s30 o30
  have kc_c2_30 : H30[H3.size]? = H5[H3.size]? := Eq.trans (o30 _ ne_c2) kc_c2_29
  have lt_c2_30 : H3.size < H30.size := by rw [s30]; exact lt_c2_29
  have kc_c20_30 : H30[H6.size]? = H7[H6.size]? := Eq.trans (o30 _ ne_c20) kc_c20_29
  have lt_c20_30 : H6.size < H30.size := by rw [s30]; exact lt_c20_29
  have kc_c22_30 : H30[H10.size]? = H11[H10.size]? := Eq.trans (o30 _ ne_c22) kc_c22_29
  have lt_c22_30 : H10.size < H30.size := by rw [s30]; exact lt_c22_29
  have zf_1_30 : (H30[a]?).bind (fun c => c.slots[g.2 11 1]?) = some (.ref H3.size) := by rw [z30 1 (by decide), if_neg (by decide)]; exact zf_1_29
  have zf_2_30 : (H30[a]?).bind (fun c => c.slots[g.2 11 2]?) = some (.ref H6.size) := by rw [z30 2 (by decide), if_neg (by decide)]; exact zf_2_29
  have zf_5_30 : (H30[a]?).bind (fun c => c.slots[g.2 11 5]?) = some (.ref H10.size) := by rw [z30 5 (by decide), if_neg (by decide)]; exact zf_5_29
  refine z_lda hC rfl rfl rfl ?_
  refine z_new (τ := T29) (ci := 3) (C := RX3) (T := TX3) (N := 7) (ty := tyX3) hC rfl rfl gW3 tyX3_ok (z_dok3 _) wc_RX11_73 wn_3 wz_3 (by rw [hr]; exact Nat.le_of_ble_eq_true rfl) (by rw [hr]; exact Nat.le_of_ble_eq_true rfl) (fun H31 c31 s31 o31 => ?_)
  obtain ⟨J31, f31, g31, h31, l31⟩ := zI_new (H1 := H31) J30 s31 o31
  have kc_c2_31 : H31[H3.size]? = H5[H3.size]? := Eq.trans (o31 _ lt_c2_30) kc_c2_30
  have lt_c2_31 : H3.size < H31.size := by rw [s31]; exact Nat.lt_succ_of_lt lt_c2_30
  have kc_c20_31 : H31[H6.size]? = H7[H6.size]? := Eq.trans (o31 _ lt_c20_30) kc_c20_30
  have lt_c20_31 : H6.size < H31.size := by rw [s31]; exact Nat.lt_succ_of_lt lt_c20_30
  have kc_c22_31 : H31[H10.size]? = H11[H10.size]? := Eq.trans (o31 _ lt_c22_30) kc_c22_30
  have lt_c22_31 : H10.size < H31.size := by rw [s31]; exact Nat.lt_succ_of_lt lt_c22_30
  have zf_1_31 : (H31[a]?).bind (fun c => c.slots[g.2 11 1]?) = some (.ref H3.size) := by rw [o31 a (k_cell_lt J30.2.2.2.1)]; exact zf_1_30
  have zf_2_31 : (H31[a]?).bind (fun c => c.slots[g.2 11 2]?) = some (.ref H6.size) := by rw [o31 a (k_cell_lt J30.2.2.2.1)]; exact zf_2_30
  have zf_5_31 : (H31[a]?).bind (fun c => c.slots[g.2 11 5]?) = some (.ref H10.size) := by rw [o31 a (k_cell_lt J30.2.2.2.1)]; exact zf_5_30
  have lta_31 : a < H30.size := k_cell_lt J30.2.2.2.1
  refine z_dup hC rfl rfl ?_
  refine z_lda hC rfl rfl rfl ?_
  obtain ⟨w32, sl32, ok32⟩ := k_cell_at (k := 10) h0 hN_11 J31.2.2.2.1 rfl
  obtain ⟨r32, rfl, tr32⟩ := k_refOk (t := 7) ok32
  refine z_get hC rfl rfl J31.2.2.2.1 sl32 ?_
  refine z_init (b := H30.size) (As := [.ref r32]) (rest := [.ref H30.size, .ref a]) (rm := R_3) hC rfl (C_X3_init (l := X.2.1) h0 htys) wic_3 wz_3 wl_RX11_75 wim_3 rfl wid_3 ⟨by rw [hr]; decide, by rw [hr]; decide⟩ ⟨by rw [hr]; exact Nat.le_of_ble_eq_true rfl, by rw [hr]; exact Nat.le_of_ble_eq_true rfl⟩ J31.1 l31 f31 g31 c31 rfl (fun i x h => match i, h with | 0, h => by cases h; exact ⟨_, rfl, Or.inr ⟨_, 7, rfl, List.mem_singleton.mpr rfl, tr32⟩⟩ | n + 1, h => by cases h) rfl (by show 2 ≤ 8; decide) (fun H33 T33 hp33 => ?_)
  have J33 := zI_obj J31 h31 (by decide) (by decide) hp33
  have nb_33 : T33 H10.size = none := by rw [(hp33.2.2.2.2.1 _ lt_c22_31 (Nat.ne_of_lt lt_c22_30)).2]; exact nb_29
  have kc_c2_33 : H33[H3.size]? = H5[H3.size]? := Eq.trans (hp33.2.2.2.2.1 _ lt_c2_31 (Nat.ne_of_lt lt_c2_30)).1 kc_c2_31
  have lt_c2_33 : H3.size < H33.size := Nat.lt_of_lt_of_le lt_c2_31 hp33.2.2.2.2.2.1
  have kc_c20_33 : H33[H6.size]? = H7[H6.size]? := Eq.trans (hp33.2.2.2.2.1 _ lt_c20_31 (Nat.ne_of_lt lt_c20_30)).1 kc_c20_31
  have lt_c20_33 : H6.size < H33.size := Nat.lt_of_lt_of_le lt_c20_31 hp33.2.2.2.2.2.1
  have kc_c22_33 : H33[H10.size]? = H11[H10.size]? := Eq.trans (hp33.2.2.2.2.1 _ lt_c22_31 (Nat.ne_of_lt lt_c22_30)).1 kc_c22_31
  have lt_c22_33 : H10.size < H33.size := Nat.lt_of_lt_of_le lt_c22_31 hp33.2.2.2.2.2.1
  have zf_1_33 : (H33[a]?).bind (fun c => c.slots[g.2 11 1]?) = some (.ref H3.size) := by rw [(hp33.2.2.2.2.1 a (k_cell_lt J31.2.2.2.1) (Nat.ne_of_lt lta_31)).1]; exact zf_1_31
  have zf_2_33 : (H33[a]?).bind (fun c => c.slots[g.2 11 2]?) = some (.ref H6.size) := by rw [(hp33.2.2.2.2.1 a (k_cell_lt J31.2.2.2.1) (Nat.ne_of_lt lta_31)).1]; exact zf_2_31
  have zf_5_33 : (H33[a]?).bind (fun c => c.slots[g.2 11 5]?) = some (.ref H10.size) := by rw [(hp33.2.2.2.2.1 a (k_cell_lt J31.2.2.2.1) (Nat.ne_of_lt lta_31)).1]; exact zf_5_31
  have u1_33 := cp_u1 hp33 (by decide) (by decide) u1_29
  refine z_putF (k := 12) (ks := [.inr (.inr (.inl (false, [1]))), .inr (.inr (.inl (false, [2]))), .inr (.inr (.inl (false, [20]))), .inr (.inr (.inl (false, [21]))), .inl (0, 0), .inr (.inr (.inr ())), .inl (0, 0), .inl (0, 0), .inr (.inr (.inl (false, [5]))), .inr (.inr (.inl (false, [6]))), .inr (.inr (.inl (false, [7]))), .inr (.inr (.inl (false, [8]))), .inr (.inr (.inl (true, []))), .inr (.inr (.inl (true, [])))]) (x := .inr (.inr (.inl (false, [9])))) hC hin rfl rfl (hap_11 h0) hN_11 J33.2.2.2.1 hB (by decide) (Or.inr ⟨_, 9, rfl, List.mem_singleton.mpr rfl, hp33.2.2.2.1⟩) (fun r hr' => by cases hr'; exact ⟨rfl, rfl, tyX11_ok 12 (by decide)⟩) rfl rfl (fun H34 c34 s34 o34 z34 => ?_)
  have J34 : zI g tys B0 τ X.2.2.2.2.1.heap a 11 NT_11 [.inr (.inr (.inl (false, [1]))), .inr (.inr (.inl (false, [2]))), .inr (.inr (.inl (false, [20]))), .inr (.inr (.inl (false, [21]))), .inl (0, 0), .inr (.inr (.inr ())), .inl (0, 0), .inl (0, 0), .inr (.inr (.inl (false, [5]))), .inr (.inr (.inl (false, [6]))), .inr (.inr (.inl (false, [7]))), .inr (.inr (.inl (false, [8]))), .inr (.inr (.inl (false, [9]))), .inr (.inr (.inl (true, [])))] _ H34 := zI_put (k := 12) (x := .inr (.inr (.inl (false, [9])))) J33 c34 s34 o34
  have kc_c2_34 : H34[H3.size]? = H5[H3.size]? := Eq.trans (o34 _ ne_c2) kc_c2_33
  have lt_c2_34 : H3.size < H34.size := by rw [s34]; exact lt_c2_33
  have kc_c20_34 : H34[H6.size]? = H7[H6.size]? := Eq.trans (o34 _ ne_c20) kc_c20_33
  have lt_c20_34 : H6.size < H34.size := by rw [s34]; exact lt_c20_33
  have kc_c22_34 : H34[H10.size]? = H11[H10.size]? := Eq.trans (o34 _ ne_c22) kc_c22_33
  have lt_c22_34 : H10.size < H34.size := by rw [s34]; exact lt_c22_33
  have zf_1_34 : (H34[a]?).bind (fun c => c.slots[g.2 11 1]?) = some (.ref H3.size) := by rw [z34 1 (by decide), if_neg (by decide)]; exact zf_1_33
  have zf_2_34 : (H34[a]?).bind (fun c => c.slots[g.2 11 2]?) = some (.ref H6.size) := by rw [z34 2 (by decide), if_neg (by decide)]; exact zf_2_33
  have zf_5_34 : (H34[a]?).bind (fun c => c.slots[g.2 11 5]?) = some (.ref H10.size) := by rw [z34 5 (by decide), if_neg (by decide)]; exact zf_5_33
  refine z_lda hC rfl rfl rfl ?_
  refine z_new (τ := T33) (ci := 2) (C := RX2) (T := TX2) (N := 10) (ty := tyX2) hC rfl rfl gW2 tyX2_ok (z_dok2 _) wc_RX11_82 wn_2 wz_2 (by rw [hr]; exact Nat.le_of_ble_eq_true rfl) (by rw [hr]; exact Nat.le_of_ble_eq_true rfl) (fun H35 c35 s35 o35 => ?_)
  obtain ⟨J35, f35, g35, h35, l35⟩ := zI_new (H1 := H35) J34 s35 o35
  have kc_c2_35 : H35[H3.size]? = H5[H3.size]? := Eq.trans (o35 _ lt_c2_34) kc_c2_34
  have lt_c2_35 : H3.size < H35.size := by rw [s35]; exact Nat.lt_succ_of_lt lt_c2_34
  have kc_c20_35 : H35[H6.size]? = H7[H6.size]? := Eq.trans (o35 _ lt_c20_34) kc_c20_34
  have lt_c20_35 : H6.size < H35.size := by rw [s35]; exact Nat.lt_succ_of_lt lt_c20_34
  have kc_c22_35 : H35[H10.size]? = H11[H10.size]? := Eq.trans (o35 _ lt_c22_34) kc_c22_34
  have lt_c22_35 : H10.size < H35.size := by rw [s35]; exact Nat.lt_succ_of_lt lt_c22_34
  have zf_1_35 : (H35[a]?).bind (fun c => c.slots[g.2 11 1]?) = some (.ref H3.size) := by rw [o35 a (k_cell_lt J34.2.2.2.1)]; exact zf_1_34
  have zf_2_35 : (H35[a]?).bind (fun c => c.slots[g.2 11 2]?) = some (.ref H6.size) := by rw [o35 a (k_cell_lt J34.2.2.2.1)]; exact zf_2_34
  have zf_5_35 : (H35[a]?).bind (fun c => c.slots[g.2 11 5]?) = some (.ref H10.size) := by rw [o35 a (k_cell_lt J34.2.2.2.1)]; exact zf_5_34
  have lta_35 : a < H34.size := k_cell_lt J34.2.2.2.1
  refine z_dup hC rfl rfl ?_
  refine z_lda hC rfl rfl rfl ?_
  obtain ⟨w36, sl36, ok36⟩ := k_cell_at (k := 1) h0 hN_11 J35.2.2.2.1 rfl
  obtain ⟨r36, rfl, tr36⟩ := k_refOk (t := 2) ok36
  refine z_get hC rfl rfl J35.2.2.2.1 sl36 ?_
  refine z_lda hC rfl rfl rfl ?_
  obtain ⟨w37, sl37, ok37⟩ := k_cell_at (k := 10) h0 hN_11 J35.2.2.2.1 rfl
  obtain ⟨r37, rfl, tr37⟩ := k_refOk (t := 7) ok37
  refine z_get hC rfl rfl J35.2.2.2.1 sl37 ?_
  refine z_init (b := H34.size) (As := [.ref r36, .ref r37]) (rest := [.ref H34.size, .ref a]) (rm := R_2) hC rfl (C_X2_init (l := X.2.1) h0 htys) wic_2 wz_2 wl_RX11_84 wim_2 rfl wid_2 ⟨by rw [hr]; decide, by rw [hr]; decide⟩ ⟨by rw [hr]; exact Nat.le_of_ble_eq_true rfl, by rw [hr]; exact Nat.le_of_ble_eq_true rfl⟩ J35.1 l35 f35 g35 c35 rfl (fun i x h => match i, h with | 0, h => by cases h; exact ⟨_, rfl, Or.inr ⟨_, 2, rfl, List.mem_singleton.mpr rfl, tr36⟩⟩ | 1, h => by cases h; exact ⟨_, rfl, Or.inr ⟨_, 7, rfl, List.mem_singleton.mpr rfl, tr37⟩⟩ | n + 2, h => by cases h) rfl (by show 2 ≤ 8; decide) (fun H38 T38 hp38 => ?_)
  have J38 := zI_obj J35 h35 (by decide) (by decide) hp38
  have nb_38 : T38 H10.size = none := by rw [(hp38.2.2.2.2.1 _ lt_c22_35 (Nat.ne_of_lt lt_c22_34)).2]; exact nb_33
  have kc_c2_38 : H38[H3.size]? = H5[H3.size]? := Eq.trans (hp38.2.2.2.2.1 _ lt_c2_35 (Nat.ne_of_lt lt_c2_34)).1 kc_c2_35
  have lt_c2_38 : H3.size < H38.size := Nat.lt_of_lt_of_le lt_c2_35 hp38.2.2.2.2.2.1
  have kc_c20_38 : H38[H6.size]? = H7[H6.size]? := Eq.trans (hp38.2.2.2.2.1 _ lt_c20_35 (Nat.ne_of_lt lt_c20_34)).1 kc_c20_35
  have lt_c20_38 : H6.size < H38.size := Nat.lt_of_lt_of_le lt_c20_35 hp38.2.2.2.2.2.1
  have kc_c22_38 : H38[H10.size]? = H11[H10.size]? := Eq.trans (hp38.2.2.2.2.1 _ lt_c22_35 (Nat.ne_of_lt lt_c22_34)).1 kc_c22_35
  have lt_c22_38 : H10.size < H38.size := Nat.lt_of_lt_of_le lt_c22_35 hp38.2.2.2.2.2.1
  have zf_1_38 : (H38[a]?).bind (fun c => c.slots[g.2 11 1]?) = some (.ref H3.size) := by rw [(hp38.2.2.2.2.1 a (k_cell_lt J35.2.2.2.1) (Nat.ne_of_lt lta_35)).1]; exact zf_1_35
  have zf_2_38 : (H38[a]?).bind (fun c => c.slots[g.2 11 2]?) = some (.ref H6.size) := by rw [(hp38.2.2.2.2.1 a (k_cell_lt J35.2.2.2.1) (Nat.ne_of_lt lta_35)).1]; exact zf_2_35
  have zf_5_38 : (H38[a]?).bind (fun c => c.slots[g.2 11 5]?) = some (.ref H10.size) := by rw [(hp38.2.2.2.2.1 a (k_cell_lt J35.2.2.2.1) (Nat.ne_of_lt lta_35)).1]; exact zf_5_35
  have u1_38 := cp_u1 hp38 (by decide) (by decide) u1_33
  refine z_putF (k := 13) (ks := [.inr (.inr (.inl (false, [1]))), .inr (.inr (.inl (false, [2]))), .inr (.inr (.inl (false, [20]))), .inr (.inr (.inl (false, [21]))), .inl (0, 0), .inr (.inr (.inr ())), .inl (0, 0), .inl (0, 0), .inr (.inr (.inl (false, [5]))), .inr (.inr (.inl (false, [6]))), .inr (.inr (.inl (false, [7]))), .inr (.inr (.inl (false, [8]))), .inr (.inr (.inl (false, [9]))), .inr (.inr (.inl (true, [])))]) (x := .inr (.inr (.inl (false, [10])))) hC hin rfl rfl (hap_11 h0) hN_11 J38.2.2.2.1 hB (by decide) (Or.inr ⟨_, 10, rfl, List.mem_singleton.mpr rfl, hp38.2.2.2.1⟩) (fun r hr' => by cases hr'; exact ⟨rfl, rfl, tyX11_ok 13 (by decide)⟩) rfl rfl (fun H39 c39 s39 o39 z39 => ?_)
  have J39 : zI g tys B0 τ X.2.2.2.2.1.heap a 11 NT_11 [.inr (.inr (.inl (false, [1]))), .inr (.inr (.inl (false, [2]))), .inr (.inr (.inl (false, [20]))), .inr (.inr (.inl (false, [21]))), .inl (0, 0), .inr (.inr (.inr ())), .inl (0, 0), .inl (0, 0), .inr (.inr (.inl (false, [5]))), .inr (.inr (.inl (false, [6]))), .inr (.inr (.inl (false, [7]))), .inr (.inr (.inl (false, [8]))), .inr (.inr (.inl (false, [9]))), .inr (.inr (.inl (false, [10])))] _ H39 := zI_put (k := 13) (x := .inr (.inr (.inl (false, [10])))) J38 c39 s39 o39
  have kc_c2_39 : H39[H3.size]? = H5[H3.size]? := Eq.trans (o39 _ ne_c2) kc_c2_38
  have lt_c2_39 : H3.size < H39.size := by rw [s39]; exact lt_c2_38
  have kc_c20_39 : H39[H6.size]? = H7[H6.size]? := Eq.trans (o39 _ ne_c20) kc_c20_38
  have lt_c20_39 : H6.size < H39.size := by rw [s39]; exact lt_c20_38
  have kc_c22_39 : H39[H10.size]? = H11[H10.size]? := Eq.trans (o39 _ ne_c22) kc_c22_38
  have lt_c22_39 : H10.size < H39.size := by rw [s39]; exact lt_c22_38
  have zf_1_39 : (H39[a]?).bind (fun c => c.slots[g.2 11 1]?) = some (.ref H3.size) := by rw [z39 1 (by decide), if_neg (by decide)]; exact zf_1_38
  have zf_2_39 : (H39[a]?).bind (fun c => c.slots[g.2 11 2]?) = some (.ref H6.size) := by rw [z39 2 (by decide), if_neg (by decide)]; exact zf_2_38
  have zf_5_39 : (H39[a]?).bind (fun c => c.slots[g.2 11 5]?) = some (.ref H10.size) := by rw [z39 5 (by decide), if_neg (by decide)]; exact zf_5_38
  obtain ⟨vd, sd, xd, rfl, xd1, xd2⟩ := k_cell_at (k := 5) h0 hN_10 hp5.2.2.2.2.2.2 rfl
  have hxd : xd = 0 := Int32.toInt_inj.mp (Int.le_antisymm xd2 xd1)
  subst hxd
  have nwb : H3.size ≠ H10.size := Nat.ne_of_lt lt_c2_10
  have nib : H6.size ≠ H10.size := Nat.ne_of_lt lt_c20_10
  have hbl0 : X.2.2.2.2.1.heap.size ≤ H10.size := J10.2.2.2.2.2.2.1
  have hblB : B0 ≤ H10.size := Nat.le_trans J10.2.2.2.2.2.2.2.1 hbl0
  have hlim : (Int32.ofInt 20).toInt = 20 := i_of (by decide) (by decide)
  have z0 : (Int32.ofInt 0).toInt = 0 := i_of (by decide) (by decide)
  have hti : tys[4]? = some (cA11, .object RX6) := t11
  have loop : ∀ (m i : Nat) (x : Int32) (τ1 : kTau) (H : Heap) (f : Nat → Value), m + i = 20 → x.toInt = (i : Int) → zI g tys B0 τ X.2.2.2.2.1.heap a 11 NT_11 [.inr (.inr (.inl (false, [1]))), .inr (.inr (.inl (false, [2]))), .inr (.inr (.inl (false, [20]))), .inr (.inr (.inl (false, [21]))), .inl (0, 0), .inr (.inr (.inr ())), .inl (0, 0), .inl (0, 0), .inr (.inr (.inl (false, [5]))), .inr (.inr (.inl (false, [6]))), .inr (.inr (.inl (false, [7]))), .inr (.inr (.inl (false, [8]))), .inr (.inr (.inl (false, [9]))), .inr (.inr (.inl (false, [10])))] τ1 H → (H[a]?).bind (fun c => c.slots[g.2 11 5]?) = some (.ref H10.size) → τ1 H10.size = none → H39.size ≤ H.size → (∀ q, q < H39.size → q ≠ H10.size → H[q]? = H39[q]?) → H[H10.size]? = some (arrV cA11 20 f) → (∀ d, d < i → ∃ s, f d = .ref s ∧ τ1 s = some 4) → (∀ q, τ1 q = some 1 → τ q = some 1 ∨ q = X.2.2.2.2.1.heap.size) → kz X B0 (85 + 5 * i) (3165 + 33 * i) H 156 2 [(1, .int x), (0, .ref a)] [] := by
    intro m
    induction m with
    | zero =>
      intro i x τ1 H f hmi hx hI hsl hbn hsz hfr hcell hf hu1
      refine z_ldi hC rfl rfl rfl ?_
      refine z_cst hC rfl rfl ?_
      refine z_icmp (t := 181) hC rfl (by decide) (fun _ => ?_) (fun z => absurd (show (Int32.ofInt 20).toInt ≤ x.toInt by rw [hlim]; omega) z)
      have hi : i = 20 := by omega
      subst hi
      have J := zI_raw (ks := [.inr (.inr (.inl (false, [1]))), .inr (.inr (.inl (false, [2]))), .inr (.inr (.inl (false, [20]))), .inr (.inr (.inl (false, [21]))), .inl (0, 0), .inr (.inr (.inr ())), .inl (0, 0), .inl (0, 0), .inr (.inr (.inl (false, [5]))), .inr (.inr (.inl (false, [6]))), .inr (.inr (.inl (false, [7]))), .inr (.inr (.inl (false, [8]))), .inr (.inr (.inl (false, [9]))), .inr (.inr (.inl (false, [10])))]) (ci := 11) (k := 5) (t := 22) (u := 4) (ai := 4) (N := 20) h0 (hap_11 h0) hN_11 hI hbn hbl0 ne_c22 hblB (by decide) rfl hti hcell hf (by decide) hsl
      refine z_vret hC hret hQ rfl (by exact Nat.le_of_ble_eq_true rfl) (by exact Nat.le_of_ble_eq_true rfl) (zI_end (t := 0) J rfl (by decide) (by decide) (fun hle hat hcl => ?_))
      have hsa : H[a]? = H39[a]? := hfr a (k_cell_lt J39.2.2.2.1) (Ne.symm ne_c22)
      have zw : (H[a]?).bind (fun c => c.slots[g.2 11 1]?) = some (.ref H3.size) := by rw [hsa]; exact zf_1_39
      obtain ⟨v1, sv1, ov1⟩ := k_cell_at (k := 1) h0 hN_11 hcl rfl
      obtain ⟨w1, rfl, tw1⟩ := k_refOk (t := 2) ov1
      rw [zw] at sv1
      cases sv1
      refine ⟨hcl, ⟨_, zw, tw1, ?_⟩, ⟨_, cA7, by rw [hsa]; exact zf_2_39, ?_⟩, _, zt_u1 (by decide) (zt_u1 (by decide) hu1)⟩
      · rw [hfr _ lt_c2_39 nwb, kc_c2_39]; exact sd
      · rw [hfr _ lt_c20_39 nib, kc_c20_39]; exact e7
    | succ m ih =>
      intro i x τ1 H f hmi hx hI hsl hbn hsz hfr hcell hf hu1
      refine z_ldi hC rfl rfl rfl ?_
      refine z_cst hC rfl rfl ?_
      refine z_icmp (t := 181) hC rfl (by decide) (fun z => absurd z (show ¬ (Int32.ofInt 20).toInt ≤ x.toInt by rw [hlim]; omega)) (fun _ => ?_)
      refine z_lda hC rfl rfl rfl ?_
      refine z_get hC rfl rfl hI.2.2.2.1 hsl ?_
      refine z_ldi hC rfl rfl rfl ?_
      refine z_new (τ := τ1) (ci := 6) (C := RX6) (T := TX6) (N := 9) (ty := tyX6) hC rfl rfl gW6 tyX6_ok (z_dok6 _) wc_RX11_33 wn_6 wz_6 (by rw [hr]; show 85 + 5 * i + 1 ≤ 185; omega) (by rw [hr]; show 3165 + 33 * i + 9 ≤ 3825; omega) (fun H1 c1 s1 o1 => ?_)
      obtain ⟨J1, f1, g1, h1, l1⟩ := zI_new (H1 := H1) hI s1 o1
      refine z_dup hC rfl rfl ?_
      refine z_initN (b := H.size) (As := []) (rest := [.ref H.size, .int x, .ref H10.size]) (rm := R_6) hC rfl (C_X6_init (l := X.2.1) h0 htys) wic_6 wz_6 (List.mem_of_getElem? (i := 7) rfl) wim_6 rfl wid_6 ⟨by rw [hr]; decide, by rw [hr]; decide⟩ ⟨by rw [hr]; show 85 + 5 * i + 1 + 4 ≤ 185; omega, by rw [hr]; show 3165 + 33 * i + 9 + 24 ≤ 3825; omega⟩ J1.1 l1 f1 g1 c1 rfl (fun i x h => by cases h) rfl (by show 3 ≤ 8; decide) (fun H2 T2 hp2 => ?_)
      have J2 := zI_obj J1 h1 (by decide) (by decide) hp2
      have hb1 : H10.size < H.size := (Array.getElem?_eq_some_iff.mp hcell).1
      have ha1 : a < H.size := k_cell_lt hI.2.2.2.1
      have hq2 : ∀ q, q < H.size → H2[q]? = H[q]? ∧ T2 q = τ1 q := fun q hq => by have h5 := hp2.2.2.2.2.1 q (by omega) (by omega); exact ⟨by rw [h5.1]; exact o1 q hq, h5.2⟩
      have hcell2 : H2[H10.size]? = some (arrV cA11 20 f) := by rw [(hq2 _ hb1).1]; exact hcell
      obtain ⟨-, dd, hdd, hcc⟩ := hp2.2.2.1 H.size 4 hp2.2.2.2.1
      have hdd : gTT[4]? = some dd := hdd
      cases hdd
      refine z_aast (ai := 4) (r := gC 6) hC rfl rfl hti hcell2 hcc ⟨by omega, by omega⟩ hblB (fun H3 e3 s3 o3 => ?_)
      have hsz2 : H1.size ≤ H2.size := hp2.2.2.2.2.2.1
      have J3 : zI g tys B0 τ X.2.2.2.2.1.heap a 11 NT_11 [.inr (.inr (.inl (false, [1]))), .inr (.inr (.inl (false, [2]))), .inr (.inr (.inl (false, [20]))), .inr (.inr (.inl (false, [21]))), .inl (0, 0), .inr (.inr (.inr ())), .inl (0, 0), .inl (0, 0), .inr (.inr (.inl (false, [5]))), .inr (.inr (.inl (false, [6]))), .inr (.inr (.inl (false, [7]))), .inr (.inr (.inl (false, [8]))), .inr (.inr (.inl (false, [9]))), .inr (.inr (.inl (false, [10])))] T2 H3 := zI_other J2 (by rw [(hq2 _ hb1).2]; exact hbn) hbl0 ne_c22 s3 o3
      have hx1 : (x + Int32.ofInt 1).toInt = ((i + 1 : Nat) : Int) := i_add (by rw [i_of (by decide) (by decide), hx]; omega) (by omega) (by omega)
      refine z_iinc hC rfl (m := 0) rfl (by decide) rfl ?_
      refine z_goto (t := 156) hC rfl (by decide) ?_
      refine ih (i + 1) _ T2 H3 _ (by omega) hx1 J3 (by rw [o3 a (Ne.symm ne_c22), (hq2 a ha1).1]; exact hsl) (by rw [(hq2 _ hb1).2]; exact hbn) (by omega) (fun q hq hne => by rw [o3 q hne, (hq2 q (by omega)).1]; exact hfr q hq hne) e3 (fun d hd => ?_) (cp_u1 hp2 (by decide) (by decide) hu1)
      have hxn : x.toInt.toNat = i := by omega
      rw [hxn]
      by_cases hdi : d = i
      · subst hdi; exact ⟨H.size, by simp [updV], hp2.2.2.2.1⟩
      · obtain ⟨s, q1, q2⟩ := hf d (by omega); exact ⟨s, by simp [updV, hdi]; exact q1, hp2.1 _ _ q2⟩
  refine z_cst hC rfl rfl ?_
  refine z_ist_n hC rfl (by decide) rfl ?_
  exact loop 20 0 _ _ H39 _ rfl z0 J39 zf_5_39 nb_38 (Nat.le_refl _) (fun _ _ _ => rfl) (by rw [kc_c22_39]; exact e11) (fun d hd => absurd hd (Nat.not_lt_zero d)) u1_38
