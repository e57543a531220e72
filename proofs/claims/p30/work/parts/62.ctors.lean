/-! ===== constructors ===== -/
def NT_6 : List Nat := [16]
def R_6 : Room := ⟨1, 4, 24, 14⟩
theorem C_X6_init {l : Launch} {g : va_G} {tys : List (ClassId × FieldType)} {B0 : Nat} {τ : kTau} (h0 : gE1 g) (htys : tys.map Prod.snd = gTyL) : c_Met l g tys B0 τ yX6_init cX6_init 1 6 (z_ks tyX6 9) [] 4 NT_6 (fun τ' H' b => k_cell (e0 g tys B0) τ' b H' (.inl (6, [.inr (.inr (.inl (false, [16]))), .inr (.inr (.inl (false, [16]))), .inr (.inr (.inl (false, [16]))), .inr (.inr (.inl (false, [16]))), .inl (0, 0), .inl (0, 0), .inl (0, 0), .inl ((-1), (-1)), .inl (0, 0)]))) R_6 := by
  refine z_met (I := I_X6_init) (FL := gFL6) h0 htys (by decide +kernel) rfl dec_X6_init (fun X hts => gFLk6 hts) (by decide) ?_
  intro X a As hl hr hC hin hret hQ hH hb hB hc hAl hA
  obtain rfl : As = [] := List.eq_nil_of_length_eq_zero hAl
  have hc : k_cell (e0 g tys B0) τ a X.2.2.2.2.1.heap (.inl (6, [.inr (.inr (.inl (true, []))), .inr (.inr (.inl (true, []))), .inr (.inr (.inl (true, []))), .inr (.inr (.inl (true, []))), .inl (0, 0), .inl (0, 0), .inl (0, 0), .inl (0, 0), .inl (0, 0)])) := hc
  have I0 : zI g tys B0 τ X.2.2.2.2.1.heap a 6 NT_6 [.inr (.inr (.inl (true, []))), .inr (.inr (.inl (true, []))), .inr (.inr (.inl (true, []))), .inr (.inr (.inl (true, []))), .inl (0, 0), .inl (0, 0), .inl (0, 0), .inl (0, 0), .inl (0, 0)] τ X.2.2.2.2.1.heap := zI_begin hH hb hB hc hC.2.2.2.2.1
  refine z_lda hC rfl rfl rfl ?_
  refine z_objinit hC rfl wlo_RX6_3 wo_inst wo_code (by rw [hr]; decide) (by rw [hr]; decide) ?_
  refine z_lda hC rfl rfl rfl ?_
  refine z_cst hC rfl rfl ?_
  refine z_newa (N := 6) (ai := 0) hC rfl rfl wa_int ⟨by decide, by decide, by decide, by decide⟩ (i_of (by decide) (by decide)) (by decide) (by rw [hr]; exact Nat.le_of_ble_eq_true rfl) (by rw [hr]; exact Nat.le_of_ble_eq_true rfl) (fun H1 cA1 t1 e1 s1 o1 => ?_)
  have J1 := zI_arr (t := 16) (H' := H1) I0 (by decide) rfl s1 o1 ⟨cA1, _, 6, (fun _ => .int 0), t1, e1, by decide, by decide, fun j hj => z_el0 (v := .int 0) (exc := []) (d := kA) (by decide) j⟩
  refine z_putF (k := 0) (ks := [.inr (.inr (.inl (true, []))), .inr (.inr (.inl (true, []))), .inr (.inr (.inl (true, []))), .inr (.inr (.inl (true, []))), .inl (0, 0), .inl (0, 0), .inl (0, 0), .inl (0, 0), .inl (0, 0)]) (x := .inr (.inr (.inl (false, [16])))) hC hin rfl rfl (hap_6 h0) hN_6 J1.2.2.2.1 hB (by decide) (Or.inr ⟨_, 16, rfl, List.mem_singleton.mpr rfl, zt_at⟩) (fun r hr' => by cases hr'; exact ⟨rfl, rfl, tyX6_ok 0 (by decide)⟩) rfl rfl (fun H2 c2 s2 o2 z2 => ?_)
  have J2 : zI g tys B0 τ X.2.2.2.2.1.heap a 6 NT_6 [.inr (.inr (.inl (false, [16]))), .inr (.inr (.inl (true, []))), .inr (.inr (.inl (true, []))), .inr (.inr (.inl (true, []))), .inl (0, 0), .inl (0, 0), .inl (0, 0), .inl (0, 0), .inl (0, 0)] _ H2 := zI_put (k := 0) (x := .inr (.inr (.inl (false, [16])))) J1 c2 s2 o2
  refine z_lda hC rfl rfl rfl ?_
  refine z_cst hC rfl rfl ?_
  refine z_newa (N := 6) (ai := 0) hC rfl rfl wa_int ⟨by decide, by decide, by decide, by decide⟩ (i_of (by decide) (by decide)) (by decide) (by rw [hr]; exact Nat.le_of_ble_eq_true rfl) (by rw [hr]; exact Nat.le_of_ble_eq_true rfl) (fun H3 cA3 t3 e3 s3 o3 => ?_)
  have J3 := zI_arr (t := 16) (H' := H3) J2 (by decide) rfl s3 o3 ⟨cA3, _, 6, (fun _ => .int 0), t3, e3, by decide, by decide, fun j hj => z_el0 (v := .int 0) (exc := []) (d := kA) (by decide) j⟩
  refine z_putF (k := 1) (ks := [.inr (.inr (.inl (false, [16]))), .inr (.inr (.inl (true, []))), .inr (.inr (.inl (true, []))), .inr (.inr (.inl (true, []))), .inl (0, 0), .inl (0, 0), .inl (0, 0), .inl (0, 0), .inl (0, 0)]) (x := .inr (.inr (.inl (false, [16])))) hC hin rfl rfl (hap_6 h0) hN_6 J3.2.2.2.1 hB (by decide) (Or.inr ⟨_, 16, rfl, List.mem_singleton.mpr rfl, zt_at⟩) (fun r hr' => by cases hr'; exact ⟨rfl, rfl, tyX6_ok 1 (by decide)⟩) rfl rfl (fun H4 c4 s4 o4 z4 => ?_)
  have J4 : zI g tys B0 τ X.2.2.2.2.1.heap a 6 NT_6 [.inr (.inr (.inl (false, [16]))), .inr (.inr (.inl (false, [16]))), .inr (.inr (.inl (true, []))), .inr (.inr (.inl (true, []))), .inl (0, 0), .inl (0, 0), .inl (0, 0), .inl (0, 0), .inl (0, 0)] _ H4 := zI_put (k := 1) (x := .inr (.inr (.inl (false, [16])))) J3 c4 s4 o4
  refine z_lda hC rfl rfl rfl ?_
  refine z_cst hC rfl rfl ?_
  refine z_newa (N := 6) (ai := 0) hC rfl rfl wa_int ⟨by decide, by decide, by decide, by decide⟩ (i_of (by decide) (by decide)) (by decide) (by rw [hr]; exact Nat.le_of_ble_eq_true rfl) (by rw [hr]; exact Nat.le_of_ble_eq_true rfl) (fun H5 cA5 t5 e5 s5 o5 => ?_)
  have J5 := zI_arr (t := 16) (H' := H5) J4 (by decide) rfl s5 o5 ⟨cA5, _, 6, (fun _ => .int 0), t5, e5, by decide, by decide, fun j hj => z_el0 (v := .int 0) (exc := []) (d := kA) (by decide) j⟩
  refine z_putF (k := 2) (ks := [.inr (.inr (.inl (false, [16]))), .inr (.inr (.inl (false, [16]))), .inr (.inr (.inl (true, []))), .inr (.inr (.inl (true, []))), .inl (0, 0), .inl (0, 0), .inl (0, 0), .inl (0, 0), .inl (0, 0)]) (x := .inr (.inr (.inl (false, [16])))) hC hin rfl rfl (hap_6 h0) hN_6 J5.2.2.2.1 hB (by decide) (Or.inr ⟨_, 16, rfl, List.mem_singleton.mpr rfl, zt_at⟩) (fun r hr' => by cases hr'; exact ⟨rfl, rfl, tyX6_ok 2 (by decide)⟩) rfl rfl (fun H6 c6 s6 o6 z6 => ?_)
  have J6 : zI g tys B0 τ X.2.2.2.2.1.heap a 6 NT_6 [.inr (.inr (.inl (false, [16]))), .inr (.inr (.inl (false, [16]))), .inr (.inr (.inl (false, [16]))), .inr (.inr (.inl (true, []))), .inl (0, 0), .inl (0, 0), .inl (0, 0), .inl (0, 0), .inl (0, 0)] _ H6 := zI_put (k := 2) (x := .inr (.inr (.inl (false, [16])))) J5 c6 s6 o6
  refine z_lda hC rfl rfl rfl ?_
  refine z_cst hC rfl rfl ?_
  refine z_newa (N := 6) (ai := 0) hC rfl rfl wa_int ⟨by decide, by decide, by decide, by decide⟩ (i_of (by decide) (by decide)) (by decide) (by rw [hr]; exact Nat.le_of_ble_eq_true rfl) (by rw [hr]; exact Nat.le_of_ble_eq_true rfl) (fun H7 cA7 t7 e7 s7 o7 => ?_)
  have J7 := zI_arr (t := 16) (H' := H7) J6 (by decide) rfl s7 o7 ⟨cA7, _, 6, (fun _ => .int 0), t7, e7, by decide, by decide, fun j hj => z_el0 (v := .int 0) (exc := []) (d := kA) (by decide) j⟩
  refine z_putF (k := 3) (ks := [.inr (.inr (.inl (false, [16]))), .inr (.inr (.inl (false, [16]))), .inr (.inr (.inl (false, [16]))), .inr (.inr (.inl (true, []))), .inl (0, 0), .inl (0, 0), .inl (0, 0), .inl (0, 0), .inl (0, 0)]) (x := .inr (.inr (.inl (false, [16])))) hC hin rfl rfl (hap_6 h0) hN_6 J7.2.2.2.1 hB (by decide) (Or.inr ⟨_, 16, rfl, List.mem_singleton.mpr rfl, zt_at⟩) (fun r hr' => by cases hr'; exact ⟨rfl, rfl, tyX6_ok 3 (by decide)⟩) rfl rfl (fun H8 c8 s8 o8 z8 => ?_)
  have J8 : zI g tys B0 τ X.2.2.2.2.1.heap a 6 NT_6 [.inr (.inr (.inl (false, [16]))), .inr (.inr (.inl (false, [16]))), .inr (.inr (.inl (false, [16]))), .inr (.inr (.inl (false, [16]))), .inl (0, 0), .inl (0, 0), .inl (0, 0), .inl (0, 0), .inl (0, 0)] _ H8 := zI_put (k := 3) (x := .inr (.inr (.inl (false, [16])))) J7 c8 s8 o8
  refine z_lda hC rfl rfl rfl ?_
  refine z_cst hC rfl rfl ?_
  refine z_put (k := 7) (ks := [.inr (.inr (.inl (false, [16]))), .inr (.inr (.inl (false, [16]))), .inr (.inr (.inl (false, [16]))), .inr (.inr (.inl (false, [16]))), .inl (0, 0), .inl (0, 0), .inl (0, 0), .inl (0, 0), .inl (0, 0)]) (x := .inl ((-1), (-1))) hC rfl rfl (hap_6 h0) hN_6 J8.2.2.2.1 hB (by decide) (⟨_, rfl, by rw [i_of (by decide) (by decide)]; exact ⟨Int.le_refl _, Int.le_refl _⟩⟩) (fun ty q0 _ _ _ => by obtain ⟨rfl⟩ := q0 rfl; exact ⟨rfl, rfl, by decide⟩) (fun H9 c9 s9 o9 z9 => ?_)
  have J9 : zI g tys B0 τ X.2.2.2.2.1.heap a 6 NT_6 [.inr (.inr (.inl (false, [16]))), .inr (.inr (.inl (false, [16]))), .inr (.inr (.inl (false, [16]))), .inr (.inr (.inl (false, [16]))), .inl (0, 0), .inl (0, 0), .inl (0, 0), .inl ((-1), (-1)), .inl (0, 0)] _ H9 := zI_put (k := 7) (x := .inl ((-1), (-1))) J8 c9 s9 o9
  exact z_vret hC hret hQ rfl (by exact Nat.le_of_ble_eq_true rfl) (by exact Nat.le_of_ble_eq_true rfl) (zI_end (t := 4) J9 rfl (by decide) (by decide) (fun _ _ h => h))
def NT_8 : List Nat := [16, 17]
def R_8 : Room := ⟨1, 5, 73, 14⟩
theorem C_X8_init {l : Launch} {g : va_G} {tys : List (ClassId × FieldType)} {B0 : Nat} {τ : kTau} (h0 : gE1 g) (htys : tys.map Prod.snd = gTyL) : c_Met l g tys B0 τ yX8_init cX8_init 1 8 (z_ks tyX8 9) [] 3 NT_8 (fun τ' H' b => k_cell (e0 g tys B0) τ' b H' (.inl (8, [.inl (0, 0), .inl (0, 0), .inl (0, 0), .inl (0, 0), .inr (.inr (.inl (false, [16]))), .inr (.inr (.inl (false, [16]))), .inr (.inr (.inl (false, [16]))), .inr (.inr (.inl (false, [16]))), .inr (.inr (.inl (false, [17])))]))) R_8 := by
  refine z_met (I := I_X8_init) (FL := gFL8) h0 htys (by decide +kernel) rfl dec_X8_init (fun X hts => gFLk8 hts) (by decide) ?_
  intro X a As hl hr hC hin hret hQ hH hb hB hc hAl hA
  obtain rfl : As = [] := List.eq_nil_of_length_eq_zero hAl
  have hc : k_cell (e0 g tys B0) τ a X.2.2.2.2.1.heap (.inl (8, [.inl (0, 0), .inl (0, 0), .inl (0, 0), .inl (0, 0), .inr (.inr (.inl (true, []))), .inr (.inr (.inl (true, []))), .inr (.inr (.inl (true, []))), .inr (.inr (.inl (true, []))), .inr (.inr (.inl (true, [])))])) := hc
  have I0 : zI g tys B0 τ X.2.2.2.2.1.heap a 8 NT_8 [.inl (0, 0), .inl (0, 0), .inl (0, 0), .inl (0, 0), .inr (.inr (.inl (true, []))), .inr (.inr (.inl (true, []))), .inr (.inr (.inl (true, []))), .inr (.inr (.inl (true, []))), .inr (.inr (.inl (true, [])))] τ X.2.2.2.2.1.heap := zI_begin hH hb hB hc hC.2.2.2.2.1
  refine z_lda hC rfl rfl rfl ?_
  refine z_objinit hC rfl wlo_RX8_3 wo_inst wo_code (by rw [hr]; decide) (by rw [hr]; decide) ?_
  refine z_lda hC rfl rfl rfl ?_
  refine z_cst hC rfl rfl ?_
  refine z_newa (N := 6) (ai := 0) hC rfl rfl wa_int ⟨by decide, by decide, by decide, by decide⟩ (i_of (by decide) (by decide)) (by decide) (by rw [hr]; exact Nat.le_of_ble_eq_true rfl) (by rw [hr]; exact Nat.le_of_ble_eq_true rfl) (fun H1 cA1 t1 e1 s1 o1 => ?_)
  have J1 := zI_arr (t := 16) (H' := H1) I0 (by decide) rfl s1 o1 ⟨cA1, _, 6, (fun _ => .int 0), t1, e1, by decide, by decide, fun j hj => z_el0 (v := .int 0) (exc := []) (d := kA) (by decide) j⟩
  refine z_putF (k := 4) (ks := [.inl (0, 0), .inl (0, 0), .inl (0, 0), .inl (0, 0), .inr (.inr (.inl (true, []))), .inr (.inr (.inl (true, []))), .inr (.inr (.inl (true, []))), .inr (.inr (.inl (true, []))), .inr (.inr (.inl (true, [])))]) (x := .inr (.inr (.inl (false, [16])))) hC hin rfl rfl (hap_8 h0) hN_8 J1.2.2.2.1 hB (by decide) (Or.inr ⟨_, 16, rfl, List.mem_singleton.mpr rfl, zt_at⟩) (fun r hr' => by cases hr'; exact ⟨rfl, rfl, tyX8_ok 4 (by decide)⟩) rfl rfl (fun H2 c2 s2 o2 z2 => ?_)
  have J2 : zI g tys B0 τ X.2.2.2.2.1.heap a 8 NT_8 [.inl (0, 0), .inl (0, 0), .inl (0, 0), .inl (0, 0), .inr (.inr (.inl (false, [16]))), .inr (.inr (.inl (true, []))), .inr (.inr (.inl (true, []))), .inr (.inr (.inl (true, []))), .inr (.inr (.inl (true, [])))] _ H2 := zI_put (k := 4) (x := .inr (.inr (.inl (false, [16])))) J1 c2 s2 o2
  refine z_lda hC rfl rfl rfl ?_
  refine z_cst hC rfl rfl ?_
  refine z_newa (N := 6) (ai := 0) hC rfl rfl wa_int ⟨by decide, by decide, by decide, by decide⟩ (i_of (by decide) (by decide)) (by decide) (by rw [hr]; exact Nat.le_of_ble_eq_true rfl) (by rw [hr]; exact Nat.le_of_ble_eq_true rfl) (fun H3 cA3 t3 e3 s3 o3 => ?_)
  have J3 := zI_arr (t := 16) (H' := H3) J2 (by decide) rfl s3 o3 ⟨cA3, _, 6, (fun _ => .int 0), t3, e3, by decide, by decide, fun j hj => z_el0 (v := .int 0) (exc := []) (d := kA) (by decide) j⟩
  refine z_putF (k := 5) (ks := [.inl (0, 0), .inl (0, 0), .inl (0, 0), .inl (0, 0), .inr (.inr (.inl (false, [16]))), .inr (.inr (.inl (true, []))), .inr (.inr (.inl (true, []))), .inr (.inr (.inl (true, []))), .inr (.inr (.inl (true, [])))]) (x := .inr (.inr (.inl (false, [16])))) hC hin rfl rfl (hap_8 h0) hN_8 J3.2.2.2.1 hB (by decide) (Or.inr ⟨_, 16, rfl, List.mem_singleton.mpr rfl, zt_at⟩) (fun r hr' => by cases hr'; exact ⟨rfl, rfl, tyX8_ok 5 (by decide)⟩) rfl rfl (fun H4 c4 s4 o4 z4 => ?_)
  have J4 : zI g tys B0 τ X.2.2.2.2.1.heap a 8 NT_8 [.inl (0, 0), .inl (0, 0), .inl (0, 0), .inl (0, 0), .inr (.inr (.inl (false, [16]))), .inr (.inr (.inl (false, [16]))), .inr (.inr (.inl (true, []))), .inr (.inr (.inl (true, []))), .inr (.inr (.inl (true, [])))] _ H4 := zI_put (k := 5) (x := .inr (.inr (.inl (false, [16])))) J3 c4 s4 o4
  refine z_lda hC rfl rfl rfl ?_
  refine z_cst hC rfl rfl ?_
  refine z_newa (N := 6) (ai := 0) hC rfl rfl wa_int ⟨by decide, by decide, by decide, by decide⟩ (i_of (by decide) (by decide)) (by decide) (by rw [hr]; exact Nat.le_of_ble_eq_true rfl) (by rw [hr]; exact Nat.le_of_ble_eq_true rfl) (fun H5 cA5 t5 e5 s5 o5 => ?_)
  have J5 := zI_arr (t := 16) (H' := H5) J4 (by decide) rfl s5 o5 ⟨cA5, _, 6, (fun _ => .int 0), t5, e5, by decide, by decide, fun j hj => z_el0 (v := .int 0) (exc := []) (d := kA) (by decide) j⟩
  refine z_putF (k := 6) (ks := [.inl (0, 0), .inl (0, 0), .inl (0, 0), .inl (0, 0), .inr (.inr (.inl (false, [16]))), .inr (.inr (.inl (false, [16]))), .inr (.inr (.inl (true, []))), .inr (.inr (.inl (true, []))), .inr (.inr (.inl (true, [])))]) (x := .inr (.inr (.inl (false, [16])))) hC hin rfl rfl (hap_8 h0) hN_8 J5.2.2.2.1 hB (by decide) (Or.inr ⟨_, 16, rfl, List.mem_singleton.mpr rfl, zt_at⟩) (fun r hr' => by cases hr'; exact ⟨rfl, rfl, tyX8_ok 6 (by decide)⟩) rfl rfl (fun H6 c6 s6 o6 z6 => ?_)
  have J6 : zI g tys B0 τ X.2.2.2.2.1.heap a 8 NT_8 [.inl (0, 0), .inl (0, 0), .inl (0, 0), .inl (0, 0), .inr (.inr (.inl (false, [16]))), .inr (.inr (.inl (false, [16]))), .inr (.inr (.inl (false, [16]))), .inr (.inr (.inl (true, []))), .inr (.inr (.inl (true, [])))] _ H6 := zI_put (k := 6) (x := .inr (.inr (.inl (false, [16])))) J5 c6 s6 o6
  refine z_lda hC rfl rfl rfl ?_
  refine z_cst hC rfl rfl ?_
  refine z_newa (N := 6) (ai := 0) hC rfl rfl wa_int ⟨by decide, by decide, by decide, by decide⟩ (i_of (by decide) (by decide)) (by decide) (by rw [hr]; exact Nat.le_of_ble_eq_true rfl) (by rw [hr]; exact Nat.le_of_ble_eq_true rfl) (fun H7 cA7 t7 e7 s7 o7 => ?_)
  have J7 := zI_arr (t := 16) (H' := H7) J6 (by decide) rfl s7 o7 ⟨cA7, _, 6, (fun _ => .int 0), t7, e7, by decide, by decide, fun j hj => z_el0 (v := .int 0) (exc := []) (d := kA) (by decide) j⟩
  refine z_putF (k := 7) (ks := [.inl (0, 0), .inl (0, 0), .inl (0, 0), .inl (0, 0), .inr (.inr (.inl (false, [16]))), .inr (.inr (.inl (false, [16]))), .inr (.inr (.inl (false, [16]))), .inr (.inr (.inl (true, []))), .inr (.inr (.inl (true, [])))]) (x := .inr (.inr (.inl (false, [16])))) hC hin rfl rfl (hap_8 h0) hN_8 J7.2.2.2.1 hB (by decide) (Or.inr ⟨_, 16, rfl, List.mem_singleton.mpr rfl, zt_at⟩) (fun r hr' => by cases hr'; exact ⟨rfl, rfl, tyX8_ok 7 (by decide)⟩) rfl rfl (fun H8 c8 s8 o8 z8 => ?_)
  have J8 : zI g tys B0 τ X.2.2.2.2.1.heap a 8 NT_8 [.inl (0, 0), .inl (0, 0), .inl (0, 0), .inl (0, 0), .inr (.inr (.inl (false, [16]))), .inr (.inr (.inl (false, [16]))), .inr (.inr (.inl (false, [16]))), .inr (.inr (.inl (false, [16]))), .inr (.inr (.inl (true, [])))] _ H8 := zI_put (k := 7) (x := .inr (.inr (.inl (false, [16])))) J7 c8 s8 o8
  refine z_lda hC rfl rfl rfl ?_
  refine z_cst hC rfl rfl ?_
  refine z_newa (N := 49) (ai := 0) hC rfl rfl wa_int ⟨by decide, by decide, by decide, by decide⟩ (i_of (by decide) (by decide)) (by decide) (by rw [hr]; exact Nat.le_of_ble_eq_true rfl) (by rw [hr]; exact Nat.le_of_ble_eq_true rfl) (fun H9 cA9 t9 e9 s9 o9 => ?_)
  have J9 := zI_arr (t := 17) (H' := H9) J8 (by decide) rfl s9 o9 ⟨cA9, _, 49, (fun _ => .int 0), t9, e9, by decide, by decide, fun j hj => z_el0 (v := .int 0) (exc := []) (d := kA) (by decide) j⟩
  refine z_putF (k := 8) (ks := [.inl (0, 0), .inl (0, 0), .inl (0, 0), .inl (0, 0), .inr (.inr (.inl (false, [16]))), .inr (.inr (.inl (false, [16]))), .inr (.inr (.inl (false, [16]))), .inr (.inr (.inl (false, [16]))), .inr (.inr (.inl (true, [])))]) (x := .inr (.inr (.inl (false, [17])))) hC hin rfl rfl (hap_8 h0) hN_8 J9.2.2.2.1 hB (by decide) (Or.inr ⟨_, 17, rfl, List.mem_singleton.mpr rfl, zt_at⟩) (fun r hr' => by cases hr'; exact ⟨rfl, rfl, tyX8_ok 8 (by decide)⟩) rfl rfl (fun H10 c10 s10 o10 z10 => ?_)
  have J10 : zI g tys B0 τ X.2.2.2.2.1.heap a 8 NT_8 [.inl (0, 0), .inl (0, 0), .inl (0, 0), .inl (0, 0), .inr (.inr (.inl (false, [16]))), .inr (.inr (.inl (false, [16]))), .inr (.inr (.inl (false, [16]))), .inr (.inr (.inl (false, [16]))), .inr (.inr (.inl (false, [17])))] _ H10 := zI_put (k := 8) (x := .inr (.inr (.inl (false, [17])))) J9 c10 s10 o10
  exact z_vret hC hret hQ rfl (by exact Nat.le_of_ble_eq_true rfl) (by exact Nat.le_of_ble_eq_true rfl) (zI_end (t := 3) J10 rfl (by decide) (by decide) (fun _ _ h => h))
def NT_7 : List Nat := [12, 13, 14, 15]
def R_7 : Room := ⟨1, 4, 1603, 14⟩
theorem C_X7_init {l : Launch} {g : va_G} {tys : List (ClassId × FieldType)} {B0 : Nat} {τ : kTau} (h0 : gE1 g) (htys : tys.map Prod.snd = gTyL) : c_Met l g tys B0 τ yX7_init cX7_init 1 7 (z_ks tyX7 7) [] 1 NT_7 (fun τ' H' b => k_cell (e0 g tys B0) τ' b H' (.inl (7, [.inr (.inr (.inl (false, [12]))), .inl (0, 0), .inr (.inr (.inl (false, [13]))), .inr (.inr (.inl (false, [14]))), .inr (.inr (.inl (false, [15]))), .inl (0, 0), .inl (0, 0)]))) R_7 := by
  refine z_met (I := I_X7_init) (FL := gFL7) h0 htys (by decide +kernel) rfl dec_X7_init (fun X hts => gFLk7 hts) (by decide) ?_
  intro X a As hl hr hC hin hret hQ hH hb hB hc hAl hA
  obtain rfl : As = [] := List.eq_nil_of_length_eq_zero hAl
  have hc : k_cell (e0 g tys B0) τ a X.2.2.2.2.1.heap (.inl (7, [.inr (.inr (.inl (true, []))), .inl (0, 0), .inr (.inr (.inl (true, []))), .inr (.inr (.inl (true, []))), .inr (.inr (.inl (true, []))), .inl (0, 0), .inl (0, 0)])) := hc
  have I0 : zI g tys B0 τ X.2.2.2.2.1.heap a 7 NT_7 [.inr (.inr (.inl (true, []))), .inl (0, 0), .inr (.inr (.inl (true, []))), .inr (.inr (.inl (true, []))), .inr (.inr (.inl (true, []))), .inl (0, 0), .inl (0, 0)] τ X.2.2.2.2.1.heap := zI_begin hH hb hB hc hC.2.2.2.2.1
  refine z_lda hC rfl rfl rfl ?_
  refine z_objinit hC rfl wlo_RX7_3 wo_inst wo_code (by rw [hr]; decide) (by rw [hr]; decide) ?_
  refine z_lda hC rfl rfl rfl ?_
  refine z_cst hC rfl rfl ?_
  refine z_newa (N := 400) (ai := 1) hC rfl rfl wa_byte ⟨by decide, by decide, by decide, by decide⟩ (i_of (by decide) (by decide)) (by decide) (by rw [hr]; exact Nat.le_of_ble_eq_true rfl) (by rw [hr]; exact Nat.le_of_ble_eq_true rfl) (fun H1 cA1 t1 e1 s1 o1 => ?_)
  have J1 := zI_arr (t := 12) (H' := H1) I0 (by decide) rfl s1 o1 ⟨cA1, _, 400, (fun _ => .int 0), t1, e1, by decide, by decide, fun j hj => z_el0 (v := .int 0) (exc := []) (d := .inl ((-128), 127)) (by decide) j⟩
  refine z_putF (k := 0) (ks := [.inr (.inr (.inl (true, []))), .inl (0, 0), .inr (.inr (.inl (true, []))), .inr (.inr (.inl (true, []))), .inr (.inr (.inl (true, []))), .inl (0, 0), .inl (0, 0)]) (x := .inr (.inr (.inl (false, [12])))) hC hin rfl rfl (hap_7 h0) hN_7 J1.2.2.2.1 hB (by decide) (Or.inr ⟨_, 12, rfl, List.mem_singleton.mpr rfl, zt_at⟩) (fun r hr' => by cases hr'; exact ⟨rfl, rfl, tyX7_ok 0 (by decide)⟩) rfl rfl (fun H2 c2 s2 o2 z2 => ?_)
  have J2 : zI g tys B0 τ X.2.2.2.2.1.heap a 7 NT_7 [.inr (.inr (.inl (false, [12]))), .inl (0, 0), .inr (.inr (.inl (true, []))), .inr (.inr (.inl (true, []))), .inr (.inr (.inl (true, []))), .inl (0, 0), .inl (0, 0)] _ H2 := zI_put (k := 0) (x := .inr (.inr (.inl (false, [12])))) J1 c2 s2 o2
  refine z_lda hC rfl rfl rfl ?_
  refine z_cst hC rfl rfl ?_
  refine z_newa (N := 401) (ai := 0) hC rfl rfl wa_int ⟨by decide, by decide, by decide, by decide⟩ (i_of (by decide) (by decide)) (by decide) (by rw [hr]; exact Nat.le_of_ble_eq_true rfl) (by rw [hr]; exact Nat.le_of_ble_eq_true rfl) (fun H3 cA3 t3 e3 s3 o3 => ?_)
  have J3 := zI_arr (t := 13) (H' := H3) J2 (by decide) rfl s3 o3 ⟨cA3, _, 401, (fun _ => .int 0), t3, e3, by decide, by decide, fun j hj => z_el0 (v := .int 0) (exc := []) (d := kA) (by decide) j⟩
  refine z_putF (k := 2) (ks := [.inr (.inr (.inl (false, [12]))), .inl (0, 0), .inr (.inr (.inl (true, []))), .inr (.inr (.inl (true, []))), .inr (.inr (.inl (true, []))), .inl (0, 0), .inl (0, 0)]) (x := .inr (.inr (.inl (false, [13])))) hC hin rfl rfl (hap_7 h0) hN_7 J3.2.2.2.1 hB (by decide) (Or.inr ⟨_, 13, rfl, List.mem_singleton.mpr rfl, zt_at⟩) (fun r hr' => by cases hr'; exact ⟨rfl, rfl, tyX7_ok 2 (by decide)⟩) rfl rfl (fun H4 c4 s4 o4 z4 => ?_)
  have J4 : zI g tys B0 τ X.2.2.2.2.1.heap a 7 NT_7 [.inr (.inr (.inl (false, [12]))), .inl (0, 0), .inr (.inr (.inl (false, [13]))), .inr (.inr (.inl (true, []))), .inr (.inr (.inl (true, []))), .inl (0, 0), .inl (0, 0)] _ H4 := zI_put (k := 2) (x := .inr (.inr (.inl (false, [13])))) J3 c4 s4 o4
  refine z_lda hC rfl rfl rfl ?_
  refine z_cst hC rfl rfl ?_
  refine z_newa (N := 401) (ai := 0) hC rfl rfl wa_int ⟨by decide, by decide, by decide, by decide⟩ (i_of (by decide) (by decide)) (by decide) (by rw [hr]; exact Nat.le_of_ble_eq_true rfl) (by rw [hr]; exact Nat.le_of_ble_eq_true rfl) (fun H5 cA5 t5 e5 s5 o5 => ?_)
  have J5 := zI_arr (t := 14) (H' := H5) J4 (by decide) rfl s5 o5 ⟨cA5, _, 401, (fun _ => .int 0), t5, e5, by decide, by decide, fun j hj => z_el0 (v := .int 0) (exc := []) (d := .inl (0, 400)) (by decide) j⟩
  refine z_putF (k := 3) (ks := [.inr (.inr (.inl (false, [12]))), .inl (0, 0), .inr (.inr (.inl (false, [13]))), .inr (.inr (.inl (true, []))), .inr (.inr (.inl (true, []))), .inl (0, 0), .inl (0, 0)]) (x := .inr (.inr (.inl (false, [14])))) hC hin rfl rfl (hap_7 h0) hN_7 J5.2.2.2.1 hB (by decide) (Or.inr ⟨_, 14, rfl, List.mem_singleton.mpr rfl, zt_at⟩) (fun r hr' => by cases hr'; exact ⟨rfl, rfl, tyX7_ok 3 (by decide)⟩) rfl rfl (fun H6 c6 s6 o6 z6 => ?_)
  have J6 : zI g tys B0 τ X.2.2.2.2.1.heap a 7 NT_7 [.inr (.inr (.inl (false, [12]))), .inl (0, 0), .inr (.inr (.inl (false, [13]))), .inr (.inr (.inl (false, [14]))), .inr (.inr (.inl (true, []))), .inl (0, 0), .inl (0, 0)] _ H6 := zI_put (k := 3) (x := .inr (.inr (.inl (false, [14])))) J5 c6 s6 o6
  refine z_lda hC rfl rfl rfl ?_
  refine z_cst hC rfl rfl ?_
  refine z_newa (N := 401) (ai := 0) hC rfl rfl wa_int ⟨by decide, by decide, by decide, by decide⟩ (i_of (by decide) (by decide)) (by decide) (by rw [hr]; exact Nat.le_of_ble_eq_true rfl) (by rw [hr]; exact Nat.le_of_ble_eq_true rfl) (fun H7 cA7 t7 e7 s7 o7 => ?_)
  have J7 := zI_arr (t := 15) (H' := H7) J6 (by decide) rfl s7 o7 ⟨cA7, _, 401, (fun _ => .int 0), t7, e7, by decide, by decide, fun j hj => z_el0 (v := .int 0) (exc := []) (d := kA) (by decide) j⟩
  refine z_putF (k := 4) (ks := [.inr (.inr (.inl (false, [12]))), .inl (0, 0), .inr (.inr (.inl (false, [13]))), .inr (.inr (.inl (false, [14]))), .inr (.inr (.inl (true, []))), .inl (0, 0), .inl (0, 0)]) (x := .inr (.inr (.inl (false, [15])))) hC hin rfl rfl (hap_7 h0) hN_7 J7.2.2.2.1 hB (by decide) (Or.inr ⟨_, 15, rfl, List.mem_singleton.mpr rfl, zt_at⟩) (fun r hr' => by cases hr'; exact ⟨rfl, rfl, tyX7_ok 4 (by decide)⟩) rfl rfl (fun H8 c8 s8 o8 z8 => ?_)
  have J8 : zI g tys B0 τ X.2.2.2.2.1.heap a 7 NT_7 [.inr (.inr (.inl (false, [12]))), .inl (0, 0), .inr (.inr (.inl (false, [13]))), .inr (.inr (.inl (false, [14]))), .inr (.inr (.inl (false, [15]))), .inl (0, 0), .inl (0, 0)] _ H8 := zI_put (k := 4) (x := .inr (.inr (.inl (false, [15])))) J7 c8 s8 o8
  exact z_vret hC hret hQ rfl (by exact Nat.le_of_ble_eq_true rfl) (by exact Nat.le_of_ble_eq_true rfl) (zI_end (t := 1) J8 rfl (by decide) (by decide) (fun _ _ h => h))
def NT_10 : List Nat := [3, 4, 16, 17, 18, 19]
def R_10 : Room := ⟨2, 13, 135, 34⟩
theorem C_X10_init {l : Launch} {g : va_G} {tys : List (ClassId × FieldType)} {B0 : Nat} {τ : kTau} (h0 : gE1 g) (htys : tys.map Prod.snd = gTyL) : c_Met l g tys B0 τ yX10_init cX10_init 1 10 (z_ks tyX10 7) [] 2 NT_10 (fun τ' H' b => k_cell (e0 g tys B0) τ' b H' (.inl (10, [.inr (.inr (.inl (false, [3]))), .inr (.inr (.inl (false, [4]))), .inr (.inr (.inl (false, [18]))), .inr (.inr (.inl (false, [19]))), .inl (0, 0), .inl (0, 0), .inl ((-1), (-1))]))) R_10 := by
  refine z_met (I := I_X10_init) (FL := gFL10) h0 htys (by decide +kernel) rfl dec_X10_init (fun X hts => gFLk10 hts) (by decide) ?_
  intro X a As hl hr hC hin hret hQ hH hb hB hc hAl hA
  obtain rfl : As = [] := List.eq_nil_of_length_eq_zero hAl
  have hc : k_cell (e0 g tys B0) τ a X.2.2.2.2.1.heap (.inl (10, [.inr (.inr (.inl (true, []))), .inr (.inr (.inl (true, []))), .inr (.inr (.inl (true, []))), .inr (.inr (.inl (true, []))), .inl (0, 0), .inl (0, 0), .inl (0, 0)])) := hc
  have I0 : zI g tys B0 τ X.2.2.2.2.1.heap a 10 NT_10 [.inr (.inr (.inl (true, []))), .inr (.inr (.inl (true, []))), .inr (.inr (.inl (true, []))), .inr (.inr (.inl (true, []))), .inl (0, 0), .inl (0, 0), .inl (0, 0)] τ X.2.2.2.2.1.heap := zI_begin hH hb hB hc hC.2.2.2.2.1
  refine z_lda hC rfl rfl rfl ?_
  refine z_objinit hC rfl wlo_RX10_3 wo_inst wo_code (by rw [hr]; decide) (by rw [hr]; decide) ?_
  refine z_lda hC rfl rfl rfl ?_
  refine z_new (τ := τ) (ci := 8) (C := RX8) (T := TX8) (N := 9) (ty := tyX8) hC rfl rfl gW8 tyX8_ok (z_dok8 _) wc_RX10_9 wn_8 wz_8 (by rw [hr]; exact Nat.le_of_ble_eq_true rfl) (by rw [hr]; exact Nat.le_of_ble_eq_true rfl) (fun H1 c1 s1 o1 => ?_)
  obtain ⟨J1, f1, g1, h1, l1⟩ := zI_new (H1 := H1) I0 s1 o1
  have lta_1 : a < X.2.2.2.2.1.heap.size := k_cell_lt I0.2.2.2.1
  refine z_dup hC rfl rfl ?_
  refine z_initN (b := X.2.2.2.2.1.heap.size) (As := []) (rest := [.ref X.2.2.2.2.1.heap.size, .ref a]) (rm := R_8) hC rfl (C_X8_init (l := X.2.1) h0 htys) wic_8 wz_8 (List.mem_of_getElem? (i := 2) rfl) wim_8 rfl wid_8 ⟨by rw [hr]; decide, by rw [hr]; decide⟩ ⟨by rw [hr]; exact Nat.le_of_ble_eq_true rfl, by rw [hr]; exact Nat.le_of_ble_eq_true rfl⟩ J1.1 l1 f1 g1 c1 rfl (fun i x h => by cases h) rfl (by show 2 ≤ 8; decide) (fun H2 T2 hp2 => ?_)
  have J2 := zI_obj J1 h1 (by decide) (by decide) hp2
  refine z_putF (k := 0) (ks := [.inr (.inr (.inl (true, []))), .inr (.inr (.inl (true, []))), .inr (.inr (.inl (true, []))), .inr (.inr (.inl (true, []))), .inl (0, 0), .inl (0, 0), .inl (0, 0)]) (x := .inr (.inr (.inl (false, [3])))) hC hin rfl rfl (hap_10 h0) hN_10 J2.2.2.2.1 hB (by decide) (Or.inr ⟨_, 3, rfl, List.mem_singleton.mpr rfl, hp2.2.2.2.1⟩) (fun r hr' => by cases hr'; exact ⟨rfl, rfl, tyX10_ok 0 (by decide)⟩) rfl rfl (fun H3 c3 s3 o3 z3 => ?_)
  have J3 : zI g tys B0 τ X.2.2.2.2.1.heap a 10 NT_10 [.inr (.inr (.inl (false, [3]))), .inr (.inr (.inl (true, []))), .inr (.inr (.inl (true, []))), .inr (.inr (.inl (true, []))), .inl (0, 0), .inl (0, 0), .inl (0, 0)] _ H3 := zI_put (k := 0) (x := .inr (.inr (.inl (false, [3])))) J2 c3 s3 o3
  refine z_lda hC rfl rfl rfl ?_
  refine z_new (τ := T2) (ci := 6) (C := RX6) (T := TX6) (N := 9) (ty := tyX6) hC rfl rfl gW6 tyX6_ok (z_dok6 _) wc_RX10_18 wn_6 wz_6 (by rw [hr]; exact Nat.le_of_ble_eq_true rfl) (by rw [hr]; exact Nat.le_of_ble_eq_true rfl) (fun H4 c4 s4 o4 => ?_)
  obtain ⟨J4, f4, g4, h4, l4⟩ := zI_new (H1 := H4) J3 s4 o4
  have lta_4 : a < H3.size := k_cell_lt J3.2.2.2.1
  refine z_dup hC rfl rfl ?_
  refine z_initN (b := H3.size) (As := []) (rest := [.ref H3.size, .ref a]) (rm := R_6) hC rfl (C_X6_init (l := X.2.1) h0 htys) wic_6 wz_6 (List.mem_of_getElem? (i := 3) rfl) wim_6 rfl wid_6 ⟨by rw [hr]; decide, by rw [hr]; decide⟩ ⟨by rw [hr]; exact Nat.le_of_ble_eq_true rfl, by rw [hr]; exact Nat.le_of_ble_eq_true rfl⟩ J4.1 l4 f4 g4 c4 rfl (fun i x h => by cases h) rfl (by show 2 ≤ 8; decide) (fun H5 T5 hp5 => ?_)
  have J5 := zI_obj J4 h4 (by decide) (by decide) hp5
  refine z_putF (k := 1) (ks := [.inr (.inr (.inl (false, [3]))), .inr (.inr (.inl (true, []))), .inr (.inr (.inl (true, []))), .inr (.inr (.inl (true, []))), .inl (0, 0), .inl (0, 0), .inl (0, 0)]) (x := .inr (.inr (.inl (false, [4])))) hC hin rfl rfl (hap_10 h0) hN_10 J5.2.2.2.1 hB (by decide) (Or.inr ⟨_, 4, rfl, List.mem_singleton.mpr rfl, hp5.2.2.2.1⟩) (fun r hr' => by cases hr'; exact ⟨rfl, rfl, tyX10_ok 1 (by decide)⟩) rfl rfl (fun H6 c6 s6 o6 z6 => ?_)
  have J6 : zI g tys B0 τ X.2.2.2.2.1.heap a 10 NT_10 [.inr (.inr (.inl (false, [3]))), .inr (.inr (.inl (false, [4]))), .inr (.inr (.inl (true, []))), .inr (.inr (.inl (true, []))), .inl (0, 0), .inl (0, 0), .inl (0, 0)] _ H6 := zI_put (k := 1) (x := .inr (.inr (.inl (false, [4])))) J5 c6 s6 o6
  refine z_lda hC rfl rfl rfl ?_
  refine z_cst hC rfl rfl ?_
  refine z_newa (N := 10) (ai := 0) hC rfl rfl wa_int ⟨by decide, by decide, by decide, by decide⟩ (i_of (by decide) (by decide)) (by decide) (by rw [hr]; exact Nat.le_of_ble_eq_true rfl) (by rw [hr]; exact Nat.le_of_ble_eq_true rfl) (fun H7 cA7 t7 e7 s7 o7 => ?_)
  have J7 := zI_arr (t := 18) (H' := H7) J6 (by decide) rfl s7 o7 ⟨cA7, _, 10, (fun _ => .int 0), t7, e7, by decide, by decide, fun j hj => z_el0 (v := .int 0) (exc := []) (d := .inl (0, 60)) (by decide) j⟩
  refine z_putF (k := 2) (ks := [.inr (.inr (.inl (false, [3]))), .inr (.inr (.inl (false, [4]))), .inr (.inr (.inl (true, []))), .inr (.inr (.inl (true, []))), .inl (0, 0), .inl (0, 0), .inl (0, 0)]) (x := .inr (.inr (.inl (false, [18])))) hC hin rfl rfl (hap_10 h0) hN_10 J7.2.2.2.1 hB (by decide) (Or.inr ⟨_, 18, rfl, List.mem_singleton.mpr rfl, zt_at⟩) (fun r hr' => by cases hr'; exact ⟨rfl, rfl, tyX10_ok 2 (by decide)⟩) rfl rfl (fun H8 c8 s8 o8 z8 => ?_)
  have J8 : zI g tys B0 τ X.2.2.2.2.1.heap a 10 NT_10 [.inr (.inr (.inl (false, [3]))), .inr (.inr (.inl (false, [4]))), .inr (.inr (.inl (false, [18]))), .inr (.inr (.inl (true, []))), .inl (0, 0), .inl (0, 0), .inl (0, 0)] _ H8 := zI_put (k := 2) (x := .inr (.inr (.inl (false, [18])))) J7 c8 s8 o8
  refine z_lda hC rfl rfl rfl ?_
  refine z_cst hC rfl rfl ?_
  refine z_newa (N := 10) (ai := 0) hC rfl rfl wa_int ⟨by decide, by decide, by decide, by decide⟩ (i_of (by decide) (by decide)) (by decide) (by rw [hr]; exact Nat.le_of_ble_eq_true rfl) (by rw [hr]; exact Nat.le_of_ble_eq_true rfl) (fun H9 cA9 t9 e9 s9 o9 => ?_)
  have J9 := zI_arr (t := 19) (H' := H9) J8 (by decide) rfl s9 o9 ⟨cA9, _, 10, (fun _ => .int 0), t9, e9, by decide, by decide, fun j hj => z_el0 (v := .int 0) (exc := []) (d := kA) (by decide) j⟩
  refine z_putF (k := 3) (ks := [.inr (.inr (.inl (false, [3]))), .inr (.inr (.inl (false, [4]))), .inr (.inr (.inl (false, [18]))), .inr (.inr (.inl (true, []))), .inl (0, 0), .inl (0, 0), .inl (0, 0)]) (x := .inr (.inr (.inl (false, [19])))) hC hin rfl rfl (hap_10 h0) hN_10 J9.2.2.2.1 hB (by decide) (Or.inr ⟨_, 19, rfl, List.mem_singleton.mpr rfl, zt_at⟩) (fun r hr' => by cases hr'; exact ⟨rfl, rfl, tyX10_ok 3 (by decide)⟩) rfl rfl (fun H10 c10 s10 o10 z10 => ?_)
  have J10 : zI g tys B0 τ X.2.2.2.2.1.heap a 10 NT_10 [.inr (.inr (.inl (false, [3]))), .inr (.inr (.inl (false, [4]))), .inr (.inr (.inl (false, [18]))), .inr (.inr (.inl (false, [19]))), .inl (0, 0), .inl (0, 0), .inl (0, 0)] _ H10 := zI_put (k := 3) (x := .inr (.inr (.inl (false, [19])))) J9 c10 s10 o10
  refine z_lda hC rfl rfl rfl ?_
  refine z_cst hC rfl rfl ?_
  refine z_put (k := 6) (ks := [.inr (.inr (.inl (false, [3]))), .inr (.inr (.inl (false, [4]))), .inr (.inr (.inl (false, [18]))), .inr (.inr (.inl (false, [19]))), .inl (0, 0), .inl (0, 0), .inl (0, 0)]) (x := .inl ((-1), (-1))) hC rfl rfl (hap_10 h0) hN_10 J10.2.2.2.1 hB (by decide) (⟨_, rfl, by rw [i_of (by decide) (by decide)]; exact ⟨Int.le_refl _, Int.le_refl _⟩⟩) (fun ty q0 _ _ _ => by obtain ⟨rfl⟩ := q0 rfl; exact ⟨rfl, rfl, by decide⟩) (fun H11 c11 s11 o11 z11 => ?_)
  have J11 : zI g tys B0 τ X.2.2.2.2.1.heap a 10 NT_10 [.inr (.inr (.inl (false, [3]))), .inr (.inr (.inl (false, [4]))), .inr (.inr (.inl (false, [18]))), .inr (.inr (.inl (false, [19]))), .inl (0, 0), .inl (0, 0), .inl ((-1), (-1))] _ H11 := zI_put (k := 6) (x := .inl ((-1), (-1))) J10 c11 s11 o11
  exact z_vret hC hret hQ rfl (by exact Nat.le_of_ble_eq_true rfl) (by exact Nat.le_of_ble_eq_true rfl) (zI_end (t := 2) J11 rfl (by decide) (by decide) (fun _ _ h => h))
def NT_9 : List Nat := [3, 16, 17]
def R_9 : Room := ⟨2, 6, 82, 34⟩
theorem C_X9_init {l : Launch} {g : va_G} {tys : List (ClassId × FieldType)} {B0 : Nat} {τ : kTau} (h0 : gE1 g) (htys : tys.map Prod.snd = gTyL) : c_Met l g tys B0 τ yX9_init cX9_init 2 9 (z_ks tyX9 2) [.inr (.inr (.inl (false, [1])))] 5 NT_9 (fun τ' H' b => k_cell (e0 g tys B0) τ' b H' (.inl (9, [.inr (.inr (.inl (false, [1]))), .inr (.inr (.inl (false, [3])))]))) R_9 := by
  refine z_met (I := I_X9_init) (FL := gFL9) h0 htys (by decide +kernel) rfl dec_X9_init (fun X hts => gFLk9 hts) (by decide) ?_
  intro X a As hl hr hC hin hret hQ hH hb hB hc hAl hA
  obtain ⟨p0, rfl, tp0⟩ := z_arg1 hAl hA
  have hc : k_cell (e0 g tys B0) τ a X.2.2.2.2.1.heap (.inl (9, [.inr (.inr (.inl (true, []))), .inr (.inr (.inl (true, [])))])) := hc
  have I0 : zI g tys B0 τ X.2.2.2.2.1.heap a 9 NT_9 [.inr (.inr (.inl (true, []))), .inr (.inr (.inl (true, [])))] τ X.2.2.2.2.1.heap := zI_begin hH hb hB hc hC.2.2.2.2.1
  refine z_lda hC rfl rfl rfl ?_
  refine z_objinit hC rfl wlo_RX9_3 wo_inst wo_code (by rw [hr]; decide) (by rw [hr]; decide) ?_
  refine z_lda hC rfl rfl rfl ?_
  refine z_new (τ := τ) (ci := 8) (C := RX8) (T := TX8) (N := 9) (ty := tyX8) hC rfl rfl gW8 tyX8_ok (z_dok8 _) wc_RX9_9 wn_8 wz_8 (by rw [hr]; exact Nat.le_of_ble_eq_true rfl) (by rw [hr]; exact Nat.le_of_ble_eq_true rfl) (fun H1 c1 s1 o1 => ?_)
  obtain ⟨J1, f1, g1, h1, l1⟩ := zI_new (H1 := H1) I0 s1 o1
  have lta_1 : a < X.2.2.2.2.1.heap.size := k_cell_lt I0.2.2.2.1
  refine z_dup hC rfl rfl ?_
  refine z_initN (b := X.2.2.2.2.1.heap.size) (As := []) (rest := [.ref X.2.2.2.2.1.heap.size, .ref a]) (rm := R_8) hC rfl (C_X8_init (l := X.2.1) h0 htys) wic_8 wz_8 (List.mem_of_getElem? (i := 4) rfl) wim_8 rfl wid_8 ⟨by rw [hr]; decide, by rw [hr]; decide⟩ ⟨by rw [hr]; exact Nat.le_of_ble_eq_true rfl, by rw [hr]; exact Nat.le_of_ble_eq_true rfl⟩ J1.1 l1 f1 g1 c1 rfl (fun i x h => by cases h) rfl (by show 2 ≤ 8; decide) (fun H2 T2 hp2 => ?_)
  have J2 := zI_obj J1 h1 (by decide) (by decide) hp2
  refine z_putF (k := 1) (ks := [.inr (.inr (.inl (true, []))), .inr (.inr (.inl (true, [])))]) (x := .inr (.inr (.inl (false, [3])))) hC hin rfl rfl (hap_9 h0) hN_9 J2.2.2.2.1 hB (by decide) (Or.inr ⟨_, 3, rfl, List.mem_singleton.mpr rfl, hp2.2.2.2.1⟩) (fun r hr' => by cases hr'; exact ⟨rfl, rfl, tyX9_ok 1 (by decide)⟩) rfl rfl (fun H3 c3 s3 o3 z3 => ?_)
  have J3 : zI g tys B0 τ X.2.2.2.2.1.heap a 9 NT_9 [.inr (.inr (.inl (true, []))), .inr (.inr (.inl (false, [3])))] _ H3 := zI_put (k := 1) (x := .inr (.inr (.inl (false, [3])))) J2 c3 s3 o3
  refine z_lda hC rfl rfl rfl ?_
  refine z_lda hC rfl rfl rfl ?_
  refine z_putF (k := 0) (ks := [.inr (.inr (.inl (true, []))), .inr (.inr (.inl (false, [3])))]) (x := .inr (.inr (.inl (false, [1])))) hC hin rfl rfl (hap_9 h0) hN_9 J3.2.2.2.1 hB (by decide) (Or.inr ⟨_, 1, rfl, List.mem_singleton.mpr rfl, J3.2.1 _ _ tp0⟩) (fun r hr' => by cases hr'; exact ⟨rfl, rfl, tyX9_ok 0 (by decide)⟩) rfl rfl (fun H4 c4 s4 o4 z4 => ?_)
  have J4 : zI g tys B0 τ X.2.2.2.2.1.heap a 9 NT_9 [.inr (.inr (.inl (false, [1]))), .inr (.inr (.inl (false, [3])))] _ H4 := zI_put (k := 0) (x := .inr (.inr (.inl (false, [1])))) J3 c4 s4 o4
  exact z_vret hC hret hQ rfl (by exact Nat.le_of_ble_eq_true rfl) (by exact Nat.le_of_ble_eq_true rfl) (zI_end (t := 5) J4 rfl (by decide) (by decide) (fun _ _ h => h))
def NT_5 : List Nat := [23, 24]
def R_5 : Room := ⟨1, 2, 425, 14⟩
theorem C_X5_init {l : Launch} {g : va_G} {tys : List (ClassId × FieldType)} {B0 : Nat} {τ : kTau} (h0 : gE1 g) (htys : tys.map Prod.snd = gTyL) : c_Met l g tys B0 τ yX5_init cX5_init 2 5 (z_ks tyX5 6) [.inr (.inr (.inl (false, [1])))] 6 NT_5 (fun τ' H' b => k_cell (e0 g tys B0) τ' b H' (.inl (5, [.inr (.inr (.inl (false, [1]))), .inr (.inr (.inl (false, [23]))), .inl (0, 0), .inr (.inr (.inl (false, [24]))), .inl (0, 0), .inl (0, 0)]))) R_5 := by
  refine z_met (I := I_X5_init) (FL := gFL5) h0 htys (by decide +kernel) rfl dec_X5_init (fun X hts => gFLk5 hts) (by decide) ?_
  intro X a As hl hr hC hin hret hQ hH hb hB hc hAl hA
  obtain ⟨p0, rfl, tp0⟩ := z_arg1 hAl hA
  have hc : k_cell (e0 g tys B0) τ a X.2.2.2.2.1.heap (.inl (5, [.inr (.inr (.inl (true, []))), .inr (.inr (.inl (true, []))), .inl (0, 0), .inr (.inr (.inl (true, []))), .inl (0, 0), .inl (0, 0)])) := hc
  have I0 : zI g tys B0 τ X.2.2.2.2.1.heap a 5 NT_5 [.inr (.inr (.inl (true, []))), .inr (.inr (.inl (true, []))), .inl (0, 0), .inr (.inr (.inl (true, []))), .inl (0, 0), .inl (0, 0)] τ X.2.2.2.2.1.heap := zI_begin hH hb hB hc hC.2.2.2.2.1
  refine z_lda hC rfl rfl rfl ?_
  refine z_objinit hC rfl wlo_RX5_3 wo_inst wo_code (by rw [hr]; decide) (by rw [hr]; decide) ?_
  refine z_lda hC rfl rfl rfl ?_
  refine z_cst hC rfl rfl ?_
  refine z_newa (N := 400) (ai := 0) hC rfl rfl wa_int ⟨by decide, by decide, by decide, by decide⟩ (i_of (by decide) (by decide)) (by decide) (by rw [hr]; exact Nat.le_of_ble_eq_true rfl) (by rw [hr]; exact Nat.le_of_ble_eq_true rfl) (fun H1 cA1 t1 e1 s1 o1 => ?_)
  have J1 := zI_arr (t := 23) (H' := H1) I0 (by decide) rfl s1 o1 ⟨cA1, _, 400, (fun _ => .int 0), t1, e1, by decide, by decide, fun j hj => z_el0 (v := .int 0) (exc := []) (d := kA) (by decide) j⟩
  refine z_putF (k := 1) (ks := [.inr (.inr (.inl (true, []))), .inr (.inr (.inl (true, []))), .inl (0, 0), .inr (.inr (.inl (true, []))), .inl (0, 0), .inl (0, 0)]) (x := .inr (.inr (.inl (false, [23])))) hC hin rfl rfl (hap_5 h0) hN_5 J1.2.2.2.1 hB (by decide) (Or.inr ⟨_, 23, rfl, List.mem_singleton.mpr rfl, zt_at⟩) (fun r hr' => by cases hr'; exact ⟨rfl, rfl, tyX5_ok 1 (by decide)⟩) rfl rfl (fun H2 c2 s2 o2 z2 => ?_)
  have J2 : zI g tys B0 τ X.2.2.2.2.1.heap a 5 NT_5 [.inr (.inr (.inl (true, []))), .inr (.inr (.inl (false, [23]))), .inl (0, 0), .inr (.inr (.inl (true, []))), .inl (0, 0), .inl (0, 0)] _ H2 := zI_put (k := 1) (x := .inr (.inr (.inl (false, [23])))) J1 c2 s2 o2
  refine z_lda hC rfl rfl rfl ?_
  refine z_cst hC rfl rfl ?_
  refine z_newa (N := 25) (ai := 0) hC rfl rfl wa_int ⟨by decide, by decide, by decide, by decide⟩ (i_of (by decide) (by decide)) (by decide) (by rw [hr]; exact Nat.le_of_ble_eq_true rfl) (by rw [hr]; exact Nat.le_of_ble_eq_true rfl) (fun H3 cA3 t3 e3 s3 o3 => ?_)
  have J3 := zI_arr (t := 24) (H' := H3) J2 (by decide) rfl s3 o3 ⟨cA3, _, 25, (fun _ => .int 0), t3, e3, by decide, by decide, fun j hj => z_el0 (v := .int 0) (exc := []) (d := .inl (0, 400)) (by decide) j⟩
  refine z_putF (k := 3) (ks := [.inr (.inr (.inl (true, []))), .inr (.inr (.inl (false, [23]))), .inl (0, 0), .inr (.inr (.inl (true, []))), .inl (0, 0), .inl (0, 0)]) (x := .inr (.inr (.inl (false, [24])))) hC hin rfl rfl (hap_5 h0) hN_5 J3.2.2.2.1 hB (by decide) (Or.inr ⟨_, 24, rfl, List.mem_singleton.mpr rfl, zt_at⟩) (fun r hr' => by cases hr'; exact ⟨rfl, rfl, tyX5_ok 3 (by decide)⟩) rfl rfl (fun H4 c4 s4 o4 z4 => ?_)
  have J4 : zI g tys B0 τ X.2.2.2.2.1.heap a 5 NT_5 [.inr (.inr (.inl (true, []))), .inr (.inr (.inl (false, [23]))), .inl (0, 0), .inr (.inr (.inl (false, [24]))), .inl (0, 0), .inl (0, 0)] _ H4 := zI_put (k := 3) (x := .inr (.inr (.inl (false, [24])))) J3 c4 s4 o4
  refine z_lda hC rfl rfl rfl ?_
  refine z_lda hC rfl rfl rfl ?_
  refine z_putF (k := 0) (ks := [.inr (.inr (.inl (true, []))), .inr (.inr (.inl (false, [23]))), .inl (0, 0), .inr (.inr (.inl (false, [24]))), .inl (0, 0), .inl (0, 0)]) (x := .inr (.inr (.inl (false, [1])))) hC hin rfl rfl (hap_5 h0) hN_5 J4.2.2.2.1 hB (by decide) (Or.inr ⟨_, 1, rfl, List.mem_singleton.mpr rfl, J4.2.1 _ _ tp0⟩) (fun r hr' => by cases hr'; exact ⟨rfl, rfl, tyX5_ok 0 (by decide)⟩) rfl rfl (fun H5 c5 s5 o5 z5 => ?_)
  have J5 : zI g tys B0 τ X.2.2.2.2.1.heap a 5 NT_5 [.inr (.inr (.inl (false, [1]))), .inr (.inr (.inl (false, [23]))), .inl (0, 0), .inr (.inr (.inl (false, [24]))), .inl (0, 0), .inl (0, 0)] _ H5 := zI_put (k := 0) (x := .inr (.inr (.inl (false, [1])))) J4 c5 s5 o5
  exact z_vret hC hret hQ rfl (by exact Nat.le_of_ble_eq_true rfl) (by exact Nat.le_of_ble_eq_true rfl) (zI_end (t := 6) J5 rfl (by decide) (by decide) (fun _ _ h => h))
def NT_1 : List Nat := [4, 16, 25]
def R_1 : Room := ⟨2, 6, 97, 34⟩
theorem C_X1_init {l : Launch} {g : va_G} {tys : List (ClassId × FieldType)} {B0 : Nat} {τ : kTau} (h0 : gE1 g) (htys : tys.map Prod.snd = gTyL) : c_Met l g tys B0 τ yX1_init cX1_init 3 1 (z_ks tyX1 11) [.inr (.inr (.inl (false, [2]))), .inr (.inr (.inl (false, [21])))] 7 NT_1 (fun τ' H' b => k_cell (e0 g tys B0) τ' b H' (.inl (1, [.inr (.inr (.inl (false, [2]))), .inr (.inr (.inl (false, [3]))), .inr (.inr (.inl (false, [21]))), .inr (.inr (.inl (false, [4]))), .inr (.inr (.inl (false, [25]))), .inr (.inr (.inl (true, []))), .inl (0, 0), .inl (0, 0), .inl (0, 0), .inl (0, 0), .inl ((-1), (-1))]))) R_1 := by
  refine z_met (I := I_X1_init) (FL := gFL1) h0 htys (by decide +kernel) rfl dec_X1_init (fun X hts => gFLk1 hts) (by decide) ?_
  intro X a As hl hr hC hin hret hQ hH hb hB hc hAl hA
  obtain ⟨p0, p1, rfl, tp0, tp1⟩ := z_arg2 hAl hA
  have hc : k_cell (e0 g tys B0) τ a X.2.2.2.2.1.heap (.inl (1, [.inr (.inr (.inl (true, []))), .inr (.inr (.inl (true, []))), .inr (.inr (.inl (true, []))), .inr (.inr (.inl (true, []))), .inr (.inr (.inl (true, []))), .inr (.inr (.inl (true, []))), .inl (0, 0), .inl (0, 0), .inl (0, 0), .inl (0, 0), .inl (0, 0)])) := hc
  have I0 : zI g tys B0 τ X.2.2.2.2.1.heap a 1 NT_1 [.inr (.inr (.inl (true, []))), .inr (.inr (.inl (true, []))), .inr (.inr (.inl (true, []))), .inr (.inr (.inl (true, []))), .inr (.inr (.inl (true, []))), .inr (.inr (.inl (true, []))), .inl (0, 0), .inl (0, 0), .inl (0, 0), .inl (0, 0), .inl (0, 0)] τ X.2.2.2.2.1.heap := zI_begin hH hb hB hc hC.2.2.2.2.1
  refine z_lda hC rfl rfl rfl ?_
  refine z_objinit hC rfl wlo_RX1_3 wo_inst wo_code (by rw [hr]; decide) (by rw [hr]; decide) ?_
  refine z_lda hC rfl rfl rfl ?_
  refine z_new (τ := τ) (ci := 6) (C := RX6) (T := TX6) (N := 9) (ty := tyX6) hC rfl rfl gW6 tyX6_ok (z_dok6 _) wc_RX1_9 wn_6 wz_6 (by rw [hr]; exact Nat.le_of_ble_eq_true rfl) (by rw [hr]; exact Nat.le_of_ble_eq_true rfl) (fun H1 c1 s1 o1 => ?_)
  obtain ⟨J1, f1, g1, h1, l1⟩ := zI_new (H1 := H1) I0 s1 o1
  have lta_1 : a < X.2.2.2.2.1.heap.size := k_cell_lt I0.2.2.2.1
  refine z_dup hC rfl rfl ?_
  refine z_initN (b := X.2.2.2.2.1.heap.size) (As := []) (rest := [.ref X.2.2.2.2.1.heap.size, .ref a]) (rm := R_6) hC rfl (C_X6_init (l := X.2.1) h0 htys) wic_6 wz_6 (List.mem_of_getElem? (i := 5) rfl) wim_6 rfl wid_6 ⟨by rw [hr]; decide, by rw [hr]; decide⟩ ⟨by rw [hr]; exact Nat.le_of_ble_eq_true rfl, by rw [hr]; exact Nat.le_of_ble_eq_true rfl⟩ J1.1 l1 f1 g1 c1 rfl (fun i x h => by cases h) rfl (by show 2 ≤ 8; decide) (fun H2 T2 hp2 => ?_)
  have J2 := zI_obj J1 h1 (by decide) (by decide) hp2
  refine z_putF (k := 3) (ks := [.inr (.inr (.inl (true, []))), .inr (.inr (.inl (true, []))), .inr (.inr (.inl (true, []))), .inr (.inr (.inl (true, []))), .inr (.inr (.inl (true, []))), .inr (.inr (.inl (true, []))), .inl (0, 0), .inl (0, 0), .inl (0, 0), .inl (0, 0), .inl (0, 0)]) (x := .inr (.inr (.inl (false, [4])))) hC hin rfl rfl (hap_1 h0) hN_1 J2.2.2.2.1 hB (by decide) (Or.inr ⟨_, 4, rfl, List.mem_singleton.mpr rfl, hp2.2.2.2.1⟩) (fun r hr' => by cases hr'; exact ⟨rfl, rfl, tyX1_ok 3 (by decide)⟩) rfl rfl (fun H3 c3 s3 o3 z3 => ?_)
  have J3 : zI g tys B0 τ X.2.2.2.2.1.heap a 1 NT_1 [.inr (.inr (.inl (true, []))), .inr (.inr (.inl (true, []))), .inr (.inr (.inl (true, []))), .inr (.inr (.inl (false, [4]))), .inr (.inr (.inl (true, []))), .inr (.inr (.inl (true, []))), .inl (0, 0), .inl (0, 0), .inl (0, 0), .inl (0, 0), .inl (0, 0)] _ H3 := zI_put (k := 3) (x := .inr (.inr (.inl (false, [4])))) J2 c3 s3 o3
  refine z_lda hC rfl rfl rfl ?_
  refine z_cst hC rfl rfl ?_
  refine z_newa (N := 64) (ai := 3) hC rfl rfl wa_long ⟨by decide, by decide, by decide, by decide⟩ (i_of (by decide) (by decide)) (by decide) (by rw [hr]; exact Nat.le_of_ble_eq_true rfl) (by rw [hr]; exact Nat.le_of_ble_eq_true rfl) (fun H4 cA4 t4 e4 s4 o4 => ?_)
  have J4 := zI_arr (t := 25) (H' := H4) J3 (by decide) rfl s4 o4 ⟨cA4, _, 64, (fun _ => .long 0), t4, e4, by decide, by decide, fun j hj => z_el0 (v := .long 0) (exc := []) (d := kL) (by decide) j⟩
  refine z_putF (k := 4) (ks := [.inr (.inr (.inl (true, []))), .inr (.inr (.inl (true, []))), .inr (.inr (.inl (true, []))), .inr (.inr (.inl (false, [4]))), .inr (.inr (.inl (true, []))), .inr (.inr (.inl (true, []))), .inl (0, 0), .inl (0, 0), .inl (0, 0), .inl (0, 0), .inl (0, 0)]) (x := .inr (.inr (.inl (false, [25])))) hC hin rfl rfl (hap_1 h0) hN_1 J4.2.2.2.1 hB (by decide) (Or.inr ⟨_, 25, rfl, List.mem_singleton.mpr rfl, zt_at⟩) (fun r hr' => by cases hr'; exact ⟨rfl, rfl, tyX1_ok 4 (by decide)⟩) rfl rfl (fun H5 c5 s5 o5 z5 => ?_)
  have J5 : zI g tys B0 τ X.2.2.2.2.1.heap a 1 NT_1 [.inr (.inr (.inl (true, []))), .inr (.inr (.inl (true, []))), .inr (.inr (.inl (true, []))), .inr (.inr (.inl (false, [4]))), .inr (.inr (.inl (false, [25]))), .inr (.inr (.inl (true, []))), .inl (0, 0), .inl (0, 0), .inl (0, 0), .inl (0, 0), .inl (0, 0)] _ H5 := zI_put (k := 4) (x := .inr (.inr (.inl (false, [25])))) J4 c5 s5 o5
  refine z_lda hC rfl rfl rfl ?_
  refine z_cst hC rfl rfl ?_
  refine z_put (k := 10) (ks := [.inr (.inr (.inl (true, []))), .inr (.inr (.inl (true, []))), .inr (.inr (.inl (true, []))), .inr (.inr (.inl (false, [4]))), .inr (.inr (.inl (false, [25]))), .inr (.inr (.inl (true, []))), .inl (0, 0), .inl (0, 0), .inl (0, 0), .inl (0, 0), .inl (0, 0)]) (x := .inl ((-1), (-1))) hC rfl rfl (hap_1 h0) hN_1 J5.2.2.2.1 hB (by decide) (⟨_, rfl, by rw [i_of (by decide) (by decide)]; exact ⟨Int.le_refl _, Int.le_refl _⟩⟩) (fun ty q0 _ _ _ => by obtain ⟨rfl⟩ := q0 rfl; exact ⟨rfl, rfl, by decide⟩) (fun H6 c6 s6 o6 z6 => ?_)
  have J6 : zI g tys B0 τ X.2.2.2.2.1.heap a 1 NT_1 [.inr (.inr (.inl (true, []))), .inr (.inr (.inl (true, []))), .inr (.inr (.inl (true, []))), .inr (.inr (.inl (false, [4]))), .inr (.inr (.inl (false, [25]))), .inr (.inr (.inl (true, []))), .inl (0, 0), .inl (0, 0), .inl (0, 0), .inl (0, 0), .inl ((-1), (-1))] _ H6 := zI_put (k := 10) (x := .inl ((-1), (-1))) J5 c6 s6 o6
  refine z_lda hC rfl rfl rfl ?_
  refine z_lda hC rfl rfl rfl ?_
  refine z_putF (k := 0) (ks := [.inr (.inr (.inl (true, []))), .inr (.inr (.inl (true, []))), .inr (.inr (.inl (true, []))), .inr (.inr (.inl (false, [4]))), .inr (.inr (.inl (false, [25]))), .inr (.inr (.inl (true, []))), .inl (0, 0), .inl (0, 0), .inl (0, 0), .inl (0, 0), .inl ((-1), (-1))]) (x := .inr (.inr (.inl (false, [2])))) hC hin rfl rfl (hap_1 h0) hN_1 J6.2.2.2.1 hB (by decide) (Or.inr ⟨_, 2, rfl, List.mem_singleton.mpr rfl, J6.2.1 _ _ tp0⟩) (fun r hr' => by cases hr'; exact ⟨rfl, rfl, tyX1_ok 0 (by decide)⟩) rfl rfl (fun H7 c7 s7 o7 z7 => ?_)
  have J7 : zI g tys B0 τ X.2.2.2.2.1.heap a 1 NT_1 [.inr (.inr (.inl (false, [2]))), .inr (.inr (.inl (true, []))), .inr (.inr (.inl (true, []))), .inr (.inr (.inl (false, [4]))), .inr (.inr (.inl (false, [25]))), .inr (.inr (.inl (true, []))), .inl (0, 0), .inl (0, 0), .inl (0, 0), .inl (0, 0), .inl ((-1), (-1))] _ H7 := zI_put (k := 0) (x := .inr (.inr (.inl (false, [2])))) J6 c7 s7 o7
  refine z_lda hC rfl rfl rfl ?_
  refine z_lda hC rfl rfl rfl ?_
  obtain ⟨-, dd8, hd8, hcc8⟩ := J7.1 p0 2 (J7.2.1 _ _ tp0)
  have hd8 : gTT[2]? = some dd8 := hd8
  cases hd8
  obtain ⟨w8, sl8, ok8⟩ := k_cell_at (k := 0) h0 hN_10 hcc8 rfl
  obtain ⟨r8, rfl, tr8⟩ := k_refOk (t := 3) ok8
  refine z_get hC rfl rfl hcc8 sl8 ?_
  refine z_putF (k := 1) (ks := [.inr (.inr (.inl (false, [2]))), .inr (.inr (.inl (true, []))), .inr (.inr (.inl (true, []))), .inr (.inr (.inl (false, [4]))), .inr (.inr (.inl (false, [25]))), .inr (.inr (.inl (true, []))), .inl (0, 0), .inl (0, 0), .inl (0, 0), .inl (0, 0), .inl ((-1), (-1))]) (x := .inr (.inr (.inl (false, [3])))) hC hin rfl rfl (hap_1 h0) hN_1 J7.2.2.2.1 hB (by decide) (Or.inr ⟨_, 3, rfl, List.mem_singleton.mpr rfl, tr8⟩) (fun r hr' => by cases hr'; exact ⟨rfl, rfl, tyX1_ok 1 (by decide)⟩) rfl rfl (fun H9 c9 s9 o9 z9 => ?_)
  have J9 : zI g tys B0 τ X.2.2.2.2.1.heap a 1 NT_1 [.inr (.inr (.inl (false, [2]))), .inr (.inr (.inl (false, [3]))), .inr (.inr (.inl (true, []))), .inr (.inr (.inl (false, [4]))), .inr (.inr (.inl (false, [25]))), .inr (.inr (.inl (true, []))), .inl (0, 0), .inl (0, 0), .inl (0, 0), .inl (0, 0), .inl ((-1), (-1))] _ H9 := zI_put (k := 1) (x := .inr (.inr (.inl (false, [3])))) J7 c9 s9 o9
  refine z_lda hC rfl rfl rfl ?_
  refine z_lda hC rfl rfl rfl ?_
  refine z_putF (k := 2) (ks := [.inr (.inr (.inl (false, [2]))), .inr (.inr (.inl (false, [3]))), .inr (.inr (.inl (true, []))), .inr (.inr (.inl (false, [4]))), .inr (.inr (.inl (false, [25]))), .inr (.inr (.inl (true, []))), .inl (0, 0), .inl (0, 0), .inl (0, 0), .inl (0, 0), .inl ((-1), (-1))]) (x := .inr (.inr (.inl (false, [21])))) hC hin rfl rfl (hap_1 h0) hN_1 J9.2.2.2.1 hB (by decide) (Or.inr ⟨_, 21, rfl, List.mem_singleton.mpr rfl, J9.2.1 _ _ tp1⟩) (fun r hr' => by cases hr'; exact ⟨rfl, rfl, tyX1_ok 2 (by decide)⟩) rfl rfl (fun H10 c10 s10 o10 z10 => ?_)
  have J10 : zI g tys B0 τ X.2.2.2.2.1.heap a 1 NT_1 [.inr (.inr (.inl (false, [2]))), .inr (.inr (.inl (false, [3]))), .inr (.inr (.inl (false, [21]))), .inr (.inr (.inl (false, [4]))), .inr (.inr (.inl (false, [25]))), .inr (.inr (.inl (true, []))), .inl (0, 0), .inl (0, 0), .inl (0, 0), .inl (0, 0), .inl ((-1), (-1))] _ H10 := zI_put (k := 2) (x := .inr (.inr (.inl (false, [21])))) J9 c10 s10 o10
  exact z_vret hC hret hQ rfl (by exact Nat.le_of_ble_eq_true rfl) (by exact Nat.le_of_ble_eq_true rfl) (zI_end (t := 7) J10 rfl (by decide) (by decide) (fun _ _ h => h))
def NT_0 : List Nat := [27, 28]
def R_0 : Room := ⟨1, 3, 53, 14⟩
theorem C_X0_init {l : Launch} {g : va_G} {tys : List (ClassId × FieldType)} {B0 : Nat} {τ : kTau} (h0 : gE1 g) (htys : tys.map Prod.snd = gTyL) : c_Met l g tys B0 τ yX0_init cX0_init 3 0 (z_ks tyX0 6) [.inr (.inr (.inl (false, [2]))), .inr (.inr (.inl (false, [7])))] 8 NT_0 (fun τ' H' b => k_cell (e0 g tys B0) τ' b H' (.inl (0, [.inr (.inr (.inl (false, [2]))), .inr (.inr (.inl (false, [3]))), .inr (.inr (.inl (false, [7]))), .inr (.inr (.inl (false, [27]))), .inr (.inr (.inl (false, [28]))), .inr (.inr (.inl (false, [28])))]))) R_0 := by
  refine z_met (I := I_X0_init) (FL := gFL0) h0 htys (by decide +kernel) rfl dec_X0_init (fun X hts => gFLk0 hts) (by decide) ?_
  intro X a As hl hr hC hin hret hQ hH hb hB hc hAl hA
  obtain ⟨p0, p1, rfl, tp0, tp1⟩ := z_arg2 hAl hA
  have hc : k_cell (e0 g tys B0) τ a X.2.2.2.2.1.heap (.inl (0, [.inr (.inr (.inl (true, []))), .inr (.inr (.inl (true, []))), .inr (.inr (.inl (true, []))), .inr (.inr (.inl (true, []))), .inr (.inr (.inl (true, []))), .inr (.inr (.inl (true, [])))])) := hc
  have I0 : zI g tys B0 τ X.2.2.2.2.1.heap a 0 NT_0 [.inr (.inr (.inl (true, []))), .inr (.inr (.inl (true, []))), .inr (.inr (.inl (true, []))), .inr (.inr (.inl (true, []))), .inr (.inr (.inl (true, []))), .inr (.inr (.inl (true, [])))] τ X.2.2.2.2.1.heap := zI_begin hH hb hB hc hC.2.2.2.2.1
  refine z_lda hC rfl rfl rfl ?_
  refine z_objinit hC rfl wlo_RX0_3 wo_inst wo_code (by rw [hr]; decide) (by rw [hr]; decide) ?_
  refine z_lda hC rfl rfl rfl ?_
  refine z_cst hC rfl rfl ?_
  refine z_newa (N := 3) (ai := 0) hC rfl rfl wa_int ⟨by decide, by decide, by decide, by decide⟩ (i_of (by decide) (by decide)) (by decide) (by rw [hr]; exact Nat.le_of_ble_eq_true rfl) (by rw [hr]; exact Nat.le_of_ble_eq_true rfl) (fun H1 cA1 t1 e1 s1 o1 => ?_)
  have J1 := zI_arr (t := 27) (H' := H1) I0 (by decide) rfl s1 o1 ⟨cA1, _, 3, (fun _ => .int 0), t1, e1, by decide, by decide, fun j hj => z_el0 (v := .int 0) (exc := []) (d := kA) (by decide) j⟩
  refine z_putF (k := 3) (ks := [.inr (.inr (.inl (true, []))), .inr (.inr (.inl (true, []))), .inr (.inr (.inl (true, []))), .inr (.inr (.inl (true, []))), .inr (.inr (.inl (true, []))), .inr (.inr (.inl (true, [])))]) (x := .inr (.inr (.inl (false, [27])))) hC hin rfl rfl (hap_0 h0) hN_0 J1.2.2.2.1 hB (by decide) (Or.inr ⟨_, 27, rfl, List.mem_singleton.mpr rfl, zt_at⟩) (fun r hr' => by cases hr'; exact ⟨rfl, rfl, tyX0_ok 3 (by decide)⟩) rfl rfl (fun H2 c2 s2 o2 z2 => ?_)
  have J2 : zI g tys B0 τ X.2.2.2.2.1.heap a 0 NT_0 [.inr (.inr (.inl (true, []))), .inr (.inr (.inl (true, []))), .inr (.inr (.inl (true, []))), .inr (.inr (.inl (false, [27]))), .inr (.inr (.inl (true, []))), .inr (.inr (.inl (true, [])))] _ H2 := zI_put (k := 3) (x := .inr (.inr (.inl (false, [27])))) J1 c2 s2 o2
  refine z_lda hC rfl rfl rfl ?_
  refine z_cst hC rfl rfl ?_
  refine z_newa (N := 25) (ai := 0) hC rfl rfl wa_int ⟨by decide, by decide, by decide, by decide⟩ (i_of (by decide) (by decide)) (by decide) (by rw [hr]; exact Nat.le_of_ble_eq_true rfl) (by rw [hr]; exact Nat.le_of_ble_eq_true rfl) (fun H3 cA3 t3 e3 s3 o3 => ?_)
  have J3 := zI_arr (t := 28) (H' := H3) J2 (by decide) rfl s3 o3 ⟨cA3, _, 25, (fun _ => .int 0), t3, e3, by decide, by decide, fun j hj => z_el0 (v := .int 0) (exc := []) (d := kA) (by decide) j⟩
  refine z_putF (k := 4) (ks := [.inr (.inr (.inl (true, []))), .inr (.inr (.inl (true, []))), .inr (.inr (.inl (true, []))), .inr (.inr (.inl (false, [27]))), .inr (.inr (.inl (true, []))), .inr (.inr (.inl (true, [])))]) (x := .inr (.inr (.inl (false, [28])))) hC hin rfl rfl (hap_0 h0) hN_0 J3.2.2.2.1 hB (by decide) (Or.inr ⟨_, 28, rfl, List.mem_singleton.mpr rfl, zt_at⟩) (fun r hr' => by cases hr'; exact ⟨rfl, rfl, tyX0_ok 4 (by decide)⟩) rfl rfl (fun H4 c4 s4 o4 z4 => ?_)
  have J4 : zI g tys B0 τ X.2.2.2.2.1.heap a 0 NT_0 [.inr (.inr (.inl (true, []))), .inr (.inr (.inl (true, []))), .inr (.inr (.inl (true, []))), .inr (.inr (.inl (false, [27]))), .inr (.inr (.inl (false, [28]))), .inr (.inr (.inl (true, [])))] _ H4 := zI_put (k := 4) (x := .inr (.inr (.inl (false, [28])))) J3 c4 s4 o4
  refine z_lda hC rfl rfl rfl ?_
  refine z_cst hC rfl rfl ?_
  refine z_newa (N := 25) (ai := 0) hC rfl rfl wa_int ⟨by decide, by decide, by decide, by decide⟩ (i_of (by decide) (by decide)) (by decide) (by rw [hr]; exact Nat.le_of_ble_eq_true rfl) (by rw [hr]; exact Nat.le_of_ble_eq_true rfl) (fun H5 cA5 t5 e5 s5 o5 => ?_)
  have J5 := zI_arr (t := 28) (H' := H5) J4 (by decide) rfl s5 o5 ⟨cA5, _, 25, (fun _ => .int 0), t5, e5, by decide, by decide, fun j hj => z_el0 (v := .int 0) (exc := []) (d := kA) (by decide) j⟩
  refine z_putF (k := 5) (ks := [.inr (.inr (.inl (true, []))), .inr (.inr (.inl (true, []))), .inr (.inr (.inl (true, []))), .inr (.inr (.inl (false, [27]))), .inr (.inr (.inl (false, [28]))), .inr (.inr (.inl (true, [])))]) (x := .inr (.inr (.inl (false, [28])))) hC hin rfl rfl (hap_0 h0) hN_0 J5.2.2.2.1 hB (by decide) (Or.inr ⟨_, 28, rfl, List.mem_singleton.mpr rfl, zt_at⟩) (fun r hr' => by cases hr'; exact ⟨rfl, rfl, tyX0_ok 5 (by decide)⟩) rfl rfl (fun H6 c6 s6 o6 z6 => ?_)
  have J6 : zI g tys B0 τ X.2.2.2.2.1.heap a 0 NT_0 [.inr (.inr (.inl (true, []))), .inr (.inr (.inl (true, []))), .inr (.inr (.inl (true, []))), .inr (.inr (.inl (false, [27]))), .inr (.inr (.inl (false, [28]))), .inr (.inr (.inl (false, [28])))] _ H6 := zI_put (k := 5) (x := .inr (.inr (.inl (false, [28])))) J5 c6 s6 o6
  refine z_lda hC rfl rfl rfl ?_
  refine z_lda hC rfl rfl rfl ?_
  refine z_putF (k := 0) (ks := [.inr (.inr (.inl (true, []))), .inr (.inr (.inl (true, []))), .inr (.inr (.inl (true, []))), .inr (.inr (.inl (false, [27]))), .inr (.inr (.inl (false, [28]))), .inr (.inr (.inl (false, [28])))]) (x := .inr (.inr (.inl (false, [2])))) hC hin rfl rfl (hap_0 h0) hN_0 J6.2.2.2.1 hB (by decide) (Or.inr ⟨_, 2, rfl, List.mem_singleton.mpr rfl, J6.2.1 _ _ tp0⟩) (fun r hr' => by cases hr'; exact ⟨rfl, rfl, tyX0_ok 0 (by decide)⟩) rfl rfl (fun H7 c7 s7 o7 z7 => ?_)
  have J7 : zI g tys B0 τ X.2.2.2.2.1.heap a 0 NT_0 [.inr (.inr (.inl (false, [2]))), .inr (.inr (.inl (true, []))), .inr (.inr (.inl (true, []))), .inr (.inr (.inl (false, [27]))), .inr (.inr (.inl (false, [28]))), .inr (.inr (.inl (false, [28])))] _ H7 := zI_put (k := 0) (x := .inr (.inr (.inl (false, [2])))) J6 c7 s7 o7
  refine z_lda hC rfl rfl rfl ?_
  refine z_lda hC rfl rfl rfl ?_
  obtain ⟨-, dd8, hd8, hcc8⟩ := J7.1 p0 2 (J7.2.1 _ _ tp0)
  have hd8 : gTT[2]? = some dd8 := hd8
  cases hd8
  obtain ⟨w8, sl8, ok8⟩ := k_cell_at (k := 0) h0 hN_10 hcc8 rfl
  obtain ⟨r8, rfl, tr8⟩ := k_refOk (t := 3) ok8
  refine z_get hC rfl rfl hcc8 sl8 ?_
  refine z_putF (k := 1) (ks := [.inr (.inr (.inl (false, [2]))), .inr (.inr (.inl (true, []))), .inr (.inr (.inl (true, []))), .inr (.inr (.inl (false, [27]))), .inr (.inr (.inl (false, [28]))), .inr (.inr (.inl (false, [28])))]) (x := .inr (.inr (.inl (false, [3])))) hC hin rfl rfl (hap_0 h0) hN_0 J7.2.2.2.1 hB (by decide) (Or.inr ⟨_, 3, rfl, List.mem_singleton.mpr rfl, tr8⟩) (fun r hr' => by cases hr'; exact ⟨rfl, rfl, tyX0_ok 1 (by decide)⟩) rfl rfl (fun H9 c9 s9 o9 z9 => ?_)
  have J9 : zI g tys B0 τ X.2.2.2.2.1.heap a 0 NT_0 [.inr (.inr (.inl (false, [2]))), .inr (.inr (.inl (false, [3]))), .inr (.inr (.inl (true, []))), .inr (.inr (.inl (false, [27]))), .inr (.inr (.inl (false, [28]))), .inr (.inr (.inl (false, [28])))] _ H9 := zI_put (k := 1) (x := .inr (.inr (.inl (false, [3])))) J7 c9 s9 o9
  refine z_lda hC rfl rfl rfl ?_
  refine z_lda hC rfl rfl rfl ?_
  refine z_putF (k := 2) (ks := [.inr (.inr (.inl (false, [2]))), .inr (.inr (.inl (false, [3]))), .inr (.inr (.inl (true, []))), .inr (.inr (.inl (false, [27]))), .inr (.inr (.inl (false, [28]))), .inr (.inr (.inl (false, [28])))]) (x := .inr (.inr (.inl (false, [7])))) hC hin rfl rfl (hap_0 h0) hN_0 J9.2.2.2.1 hB (by decide) (Or.inr ⟨_, 7, rfl, List.mem_singleton.mpr rfl, J9.2.1 _ _ tp1⟩) (fun r hr' => by cases hr'; exact ⟨rfl, rfl, tyX0_ok 2 (by decide)⟩) rfl rfl (fun H10 c10 s10 o10 z10 => ?_)
  have J10 : zI g tys B0 τ X.2.2.2.2.1.heap a 0 NT_0 [.inr (.inr (.inl (false, [2]))), .inr (.inr (.inl (false, [3]))), .inr (.inr (.inl (false, [7]))), .inr (.inr (.inl (false, [27]))), .inr (.inr (.inl (false, [28]))), .inr (.inr (.inl (false, [28])))] _ H10 := zI_put (k := 2) (x := .inr (.inr (.inl (false, [7])))) J9 c10 s10 o10
  exact z_vret hC hret hQ rfl (by exact Nat.le_of_ble_eq_true rfl) (by exact Nat.le_of_ble_eq_true rfl) (zI_end (t := 8) J10 rfl (by decide) (by decide) (fun _ _ h => h))
def NT_2 : List Nat := [29, 30]
def R_2 : Room := ⟨1, 2, 434, 14⟩
theorem C_X2_init {l : Launch} {g : va_G} {tys : List (ClassId × FieldType)} {B0 : Nat} {τ : kTau} (h0 : gE1 g) (htys : tys.map Prod.snd = gTyL) : c_Met l g tys B0 τ yX2_init cX2_init 3 2 (z_ks tyX2 10) [.inr (.inr (.inl (false, [2]))), .inr (.inr (.inl (false, [7])))] 10 NT_2 (fun τ' H' b => k_cell (e0 g tys B0) τ' b H' (.inl (2, [.inr (.inr (.inl (false, [2]))), .inr (.inr (.inl (false, [7]))), .inr (.inr (.inl (false, [29]))), .inr (.inr (.inl (false, [30]))), .inl (0, 0), .inl (0, 0), .inl (0, 0), .inl (0, 0), .inl (0, 0), .inl (0, 0)]))) R_2 := by
  refine z_met (I := I_X2_init) (FL := gFL2) h0 htys (by decide +kernel) rfl dec_X2_init (fun X hts => gFLk2 hts) (by decide) ?_
  intro X a As hl hr hC hin hret hQ hH hb hB hc hAl hA
  obtain ⟨p0, p1, rfl, tp0, tp1⟩ := z_arg2 hAl hA
  have hc : k_cell (e0 g tys B0) τ a X.2.2.2.2.1.heap (.inl (2, [.inr (.inr (.inl (true, []))), .inr (.inr (.inl (true, []))), .inr (.inr (.inl (true, []))), .inr (.inr (.inl (true, []))), .inl (0, 0), .inl (0, 0), .inl (0, 0), .inl (0, 0), .inl (0, 0), .inl (0, 0)])) := hc
  have I0 : zI g tys B0 τ X.2.2.2.2.1.heap a 2 NT_2 [.inr (.inr (.inl (true, []))), .inr (.inr (.inl (true, []))), .inr (.inr (.inl (true, []))), .inr (.inr (.inl (true, []))), .inl (0, 0), .inl (0, 0), .inl (0, 0), .inl (0, 0), .inl (0, 0), .inl (0, 0)] τ X.2.2.2.2.1.heap := zI_begin hH hb hB hc hC.2.2.2.2.1
  refine z_lda hC rfl rfl rfl ?_
  refine z_objinit hC rfl wlo_RX2_3 wo_inst wo_code (by rw [hr]; decide) (by rw [hr]; decide) ?_
  refine z_lda hC rfl rfl rfl ?_
  refine z_cst hC rfl rfl ?_
  refine z_newa (N := 427) (ai := 0) hC rfl rfl wa_int ⟨by decide, by decide, by decide, by decide⟩ (i_of (by decide) (by decide)) (by decide) (by rw [hr]; exact Nat.le_of_ble_eq_true rfl) (by rw [hr]; exact Nat.le_of_ble_eq_true rfl) (fun H1 cA1 t1 e1 s1 o1 => ?_)
  have J1 := zI_arr (t := 29) (H' := H1) I0 (by decide) rfl s1 o1 ⟨cA1, _, 427, (fun _ => .int 0), t1, e1, by decide, by decide, fun j hj => z_el0 (v := .int 0) (exc := []) (d := .inl (0, 6)) (by decide) j⟩
  refine z_putF (k := 2) (ks := [.inr (.inr (.inl (true, []))), .inr (.inr (.inl (true, []))), .inr (.inr (.inl (true, []))), .inr (.inr (.inl (true, []))), .inl (0, 0), .inl (0, 0), .inl (0, 0), .inl (0, 0), .inl (0, 0), .inl (0, 0)]) (x := .inr (.inr (.inl (false, [29])))) hC hin rfl rfl (hap_2 h0) hN_2 J1.2.2.2.1 hB (by decide) (Or.inr ⟨_, 29, rfl, List.mem_singleton.mpr rfl, zt_at⟩) (fun r hr' => by cases hr'; exact ⟨rfl, rfl, tyX2_ok 2 (by decide)⟩) rfl rfl (fun H2 c2 s2 o2 z2 => ?_)
  have J2 : zI g tys B0 τ X.2.2.2.2.1.heap a 2 NT_2 [.inr (.inr (.inl (true, []))), .inr (.inr (.inl (true, []))), .inr (.inr (.inl (false, [29]))), .inr (.inr (.inl (true, []))), .inl (0, 0), .inl (0, 0), .inl (0, 0), .inl (0, 0), .inl (0, 0), .inl (0, 0)] _ H2 := zI_put (k := 2) (x := .inr (.inr (.inl (false, [29])))) J1 c2 s2 o2
  refine z_lda hC rfl rfl rfl ?_
  refine z_cst hC rfl rfl ?_
  refine z_newa (N := 7) (ai := 0) hC rfl rfl wa_int ⟨by decide, by decide, by decide, by decide⟩ (i_of (by decide) (by decide)) (by decide) (by rw [hr]; exact Nat.le_of_ble_eq_true rfl) (by rw [hr]; exact Nat.le_of_ble_eq_true rfl) (fun H3 cA3 t3 e3 s3 o3 => ?_)
  have J3 := zI_arr (t := 30) (H' := H3) J2 (by decide) rfl s3 o3 ⟨cA3, _, 7, (fun _ => .int 0), t3, e3, by decide, by decide, fun j hj => z_el0 (v := .int 0) (exc := []) (d := kA) (by decide) j⟩
  refine z_putF (k := 3) (ks := [.inr (.inr (.inl (true, []))), .inr (.inr (.inl (true, []))), .inr (.inr (.inl (false, [29]))), .inr (.inr (.inl (true, []))), .inl (0, 0), .inl (0, 0), .inl (0, 0), .inl (0, 0), .inl (0, 0), .inl (0, 0)]) (x := .inr (.inr (.inl (false, [30])))) hC hin rfl rfl (hap_2 h0) hN_2 J3.2.2.2.1 hB (by decide) (Or.inr ⟨_, 30, rfl, List.mem_singleton.mpr rfl, zt_at⟩) (fun r hr' => by cases hr'; exact ⟨rfl, rfl, tyX2_ok 3 (by decide)⟩) rfl rfl (fun H4 c4 s4 o4 z4 => ?_)
  have J4 : zI g tys B0 τ X.2.2.2.2.1.heap a 2 NT_2 [.inr (.inr (.inl (true, []))), .inr (.inr (.inl (true, []))), .inr (.inr (.inl (false, [29]))), .inr (.inr (.inl (false, [30]))), .inl (0, 0), .inl (0, 0), .inl (0, 0), .inl (0, 0), .inl (0, 0), .inl (0, 0)] _ H4 := zI_put (k := 3) (x := .inr (.inr (.inl (false, [30])))) J3 c4 s4 o4
  refine z_lda hC rfl rfl rfl ?_
  refine z_lda hC rfl rfl rfl ?_
  refine z_putF (k := 0) (ks := [.inr (.inr (.inl (true, []))), .inr (.inr (.inl (true, []))), .inr (.inr (.inl (false, [29]))), .inr (.inr (.inl (false, [30]))), .inl (0, 0), .inl (0, 0), .inl (0, 0), .inl (0, 0), .inl (0, 0), .inl (0, 0)]) (x := .inr (.inr (.inl (false, [2])))) hC hin rfl rfl (hap_2 h0) hN_2 J4.2.2.2.1 hB (by decide) (Or.inr ⟨_, 2, rfl, List.mem_singleton.mpr rfl, J4.2.1 _ _ tp0⟩) (fun r hr' => by cases hr'; exact ⟨rfl, rfl, tyX2_ok 0 (by decide)⟩) rfl rfl (fun H5 c5 s5 o5 z5 => ?_)
  have J5 : zI g tys B0 τ X.2.2.2.2.1.heap a 2 NT_2 [.inr (.inr (.inl (false, [2]))), .inr (.inr (.inl (true, []))), .inr (.inr (.inl (false, [29]))), .inr (.inr (.inl (false, [30]))), .inl (0, 0), .inl (0, 0), .inl (0, 0), .inl (0, 0), .inl (0, 0), .inl (0, 0)] _ H5 := zI_put (k := 0) (x := .inr (.inr (.inl (false, [2])))) J4 c5 s5 o5
  refine z_lda hC rfl rfl rfl ?_
  refine z_lda hC rfl rfl rfl ?_
  refine z_putF (k := 1) (ks := [.inr (.inr (.inl (false, [2]))), .inr (.inr (.inl (true, []))), .inr (.inr (.inl (false, [29]))), .inr (.inr (.inl (false, [30]))), .inl (0, 0), .inl (0, 0), .inl (0, 0), .inl (0, 0), .inl (0, 0), .inl (0, 0)]) (x := .inr (.inr (.inl (false, [7])))) hC hin rfl rfl (hap_2 h0) hN_2 J5.2.2.2.1 hB (by decide) (Or.inr ⟨_, 7, rfl, List.mem_singleton.mpr rfl, J5.2.1 _ _ tp1⟩) (fun r hr' => by cases hr'; exact ⟨rfl, rfl, tyX2_ok 1 (by decide)⟩) rfl rfl (fun H6 c6 s6 o6 z6 => ?_)
  have J6 : zI g tys B0 τ X.2.2.2.2.1.heap a 2 NT_2 [.inr (.inr (.inl (false, [2]))), .inr (.inr (.inl (false, [7]))), .inr (.inr (.inl (false, [29]))), .inr (.inr (.inl (false, [30]))), .inl (0, 0), .inl (0, 0), .inl (0, 0), .inl (0, 0), .inl (0, 0), .inl (0, 0)] _ H6 := zI_put (k := 1) (x := .inr (.inr (.inl (false, [7])))) J5 c6 s6 o6
  exact z_vret hC hret hQ rfl (by exact Nat.le_of_ble_eq_true rfl) (by exact Nat.le_of_ble_eq_true rfl) (zI_end (t := 10) J6 rfl (by decide) (by decide) (fun _ _ h => h))
