/-! ===== what is known at the start: classes, places, arrays, links ===== -/
theorem gInst : ∀ c : Nat, c < 13 → ∃ n, Jvm.Cond.instantiable (gC c).1 n ∈ gTB
  | 0, _ => ⟨_, wn_0⟩
  | 1, _ => ⟨_, wn_1⟩
  | 2, _ => ⟨_, wn_2⟩
  | 3, _ => ⟨_, wn_3⟩
  | 4, _ => ⟨_, wn_4⟩
  | 5, _ => ⟨_, wn_5⟩
  | 6, _ => ⟨_, wn_6⟩
  | 7, _ => ⟨_, wn_7⟩
  | 8, _ => ⟨_, wn_8⟩
  | 9, _ => ⟨_, wn_9⟩
  | 10, _ => ⟨_, wn_10⟩
  | 11, _ => ⟨_, wst_1.2.1⟩
  | 12, _ => ⟨_, wst_2.2.1⟩
  | n + 13, h => absurd h (by omega)
theorem gTyOk : ∀ c : Nat, c < 13 → ∀ k, k < (gC c).2.2 → parseFieldDescriptor ((gC c).2.1 k).2.2.1 = some (gTy c k)
  | 0, _ => tyX0_ok
  | 1, _ => tyX1_ok
  | 2, _ => tyX2_ok
  | 3, _ => tyX3_ok
  | 4, _ => tyX4_ok
  | 5, _ => tyX5_ok
  | 6, _ => tyX6_ok
  | 7, _ => tyX7_ok
  | 8, _ => tyX8_ok
  | 9, _ => tyX9_ok
  | 10, _ => tyX10_ok
  | 11, _ => tyX11_ok
  | 12, _ => tyX12_ok
  | n + 13, h => absurd h (by omega)
theorem gNmOk : ∀ c : Nat, c < 13 → ∀ a, a < (gC c).2.2 → ∀ b, b < (gC c).2.2 → a ≠ b → ((gC c).2.1 a).2.1 ≠ ((gC c).2.1 b).2.1
  | 0, _ => nmX0
  | 1, _ => nmX1
  | 2, _ => nmX2
  | 3, _ => nmX3
  | 4, _ => nmX4
  | 5, _ => nmX5
  | 6, _ => nmX6
  | 7, _ => nmX7
  | 8, _ => nmX8
  | 9, _ => nmX9
  | 10, _ => nmX10
  | 11, _ => nmX11
  | 12, _ => nmX12
  | n + 13, h => absurd h (by omega)
theorem gTT_ok : gTT.all (fun d => match d with
  | .inl q => Nat.blt q.1 13 && Nat.beq (gC q.1).2.2 q.2.length
  | _ => true) = true := by decide +kernel
section
variable {s : State} {args : Array Value}
theorem kn_arr {ty : FieldType} (hp : ∀ C, ty ≠ .object C) (h : (Jvm.Cond.arrayClass ty).before args s = true) : ∃ cA, ArrOfT s cA ty ∧ va_RA s cA ty := by
  obtain ⟨c, k, comp, h1, h2, h3⟩ := Cond.arrayClass_spec h
  refine ⟨c, fun n z => ⟨fun q e => (by cases e), k, h2, comp, h3⟩, ?_⟩
  cases ty <;> first | exact h1 | exact absurd rfl (hp _)
theorem kn_arrO {C : String} (h : (Jvm.Cond.arrayOver (.object C)).before args s = true) : ∃ cA, ArrOfT s cA (.object C) ∧ va_RA s cA (.object C) := by
  obtain ⟨comp, c, k, h1, h2, h3, h4, h5⟩ := Cond.arrayOver_spec h
  exact ⟨c, fun n z => ⟨fun q e => (by cases e), k, h3, comp, h4⟩, k, comp, h3, h4, h1, h5⟩
theorem kn_N (hts : ∀ w ∈ lw_tbl, w.before args s = true) : zN s := by
  refine ⟨?_, ?_, va_Nw.of rfl (hts (.castable "[I" "java/lang/Cloneable") (List.mem_of_getElem? (i := 843) (by decide +kernel)))⟩
  · exact List.forall_mem_cons.mpr ⟨va_Nw.of rfl (hts _ (List.mem_of_getElem? (i := 157) (by decide +kernel))), List.forall_mem_cons.mpr ⟨va_Nw.of rfl (hts _ (List.mem_of_getElem? (i := 191) (by decide +kernel))), List.forall_mem_cons.mpr ⟨va_Nw.of rfl (hts _ (List.mem_of_getElem? (i := 197) (by decide +kernel))), List.forall_mem_cons.mpr ⟨va_Nw.of rfl (hts _ (List.mem_of_getElem? (i := 255) (by decide +kernel))), List.forall_mem_cons.mpr ⟨va_Nw.of rfl (hts _ (List.mem_of_getElem? (i := 360) (by decide +kernel))), List.forall_mem_cons.mpr ⟨va_Nw.of rfl (hts _ (List.mem_of_getElem? (i := 401) (by decide +kernel))), List.forall_mem_cons.mpr ⟨va_Nw.of rfl (hts _ (List.mem_of_getElem? (i := 476) (by decide +kernel))), List.forall_mem_cons.mpr ⟨va_Nw.of rfl (hts _ (List.mem_of_getElem? (i := 543) (by decide +kernel))), List.forall_mem_nil _⟩⟩⟩⟩⟩⟩⟩⟩
  · exact List.forall_mem_cons.mpr ⟨va_AO.of (hts _ (List.mem_of_getElem? (i := 352) (by decide +kernel))), List.forall_mem_cons.mpr ⟨va_AO.of (hts _ (List.mem_of_getElem? (i := 348) (by decide +kernel))), List.forall_mem_cons.mpr ⟨va_AO.of (hts _ (List.mem_of_getElem? (i := 350) (by decide +kernel))), List.forall_mem_nil _⟩⟩⟩
theorem law_known (hts : ∀ w ∈ lw_tbl, w.before args s = true) (adK adV : Nat → Nat) : ∃ (g : va_G) (tys : List (ClassId × FieldType)), va_K g gCl tys s ∧ tys.map Prod.snd = gTyL ∧ gE1 g ∧ g.2 100 = adK ∧ g.2 101 = adV := by
  have htg : ∀ w ∈ gTB, w.before args s = true := fun w hw => hts w (List.mem_filter.mp hw).1
  have kn : ∀ c : Nat, ∃ q : ClassId × (Nat → Nat), c < 13 → u_Kn s (gC c).1 (gC c).2.1 (gC c).2.2 q.1 q.2 := by
    intro c
    by_cases hc : c < 13
    · obtain ⟨n, hn⟩ := gInst c hc
      obtain ⟨cC, iS, h⟩ := u_known htg (gW c hc) (htg _ hn)
      exact ⟨(cC, iS), fun _ => h⟩
    · exact ⟨(0, fun _ => 0), fun h => absurd h hc⟩
  obtain ⟨F, hF⟩ := Classical.axiomOfChoice kn
  obtain ⟨c0, a0, r0⟩ := kn_arr (ty := .int) (fun C h => by cases h) (htg _ wa_int)
  obtain ⟨c1, a1, r1⟩ := kn_arr (ty := .byte) (fun C h => by cases h) (htg _ wa_byte)
  obtain ⟨c2, a2, r2⟩ := kn_arr (ty := .boolean) (fun C h => by cases h) (htg _ wa_boolean)
  obtain ⟨c3, a3, r3⟩ := kn_arr (ty := .long) (fun C h => by cases h) (htg _ wa_long)
  have hzn := kn_N hts
  obtain ⟨c4, a4, r4⟩ := kn_arrO (C := RX6) (args := args) (va_AO.use (hzn.2.1 RX6 (List.mem_of_getElem? (i := 0) rfl)))
  obtain ⟨c5, a5, r5⟩ := kn_arrO (C := RX10) (args := args) (va_AO.use (hzn.2.1 RX10 (List.mem_of_getElem? (i := 1) rfl)))
  obtain ⟨c6, a6, r6⟩ := kn_arrO (C := RX4) (args := args) (va_AO.use (hzn.2.1 RX4 (List.mem_of_getElem? (i := 2) rfl)))
  obtain ⟨g, hg⟩ : ∃ g : va_G, g = (fun c => (F c).1, fun c => if c = 100 then adK else if c = 101 then adV else (F c).2) := ⟨_, rfl⟩
  have g1 : ∀ c, g.1 c = (F c).1 := fun c => by rw [hg]
  have g2 : ∀ c, c < 13 → g.2 c = (F c).2 := fun c hc => by
    rw [hg]
    show (if c = 100 then adK else if c = 101 then adV else (F c).2) = _
    rw [if_neg (by omega), if_neg (by omega)]
  have lt13 : ∀ (c : Nat) (q : vw_C), gCl[c]? = some q → c < 13 := fun c q h => (List.getElem?_eq_some_iff.mp h).1
  have hK : va_K g gCl [(c0, .int), (c1, .byte), (c2, .boolean), (c3, .long), (c4, .object RX6), (c5, .object RX10), (c6, .object RX4)] s := by
    refine ⟨fun c q hq => ?_, fun k q hk => ?_⟩
    · have hc := lt13 c q hq
      have e := hq.symm.trans (gC_ok c hc)
      cases e
      rw [g1, g2 c hc]
      exact hF c hc
    · match k, hk with
      | 0, hk => cases hk; exact ⟨a0, r0⟩
      | 1, hk => cases hk; exact ⟨a1, r1⟩
      | 2, hk => cases hk; exact ⟨a2, r2⟩
      | 3, hk => cases hk; exact ⟨a3, r3⟩
      | 4, hk => cases hk; exact ⟨a4, r4⟩
      | 5, hk => cases hk; exact ⟨a5, r5⟩
      | 6, hk => cases hk; exact ⟨a6, r6⟩
      | n + 7, hk => cases hk
  refine ⟨g, _, hK, rfl, fun t q hq => ?_, by rw [hg]; show (if 100 = 100 then adK else if 100 = 101 then adV else (F 100).2) = adK; rw [if_pos rfl], by rw [hg]; show (if 101 = 100 then adK else if 101 = 101 then adV else (F 101).2) = adV; rw [if_neg (by decide), if_pos rfl]⟩
  have hm := List.all_eq_true.mp gTT_ok _ (List.mem_of_getElem? hq)
  have hm : (Nat.blt q.1 13 && Nat.beq (gC q.1).2.2 q.2.length) = true := hm
  rw [Bool.and_eq_true] at hm
  have hc : q.1 < 13 := Nat.le_of_ble_eq_true hm.1
  have hl := Nat.eq_of_beq_eq_true hm.2
  have hcl := gC_ok q.1 hc
  refine ⟨gC q.1, hcl, hl, ?_⟩
  rw [← hl]
  exact va_apart (own := "") htg (gW q.1 hc) (gTy q.1) (gTyOk q.1 hc) (gNmOk q.1 hc) hK hcl
end
