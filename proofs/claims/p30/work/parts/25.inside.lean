/-! ===== isInside: does a bracket wait ===== -/
section
variable {l : Launch} {g : va_G} {tys : List (ClassId × FieldType)} {B0 : Nat} {τ : kTau}
theorem C_X12_isInside (h0 : gE1 g) (hu : gU τ) (hT : ∀ GI, k_tys (gE g tys B0 GI)) (c : gGh) : k_Met l (gE g tys B0 (gGI g c)) τ gTB yX12_isInside cX12_isInside 2 2 K_X12_isInside ⟨0, 0, 0, 0⟩ := by
  refine x_met (I := I_X12_isInside) (FL := gFL12) (CI := gCI12) (CJ := gCJ12) (by decide +kernel) dec_X12_isInside (fun X hts => ⟨gFLk12 hts, gCIk12 hts, gCJk12 hts⟩) (gEok0 h0) (hT _) (fun _ => by show 1 ≤ 2; decide) ?_
  intro X ps hl hr hts hC hH hpre
  obtain ⟨a, rfl, ha⟩ := see_arg rfl hpre
  obtain ⟨b, fb, tb', eb⟩ := vR_in h0 hH ha (k := 15) (t := 38) rfl
  obtain ⟨cA, ty, m, f, q1, q2, q3, q4, q5⟩ := k_arr hH tb' (show gTT[38]? = some (.inr _) from rfl)
  have q3 : 400 ≤ m := q3
  obtain ⟨xo, fo, eo, n1, n2⟩ := vI_in h0 hH ha (k := 16) rfl
  have n2 : xo.toInt ≤ 400 := n2
  have e91 : (Int32.ofInt 91).toInt = 91 := i_of (by decide) (by decide)
  have loop : ∀ (N : Nat) (x : Int32), 0 ≤ x.toInt → x.toInt ≤ 400 → (∀ j : Nat, (j : Int) < x.toInt → vE X.2.2.2.2.1.heap b j ≠ 91) → (400 - x.toInt).toNat < N → kx X (gE g tys B0 (gGI g c)) X.2.2.2.2.1.heap 2 2 [(1, .int x), (0, .ref a)] [] := by
    intro N
    induction N with
    | zero => intro x _ _ _ h; omega
    | succ N ih =>
      intro x x1 x2 hx hN
      refine x_ldi hC rfl rfl rfl ?_
      refine x_lda hC rfl rfl rfl ?_
      refine x_get hC rfl rfl hH ha gM_at rfl (by decide) fo ?_
      refine x_icmp (t := 29) hC rfl (by decide) (fun z => ?_) (fun z => ?_)
      · have z : xo.toInt ≤ x.toInt := z
        refine x_cst hC rfl rfl ?_
        refine x_zret hC rfl ⟨by decide, by decide⟩ ⟨hH, k_fr_refl, fun _ h => (by cases h), _, List.mem_of_getElem? (i := 0) rfl, ⟨_, rfl, _, rfl, by decide, by decide⟩, fun _ h => (by cases h), List.forall_mem_cons.mpr ⟨⟨fun z => absurd z (by decide), fun _ => gGI_put (i := 35) (by decide) ha (gU_of hu ha) (show ∀ j : Nat, (j : Int) < vI g X.2.2.2.2.1.heap a 16 → vA g X.2.2.2.2.1.heap a 15 j ≠ 91 from ?_)⟩, List.forall_mem_nil _⟩⟩
        rw [eo, eb]
        exact fun j hj => hx j (by omega)
      · have z : ¬ xo.toInt ≤ x.toInt := z
        obtain ⟨y, hy, -⟩ := q5 x.toInt.toNat (by omega)
        have hvy := vE_at q2 (by omega) hy
        refine x_lda hC rfl rfl rfl ?_
        refine x_get hC rfl rfl hH ha gM_at rfl (by decide) fb ?_
        refine x_ldi hC rfl rfl rfl ?_
        refine x_ald hC rfl (ai := 0) rfl q1 q2 ⟨x1, by omega⟩ hy ?_
        refine x_cst hC rfl rfl ?_
        refine x_icmp (t := 23) hC rfl (by decide) (fun z2 => ?_) (fun z2 => ?_)
        · have z2 : ¬ y.toInt = (Int32.ofInt 91).toInt := z2
          rw [e91] at z2
          have hx1 : (x + Int32.ofInt 1).toInt = x.toInt + 1 := i_add (by rw [i_of (by decide) (by decide)]) (by omega) (by omega)
          refine x_iinc hC rfl (m := 0) rfl (by decide) rfl ?_
          refine x_goto (t := 2) hC rfl (by decide) ?_
          refine ih _ (by rw [hx1]; omega) (by rw [hx1]; omega) (fun j hj => ?_) (by rw [hx1]; omega)
          rw [hx1] at hj
          by_cases hjx : (j : Int) < x.toInt
          · exact hx j hjx
          · have : j = x.toInt.toNat := by omega
            rw [this, hvy]
            exact z2
        · have z2 : ¬ ¬ y.toInt = (Int32.ofInt 91).toInt := z2
          rw [e91] at z2
          have z2 := Classical.not_not.mp z2
          refine x_cst hC rfl rfl ?_
          refine x_zret hC rfl ⟨by decide, by decide⟩ ⟨hH, k_fr_refl, fun _ h => (by cases h), _, List.mem_of_getElem? (i := 1) rfl, ⟨_, rfl, _, rfl, by decide, by decide⟩, fun _ h => (by cases h), List.forall_mem_cons.mpr ⟨⟨fun z => absurd z (by decide), fun _ => gGI_put (i := 34) (by decide) ha (gU_of hu ha) (show ∃ j : Nat, (j : Int) < vI g X.2.2.2.2.1.heap a 16 ∧ vA g X.2.2.2.2.1.heap a 15 j = 91 from ⟨x.toInt.toNat, ?_, ?_⟩)⟩, List.forall_mem_nil _⟩⟩
          · rw [eo]
            omega
          · rw [eb, hvy]
            exact z2
  refine x_cst hC rfl rfl ?_
  refine x_ist_n hC rfl (by decide) rfl ?_
  have z0 : (Int32.ofInt 0).toInt = 0 := i_of (by decide) (by decide)
  exact loop 401 _ (by rw [z0]; decide) (by rw [z0]; decide) (fun j hj => absurd hj (by rw [z0]; omega)) (by rw [z0]; decide)
end
