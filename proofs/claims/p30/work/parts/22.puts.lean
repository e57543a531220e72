/-! ===== puts: a sign behind the text ===== -/
def K_pex (s0 v0 : Int) : kCtr := ([.inr (.inr (.inl (false, [11]))), .inl (s0, s0), .inl (v0, v0)], [], [(none, [], [])], [(33, 0), (34, 0)], [0], [1])
def pPre (I0 : Nat → Int) (A0 : Nat → Nat → Int) (I : Nat → Int) (A : Nat → Nat → Int) : Prop := (∀ k, k < 43 → I k = I0 k) ∧ ∀ q ∈ gAT, A q.1 = A0 q.1
def pPost (I0 : Nat → Int) (A0 : Nat → Nat → Int) (x : Int) (I : Nat → Int) (A : Nat → Nat → Int) : Prop := (∀ k, k < 43 → I k = I0 k) ∧ (∀ q ∈ gAT, q.1 ≠ 3 → q.1 ≠ 4 → A q.1 = A0 q.1) ∧ (∀ j, A 3 j = if j = 400 * (I0 11).toNat + (A0 4 (I0 11).toNat).toNat then x else A0 3 j) ∧ (∀ j, A 4 j = if j = (I0 11).toNat then A0 4 (I0 11).toNat + 1 else A0 4 j)
section
variable {l : Launch} {g : va_G} {tys : List (ClassId × FieldType)} {B0 : Nat} {τ : kTau}
theorem X_puts (h0 : gE1 g) (hT : ∀ GI, k_tys (gE g tys B0 GI)) (a0 : Nat) (I0 : Nat → Int) (A0 : Nat → Nat → Int) (s0 v0 : Int) (hs : 0 ≤ s0 ∧ s0 ≤ 15) (hv : 0 ≤ v0 ∧ v0 ≤ 99999) (ht : I0 11 ≤ 5) (hL : A0 4 (I0 11).toNat ≤ 399) :
    k_Met l (gE g tys B0 (exGI g a0 (pPre I0 A0) (pPost I0 A0 (s0 + 16 * v0)))) τ gTB yX12_puts cX12_puts 3 0 (K_pex s0 v0) ⟨0, 0, 0, 0⟩ := by
  refine x_met (I := I_X12_puts) (FL := gFL12) (CI := gCI12) (CJ := gCJ12) (by decide +kernel) dec_X12_puts (fun X hts => ⟨gFLk12 hts, gCIk12 hts, gCJk12 hts⟩) (gEok0 h0) (hT _) (fun _ => by show 3 ≤ 3; decide) ?_
  intro X ps hl hr hts hC hH hpre
  obtain ⟨p1, p2, -, p4⟩ := hpre
  match ps, p1 with
  | [w0, w1, w2], _ =>
    obtain ⟨u0, z0, o0⟩ := p2 0 _ rfl
    obtain ⟨u1, z1, xs, o1, b1⟩ := p2 1 _ rfl
    obtain ⟨u2, z2, xv, o2, b2⟩ := p2 2 _ rfl
    obtain ⟨a, r0, ha⟩ := k_refOk o0
    have y0 : w0 = .ref a := by simpa [r0] using z0
    have y1 : w1 = .int xs := by simpa [o1] using z1
    have y2 : w2 = .int xv := by simpa [o2] using z2
    subst y0; subst y1; subst y2
    have hxs : xs.toInt = s0 := Int.le_antisymm b1.2 b1.1
    have hxv : xv.toInt = v0 := Int.le_antisymm b2.2 b2.1
    obtain ⟨hu, hz, -⟩ := p4 0 List.mem_cons_self
    have haa := hu a ha
    subst haa
    obtain ⟨hI0, hA0⟩ := hz rfl
    obtain ⟨b3, f3, t3, e3⟩ := vR_in h0 hH ha (k := 3) (t := 33) rfl
    obtain ⟨b4, f4, t4, e4⟩ := vR_in h0 hH ha (k := 4) (t := 34) rfl
    obtain ⟨xt, ft, et, l1, l2⟩ := vI_in h0 hH ha (k := 11) rfl
    obtain ⟨cA, ty3, m3, g3, q31, q32, q33, q34, q35⟩ := k_arr hH t3 (show gTT[33]? = some (.inr _) from rfl)
    obtain ⟨cA4, ty4, m4, g4, q41, q42, q43, q44, q45⟩ := k_arr hH t4 (show gTT[34]? = some (.inr _) from rfl)
    have hcA := q31.symm.trans q41
    cases hcA
    have q33 : 2400 ≤ m3 := q33
    have q43 : 7 ≤ m4 := q43
    have hx5 : xt.toInt ≤ 5 := by rw [← et, hI0 11 (by decide)]; exact ht
    have l1 : 0 ≤ xt.toInt := l1
    have htn : (I0 11).toNat = xt.toInt.toNat := by rw [← hI0 11 (by decide), et]
    obtain ⟨yl, hyl, bl1, bl2⟩ := q45 xt.toInt.toNat (by omega)
    have bl1 : 0 ≤ yl.toInt := bl1
    have hA4 : A0 4 = vE X.2.2.2.2.1.heap b4 := by rw [← e4]; exact (hA0 (4, 34) (by decide)).symm
    have hA3 : A0 3 = vE X.2.2.2.2.1.heap b3 := by rw [← e3]; exact (hA0 (3, 33) (by decide)).symm
    have hlen : A0 4 (I0 11).toNat = yl.toInt := by rw [hA4, htn]; exact vE_at q42 (by omega) hyl
    rw [hlen] at hL
    have n34 : b4 ≠ b3 := fun z => by rw [z, t3] at t4; cases t4
    have na3 : a ≠ b3 := fun z => by rw [← z, ha] at t3; cases t3
    have na4 : a ≠ b4 := fun z => by rw [← z, ha] at t4; cases t4
    have h400 : (k_binV .imul (Int32.ofInt 400) xt).toInt = 400 * xt.toInt := i_mul (by rw [i_of (by decide) (by decide)]) (by omega) (by omega)
    have hix : (k_binV .iadd (k_binV .imul (Int32.ofInt 400) xt) yl).toInt = 400 * xt.toInt + yl.toInt := i_add (by rw [h400]) (by omega) (by omega)
    have h16 : (k_binV .imul (Int32.ofInt 16) xv).toInt = 16 * xv.toInt := i_mul (by rw [i_of (by decide) (by decide)]) (by omega) (by omega)
    have hvx : (k_binV .iadd xs (k_binV .imul (Int32.ofInt 16) xv)).toInt = s0 + 16 * v0 := i_add (by rw [h16]; omega) (by omega) (by omega)
    have hinc : (k_binV .iadd yl (Int32.ofInt 1)).toInt = yl.toInt + 1 := i_add (by rw [i_of (by decide) (by decide)]) (by omega) (by omega)
    refine x_lda hC rfl rfl rfl ?_
    refine x_get hC rfl rfl hH ha gM_at rfl (by decide) f3 ?_
    refine x_cst hC rfl rfl ?_
    refine x_lda hC rfl rfl rfl ?_
    refine x_get hC rfl rfl hH ha gM_at rfl (by decide) ft ?_
    refine x_bin hC rfl rfl ?_
    refine x_lda hC rfl rfl rfl ?_
    refine x_get hC rfl rfl hH ha gM_at rfl (by decide) f4 ?_
    refine x_lda hC rfl rfl rfl ?_
    refine x_get hC rfl rfl hH ha gM_at rfl (by decide) ft ?_
    refine x_ald hC rfl (ai := 0) rfl q41 q42 ⟨l1, by omega⟩ hyl ?_
    refine x_bin hC rfl rfl ?_
    refine x_ldi hC rfl rfl rfl ?_
    refine x_cst hC rfl rfl ?_
    refine x_ldi hC rfl rfl rfl ?_
    refine x_bin hC rfl rfl ?_
    refine x_bin hC rfl rfl ?_
    refine x_iast hC rfl hH t3 (show gTT[33]? = some (.inr _) from rfl) rfl q32 (by rw [hix]; omega) ⟨_, rfl, k_in_top _⟩ (fun H1 hH1 fr1 s1 o1 => ?_)
    rw [hix] at s1
    have f4' : (H1[a]?).bind (fun c => c.slots[g.2 12 4]?) = some (.ref b4) := by rw [o1 a na3]; exact f4
    have ft' : (H1[a]?).bind (fun c => c.slots[g.2 12 11]?) = some (.int xt) := by rw [o1 a na3]; exact ft
    have q42' : H1[b4]? = some (arrV cA m4 g4) := by rw [o1 b4 n34]; exact q42
    refine x_lda hC rfl rfl rfl ?_
    refine x_get hC rfl rfl hH1 ha gM_at rfl (by decide) f4' ?_
    refine x_lda hC rfl rfl rfl ?_
    refine x_get hC rfl rfl hH1 ha gM_at rfl (by decide) ft' ?_
    refine x_dup2 hC rfl rfl rfl ?_
    refine x_ald hC rfl (ai := 0) rfl q41 q42' ⟨l1, by omega⟩ hyl ?_
    refine x_cst hC rfl rfl ?_
    refine x_bin hC rfl rfl ?_
    refine x_iast hC rfl hH1 t4 (show gTT[34]? = some (.inr _) from rfl) rfl q42' ⟨l1, by omega⟩ ⟨_, rfl, by rw [hinc]; omega, by rw [hinc]; show _ ≤ (400 : Int); omega⟩ (fun H2 hH2 fr2 s2 o2 => ?_)
    refine x_vret hC rfl ⟨hH2, k_fr_trans (k_frU fr1 (show ∀ q ∈ [(33, 0)], q ∈ [(33, 0), (34, 0)] by decide)) fr2 (show ∀ q ∈ [(34, 0)], q ∈ [(33, 0), (34, 0)] by decide), fun i hi => ?_, _, List.mem_cons_self, rfl, fun _ h => (by cases h), fun _ h => (by cases h)⟩
    have hi : i = 1 := List.mem_singleton.mp hi
    subst hi
    refine ⟨hu, (fun z => by cases z), fun _ => ⟨fun k hk => ?_, fun q hq n3 n4 => ?_, fun j => ?_, fun j => ?_⟩⟩
    · rw [vI_kept fr2 ha hk (by simp), vI_kept fr1 ha hk (by simp)]
      exact hI0 k hk
    · have hz : ∀ w ∈ gAT, w.1 ≠ 3 → w.1 ≠ 4 → w.2 ≠ 33 ∧ w.2 ≠ 34 := by decide
      obtain ⟨z3, z4⟩ := hz q hq n3 n4
      rw [vA_kept h0 hH1 fr2 ha hq (by simp) (by simp only [List.mem_singleton, Prod.mk.injEq, not_and]; exact fun z => absurd z z4), vA_kept h0 hH fr1 ha hq (by simp) (by simp only [List.mem_singleton, Prod.mk.injEq, not_and]; exact fun z => absurd z z3)]
      exact hA0 q hq
    · rw [vA_kept h0 hH1 fr2 ha (k := 3) (t := 33) (by decide) (by simp) (by simp)]
      obtain ⟨b3', f3', -, e3'⟩ := vR_in h0 hH1 ha (k := 3) (t := 33) rfl
      rw [o1 a na3, f3] at f3'
      cases f3'
      rw [e3', vE_upd q32 s1 (by omega) j, hvx, hA3, hlen, htn]
      have : (400 * xt.toInt + yl.toInt).toNat = 400 * xt.toInt.toNat + yl.toInt.toNat := by omega
      rw [this]
    · obtain ⟨b4', f4'', -, e4'⟩ := vR_in h0 hH2 ha (k := 4) (t := 34) rfl
      rw [o2 a na4, f4'] at f4''
      cases f4''
      rw [e4', vE_upd q42' s2 (by omega) j, hinc, htn]
      have hk4 : vE H1 b4 = vE X.2.2.2.2.1.heap b4 := vE_kept (o1 b4 n34)
      rw [hk4, ← hA4, ← htn, hlen]
end
