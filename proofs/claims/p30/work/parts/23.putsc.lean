/-! ===== puts, as the parser calls it ===== -/
theorem p_puts {b : gB} {n n' k m : Nat} {I I' : Nat → Int} {A A' : Nat → Nat → Int} {x : Int} (h : bP b n (k + 3) m I A) (hp : pPost I A x I' A') (hx : hst x n = some n') (hn : (n' : Int) ≤ I 12) : bP b n' k m I' A' := by
  obtain ⟨h0, h1, h2, h3, h4, h5, ⟨e, h6, h6'⟩, h7, h8⟩ := h
  obtain ⟨u1, u2, u3, u4⟩ := hp
  have e11 := u1 11 (by decide)
  have e12 := u1 12 (by decide)
  have a5 : A' 5 = A 5 := u2 (5, 35) (by decide) (by decide) (by decide)
  have a6 : A' 6 = A 6 := u2 (6, 36) (by decide) (by decide) (by decide)
  have hL : A' 4 (I 11).toNat = A 4 (I 11).toNat + 1 := by rw [u4, if_pos rfl]
  have hL2 : A 4 (I 11).toNat ≤ 399 := by omega
  have hix : 400 * (I 11).toNat + (A 4 (I 11).toNat).toNat = 400 * (I 11).toNat + b.1 + e := by rw [h6]; omega
  have hpre : ∀ t' b' e' : Nat, t' < 6 → b' + e' ≤ 400 → (t' = (I 11).toNat → (b' : Int) + (e' : Int) ≤ A 4 (I 11).toNat) → hs (A' 3) (400 * t' + b') e' = hs (A 3) (400 * t' + b') e' := by
    intro t' b' e' ht hbe hle
    refine hs_eq (fun j j1 j2 => ?_)
    rw [u3, if_neg]
    intro z
    by_cases c : t' = (I 11).toNat
    · have := hle c
      subst c
      omega
    · rw [hix] at z
      omega
  refine ⟨?_, ?_⟩
  · intro t' ht' i hi
    rw [a6] at hi
    rw [a5]
    obtain ⟨g1, g2⟩ := h0 t' ht' i hi
    refine ⟨?_, ?_⟩
    · obtain ⟨b', e', s1, s2, s3, s4⟩ := g1
      refine ⟨b', e', s1, s2, s3, ?_⟩
      rw [hpre t' b' e' ht' s3 (fun z => ?_)]
      · exact s4
      · subst z
        rw [← s2]
        exact (h8.1 i hi).1
    · rcases g2 with g2 | ⟨b', e', s1, s2, s3, s4⟩
      · exact Or.inl g2
      · refine Or.inr ⟨b', e', s1, s2, s3, ?_⟩
        rw [hpre t' b' e' ht' s3 (fun z => ?_)]
        · exact s4
        · subst z
          rw [← s2]
          exact (h8.1 i hi).2
  · refine ⟨by rw [e11]; exact h1, by rw [e11]; exact h2, by rw [e12]; exact h3, by rw [e12]; exact h4, by rw [e12]; exact hn, ⟨e + 1, ?_, ?_⟩, ?_, ?_, ?_⟩
    · rw [e11, hL, h6]
      omega
    · rw [e11]
      unfold hs
      rw [hpre _ b.1 e (by omega) (by omega) (fun _ => by omega), h6']
      show hst (A' 3 (400 * (I 11).toNat + b.1 + e)) n = some n'
      rw [u3, if_pos hix.symm]
      exact hx
    · rw [e11, e12, hL]
      omega
    · rw [e11, a5, a6]
      intro i hi
      obtain ⟨k1, k2⟩ := h8.1 i hi
      rw [hL]
      omega
    · rw [e11]
      refine fun f hf => h8.2 f (fun j hj => ?_)
      rw [hf j hj, u3, if_neg (by rw [hix]; omega)]
section
variable {l : Launch} {g : va_G} {tys : List (ClassId × FieldType)} {B0 : Nat} {τ : kTau}
theorem puts_conv (h0 : gE1 g) (hT : ∀ GI, k_tys (gE g tys B0 GI)) {c : gGh} {K : kCtr} {slo shi vlo vhi : Int} {gpre gpost : List Nat} (hK : K = ([.inr (.inr (.inl (false, [11]))), .inl (slo, shi), .inl (vlo, vhi)], [], [(none, [], [])], [(33, 0), (34, 0)], gpre, gpost)) (hb : 0 ≤ slo ∧ shi ≤ 15 ∧ 0 ≤ vlo ∧ vhi ≤ 99999) {gp : Nat} (hgp : gp ∈ gpre) (hg0 : gp ≠ 0)
    (hf : ∀ (I I' : Nat → Int) (A A' : Nat → Nat → Int) (s v : Int), slo ≤ s → s ≤ shi → vlo ≤ v → v ≤ vhi → iv c I A gp → (I 11 ≤ 5 ∧ A 4 (I 11).toNat ≤ 399) ∧ (pPost I A (s + 16 * v) I' A' → ∀ i ∈ gpost, i ≠ 0 ∧ iv c I' A' i)) : k_Met l (gE g tys B0 (gGI g c)) τ gTB yX12_puts cX12_puts 3 0 K ⟨0, 0, 0, 0⟩ := by
  subst hK
  refine k_convG (γ := { q : Nat × (Nat → Int) × (Nat → Nat → Int) × Int × Int // (0 ≤ q.2.2.2.1 ∧ q.2.2.2.1 ≤ 15) ∧ (0 ≤ q.2.2.2.2 ∧ q.2.2.2.2 ≤ 99999) ∧ q.2.1 11 ≤ 5 ∧ q.2.2.1 4 (q.2.1 11).toNat ≤ 399 }) (GI := fun q => exGI g q.1.1 (pPre q.1.2.1 q.1.2.2.1) (pPost q.1.2.1 q.1.2.2.1 (q.1.2.2.2.1 + 16 * q.1.2.2.2.2))) (K := fun q => K_pex q.1.2.2.2.1 q.1.2.2.2.2) (fun q => X_puts h0 hT q.1.1 q.1.2.1 q.1.2.2.1 q.1.2.2.2.1 q.1.2.2.2.2 q.2.1 q.2.2.1 q.2.2.2.1 q.2.2.2.2) ?_
  intro as H hH hp
  obtain ⟨p1, p2, -, p4⟩ := hp
  match as, p1 with
  | [w0, w1, w2], _ =>
    obtain ⟨u0, z0, o0⟩ := p2 0 _ rfl
    obtain ⟨u1, z1, xs, o1, b1⟩ := p2 1 _ rfl
    obtain ⟨u2, z2, xv, o2, b2⟩ := p2 2 _ rfl
    obtain ⟨a, r0, ha⟩ := k_refOk o0
    have y0 : w0 = .ref a := by simpa [r0] using z0
    have y1 : w1 = .int xs := by simpa [o1] using z1
    have y2 : w2 = .int xv := by simpa [o2] using z2
    subst y0; subst y1; subst y2
    have hg := p4 gp hgp
    obtain ⟨hu, hi⟩ := hg.2.2 a ha
    have b11 : slo ≤ xs.toInt := b1.1
    have b12 : xs.toInt ≤ shi := b1.2
    have b21 : vlo ≤ xv.toInt := b2.1
    have b22 : xv.toInt ≤ vhi := b2.2
    have hff := fun I' A' => hf _ I' _ A' xs.toInt xv.toInt b11 b12 b21 b22 hi
    refine ⟨⟨(a, vI g H a, vA g H a, xs.toInt, xv.toInt), ⟨⟨by show 0 ≤ xs.toInt; omega, by show xs.toInt ≤ 15; omega⟩, ⟨by show 0 ≤ xv.toInt; omega, by show xv.toInt ≤ 99999; omega⟩, (hff (vI g H a) (vA g H a)).1.1, (hff (vI g H a) (vA g H a)).1.2⟩⟩, ⟨rfl, ?_, trivial, ?_⟩, fun H' v hq => ?_⟩
    · intro i x hx
      match i, hx with
      | 0, hx => cases hx; exact ⟨.ref a, rfl, Or.inr ⟨a, 11, rfl, List.mem_singleton.mpr rfl, ha⟩⟩
      | 1, hx => cases hx; exact ⟨.int xs, rfl, xs, rfl, Int.le_refl _, Int.le_refl _⟩
      | 2, hx => cases hx; exact ⟨.int xv, rfl, xv, rfl, Int.le_refl _, Int.le_refl _⟩
      | n + 3, hx => cases hx
    · intro i hi
      have hi : i = 0 := List.mem_singleton.mp hi
      subst hi
      exact ⟨hu, fun _ => ⟨fun _ _ => rfl, fun _ _ => rfl⟩, (fun z => by cases z)⟩
    · obtain ⟨q1, q2, q3, q4⟩ := hq
      obtain ⟨-, -, hpo⟩ := q3 1 List.mem_cons_self
      obtain ⟨A, hA, a1, -, -⟩ := q4
      have hA := List.mem_singleton.mp hA
      subst hA
      refine ⟨q1, q2, fun i hi => ?_, _, List.mem_cons_self, a1, fun _ h => (by cases h), fun _ h => (by cases h)⟩
      obtain ⟨n0, hiv⟩ := (hff _ _).2 (hpo rfl) i hi
      exact gGI_put n0 ha hu hiv
theorem C_X12_puts_num (h0 : gE1 g) (hu : gU τ) (hT : ∀ GI, k_tys (gE g tys B0 GI)) (c : gGh) : k_Met l (gE g tys B0 (gGI g c)) τ gTB yX12_puts cX12_puts 3 0 K_X12_puts_num ⟨0, 0, 0, 0⟩ := by
  refine puts_conv h0 hT rfl (by decide) (gp := 12) (by decide) (by decide) (fun I I' A A' s v s1 s2 v1 v2 h => ?_)
  have h : bP c.1 c.2.1 (c.2.2.1 + 16) (c.2.2.2.1 + 1) I A ∧ (c.2.1 : Int) + 1 ≤ I 12 := h
  have hb := h.1.2
  obtain ⟨b1, b2, b3, b4, b5, b6, b7, b8⟩ := hb
  refine ⟨⟨b2, by omega⟩, fun hp => ?_⟩
  have hs : hst (s + 16 * v) c.2.1 = some (c.2.1 + 1) := by
    unfold hst
    rw [if_pos (by omega), if_pos (by omega)]
  have hr := p_puts (k := c.2.2.1 + 13) h.1 hp hs (by omega)
  exact List.forall_mem_cons.mpr ⟨⟨by decide, hr.1⟩, List.forall_mem_cons.mpr ⟨⟨by decide, hr⟩, List.forall_mem_nil _⟩⟩
theorem C_X12_puts_word (h0 : gE1 g) (hu : gU τ) (hT : ∀ GI, k_tys (gE g tys B0 GI)) (c : gGh) : k_Met l (gE g tys B0 (gGI g c)) τ gTB yX12_puts cX12_puts 3 0 K_X12_puts_word ⟨0, 0, 0, 0⟩ := by
  refine puts_conv h0 hT rfl (by decide) (gp := 12) (by decide) (by decide) (fun I I' A A' s v s1 s2 v1 v2 h => ?_)
  have h : bP c.1 c.2.1 (c.2.2.1 + 16) (c.2.2.2.1 + 1) I A ∧ (c.2.1 : Int) + 1 ≤ I 12 := h
  have hb := h.1.2
  obtain ⟨b1, b2, b3, b4, b5, b6, b7, b8⟩ := hb
  refine ⟨⟨b2, by omega⟩, fun hp => ?_⟩
  have hs : hst (s + 16 * v) c.2.1 = some (c.2.1 + 1) := by
    unfold hst
    rw [if_neg (by omega), if_pos (by omega), if_pos (by omega)]
  have hr := p_puts (k := c.2.2.1 + 13) h.1 hp hs (by omega)
  exact List.forall_mem_cons.mpr ⟨⟨by decide, hr.1⟩, List.forall_mem_cons.mpr ⟨⟨by decide, hr⟩, List.forall_mem_nil _⟩⟩
theorem p_op {s v : Int} {n : Nat} (h : (2 ≤ s ∧ s ≤ 10) ∨ s = 12 ∨ s = 13 ∨ s = 14) (hv : v = 0) (hn : 2 ≤ n) : hst (s + 16 * v) n = some (n - 1) := by
  unfold hst
  rw [if_neg (by omega), if_neg (by omega), if_neg (by omega), if_pos hn]
theorem puts_op2 (h0 : gE1 g) (hT : ∀ GI, k_tys (gE g tys B0 GI)) (c : gGh) (hc : c.2.2.2.1 + 1 ≤ c.2.2.2.2) {slo shi : Int} (hs0 : (2 ≤ slo ∧ shi ≤ 10) ∨ (slo = 14 ∧ shi = 14)) : k_Met l (gE g tys B0 (gGI g c)) τ gTB yX12_puts cX12_puts 3 0 ([.inr (.inr (.inl (false, [11]))), .inl (slo, shi), .inl (0, 0)], [], [(none, [], [])], [(33, 0), (34, 0)], [21], [1, 11, 22]) ⟨0, 0, 0, 0⟩ := by
  refine puts_conv h0 hT rfl (by omega) (gp := 21) (by decide) (by decide) (fun I I' A A' s v s1 s2 v1 v2 h => ?_)
  have h : bP c.1 (c.2.1 + 2) (c.2.2.1 + 16) (c.2.2.2.2 + 1) I A := h
  have hb := h.2
  obtain ⟨b1, b2, b3, b4, b5, b6, b7, b8⟩ := hb
  refine ⟨⟨b2, by omega⟩, fun hp => ?_⟩
  have hr : bP c.1 (c.2.1 + 1) (c.2.2.1 + 13) (c.2.2.2.2 + 1) I' A' := p_puts (k := c.2.2.1 + 13) h hp (p_op (by omega) (by omega) (by omega)) (by omega)
  exact List.forall_mem_cons.mpr ⟨⟨by decide, hr.1⟩, List.forall_mem_cons.mpr ⟨⟨by decide, bP_mono hr (Nat.le_refl _) (by omega)⟩, List.forall_mem_cons.mpr ⟨⟨by decide, hr⟩, List.forall_mem_nil _⟩⟩⟩
theorem C_X12_puts_op (h0 : gE1 g) (hu : gU τ) (hT : ∀ GI, k_tys (gE g tys B0 GI)) (c : gGh) (hc : c.2.2.2.1 + 1 ≤ c.2.2.2.2) : k_Met l (gE g tys B0 (gGI g c)) τ gTB yX12_puts cX12_puts 3 0 K_X12_puts_op ⟨0, 0, 0, 0⟩ := puts_op2 h0 hT c hc (Or.inl (by decide))
theorem C_X12_puts_over (h0 : gE1 g) (hu : gU τ) (hT : ∀ GI, k_tys (gE g tys B0 GI)) (c : gGh) (hc : c.2.2.2.1 + 1 ≤ c.2.2.2.2) : k_Met l (gE g tys B0 (gGI g c)) τ gTB yX12_puts cX12_puts 3 0 K_X12_puts_over ⟨0, 0, 0, 0⟩ := puts_op2 h0 hT c hc (Or.inr (by decide))
theorem C_X12_puts_sign (h0 : gE1 g) (hu : gU τ) (hT : ∀ GI, k_tys (gE g tys B0 GI)) (c : gGh) : k_Met l (gE g tys B0 (gGI g c)) τ gTB yX12_puts cX12_puts 3 0 K_X12_puts_sign ⟨0, 0, 0, 0⟩ := by
  refine puts_conv h0 hT rfl (by decide) (gp := 14) (by decide) (by decide) (fun I I' A A' s v s1 s2 v1 v2 h => ?_)
  have h : bP c.1 (c.2.1 + 2) (c.2.2.1 + 42) (c.2.2.2.1 + 3) I A := h
  have hb := h.2
  obtain ⟨b1, b2, b3, b4, b5, b6, b7, b8⟩ := hb
  refine ⟨⟨b2, by omega⟩, fun hp => ?_⟩
  have hr : bP c.1 (c.2.1 + 1) (c.2.2.1 + 39) (c.2.2.2.1 + 3) I' A' := p_puts (k := c.2.2.1 + 39) h hp (p_op (by omega) (by omega) (by omega)) (by omega)
  exact List.forall_mem_cons.mpr ⟨⟨by decide, hr.1⟩, List.forall_mem_cons.mpr ⟨⟨by decide, hr⟩, List.forall_mem_nil _⟩⟩
end
