/-! ===== isGoHere: a clause ===== -/
theorem go_cl {b : gB} {n k m : Nat} {I I' : Nat → Int} {A A' : Nat → Nat → Int} {i : Nat} {y : Int} (h : bP b n k m I A) (hc : ∀ t, t < 6 → A 6 t ≤ 12) (hi : 48 * (I 11).toNat + 4 * (A 6 (I 11).toNat).toNat ≤ i ∧ i < 48 * (I 11).toNat + 48) (hu : upA 5 i y I I' A A') : bP b n k m I' A' := by
  obtain ⟨u1, u2, u3⟩ := hu
  obtain ⟨h0, h1, h2, h3, h4, h5, h6, h7, h8, h9⟩ := h
  have e11 := u1 11 (by decide)
  have e12 := u1 12 (by decide)
  have a3 : A' 3 = A 3 := u2 (3, 33) (by decide) (by decide)
  have a4 : A' 4 = A 4 := u2 (4, 34) (by decide) (by decide)
  have a6 : A' 6 = A 6 := u2 (6, 36) (by decide) (by decide)
  have key : ∀ t j r : Nat, t < 6 → (j : Int) < A 6 t → r ≤ 3 → A' 5 (48 * t + 4 * j + r) = A 5 (48 * t + 4 * j + r) := by
    intro t j r ht hj hr
    rw [u3, if_neg]
    have := hc t ht
    by_cases z : t = (I 11).toNat
    · subst z
      omega
    · omega
  refine ⟨?_, ?_⟩
  · rw [a3, a6]
    intro t ht j hj
    have k0 := key t j 0 ht hj (by decide)
    have k1 := key t j 1 ht hj (by decide)
    have k2 := key t j 2 ht hj (by decide)
    have k3 := key t j 3 ht hj (by decide)
    rw [Nat.add_zero] at k0
    rw [k0, k1, k2, k3]
    exact h0 t ht j hj
  · unfold bBody
    rw [e11, e12, a3, a4, a6]
    refine ⟨h1, h2, h3, h4, h5, h6, h7, fun j hj => ?_, h9⟩
    have ht : (I 11).toNat < 6 := by omega
    rw [key _ j 1 ht hj (by decide), key _ j 3 ht hj (by decide)]
    exact h8 j hj
theorem go_begin {I : Nat → Int} {A : Nat → Nat → Int} {W : (Nat → Int) → Prop} (hg : bGood (A 3) (A 5) (A 6)) (h1 : 0 ≤ I 11) (h2 : I 11 ≤ 5) (h3 : 0 ≤ A 4 (I 11).toNat) (h4 : 3 * A 4 (I 11).toNat ≤ 16 * I 12) (h5 : I 12 ≤ 60) (h6 : bEnds (I 11).toNat (A 4) (A 5) (A 6)) (hW : ∀ f : Nat → Int, (∀ j, j < 400 * (I 11).toNat + (A 4 (I 11).toNat).toNat → f j = A 3 j) → W f) : bP ((A 4 (I 11).toNat).toNat, W) 0 0 0 I A := by
  refine ⟨hg, h1, h2, h5, by omega, by omega, ⟨0, ?_, rfl⟩, by omega, h6, hW⟩
  show A 4 (I 11).toNat = (((A 4 (I 11).toNat).toNat : Nat) : Int) + ((0 : Nat) : Int)
  omega
/-- the clause is whole -/
theorem go_fin {b : gB} {n k m : Nat} {I I' : Nat → Int} {A A' : Nat → Nat → Int} {L e : Nat} (h : bP b n k m I A) (hl : 0 ≤ I 14) (hc : A 6 (I 11).toNat + 1 ≤ I 14) (hc0 : 0 ≤ A 6 (I 11).toNat) (hc1 : A 6 (I 11).toNat ≤ 11) (hc2 : ∀ t, t < 6 → A 6 t ≤ 12)
    (c0 : A 5 (48 * (I 11).toNat + 4 * (A 6 (I 11).toNat).toNat) = (L : Int)) (c1 : A 5 (48 * (I 11).toNat + 4 * (A 6 (I 11).toNat).toNat + 1) = (L : Int) + (e : Int)) (c3 : A 5 (48 * (I 11).toNat + 4 * (A 6 (I 11).toNat).toNat + 3) = A 4 (I 11).toNat) (s1 : hs (A 3) (400 * (I 11).toNat + L) e = some 1) (hle : (L : Int) + (e : Int) ≤ A 4 (I 11).toNat)
    (c2 : A 5 (48 * (I 11).toNat + 4 * (A 6 (I 11).toNat).toNat + 2) < 0 ∨ ∃ e' : Nat, A 5 (48 * (I 11).toNat + 4 * (A 6 (I 11).toNat).toNat + 2) = (L : Int) + (e : Int) ∧ A 4 (I 11).toNat = (L : Int) + (e : Int) + (e' : Int) ∧ hs (A 3) (400 * (I 11).toNat + (L + e)) e' = some 1)
    (hu : upA 6 (I 11).toNat (A 6 (I 11).toNat + 1) I I' A A') : bGood (A' 3) (A' 5) (A' 6) ∧ bR I' A' 0 := by
  obtain ⟨u1, u2, u3⟩ := hu
  obtain ⟨h0, h1, h2, h3, h4, h5, ⟨e0, h6, -⟩, h7, h8, h9⟩ := h
  have e11 := u1 11 (by decide)
  have e12 := u1 12 (by decide)
  have e14 := u1 14 (by decide)
  have a3 : A' 3 = A 3 := u2 (3, 33) (by decide) (by decide)
  have a4 : A' 4 = A 4 := u2 (4, 34) (by decide) (by decide)
  have a5 : A' 5 = A 5 := u2 (5, 35) (by decide) (by decide)
  have hL : A 4 (I 11).toNat ≤ 320 := by omega
  refine ⟨?_, ?_⟩
  · rw [a3, a5]
    intro t ht j hj
    rw [u3] at hj
    by_cases z : t = (I 11).toNat
    · rw [if_pos z] at hj
      by_cases z2 : (j : Int) < A 6 t
      · exact h0 t ht j z2
      · have hj2 : j = (A 6 (I 11).toNat).toNat := by subst z; omega
        subst z
        rw [hj2, c0, c1, c3]
        refine ⟨⟨L, e, rfl, rfl, by omega, s1⟩, ?_⟩
        rcases c2 with c2 | ⟨e', c2, c4, c5⟩
        · exact Or.inl c2
        · refine Or.inr ⟨L + e, e', by rw [c2]; omega, by rw [c4]; omega, by omega, c5⟩
    · rw [if_neg z] at hj
      exact h0 t ht j hj
  · unfold bR
    rw [e11, e12, e14, a4, a5, u3, if_pos rfl]
    refine ⟨h1, h2, hl, by omega, by omega, by omega, h3, fun j hj => ?_⟩
    rw [u3, if_pos rfl] at hj
    by_cases z2 : (j : Int) < A 6 (I 11).toNat
    · exact h8 j z2
    · have hj2 : j = (A 6 (I 11).toNat).toNat := by omega
      rw [hj2, c1, c3]
      exact ⟨hle, Int.le_refl _⟩
section
variable {l : Launch} {g : va_G} {tys : List (ClassId × FieldType)} {B0 : Nat} {τ : kTau}
theorem ar_upd (h0 : gE1 g) {GI : kGI} {H H' : Heap} {a b k t m i : Nat} {cA : ClassId} {f : Nat → Value} {y : Int32} (hkt : (k, t) ∈ gAT) (hH : k_HT (gE g tys B0 GI) τ H) (ha : τ a = some 11) (fb : (H[a]?).bind (fun c => c.slots[g.2 12 k]?) = some (.ref b)) (hc : H[b]? = some (arrV cA m f)) (fr : k_fr (gE g tys B0 GI) τ [(t, 0)] H H') (s : H'[b]? = some (arrV cA m (updV f i (.int y)))) (hi : i < m) : upA k i y.toInt (vI g H a) (vI g H' a) (vA g H a) (vA g H' a) := by
  have hnt : t ≠ 11 := by
    have hz : ∀ w ∈ gAT, w.2 ≠ 11 := by decide
    exact hz _ hkt
  have hno : ∀ j, (11, j) ∉ [(t, 0)] := fun j => by simp only [List.mem_singleton, Prod.mk.injEq, not_and]; exact fun z => absurd z.symm hnt
  refine ⟨fun j hj => vI_kept fr ha hj (hno j), fun w hw hne => vA_kept h0 hH fr ha hw (hno _) ?_, fun j => ?_⟩
  · simp only [List.mem_singleton, Prod.mk.injEq, not_and]
    intro z
    have hz : ∀ w ∈ gAT, ∀ v ∈ gAT, w.2 = v.2 → w.1 = v.1 := by decide
    exact absurd (hz w hw _ hkt z) hne
  · have h : k_fld (gE g tys B0 GI) H' a 12 k = k_fld (gE g tys B0 GI) H a 12 k := (fr.2.2 a 11 ha).1 _ gM_at _ (gAT_ok _ hkt).1 (hno k)
    have h : (H'[a]?).bind (fun c => c.slots[g.2 12 k]?) = (H[a]?).bind (fun c => c.slots[g.2 12 k]?) := h
    have e1 : vA g H' a k = vE H' b := by unfold vA; rw [h, fb]
    have e2 : vA g H a k = vE H b := by unfold vA; rw [fb]
    rw [e1, e2]
    exact vE_upd hc s hi j
theorem th1 {a : Nat} (ha : τ a = some 11) : ∀ (i : Nat) (x : kInfo), ([.inr (.inr (.inl (false, [11])))] : List kInfo)[i]? = some x → ∃ v, ([.ref a] : List Value)[i]? = some v ∧ k_ok τ x v
  | 0, _, hx => by cases hx; exact ⟨.ref a, rfl, Or.inr ⟨a, 11, rfl, List.mem_singleton.mpr rfl, ha⟩⟩
  | _ + 1, _, hx => by cases hx
theorem go_kc (h0 : gE1 g) {GI : kGI} {H : Heap} {a : Nat} (hH : k_HT (gE g tys B0 GI) τ H) (ha : τ a = some 11) : ∀ t, t < 6 → 0 ≤ vA g H a 6 t ∧ vA g H a 6 t ≤ 12 := by
  intro t ht
  obtain ⟨b, fb, tb, eb⟩ := vR_in h0 hH ha (k := 6) (t := 36) rfl
  obtain ⟨cA, ty, m, f, q1, q2, q3, q4, q5⟩ := k_arr hH tb (show gTT[36]? = some (.inr _) from rfl)
  have q3 : 6 ≤ m := q3
  obtain ⟨y, hy, l1, l2⟩ := q5 t (by omega)
  rw [eb, vE_at q2 (by omega) hy]
  exact ⟨l1, l2⟩
theorem x_lcst {X : kX} {E : kE} {nL : Nat} {cc : ByteArray} {own : String} {I : List (Nat × Instr × Nat)} {FL : List (Nat × Nat × Nat × Nat)} {CI CJ : List (Nat × Int)} {K : kCtr} {rk : Nat} {ps : List Value} {H : Heap} {pc : Nat} {L : List (Nat × Value)} {st : List Value} {i : Instr} {n : Nat} {c : Int} (hC : xC X E nL τ cc own I FL CI CJ K rk ps) (h : k_cd I pc = some (i, n)) (e : k_lcst CJ i = some (c, n)) (k : ∀ x : Int64, kx X E H (pc + n) nL L (.long x :: st)) : kx X E H pc nL L st := by
  have hF := xF hC
  have hCJ := xCJ hC
  have hdc := xD hC _ (k_cd_ok h)
  intro locs hl ls hls
  exact k_lcst_ok hF hCJ e hdc (fun x _ => k x locs hl ls hls)
/-- .. = length[text] into clause -/
theorem go_tail (h0 : gE1 g) {GI : kGI} {X : kX} {K : kCtr} {ps : List Value} {H : Heap} {a bC p : Nat} {x : Int32} {L : List (Nat × Value)} {st : List Value} (hC : xC X (gE g tys B0 GI) 2 τ cX12_isGoHere yX12_isGoHere.cls I_X12_isGoHere gFL12 gCI12 gCJ12 K 2 ps) (hc : k_cd I_X12_isGoHere p = some (.aload_n 0, 1) ∧ k_cd I_X12_isGoHere (p + 1) = some (.getfield 17, 3) ∧ k_cd I_X12_isGoHere (p + 4) = some (.aload_n 0, 1) ∧ k_cd I_X12_isGoHere (p + 5) = some (.getfield 147, 3) ∧ k_cd I_X12_isGoHere (p + 8) = some (.iaload, 1) ∧ k_cd I_X12_isGoHere (p + 9) = some (.iastore, 1)) (hL : k_lv L 0 = some (.ref a)) (hH : k_HT (gE g tys B0 GI) τ H) (ha : τ a = some 11) (fC : (H[a]?).bind (fun c => c.slots[g.2 12 5]?) = some (.ref bC)) (tC : τ bC = some 35) (hx : 0 ≤ x.toInt ∧ x.toInt < 288)
    (kk : ∀ H', k_HT (gE g tys B0 GI) τ H' → k_fr (gE g tys B0 GI) τ [(35, 0)] H H' → upA 5 x.toInt.toNat (vA g H a 4 (vI g H a 11).toNat) (vI g H a) (vI g H' a) (vA g H a) (vA g H' a) → kx X (gE g tys B0 GI) H' (p + 10) 2 L st) : kx X (gE g tys B0 GI) H p 2 L (.int x :: .ref bC :: st) := by
  obtain ⟨c1, c2, c3, c4, c5, c6⟩ := hc
  obtain ⟨xt, ft, et, l1, l2⟩ := vI_in h0 hH ha (k := 11) rfl
  obtain ⟨b, fb, tb, eb⟩ := vR_in h0 hH ha (k := 4) (t := 34) rfl
  obtain ⟨cA, ty, m, f, q1, q2, q3, q4, q5⟩ := k_arr hH tb (show gTT[34]? = some (.inr _) from rfl)
  obtain ⟨cA5, ty5, m5, f5, r1, r2, r3, r4, r5⟩ := k_arr hH tC (show gTT[35]? = some (.inr _) from rfl)
  have q3 : 7 ≤ m := q3
  have r3 : 288 ≤ m5 := r3
  have l1 : 0 ≤ xt.toInt := l1
  have l2 : xt.toInt ≤ 6 := l2
  obtain ⟨yl, hy, m1, m2⟩ := q5 xt.toInt.toNat (by omega)
  have hyl : vA g H a 4 (vI g H a 11).toNat = yl.toInt := by rw [et, eb]; exact vE_at q2 (by omega) hy
  refine x_lda hC c1 rfl hL ?_
  refine x_get hC c2 rfl hH ha gM_at rfl (by decide) fb ?_
  refine x_lda hC c3 rfl hL ?_
  refine x_get hC c4 rfl hH ha gM_at rfl (by decide) ft ?_
  refine x_ald hC c5 (ai := 0) rfl q1 q2 ⟨l1, by omega⟩ hy ?_
  refine x_iast hC c6 hH tC (show gTT[35]? = some (.inr _) from rfl) rfl r2 ⟨hx.1, by omega⟩ ⟨_, rfl, k_in_top _⟩ (fun H' hH' fr s o => ?_)
  refine kk H' hH' fr ?_
  rw [hyl]
  exact ar_upd h0 (k := 5) (t := 35) (by decide) hH ha fC r2 fr s (by omega)
theorem go_last (h0 : gE1 g) (hu : gU τ) {c : gGh} {X : kX} {a : Nat} {xat : Int32} (hC : xC X (gE g tys B0 (gGI g c)) 2 τ cX12_isGoHere yX12_isGoHere.cls I_X12_isGoHere gFL12 gCI12 gCJ12 K_X12_isGoHere 2 [.ref a]) (ha : τ a = some 11) {H : Heap} (hH : k_HT (gE g tys B0 (gGI g c)) τ H) (hf : k_fr (gE g tys B0 (gGI g c)) τ K_X12_isGoHere.2.2.2.1 X.2.2.2.2.1.heap H) {b : gB} {n k m L e : Nat} (h : bP b n k m (vI g H a) (vA g H a)) (hl : 0 ≤ vI g H a 14) (hc : vA g H a 6 (vI g H a 11).toNat + 1 ≤ vI g H a 14) (hc1 : vA g H a 6 (vI g H a 11).toNat ≤ 11) (hat : xat.toInt = 48 * vI g H a 11 + 4 * vA g H a 6 (vI g H a 11).toNat)
    (c0 : vA g H a 5 xat.toInt.toNat = (L : Int)) (c1 : vA g H a 5 (xat.toInt.toNat + 1) = (L : Int) + (e : Int)) (s1 : hs (vA g H a 3) (400 * (vI g H a 11).toNat + L) e = some 1) (hle : (L : Int) + (e : Int) ≤ vA g H a 4 (vI g H a 11).toNat)
    (c2 : vA g H a 5 (xat.toInt.toNat + 2) < 0 ∨ ∃ e' : Nat, vA g H a 5 (xat.toInt.toNat + 2) = (L : Int) + (e : Int) ∧ vA g H a 4 (vI g H a 11).toNat = (L : Int) + (e : Int) + (e' : Int) ∧ hs (vA g H a 3) (400 * (vI g H a 11).toNat + (L + e)) e' = some 1) : kx X (gE g tys B0 (gGI g c)) H 110 2 [(1, .int xat), (0, .ref a)] [] := by
  have hkc := go_kc h0 hH ha
  have t1 := h.2.1
  have t2 := h.2.2.1
  have ht6 : (vI g H a 11).toNat < 6 := by omega
  have hcs := hkc _ ht6
  have hnat : xat.toInt.toNat = 48 * (vI g H a 11).toNat + 4 * (vA g H a 6 (vI g H a 11).toNat).toNat := by omega
  obtain ⟨bC, fC, tC, eC⟩ := vR_in h0 hH ha (k := 5) (t := 35) rfl
  have hx3 : (k_binV .iadd xat (Int32.ofInt 3)).toInt = xat.toInt + 3 := i_add (by rw [i_of (by decide) (by decide)]) (by omega) (by omega)
  refine x_lda hC rfl rfl rfl ?_
  refine x_get hC rfl rfl hH ha gM_at rfl (by decide) fC ?_
  refine x_ldi hC rfl rfl rfl ?_
  refine x_cst hC rfl rfl ?_
  refine x_bin hC rfl rfl ?_
  refine go_tail h0 hC (p := 117) ⟨rfl, rfl, rfl, rfl, rfl, rfl⟩ rfl hH ha fC tC (by rw [hx3]; omega) (fun H9 hH9 fr9 u9 => ?_)
  rw [hx3, show (xat.toInt + 3).toNat = xat.toInt.toNat + 3 by omega] at u9
  have h9 := go_cl h (fun t ht => (hkc t ht).2) ⟨by rw [hnat]; omega, by rw [hnat]; omega⟩ u9
  have v11 := u9.1 11 (by decide)
  have v14 := u9.1 14 (by decide)
  have w3 : vA g H9 a 3 = vA g H a 3 := u9.2.1 (3, 33) (by decide) (by decide)
  have w4 : vA g H9 a 4 = vA g H a 4 := u9.2.1 (4, 34) (by decide) (by decide)
  have w6 : vA g H9 a 6 = vA g H a 6 := u9.2.1 (6, 36) (by decide) (by decide)
  have w5 : ∀ r, r ≤ 2 → vA g H9 a 5 (xat.toInt.toNat + r) = vA g H a 5 (xat.toInt.toNat + r) := fun r hr => by rw [u9.2.2, if_neg (by omega)]
  have w53 : vA g H9 a 5 (xat.toInt.toNat + 3) = vA g H a 4 (vI g H a 11).toNat := by rw [u9.2.2, if_pos rfl]
  have w50 := w5 0 (by decide)
  rw [Nat.add_zero] at w50
  -- clauses[text]++
  obtain ⟨xt, ft, et, l1, l2⟩ := vI_in h0 hH9 ha (k := 11) rfl
  obtain ⟨b6, f6, t6, e6⟩ := vR_in h0 hH9 ha (k := 6) (t := 36) rfl
  obtain ⟨cA, ty, m6, f, q1, q2, q3, q4, q5⟩ := k_arr hH9 t6 (show gTT[36]? = some (.inr _) from rfl)
  have q3 : 6 ≤ m6 := q3
  have hxt : xt.toInt = vI g H a 11 := by rw [← et, v11]
  obtain ⟨y, hy, y1, y2⟩ := q5 xt.toInt.toNat (by omega)
  have hyv : vA g H9 a 6 (vI g H9 a 11).toNat = y.toInt := by rw [et, e6]; exact vE_at q2 (by omega) hy
  have hyc : y.toInt = vA g H a 6 (vI g H a 11).toNat := by rw [← hyv, w6, v11]
  have hx1 : (k_binV .iadd y (Int32.ofInt 1)).toInt = y.toInt + 1 := i_add (by rw [i_of (by decide) (by decide)]) (by omega) (by omega)
  refine x_lda hC rfl rfl rfl ?_
  refine x_get hC rfl rfl hH9 ha gM_at rfl (by decide) f6 ?_
  refine x_lda hC rfl rfl rfl ?_
  refine x_get hC rfl rfl hH9 ha gM_at rfl (by decide) ft ?_
  refine x_dup2 hC rfl rfl rfl ?_
  refine x_ald hC rfl (ai := 0) rfl q1 q2 ⟨by omega, by omega⟩ hy ?_
  refine x_cst hC rfl rfl ?_
  refine x_bin hC rfl rfl ?_
  refine x_iast hC rfl hH9 t6 (show gTT[36]? = some (.inr _) from rfl) rfl q2 ⟨by omega, by omega⟩ ⟨_, rfl, by rw [hx1]; show (0 : Int) ≤ _; omega, by rw [hx1]; show _ ≤ (12 : Int); omega⟩ (fun HA hHA frA sA oA => ?_)
  have uA := ar_upd h0 (k := 6) (t := 36) (by decide) hH9 ha f6 q2 frA sA (by omega)
  rw [hx1, ← hyv, ← et] at uA
  have key := go_fin (L := L) (e := e) h9 (by rw [v14]; exact hl) (by rw [v11, v14, w6]; exact hc) (by rw [v11, w6]; exact hcs.1) (by rw [v11, w6]; exact hc1) (fun t ht => by rw [w6]; exact (hkc t ht).2)
    (by rw [v11, w6, ← hnat, w50]; exact c0) (by rw [v11, w6, ← hnat, w5 1 (by decide)]; exact c1) (by rw [v11, w6, ← hnat, w53, w4]) (by rw [v11, w3]; exact s1) (by rw [v11, w4]; exact hle)
    (by rw [v11, w6, ← hnat, w5 2 (by decide), w3, w4]; exact c2) uA
  refine x_cst hC rfl rfl ?_
  refine x_zret hC rfl ⟨by decide, by decide⟩ ⟨hHA, k_fr_trans (k_fr_trans hf fr9 (by decide +kernel)) frA (by decide +kernel), fun _ h => (by cases h), _, List.mem_of_getElem? (i := 1) rfl, ⟨_, rfl, _, rfl, by decide, by decide⟩, fun _ h => (by cases h), List.forall_mem_cons.mpr ⟨⟨fun z => absurd z (by decide +kernel), fun _ => gGI_put (i := 1) (by decide +kernel) ha (gU_of hu ha) key.1⟩, List.forall_mem_cons.mpr ⟨⟨fun z => absurd z (by decide +kernel), fun _ => gGI_put (i := 60) (by decide +kernel) ha (gU_of hu ha) key.2⟩, List.forall_mem_nil _⟩⟩⟩
theorem go_mid (h0 : gE1 g) (hu : gU τ) (hT : ∀ GI, k_tys (gE g tys B0 GI)) {c : gGh} {X : kX} {a : Nat} {xat : Int32} (hC : xC X (gE g tys B0 (gGI g c)) 2 τ cX12_isGoHere yX12_isGoHere.cls I_X12_isGoHere gFL12 gCI12 gCJ12 K_X12_isGoHere 2 [.ref a]) (hts : ∀ w ∈ gTB, w.before X.2.2.2.2.2.2.1 X.2.2.2.2.1 = true) (hr : X.2.2.2.1 = ⟨16, 0, 0, 600⟩) (ha : τ a = some 11) {H3 : Heap} (hH3 : k_HT (gE g tys B0 (gGI g c)) τ H3) (fA : k_fr (gE g tys B0 (gGI g c)) τ K_X12_isGoHere.2.2.2.1 X.2.2.2.2.1.heap H3) {L : Nat} (h3 : bP (L, fun _ => True) 1 13 1 (vI g H3 a) (vA g H3 a)) (hc : vA g H3 a 6 (vI g H3 a 11).toNat + 1 ≤ vI g H3 a 14) (hln : vI g H3 a 14 ≤ 12) (hat : xat.toInt = 48 * vI g H3 a 11 + 4 * vA g H3 a 6 (vI g H3 a 11).toNat) (c0 : vA g H3 a 5 xat.toInt.toNat = (L : Int)) : kx X (gE g tys B0 (gGI g c)) H3 48 2 [(1, .int xat), (0, .ref a)] [] := by
  have hF := xF hC
  have hK : kK g gCl tys B0 X.2.2.2.2.1 := xKK hC
  have huq := gU_of hu ha
  have hkc := go_kc h0 hH3 ha
  have t1 := h3.2.1
  have t2 := h3.2.2.1
  have hcs := hkc (vI g H3 a 11).toNat (by omega)
  have hnat : xat.toInt.toNat = 48 * (vI g H3 a 11).toNat + 4 * (vA g H3 a 6 (vI g H3 a 11).toNat).toNat := by omega
  obtain ⟨bC, fC, tC, eC⟩ := vR_in h0 hH3 ha (k := 5) (t := 35) rfl
  have hx1 : (k_binV .iadd xat (Int32.ofInt 1)).toInt = xat.toInt + 1 := i_add (by rw [i_of (by decide) (by decide)]) (by omega) (by omega)
  have hx2 : (k_binV .iadd xat (Int32.ofInt 2)).toInt = xat.toInt + 2 := i_add (by rw [i_of (by decide) (by decide)]) (by omega) (by omega)
  refine x_lda hC rfl rfl rfl ?_
  refine x_get hC rfl rfl hH3 ha gM_at rfl (by decide) fC ?_
  refine x_ldi hC rfl rfl rfl ?_
  refine x_cst hC rfl rfl ?_
  refine x_bin hC rfl rfl ?_
  refine go_tail h0 hC (p := 55) ⟨rfl, rfl, rfl, rfl, rfl, rfl⟩ rfl hH3 ha fC tC (by rw [hx1]; omega) (fun H4 hH4 fr4 u4 => ?_)
  rw [hx1, show (xat.toInt + 1).toNat = xat.toInt.toNat + 1 by omega] at u4
  have h4 := go_cl h3 (fun t ht => (hkc t ht).2) ⟨by omega, by omega⟩ u4
  have p11 := u4.1 11 (by decide)
  have p14 := u4.1 14 (by decide)
  have p4 : vA g H4 a 4 = vA g H3 a 4 := u4.2.1 (4, 34) (by decide) (by decide)
  have p6 : vA g H4 a 6 = vA g H3 a 6 := u4.2.1 (6, 36) (by decide) (by decide)
  obtain ⟨bD, fD, tD, eD⟩ := vR_in h0 hH4 ha (k := 5) (t := 35) rfl
  obtain ⟨cA5, ty5, m5, f5, r1, r2, r3, r4, r5⟩ := k_arr hH4 tD (show gTT[35]? = some (.inr _) from rfl)
  have r3 : 288 ≤ m5 := r3
  refine x_lda hC rfl rfl rfl ?_
  refine x_get hC rfl rfl hH4 ha gM_at rfl (by decide) fD ?_
  refine x_ldi hC rfl rfl rfl ?_
  refine x_cst hC rfl rfl ?_
  refine x_bin hC rfl rfl ?_
  refine x_cst hC rfl rfl ?_
  refine x_iast hC rfl hH4 tD (show gTT[35]? = some (.inr _) from rfl) rfl r2 (by rw [hx2]; omega) ⟨_, rfl, k_in_top _⟩ (fun H5 hH5 fr5 s5 o5 => ?_)
  have u5 := ar_upd h0 (k := 5) (t := 35) (by decide) hH4 ha fD r2 fr5 s5 (by rw [hx2]; omega)
  rw [hx2, show (xat.toInt + 2).toNat = xat.toInt.toNat + 2 by omega, i_of (by decide) (by decide)] at u5
  have h5 := go_cl h4 (fun t ht => by rw [p6]; exact (hkc t ht).2) ⟨by rw [p11, p6]; omega, by rw [p11]; omega⟩ u5
  have q11 := u5.1 11 (by decide)
  have q14 := u5.1 14 (by decide)
  have q4 : vA g H5 a 4 = vA g H4 a 4 := u5.2.1 (4, 34) (by decide) (by decide)
  have q6 : vA g H5 a 6 = vA g H4 a 6 := u5.2.1 (6, 36) (by decide) (by decide)
  refine x_lda hC rfl rfl rfl ?_
  refine x_lcst hC rfl rfl (fun wd => ?_)
  refine x_call (E2 := gE g tys B0 (gGI g c)) (K2 := K_X12_takesWord) (as := [.ref a, .long wd]) (rest := []) (k_callV (cc := cX12_isGoHere) (C := RX12) hF hK hts gGood (C_X12_takesWord (l := X.2.1) h0 hu hT c) wk_X12_takesWord.1 wk_X12_takesWord.2.1 wl_RX12_213 wk_X12_takesWord.2.2.1 wk_X12_takesWord.2.2.2 rfl rfl rfl rfl rfl wd_X12_takesWord ⟨by rw [hr]; decide, by rw [hr]; decide⟩ (dec_X12_isGoHere (78, .invokevirtual 213, 3) (List.mem_of_getElem? (i := 49) rfl))) rfl hH5 ⟨rfl, ?_, trivial, fun _ h => (by cases h)⟩ rfl (by decide) (fun H6 v hp => ?_)
  · intro i x hx
    match i, hx with
    | 0, hx => cases hx; exact ⟨.ref a, rfl, Or.inr ⟨a, 11, rfl, List.mem_singleton.mpr rfl, ha⟩⟩
    | 1, hx => cases hx; exact ⟨_, rfl, wd, rfl, k_in_topL _⟩
    | n + 2, hx => cases hx
  obtain ⟨hH6, fr6, -, A, hA, s1, -, -⟩ := hp
  have hA := List.mem_singleton.mp hA
  subst hA
  obtain ⟨w, rfl, x, rfl, x1, x2⟩ := s1
  have z11 : vI g H6 a 11 = vI g H3 a 11 := by rw [vI_kept fr6 ha (by decide +kernel) (by decide +kernel), q11, p11]
  have z12 : vI g H6 a 12 = vI g H5 a 12 := vI_kept fr6 ha (by decide +kernel) (by decide +kernel)
  have z14 : vI g H6 a 14 = vI g H3 a 14 := by rw [vI_kept fr6 ha (by decide +kernel) (by decide +kernel), q14, p14]
  have z3 : vA g H6 a 3 = vA g H5 a 3 := vA_kept h0 hH5 fr6 ha (k := 3) (t := 33) (by decide +kernel) (by decide +kernel) (by decide +kernel)
  have z4' : vA g H6 a 4 = vA g H5 a 4 := vA_kept h0 hH5 fr6 ha (k := 4) (t := 34) (by decide +kernel) (by decide +kernel) (by decide +kernel)
  have z4 : vA g H6 a 4 = vA g H3 a 4 := by rw [z4', q4, p4]
  have z5 : vA g H6 a 5 = vA g H5 a 5 := vA_kept h0 hH5 fr6 ha (k := 5) (t := 35) (by decide +kernel) (by decide +kernel) (by decide +kernel)
  have z6' : vA g H6 a 6 = vA g H5 a 6 := vA_kept h0 hH5 fr6 ha (k := 6) (t := 36) (by decide +kernel) (by decide +kernel) (by decide +kernel)
  have z6 : vA g H6 a 6 = vA g H3 a 6 := by rw [z6', q6, p6]
  have h6 := bP_congr h5 (by rw [z11, q11, p11]) z12 z3 z4' z5 z6'
  have fB : k_fr (gE g tys B0 (gGI g c)) τ K_X12_isGoHere.2.2.2.1 X.2.2.2.2.1.heap H6 := k_fr_trans (k_fr_trans (k_fr_trans fA fr4 (by decide +kernel)) fr5 (by decide +kernel)) fr6 (by decide +kernel)
  obtain ⟨e, hlen, hseg⟩ := h6.2.2.2.2.2.2.1
  have hlen : vA g H6 a 4 (vI g H6 a 11).toNat = (L : Int) + (e : Int) := hlen
  have hseg : hs (vA g H6 a 3) (400 * (vI g H6 a 11).toNat + L) e = some 1 := hseg
  have k0 : vA g H6 a 5 xat.toInt.toNat = (L : Int) := by rw [z5, u5.2.2, if_neg (by omega), u4.2.2, if_neg (by omega)]; exact c0
  have k1 : vA g H6 a 5 (xat.toInt.toNat + 1) = (L : Int) + (e : Int) := by rw [z5, u5.2.2, if_neg (by omega), u4.2.2, if_pos rfl, ← hlen, z4, z11]
  have k2 : vA g H6 a 5 (xat.toInt.toNat + 2) = -1 := by rw [z5, u5.2.2, if_pos rfl]
  have hl6 : 0 ≤ vI g H6 a 14 := by rw [z14]; omega
  have hc6 : vA g H6 a 6 (vI g H6 a 11).toNat + 1 ≤ vI g H6 a 14 := by rw [z14, z6, z11]; exact hc
  have hc61 : vA g H6 a 6 (vI g H6 a 11).toNat ≤ 11 := by rw [z6, z11]; omega
  have hat6 : xat.toInt = 48 * vI g H6 a 11 + 4 * vA g H6 a 6 (vI g H6 a 11).toNat := by rw [z6, z11]; exact hat
  refine x_if (t := 110) hC rfl (by decide) (fun z => ?_) (fun z => ?_)
  · exact go_last h0 hu hC ha hH6 fB h6 hl6 hc6 hc61 hat6 k0 k1 hseg (by rw [hlen]; exact Int.le_refl _) (Or.inl (by rw [k2]; decide))
  -- a test follows
  clear z x1 x2
  have hkc6 := go_kc h0 hH6 ha
  obtain ⟨bF, fF, tF, eF⟩ := vR_in h0 hH6 ha (k := 5) (t := 35) rfl
  refine x_lda hC rfl rfl rfl ?_
  refine x_get hC rfl rfl hH6 ha gM_at rfl (by decide) fF ?_
  refine x_ldi hC rfl rfl rfl ?_
  refine x_cst hC rfl rfl ?_
  refine x_bin hC rfl rfl ?_
  refine go_tail h0 hC (p := 91) ⟨rfl, rfl, rfl, rfl, rfl, rfl⟩ rfl hH6 ha fF tF (by rw [hx2]; omega) (fun H7 hH7 fr7 u7 => ?_)
  rw [hx2, show (xat.toInt + 2).toNat = xat.toInt.toNat + 2 by omega] at u7
  have h7a := go_cl h6 (fun t ht => (hkc6 t ht).2) ⟨by rw [z11, z6]; omega, by rw [z11]; omega⟩ u7
  have y11 := u7.1 11 (by decide)
  have y14 := u7.1 14 (by decide)
  have y3 : vA g H7 a 3 = vA g H6 a 3 := u7.2.1 (3, 33) (by decide) (by decide)
  have y4 : vA g H7 a 4 = vA g H6 a 4 := u7.2.1 (4, 34) (by decide) (by decide)
  have y6 : vA g H7 a 6 = vA g H6 a 6 := u7.2.1 (6, 36) (by decide) (by decide)
  have hlen7 : vA g H7 a 4 (vI g H7 a 11).toNat = (L : Int) + (e : Int) := by rw [y4, y11]; exact hlen
  have hLe : (vA g H7 a 4 (vI g H7 a 11).toNat).toNat = L + e := by rw [hlen7]; omega
  obtain ⟨b0, b1, b2, b3, b4, b5, -, b7, b8, -⟩ := h7a
  have h7 : bP (L + e, fun f => hs f (400 * (vI g H7 a 11).toNat + L) e = some 1) 0 0 0 (vI g H7 a) (vA g H7 a) := by
    have := go_begin (W := fun f => hs f (400 * (vI g H7 a 11).toNat + L) e = some 1) b0 b1 b2 (by rw [hlen7]; omega) (by omega) b3 b8 (fun f hf => by
      show hs f (400 * (vI g H7 a 11).toNat + L) e = some 1
      rw [hs_eq (f := vA g H7 a 3) (fun j j1 j2 => hf j (by rw [hLe]; omega)), y3, y11]
      exact hseg)
    rw [hLe] at this
    exact this
  refine x_lda hC rfl rfl rfl ?_
  refine x_call (E2 := gE g tys B0 (gGI g ((L + e, fun f => hs f (400 * (vI g H7 a 11).toNat + L) e = some 1), 0, 0, 0, 0))) (K2 := K_X12_tested_10_54) (as := [.ref a]) (rest := []) (k_callV (cc := cX12_isGoHere) (C := RX12) hF hK hts gGood (C_X12_tested_10_54 (l := X.2.1) h0 hu hT ((L + e, fun f => hs f (400 * (vI g H7 a 11).toNat + L) e = some 1), 0, 0, 0, 0)) wk_X12_tested.1 wk_X12_tested.2.1 wl_RX12_216 wk_X12_tested.2.2.1 wk_X12_tested.2.2.2 rfl rfl rfl rfl rfl wd_X12_tested ⟨by rw [hr]; decide, by rw [hr]; decide⟩ (dec_X12_isGoHere (102, .invokevirtual 216, 3) (List.mem_of_getElem? (i := 63) rfl))) rfl (k_HT_g hH7) ⟨rfl, th1 ha, trivial, List.forall_mem_cons.mpr ⟨gGI_put (i := 1) (by decide) ha huq h7.1, List.forall_mem_cons.mpr ⟨gGI_put (i := 10) (by decide) ha huq h7, List.forall_mem_nil _⟩⟩⟩ rfl (by decide) (fun H8 v hp => ?_)
  obtain ⟨hH8, fr8, -, A, hA, s1, -, s3⟩ := hp
  have hH8 : k_HT (gE g tys B0 (gGI g c)) τ H8 := k_HT_g hH8
  have fr8 : k_fr (gE g tys B0 (gGI g c)) τ K_X12_tested_10_54.2.2.2.1 H7 H8 := k_fr_g fr8
  have fD8 : k_fr (gE g tys B0 (gGI g c)) τ K_X12_isGoHere.2.2.2.1 X.2.2.2.2.1.heap H8 := k_fr_trans (k_fr_trans fB fr7 (by decide +kernel)) fr8 (by decide +kernel)
  have hA : A ∈ [((some (.inl (0, 0)), [], [(1001, 0, .inl (0, 1))]) : kAlt), (some (.inl (1, 1)), [], [(1001, 0, .inl (0, 1)), (1054, 0, .inl (0, 1))])] := hA
  rcases List.mem_cons.mp hA with rfl | hA
  · obtain ⟨w, rfl, x, rfl, x1, x2⟩ := s1
    have g1 := ((s3 (1001, 0, .inl (0, 1)) (List.mem_of_getElem? (i := 0) rfl)).2 (by decide)).2.2 a ha
    have g1 : bGood (vA g H8 a 3) (vA g H8 a 5) (vA g H8 a 6) := g1.2
    refine x_if (t := 110) hC rfl (by decide) (fun z => ?_) (fun z => ?_)
    · have z : ¬ x.toInt = 0 := z
      have x1 : (0 : Int) ≤ x.toInt := x1
      have x2 : x.toInt ≤ 0 := x2
      omega
    · refine x_cst hC rfl rfl ?_
      exact x_zret hC rfl ⟨by decide, by decide⟩ ⟨hH8, fD8, fun _ h => (by cases h), _, List.mem_of_getElem? (i := 0) rfl, ⟨_, rfl, _, rfl, by decide, by decide⟩, fun _ h => (by cases h), List.forall_mem_cons.mpr ⟨⟨fun z => absurd z (by decide), fun _ => gGI_put (i := 1) (by decide) ha huq g1⟩, List.forall_mem_nil _⟩⟩
  have hA := List.mem_singleton.mp hA
  subst hA
  obtain ⟨w, rfl, x, rfl, x1, x2⟩ := s1
  have h8 := ((s3 (1054, 0, .inl (0, 1)) (List.mem_of_getElem? (i := 1) rfl)).2 (by decide)).2.2 a ha
  have h8 : bP (L + e, fun f => hs f (400 * (vI g H7 a 11).toNat + L) e = some 1) 1 0 0 (vI g H8 a) (vA g H8 a) := h8.2
  refine x_if (t := 110) hC rfl (by decide) (fun z => ?_) (fun z => absurd (show ¬ x.toInt = 0 from (by have x1 : (1 : Int) ≤ x.toInt := x1; omega)) z)
  have m11 : vI g H8 a 11 = vI g H7 a 11 := vI_kept fr8 ha (by decide +kernel) (by decide +kernel)
  have m14 : vI g H8 a 14 = vI g H7 a 14 := vI_kept fr8 ha (by decide +kernel) (by decide +kernel)
  have m5 : vA g H8 a 5 = vA g H7 a 5 := vA_kept h0 hH7 fr8 ha (k := 5) (t := 35) (by decide +kernel) (by decide +kernel) (by decide +kernel)
  have m6 : vA g H8 a 6 = vA g H7 a 6 := vA_kept h0 hH7 fr8 ha (k := 6) (t := 36) (by decide +kernel) (by decide +kernel) (by decide +kernel)
  obtain ⟨e', hlen8, hseg8⟩ := h8.2.2.2.2.2.2.1
  have hlen8 : vA g H8 a 4 (vI g H8 a 11).toNat = ((L + e : Nat) : Int) + (e' : Int) := hlen8
  have hseg8 : hs (vA g H8 a 3) (400 * (vI g H8 a 11).toNat + (L + e)) e' = some 1 := hseg8
  have hW : hs (vA g H8 a 3) (400 * (vI g H7 a 11).toNat + L) e = some 1 := h8.2.2.2.2.2.2.2.2.2 _ (fun _ _ => rfl)
  refine go_last h0 hu hC ha hH8 fD8 h8 (by rw [m14, y14]; exact hl6) (by rw [m14, y14, m6, y6, m11, y11]; exact hc6) (by rw [m6, y6, m11, y11]; exact hc61) (by rw [m6, y6, m11, y11]; exact hat6) (L := L) (e := e) ?_ ?_ (by rw [m11]; exact hW) (by rw [hlen8]; omega) (Or.inr ⟨e', ?_, by rw [hlen8]; omega, hseg8⟩)
  · rw [m5, u7.2.2, if_neg (by omega)]; exact k0
  · rw [m5, u7.2.2, if_neg (by omega)]; exact k1
  · rw [m5, u7.2.2, if_pos rfl]; exact hlen
theorem C_X12_isGoHere (h0 : gE1 g) (hu : gU τ) (hT : ∀ GI, k_tys (gE g tys B0 GI)) (c : gGh) : k_Met l (gE g tys B0 (gGI g c)) τ gTB yX12_isGoHere cX12_isGoHere 2 2 K_X12_isGoHere ⟨16, 0, 0, 600⟩ := by
  refine x_met (I := I_X12_isGoHere) (FL := gFL12) (CI := gCI12) (CJ := gCJ12) (by decide +kernel) dec_X12_isGoHere (fun X hts => ⟨gFLk12 hts, gCIk12 hts, gCJk12 hts⟩) (gEok0 h0) (hT _) (fun _ => by show 1 ≤ 2; decide) ?_
  intro X ps hl hr hts hC hH hpre
  obtain ⟨a, rfl, ha⟩ := see_arg rfl hpre
  have hF := xF hC
  have hK : kK g gCl tys B0 X.2.2.2.2.1 := xKK hC
  have huq := gU_of hu ha
  have hg1 := ((hpre.2.2.2 1 (by decide)).2.2 a ha).2
  have hg1 : bGood (vA g X.2.2.2.2.1.heap a 3) (vA g X.2.2.2.2.1.heap a 5) (vA g X.2.2.2.2.1.heap a 6) := hg1
  have hR := ((hpre.2.2.2 61 (by decide)).2.2 a ha).2
  have hR : bR (vI g X.2.2.2.2.1.heap a) (vA g X.2.2.2.2.1.heap a) 1 := hR
  obtain ⟨R1, R2, R3, R4, R5, R6, R7, R8⟩ := hR
  have hln : vI g X.2.2.2.2.1.heap a 14 ≤ 12 := by
    obtain ⟨v, w, w1, ⟨a', t', d, e1, e2, e3, e4, e5⟩, ⟨xl, rfl, b1, b2⟩, -⟩ := hpre.2.2.1
    have : v = .ref a := by simpa using w1.symm
    subst this
    have : a' = a := (Value.ref.inj e1).symm
    subst this
    have : t' = 11 := Option.some.inj (e2.symm.trans ha)
    subst this
    have e3' : gTT[11]? = some (.inl d) := e3
    rw [gM_at] at e3'
    have : d = (12, gMF) := (Sum.inl.inj (Option.some.inj e3')).symm
    subst this
    have e5 : (X.2.2.2.2.1.heap[a']?).bind (fun c => c.slots[g.2 12 14]?) = some (.int xl) := e5
    have : vI g X.2.2.2.2.1.heap a' 14 = xl.toInt := by unfold vI; rw [e5]
    rw [this]
    exact b2
  refine x_lda hC rfl rfl rfl ?_
  refine x_call (E2 := gE g tys B0 (gGI g c)) (K2 := K_X12_passWord) (as := [.ref a]) (rest := []) (k_callV (cc := cX12_isGoHere) (C := RX12) hF hK hts gGood (C_X12_passWord (l := X.2.1) h0 hu hT c) wk_X12_passWord.1 wk_X12_passWord.2.1 wl_RX12_108 wk_X12_passWord.2.2.1 wk_X12_passWord.2.2.2 rfl rfl rfl rfl rfl wd_X12_passWord ⟨by rw [hr]; decide, by rw [hr]; decide⟩ (dec_X12_isGoHere (1, .invokevirtual 108, 3) (List.mem_of_getElem? (i := 1) rfl))) rfl hH ⟨rfl, th1 ha, trivial, fun _ h => (by cases h)⟩ rfl (by decide) (fun H1 v hp => ?_)
  obtain ⟨hH1, fr1, -, A, hA, a1, -⟩ := hp
  have hA := List.mem_singleton.mp hA
  subst hA
  have a1 : v = none := a1
  subst a1
  have e11 : vI g H1 a 11 = vI g X.2.2.2.2.1.heap a 11 := vI_kept fr1 ha (by decide +kernel) (by decide +kernel)
  have e12 : vI g H1 a 12 = vI g X.2.2.2.2.1.heap a 12 := vI_kept fr1 ha (by decide +kernel) (by decide +kernel)
  have e14 : vI g H1 a 14 = vI g X.2.2.2.2.1.heap a 14 := vI_kept fr1 ha (by decide +kernel) (by decide +kernel)
  have a3 : vA g H1 a 3 = vA g X.2.2.2.2.1.heap a 3 := vA_kept h0 hH fr1 ha (t := 33) (by decide +kernel) (by decide +kernel) (by decide +kernel)
  have a4 : vA g H1 a 4 = vA g X.2.2.2.2.1.heap a 4 := vA_kept h0 hH fr1 ha (t := 34) (by decide +kernel) (by decide +kernel) (by decide +kernel)
  have a5 : vA g H1 a 5 = vA g X.2.2.2.2.1.heap a 5 := vA_kept h0 hH fr1 ha (t := 35) (by decide +kernel) (by decide +kernel) (by decide +kernel)
  have a6 : vA g H1 a 6 = vA g X.2.2.2.2.1.heap a 6 := vA_kept h0 hH fr1 ha (t := 36) (by decide +kernel) (by decide +kernel) (by decide +kernel)
  rw [← e11] at R1 R2
  rw [← e14] at R3 hln
  rw [← a6, ← e11, ← e14] at R4
  rw [← a4, ← e11] at R5
  rw [← a4, ← e11, ← e12] at R6
  rw [← e12] at R7
  rw [← a4, ← a5, ← a6, ← e11] at R8
  rw [← a3, ← a5, ← a6] at hg1
  have hkc := go_kc h0 hH1 ha
  have ht6 : (vI g H1 a 11).toNat < 6 := by omega
  have hcs := hkc _ ht6
  obtain ⟨xt, ft, et, l1, l2⟩ := vI_in h0 hH1 ha (k := 11) rfl
  obtain ⟨b6, f6, t6, e6⟩ := vR_in h0 hH1 ha (k := 6) (t := 36) rfl
  obtain ⟨cA, ty, m6, f, q1, q2, q3, q4, q5⟩ := k_arr hH1 t6 (show gTT[36]? = some (.inr _) from rfl)
  have q3 : 6 ≤ m6 := q3
  obtain ⟨y, hy, y1, y2⟩ := q5 xt.toInt.toNat (by rw [← et]; omega)
  have hyc : vA g H1 a 6 (vI g H1 a 11).toNat = y.toInt := by rw [et, e6]; exact vE_at q2 (by rw [← et]; omega) hy
  have h48 : (k_binV .imul (Int32.ofInt 48) xt).toInt = 48 * xt.toInt := i_mul (by rw [i_of (by decide) (by decide)]) (by omega) (by omega)
  have h4 : (k_binV .imul (Int32.ofInt 4) y).toInt = 4 * y.toInt := i_mul (by rw [i_of (by decide) (by decide)]) (by omega) (by omega)
  refine x_cst hC rfl rfl ?_
  refine x_lda hC rfl rfl rfl ?_
  refine x_get hC rfl rfl hH1 ha gM_at rfl (by decide) ft ?_
  refine x_bin hC rfl rfl ?_
  refine x_cst hC rfl rfl ?_
  refine x_lda hC rfl rfl rfl ?_
  refine x_get hC rfl rfl hH1 ha gM_at rfl (by decide) f6 ?_
  refine x_lda hC rfl rfl rfl ?_
  refine x_get hC rfl rfl hH1 ha gM_at rfl (by decide) ft ?_
  refine x_ald hC rfl (ai := 0) rfl q1 q2 ⟨by omega, by omega⟩ hy ?_
  refine x_bin hC rfl rfl ?_
  refine x_bin hC rfl rfl ?_
  generalize hxat : k_binV .iadd (k_binV .imul (Int32.ofInt 48) xt) (k_binV .imul (Int32.ofInt 4) y) = xat
  have hat : xat.toInt = 48 * vI g H1 a 11 + 4 * vA g H1 a 6 (vI g H1 a 11).toNat := by
    rw [← hxat, hyc, et]
    exact i_add (by rw [h48, h4]) (by omega) (by omega)
  refine x_ist_n hC rfl (by decide) rfl ?_
  obtain ⟨bC, fC, tC, eC⟩ := vR_in h0 hH1 ha (k := 5) (t := 35) rfl
  have hnat : xat.toInt.toNat = 48 * (vI g H1 a 11).toNat + 4 * (vA g H1 a 6 (vI g H1 a 11).toNat).toNat := by omega
  refine x_lda hC rfl rfl rfl ?_
  refine x_get hC rfl rfl hH1 ha gM_at rfl (by decide) fC ?_
  refine x_ldi hC rfl rfl rfl ?_
  refine go_tail h0 hC (p := 29) ⟨rfl, rfl, rfl, rfl, rfl, rfl⟩ rfl hH1 ha fC tC (by omega) (fun H2 hH2 fr2 u2 => ?_)
  have h2 : bP ((vA g H1 a 4 (vI g H1 a 11).toNat).toNat, fun _ => True) 0 0 0 (vI g H2 a) (vA g H2 a) := go_cl (go_begin hg1 R1 R2 R5 R6 R7 R8 (fun _ _ => trivial)) (fun t ht => (hkc t ht).2) ⟨by omega, by omega⟩ u2
  have b11 := u2.1 11 (by decide)
  have b14 := u2.1 14 (by decide)
  have b6' : vA g H2 a 6 = vA g H1 a 6 := u2.2.1 (6, 36) (by decide) (by decide)
  have c0 : vA g H2 a 5 xat.toInt.toNat = vA g H1 a 4 (vI g H1 a 11).toNat := by rw [u2.2.2, if_pos rfl]
  refine x_lda hC rfl rfl rfl ?_
  refine x_call (E2 := gE g tys B0 (gGI g (((vA g H1 a 4 (vI g H1 a 11).toNat).toNat, fun _ => True), 0, 0, 0, 0))) (K2 := K_X12_sum_10_11) (as := [.ref a]) (rest := []) (k_callV (cc := cX12_isGoHere) (C := RX12) hF hK hts gGood (C_X12_sum_10_11 (l := X.2.1) h0 hu hT (((vA g H1 a 4 (vI g H1 a 11).toNat).toNat, fun _ => True), 0, 0, 0, 0)) wk_X12_sum.1 wk_X12_sum.2.1 wl_RX12_184 wk_X12_sum.2.2.1 wk_X12_sum.2.2.2 rfl rfl rfl rfl rfl wd_X12_sum ⟨by rw [hr]; decide, by rw [hr]; decide⟩ (dec_X12_isGoHere (40, .invokevirtual 184, 3) (List.mem_of_getElem? (i := 25) rfl))) rfl (k_HT_g hH2) ⟨rfl, th1 ha, trivial, List.forall_mem_cons.mpr ⟨gGI_put (i := 1) (by decide) ha huq h2.1, List.forall_mem_cons.mpr ⟨gGI_put (i := 10) (by decide) ha huq h2, List.forall_mem_nil _⟩⟩⟩ rfl (by decide) (fun H3 v hp => ?_)
  obtain ⟨hH3, fr3, -, A, hA, s1, -, s3⟩ := hp
  have hH3 : k_HT (gE g tys B0 (gGI g c)) τ H3 := k_HT_g hH3
  have fr3 : k_fr (gE g tys B0 (gGI g c)) τ K_X12_sum_10_11.2.2.2.1 H2 H3 := k_fr_g fr3
  have fA : k_fr (gE g tys B0 (gGI g c)) τ K_X12_isGoHere.2.2.2.1 X.2.2.2.2.1.heap H3 := k_fr_trans (k_fr_trans (k_frU fr1 (by decide +kernel)) fr2 (by decide +kernel)) fr3 (by decide +kernel)
  have hA : A ∈ [((some (.inl (0, 0)), [], [(1001, 0, .inl (0, 1))]) : kAlt), (some (.inl (1, 1)), [], [(1001, 0, .inl (0, 1)), (1011, 0, .inl (0, 1))])] := hA
  rcases List.mem_cons.mp hA with rfl | hA
  · obtain ⟨w, rfl, x, rfl, x1, x2⟩ := s1
    have g1 := ((s3 (1001, 0, .inl (0, 1)) (List.mem_of_getElem? (i := 0) rfl)).2 (by decide)).2.2 a ha
    have g1 : bGood (vA g H3 a 3) (vA g H3 a 5) (vA g H3 a 6) := g1.2
    refine x_if (t := 48) hC rfl (by decide) (fun z => ?_) (fun z => ?_)
    · have z : ¬ x.toInt = 0 := z
      have x1 : (0 : Int) ≤ x.toInt := x1
      have x2 : x.toInt ≤ 0 := x2
      omega
    · refine x_cst hC rfl rfl ?_
      exact x_zret hC rfl ⟨by decide, by decide⟩ ⟨hH3, fA, fun _ h => (by cases h), _, List.mem_of_getElem? (i := 0) rfl, ⟨_, rfl, _, rfl, by decide, by decide⟩, fun _ h => (by cases h), List.forall_mem_cons.mpr ⟨⟨fun z => absurd z (by decide), fun _ => gGI_put (i := 1) (by decide) ha huq g1⟩, List.forall_mem_nil _⟩⟩
  have hA := List.mem_singleton.mp hA
  subst hA
  obtain ⟨w, rfl, x, rfl, x1, x2⟩ := s1
  have h3 := ((s3 (1011, 0, .inl (0, 1)) (List.mem_of_getElem? (i := 1) rfl)).2 (by decide)).2.2 a ha
  have h3 : bP ((vA g H1 a 4 (vI g H1 a 11).toNat).toNat, fun _ => True) 1 13 1 (vI g H3 a) (vA g H3 a) := h3.2
  refine x_if (t := 48) hC rfl (by decide) (fun z => ?_) (fun z => absurd (show ¬ x.toInt = 0 from (by have x1 : (1 : Int) ≤ x.toInt := x1; omega)) z)
  clear z s3 x1 x2
  have d11 : vI g H3 a 11 = vI g H1 a 11 := by rw [vI_kept fr3 ha (by decide +kernel) (by decide +kernel), b11]
  have d14 : vI g H3 a 14 = vI g H1 a 14 := by rw [vI_kept fr3 ha (by decide +kernel) (by decide +kernel), b14]
  have d6 : vA g H3 a 6 = vA g H1 a 6 := by rw [vA_kept h0 hH2 fr3 ha (k := 6) (t := 36) (by decide +kernel) (by decide +kernel) (by decide +kernel), b6']
  have d5 : vA g H3 a 5 = vA g H2 a 5 := vA_kept h0 hH2 fr3 ha (k := 5) (t := 35) (by decide +kernel) (by decide +kernel) (by decide +kernel)
  exact go_mid h0 hu hT hC hts hr ha hH3 fA h3 (by rw [d11, d14, d6]; exact R4) (by rw [d14]; exact hln) (by rw [d11, d6]; exact hat) (by rw [d5, c0]; omega)
end
