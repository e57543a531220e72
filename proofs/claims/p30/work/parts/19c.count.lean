/-! ===== the rules of counting: each is a fact on numbers ===== -/
theorem cq_le {p : Int → Bool} {f : Nat → Int} : ∀ n, cq p f n ≤ n
  | 0 => Nat.le_refl _
  | n + 1 => by
    unfold cq
    have := cq_le (p := p) (f := f) n
    split <;> omega
theorem bP_mono {b : gB} {n k k' m m' : Nat} {I : Nat → Int} {A : Nat → Nat → Int} (h : bP b n k m I A) (hk : k' ≤ k) (hm : m' ≤ m) : bP b n k' m' I A := by
  obtain ⟨h0, h1, h2, h3, h4, h5, h6, h7, h8⟩ := h
  exact ⟨h0, h1, h2, h3, by omega, h5, h6, by omega, h8⟩
/-- a field has changed, all else stands -/
def upI (k : Nat) (I I' : Nat → Int) (A A' : Nat → Nat → Int) : Prop := (∀ j, j < 43 → j ≠ k → I' j = I j) ∧ ∀ q ∈ gAT, A' q.1 = A q.1
/-- a place of an array has changed, all else stands -/
def upA (k i : Nat) (y : Int) (I I' : Nat → Int) (A A' : Nat → Nat → Int) : Prop := (∀ j, j < 43 → I' j = I j) ∧ (∀ q ∈ gAT, q.1 ≠ k → A' q.1 = A q.1) ∧ ∀ j, A' k j = if j = i then y else A k j
section
variable {I I' : Nat → Int} {A A' : Nat → Nat → Int} {b : gB} {n k m d : Nat} {y : Int}
theorem r_30_32 (hu : upI 13 I I' A A') (hx : I' 13 = I 13 + 1) (hl : I' 13 ≤ 10) (h : bF0 b n m I A) : bD1 b n m I' A' := by
  obtain ⟨u2, u3⟩ := hu
  have e11 := u2 11 (by decide) (by decide)
  have e12 := u2 12 (by decide) (by decide)
  have e16 := u2 16 (by decide) (by decide)
  have a3 : A' 3 = A 3 := u3 (3, 33) (by decide)
  have a4 : A' 4 = A 4 := u3 (4, 34) (by decide)
  have a5 : A' 5 = A 5 := u3 (5, 35) (by decide)
  have a6 : A' 6 = A 6 := u3 (6, 36) (by decide)
  have a15 : A' 15 = A 15 := u3 (15, 38) (by decide)
  unfold bF0 bP bAO at h
  unfold bD1 bP bAO
  rw [e11, e12, e16, a3, a4, a5, a6, a15]
  exact ⟨by rw [hx, Int.add_sub_cancel]; exact h.1, hl, h.2⟩
theorem r_37_31 (hu : upI 13 I I' A A') (hx : I' 13 = I 13 - 1) (h : bZ1 b n m I A) : bF1 b n m I' A' := by
  obtain ⟨u2, u3⟩ := hu
  have e11 := u2 11 (by decide) (by decide)
  have e12 := u2 12 (by decide) (by decide)
  have e16 := u2 16 (by decide) (by decide)
  have a3 : A' 3 = A 3 := u3 (3, 33) (by decide)
  have a4 : A' 4 = A 4 := u3 (4, 34) (by decide)
  have a5 : A' 5 = A 5 := u3 (5, 35) (by decide)
  have a6 : A' 6 = A 6 := u3 (6, 36) (by decide)
  have a15 : A' 15 = A 15 := u3 (15, 38) (by decide)
  unfold bZ1 bP bAO at h
  unfold bF1 bP bAO
  rw [e11, e12, e16, a3, a4, a5, a6, a15]
  rw [hx]
  exact h
theorem r_55_30 (hu : upI 13 I I' A A') (hx : I' 13 = 0) (h : bP b n k m I A ∧ I 16 = 0) : bF0 b n m I' A' := by
  obtain ⟨u2, u3⟩ := hu
  have e11 := u2 11 (by decide) (by decide)
  have e12 := u2 12 (by decide) (by decide)
  have e16 := u2 16 (by decide) (by decide)
  have a3 : A' 3 = A 3 := u3 (3, 33) (by decide)
  have a4 : A' 4 = A 4 := u3 (4, 34) (by decide)
  have a5 : A' 5 = A 5 := u3 (5, 35) (by decide)
  have a6 : A' 6 = A 6 := u3 (6, 36) (by decide)
  have a15 : A' 15 = A 15 := u3 (15, 38) (by decide)
  obtain ⟨h, h16⟩ := h
  have h := bP_mono h (Nat.zero_le k) (Nat.le_refl m)
  unfold bP at h
  unfold bF0 bP bAO
  rw [e11, e12, e16, a3, a4, a5, a6, a15]
  rw [hx, h16]
  exact ⟨⟨by decide, by decide, fun j hj => absurd hj (by omega), rfl, by decide⟩, h⟩
theorem r_33_30 (hu : upI 16 I I' A A') (hx : I' 16 = I 16 + 1) (hl : I' 16 ≤ 400) (h : bD1 b n m I A ∧ (A 15 (I 16).toNat = 11 ∨ A 15 (I 16).toNat = 91)) : bF0 b n m I' A' := by
  obtain ⟨u2, u3⟩ := hu
  have e11 := u2 11 (by decide) (by decide)
  have e12 := u2 12 (by decide) (by decide)
  have e13 := u2 13 (by decide) (by decide)
  have a3 : A' 3 = A 3 := u3 (3, 33) (by decide)
  have a4 : A' 4 = A 4 := u3 (4, 34) (by decide)
  have a5 : A' 5 = A 5 := u3 (5, 35) (by decide)
  have a6 : A' 6 = A 6 := u3 (6, 36) (by decide)
  have a15 : A' 15 = A 15 := u3 (15, 38) (by decide)
  obtain ⟨⟨⟨o1, o2, o3, o4, o5⟩, hd, h⟩, hw⟩ := h
  have hN : (I 16 + 1).toNat = (I 16).toNat + 1 := by omega
  have hdp : isDP (A 15 (I 16).toNat) = true := by unfold isDP; exact decide_eq_true hw
  have hao : isAO (A 15 (I 16).toNat) = false := by unfold isAO; exact decide_eq_false (by omega)
  unfold bAO bP at h
  unfold bF0 bP bAO
  rw [e11, e12, e13, a3, a4, a5, a6, a15]
  rw [hx, hN]
  have c1 : cq isDP (A 15) ((I 16).toNat + 1) = cq isDP (A 15) (I 16).toNat + 1 := by rw [cq, if_pos hdp]
  have c2 : cq isAO (A 15) ((I 16).toNat + 1) = cq isAO (A 15) (I 16).toNat := by rw [cq, if_neg (by rw [hao]; decide), Nat.add_zero]
  rw [c2]
  refine ⟨⟨by omega, by omega, fun j hj => ?_, by rw [hN, c1]; omega, hd⟩, h⟩
  by_cases z : (j : Int) < I 16
  · exact o3 j z
  · have : j = (I 16).toNat := by omega
    rw [this]
    omega
theorem r_52_53 (hu : upI 16 I I' A A') (hx : I' 16 = I 16 + 1) (hl : I' 16 ≤ 400) (h : bF1 b n m I A ∧ (A 15 (I 16).toNat = 12 ∨ A 15 (I 16).toNat = 13)) : bF0 b n m I' A' := by
  obtain ⟨u2, u3⟩ := hu
  have e11 := u2 11 (by decide) (by decide)
  have e12 := u2 12 (by decide) (by decide)
  have e13 := u2 13 (by decide) (by decide)
  have a3 : A' 3 = A 3 := u3 (3, 33) (by decide)
  have a4 : A' 4 = A 4 := u3 (4, 34) (by decide)
  have a5 : A' 5 = A 5 := u3 (5, 35) (by decide)
  have a6 : A' 6 = A 6 := u3 (6, 36) (by decide)
  have a15 : A' 15 = A 15 := u3 (15, 38) (by decide)
  obtain ⟨⟨⟨o1, o2, o3, o4, o5⟩, h⟩, hw⟩ := h
  have hN : (I 16 + 1).toNat = (I 16).toNat + 1 := by omega
  have hao : isAO (A 15 (I 16).toNat) = true := by unfold isAO; exact decide_eq_true hw
  have hdp : isDP (A 15 (I 16).toNat) = false := by unfold isDP; exact decide_eq_false (by omega)
  have hle := cq_le (p := isAO) (f := A 15) (I 16).toNat
  have h := bP_mono h (show 3 * (bAO I A + 1) ≤ 3 * (I 16).toNat + 9 by unfold bAO; omega) (Nat.le_refl m)
  unfold bAO bP at h
  unfold bF0 bP bAO
  rw [e11, e12, e13, a3, a4, a5, a6, a15]
  rw [hx, hN]
  have c1 : cq isDP (A 15) ((I 16).toNat + 1) = cq isDP (A 15) (I 16).toNat := by rw [cq, if_neg (by rw [hdp]; decide), Nat.add_zero]
  have c2 : cq isAO (A 15) ((I 16).toNat + 1) = cq isAO (A 15) (I 16).toNat + 1 := by rw [cq, if_pos hao]
  rw [c2]
  refine ⟨⟨by omega, by omega, fun j hj => ?_, by rw [hN, c1]; exact o4, o5⟩, h⟩
  by_cases z : (j : Int) < I 16
  · exact o3 j z
  · have : j = (I 16).toNat := by omega
    rw [this]
    omega
theorem r_36_37 (hu : upI 16 I I' A A') (hx : I' 16 = I 16 - 1) (h : bF1 b n m I A ∧ 1 ≤ I 16 ∧ A 15 ((I 16).toNat - 1) = 91) : bZ1 b n m I' A' := by
  obtain ⟨u2, u3⟩ := hu
  have e11 := u2 11 (by decide) (by decide)
  have e12 := u2 12 (by decide) (by decide)
  have e13 := u2 13 (by decide) (by decide)
  have a3 : A' 3 = A 3 := u3 (3, 33) (by decide)
  have a4 : A' 4 = A 4 := u3 (4, 34) (by decide)
  have a5 : A' 5 = A 5 := u3 (5, 35) (by decide)
  have a6 : A' 6 = A 6 := u3 (6, 36) (by decide)
  have a15 : A' 15 = A 15 := u3 (15, 38) (by decide)
  obtain ⟨⟨⟨o1, o2, o3, o4, o5⟩, h⟩, h1, hw⟩ := h
  have hN : (I 16).toNat = (I 16 - 1).toNat + 1 := by omega
  have hM : (I 16).toNat - 1 = (I 16 - 1).toNat := by omega
  rw [hM] at hw
  have hdp : isDP (A 15 (I 16 - 1).toNat) = true := by unfold isDP; exact decide_eq_true (Or.inr hw)
  have hao : isAO (A 15 (I 16 - 1).toNat) = false := by unfold isAO; exact decide_eq_false (by omega)
  have h := bP_mono h (show 3 * (I 16 - 1).toNat + 9 ≤ 3 * (I 16).toNat + 9 by omega) (Nat.le_refl m)
  unfold bAO bP at h
  unfold bZ1 bP bAO
  rw [e11, e12, e13, a3, a4, a5, a6, a15]
  rw [hx]
  have c1 : cq isDP (A 15) (I 16).toNat = cq isDP (A 15) (I 16 - 1).toNat + 1 := by rw [hN, cq, if_pos hdp]
  have c2 : cq isAO (A 15) (I 16).toNat = cq isAO (A 15) (I 16 - 1).toNat := by rw [hN, cq, if_neg (by rw [hao]; decide), Nat.add_zero]
  rw [c2] at h
  exact ⟨⟨by omega, by omega, fun j hj => o3 j (by omega), by omega, by omega⟩, h⟩
theorem r_10_55 (hu : upI 16 I I' A A') (hx : I' 16 = 0) (h : bP b n k m I A) : bP b n k m I' A' ∧ I' 16 = 0 := by
  obtain ⟨u2, u3⟩ := hu
  have e11 := u2 11 (by decide) (by decide)
  have e12 := u2 12 (by decide) (by decide)
  have a3 : A' 3 = A 3 := u3 (3, 33) (by decide)
  have a4 : A' 4 = A 4 := u3 (4, 34) (by decide)
  have a5 : A' 5 = A 5 := u3 (5, 35) (by decide)
  have a6 : A' 6 = A 6 := u3 (6, 36) (by decide)
  refine ⟨?_, hx⟩
  unfold bP at h ⊢
  rw [e11, e12, a3, a4, a5, a6]
  exact h
theorem r_10_12 (hu : upI 12 I I' A A') (hx : I' 12 = I 12 + 1) (hl : I' 12 ≤ 60) (h : bP b n k m I A) : bP b n (k + 16) (m + 1) I' A' ∧ (n : Int) + 1 ≤ I' 12 := by
  obtain ⟨u2, u3⟩ := hu
  have e11 := u2 11 (by decide) (by decide)
  have a3 : A' 3 = A 3 := u3 (3, 33) (by decide)
  have a4 : A' 4 = A 4 := u3 (4, 34) (by decide)
  have a5 : A' 5 = A 5 := u3 (5, 35) (by decide)
  have a6 : A' 6 = A 6 := u3 (6, 36) (by decide)
  obtain ⟨h0, h1, h2, h3, h4, h5, h6, h7, h8⟩ := h
  refine ⟨?_, by omega⟩
  unfold bP
  rw [e11, a3, a4, a5, a6]
  rw [hx]
  rw [hx] at hl
  exact ⟨h0, h1, h2, hl, by omega, by omega, h6, by omega, h8⟩
theorem r_64_60 (hu : upI 12 I I' A A') (hx : I' 12 = 0) (h : 0 ≤ I 11 ∧ I 11 ≤ 5 ∧ A 6 (I 11).toNat = 0 ∧ A 4 (I 11).toNat = 0 ∧ I 14 = 0) : bR I' A' 0 := by
  obtain ⟨u2, u3⟩ := hu
  have e11 := u2 11 (by decide) (by decide)
  have e14 := u2 14 (by decide) (by decide)
  have a4 : A' 4 = A 4 := u3 (4, 34) (by decide)
  have a5 : A' 5 = A 5 := u3 (5, 35) (by decide)
  have a6 : A' 6 = A 6 := u3 (6, 36) (by decide)
  obtain ⟨h1, h2, h3, h4, h5⟩ := h
  unfold bR
  rw [e11, e14, a4, a5, a6]
  rw [hx, h3, h4, h5]
  refine ⟨h1, h2, by omega, by omega, by omega, by omega, by omega, fun i hi => ?_⟩
  rw [h3] at hi
  omega
theorem r_60_61 (hu : upI 14 I I' A A') (hx : I' 14 = I 14 + 1) (h : bR I A 0) : bR I' A' 1 := by
  obtain ⟨u2, u3⟩ := hu
  have e11 := u2 11 (by decide) (by decide)
  have e12 := u2 12 (by decide) (by decide)
  have a4 : A' 4 = A 4 := u3 (4, 34) (by decide)
  have a5 : A' 5 = A 5 := u3 (5, 35) (by decide)
  have a6 : A' 6 = A 6 := u3 (6, 36) (by decide)
  obtain ⟨h1, h2, h3, h4, h5, h6, h7, h8⟩ := h
  unfold bR
  rw [e11, e12, a4, a5, a6]
  rw [hx]
  exact ⟨h1, h2, by omega, by omega, h5, h6, h7, h8⟩
theorem r_63_64 (hu : upI 14 I I' A A') (hx : I' 14 = 0) (h : 0 ≤ I 11 ∧ I 11 ≤ 5 ∧ A 6 (I 11).toNat = 0 ∧ A 4 (I 11).toNat = 0) : 0 ≤ I' 11 ∧ I' 11 ≤ 5 ∧ A' 6 (I' 11).toNat = 0 ∧ A' 4 (I' 11).toNat = 0 ∧ I' 14 = 0 := by
  obtain ⟨u2, u3⟩ := hu
  have e11 := u2 11 (by decide) (by decide)
  have a4 : A' 4 = A 4 := u3 (4, 34) (by decide)
  have a6 : A' 6 = A 6 := u3 (6, 36) (by decide)
  obtain ⟨h1, h2, h3, h4⟩ := h
  rw [e11, a4, a6]
  exact ⟨h1, h2, h3, h4, hx⟩
theorem s_open (h1 : 0 ≤ I 16) (u4 : ∀ j, A' 15 j = if j = (I 16).toNat then y else A 15 j) : (∀ j : Nat, (j : Int) < I 16 → A' 15 j = A 15 j) ∧ (∀ p, cq p (A' 15) (I 16).toNat = cq p (A 15) (I 16).toNat) ∧ A' 15 (I 16).toNat = y := by
  have h : ∀ j : Nat, (j : Int) < I 16 → A' 15 j = A 15 j := fun j hj => by rw [u4, if_neg (by omega)]
  exact ⟨h, fun p => cq_eq (fun j hj => h j (by omega)), by rw [u4, if_pos rfl]⟩
theorem s_32_33 (hu : upA 15 (I 16).toNat y I I' A A') (hy : y = 11 ∨ y = 91) (h : bD1 b n m I A) : bD1 b n m I' A' ∧ (A' 15 (I' 16).toNat = 11 ∨ A' 15 (I' 16).toNat = 91) := by
  obtain ⟨u2, u3, u4⟩ := hu
  have e11 := u2 11 (by decide)
  have e12 := u2 12 (by decide)
  have e13 := u2 13 (by decide)
  have e16 := u2 16 (by decide)
  have a3 : A' 3 = A 3 := u3 (3, 33) (by decide) (by decide)
  have a4 : A' 4 = A 4 := u3 (4, 34) (by decide) (by decide)
  have a5 : A' 5 = A 5 := u3 (5, 35) (by decide) (by decide)
  have a6 : A' 6 = A 6 := u3 (6, 36) (by decide) (by decide)
  obtain ⟨⟨o1, o2, o3, o4, o5⟩, hd, h⟩ := h
  obtain ⟨v1, v2, v3⟩ := s_open o1 u4
  unfold bAO bP at h
  unfold bD1 bP bAO
  rw [e11, e12, e13, e16, a3, a4, a5, a6]
  rw [v2, v3]
  exact ⟨⟨⟨o1, o2, fun j hj => by rw [v1 j hj]; exact o3 j hj, by rw [v2]; exact o4, o5⟩, hd, h⟩, hy⟩
theorem s_51_52 (hu : upA 15 (I 16).toNat y I I' A A') (hy : y = 12 ∨ y = 13) (h : bF1 b n m I A) : bF1 b n m I' A' ∧ (A' 15 (I' 16).toNat = 12 ∨ A' 15 (I' 16).toNat = 13) := by
  obtain ⟨u2, u3, u4⟩ := hu
  have e11 := u2 11 (by decide)
  have e12 := u2 12 (by decide)
  have e13 := u2 13 (by decide)
  have e16 := u2 16 (by decide)
  have a3 : A' 3 = A 3 := u3 (3, 33) (by decide) (by decide)
  have a4 : A' 4 = A 4 := u3 (4, 34) (by decide) (by decide)
  have a5 : A' 5 = A 5 := u3 (5, 35) (by decide) (by decide)
  have a6 : A' 6 = A 6 := u3 (6, 36) (by decide) (by decide)
  obtain ⟨⟨o1, o2, o3, o4, o5⟩, h⟩ := h
  obtain ⟨v1, v2, v3⟩ := s_open o1 u4
  unfold bAO bP at h
  unfold bF1 bP bAO
  rw [e11, e12, e13, e16, a3, a4, a5, a6]
  rw [v2, v3]
  exact ⟨⟨⟨o1, o2, fun j hj => by rw [v1 j hj]; exact o3 j hj, by rw [v2]; exact o4, o5⟩, h⟩, hy⟩
theorem s_1_1 (hu : upA 6 (I 11).toNat y I I' A A') (hy : y = 0) (h : bGood (A 3) (A 5) (A 6)) : bGood (A' 3) (A' 5) (A' 6) := by
  obtain ⟨u2, u3, u4⟩ := hu
  have a3 : A' 3 = A 3 := u3 (3, 33) (by decide) (by decide)
  have a5 : A' 5 = A 5 := u3 (5, 35) (by decide) (by decide)
  rw [a3, a5]
  intro t ht i hi
  rw [u4] at hi
  by_cases z : t = (I 11).toNat
  · rw [if_pos z] at hi
    omega
  · rw [if_neg z] at hi
    exact h t ht i hi
theorem s_1_62 (hu : upA 6 (I 11).toNat y I I' A A') (hy : y = 0) (h1 : 0 ≤ I 11) (h2 : I 11 ≤ 5) : 0 ≤ I' 11 ∧ I' 11 ≤ 5 ∧ A' 6 (I' 11).toNat = 0 := by
  obtain ⟨u2, u3, u4⟩ := hu
  have e11 := u2 11 (by decide)
  rw [e11, u4, if_pos rfl]
  exact ⟨h1, h2, hy⟩
theorem s_62_63 (hu : upA 4 (I 11).toNat y I I' A A') (hy : y = 0) (h : 0 ≤ I 11 ∧ I 11 ≤ 5 ∧ A 6 (I 11).toNat = 0) : 0 ≤ I' 11 ∧ I' 11 ≤ 5 ∧ A' 6 (I' 11).toNat = 0 ∧ A' 4 (I' 11).toNat = 0 := by
  obtain ⟨u2, u3, u4⟩ := hu
  have e11 := u2 11 (by decide)
  have a6 : A' 6 = A 6 := u3 (6, 36) (by decide) (by decide)
  rw [e11, a6, u4, if_pos rfl]
  exact ⟨h.1, h.2.1, h.2.2, hy⟩
end
