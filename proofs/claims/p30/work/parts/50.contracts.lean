/-! ===== contracts ===== -/
/-- one of several contracts fits: what they say together -/
theorem k_fr_up {E : kE} {τ : kTau} {m1 m2 : List (Nat × Nat)} {H H' : Heap} (h : k_fr E τ m1 H H') (hs : ∀ q ∈ m1, q ∈ m2) : k_fr E τ m2 H H' := ⟨h.1, h.2.1, fun a t ht => ⟨fun q hq k hk hm => (h.2.2 a t ht).1 q hq k hk (fun z => hm (hs _ z)), fun q hq hm => (h.2.2 a t ht).2 q hq (fun z => hm (hs _ z))⟩⟩
theorem k_anyc {X : kX} {E : kE} {nL : Nat} {τ : kTau} {pc i k : Nat} {K : kCtr} {ts : List Nat} {P : List kInfo} {A : List kAlt} {mods : List (Nat × Nat)} {G : List Nat × List Nat} (hK : K = (P, [(i, k, .inr (.inr (.inl (false, ts))))], A, mods, G))
    (h : ∀ t ∈ ts, ∃ q : kCtr, (q.1 = P ∧ q.2.1 = [(i, k, .inr (.inr (.inl (false, [t]))))] ∧ q.2.2.1 = A ∧ (∀ z ∈ q.2.2.2.1, z ∈ mods) ∧ q.2.2.2.2 = G) ∧ k_call X E nL τ q pc) : k_call X E nL τ K pc := by
  subst hK
  intro H locs ls as rest hH hpre hsum hls hloc kk
  obtain ⟨p1, p2, ⟨v, w, w1, w2, w3, -⟩, p4⟩ := hpre
  rcases w3 with ⟨z, -⟩ | ⟨a, t, z1, z2, z3⟩
  · cases z
  obtain ⟨q, ⟨d1, d2, d3, d4, d5⟩, hq⟩ := h t z2
  refine hq H locs ls as rest hH ⟨by rw [d1]; exact p1, by rw [d1]; exact p2, ?_, by rw [d5]; exact p4⟩ hsum hls hloc (fun H' L v' hp hL => kk H' L v' ⟨hp.1, k_fr_up hp.2.1 d4, by have := hp.2.2.1; rw [d5] at this; exact this, by have := hp.2.2.2; rw [d3] at this; exact this⟩ hL)
  rw [d2]
  exact ⟨v, w, w1, w2, Or.inr ⟨a, t, z1, List.mem_singleton.mpr rfl, z3⟩, trivial⟩
theorem wm_max : Jvm.Cond.static Lib.Math.max.name ∈ gTB ∧ Jvm.Cond.initialized "java/lang/Math" ∈ gTB ∧ Jvm.Cond.code Lib.Math.max.name Lib.Math.max.code 2 (some .int) ∈ gTB := ⟨gIn (i := 973) (by decide +kernel) (by decide +kernel), gIn (i := 145) (by decide +kernel) (by decide +kernel), gIn (i := 974) (by decide +kernel) (by decide +kernel)⟩
theorem wm_min : Jvm.Cond.static Lib.Math.min.name ∈ gTB ∧ Jvm.Cond.initialized "java/lang/Math" ∈ gTB ∧ Jvm.Cond.code Lib.Math.min.name Lib.Math.min.code 2 (some .int) ∈ gTB := ⟨gIn (i := 846) (by decide +kernel) (by decide +kernel), gIn (i := 145) (by decide +kernel) (by decide +kernel), gIn (i := 847) (by decide +kernel) (by decide +kernel)⟩
theorem wm_cp : Jvm.Cond.native arraycopyName ∈ gTB ∧ Jvm.Cond.static arraycopyName ∈ gTB ∧ Jvm.Cond.initialized "java/lang/System" ∈ gTB := ⟨gIn (i := 772) (by decide +kernel) (by decide +kernel), gIn (i := 771) (by decide +kernel) (by decide +kernel), gIn (i := 142) (by decide +kernel) (by decide +kernel)⟩
section
variable {l : Launch} {g : va_G} {tys : List (ClassId × FieldType)} {B0 : Nat} {c : gGh} {τ : kTau}
theorem C_J6_bitCount_0f7a4 (h0 : gE1 g) (hu : gUU τ) (hT : k_tys (gE g tys B0 (gGI g c))) : k_Met l (gE g tys B0 (gGI g c)) τ gTB yJ6_bitCount_0f7a4 cJ6_bitCount_0f7a4 1 1 K_J6_bitCount_0f7a4 ⟨0, 0, 0, 0⟩ :=
  k_met (M := M_J6_bitCount_0f7a4) (by decide +kernel) (fun X hl hr hF hts hK => ⟨k_nilFL, gCIok [((265, 1431655765), 926), ((266, 858993459), 927), ((267, 252645135), 928)] rfl hts (by decide +kernel), k_nilCJ, (show ∀ q ∈ ([] : List (Nat × kCtr)), k_call X (gE g tys B0 (gGI g c)) 1 τ q.2 q.1 from List.forall_mem_nil _), gEok h0 c, hT⟩) dec_J6_bitCount_0f7a4 chk_J6_bitCount_0f7a4
theorem C_X7_isDigit (h0 : gE1 g) (hu : gUU τ) (hT : k_tys (gE g tys B0 (gGI g c))) : k_Met l (gE g tys B0 (gGI g c)) τ gTB yX7_isDigit cX7_isDigit 1 2 K_X7_isDigit ⟨0, 0, 0, 0⟩ :=
  k_met (M := M_X7_isDigit) (by decide +kernel) (fun X hl hr hF hts hK => ⟨gFLk7 hts, gCIk7 hts, gCJk7 hts, (show ∀ q ∈ ([] : List (Nat × kCtr)), k_call X (gE g tys B0 (gGI g c)) 1 τ q.2 q.1 from List.forall_mem_nil _), gEok h0 c, hT⟩) dec_X7_isDigit chk_X7_isDigit
theorem C_X7_isSmall (h0 : gE1 g) (hu : gUU τ) (hT : k_tys (gE g tys B0 (gGI g c))) : k_Met l (gE g tys B0 (gGI g c)) τ gTB yX7_isSmall cX7_isSmall 1 2 K_X7_isSmall ⟨0, 0, 0, 0⟩ :=
  k_met (M := M_X7_isSmall) (by decide +kernel) (fun X hl hr hF hts hK => ⟨gFLk7 hts, gCIk7 hts, gCJk7 hts, (show ∀ q ∈ ([] : List (Nat × kCtr)), k_call X (gE g tys B0 (gGI g c)) 1 τ q.2 q.1 from List.forall_mem_nil _), gEok h0 c, hT⟩) dec_X7_isSmall chk_X7_isSmall
theorem C_X7_append (h0 : gE1 g) (hu : gUU τ) (hT : k_tys (gE g tys B0 (gGI g c))) : k_Met l (gE g tys B0 (gGI g c)) τ gTB yX7_append cX7_append 2 0 K_X7_append ⟨0, 0, 0, 0⟩ :=
  k_met (M := M_X7_append) (by decide +kernel) (fun X hl hr hF hts hK => ⟨gFLk7 hts, gCIk7 hts, gCJk7 hts, (show ∀ q ∈ ([] : List (Nat × kCtr)), k_call X (gE g tys B0 (gGI g c)) 2 τ q.2 q.1 from List.forall_mem_nil _), gEok h0 c, hT⟩) dec_X7_append chk_X7_append
theorem C_X7_byteAt (h0 : gE1 g) (hu : gUU τ) (hT : k_tys (gE g tys B0 (gGI g c))) : k_Met l (gE g tys B0 (gGI g c)) τ gTB yX7_byteAt cX7_byteAt 2 1 K_X7_byteAt ⟨0, 0, 0, 0⟩ :=
  k_met (M := M_X7_byteAt) (by decide +kernel) (fun X hl hr hF hts hK => ⟨gFLk7 hts, gCIk7 hts, gCJk7 hts, (show ∀ q ∈ ([] : List (Nat × kCtr)), k_call X (gE g tys B0 (gGI g c)) 2 τ q.2 q.1 from List.forall_mem_nil _), gEok h0 c, hT⟩) dec_X7_byteAt chk_X7_byteAt
end
