/-! ===== invariants from invariants ===== -/
/-- there is one reference -/
def gU (τ : kTau) : Prop := ∃ a, τ a = some 11 ∧ ∀ a', τ a' = some 11 → a' = a
theorem gU_of {τ : kTau} (h : gU τ) {a : Nat} (ha : τ a = some 11) : ∀ a', τ a' = some 11 → a' = a := fun a' ha' => by
  obtain ⟨b, -, hb⟩ := h
  rw [hb a ha, hb a' ha']
section
variable {g : va_G} {tys : List (ClassId × FieldType)} {B0 : Nat} {GI : kGI} {τ : kTau} {H : Heap}
theorem gGI_map {c c' : gGh} {i j : Nat} (hi : i ≠ 0) (hj : j ≠ 0) (f : ∀ I A, iv c I A i → iv c' I A j) (h : gGI g c i τ H) : gGI g c' j τ H :=
  ⟨fun z => absurd z hj, Or.inr (h.2.1.resolve_left hi), fun a ha => ⟨(h.2.2 a ha).1, f _ _ (h.2.2 a ha).2⟩⟩
/-- by the kinds of the fields -/
theorem gGI_kind {c c' : gGh} {i j k : Nat} {q : kB} (h0 : gE1 g) (hH : k_HT (gE g tys B0 GI) τ H) (hi : i ≠ 0) (hj : j ≠ 0) (hk : gMF[k]? = some (.inl q)) (f : ∀ I A, q.1 ≤ I k → I k ≤ q.2 → iv c I A i → iv c' I A j) (h : gGI g c i τ H) : gGI g c' j τ H :=
  ⟨fun z => absurd z hj, Or.inr (h.2.1.resolve_left hi), fun a ha => ⟨(h.2.2 a ha).1, by
    obtain ⟨x, -, e, l1, l2⟩ := vI_in h0 hH ha hk
    exact f _ _ (by rw [e]; exact l1) (by rw [e]; exact l2) (h.2.2 a ha).2⟩⟩
/-- what an invariant says of the one object -/
theorem gGI_get {c : gGh} {i : Nat} (hi : i ≠ 0) (h : gGI g c i τ H) : ∃ a, τ a = some 11 ∧ (∀ a', τ a' = some 11 → a' = a) ∧ iv c (vI g H a) (vA g H a) i := by
  obtain ⟨a, ha⟩ := h.2.1.resolve_left hi
  exact ⟨a, ha, (h.2.2 a ha).1, (h.2.2 a ha).2⟩
theorem gGI_put {c : gGh} {i a : Nat} (hi : i ≠ 0) (ha : τ a = some 11) (hu : ∀ a', τ a' = some 11 → a' = a) (h : iv c (vI g H a) (vA g H a) i) : gGI g c i τ H :=
  ⟨fun z => absurd z hi, Or.inr ⟨a, ha⟩, fun a' ha' => by
    have := hu a' ha'
    subst this
    exact ⟨hu, h⟩⟩
end
section
variable {g : va_G} {tys : List (ClassId × FieldType)} {B0 : Nat} {l : Launch} {τ : kTau} {tb : List Jvm.Cond} {y : MethodName} {cc : ByteArray} {nL rk : Nat} {rm : Room}
set_option maxRecDepth 8192 in
theorem k_cvmG {GI GI' : kGI} {K K' : kCtr} (h : k_Met l (gE g tys B0 GI) τ tb y cc nL rk K rm) (e1 : K'.1 = K.1) (e2 : K'.2.1 = K.2.1) (e4 : K'.2.2.2.1 = K.2.2.2.1)
    (hpre : ∀ H, k_HT (gE g tys B0 GI) τ H → (∀ i ∈ K'.2.2.2.2.1, GI' i τ H) → ∀ i ∈ K.2.2.2.2.1, GI i τ H) (hpost : ∀ H, k_HT (gE g tys B0 GI) τ H → (∀ i ∈ K.2.2.2.2.2, GI i τ H) → ∀ i ∈ K'.2.2.2.2.2, GI' i τ H)
    (halt : ∀ A ∈ K.2.2.1, ∃ A' ∈ K'.2.2.1, A'.1 = A.1 ∧ A'.2.1 = A.2.1 ∧ ∀ H, k_HT (gE g tys B0 GI) τ H → (∀ q ∈ A.2.2, 1000 ≤ q.1 → GI (q.1 - 1000) τ H) → ∀ q' ∈ A'.2.2, (q'.1 < 1000 ∧ q' ∈ A.2.2) ∨ (1000 ≤ q'.1 ∧ GI' (q'.1 - 1000) τ H)) : k_Met l (gE g tys B0 GI') τ tb y cc nL rk K' rm :=
  k_cvm (E := gE g tys B0 GI) (GI := GI) (GI' := GI') h e1 e2 e4 hpre hpost halt
set_option maxRecDepth 8192 in
theorem k_convG {γ : Type} {GI : γ → kGI} {GI' : kGI} {K : γ → kCtr} {K' : kCtr} (h : ∀ c, k_Met l (gE g tys B0 (GI c)) τ tb y cc nL rk (K c) rm)
    (hc : ∀ (as : List Value) (H : Heap), k_HT (gE g tys B0 GI') τ H → k_pre (gE g tys B0 GI') τ H K' as → ∃ c, k_pre (gE g tys B0 (GI c)) τ H (K c) as ∧ ∀ H' v, k_post (gE g tys B0 (GI c)) τ H H' (K c) as v → k_post (gE g tys B0 GI') τ H H' K' as v) : k_Met l (gE g tys B0 GI') τ tb y cc nL rk K' rm :=
  k_conv (E := gE g tys B0 GI') (GI := GI) h hc
set_option maxRecDepth 8192 in
theorem k_metH {GI : Nat → kGI} {M : kM} {f d B m0 : Nat} {sh sh0 : List (Nat × Nat)} (hpl : plainName y.cls = true)
    (hQ : ∀ m, m0 ≤ m → (∀ i ∈ M.2.2.2.2.2.1.2.2.2.2.2, GI m0 i = GI m i) ∧ ∀ A ∈ M.2.2.2.2.2.1.2.2.1, ∀ q ∈ A.2.2, 1000 ≤ q.1 → GI m0 (q.1 - 1000) = GI m (q.1 - 1000))
    (hT : ∀ m, m0 ≤ m → ∀ X : kX, X.2.1 = l → X.2.2.2.1 = rm → k_Fx X cc M.2.2.2.2.2.2.2.1 y.cls → (∀ w ∈ tb, w.before X.2.2.2.2.2.2.1 X.2.2.2.2.1 = true) → kK g gCl tys B0 X.2.2.2.2.1 →
      k_FL X (gE g tys B0 (GI m)) y.cls M.2.1 ∧ k_CI X y.cls M.2.2.1 ∧ k_CJ X y.cls M.2.2.2.1 ∧ (∀ q ∈ M.2.2.2.2.1, k_call X (gE g tys B0 (GI m)) M.2.2.2.2.2.2.2.1 τ q.2 q.1) ∧ k_Eok (gE g tys B0 (GI m)) ∧ k_tys (gE g tys B0 (GI m)))
    (hdec : ∀ q ∈ M.1, decode cc q.1 = .ok q.2) (hchk : k_checkG gTT gGS M f d sh sh0 = true)
    (hsh : ∀ m, m0 ≤ m → ∀ q ∈ M.2.2.2.2.2.2.2.2.1, ∀ i ∈ q.2.2.2.2.2.1, ∀ H, k_HT (gE g tys B0 (GI m)) τ H → GI m (k_sh sh i) τ H → GI (m + 1) i τ H) (hs0 : ∀ q ∈ M.2.2.2.2.2.2.2.2.1, ∀ i ∈ q.2.2.2.2.2.1, ∀ H, k_HT (gE g tys B0 (GI m0)) τ H → GI m0 (k_sh sh0 i) τ H → GI m0 i τ H) (hbd : ∀ m H, k_HT (gE g tys B0 (GI m)) τ H → GI m d τ H → m ≤ B) :
    k_Met l (gE g tys B0 (GI m0)) τ tb y cc M.2.2.2.2.2.2.2.1 M.2.2.2.2.2.2.1 M.2.2.2.2.2.1 rm :=
  k_metG (E := gE g tys B0 (GI m0)) (GI := GI) hpl (fun m hm ps => k_Qc_eq (E := gE g tys B0 (GI m0)) (hQ m hm).1 (hQ m hm).2 ps) hT hdec hchk hsh hs0 hbd
end
