/-! ===== a contract by the value of a field, or of an argument ===== -/
section
variable {l : Launch} {g : va_G} {tys : List (ClassId × FieldType)} {B0 : Nat} {τ : kTau} {tb : List Jvm.Cond} {y : MethodName} {cc : ByteArray} {nL rk : Nat} {rm : Room}
theorem k_postU {E : kE} {H H' : Heap} {K K' : kCtr} {as : List Value} {v : Option Value} (h : k_post E τ H H' K as v) (h1 : ∀ z ∈ K.2.2.2.1, z ∈ K'.2.2.2.1) (h2 : K'.2.2.1 = K.2.2.1) (h3 : K'.2.2.2.2.2 = K.2.2.2.2.2) : k_post E τ H H' K' as v := by
  obtain ⟨q1, q2, q3, q4⟩ := h
  exact ⟨q1, k_frU q2 h1, by rw [h3]; exact q3, by rw [h2]; exact q4⟩
theorem by_fact (h0 : gE1 g) {GI : kGI} {K' : kCtr} {k N : Nat} {q : kB} (hk : gMF[k]? = some (.inl q)) (hq1 : 0 ≤ q.1) (hq2 : q.2 < (N : Int)) {r : List kInfo} (hK1 : K'.1 = .inr (.inr (.inl (false, [11]))) :: r)
    (h : ∀ u : Nat, u < N → ∃ mods : List (Nat × Nat), (∀ z ∈ mods, z ∈ K'.2.2.2.1) ∧ k_Met l (gE g tys B0 GI) τ tb y cc nL rk (K'.1, [(0, k, .inl ((u : Int), (u : Int)))], K'.2.2.1, mods, K'.2.2.2.2.1, K'.2.2.2.2.2) rm) : k_Met l (gE g tys B0 GI) τ tb y cc nL rk K' rm := by
  refine k_convG (γ := { q : Nat × List (Nat × Nat) // (∀ z ∈ q.2, z ∈ K'.2.2.2.1) ∧ k_Met l (gE g tys B0 GI) τ tb y cc nL rk (K'.1, [(0, k, .inl ((q.1 : Int), (q.1 : Int)))], K'.2.2.1, q.2, K'.2.2.2.2.1, K'.2.2.2.2.2) rm }) (GI := fun _ => GI) (K := fun q => (K'.1, [(0, k, .inl ((q.1.1 : Int), (q.1.1 : Int)))], K'.2.2.1, q.1.2, K'.2.2.2.2.1, K'.2.2.2.2.2)) (fun q => q.2.2) (fun as H hH hp => ?_)
  obtain ⟨p1, p2, p3, p4⟩ := hp
  obtain ⟨v, hv, hok⟩ := p2 0 (.inr (.inr (.inl (false, [11])))) (by rw [hK1]; rfl)
  obtain ⟨a, rfl, ha⟩ := k_refOk hok
  obtain ⟨x, fx, ex, l1, l2⟩ := vI_in h0 hH ha hk
  obtain ⟨mods, hm, hM⟩ := h x.toInt.toNat (by omega)
  refine ⟨⟨(x.toInt.toNat, mods), hm, hM⟩, ⟨p1, p2, ⟨.ref a, .int x, hv, ⟨a, 11, (12, gMF), rfl, ha, gM_at, (List.getElem?_eq_some_iff.mp hk).1, fx⟩, ⟨x, rfl, ?_, ?_⟩, trivial⟩, p4⟩, fun H' v' hq => k_postU hq hm rfl rfl⟩
  · show ((x.toInt.toNat : Nat) : Int) ≤ x.toInt
    omega
  · show x.toInt ≤ ((x.toInt.toNat : Nat) : Int)
    omega
theorem by_arg {GI : kGI} {K' : kCtr} (hK1 : K'.1 = [.inr (.inr (.inl (false, [11]))), .inl k_top]) (hK2 : K'.2.1 = [])
    (h : ∀ x : Int32, ∃ (lo hi : Int) (mods : List (Nat × Nat)), (lo ≤ x.toInt ∧ x.toInt ≤ hi) ∧ (∀ z ∈ mods, z ∈ K'.2.2.2.1) ∧ k_Met l (gE g tys B0 GI) τ tb y cc nL rk ([.inr (.inr (.inl (false, [11]))), .inl (lo, hi)], [], K'.2.2.1, mods, K'.2.2.2.2.1, K'.2.2.2.2.2) rm) : k_Met l (gE g tys B0 GI) τ tb y cc nL rk K' rm := by
  refine k_convG (γ := { q : Int × Int × List (Nat × Nat) // (∀ z ∈ q.2.2, z ∈ K'.2.2.2.1) ∧ k_Met l (gE g tys B0 GI) τ tb y cc nL rk ([.inr (.inr (.inl (false, [11]))), .inl (q.1, q.2.1)], [], K'.2.2.1, q.2.2, K'.2.2.2.2.1, K'.2.2.2.2.2) rm }) (GI := fun _ => GI) (K := fun q => ([.inr (.inr (.inl (false, [11]))), .inl (q.1.1, q.1.2.1)], [], K'.2.2.1, q.1.2.2, K'.2.2.2.2.1, K'.2.2.2.2.2)) (fun q => q.2.2) (fun as H hH hp => ?_)
  obtain ⟨p1, p2, p3, p4⟩ := hp
  rw [hK1] at p1 p2
  match as, p1 with
  | [w0, w1], _ =>
    obtain ⟨u0, z0, o0⟩ := p2 0 _ rfl
    obtain ⟨u1, z1, x, o1, b1⟩ := p2 1 _ rfl
    obtain ⟨a, r0, ha⟩ := k_refOk o0
    have y0 : w0 = .ref a := by simpa [r0] using z0
    have y1 : w1 = .int x := by simpa [o1] using z1
    subst y0; subst y1
    obtain ⟨lo, hi, mods, hx, hm, hM⟩ := h x
    refine ⟨⟨(lo, hi, mods), hm, hM⟩, ⟨rfl, ?_, trivial, p4⟩, fun H' v' hq => k_postU hq hm rfl rfl⟩
    intro i z hz
    match i, hz with
    | 0, hz => cases hz; exact ⟨.ref a, rfl, Or.inr ⟨a, 11, rfl, List.mem_singleton.mpr rfl, ha⟩⟩
    | 1, hz => cases hz; exact ⟨.int x, rfl, x, rfl, hx⟩
    | n + 2, hz => cases hz
end
