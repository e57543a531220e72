/-! ===== the invariants: what keeps them, the rules of counting ===== -/
def gMF : List kInfo := match (gTT[11]? : Option kDesc) with
  | some (Sum.inl q) => q.2
  | _ => []
theorem gM_at : gTT[11]? = some (.inl (12, gMF)) := rfl
def gE1 (g : va_G) : Prop := ∀ (t : Nat) (q : Nat × List kInfo), gTT[t]? = some (.inl q) → ∃ r : vw_C, gCl[q.1]? = some r ∧ r.2.2 = q.2.length ∧ ∀ x y, x < q.2.length → y < q.2.length → x ≠ y → g.2 q.1 x ≠ g.2 q.1 y
theorem k_lkG_mem {i : Nat} {r : Nat × Nat} : ∀ {L : List (Nat × List (Nat × Nat))}, r ∈ k_lkG L i → ∃ q ∈ L, q.1 = i ∧ r ∈ q.2
  | [], h => by cases h
  | q :: l, h => by
    unfold k_lkG at h
    split at h
    · rename_i z
      exact ⟨q, List.mem_cons_self, Nat.eq_of_beq_eq_true z, h⟩
    · obtain ⟨q', h1, h2⟩ := k_lkG_mem h
      exact ⟨q', List.mem_cons_of_mem _ h1, h2⟩
theorem gGS_lt {i k : Nat} (h : (11, k) ∈ gGS i) : k < 43 := by
  obtain ⟨q, h1, -, h3⟩ := k_lkG_mem h
  have hd : ∀ q ∈ gGT, ∀ r ∈ q.2, r.1 = 11 → r.2 < 43 := by decide +kernel
  exact hd q h1 _ h3 rfl
section
variable {g : va_G} {tys : List (ClassId × FieldType)} {B0 : Nat} {GI : kGI} {τ : kTau} {H H' : Heap} {mods : List (Nat × Nat)} {a : Nat}
theorem gEok0 (h0 : gE1 g) : k_Eok (gE g tys B0 (fun _ _ _ => True)) := ⟨h0, fun _ _ _ _ _ _ _ _ _ => trivial, fun _ _ _ _ _ _ _ _ _ _ _ _ _ _ _ _ _ _ _ _ _ _ => trivial, fun _ _ _ _ _ _ _ _ _ _ _ _ _ _ _ _ _ _ _ _ _ _ _ _ _ _ _ _ _ _ _ _ => trivial⟩
/-- an int field between its bounds -/
theorem vI_in (h0 : gE1 g) (hH : k_HT (gE g tys B0 GI) τ H) (ha : τ a = some 11) {k : Nat} {q : kB} (hx : gMF[k]? = some (.inl q)) : ∃ x : Int32, (H[a]?).bind (fun c => c.slots[g.2 12 k]?) = some (.int x) ∧ vI g H a k = x.toInt ∧ q.1 ≤ x.toInt ∧ x.toInt ≤ q.2 := by
  have hk : k < gMF.length := (List.getElem?_eq_some_iff.mp hx).1
  obtain ⟨v, cell, x, j1, j2, j3, j4, j5, j6, j7⟩ := k_read (q := (12, gMF)) (gEok0 (tys := tys) (B0 := B0) h0) hH ha gM_at hk
  rw [show (12, gMF).2[k]? = gMF[k]? from rfl, hx] at j1
  cases j1
  obtain ⟨x, rfl, h1⟩ := j2
  have j7 : (H[a]?).bind (fun c => c.slots[g.2 12 k]?) = some (.int x) := j7
  refine ⟨x, j7, ?_, h1.1, h1.2⟩
  unfold vI
  rw [j7]
/-- a field that is an array of one kind -/
theorem vR_in (h0 : gE1 g) (hH : k_HT (gE g tys B0 GI) τ H) (ha : τ a = some 11) {k t : Nat} (hx : gMF[k]? = some (.inr (.inr (.inl (false, [t]))))) : ∃ b : Nat, (H[a]?).bind (fun c => c.slots[g.2 12 k]?) = some (.ref b) ∧ τ b = some t ∧ vA g H a k = vE H b := by
  have hk : k < gMF.length := (List.getElem?_eq_some_iff.mp hx).1
  obtain ⟨v, cell, x, j1, j2, j3, j4, j5, j6, j7⟩ := k_read (q := (12, gMF)) (gEok0 (tys := tys) (B0 := B0) h0) hH ha gM_at hk
  rw [show (12, gMF).2[k]? = gMF[k]? from rfl, hx] at j1
  cases j1
  obtain ⟨b, rfl, hb⟩ := k_refOk j2
  have j7 : (H[a]?).bind (fun c => c.slots[g.2 12 k]?) = some (.ref b) := j7
  refine ⟨b, j7, hb, ?_⟩
  unfold vA
  rw [j7]
theorem vI_kept {k : Nat} (hf : k_fr (gE g tys B0 GI) τ mods H H') (ha : τ a = some 11) (hk : k < 43) (hm : (11, k) ∉ mods) : vI g H' a k = vI g H a k := by
  have h : k_fld (gE g tys B0 GI) H' a 12 k = k_fld (gE g tys B0 GI) H a 12 k := (hf.2.2 a 11 ha).1 _ gM_at k hk hm
  have h : (H'[a]?).bind (fun c => c.slots[g.2 12 k]?) = (H[a]?).bind (fun c => c.slots[g.2 12 k]?) := h
  unfold vI
  rw [h]
theorem vE_kept {b : Nat} (h : H'[b]? = H[b]?) : vE H' b = vE H b := by
  funext j
  unfold vE
  rw [h]
theorem vA_kept1 {k t : Nat} (h0 : gE1 g) (hH : k_HT (gE g tys B0 GI) τ H) (hf : k_fr (gE g tys B0 GI) τ mods H H') (ha : τ a = some 11) (hk : k < 43) (hx : gMF[k]? = some (.inr (.inr (.inl (false, [t]))))) (hq : ∃ q, gTT[t]? = some (.inr q)) (hm : (11, k) ∉ mods) (hm2 : (t, 0) ∉ mods) : vA g H' a k = vA g H a k := by
  have h : k_fld (gE g tys B0 GI) H' a 12 k = k_fld (gE g tys B0 GI) H a 12 k := (hf.2.2 a 11 ha).1 _ gM_at k hk hm
  have h : (H'[a]?).bind (fun c => c.slots[g.2 12 k]?) = (H[a]?).bind (fun c => c.slots[g.2 12 k]?) := h
  obtain ⟨b, hb, hb2, hb3⟩ := vR_in h0 hH ha hx
  obtain ⟨q, hq⟩ := hq
  have he := vE_kept ((hf.2.2 b t hb2).2 q hq hm2)
  rw [hb3, ← he]
  unfold vA
  rw [h, hb]
abbrev gAT : List (Nat × Nat) := [(0, 32), (3, 33), (4, 34), (5, 35), (6, 36), (15, 38)]
theorem gAT_ok (q : Nat × Nat) (h : q ∈ gAT) : q.1 < 43 ∧ gMF[q.1]? = some (.inr (.inr (.inl (false, [q.2])))) := by
  simp only [gAT, List.mem_cons, List.not_mem_nil, or_false] at h
  rcases h with h | h | h | h | h | h <;> subst h <;> exact ⟨by decide, rfl⟩
theorem gAT_arr {q : Nat × Nat} (h : q ∈ gAT) : ∃ d, gTT[q.2]? = some (.inr d) := by
  simp only [gAT, List.mem_cons, List.not_mem_nil, or_false] at h
  rcases h with h | h | h | h | h | h <;> subst h <;> exact ⟨_, rfl⟩
theorem vA_kept {k t : Nat} (h0 : gE1 g) (hH : k_HT (gE g tys B0 GI) τ H) (hf : k_fr (gE g tys B0 GI) τ mods H H') (ha : τ a = some 11) (hkt : (k, t) ∈ gAT) (hm : (11, k) ∉ mods) (hm2 : (t, 0) ∉ mods) : vA g H' a k = vA g H a k :=
  vA_kept1 h0 hH hf ha (gAT_ok _ hkt).1 (gAT_ok _ hkt).2 (gAT_arr hkt) hm hm2
theorem gTape_fr (h0 : gE1 g) (hm : ∀ q ∈ gGS 0, q ∉ mods) (hf : k_fr (gE g tys B0 GI) τ mods H H') (hH : k_HT (gE g tys B0 GI) τ H) (h : gTape g τ H) : gTape g τ H' := by
  intro a b ha hb
  have f2 : (H'[a]?).bind (fun c => c.slots[g.2 7 2]?) = (H[a]?).bind (fun c => c.slots[g.2 7 2]?) := (hf.2.2 a 1 ha).1 _ rfl 2 (by decide) (hm _ (by decide +kernel))
  have f5 : (H'[a]?).bind (fun c => c.slots[g.2 7 5]?) = (H[a]?).bind (fun c => c.slots[g.2 7 5]?) := (hf.2.2 a 1 ha).1 _ rfl 5 (by decide) (hm _ (by decide +kernel))
  rw [f2] at hb
  obtain ⟨T, x, h1, h2, h3, h4⟩ := h a b ha hb
  refine ⟨T, x, h1, by rw [f5]; exact h2, h3, ?_⟩
  obtain ⟨v, cell, x', j1, j2, j3, j4, j5, j6, j7⟩ := k_read (k := 2) (gEok0 (tys := tys) (B0 := B0) h0) hH ha (show gTT[1]? = some (.inl _) from rfl) (by decide)
  cases j1
  obtain ⟨b', rfl, hb'⟩ := k_refOk j2
  have j7 : (H[a]?).bind (fun c => c.slots[g.2 7 2]?) = some (.ref b') := j7
  have : b' = b := Value.ref.inj (Option.some.inj (j7.symm.trans hb))
  subst this
  rw [vE_kept ((hf.2.2 b' 13 hb').2 _ rfl (hm _ (by decide +kernel)))]
  exact h4
theorem gGI_fr (h0 : gE1 g) {c : gGh} {i : Nat} (hm : ∀ q ∈ gGS i, q ∉ mods) (hf : k_fr (gE g tys B0 GI) τ mods H H') (hH : k_HT (gE g tys B0 GI) τ H) (h : gGI g c i τ H) : gGI g c i τ H' := by
  refine ⟨fun hi => ?_, h.2.1, fun a ha => ⟨(h.2.2 a ha).1, iv_congr (fun k hk => vI_kept hf ha (gGS_lt hk) (hm _ hk)) (fun k t hkt h1 h2 => vA_kept h0 hH hf ha hkt (hm _ h1) (hm _ h2)) (h.2.2 a ha).2⟩⟩
  subst hi
  exact gTape_fr h0 hm hf hH (h.1 rfl)
end
