/-! ===== the typed heap: reading, writing, what stays ===== -/
def k_m2 (t k : Nat) : List (Nat × Nat) → Bool
  | [] => false
  | q :: r => (Nat.beq q.1 t && Nat.beq q.2 k) || k_m2 t k r
theorem k_m2_iff {t k : Nat} : ∀ {l : List (Nat × Nat)}, k_m2 t k l = true ↔ (t, k) ∈ l
  | [] => by simp [k_m2]
  | q :: r => by
    unfold k_m2
    rw [Bool.or_eq_true, Bool.and_eq_true, k_m2_iff, List.mem_cons]
    constructor
    · rintro (⟨h1, h2⟩ | h)
      · left
        have e1 := Nat.eq_of_beq_eq_true h1
        have e2 := Nat.eq_of_beq_eq_true h2
        subst e1; subst e2; rfl
      · exact Or.inr h
    · rintro (h | h)
      · left
        subst h
        exact ⟨Nat.beq_refl _, Nat.beq_refl _⟩
      · exact Or.inr h
def k_sub2 (a b : List (Nat × Nat)) : Bool := a.all (fun q => k_m2 q.1 q.2 b)
theorem k_sub2_iff {a b : List (Nat × Nat)} : k_sub2 a b = true ↔ ∀ q ∈ a, q ∈ b := by
  unfold k_sub2
  rw [List.all_eq_true]
  exact ⟨fun h q hq => k_m2_iff.mp (h q hq), fun h q hq => k_m2_iff.mpr (h q hq)⟩
/-- how a field's int changes: counted up, counted down, set to 0 -/
def k_kd (kd : Nat) (v : Value) (x' : Int32) : Prop := (kd = 0 → ∃ x : Int32, v = .int x ∧ x'.toInt = x.toInt + 1) ∧ (kd = 1 → ∃ x : Int32, v = .int x ∧ x'.toInt = x.toInt - 1) ∧ (kd = 2 → x'.toInt = 0)
/-- rules of invariants where a field is counted or set to 0: (invariant before + 1000 * how, invariant behind) -/
def k_rlF (E : kE) : Prop := ∀ (τ : kTau) (t k a : Nat) (q : Nat × List kInfo) (H H' : Heap) (v : Value) (x' : Int32) (r : Nat × Nat), r ∈ E.2.2.2.2.2.2 (1000000 + 64 * t + k) → E.2.2.2.1[t]? = some (.inl q) → k < q.2.length → τ a = some t → k_HT E τ H → k_HT E τ H' → k_fr E τ [(t, k)] H H' → (∀ b : Nat, b ≠ a → H'[b]? = H[b]?) →
  k_fld E H a q.1 k = some v → k_fld E H' a q.1 k = some (.int x') → k_kd (r.1 / 1000) v x' → E.2.2.2.2.2.1 (r.1 % 1000) τ H → E.2.2.2.2.2.1 r.2 τ H'
/-- rules where an int is stored into an array that is a field, at an index that is a field: owner's tag, field of the index, field of the array, least and greatest value, invariant before, behind -/
def k_rus : List (Nat × Nat) → List (Nat × Nat × Nat × Nat × Nat × Nat × Nat)
  | p1 :: p2 :: p3 :: p4 :: r => (p1.1, p1.2, p2.1, p2.2, p3.1, p3.2, p4.1) :: k_rus r
  | _ => []
def k_rlA (E : kE) : Prop := ∀ (τ : kTau) (t b a : Nat) (u : Nat × Nat × Nat × Nat × Nat × Nat × Nat) (q : Nat × List kInfo) (cA : ClassId) (m : Nat) (f : Nat → Value) (H H' : Heap) (x y : Int32), u ∈ k_rus (E.2.2.2.2.2.2 (2000000 + t)) → τ b = some t → τ a = some u.1 → E.2.2.2.1[u.1]? = some (.inl q) → u.2.1 < q.2.length → u.2.2.1 < q.2.length → k_HT E τ H → k_HT E τ H' → k_fr E τ [(t, 0)] H H' → (∀ c : Nat, c ≠ b → H'[c]? = H[c]?) →
  k_fld E H a q.1 u.2.1 = some (.int x) → k_fld E H a q.1 u.2.2.1 = some (.ref b) → H[b]? = some (arrV cA m f) → H'[b]? = some (arrV cA m (updV f x.toInt.toNat (.int y))) → 0 ≤ x.toInt → x.toInt < (m : Int) → (u.2.2.2.1 : Int) ≤ y.toInt → y.toInt ≤ (u.2.2.2.2.1 : Int) → E.2.2.2.2.2.1 u.2.2.2.2.2.1 τ H → E.2.2.2.2.2.1 u.2.2.2.2.2.2 τ H'
/-- of the kinds' table: an object's class has just its fields, their slots are apart -/
def k_Eok (E : kE) : Prop := (∀ (t : Nat) (q : Nat × List kInfo), E.2.2.2.1[t]? = some (.inl q) → ∃ r : vw_C, E.2.1[q.1]? = some r ∧ r.2.2 = q.2.length ∧ ∀ x y, x < q.2.length → y < q.2.length → x ≠ y → E.1.2 q.1 x ≠ E.1.2 q.1 y) ∧
  (∀ (i : Nat) (τ : kTau) (mods : List (Nat × Nat)) (H H' : Heap), (∀ q ∈ E.2.2.2.2.2.2 i, q ∉ mods) → k_fr E τ mods H H' → k_HT E τ H → E.2.2.2.2.2.1 i τ H → E.2.2.2.2.2.1 i τ H') ∧ k_rlF E ∧ k_rlA E
theorem k_fr_refl {E : kE} {τ : kTau} {mods : List (Nat × Nat)} {H : Heap} : k_fr E τ mods H H := ⟨Nat.le_refl _, fun _ _ _ => rfl, fun _ _ _ => ⟨fun _ _ _ _ _ => rfl, fun _ _ _ => rfl⟩⟩
theorem k_fr_trans {E : kE} {τ : kTau} {m1 m2 : List (Nat × Nat)} {H H1 H2 : Heap} (h1 : k_fr E τ m1 H H1) (h2 : k_fr E τ m2 H1 H2) (hs : ∀ q ∈ m2, q ∈ m1) : k_fr E τ m1 H H2 := by
  obtain ⟨a1, b1, c1⟩ := h1
  obtain ⟨a2, b2, c2⟩ := h2
  refine ⟨Nat.le_trans a1 a2, fun a ha hn => (b2 a (Nat.lt_of_lt_of_le ha a1) hn).trans (b1 a ha hn), fun a t ht => ⟨fun q hq k hk hm => ?_, fun q hq hm => ?_⟩⟩
  · exact ((c2 a t ht).1 q hq k hk (fun z => hm (hs _ z))).trans ((c1 a t ht).1 q hq k hk hm)
  · exact ((c2 a t ht).2 q hq (fun z => hm (hs _ z))).trans ((c1 a t ht).2 q hq hm)
theorem k_cell_kept {E : kE} {τ : kTau} {a : Nat} {H H' : Heap} {d : kDesc} (h : k_cell E τ a H d) (hq : H'[a]? = H[a]?) : k_cell E τ a H' d := by
  cases d with
  | inl q =>
    obtain ⟨vs, h1, h2⟩ := h
    exact ⟨vs, va_at.kept h1 hq, h2⟩
  | inr q =>
    obtain ⟨cA, ty, n, f, h1, h2, h3⟩ := h
    exact ⟨cA, ty, n, f, h1, by rw [hq]; exact h2, h3⟩
theorem k_HT_set {E : kE} {τ : kTau} {a t : Nat} {H H' : Heap} {d : kDesc} (h : k_HT E τ H) (ht : τ a = some t) (hd : E.2.2.2.1[t]? = some d) (hc : k_cell E τ a H' d) (oq : ∀ q : Nat, q ≠ a → H'[q]? = H[q]?) : k_HT E τ H' := by
  intro b t' hb
  by_cases e : b = a
  · subst e
    have : t' = t := Option.some.inj (hb.symm.trans ht)
    subst this
    exact ⟨(h b t' hb).1, d, hd, hc⟩
  · obtain ⟨h1, d', h2, h3⟩ := h b t' hb
    exact ⟨h1, d', h2, k_cell_kept h3 (oq b e)⟩
/-- reading a field: what stands there, and the cell as the kit's rows want it -/
theorem k_read {E : kE} {τ : kTau} {a t k : Nat} {H : Heap} {q : Nat × List kInfo} (hE : k_Eok E) (h : k_HT E τ H) (ht : τ a = some t) (hd : E.2.2.2.1[t]? = some (.inl q)) (hk : k < q.2.length) :
    ∃ (v : Value) (cell : Cell) (x : kInfo), q.2[k]? = some x ∧ k_ok τ x v ∧ H[a]? = some cell ∧ cell.cls = E.1.1 q.1 ∧ cell.vm = .none ∧ cell.slots[E.1.2 q.1 k]? = some v ∧ k_fld E H a q.1 k = some v := by
  obtain ⟨-, d, h2, h3⟩ := h a t ht
  rw [hd] at h2
  cases h2
  obtain ⟨vs, ⟨r, g1, cell, g2, g3, g4, g5⟩, g6, g7⟩ := h3
  obtain ⟨r', e1, e2, e3⟩ := hE.1 t q hd
  have er : r' = r := Option.some.inj (e1.symm.trans g1)
  subst er
  have hx : q.2[k]? = some q.2[k] := List.getElem?_eq_getElem hk
  obtain ⟨v, hv, hok⟩ := g7 k _ hx
  have hs : cell.slots[E.1.2 q.1 k]? = some v := by
    have := g5 k (by rw [e2]; exact hk)
    rw [this]
    simp [vp_V, hv]
  refine ⟨v, cell, _, hx, hok, g2, g3, g4, hs, ?_⟩
  unfold k_fld
  rw [g2]
  exact hs
/-- a field is written -/
theorem k_write {E : kE} {τ : kTau} {a t k : Nat} {H H' : Heap} {q : Nat × List kInfo} {cell : Cell} {v : Value} {x : kInfo} (hE : k_Eok E) (h : k_HT E τ H) (ht : τ a = some t) (hd : E.2.2.2.1[t]? = some (.inl q)) (hx : q.2[k]? = some x) (hv : k_ok τ x v)
    (hc : H[a]? = some cell) (e1 : H'[a]? = some (cell.setSlot (E.1.2 q.1 k) v)) (e2 : H'.size = H.size) (e3 : ∀ b : Nat, b ≠ a → H'[b]? = H[b]?) :
    k_HT E τ H' ∧ k_fr E τ [(t, k)] H H' ∧ k_fld E H' a q.1 k = some v := by
  have hk : k < q.2.length := (List.getElem?_eq_some_iff.mp hx).1
  obtain ⟨-, d, h2, h3⟩ := h a t ht
  rw [hd] at h2
  cases h2
  obtain ⟨vs, ⟨r, g1, cell', g2, g3, g4, g5⟩, g6, g7⟩ := h3
  have ec : cell' = cell := Option.some.inj (g2.symm.trans hc)
  subst ec
  obtain ⟨r', f1, f2, f3⟩ := hE.1 t q hd
  have er : r' = r := Option.some.inj (f1.symm.trans g1)
  subst er
  have hap : ∀ x y, x < r'.2.2 → y < r'.2.2 → x ≠ y → E.1.2 q.1 x ≠ E.1.2 q.1 y := by rw [f2]; exact f3
  have hsl := t_set g5 hap (k := k) (by rw [f2]; exact hk) v
  have hlen : k < vs.length := by rw [g6]; exact hk
  have hat : va_at E.1 E.2.1 (a, .inr (q.1, vs.set k v)) H' := ⟨r', g1, t_OB.to (V := updV (vp_V vs) k v) ⟨_, e1, g3, g4, hsl⟩ (fun j _ => vp_updV_set hlen v j)⟩
  have hfa : k_fld E H' a q.1 k = some v := by
    unfold k_fld
    rw [e1]
    have := hsl k (by rw [f2]; exact hk)
    simpa [updV] using this
  refine ⟨k_HT_set h ht hd ⟨vs.set k v, hat, by rw [List.length_set]; exact g6, fun j y hj => ?_⟩ e3, ⟨Nat.le_of_eq e2.symm, fun b hb hn => ?_, fun b t' hb => ⟨fun q' hq' j hj hm => ?_, fun q' hq' hm => ?_⟩⟩, hfa⟩
  · by_cases e : j = k
    · subst e
      rw [hx] at hj
      cases hj
      exact ⟨v, by rw [List.getElem?_set_self hlen], hv⟩
    · obtain ⟨w, w1, w2⟩ := g7 j y hj
      exact ⟨w, by rw [List.getElem?_set_ne (Ne.symm e)]; exact w1, w2⟩
  · exact e3 b (fun z => by rw [z, ht] at hn; cases hn)
  · by_cases e : b = a
    · subst e
      have et : t' = t := Option.some.inj (hb.symm.trans ht)
      subst et
      rw [hd] at hq'
      cases hq'
      have hjk : j ≠ k := fun z => hm (by rw [z]; exact List.mem_singleton.mpr rfl)
      unfold k_fld
      rw [e1, hc]
      have w1 := hsl j (by rw [f2]; exact hj)
      have w2 := g5 j (by rw [f2]; exact hj)
      simp only [Option.bind_some]
      rw [w1, w2]
      simp [updV, hjk]
    · unfold k_fld
      rw [e3 b e]
  · by_cases e : b = a
    · subst e
      have et : t' = t := Option.some.inj (hb.symm.trans ht)
      subst et
      rw [hd] at hq'
      cases hq'
    · exact e3 b e
theorem k_arr {E : kE} {τ : kTau} {a t : Nat} {H : Heap} {q : Nat × Nat × Nat × List (Nat × Nat × kInfo) × kInfo} (h : k_HT E τ H) (ht : τ a = some t) (hd : E.2.2.2.1[t]? = some (.inr q)) :
    ∃ (cA : ClassId) (ty : FieldType) (n : Nat) (f : Nat → Value), E.2.2.1[q.1]? = some (cA, ty) ∧ H[a]? = some (arrV cA n f) ∧ q.2.1 ≤ n ∧ n ≤ q.2.2.1 ∧ ∀ j, j < n → k_ok τ (k_el q.2.2.2.1 q.2.2.2.2 j) (f j) := by
  obtain ⟨-, d, h2, h3⟩ := h a t ht
  rw [hd] at h2
  cases h2
  exact h3
/-- a place of an array is written -/
theorem k_awrite {E : kE} {τ : kTau} {a t j : Nat} {H H' : Heap} {q : Nat × Nat × Nat × List (Nat × Nat × kInfo) × kInfo} {cA : ClassId} {ty : FieldType} {n : Nat} {f : Nat → Value} {v : Value} (h : k_HT E τ H) (ht : τ a = some t) (hd : E.2.2.2.1[t]? = some (.inr q))
    (h1 : E.2.2.1[q.1]? = some (cA, ty)) (hc : H[a]? = some (arrV cA n f)) (hl : q.2.1 ≤ n) (hu : n ≤ q.2.2.1) (hf : ∀ j, j < n → k_ok τ (k_el q.2.2.2.1 q.2.2.2.2 j) (f j)) (hv : k_ok τ (k_el q.2.2.2.1 q.2.2.2.2 j) v)
    (e1 : H'[a]? = some ((arrV cA n f).setSlot j v)) (e2 : H'.size = H.size) (e3 : ∀ b : Nat, b ≠ a → H'[b]? = H[b]?) :
    k_HT E τ H' ∧ k_fr E τ [(t, 0)] H H' := by
  rw [arrV_store] at e1
  refine ⟨k_HT_set h ht hd ⟨cA, ty, n, updV f j v, h1, e1, hl, hu, fun i hi => ?_⟩ e3, ⟨Nat.le_of_eq e2.symm, fun b hb hn => ?_, fun b t' hb => ⟨fun q' hq' i hi hm => ?_, fun q' hq' hm => ?_⟩⟩⟩
  · unfold updV
    by_cases e : i = j
    · rw [if_pos e, e]; exact hv
    · rw [if_neg e]; exact hf i hi
  · exact e3 b (fun z => by rw [z, ht] at hn; cases hn)
  · by_cases e : b = a
    · subst e
      have et : t' = t := Option.some.inj (hb.symm.trans ht)
      subst et
      rw [hd] at hq'
      cases hq'
    · unfold k_fld
      rw [e3 b e]
  · by_cases e : b = a
    · subst e
      have et : t' = t := Option.some.inj (hb.symm.trans ht)
      subst et
      exact absurd (List.mem_singleton.mpr rfl) hm
    · exact e3 b e
/-- which facts on fields are kept where mods may change -/
def k_keep (env : List (Nat × kInfo)) (mods : List (Nat × Nat)) (ff : List (Nat × Nat × kOp)) : List (Nat × Nat × kOp) := ff.filter (fun q => match k_obj env (.inl q.1) with
  | some p => !(k_m2 p.2 q.2.1 mods)
  | none => false)
theorem k_keep_ok {E : kE} {τ : kTau} {ρ : Nat → Option Value} {env : List (Nat × kInfo)} {mods : List (Nat × Nat)} {ff : List (Nat × Nat × kOp)} {H H' : Heap} (he : k_env τ ρ env) (h : ∀ q ∈ ff, k_fact E τ ρ H q) (hf : k_fr E τ mods H H') : ∀ q ∈ k_keep env mods ff, k_fact E τ ρ H' q := by
  intro q hq
  unfold k_keep at hq
  rw [List.mem_filter] at hq
  obtain ⟨h1, h2⟩ := hq
  obtain ⟨a, t, d, v, g1, g2, g3, g4, g5, g6⟩ := h q h1
  split at h2
  · rename_i p e
    obtain ⟨-, a', e1, e2⟩ := k_obj_ok (s := p.1) (t := p.2) he e
    have hs : (Sum.inl q.1 : kOp) = .inl p.1 := (k_obj_ok (s := p.1) (t := p.2) he e).1
    have hs' : q.1 = p.1 := Sum.inl.inj hs
    rw [← hs', g1] at e1
    have ea : a = a' := by
      have := Option.some.inj e1
      exact Value.ref.inj this
    subst ea
    have et : t = p.2 := Option.some.inj (g2.symm.trans e2)
    subst et
    have hm : (p.2, q.2.1) ∉ mods := fun z => by
      rw [k_m2_iff.mpr z] at h2
      cases h2
    exact ⟨a, p.2, d, v, g1, g2, g3, g4, g5, by rw [(hf.2.2 a p.2 g2).1 d g3 q.2.1 g4 hm]; exact g6⟩
  · cases h2
/-- which facts on arrays are kept -/
def k_keepA (env : List (Nat × kInfo)) (mods : List (Nat × Nat)) (len : List (Nat × Nat × kOp)) : List (Nat × Nat × kOp) := len.filter (fun q => match k_obj env (.inl q.1) with
  | some p => !(k_m2 p.2 0 mods)
  | none => false)
theorem k_keepA_ok {E : kE} {τ : kTau} {ρ : Nat → Option Value} {env : List (Nat × kInfo)} {mods : List (Nat × Nat)} {len : List (Nat × Nat × kOp)} {H H' : Heap} (he : k_env τ ρ env) (h : ∀ q ∈ len, k_len E τ ρ H q) (hf : k_fr E τ mods H H') : ∀ q ∈ k_keepA env mods len, k_len E τ ρ H' q := by
  intro q hq
  unfold k_keepA at hq
  rw [List.mem_filter] at hq
  obtain ⟨q1, q2⟩ := hq
  obtain ⟨a, t, d, cA, n, f, y, h1, h2, h3, h4, h5, h6⟩ := h q q1
  split at q2
  · rename_i p e
    obtain ⟨hs, a', e1, e2⟩ := k_obj_ok (s := p.1) (t := p.2) he e
    have hs' : q.1 = p.1 := Sum.inl.inj hs
    rw [← hs', h1] at e1
    have ea : a = a' := Value.ref.inj (Option.some.inj e1)
    subst ea
    have et : t = p.2 := Option.some.inj (h2.symm.trans e2)
    subst et
    have hm : (p.2, 0) ∉ mods := fun z => by
      rw [k_m2_iff.mpr z] at q2
      cases q2
    exact ⟨a, p.2, d, cA, n, f, y, h1, h2, h3, by rw [(hf.2.2 a p.2 h2).2 d h3 hm]; exact h4, h5, h6⟩
  · cases q2
/-- which invariants are kept -/
def k_gk (GS : Nat → List (Nat × Nat)) (mods : List (Nat × Nat)) (g : List Nat) : List Nat := g.filter (fun i => (GS i).all (fun q => !(k_m2 q.1 q.2 mods)))
theorem k_gk_ok {E : kE} {τ : kTau} {mods : List (Nat × Nat)} {g : List Nat} {H H' : Heap} (hE : k_Eok E) (hH : k_HT E τ H) (hf : k_fr E τ mods H H') (h : ∀ i ∈ g, E.2.2.2.2.2.1 i τ H) : ∀ i ∈ k_gk E.2.2.2.2.2.2 mods g, E.2.2.2.2.2.1 i τ H' := by
  intro i hi
  unfold k_gk at hi
  rw [List.mem_filter, List.all_eq_true] at hi
  refine hE.2.1 i τ mods H H' (fun q hq hm => ?_) hf hH (h i hi.1)
  have := hi.2 q hq
  rw [k_m2_iff.mpr hm] at this
  cases this
