/-! ===== the checker's words: operands, infos, states; what they say of a machine's state ===== -/
abbrev kOp : Type := Nat ⊕ Int
/-- an int between bounds | a long between bounds | a reference (may it be null; to cells of which tags) | one word of any kind -/
abbrev kInfo : Type := kB ⊕ (kB ⊕ ((Bool × List Nat) ⊕ Unit))
/-- a kind of cell: an object (class, infos of its fields) | an array (class of arrays, least and greatest length, infos of some places, of the others) -/
abbrev kDesc : Type := (Nat × List kInfo) ⊕ (Nat × Nat × Nat × List (Nat × Nat × kInfo) × kInfo)
abbrev kTau : Type := Nat → Option Nat
/-- classes' numbers; classes; classes of arrays; kinds of cells; where the world begins; invariants; what these look at -/
abbrev kE : Type := va_G × List vw_C × List (ClassId × FieldType) × List kDesc × Nat × (Nat → kTau → Heap → Prop) × (Nat → List (Nat × Nat))
def k_v (ρ : Nat → Option Value) : kOp → Option Value
  | .inl s => ρ s
  | .inr c => some (.int (Int32.ofInt c))
def k_ok (τ : kTau) : kInfo → Value → Prop
  | .inl q, v => ∃ x : Int32, v = .int x ∧ k_in q x.toInt
  | .inr (.inl q), v => ∃ x : Int64, v = .long x ∧ k_in q x.toInt
  | .inr (.inr (.inl q)), v => (q.1 = true ∧ v = .null) ∨ ∃ a t : Nat, v = .ref a ∧ t ∈ q.2 ∧ τ a = some t
  | .inr (.inr (.inr _)), v => v.category = 1
def k_get : List (Nat × kInfo) → Nat → Option kInfo
  | [], _ => none
  | q :: r, s => if Nat.beq q.1 s = true then some q.2 else k_get r s
def k_loc : List (Nat × kOp) → Nat → Option kOp
  | [], _ => none
  | q :: r, s => if Nat.beq q.1 s = true then some q.2 else k_loc r s
def k_fct : List (Nat × Nat × kOp) → Nat → Nat → Option kOp
  | [], _, _ => none
  | q :: r, s, k => if (Nat.beq q.1 s && Nat.beq q.2.1 k) = true then some q.2.2 else k_fct r s k
def k_ivl (env : List (Nat × kInfo)) : kOp → Option kB
  | .inr c => if (k_le (-2147483648) c && k_le c 2147483647) = true then some (c, c) else none
  | .inl s => match k_get env s with
    | some (.inl q) => some q
    | _ => none
def k_lvl (env : List (Nat × kInfo)) : kOp → Option kB
  | .inr _ => none
  | .inl s => match k_get env s with
    | some (.inr (.inl q)) => some q
    | _ => none
def k_rf (env : List (Nat × kInfo)) : kOp → Option (Bool × List Nat)
  | .inr _ => none
  | .inl s => match k_get env s with
    | some (.inr (.inr (.inl q))) => some q
    | _ => none
/-- a reference to a cell of one tag, not null: the symbol and the tag -/
def k_obj (env : List (Nat × kInfo)) : kOp → Option (Nat × Nat)
  | .inr _ => none
  | .inl s => match k_get env s with
    | some (.inr (.inr (.inl (false, [t])))) => some (s, t)
    | _ => none
abbrev kSt : Type := Nat × List (Nat × kInfo) × List (Nat × kOp) × List kOp × List (Nat × Nat × kOp) × List (Nat × Nat × Nat × Nat × Int) × List (Nat × Nat × kOp) × List Nat × List kOp
/-- which info a place of an array has -/
def k_el : List (Nat × Nat × kInfo) → kInfo → Nat → kInfo
  | [], d, _ => d
  | q :: r, d, j => if (Nat.ble q.1 j && Nat.ble j q.2.1) = true then q.2.2 else k_el r d j
def k_fld (E : kE) (H : Heap) (a ci k : Nat) : Option Value := (H[a]?).bind (fun c => c.slots[E.1.2 ci k]?)
def k_cell (E : kE) (τ : kTau) (a : Nat) (H : Heap) : kDesc → Prop
  | .inl q => ∃ vs : List Value, va_at E.1 E.2.1 (a, .inr (q.1, vs)) H ∧ vs.length = q.2.length ∧ ∀ (k : Nat) (x : kInfo), q.2[k]? = some x → ∃ v, vs[k]? = some v ∧ k_ok τ x v
  | .inr q => ∃ (cA : ClassId) (ty : FieldType) (n : Nat) (f : Nat → Value), E.2.2.1[q.1]? = some (cA, ty) ∧ H[a]? = some (arrV cA n f) ∧ q.2.1 ≤ n ∧ n ≤ q.2.2.1 ∧ ∀ j, j < n → k_ok τ (k_el q.2.2.2.1 q.2.2.2.2 j) (f j)
def k_HT (E : kE) (τ : kTau) (H : Heap) : Prop := ∀ a t : Nat, τ a = some t → E.2.2.2.2.1 ≤ a ∧ ∃ d, E.2.2.2.1[t]? = some d ∧ k_cell E τ a H d
/-- what stays: cells of no tag, fields and arrays that aren't among mods -/
def k_fr (E : kE) (τ : kTau) (mods : List (Nat × Nat)) (H H' : Heap) : Prop :=
  H.size ≤ H'.size ∧ (∀ a, a < H.size → τ a = none → H'[a]? = H[a]?) ∧ ∀ a t, τ a = some t →
    (∀ q, E.2.2.2.1[t]? = some (.inl q) → ∀ k, k < q.2.length → (t, k) ∉ mods → k_fld E H' a q.1 k = k_fld E H a q.1 k) ∧
    (∀ q, E.2.2.2.1[t]? = some (.inr q) → (t, 0) ∉ mods → H'[a]? = H[a]?)
def k_wk (E : kE) (τ : kTau) (mods : List (Nat × Nat)) (H0 H : Heap) (locs : List Loc) : Prop := k_fr E τ mods H0 H ∧ ∀ l ∈ locs, E.2.2.2.2.1 ≤ l.base
def k_fact (E : kE) (τ : kTau) (ρ : Nat → Option Value) (H : Heap) (q : Nat × Nat × kOp) : Prop :=
  ∃ (a t : Nat) (d : Nat × List kInfo) (v : Value), ρ q.1 = some (.ref a) ∧ τ a = some t ∧ E.2.2.2.1[t]? = some (.inl d) ∧ q.2.1 < d.2.length ∧ k_v ρ q.2.2 = some v ∧ k_fld E H a d.1 q.2.1 = some v
/-- (0, a, b, _, c): a = b + c; (1, a, b, ..): a < b; (4, a, b, b', _): a is the comparing of the longs b, b'; (5, a, b, ..): the long a is the int b; (6, a, b, b', _): a is the ints' sum b + b'; (7, a, ..): the long a is not 0 -/
def k_rel (ρ : Nat → Option Value) (q : Nat × Nat × Nat × Nat × Int) : Prop :=
  (q.1 = 0 → ∃ x y : Int32, ρ q.2.1 = some (.int x) ∧ ρ q.2.2.1 = some (.int y) ∧ x.toInt = y.toInt + q.2.2.2.2) ∧
  (q.1 = 1 → ∃ x y : Int32, ρ q.2.1 = some (.int x) ∧ ρ q.2.2.1 = some (.int y) ∧ x.toInt < y.toInt) ∧
  (q.1 = 4 → ∃ (z : Int32) (x y : Int64), ρ q.2.1 = some (.int z) ∧ ρ q.2.2.1 = some (.long x) ∧ ρ q.2.2.2.1 = some (.long y) ∧ z = lg_cmp x y) ∧
  (q.1 = 5 → ∃ (x : Int64) (y : Int32), ρ q.2.1 = some (.long x) ∧ ρ q.2.2.1 = some (.int y) ∧ x.toInt = y.toInt) ∧
  (q.1 = 6 → ∃ x y : Int32, ρ q.2.2.1 = some (.int x) ∧ ρ q.2.2.2.1 = some (.int y) ∧ ρ q.2.1 = some (.int (x + y))) ∧
  (q.1 = 7 → ∃ x : Int64, ρ q.2.1 = some (.long x) ∧ ¬ x = 0)
/-- of an array: (symbol, 0, its length), (symbol, j + 1, what stands in place j) -/
def k_len (E : kE) (τ : kTau) (ρ : Nat → Option Value) (H : Heap) (q : Nat × Nat × kOp) : Prop :=
  ∃ (a t : Nat) (d : Nat × Nat × Nat × List (Nat × Nat × kInfo) × kInfo) (cA : ClassId) (n : Nat) (f : Nat → Value) (v : Value), ρ q.1 = some (.ref a) ∧ τ a = some t ∧ E.2.2.2.1[t]? = some (.inr d) ∧ H[a]? = some (arrV cA n f) ∧ k_v ρ q.2.2 = some v ∧ (q.2.1 = 0 → ∃ y : Int32, v = .int y ∧ y.toInt = (n : Int)) ∧ ∀ j, q.2.1 = j + 1 → j < n ∧ f j = v
def k_env (τ : kTau) (ρ : Nat → Option Value) (env : List (Nat × kInfo)) : Prop := ∀ q ∈ env, ∃ v, ρ q.1 = some v ∧ k_ok τ q.2 v
/-- the state σ says this of a heap, locals and operand stack, under ρ -/
def k_R (E : kE) (nL : Nat) (τ : kTau) (vs : List Value) (ρ : Nat → Option Value) (H : Heap) (ls : Array Slot) (st : List Value) : kSt → Prop
  | (n, env, loc, stk, ff, rel, len, g, par) =>
    (∀ i, n ≤ i → ρ i = none) ∧ k_env τ ρ env ∧ (ls.size = nL ∧ lv_wf ls ∧ ∀ q ∈ loc, ∃ v, k_v ρ q.2 = some v ∧ ls[q.1]? = some (.val v)) ∧ stk.map (k_v ρ) = st.map some ∧
    (∀ q ∈ ff, k_fact E τ ρ H q) ∧ (∀ q ∈ rel, k_rel ρ q) ∧ (∀ q ∈ len, k_len E τ ρ H q) ∧ (∀ i ∈ g, E.2.2.2.2.2.1 i τ H) ∧ par.map (k_v ρ) = vs.map some
def k_le' (ρ ρ' : Nat → Option Value) : Prop := ∀ i v, ρ i = some v → ρ' i = some v
theorem k_v_up {ρ ρ' : Nat → Option Value} (h : k_le' ρ ρ') {o : kOp} {v : Value} (e : k_v ρ o = some v) : k_v ρ' o = some v := by
  cases o with
  | inl s => exact h s v e
  | inr c => exact e
theorem k_map_up {ρ ρ' : Nat → Option Value} (h : k_le' ρ ρ') : ∀ {l : List kOp} {vs : List Value}, l.map (k_v ρ) = vs.map some → l.map (k_v ρ') = vs.map some
  | [], vs, e => by simpa using e
  | o :: l, [], e => by simp at e
  | o :: l, v :: vs, e => by
    simp only [List.map_cons, List.cons.injEq] at e ⊢
    exact ⟨k_v_up h e.1, k_map_up h e.2⟩
theorem k_env_up {τ : kTau} {ρ ρ' : Nat → Option Value} (h : k_le' ρ ρ') {env : List (Nat × kInfo)} (e : k_env τ ρ env) : k_env τ ρ' env := fun q hq => by
  obtain ⟨v, h1, h2⟩ := e q hq
  exact ⟨v, h _ _ h1, h2⟩
theorem k_fact_up {E : kE} {τ : kTau} {ρ ρ' : Nat → Option Value} (h : k_le' ρ ρ') {H : Heap} {q : Nat × Nat × kOp} (e : k_fact E τ ρ H q) : k_fact E τ ρ' H q := by
  obtain ⟨a, t, d, v, h1, h2, h3, h4, h5, h6⟩ := e
  exact ⟨a, t, d, v, h _ _ h1, h2, h3, h4, k_v_up h h5, h6⟩
theorem k_rel_up {ρ ρ' : Nat → Option Value} (h : k_le' ρ ρ') {q : Nat × Nat × Nat × Nat × Int} (e : k_rel ρ q) : k_rel ρ' q := by
  obtain ⟨e0, e1, e4, e5, e6, e7⟩ := e
  refine ⟨fun z => ?_, fun z => ?_, fun z => ?_, fun z => ?_, fun z => ?_, fun z => ?_⟩
  · obtain ⟨x, y, h1, h2, h3⟩ := e0 z
    exact ⟨x, y, h _ _ h1, h _ _ h2, h3⟩
  · obtain ⟨x, y, h1, h2, h3⟩ := e1 z
    exact ⟨x, y, h _ _ h1, h _ _ h2, h3⟩
  · obtain ⟨w, x, y, h1, h2, h3, h4⟩ := e4 z
    exact ⟨w, x, y, h _ _ h1, h _ _ h2, h _ _ h3, h4⟩
  · obtain ⟨x, y, h1, h2, h3⟩ := e5 z
    exact ⟨x, y, h _ _ h1, h _ _ h2, h3⟩
  · obtain ⟨x, y, h1, h2, h3⟩ := e6 z
    exact ⟨x, y, h _ _ h1, h _ _ h2, h _ _ h3⟩
  · obtain ⟨x, h1, h2⟩ := e7 z
    exact ⟨x, h _ _ h1, h2⟩
theorem k_r0 {ρ : Nat → Option Value} {a b c : Nat} {k : Int} (h : ∃ x y : Int32, ρ a = some (.int x) ∧ ρ b = some (.int y) ∧ x.toInt = y.toInt + k) : k_rel ρ (0, a, b, c, k) := by
  refine ⟨fun _ => h, ?_, ?_, ?_, ?_, ?_⟩ <;> intro z <;> cases z
theorem k_r1 {ρ : Nat → Option Value} {a b c : Nat} {k : Int} (h : ∃ x y : Int32, ρ a = some (.int x) ∧ ρ b = some (.int y) ∧ x.toInt < y.toInt) : k_rel ρ (1, a, b, c, k) := by
  refine ⟨?_, fun _ => h, ?_, ?_, ?_, ?_⟩ <;> intro z <;> cases z
theorem k_r4 {ρ : Nat → Option Value} {a b c : Nat} {k : Int} (h : ∃ (z : Int32) (x y : Int64), ρ a = some (.int z) ∧ ρ b = some (.long x) ∧ ρ c = some (.long y) ∧ z = lg_cmp x y) : k_rel ρ (4, a, b, c, k) := by
  refine ⟨?_, ?_, fun _ => h, ?_, ?_, ?_⟩ <;> intro z <;> cases z
theorem k_r5 {ρ : Nat → Option Value} {a b c : Nat} {k : Int} (h : ∃ (x : Int64) (y : Int32), ρ a = some (.long x) ∧ ρ b = some (.int y) ∧ x.toInt = y.toInt) : k_rel ρ (5, a, b, c, k) := by
  refine ⟨?_, ?_, ?_, fun _ => h, ?_, ?_⟩ <;> intro z <;> cases z
theorem k_r6 {ρ : Nat → Option Value} {a b c : Nat} {k : Int} (h : ∃ x y : Int32, ρ b = some (.int x) ∧ ρ c = some (.int y) ∧ ρ a = some (.int (x + y))) : k_rel ρ (6, a, b, c, k) := by
  refine ⟨?_, ?_, ?_, ?_, fun _ => h, ?_⟩ <;> intro z <;> cases z
theorem k_r7 {ρ : Nat → Option Value} {a b c : Nat} {k : Int} (h : ∃ x : Int64, ρ a = some (.long x) ∧ ¬ x = 0) : k_rel ρ (7, a, b, c, k) := by
  refine ⟨?_, ?_, ?_, ?_, ?_, fun _ => h⟩ <;> intro z <;> cases z
theorem k_len_up {E : kE} {τ : kTau} {ρ ρ' : Nat → Option Value} (h : k_le' ρ ρ') {H : Heap} {q : Nat × Nat × kOp} (e : k_len E τ ρ H q) : k_len E τ ρ' H q := by
  obtain ⟨a, t, d, cA, n, f, y, h1, h2, h3, h4, h5, h6⟩ := e
  exact ⟨a, t, d, cA, n, f, y, h _ _ h1, h2, h3, h4, k_v_up h h5, h6⟩
/-- a new symbol -/
def k_ext (ρ : Nat → Option Value) (n : Nat) (v : Value) : Nat → Option Value := fun i => if i = n then some v else ρ i
theorem k_ext_le {ρ : Nat → Option Value} {n : Nat} {v : Value} (h : ∀ i, n ≤ i → ρ i = none) : k_le' ρ (k_ext ρ n v) := by
  intro i w hi
  unfold k_ext
  by_cases e : i = n
  · subst e
    rw [h i (Nat.le_refl _)] at hi
    cases hi
  · rw [if_neg e]; exact hi
theorem k_ext_at {ρ : Nat → Option Value} {n : Nat} {v : Value} : k_ext ρ n v n = some v := if_pos rfl
theorem k_ext_dom {ρ : Nat → Option Value} {n : Nat} {v : Value} (h : ∀ i, n ≤ i → ρ i = none) : ∀ i, n + 1 ≤ i → k_ext ρ n v i = none := by
  intro i hi
  unfold k_ext
  rw [if_neg (by omega)]
  exact h i (by omega)
theorem k_R_new {E : kE} {nL : Nat} {τ : kTau} {vs : List Value} {ρ : Nat → Option Value} {H : Heap} {ls : Array Slot} {st : List Value} {n : Nat} {env : List (Nat × kInfo)} {loc : List (Nat × kOp)} {stk : List kOp} {ff : List (Nat × Nat × kOp)} {rel : List (Nat × Nat × Nat × Nat × Int)} {len : List (Nat × Nat × kOp)} {g : List Nat} {par : List kOp}
    (h : k_R E nL τ vs ρ H ls st (n, env, loc, stk, ff, rel, len, g, par)) {x : kInfo} {v : Value} (hv : k_ok τ x v) :
    k_R E nL τ vs (k_ext ρ n v) H ls (v :: st) (n + 1, (n, x) :: env, loc, .inl n :: stk, ff, rel, len, g, par) := by
  obtain ⟨h1, h2, ⟨h3, h3', h3''⟩, h4, h5, h6, h7, h8, h9⟩ := h
  have hu := k_ext_le (v := v) h1
  refine ⟨k_ext_dom h1, ?_, ⟨h3, h3', fun q hq => by obtain ⟨w, w1, w2⟩ := h3'' q hq; exact ⟨w, k_v_up hu w1, w2⟩⟩, ?_, fun q hq => k_fact_up hu (h5 q hq), fun q hq => k_rel_up hu (h6 q hq), fun q hq => k_len_up hu (h7 q hq), h8, k_map_up hu h9⟩
  · intro q hq
    rcases List.mem_cons.mp hq with e | e
    · subst e
      exact ⟨v, k_ext_at, hv⟩
    · exact k_env_up hu h2 q e
  · simp only [List.map_cons, List.cons.injEq]
    exact ⟨k_ext_at, k_map_up hu h4⟩
theorem k_get_ok {τ : kTau} {ρ : Nat → Option Value} : ∀ {env : List (Nat × kInfo)} {s : Nat} {x : kInfo}, k_env τ ρ env → k_get env s = some x → ∃ v, ρ s = some v ∧ k_ok τ x v
  | [], s, x, _, e => by cases e
  | q :: r, s, x, h, e => by
    unfold k_get at e
    split at e
    · rename_i c
      cases e
      have : q.1 = s := Nat.eq_of_beq_eq_true c
      subst this
      exact h q List.mem_cons_self
    · exact k_get_ok (fun z hz => h z (List.mem_cons_of_mem _ hz)) e
theorem k_ivl_ok {τ : kTau} {ρ : Nat → Option Value} {env : List (Nat × kInfo)} {o : kOp} {q : kB} (h : k_env τ ρ env) (e : k_ivl env o = some q) : ∃ x : Int32, k_v ρ o = some (.int x) ∧ k_in q x.toInt := by
  cases o with
  | inr c =>
    unfold k_ivl at e
    dsimp only at e
    split at e
    · rename_i z
      rw [Bool.and_eq_true, k_le_iff, k_le_iff] at z
      cases e
      refine ⟨Int32.ofInt c, rfl, ?_⟩
      have : (Int32.ofInt c).toInt = c := by
        rw [Int32.toInt_ofInt]
        exact Int.bmod_eq_of_le (by show -(_ : Int) ≤ _; have : (Int32.size : Int) = 4294967296 := rfl; omega) (by have : (Int32.size : Int) = 4294967296 := rfl; omega)
      rw [this]
      exact ⟨Int.le_refl _, Int.le_refl _⟩
    · cases e
  | inl s =>
    unfold k_ivl at e
    dsimp only at e
    split at e
    · rename_i q' e'
      cases e
      obtain ⟨v, h1, x, h2, h3⟩ := k_get_ok h e'
      subst h2
      exact ⟨x, h1, h3⟩
    · cases e
theorem k_lvl_ok {τ : kTau} {ρ : Nat → Option Value} {env : List (Nat × kInfo)} {o : kOp} {q : kB} (h : k_env τ ρ env) (e : k_lvl env o = some q) : ∃ x : Int64, k_v ρ o = some (.long x) ∧ k_in q x.toInt := by
  cases o with
  | inr c => cases e
  | inl s =>
    unfold k_lvl at e
    dsimp only at e
    split at e
    · rename_i q' e'
      cases e
      obtain ⟨v, h1, x, h2, h3⟩ := k_get_ok h e'
      subst h2
      exact ⟨x, h1, h3⟩
    · cases e
theorem k_obj_ok {τ : kTau} {ρ : Nat → Option Value} {env : List (Nat × kInfo)} {o : kOp} {s t : Nat} (h : k_env τ ρ env) (e : k_obj env o = some (s, t)) : o = .inl s ∧ ∃ a : Nat, ρ s = some (.ref a) ∧ τ a = some t := by
  cases o with
  | inr c => cases e
  | inl s' =>
    unfold k_obj at e
    dsimp only at e
    split at e
    · rename_i t' e'
      cases e
      obtain ⟨v, h1, h2⟩ := k_get_ok h e'
      refine ⟨rfl, ?_⟩
      rcases h2 with ⟨h2, -⟩ | ⟨a, t2, h2, h3, h4⟩
      · cases h2
      · subst h2
        rw [List.mem_singleton.mp h3] at h4
        exact ⟨a, h1, h4⟩
    · cases e
