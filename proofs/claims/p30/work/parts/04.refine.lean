/-! ===== infos: one within another, both at once, what a comparing tells ===== -/
def k_mem1 (t : Nat) : List Nat → Bool
  | [] => false
  | a :: r => Nat.beq a t || k_mem1 t r
theorem k_mem1_iff {t : Nat} : ∀ {l : List Nat}, k_mem1 t l = true ↔ t ∈ l
  | [] => by simp [k_mem1]
  | a :: r => by
    unfold k_mem1
    rw [Bool.or_eq_true, k_mem1_iff, List.mem_cons]
    constructor
    · rintro (h | h)
      · exact Or.inl (Nat.eq_of_beq_eq_true h).symm
      · exact Or.inr h
    · rintro (h | h)
      · exact Or.inl (by rw [h]; exact Nat.beq_refl _)
      · exact Or.inr h
def k_sub1 (a b : List Nat) : Bool := a.all (fun t => k_mem1 t b)
theorem k_sub1_iff {a b : List Nat} : k_sub1 a b = true ↔ ∀ t ∈ a, t ∈ b := by
  unfold k_sub1
  rw [List.all_eq_true]
  exact ⟨fun h q hq => k_mem1_iff.mp (h q hq), fun h q hq => k_mem1_iff.mpr (h q hq)⟩
def k_bw (p q : kB) : Bool := k_le q.1 p.1 && k_le p.2 q.2
theorem k_bw_ok {p q : kB} {z : Int} (e : k_bw p q = true) (h : k_in p z) : k_in q z := by
  unfold k_bw at e
  rw [Bool.and_eq_true, k_le_iff, k_le_iff] at e
  exact ⟨Int.le_trans e.1 h.1, Int.le_trans h.2 e.2⟩
/-- x says no less than y -/
def k_isub : kInfo → kInfo → Bool
  | .inl p, .inl q => k_bw p q
  | .inr (.inl p), .inr (.inl q) => k_bw p q
  | .inr (.inr (.inl p)), .inr (.inr (.inl q)) => (!p.1 || q.1) && k_sub1 p.2 q.2
  | .inl _, .inr (.inr (.inr _)) => true
  | .inr (.inr _), .inr (.inr (.inr _)) => true
  | _, _ => false
theorem k_isub_ok {τ : kTau} {x y : kInfo} {v : Value} (e : k_isub x y = true) (h : k_ok τ x v) : k_ok τ y v := by
  unfold k_isub at e
  split at e
  · obtain ⟨z, h1, h2⟩ := h
    exact ⟨z, h1, k_bw_ok e h2⟩
  · obtain ⟨z, h1, h2⟩ := h
    exact ⟨z, h1, k_bw_ok e h2⟩
  · rename_i p q
    rw [Bool.and_eq_true, Bool.or_eq_true, k_sub1_iff] at e
    rcases h with ⟨h1, h2⟩ | ⟨a, t, h1, h2, h3⟩
    · left
      rcases e.1 with e1 | e1
      · rw [h1] at e1; cases e1
      · exact ⟨e1, h2⟩
    · exact Or.inr ⟨a, t, h1, e.2 t h2, h3⟩
  · obtain ⟨z, h1, h2⟩ := h
    subst h1
    rfl
  · rename_i p q
    cases p with
    | inl p =>
      rcases h with ⟨h1, h2⟩ | ⟨a, t, h1, h2, h3⟩
      · subst h2; rfl
      · subst h1; rfl
    | inr p => exact h
  · cases e
def k_opinfo (env : List (Nat × kInfo)) : kOp → Option kInfo
  | .inl s => k_get env s
  | .inr c => if (k_le (-2147483648) c && k_le c 2147483647) = true then some (.inl (c, c)) else none
theorem k_opinfo_ok {τ : kTau} {ρ : Nat → Option Value} {env : List (Nat × kInfo)} {o : kOp} {x : kInfo} (h : k_env τ ρ env) (e : k_opinfo env o = some x) : ∃ v, k_v ρ o = some v ∧ k_ok τ x v := by
  cases o with
  | inl s => exact k_get_ok h e
  | inr c =>
    unfold k_opinfo at e
    dsimp only at e
    split at e
    · rename_i z
      cases e
      obtain ⟨y, h1, h2⟩ := k_ivl_ok (o := .inr c) (q := (c, c)) h (by unfold k_ivl; dsimp only; rw [if_pos z])
      exact ⟨_, h1, y, rfl, h2⟩
    · cases e
def k_has (env : List (Nat × kInfo)) (o : kOp) (y : kInfo) : Bool := match k_opinfo env o with
  | some x => k_isub x y
  | none => false
theorem k_has_ok {τ : kTau} {ρ : Nat → Option Value} {env : List (Nat × kInfo)} {o : kOp} {y : kInfo} (h : k_env τ ρ env) (e : k_has env o y = true) : ∃ v, k_v ρ o = some v ∧ k_ok τ y v := by
  unfold k_has at e
  split at e
  · rename_i x e'
    obtain ⟨v, h1, h2⟩ := k_opinfo_ok h e'
    exact ⟨v, h1, k_isub_ok e h2⟩
  · cases e
def k_meetB (p q : kB) : Option kB := if k_le (k_max p.1 q.1) (k_min p.2 q.2) = true then some (k_max p.1 q.1, k_min p.2 q.2) else none
theorem k_meetB_ok {p q : kB} {z : Int} (h1 : k_in p z) (h2 : k_in q z) : ∃ r, k_meetB p q = some r ∧ k_in r z := by
  have a := k_max_le h1.1 h2.1
  have b := k_min_le h1.2 h2.2
  refine ⟨(k_max p.1 q.1, k_min p.2 q.2), ?_, ⟨a, b⟩⟩
  unfold k_meetB
  rw [if_pos (k_le_iff.mpr (Int.le_trans a b))]
def k_meet : kInfo → kInfo → Option kInfo
  | .inl p, .inl q => match k_meetB p q with
    | some r => some (.inl r)
    | none => none
  | .inr (.inl p), .inr (.inl q) => match k_meetB p q with
    | some r => some (.inr (.inl r))
    | none => none
  | .inr (.inr (.inl p)), .inr (.inr (.inl q)) => some (.inr (.inr (.inl (p.1 && q.1, p.2.filter (fun t => k_mem1 t q.2)))))
  | x, _ => some x
theorem k_meet_ok {τ : kTau} {x y : kInfo} {v : Value} (h1 : k_ok τ x v) (h2 : k_ok τ y v) : ∃ z, k_meet x y = some z ∧ k_ok τ z v := by
  unfold k_meet
  split
  · rename_i p q
    obtain ⟨a, e1, a1⟩ := h1
    obtain ⟨b, e2, b1⟩ := h2
    subst e1
    have : a = b := Value.int.inj e2
    subst this
    obtain ⟨r, hr, hr2⟩ := k_meetB_ok a1 b1
    rw [hr]
    exact ⟨_, rfl, a, rfl, hr2⟩
  · rename_i p q
    obtain ⟨a, e1, a1⟩ := h1
    obtain ⟨b, e2, b1⟩ := h2
    subst e1
    have : a = b := Value.long.inj e2
    subst this
    obtain ⟨r, hr, hr2⟩ := k_meetB_ok a1 b1
    rw [hr]
    exact ⟨_, rfl, a, rfl, hr2⟩
  · rename_i p q
    refine ⟨_, rfl, ?_⟩
    rcases h1 with ⟨g1, g2⟩ | ⟨a, t, g1, g2, g3⟩
    · rcases h2 with ⟨f1, f2⟩ | ⟨a', t', f1, f2, f3⟩
      · exact Or.inl ⟨by show (p.1 && q.1) = true; rw [g1, f1]; rfl, g2⟩
      · rw [g2] at f1; cases f1
    · rcases h2 with ⟨f1, f2⟩ | ⟨a', t', f1, f2, f3⟩
      · rw [g1] at f2; cases f2
      · rw [g1] at f1
        have ea : a = a' := Value.ref.inj f1
        subst ea
        have et : t = t' := Option.some.inj (g3.symm.trans f3)
        subst et
        exact Or.inr ⟨a, t, g1, List.mem_filter.mpr ⟨g2, k_mem1_iff.mpr f2⟩, g3⟩
  · exact ⟨_, rfl, h1⟩
/-- a symbol is said to be y too; none: that can't be -/
def k_refS (env : List (Nat × kInfo)) (s : Nat) (y : kInfo) : Option (kInfo × List (Nat × kInfo)) := match k_get env s with
  | some x => match k_meet x y with
    | some z => some (z, (s, z) :: env)
    | none => none
  | none => some (y, (s, y) :: env)
theorem k_refS_ok {τ : kTau} {ρ : Nat → Option Value} {env : List (Nat × kInfo)} {s : Nat} {y : kInfo} {v : Value} (h : k_env τ ρ env) (hs : ρ s = some v) (hy : k_ok τ y v) : ∃ r, k_refS env s y = some r ∧ k_env τ ρ r.2 ∧ k_ok τ r.1 v := by
  unfold k_refS
  split
  · rename_i x e
    obtain ⟨w, h1, h2⟩ := k_get_ok h e
    have : w = v := Option.some.inj (h1.symm.trans hs)
    subst this
    obtain ⟨z, hz, hz2⟩ := k_meet_ok h2 hy
    rw [hz]
    refine ⟨_, rfl, fun q hq => ?_, hz2⟩
    rcases List.mem_cons.mp hq with e | e
    · subst e; exact ⟨w, hs, hz2⟩
    · exact h q e
  · refine ⟨_, rfl, fun q hq => ?_, hy⟩
    rcases List.mem_cons.mp hq with e | e
    · subst e; exact ⟨v, hs, hy⟩
    · exact h q e
def k_ref1 (env : List (Nat × kInfo)) (s : Nat) (y : kInfo) : List (Nat × kInfo) := match k_refS env s y with
  | some r => r.2
  | none => env
theorem k_ref1_ok {τ : kTau} {ρ : Nat → Option Value} {env : List (Nat × kInfo)} {s : Nat} {y : kInfo} {v : Value} (h : k_env τ ρ env) (hs : ρ s = some v) (hy : k_ok τ y v) : k_env τ ρ (k_ref1 env s y) := by
  obtain ⟨r, h1, h2, -⟩ := k_refS_ok h hs hy
  unfold k_ref1
  rw [h1]
  exact h2
/-- of a sum of two ints that doesn't run over: what is told of it is told of both -/
def k_psum (env : List (Nat × kInfo)) (b : kB) (x y : Nat) : List (Nat × kInfo) := match k_ivl env (.inl x), k_ivl env (.inl y) with
  | some p, some r => if (k_le (-2147483648) (p.1 + r.1) && k_le (p.2 + r.2) 2147483647) = true then k_ref1 (k_ref1 env x (.inl (b.1 - r.2, b.2 - r.1))) y (.inl (b.1 - p.2, b.2 - p.1)) else env
  | _, _ => env
theorem k_psum_ok {τ : kTau} {ρ : Nat → Option Value} {env : List (Nat × kInfo)} {b : kB} {x y : Nat} {u w : Int32} (h : k_env τ ρ env) (hx : ρ x = some (.int u)) (hy : ρ y = some (.int w)) (hb : k_in b (u + w).toInt) : k_env τ ρ (k_psum env b x y) := by
  unfold k_psum
  split
  · rename_i p r hp hr
    split
    · rename_i c
      rw [Bool.and_eq_true, k_le_iff, k_le_iff] at c
      obtain ⟨u', h1, h2⟩ := k_ivl_ok h hp
      obtain ⟨w', h3, h4⟩ := k_ivl_ok h hr
      have e1 : u' = u := by
        have := h1.symm.trans hx
        cases this
        rfl
      have e2 : w' = w := by
        have := h3.symm.trans hy
        cases this
        rfl
      subst e1; subst e2
      have p1 := h2.1
      have p2 := h2.2
      have r1 := h4.1
      have r2 := h4.2
      have hs : (u' + w').toInt = u'.toInt + w'.toInt := by
        rw [Int32.toInt_add]
        exact Int.bmod_eq_of_le (by omega) (by omega)
      rw [hs] at hb
      have b1 := hb.1
      have b2 := hb.2
      refine k_ref1_ok (k_ref1_ok h hx ⟨u', rfl, ?_, ?_⟩) hy ⟨w', rfl, ?_, ?_⟩
      · show b.1 - r.2 ≤ _; omega
      · show _ ≤ b.2 - r.1; omega
      · show b.1 - p.2 ≤ _; omega
      · show _ ≤ b.2 - p.1; omega
    · exact h
  · exact h
/-- what is told of s is told of what s was made of -/
def k_prop (s : Nat) (z : kInfo) : List (Nat × Nat × Nat × Nat × Int) → List (Nat × kInfo) → List (Nat × kInfo)
  | [], env => env
  | q :: r, env => k_prop s z r (match z with
    | .inl b => if (Nat.beq q.1 0 && Nat.beq q.2.1 s) = true then k_ref1 env q.2.2.1 (.inl (b.1 - q.2.2.2.2, b.2 - q.2.2.2.2)) else if (Nat.beq q.1 6 && Nat.beq q.2.1 s) = true then k_psum env b q.2.2.1 q.2.2.2.1 else env
    | .inr (.inl b) => if (Nat.beq q.1 5 && Nat.beq q.2.1 s) = true then k_ref1 env q.2.2.1 (.inl b) else env
    | _ => env)
theorem k_prop_ok {τ : kTau} {ρ : Nat → Option Value} {s : Nat} {z : kInfo} {v : Value} (hs : ρ s = some v) (hz : k_ok τ z v) : ∀ {rel : List (Nat × Nat × Nat × Nat × Int)} {env : List (Nat × kInfo)}, (∀ q ∈ rel, k_rel ρ q) → k_env τ ρ env → k_env τ ρ (k_prop s z rel env)
  | [], env, _, h => h
  | q :: r, env, hr, h => by
    unfold k_prop
    refine k_prop_ok hs hz (fun x hx => hr x (List.mem_cons_of_mem _ hx)) ?_
    split
    · rename_i b
      split
      · rename_i c
        rw [Bool.and_eq_true] at c
        have c1 := Nat.eq_of_beq_eq_true c.1
        have c2 := Nat.eq_of_beq_eq_true c.2
        obtain ⟨x, y, e1, e2, e3⟩ := (hr q List.mem_cons_self).1 c1
        rw [c2, hs] at e1
        cases e1
        obtain ⟨x', f1, f2⟩ := hz
        cases f1
        exact k_ref1_ok h e2 ⟨y, rfl, by show _ - _ ≤ _; have := f2.1; omega, by show _ ≤ _ - _; have := f2.2; omega⟩
      · split
        · rename_i c
          rw [Bool.and_eq_true] at c
          have c1 := Nat.eq_of_beq_eq_true c.1
          have c2 := Nat.eq_of_beq_eq_true c.2
          obtain ⟨x, y, e1, e2, e3⟩ := (hr q List.mem_cons_self).2.2.2.2.1 c1
          rw [c2, hs] at e3
          cases e3
          obtain ⟨x', f1, f2⟩ := hz
          cases f1
          exact k_psum_ok h e1 e2 f2
        · exact h
    · rename_i b
      split
      · rename_i c
        rw [Bool.and_eq_true] at c
        have c1 := Nat.eq_of_beq_eq_true c.1
        have c2 := Nat.eq_of_beq_eq_true c.2
        obtain ⟨x, y, e1, e2, e3⟩ := (hr q List.mem_cons_self).2.2.2.1 c1
        rw [c2, hs] at e1
        cases e1
        obtain ⟨x', f1, f2⟩ := hz
        cases f1
        exact k_ref1_ok h e2 ⟨y, rfl, by rw [← e3]; exact f2⟩
      · exact h
    · exact h
/-- an operand is said to be y too -/
def k_refO (rel : List (Nat × Nat × Nat × Nat × Int)) (env : List (Nat × kInfo)) (o : kOp) (y : kInfo) : Option (List (Nat × kInfo)) := match o with
  | .inl s => match k_refS env s y with
    | some r => some (k_prop s r.1 rel r.2)
    | none => none
  | .inr c => match y with
    | .inl b => if (k_le b.1 c && k_le c b.2) = true then some env else none
    | _ => some env
theorem k_refO_ok {τ : kTau} {ρ : Nat → Option Value} {rel : List (Nat × Nat × Nat × Nat × Int)} {env : List (Nat × kInfo)} {o : kOp} {y : kInfo} {v : Value} (hr : ∀ q ∈ rel, k_rel ρ q) (h : k_env τ ρ env) (ho : k_v ρ o = some v) (hy : k_ok τ y v) (hc : ∀ c, o = .inr c → (Int32.ofInt c).toInt = c) : ∃ r, k_refO rel env o y = some r ∧ k_env τ ρ r := by
  cases o with
  | inl s =>
    obtain ⟨r, h1, h2, h3⟩ := k_refS_ok h ho hy
    refine ⟨k_prop s r.1 rel r.2, ?_, k_prop_ok ho h3 hr h2⟩
    unfold k_refO
    dsimp only
    rw [h1]
  | inr c =>
    have hv : v = .int (Int32.ofInt c) := (Option.some.inj ho).symm
    subst hv
    unfold k_refO
    dsimp only
    split
    · rename_i b
      obtain ⟨x, e1, e2⟩ := hy
      cases e1
      rw [hc c rfl] at e2
      rw [if_pos (by rw [Bool.and_eq_true, k_le_iff, k_le_iff]; exact e2)]
      exact ⟨_, rfl, h⟩
    · exact ⟨_, rfl, h⟩
/-- comparing -/
def k_cond : ClassFile.Cond → Int → Int → Prop
  | .eq, x, y => x = y
  | .ne, x, y => ¬ x = y
  | .lt, x, y => x < y
  | .ge, x, y => y ≤ x
  | .gt, x, y => y < x
  | .le, x, y => x ≤ y
def k_neg : ClassFile.Cond → ClassFile.Cond
  | .eq => .ne
  | .ne => .eq
  | .lt => .ge
  | .ge => .lt
  | .gt => .le
  | .le => .gt
theorem k_neg_ok {op : ClassFile.Cond} {x y : Int} (h : ¬ k_cond op x y) : k_cond (k_neg op) x y := by
  cases op <;> simp only [k_cond, k_neg] at h ⊢ <;> omega
def k_trim (x y : kB) : kB := if k_eqi y.1 y.2 = true then (if k_eqi x.1 y.1 = true then (x.1 + 1, x.2) else if k_eqi x.2 y.1 = true then (x.1, x.2 - 1) else x) else x
theorem k_trim_ok {p q : kB} {x y : Int} (h1 : k_in p x) (h2 : k_in q y) (h : ¬ x = y) : k_in (k_trim p q) x := by
  obtain ⟨a, b⟩ := h1
  obtain ⟨c, d⟩ := h2
  unfold k_trim
  split
  · rename_i e
    rw [k_eqi_iff] at e
    split
    · rename_i e2
      rw [k_eqi_iff] at e2
      exact ⟨by show p.1 + 1 ≤ x; omega, b⟩
    · split
      · rename_i e2 e3
        rw [k_eqi_iff] at e3
        exact ⟨a, by show x ≤ p.2 - 1; omega⟩
      · exact ⟨a, b⟩
  · exact ⟨a, b⟩
def k_bnd : ClassFile.Cond → kB → kB → kB × kB
  | .lt, x, y => ((x.1, k_min x.2 (y.2 - 1)), (k_max y.1 (x.1 + 1), y.2))
  | .le, x, y => ((x.1, k_min x.2 y.2), (k_max y.1 x.1, y.2))
  | .gt, x, y => ((k_max x.1 (y.1 + 1), x.2), (y.1, k_min y.2 (x.2 - 1)))
  | .ge, x, y => ((k_max x.1 y.1, x.2), (y.1, k_min y.2 x.2))
  | .eq, x, y => ((k_max x.1 y.1, k_min x.2 y.2), (k_max x.1 y.1, k_min x.2 y.2))
  | .ne, x, y => (k_trim x y, k_trim y x)
theorem k_bnd_ok {op : ClassFile.Cond} {p q : kB} {x y : Int} (h1 : k_in p x) (h2 : k_in q y) (h : k_cond op x y) : k_in (k_bnd op p q).1 x ∧ k_in (k_bnd op p q).2 y := by
  have a := h1.1
  have b := h1.2
  have c := h2.1
  have d := h2.2
  cases op <;> simp only [k_cond] at h
  · subst h
    exact ⟨⟨k_max_le a c, k_min_le b d⟩, ⟨k_max_le a c, k_min_le b d⟩⟩
  · exact ⟨k_trim_ok h1 h2 h, k_trim_ok h2 h1 (fun z => h z.symm)⟩
  · exact ⟨⟨a, k_min_le b (by omega)⟩, ⟨k_max_le c (by omega), d⟩⟩
  · exact ⟨⟨k_max_le a (by omega), b⟩, ⟨c, k_min_le d (by omega)⟩⟩
  · exact ⟨⟨k_max_le a (by omega), b⟩, ⟨c, k_min_le d (by omega)⟩⟩
  · exact ⟨⟨a, k_min_le b (by omega)⟩, ⟨k_max_le c (by omega), d⟩⟩
def k_ltr : ClassFile.Cond → kOp → kOp → List (Nat × Nat × Nat × Nat × Int)
  | .lt, .inl a, .inl b => [(1, a, b, 0, 0)]
  | .gt, .inl a, .inl b => [(1, b, a, 0, 0)]
  | _, _, _ => []
/-- the longs behind a comparing's answer -/
def k_cmpL (op : ClassFile.Cond) (s : Nat) (all : List (Nat × Nat × Nat × Nat × Int)) : List (Nat × Nat × Nat × Nat × Int) → List (Nat × kInfo) → List (Nat × kInfo)
  | [], env => env
  | q :: r, env => k_cmpL op s all r (if (Nat.beq q.1 4 && Nat.beq q.2.1 s) = true then
      (match k_lvl env (.inl q.2.2.1), k_lvl env (.inl q.2.2.2.1) with
      | some x, some y => match k_refO all env (.inl q.2.2.1) (.inr (.inl (k_bnd op x y).1)) with
        | some e1 => (match k_refO all e1 (.inl q.2.2.2.1) (.inr (.inl (k_bnd op x y).2)) with
          | some e2 => e2
          | none => e1)
        | none => env
      | _, _ => env) else env)
theorem k_lgc {op : ClassFile.Cond} {x y : Int64} (h : k_cond op (lg_cmp x y).toInt 0) : k_cond op x.toInt y.toInt := by
  unfold lg_cmp at h
  have h0 : (0 : Int32).toInt = 0 := rfl
  have h1 : (1 : Int32).toInt = 1 := rfl
  have hm : (-1 : Int32).toInt = -1 := by decide
  split at h
  · rename_i c
    have c := Int64.lt_iff_toInt_lt.mp c
    rw [h1] at h
    cases op <;> simp only [k_cond] at h ⊢ <;> omega
  · rename_i c
    have c : ¬ y.toInt < x.toInt := fun z => c (Int64.lt_iff_toInt_lt.mpr z)
    split at h
    · rename_i c2
      subst c2
      rw [h0] at h
      cases op <;> simp only [k_cond] at h ⊢ <;> omega
    · rename_i c2
      have c2 : ¬ x.toInt = y.toInt := fun z => c2 (Int64.toInt_inj.mp z)
      rw [hm] at h
      cases op <;> simp only [k_cond] at h ⊢ <;> omega
theorem k_cmpL_ok {τ : kTau} {ρ : Nat → Option Value} {op : ClassFile.Cond} {s : Nat} {all : List (Nat × Nat × Nat × Nat × Int)} {z : Int32} (ha : ∀ q ∈ all, k_rel ρ q) (hs : ρ s = some (.int z)) (hz : k_cond op z.toInt 0) : ∀ {rel : List (Nat × Nat × Nat × Nat × Int)} {env : List (Nat × kInfo)}, (∀ q ∈ rel, k_rel ρ q) → k_env τ ρ env → k_env τ ρ (k_cmpL op s all rel env)
  | [], env, _, h => h
  | q :: r, env, hr, h => by
    unfold k_cmpL
    refine k_cmpL_ok ha hs hz (fun x hx => hr x (List.mem_cons_of_mem _ hx)) ?_
    split
    · rename_i c
      rw [Bool.and_eq_true] at c
      have c1 := Nat.eq_of_beq_eq_true c.1
      have c2 := Nat.eq_of_beq_eq_true c.2
      obtain ⟨w, x, y, e1, e2, e3, e4⟩ := (hr q List.mem_cons_self).2.2.1 c1
      rw [c2, hs] at e1
      cases e1
      subst e4
      have hxy := k_lgc hz
      split
      · rename_i px py f1 f2
        obtain ⟨x', g1, g2⟩ := k_lvl_ok h f1
        obtain ⟨y', g3, g4⟩ := k_lvl_ok h f2
        have : x' = x := Value.long.inj (Option.some.inj (g1.symm.trans e2))
        subst this
        have : y' = y := Value.long.inj (Option.some.inj (g3.symm.trans e3))
        subst this
        obtain ⟨b1, b2⟩ := k_bnd_ok g2 g4 hxy
        obtain ⟨r1, j1, j2⟩ := k_refO_ok (o := .inl q.2.2.1) ha h e2 (y := .inr (.inl (k_bnd op px py).1)) ⟨x', rfl, b1⟩ (fun c hc => by cases hc)
        rw [j1]
        dsimp only
        obtain ⟨r2, j3, j4⟩ := k_refO_ok (o := .inl q.2.2.2.1) ha j2 e3 (y := .inr (.inl (k_bnd op px py).2)) ⟨y', rfl, b2⟩ (fun c hc => by cases hc)
        rw [j3]
        exact j4
      · exact h
    · exact h
