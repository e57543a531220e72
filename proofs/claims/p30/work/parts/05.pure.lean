/-! ===== steps that touch no heap ===== -/
abbrev kX : Type := Program × Launch × Env × Room × State × MethodId × Array Value × List Frame × Method × Code × (State → Prop)
abbrev kw (X : kX) (H : Heap) (locs : List Loc) (pc : Nat) (ls : Array Slot) (st : List Value) : Prop :=
  W X.1 X.2.1 X.2.2.1 X.2.2.2.1 X.2.2.2.2.1 X.2.2.2.2.2.1 X.2.2.2.2.2.2.1 X.2.2.2.2.2.2.2.1 X.2.2.2.2.2.2.2.2.1 X.2.2.2.2.2.2.2.2.2.1 H locs 0 0 X.2.2.2.2.2.2.2.2.2.2 (F0 X.2.2.2.2.2.1 pc ls st)
def k_Fx (X : kX) (cc : ByteArray) (nL : Nat) (own : String) : Prop :=
  X.1.tables.exec = Jvm.exec ∧ X.2.2.2.2.2.2.2.2.2.1.code = cc ∧ X.2.2.2.2.2.2.2.2.2.1.maxLocals = nL ∧ X.2.2.2.2.1.vm.findClass own = some X.2.2.2.2.2.1.cls
def k_good (X : kX) (E : kE) (nL : Nat) (τ : kTau) (vs : List Value) (mods : List (Nat × Nat)) (H0 : Heap) (pc : Nat) (σ : kSt) : Prop :=
  ∀ (ρ : Nat → Option Value) (H : Heap) (locs : List Loc) (ls : Array Slot) (st : List Value), k_HT E τ H → k_wk E τ mods H0 H locs → k_R E nL τ vs ρ H ls st σ → kw X H locs pc ls st
section KP
variable {X : kX} {E : kE} {nL : Nat} {τ : kTau} {vs : List Value} {mods : List (Nat × Nat)} {H0 : Heap} {cc : ByteArray} {own : String} {pc : Nat}
variable {ρ : Nat → Option Value} {H : Heap} {locs : List Loc} {ls : Array Slot} {st : List Value} {n : Nat} {env : List (Nat × kInfo)} {loc : List (Nat × kOp)} {stk : List kOp} {ff : List (Nat × Nat × kOp)} {rel : List (Nat × Nat × Nat × Nat × Int)} {len : List (Nat × Nat × kOp)} {g : List Nat} {par : List kOp}
theorem k_pop {o : kOp} (h : k_R E nL τ vs ρ H ls st (n, env, loc, o :: stk, ff, rel, len, g, par)) : ∃ (v : Value) (rs : List Value), st = v :: rs ∧ k_v ρ o = some v ∧ k_R E nL τ vs ρ H ls rs (n, env, loc, stk, ff, rel, len, g, par) := by
  obtain ⟨h1, h2, h3, h4, h5⟩ := h
  cases st with
  | nil => simp at h4
  | cons v rs =>
    simp only [List.map_cons, List.cons.injEq] at h4
    exact ⟨v, rs, rfl, h4.1, h1, h2, h3, h4.2, h5⟩
theorem k_psh {o : kOp} {v : Value} (h : k_R E nL τ vs ρ H ls st (n, env, loc, stk, ff, rel, len, g, par)) (hv : k_v ρ o = some v) : k_R E nL τ vs ρ H ls (v :: st) (n, env, loc, o :: stk, ff, rel, len, g, par) := by
  obtain ⟨h1, h2, h3, h4, h5⟩ := h
  exact ⟨h1, h2, h3, by simp only [List.map_cons, List.cons.injEq]; exact ⟨hv, h4⟩, h5⟩
theorem k_envR (h : k_R E nL τ vs ρ H ls st (n, env, loc, stk, ff, rel, len, g, par)) : k_env τ ρ env := h.2.1
theorem k_relR (h : k_R E nL τ vs ρ H ls st (n, env, loc, stk, ff, rel, len, g, par)) : ∀ q ∈ rel, k_rel ρ q := h.2.2.2.2.2.1
theorem k_withEnv {env' : List (Nat × kInfo)} (h : k_R E nL τ vs ρ H ls st (n, env, loc, stk, ff, rel, len, g, par)) (he : k_env τ ρ env') : k_R E nL τ vs ρ H ls st (n, env', loc, stk, ff, rel, len, g, par) := ⟨h.1, he, h.2.2⟩
theorem k_withRel {rel' : List (Nat × Nat × Nat × Nat × Int)} (h : k_R E nL τ vs ρ H ls st (n, env, loc, stk, ff, rel, len, g, par)) (he : ∀ q ∈ rel', k_rel ρ q) : k_R E nL τ vs ρ H ls st (n, env, loc, stk, ff, rel', len, g, par) := ⟨h.1, h.2.1, h.2.2.1, h.2.2.2.1, h.2.2.2.2.1, he, h.2.2.2.2.2.2⟩
/-- the result of a reckoning of ints -/
def k_resI (q : kB) (d : List (Nat × Nat × Nat × Nat × Int)) : kSt → kSt
  | (n, env, loc, stk, ff, rel, len, g, par) => if k_eqi q.1 q.2 = true then (n, env, loc, .inr q.1 :: stk, ff, rel, len, g, par) else (n + 1, (n, .inl q) :: env, loc, .inl n :: stk, ff, d ++ rel, len, g, par)
theorem k_ofInt (x : Int32) {c : Int} (h : x.toInt = c) : Int32.ofInt c = x := by rw [← h, Int32.ofInt_toInt]
theorem k_resI_ok {q : kB} {d : List (Nat × Nat × Nat × Nat × Int)} {x : Int32} (h : k_R E nL τ vs ρ H ls st (n, env, loc, stk, ff, rel, len, g, par)) (hq : k_in q x.toInt) (hd : ∀ ρ' : Nat → Option Value, k_le' ρ ρ' → ρ' n = some (.int x) → ∀ r ∈ d, k_rel ρ' r) :
    ∃ ρ', k_R E nL τ vs ρ' H ls (.int x :: st) (k_resI q d (n, env, loc, stk, ff, rel, len, g, par)) := by
  unfold k_resI
  dsimp only
  split
  · rename_i c
    rw [k_eqi_iff] at c
    refine ⟨ρ, k_psh h ?_⟩
    show some (Value.int (Int32.ofInt q.1)) = _
    rw [k_ofInt x (show x.toInt = q.1 by have := hq.1; have := hq.2; omega)]
  · have hn := k_R_new h (x := .inl q) (v := .int x) ⟨x, rfl, hq⟩
    refine ⟨_, k_withRel hn (fun r hr => ?_)⟩
    rcases List.mem_append.mp hr with e | e
    · exact hd _ (k_ext_le h.1) k_ext_at r e
    · exact k_rel_up (k_ext_le h.1) (k_relR h r e)
def k_resJ (q : kB) (d : List (Nat × Nat × Nat × Nat × Int)) : kSt → kSt
  | (n, env, loc, stk, ff, rel, len, g, par) => (n + 1, (n, .inr (.inl q)) :: env, loc, .inl n :: stk, ff, d ++ rel, len, g, par)
theorem k_resJ_ok {q : kB} {d : List (Nat × Nat × Nat × Nat × Int)} {x : Int64} (h : k_R E nL τ vs ρ H ls st (n, env, loc, stk, ff, rel, len, g, par)) (hq : k_in q x.toInt) (hd : ∀ ρ' : Nat → Option Value, k_le' ρ ρ' → ρ' n = some (.long x) → ∀ r ∈ d, k_rel ρ' r) :
    ∃ ρ', k_R E nL τ vs ρ' H ls (.long x :: st) (k_resJ q d (n, env, loc, stk, ff, rel, len, g, par)) := by
  have hn := k_R_new h (x := .inr (.inl q)) (v := .long x) ⟨x, rfl, hq⟩
  refine ⟨_, k_withRel hn (fun r hr => ?_)⟩
  rcases List.mem_append.mp hr with e | e
  · exact hd _ (k_ext_le h.1) k_ext_at r e
  · exact k_rel_up (k_ext_le h.1) (k_relR h r e)
theorem k_nod {ρ' : Nat → Option Value} : ∀ r ∈ ([] : List (Nat × Nat × Nat × Nat × Int)), k_rel ρ' r := fun _ h => by cases h
-- 1: constants
def k_lk : List (Nat × Int) → Nat → Option Int
  | [], _ => none
  | q :: r, k => if Nat.beq q.1 k = true then some q.2 else k_lk r k
theorem k_lk_ok : ∀ {l : List (Nat × Int)} {k : Nat} {c : Int}, k_lk l k = some c → (k, c) ∈ l
  | [], _, _, e => by cases e
  | q :: r, k, c, e => by
    unfold k_lk at e
    split at e
    · rename_i z
      cases e
      rw [← Nat.eq_of_beq_eq_true z]
      exact List.mem_cons_self
    · exact List.mem_cons_of_mem _ (k_lk_ok e)
def k_cst (CI : List (Nat × Int)) : Instr → Option (Int × Nat)
  | .iconst c => some (c, 1)
  | .bipush c => if (k_le (-128) c && k_le c 127) = true then some (c, 2) else none
  | .sipush c => if (k_le (-32768) c && k_le c 32767) = true then some (c, 3) else none
  | .ldc k => match k_lk CI k with
    | some c => some (c, 2)
    | none => none
  | .ldc_w k => match k_lk CI k with
    | some c => some (c, 3)
    | none => none
  | _ => none
def k_CI (X : kX) (own : String) (CI : List (Nat × Int)) : Prop := ∀ q ∈ CI, (Jvm.Cond.constant own q.1 (Int32.ofInt q.2)).before X.2.2.2.2.2.2.1 X.2.2.2.2.1 = true
def k_CJ (X : kX) (own : String) (CJ : List (Nat × Int)) : Prop := ∀ q ∈ CJ, (Jvm.Cond.constantLong own q.1 (Int64.ofInt q.2)).before X.2.2.2.2.2.2.1 X.2.2.2.2.1 = true
theorem k_i8 {c : Int} (h1 : -128 ≤ c) (h2 : c ≤ 127) : (Int8.ofInt c).toInt32 = Int32.ofInt c := by
  apply Int32.toInt_inj.mp
  rw [Int8.toInt_toInt32, Int8.toInt_ofInt, Int32.toInt_ofInt]
  have e1 : (Int8.size : Int) = 256 := rfl
  have e2 : (Int32.size : Int) = 4294967296 := rfl
  rw [Int.bmod_eq_of_le (by omega) (by omega), Int.bmod_eq_of_le (by omega) (by omega)]
theorem k_i16 {c : Int} (h1 : -32768 ≤ c) (h2 : c ≤ 32767) : (Int16.ofInt c).toInt32 = Int32.ofInt c := by
  apply Int32.toInt_inj.mp
  rw [Int16.toInt_toInt32, Int16.toInt_ofInt, Int32.toInt_ofInt]
  have e1 : (Int16.size : Int) = 65536 := rfl
  have e2 : (Int32.size : Int) = 4294967296 := rfl
  rw [Int.bmod_eq_of_le (by omega) (by omega), Int.bmod_eq_of_le (by omega) (by omega)]
theorem k_cst_ok {CI : List (Nat × Int)} {i : Instr} {c : Int} {L : Nat} (hF : k_Fx X cc nL own) (hCI : k_CI X own CI) (e : k_cst CI i = some (c, L)) (hd : decode cc pc = .ok (i, L)) (k : kw X H locs (pc + L) ls (.int (Int32.ofInt c) :: st)) : kw X H locs pc ls st := by
  obtain ⟨hx, hb, hml, ho⟩ := hF
  unfold k_cst at e
  split at e
  · cases e
    exact lv_iconst hx hb hd rfl k
  · split at e
    · rename_i z
      rw [Bool.and_eq_true, k_le_iff, k_le_iff] at z
      cases e
      exact lv_bipush hx hb hd (k_i8 z.1 z.2) k
    · cases e
  · split at e
    · rename_i z
      rw [Bool.and_eq_true, k_le_iff, k_le_iff] at z
      cases e
      exact lv_sipush hx hb hd (k_i16 z.1 z.2) k
    · cases e
  · split at e
    · rename_i c' z
      cases e
      exact lv_ldc hx hb ho (hCI _ (k_lk_ok z)) hd k
    · cases e
  · split at e
    · rename_i c' z
      cases e
      exact lv_ldcw hx hb ho (hCI _ (k_lk_ok z)) hd k
    · cases e
  · cases e
def k_lcst (CJ : List (Nat × Int)) : Instr → Option (Int × Nat)
  | .lconst c => some ((c.val : Int), 1)
  | .ldc2_w k => match k_lk CJ k with
    | some c => if (k_le (-9223372036854775808) c && k_le c 9223372036854775807) = true then some (c, 3) else none
    | none => none
  | _ => none
theorem k_lcst_ok {CJ : List (Nat × Int)} {i : Instr} {c : Int} {L : Nat} (hF : k_Fx X cc nL own) (hCJ : k_CJ X own CJ) (e : k_lcst CJ i = some (c, L)) (hd : decode cc pc = .ok (i, L)) (k : ∀ x : Int64, x.toInt = c → kw X H locs (pc + L) ls (.long x :: st)) : kw X H locs pc ls st := by
  obtain ⟨hx, hb, hml, ho⟩ := hF
  unfold k_lcst at e
  split at e
  · rename_i c'
    cases e
    refine lv_lconst hx hb hd rfl (k _ ?_)
    match c' with
    | ⟨0, _⟩ => rfl
    | ⟨1, _⟩ => rfl
  · split at e
    · rename_i c' z
      split at e
      · rename_i y
        rw [Bool.and_eq_true, k_le_iff, k_le_iff] at y
        cases e
        refine lv_ldc2 hx hb ho (hCJ _ (k_lk_ok z)) hd (k _ ?_)
        rw [Int64.toInt_ofInt]
        have e2 : (Int64.size : Int) = 18446744073709551616 := rfl
        exact Int.bmod_eq_of_le (by omega) (by omega)
      · cases e
    · cases e
  · cases e
def k_g1 (CI CJ : List (Nat × Int)) (pc : Nat) (i : Instr) (L : Nat) : kSt → Option (List (Nat × kSt))
  | (n, env, loc, stk, ff, rel, len, g, par) => match k_cst CI i with
    | some q => if Nat.beq q.2 L = true then some [(pc + L, (n, env, loc, .inr q.1 :: stk, ff, rel, len, g, par))] else none
    | none => match k_lcst CJ i with
      | some q => if Nat.beq q.2 L = true then some [(pc + L, k_resJ (q.1, q.1) [] (n, env, loc, stk, ff, rel, len, g, par))] else none
      | none => match i with
        | .aconst_null => if Nat.beq L 1 = true then some [(pc + 1, (n + 1, (n, .inr (.inr (.inl (true, [])))) :: env, loc, .inl n :: stk, ff, rel, len, g, par))] else none
        | _ => none
theorem k_g1_ok {CI CJ : List (Nat × Int)} {i : Instr} {L : Nat} {σ : kSt} {l : List (Nat × kSt)} (hF : k_Fx X cc nL own) (hCI : k_CI X own CI) (hCJ : k_CJ X own CJ) (hd : decode cc pc = .ok (i, L)) (e : k_g1 CI CJ pc i L σ = some l) (hk : ∀ q ∈ l, k_good X E nL τ vs mods H0 q.1 q.2) : k_good X E nL τ vs mods H0 pc σ := by
  obtain ⟨n, env, loc, stk, ff, rel, len, g, par⟩ := σ
  intro ρ H locs ls st hH hW hR
  unfold k_g1 at e
  dsimp only at e
  split at e
  · rename_i q z
    split at e
    · rename_i y
      have y := Nat.eq_of_beq_eq_true y
      cases e
      subst y
      exact k_cst_ok (c := q.1) (L := q.2) hF hCI z hd (hk _ List.mem_cons_self ρ H locs ls _ hH hW (k_psh hR rfl))
    · cases e
  · split at e
    · rename_i q z
      split at e
      · rename_i y
        have y := Nat.eq_of_beq_eq_true y
        cases e
        subst y
        refine k_lcst_ok (c := q.1) (L := q.2) hF hCJ z hd (fun x hx => ?_)
        obtain ⟨ρ', hR'⟩ := k_resJ_ok (q := (q.1, q.1)) (d := []) (x := x) hR ⟨by rw [hx]; exact Int.le_refl _, by rw [hx]; exact Int.le_refl _⟩ (fun _ _ _ => k_nod)
        exact hk _ List.mem_cons_self ρ' H locs ls _ hH hW hR'
      · cases e
    · split at e
      · split at e
        · rename_i y
          have y := Nat.eq_of_beq_eq_true y
          cases e
          subst y
          exact lv_null hF.1 hF.2.1 hd (hk _ List.mem_cons_self _ H locs ls _ hH hW (k_R_new hR (x := .inr (.inr (.inl (true, [])))) (v := .null) (Or.inl ⟨rfl, rfl⟩)))
        · cases e
      · cases e
-- 2: loads
theorem k_loc_ok {o : kOp} {j : Nat} : ∀ {loc : List (Nat × kOp)}, (∀ q ∈ loc, ∃ v, k_v ρ q.2 = some v ∧ ls[q.1]? = some (.val v)) → k_loc loc j = some o → ∃ v, k_v ρ o = some v ∧ ls[j]? = some (.val v)
  | [], _, e => by cases e
  | q :: r, h, e => by
    unfold k_loc at e
    split at e
    · rename_i z
      cases e
      rw [← Nat.eq_of_beq_eq_true z]
      exact h q List.mem_cons_self
    · exact k_loc_ok (fun x hx => h x (List.mem_cons_of_mem _ hx)) e
def k_ld : Instr → Option (Nat × Nat × Nat)
  | .iload_n k => some (0, k.val, 1)
  | .iload k => some (0, k, 2)
  | .lload_n k => some (1, k.val, 1)
  | .lload k => some (1, k, 2)
  | .aload_n k => some (2, k.val, 1)
  | .aload k => some (2, k, 2)
  | _ => none
def k_isK (env : List (Nat × kInfo)) (kind : Nat) (o : kOp) : Bool := match kind with
  | 0 => (k_ivl env o).isSome
  | 1 => (k_lvl env o).isSome
  | _ => match k_rf env o with
    | some q => !q.1
    | none => false
theorem k_rf_ok {o : kOp} {q : Bool × List Nat} (h : k_env τ ρ env) (e : k_rf env o = some q) : ∃ v, k_v ρ o = some v ∧ k_ok τ (.inr (.inr (.inl q))) v := by
  cases o with
  | inr c => cases e
  | inl s =>
    unfold k_rf at e
    dsimp only at e
    split at e
    · rename_i q' e'
      cases e
      exact k_get_ok h e'
    · cases e
theorem k_isK0 {o : kOp} {v : Value} (h : k_env τ ρ env) (e : k_isK env 0 o = true) (hv : k_v ρ o = some v) : ∃ x : Int32, v = .int x := by
  obtain ⟨b, hb⟩ := Option.isSome_iff_exists.mp (show (k_ivl env o).isSome = true from e)
  obtain ⟨x, h1, -⟩ := k_ivl_ok h hb
  exact ⟨x, Option.some.inj (hv.symm.trans h1)⟩
theorem k_isK1 {o : kOp} {v : Value} (h : k_env τ ρ env) (e : k_isK env 1 o = true) (hv : k_v ρ o = some v) : ∃ x : Int64, v = .long x := by
  obtain ⟨b, hb⟩ := Option.isSome_iff_exists.mp (show (k_lvl env o).isSome = true from e)
  obtain ⟨x, h1, -⟩ := k_lvl_ok h hb
  exact ⟨x, Option.some.inj (hv.symm.trans h1)⟩
theorem k_isK2 {o : kOp} {v : Value} (h : k_env τ ρ env) (e : k_isK env 2 o = true) (hv : k_v ρ o = some v) : ∃ a : Nat, v = .ref a := by
  have e : (match k_rf env o with
    | some q => !q.1
    | none => false) = true := e
  split at e
  · rename_i q e'
    obtain ⟨w, h1, h2⟩ := k_rf_ok h e'
    cases hv.symm.trans h1
    rcases h2 with ⟨h2, -⟩ | ⟨a, t, h2, -⟩
    · rw [h2] at e; cases e
    · exact ⟨a, h2⟩
  · cases e
theorem k_beq (a b : Nat) : (a == b) = Nat.beq a b := by
  cases h : Nat.beq a b with
  | true => rw [Nat.eq_of_beq_eq_true h]; simp
  | false =>
    have := Nat.ne_of_beq_eq_false h
    simpa using this
def k_g2 (pc : Nat) (i : Instr) (L : Nat) : kSt → Option (List (Nat × kSt))
  | (n, env, loc, stk, ff, rel, len, g, par) => match k_ld i with
    | some q => if Nat.beq q.2.2 L = true then (match k_loc loc q.2.1 with
      | some o => if k_isK env q.1 o = true then some [(pc + L, (n, env, loc, o :: stk, ff, rel, len, g, par))] else none
      | none => none) else none
    | none => none
theorem k_g2_ok {i : Instr} {L : Nat} {σ : kSt} {l : List (Nat × kSt)} (hF : k_Fx X cc nL own) (hd : decode cc pc = .ok (i, L)) (e : k_g2 pc i L σ = some l) (hk : ∀ q ∈ l, k_good X E nL τ vs mods H0 q.1 q.2) : k_good X E nL τ vs mods H0 pc σ := by
  obtain ⟨n, env, loc, stk, ff, rel, len, g, par⟩ := σ
  intro ρ H locs ls st hH hW hR
  obtain ⟨hx, hb, hml, ho⟩ := hF
  unfold k_g2 at e
  dsimp only at e
  split at e
  · rename_i q z
    split at e
    · rename_i y
      have y := Nat.eq_of_beq_eq_true y
      split at e
      · rename_i o hl
        split at e
        · rename_i hK
          cases e
          obtain ⟨v, hv, hs⟩ := k_loc_ok hR.2.2.1.2.2 hl
          have hgo := hk _ List.mem_cons_self ρ H locs ls _ hH hW (k_psh hR hv)
          subst y
          unfold k_ld at z
          split at z <;> cases z
          · obtain ⟨b, hb'⟩ := Option.isSome_iff_exists.mp hK
            obtain ⟨x, h1, -⟩ := k_ivl_ok (k_envR hR) hb'
            cases hv.symm.trans h1
            exact lv_iload_n hx hb hd rfl hs hgo
          · obtain ⟨b, hb'⟩ := Option.isSome_iff_exists.mp hK
            obtain ⟨x, h1, -⟩ := k_ivl_ok (k_envR hR) hb'
            cases hv.symm.trans h1
            exact lv_iload hx hb hd hs hgo
          · obtain ⟨b, hb'⟩ := Option.isSome_iff_exists.mp hK
            obtain ⟨x, h1, -⟩ := k_lvl_ok (k_envR hR) hb'
            cases hv.symm.trans h1
            exact lv_lload_n hx hb hd rfl hs hgo
          · obtain ⟨b, hb'⟩ := Option.isSome_iff_exists.mp hK
            obtain ⟨x, h1, -⟩ := k_lvl_ok (k_envR hR) hb'
            cases hv.symm.trans h1
            exact lv_lload hx hb hd hs hgo
          · obtain ⟨x, rfl⟩ := k_isK2 (k_envR hR) hK hv
            exact lv_aload_n hx hb hd rfl hs hgo
          · obtain ⟨x, rfl⟩ := k_isK2 (k_envR hR) hK hv
            exact lv_aload hx hb hd hs hgo
        · cases e
      · cases e
    · cases e
  · cases e
-- 3: stores, iinc
/-- is it known to take one word -/
def k_is1 (env : List (Nat × kInfo)) (o : kOp) : Bool := match o with
  | .inr _ => true
  | .inl s => match k_get env s with
    | some (.inl _) => true
    | some (.inr (.inr _)) => true
    | _ => false
theorem k_is1_ok {o : kOp} {v : Value} (h : k_env τ ρ env) (e : k_is1 env o = true) (hv : k_v ρ o = some v) : v.category = 1 := by
  cases o with
  | inr c => cases hv; rfl
  | inl s =>
    unfold k_is1 at e
    dsimp only at e
    split at e
    · rename_i q e'
      obtain ⟨w, h1, x, h2, -⟩ := k_get_ok h e'
      cases hv.symm.trans h1
      subst h2; rfl
    · rename_i q e'
      obtain ⟨w, h1, h2⟩ := k_get_ok h e'
      cases hv.symm.trans h1
      cases q with
      | inl q =>
        rcases h2 with ⟨-, h2⟩ | ⟨a, t, h2, -⟩
        · subst h2; rfl
        · subst h2; rfl
      | inr q => exact h2
    · cases e
def k_setL (env : List (Nat × kInfo)) (two : Bool) (i : Nat) (o : kOp) (loc : List (Nat × kOp)) : List (Nat × kOp) := (i, o) :: loc.filter (fun q => !(Nat.beq q.1 i) && (!(two && Nat.beq q.1 (i + 1)) && (!(Nat.beq (q.1 + 1) i) || k_is1 env q.2)))
def k_lvs (ρ : Nat → Option Value) (loc : List (Nat × kOp)) : List (Nat × Value) := loc.filterMap (fun q => (k_v ρ q.2).map (fun v => (q.1, v)))
theorem k_lvs_has {nL : Nat} (h1 : ls.size = nL) (h2 : lv_wf ls) (h3 : ∀ q ∈ loc, ∃ v, k_v ρ q.2 = some v ∧ ls[q.1]? = some (.val v)) : lv_has ls nL (k_lvs ρ loc) := by
  refine ⟨h1, h2, fun w hw => ?_⟩
  unfold k_lvs at hw
  rw [List.mem_filterMap] at hw
  obtain ⟨q, hq, hq2⟩ := hw
  obtain ⟨v, g1, g2⟩ := h3 q hq
  rw [g1] at hq2
  cases hq2
  exact g2
theorem k_lvs_mem {q : Nat × kOp} {v : Value} (hq : q ∈ loc) (hv : k_v ρ q.2 = some v) : (q.1, v) ∈ k_lvs ρ loc := by
  unfold k_lvs
  rw [List.mem_filterMap]
  exact ⟨q, hq, by rw [hv]; rfl⟩
theorem k_set1 {i : Nat} {o : kOp} {v : Value} {ls' : Array Slot} (hR : k_R E nL τ vs ρ H ls st (n, env, loc, stk, ff, rel, len, g, par)) (hv : k_v ρ o = some v) (h : lv_has ls' nL ((i, v) :: (k_lvs ρ loc).filter (fun q => !(q.1 == i) && !(q.1 + 1 == i && q.2.category == 2)))) :
    k_R E nL τ vs ρ H ls' st (n, env, k_setL env false i o loc, stk, ff, rel, len, g, par) := by
  obtain ⟨h1, h2, ⟨h3, h3', h3''⟩, h4⟩ := hR
  refine ⟨h1, h2, ⟨h.1, h.2.1, fun q hq => ?_⟩, h4⟩
  unfold k_setL at hq
  rcases List.mem_cons.mp hq with e | e
  · subst e
    exact ⟨v, hv, h.2.2 _ List.mem_cons_self⟩
  · rw [List.mem_filter] at e
    obtain ⟨e1, e2⟩ := e
    obtain ⟨w, w1, w2⟩ := h3'' q e1
    refine ⟨w, w1, h.2.2 (q.1, w) (List.mem_cons_of_mem _ (List.mem_filter.mpr ⟨k_lvs_mem e1 w1, ?_⟩))⟩
    simp only [Bool.and_eq_true, Bool.not_eq_true', Bool.or_eq_true] at e2
    have g1 : (q.1 == i) = false := by rw [k_beq]; exact e2.1
    simp only [g1, Bool.not_false, Bool.true_and, Bool.not_eq_true', Bool.and_eq_false_iff]
    rcases e2.2.2 with z | z
    · exact Or.inl (by rw [k_beq]; exact z)
    · right
      rw [k_is1_ok h2 z w1]; rfl
theorem k_set2 {i : Nat} {o : kOp} {v : Value} {ls' : Array Slot} (hR : k_R E nL τ vs ρ H ls st (n, env, loc, stk, ff, rel, len, g, par)) (hv : k_v ρ o = some v) (h : lv_has ls' nL ((i, v) :: (k_lvs ρ loc).filter (fun q => !(q.1 == i) && (!(q.1 == i + 1) && !(q.1 + 1 == i && q.2.category == 2))))) :
    k_R E nL τ vs ρ H ls' st (n, env, k_setL env true i o loc, stk, ff, rel, len, g, par) := by
  obtain ⟨h1, h2, ⟨h3, h3', h3''⟩, h4⟩ := hR
  refine ⟨h1, h2, ⟨h.1, h.2.1, fun q hq => ?_⟩, h4⟩
  unfold k_setL at hq
  rcases List.mem_cons.mp hq with e | e
  · subst e
    exact ⟨v, hv, h.2.2 _ List.mem_cons_self⟩
  · rw [List.mem_filter] at e
    obtain ⟨e1, e2⟩ := e
    obtain ⟨w, w1, w2⟩ := h3'' q e1
    refine ⟨w, w1, h.2.2 (q.1, w) (List.mem_cons_of_mem _ (List.mem_filter.mpr ⟨k_lvs_mem e1 w1, ?_⟩))⟩
    simp only [Bool.and_eq_true, Bool.not_eq_true', Bool.or_eq_true, Bool.true_and] at e2
    have g1 : (q.1 == i) = false := by rw [k_beq]; exact e2.1
    have g2 : (q.1 == i + 1) = false := by rw [k_beq]; exact e2.2.1
    simp only [g1, g2, Bool.not_false, Bool.true_and, Bool.not_eq_true', Bool.and_eq_false_iff]
    rcases e2.2.2 with z | z
    · exact Or.inl (by rw [k_beq]; exact z)
    · right
      rw [k_is1_ok h2 z w1]; rfl
def k_sto : Instr → Option (Nat × Nat × Nat)
  | .istore_n k => some (0, k.val, 1)
  | .istore k => some (0, k, 2)
  | .lstore_n k => some (1, k.val, 1)
  | .lstore k => some (1, k, 2)
  | .astore_n k => some (2, k.val, 1)
  | .astore k => some (2, k, 2)
  | _ => none
def k_inr (q : kB) : Bool := k_le (-2147483648) q.1 && k_le q.2 2147483647
def k_dinc (n : Nat) (o : kOp) (q : kB) (c : Int) : List (Nat × Nat × Nat × Nat × Int) := match o with
  | .inl s => if k_inr (k_addB q (c, c)) = true then [(0, n, s, 0, c)] else []
  | .inr _ => []
def k_lim (nL : Nat) : Nat → Nat
  | 1 => nL
  | _ => nL + 1
def k_g3 (nL pc : Nat) (i : Instr) (L : Nat) : kSt → Option (List (Nat × kSt))
  | (n, env, loc, stk, ff, rel, len, g, par) => match k_sto i with
    | some q => if (Nat.beq q.2.2 L && Nat.ble (q.2.1 + 2) (k_lim nL q.1)) = true then (match stk with
      | o :: r => if k_isK env q.1 o = true then some [(pc + L, (n, env, k_setL env (Nat.beq q.1 1) q.2.1 o loc, r, ff, rel, len, g, par))] else none
      | [] => none) else none
    | none => match i with
      | .iinc j c => if (Nat.beq L 3 && Nat.ble (j + 1) nL) = true then (match k_loc loc j with
        | some o => match k_ivl env o with
          | some q => (match k_resI (k_fit (k_addB q (c, c))) (k_dinc n o q c) (n, env, loc, stk, ff, rel, len, g, par) with
            | (n', env', loc', o' :: r, ff', rel', len', g', par') => if (k_le (-2147483648) c && k_le c 2147483647) = true then some [(pc + 3, (n', env', k_setL env' false j o' loc', r, ff', rel', len', g', par'))] else none
            | _ => none)
          | none => none
        | none => none) else none
      | _ => none
theorem k_g3_ok {i : Instr} {L : Nat} {σ : kSt} {l : List (Nat × kSt)} (hF : k_Fx X cc nL own) (hd : decode cc pc = .ok (i, L)) (e : k_g3 nL pc i L σ = some l) (hk : ∀ q ∈ l, k_good X E nL τ vs mods H0 q.1 q.2) : k_good X E nL τ vs mods H0 pc σ := by
  obtain ⟨n, env, loc, stk, ff, rel, len, g, par⟩ := σ
  intro ρ H locs ls st hH hW hR
  obtain ⟨hx, hb, hml, ho⟩ := hF
  have hlv := k_lvs_has hR.2.2.1.1 hR.2.2.1.2.1 hR.2.2.1.2.2
  unfold k_g3 at e
  dsimp only at e
  split at e
  · rename_i q z
    split at e
    · rename_i y
      rw [Bool.and_eq_true] at y
      have y1 := Nat.eq_of_beq_eq_true y.1
      have y2 := Nat.le_of_ble_eq_true y.2
      split at e
      · rename_i o r
        split at e
        · rename_i hK
          cases e
          subst y1
          obtain ⟨v, rs, rfl, hv, hR2⟩ := k_pop hR
          unfold k_sto at z
          split at z <;> cases z
          · obtain ⟨x, rfl⟩ := k_isK0 (k_envR hR) hK hv
            have y2 := Nat.le_trans y2 (Nat.le_of_eq (show k_lim nL _ = nL + 1 from rfl))
            dsimp only at y2
            exact lv_istore_n hx hb hd rfl hlv (by omega) rfl (fun ls' h => hk _ List.mem_cons_self ρ H locs ls' _ hH hW (k_set1 hR2 hv h))
          · obtain ⟨x, rfl⟩ := k_isK0 (k_envR hR) hK hv
            have y2 := Nat.le_trans y2 (Nat.le_of_eq (show k_lim nL _ = nL + 1 from rfl))
            dsimp only at y2
            exact lv_istore hx hb hd hlv (by omega) rfl (fun ls' h => hk _ List.mem_cons_self ρ H locs ls' _ hH hW (k_set1 hR2 hv h))
          · obtain ⟨x, rfl⟩ := k_isK1 (k_envR hR) hK hv
            have y2 := Nat.le_trans y2 (Nat.le_of_eq (show k_lim nL _ = nL from rfl))
            dsimp only at y2
            exact lv_lstore_n hx hb hd rfl hlv (by omega) rfl (fun ls' h => hk _ List.mem_cons_self ρ H locs ls' _ hH hW (k_set2 hR2 hv h))
          · obtain ⟨x, rfl⟩ := k_isK1 (k_envR hR) hK hv
            have y2 := Nat.le_trans y2 (Nat.le_of_eq (show k_lim nL _ = nL from rfl))
            dsimp only at y2
            exact lv_lstore hx hb hd hlv (by omega) rfl (fun ls' h => hk _ List.mem_cons_self ρ H locs ls' _ hH hW (k_set2 hR2 hv h))
          · obtain ⟨x, rfl⟩ := k_isK2 (k_envR hR) hK hv
            have y2 := Nat.le_trans y2 (Nat.le_of_eq (show k_lim nL _ = nL + 1 from rfl))
            dsimp only at y2
            exact lv_astore_n hx hb hd rfl hlv (by omega) rfl (fun ls' h => hk _ List.mem_cons_self ρ H locs ls' _ hH hW (k_set1 hR2 hv h))
          · obtain ⟨x, rfl⟩ := k_isK2 (k_envR hR) hK hv
            have y2 := Nat.le_trans y2 (Nat.le_of_eq (show k_lim nL _ = nL + 1 from rfl))
            dsimp only at y2
            exact lv_astore hx hb hd hlv (by omega) rfl (fun ls' h => hk _ List.mem_cons_self ρ H locs ls' _ hH hW (k_set1 hR2 hv h))
        · cases e
      · cases e
    · cases e
  · split at e
    · rename_i j c hno
      split at e
      · rename_i y
        rw [Bool.and_eq_true] at y
        have y1 := Nat.eq_of_beq_eq_true y.1
        have y2 := Nat.le_of_ble_eq_true y.2
        split at e
        · rename_i o hl
          split at e
          · rename_i q hq
            split at e
            · rename_i n' env' loc' o' r ff' rel' len' g' par' hres
              split at e
              · rename_i hc
                rw [Bool.and_eq_true, k_le_iff, k_le_iff] at hc
                cases e
                subst y1
                obtain ⟨x, hx1, hx2⟩ := k_ivl_ok (k_envR hR) hq
                have hcI : (Int32.ofInt c).toInt = c := by
                  rw [Int32.toInt_ofInt]
                  have e2 : (Int32.size : Int) = 4294967296 := rfl
                  exact Int.bmod_eq_of_le (by omega) (by omega)
                have hsum : (x + Int32.ofInt c).toInt = (x.toInt + c).bmod (2 ^ 32) := by rw [Int32.toInt_add, hcI]
                have hin : k_in (k_addB q (c, c)) (x.toInt + c) := k_addB_ok hx2 ⟨Int.le_refl _, Int.le_refl _⟩
                obtain ⟨v0, hv0, hs0⟩ := k_loc_ok hR.2.2.1.2.2 hl
                cases hv0.symm.trans hx1
                obtain ⟨ρ', hR'⟩ := k_resI_ok (d := k_dinc n o q c) hR (k_fit_ok hsum hin) (by
                    intro ρ' hu hn r hr
                    unfold k_dinc at hr
                    cases o with
                    | inr c' => cases hr
                    | inl s =>
                      dsimp only at hr
                      split at hr
                      · rename_i hir
                        rw [List.mem_singleton] at hr
                        subst hr
                        unfold k_inr at hir
                        rw [Bool.and_eq_true, k_le_iff, k_le_iff] at hir
                        refine k_r0 ⟨x + Int32.ofInt c, x, hn, hu _ _ hx1, ?_⟩
                        rw [hsum]
                        obtain ⟨i1, i2⟩ := hin
                        exact Int.bmod_eq_of_le (by omega) (by omega)
                      · cases hr)
                rw [hres] at hR'
                obtain ⟨v, rs, e1, hv, hR2⟩ := k_pop hR'
                cases e1
                have hlv' := k_lvs_has hR2.2.2.1.1 hR2.2.2.1.2.1 hR2.2.2.1.2.2
                have hmem : (j, Value.int x) ∈ (j, Value.int x) :: k_lvs ρ' loc' := List.mem_cons_self
                have hlv2 : lv_has ls nL ((j, Value.int x) :: k_lvs ρ' loc') := ⟨hlv'.1, hlv'.2.1, fun w hw => by
                  rcases List.mem_cons.mp hw with e | e
                  · subst e; exact hs0
                  · exact hlv'.2.2 w e⟩
                refine lv_iinc (k := 0) (v := x + Int32.ofInt c) hx hb hd hlv2 rfl rfl (by omega) rfl (fun ls' h => hk _ List.mem_cons_self ρ' H locs ls' _ hH hW (k_set1 hR2 hv ⟨h.1, h.2.1, fun w hw => h.2.2 w ?_⟩))
                rcases List.mem_cons.mp hw with e | e
                · subst e; exact List.mem_cons_self
                · refine List.mem_cons_of_mem _ ?_
                  rw [List.mem_filter] at e ⊢
                  exact ⟨List.mem_cons_of_mem _ e.1, e.2⟩
              · cases e
            · cases e
          · cases e
        · cases e
      · cases e
    · cases e
-- 4: the stack
def k_g4 (pc : Nat) (i : Instr) (L : Nat) : kSt → Option (List (Nat × kSt))
  | (n, env, loc, stk, ff, rel, len, g, par) => if Nat.beq L 1 = true then (match i, stk with
    | .pop, a :: r => if k_is1 env a = true then some [(pc + 1, (n, env, loc, r, ff, rel, len, g, par))] else none
    | .dup, a :: r => if k_is1 env a = true then some [(pc + 1, (n, env, loc, a :: a :: r, ff, rel, len, g, par))] else none
    | .dup_x1, a :: b :: r => if (k_is1 env a && k_is1 env b) = true then some [(pc + 1, (n, env, loc, a :: b :: a :: r, ff, rel, len, g, par))] else none
    | .dup2, a :: b :: r => if (k_is1 env a && k_is1 env b) = true then some [(pc + 1, (n, env, loc, a :: b :: a :: b :: r, ff, rel, len, g, par))] else none
    | _, _ => none) else none
theorem k_g4_ok {i : Instr} {L : Nat} {σ : kSt} {l : List (Nat × kSt)} (hF : k_Fx X cc nL own) (hd : decode cc pc = .ok (i, L)) (e : k_g4 pc i L σ = some l) (hk : ∀ q ∈ l, k_good X E nL τ vs mods H0 q.1 q.2) : k_good X E nL τ vs mods H0 pc σ := by
  obtain ⟨n, env, loc, stk, ff, rel, len, g, par⟩ := σ
  intro ρ H locs ls st hH hW hR
  obtain ⟨hx, hb, hml, ho⟩ := hF
  have he := k_envR hR
  unfold k_g4 at e
  dsimp only at e
  split at e
  · rename_i y
    have y := Nat.eq_of_beq_eq_true y
    subst y
    split at e
    · split at e
      · rename_i c
        cases e
        obtain ⟨v, rs, rfl, hv, hR2⟩ := k_pop hR
        exact lv_pop hx hb hd (k_is1_ok he c hv) (hk _ List.mem_cons_self ρ H locs ls _ hH hW hR2)
      · cases e
    · split at e
      · rename_i c
        cases e
        obtain ⟨v, rs, rfl, hv, hR2⟩ := k_pop hR
        exact lv_dup hx hb hd (k_is1_ok he c hv) (hk _ List.mem_cons_self ρ H locs ls _ hH hW (k_psh (k_psh hR2 hv) hv))
      · cases e
    · split at e
      · rename_i c
        rw [Bool.and_eq_true] at c
        cases e
        obtain ⟨v, rs, rfl, hv, hR2⟩ := k_pop hR
        obtain ⟨v2, rs2, rfl, hv2, hR3⟩ := k_pop hR2
        exact lv_dup_x1 hx hb hd (k_is1_ok he c.1 hv) (k_is1_ok he c.2 hv2) (hk _ List.mem_cons_self ρ H locs ls _ hH hW (k_psh (k_psh (k_psh hR3 hv) hv2) hv))
      · cases e
    · split at e
      · rename_i c
        rw [Bool.and_eq_true] at c
        cases e
        obtain ⟨v, rs, rfl, hv, hR2⟩ := k_pop hR
        obtain ⟨v2, rs2, rfl, hv2, hR3⟩ := k_pop hR2
        exact lv_dup2_11 hx hb hd (k_is1_ok he c.1 hv) (k_is1_ok he c.2 hv2) (hk _ List.mem_cons_self ρ H locs ls _ hH hW (k_psh (k_psh (k_psh (k_psh hR3 hv2) hv) hv2) hv))
      · cases e
    · cases e
  · cases e
-- 5: two ints
def k_nz (q : kB) : Bool := k_le 1 q.1 || k_le q.2 (-1)
theorem k_nz_ok {q : kB} {x : Int32} (e : k_nz q = true) (h : k_in q x.toInt) : ¬ x = 0 := by
  unfold k_nz at e
  rw [Bool.or_eq_true, k_le_iff, k_le_iff] at e
  intro z
  subst z
  have h0 : (0 : Int32).toInt = 0 := rfl
  have := h.1
  have := h.2
  omega
theorem k_nz_okL {q : kB} {x : Int64} (e : k_nz q = true) (h : k_in q x.toInt) : ¬ x = 0 := by
  unfold k_nz at e
  rw [Bool.or_eq_true, k_le_iff, k_le_iff] at e
  intro z
  subst z
  have h0 : (0 : Int64).toInt = 0 := rfl
  have := h.1
  have := h.2
  omega
def k_bin : Instr → kB → kB → Option kB
  | .iadd, p, q => some (k_fit (k_addB p q))
  | .isub, p, q => some (k_fit (k_subB p q))
  | .imul, p, q => some (k_mulI p q)
  | .idiv, p, q => if k_nz q = true then some (k_divI p q) else none
  | .irem, p, q => if k_nz q = true then some (k_remI p q) else none
  | .iand, p, q => some (k_andI p q)
  | .ior, p, q => some (k_orI p q)
  | .ixor, _, _ => some k_top
  | .ishl, p, q => some (k_shlI p q)
  | .ishr, p, q => some (k_shrI p q)
  | .iushr, _, _ => some k_top
  | _, _, _ => none
def k_binV : Instr → Int32 → Int32 → Int32
  | .iadd, x, y => x + y
  | .isub, x, y => x - y
  | .imul, x, y => x * y
  | .idiv, x, y => x / y
  | .irem, x, y => x - x / y * y
  | .iand, x, y => x &&& y
  | .ior, x, y => x ||| y
  | .ixor, x, y => x ^^^ y
  | .ishl, x, y => x <<< (y &&& 31)
  | .ishr, x, y => x >>> (y &&& 31)
  | .iushr, x, y => (x.toUInt32 >>> (y.toUInt32 &&& Int32.toUInt32 31)).toInt32
  | _, x, _ => x
theorem k_bin_ok {i : Instr} {p q r : kB} {x y : Int32} (hF : k_Fx X cc nL own) (hd : decode cc pc = .ok (i, 1)) (e : k_bin i p q = some r) (hp : k_in p x.toInt) (hq : k_in q y.toInt) :
    k_in r (k_binV i x y).toInt ∧ (kw X H locs (pc + 1) ls (.int (k_binV i x y) :: st) → kw X H locs pc ls (.int y :: .int x :: st)) := by
  obtain ⟨hx, hb, hml, ho⟩ := hF
  unfold k_bin at e
  split at e
  · cases e; exact ⟨k_addI_ok hp hq, fun k => lv_iadd hx hb hd k⟩
  · cases e; exact ⟨k_subI_ok hp hq, fun k => lv_isub hx hb hd k⟩
  · cases e; exact ⟨k_mulI_ok hp hq, fun k => lv_imul hx hb hd k⟩
  · split at e
    · rename_i c; cases e; exact ⟨k_divI_ok hp hq, fun k => lv_idiv hx hb hd (k_nz_ok c hq) k⟩
    · cases e
  · split at e
    · rename_i c; cases e; exact ⟨k_remI_ok hp hq, fun k => lv_irem hx hb hd (k_nz_ok c hq) k⟩
    · cases e
  · cases e; exact ⟨k_andI_ok hp hq, fun k => lv_iand hx hb hd k⟩
  · cases e; exact ⟨k_orI_ok hp hq, fun k => lv_ior hx hb hd k⟩
  · cases e; exact ⟨k_in_top _, fun k => lv_ixor hx hb hd k⟩
  · cases e; exact ⟨k_shlI_ok hp hq, fun k => lv_ishl hx hb hd k⟩
  · cases e; exact ⟨k_shrI_ok hp hq, fun k => lv_ishr hx hb hd k⟩
  · cases e; exact ⟨k_in_top _, fun k => lv_iushr hx hb hd rfl k⟩
  · cases e
/-- what the sum or difference was made of -/
def k_dfn (i : Instr) (n : Nat) (ox oy : kOp) (p q : kB) : List (Nat × Nat × Nat × Nat × Int) := match i with
  | .iadd => if k_inr (k_addB p q) = true then (match ox, oy with
    | .inl s, .inl s' => if k_eqi q.1 q.2 = true then [(0, n, s, 0, q.1)] else if k_eqi p.1 p.2 = true then [(0, n, s', 0, p.1)] else []
    | .inl s, .inr _ => if k_eqi q.1 q.2 = true then [(0, n, s, 0, q.1)] else []
    | .inr _, .inl s' => if k_eqi p.1 p.2 = true then [(0, n, s', 0, p.1)] else []
    | _, _ => []) else []
  | .isub => if k_inr (k_subB p q) = true then (match ox with
    | .inl s => if k_eqi q.1 q.2 = true then [(0, n, s, 0, - q.1)] else []
    | .inr _ => []) else []
  | _ => []
theorem k_rel0 {a b c : Nat} {k : Int} {x y : Int32} (h1 : ρ a = some (.int x)) (h2 : ρ b = some (.int y)) (h3 : x.toInt = y.toInt + k) : k_rel ρ (0, a, b, c, k) := k_r0 ⟨x, y, h1, h2, h3⟩
theorem k_dfn_ok {i : Instr} {ox oy : kOp} {p q : kB} {x y : Int32} (hx : k_v ρ ox = some (.int x)) (hy : k_v ρ oy = some (.int y)) (hp : k_in p x.toInt) (hq : k_in q y.toInt) (hn : ρ n = some (.int (k_binV i x y))) : ∀ r ∈ k_dfn i n ox oy p q, k_rel ρ r := by
  intro r hr
  unfold k_dfn at hr
  split at hr
  · split at hr
    · rename_i c
      unfold k_inr at c
      rw [Bool.and_eq_true, k_le_iff, k_le_iff] at c
      have hs : (x + y).toInt = x.toInt + y.toInt := by
        rw [Int32.toInt_add]
        obtain ⟨i1, i2⟩ := k_addB_ok hp hq
        exact Int.bmod_eq_of_le (by omega) (by omega)
      have hn : ρ n = some (.int (x + y)) := hn
      have a1 := hp.1
      have a2 := hp.2
      have a3 := hq.1
      have a4 := hq.2
      split at hr
      · split at hr
        · rename_i z
          rw [k_eqi_iff] at z
          rw [List.mem_singleton] at hr
          subst hr
          exact k_rel0 hn hx (by omega)
        · split at hr
          · rename_i z
            rw [k_eqi_iff] at z
            rw [List.mem_singleton] at hr
            subst hr
            exact k_rel0 hn hy (by omega)
          · cases hr
      · split at hr
        · rename_i z
          rw [k_eqi_iff] at z
          rw [List.mem_singleton] at hr
          subst hr
          exact k_rel0 hn hx (by omega)
        · cases hr
      · split at hr
        · rename_i z
          rw [k_eqi_iff] at z
          rw [List.mem_singleton] at hr
          subst hr
          exact k_rel0 hn hy (by omega)
        · cases hr
      · cases hr
    · cases hr
  · split at hr
    · rename_i c
      unfold k_inr at c
      rw [Bool.and_eq_true, k_le_iff, k_le_iff] at c
      have hs : (x - y).toInt = x.toInt - y.toInt := by
        rw [Int32.toInt_sub]
        obtain ⟨i1, i2⟩ := k_subB_ok hp hq
        exact Int.bmod_eq_of_le (by omega) (by omega)
      have hn : ρ n = some (.int (x - y)) := hn
      have a3 := hq.1
      have a4 := hq.2
      split at hr
      · split at hr
        · rename_i z
          rw [k_eqi_iff] at z
          rw [List.mem_singleton] at hr
          subst hr
          exact k_rel0 hn hx (by omega)
        · cases hr
      · cases hr
    · cases hr
  · cases hr
/-- has this sum of two symbols been made before -/
def k_cse (i : Instr) (ox oy : kOp) : List (Nat × Nat × Nat × Nat × Int) → Option Nat
  | [] => none
  | q :: r => match i, ox, oy with
    | .iadd, .inl a, .inl b => if (Nat.beq q.1 6 && (Nat.beq q.2.2.1 a && Nat.beq q.2.2.2.1 b)) = true then some q.2.1 else k_cse i ox oy r
    | _, _, _ => none
theorem k_cse_ok {i : Instr} {ox oy : kOp} {m : Nat} {x y : Int32} (hx : k_v ρ ox = some (.int x)) (hy : k_v ρ oy = some (.int y)) : ∀ {rel : List (Nat × Nat × Nat × Nat × Int)}, (∀ q ∈ rel, k_rel ρ q) → k_cse i ox oy rel = some m → i = .iadd ∧ ρ m = some (.int (x + y))
  | [], _, e => by cases e
  | q :: r, h, e => by
    unfold k_cse at e
    split at e
    · rename_i a b
      split at e
      · rename_i c
        rw [Bool.and_eq_true, Bool.and_eq_true] at c
        cases e
        obtain ⟨x', y', h1, h2, h3⟩ := (h q List.mem_cons_self).2.2.2.2.1 (Nat.eq_of_beq_eq_true c.1)
        rw [Nat.eq_of_beq_eq_true c.2.1] at h1
        rw [Nat.eq_of_beq_eq_true c.2.2] at h2
        have e1 : x' = x := Value.int.inj (Option.some.inj (h1.symm.trans hx))
        have e2 : y' = y := Value.int.inj (Option.some.inj (h2.symm.trans hy))
        rw [e1, e2] at h3
        exact ⟨rfl, h3⟩
      · exact k_cse_ok hx hy (fun z hz => h z (List.mem_cons_of_mem _ hz)) e
    · cases e
def k_sum2 (i : Instr) (n : Nat) (ox oy : kOp) : List (Nat × Nat × Nat × Nat × Int) := match i, ox, oy with
  | .iadd, .inl a, .inl b => [(6, n, a, b, 0)]
  | _, _, _ => []
def k_g5 (pc : Nat) (i : Instr) (L : Nat) : kSt → Option (List (Nat × kSt))
  | (n, env, loc, oy :: ox :: r, ff, rel, len, g, par) => if Nat.beq L 1 = true then (match k_ivl env ox, k_ivl env oy with
    | some p, some q => match k_bin i p q with
      | some b => match k_cse i ox oy rel with
        | some m => some [(pc + 1, (n, env, loc, .inl m :: r, ff, rel, len, g, par))]
        | none => some [(pc + 1, k_resI b (k_sum2 i n ox oy ++ k_dfn i n ox oy p q) (n, env, loc, r, ff, rel, len, g, par))]
      | none => none
    | _, _ => none) else none
  | _ => none
theorem k_g5_ok {i : Instr} {L : Nat} {σ : kSt} {l : List (Nat × kSt)} (hF : k_Fx X cc nL own) (hd : decode cc pc = .ok (i, L)) (e : k_g5 pc i L σ = some l) (hk : ∀ q ∈ l, k_good X E nL τ vs mods H0 q.1 q.2) : k_good X E nL τ vs mods H0 pc σ := by
  unfold k_g5 at e
  split at e
  · rename_i n env loc oy ox r ff rel len g par
    intro ρ H locs ls st hH hW hR
    split at e
    · rename_i y
      have y := Nat.eq_of_beq_eq_true y
      subst y
      split at e
      · rename_i p q hp hq
        split at e
        · rename_i b hb
          obtain ⟨v, rs, rfl, hv, hR2⟩ := k_pop hR
          obtain ⟨v2, rs2, rfl, hv2, hR3⟩ := k_pop hR2
          obtain ⟨x, hx1, hx2⟩ := k_ivl_ok (k_envR hR) hp
          obtain ⟨y, hy1, hy2⟩ := k_ivl_ok (k_envR hR) hq
          cases hv.symm.trans hy1
          cases hv2.symm.trans hx1
          obtain ⟨h1, h2⟩ := k_bin_ok (H := H) (locs := locs) (ls := ls) (st := rs2) hF hd hb hx2 hy2
          split at e
          · rename_i m hm
            cases e
            obtain ⟨rfl, hm2⟩ := k_cse_ok hx1 hy1 (k_relR hR) hm
            exact h2 (hk _ List.mem_cons_self ρ H locs ls _ hH hW (k_psh hR3 hm2))
          · cases e
            obtain ⟨ρ', hR'⟩ := k_resI_ok (d := k_sum2 i n ox oy ++ k_dfn i n ox oy p q) hR3 h1 (fun ρ' hu hn z hz => by
              rcases List.mem_append.mp hz with w | w
              · unfold k_sum2 at w
                split at w
                · rw [List.mem_singleton] at w
                  subst w
                  exact k_r6 ⟨x, y, hu _ _ hx1, hu _ _ hy1, hn⟩
                · cases w
              · exact k_dfn_ok (k_v_up hu hx1) (k_v_up hu hy1) hx2 hy2 hn z w)
            exact h2 (hk _ List.mem_cons_self ρ' H locs ls _ hH hW hR')
        · cases e
      · cases e
    · cases e
  · cases e
-- 6: longs, conversions
def k_lbin (nzk : Bool) : Instr → kB → kB → Option kB
  | .ladd, p, q => some (k_fitL (k_addB p q))
  | .lsub, p, q => some (k_fitL (k_subB p q))
  | .lmul, p, q => some (k_mulJ p q)
  | .ldiv, p, q => if (nzk || k_nz q) = true then some (k_divJ p q) else none
  | .lrem, p, q => if (nzk || k_nz q) = true then some (k_remJ p q) else none
  | .land, p, q => some (k_andJ p q)
  | .lor, _, _ => some k_topL
  | _, _, _ => none
theorem k_lbin_ok {nzk : Bool} {i : Instr} {p q r : kB} {x y : Int64} (hF : k_Fx X cc nL own) (hd : decode cc pc = .ok (i, 1)) (e : k_lbin nzk i p q = some r) (hp : k_in p x.toInt) (hq : k_in q y.toInt) (hz : nzk = true → ¬ y = 0) :
    ∃ z : Int64, k_in r z.toInt ∧ (kw X H locs (pc + 1) ls (.long z :: st) → kw X H locs pc ls (.long y :: .long x :: st)) := by
  obtain ⟨hx, hb, hml, ho⟩ := hF
  unfold k_lbin at e
  split at e
  · cases e; exact ⟨_, k_addJ_ok hp hq, fun k => lv_ladd hx hb hd k⟩
  · cases e; exact ⟨_, k_subJ_ok hp hq, fun k => lv_lsub hx hb hd k⟩
  · cases e; exact ⟨_, k_mulJ_ok hp hq, fun k => lv_lmul hx hb hd k⟩
  · split at e
    · rename_i c; cases e; exact ⟨_, k_divJ_ok hp hq, fun k => lv_ldiv hx hb hd ((Bool.or_eq_true _ _ ▸ c).elim hz (fun c => k_nz_okL c hq)) k⟩
    · cases e
  · split at e
    · rename_i c; cases e; exact ⟨_, k_remJ_ok hp hq, fun k => lv_lrem hx hb hd ((Bool.or_eq_true _ _ ▸ c).elim hz (fun c => k_nz_okL c hq)) k⟩
    · cases e
  · cases e; exact ⟨_, k_andJ_ok hp hq, fun k => lv_land hx hb hd k⟩
  · cases e; exact ⟨_, k_in_topL _, fun k => lv_lor hx hb hd k⟩
  · cases e
/-- is it known that the long o isn't 0 -/
def k_isnz (rel : List (Nat × Nat × Nat × Nat × Int)) (o : kOp) : Bool := match o with
  | .inl s => rel.any (fun q => Nat.beq q.1 7 && Nat.beq q.2.1 s)
  | .inr _ => false
theorem k_isnz_ok {o : kOp} {y : Int64} (hr : ∀ q ∈ rel, k_rel ρ q) (hy : k_v ρ o = some (.long y)) (e : k_isnz rel o = true) : ¬ y = 0 := by
  unfold k_isnz at e
  split at e
  · rename_i s
    rw [List.any_eq_true] at e
    obtain ⟨q, hq, e⟩ := e
    rw [Bool.and_eq_true] at e
    obtain ⟨x, h1, h2⟩ := (hr q hq).2.2.2.2.2 (Nat.eq_of_beq_eq_true e.1)
    rw [Nat.eq_of_beq_eq_true e.2] at h1
    have : x = y := Value.long.inj (Option.some.inj (h1.symm.trans hy))
    subst this
    exact h2
  · cases e
def k_sym2 (n : Nat) (a b : kOp) : List (Nat × Nat × Nat × Nat × Int) := match a, b with
  | .inl s, .inl s' => [(4, n, s, s', 0)]
  | _, _ => []
def k_sym1 (n : Nat) (a : kOp) : List (Nat × Nat × Nat × Nat × Int) := match a with
  | .inl s => [(5, n, s, 0, 0)]
  | _ => []
def k_g6 (pc : Nat) (i : Instr) (L : Nat) : kSt → Option (List (Nat × kSt))
  | (n, env, loc, stk, ff, rel, len, g, par) => if Nat.beq L 1 = true then (match i, stk with
    | .i2l, o :: r => match k_ivl env o with
      | some q => some [(pc + 1, k_resJ q (k_sym1 n o) (n, env, loc, r, ff, rel, len, g, par))]
      | none => none
    | .l2i, o :: r => match k_lvl env o with
      | some q => some [(pc + 1, k_resI (if k_inr q = true then q else k_top) [] (n, env, loc, r, ff, rel, len, g, par))]
      | none => none
    | .i2b, o :: r => match k_ivl env o with
      | some q => some [(pc + 1, k_resI (if k_bw q (-128, 127) = true then q else (-128, 127)) [] (n, env, loc, r, ff, rel, len, g, par))]
      | none => none
    | .lcmp, oy :: ox :: r => match k_lvl env ox, k_lvl env oy with
      | some _, some _ => some [(pc + 1, k_resI (-1, 1) (k_sym2 n ox oy) (n, env, loc, r, ff, rel, len, g, par))]
      | _, _ => none
    | .lshl, oy :: ox :: r => match k_lvl env ox, k_ivl env oy with
      | some _, some _ => some [(pc + 1, k_resJ k_topL [] (n, env, loc, r, ff, rel, len, g, par))]
      | _, _ => none
    | _, oy :: ox :: r => match k_lvl env ox, k_lvl env oy with
      | some p, some q => match k_lbin (k_isnz rel oy) i p q with
        | some b => some [(pc + 1, k_resJ b [] (n, env, loc, r, ff, rel, len, g, par))]
        | none => none
      | _, _ => none
    | _, _ => none) else none
theorem k_i2b_ok {x : Int32} {q : kB} (h : k_in q x.toInt) : k_in (if k_bw q (-128, 127) = true then q else (-128, 127)) (x.toInt8.toInt32).toInt := by
  have e : (x.toInt8.toInt32).toInt = x.toInt.bmod (2 ^ 8) := by rw [Int8.toInt_toInt32, Int32.toInt_toInt8]
  split
  · rename_i c
    unfold k_bw at c
    rw [Bool.and_eq_true, k_le_iff, k_le_iff] at c
    have h1 := h.1
    have h2 := h.2
    have c1 := c.1
    have c2 := c.2
    dsimp only at c1 c2
    rw [e, Int.bmod_eq_of_le (by omega) (by omega)]
    exact h
  · have h1 := (x.toInt8).le_toInt
    have h2 := (x.toInt8).toInt_lt
    rw [Int8.toInt_toInt32]
    exact ⟨by show (-128 : Int) ≤ _; omega, by show _ ≤ (127 : Int); omega⟩
theorem k_cmp_in (x y : Int64) : k_in (-1, 1) (lg_cmp x y).toInt := by
  unfold lg_cmp
  split
  · exact ⟨by decide, by decide⟩
  · split
    · exact ⟨by decide, by decide⟩
    · exact ⟨by decide, by decide⟩
theorem k_g6_ok {i : Instr} {L : Nat} {σ : kSt} {l : List (Nat × kSt)} (hF : k_Fx X cc nL own) (hd : decode cc pc = .ok (i, L)) (e : k_g6 pc i L σ = some l) (hk : ∀ q ∈ l, k_good X E nL τ vs mods H0 q.1 q.2) : k_good X E nL τ vs mods H0 pc σ := by
  obtain ⟨n, env, loc, stk, ff, rel, len, g, par⟩ := σ
  intro ρ H locs ls st hH hW hR
  have he := k_envR hR
  unfold k_g6 at e
  dsimp only at e
  split at e
  · rename_i y
    have y := Nat.eq_of_beq_eq_true y
    subst y
    split at e
    · rename_i o r
      split at e
      · rename_i q hq
        cases e
        obtain ⟨v, rs, rfl, hv, hR2⟩ := k_pop hR
        obtain ⟨x, hx1, hx2⟩ := k_ivl_ok he hq
        cases hv.symm.trans hx1
        have ex : (x.toInt64).toInt = x.toInt := Int32.toInt_toInt64 x
        obtain ⟨ρ', hR'⟩ := k_resJ_ok (q := q) (d := k_sym1 n o) (x := x.toInt64) hR2 (by rw [ex]; exact hx2) (by
          intro ρ' hu hn r' hr
          unfold k_sym1 at hr
          split at hr
          · rw [List.mem_singleton] at hr
            subst hr
            exact k_r5 ⟨_, x, hn, hu _ _ hx1, ex⟩
          · cases hr)
        exact lv_i2l hF.1 hF.2.1 hd rfl (hk _ List.mem_cons_self ρ' H locs ls _ hH hW hR')
      · cases e
    · rename_i o r
      split at e
      · rename_i q hq
        cases e
        obtain ⟨v, rs, rfl, hv, hR2⟩ := k_pop hR
        obtain ⟨x, hx1, hx2⟩ := k_lvl_ok he hq
        cases hv.symm.trans hx1
        have hin : k_in (if k_inr q = true then q else k_top) (x.toInt32).toInt := by
          split
          · rename_i c
            unfold k_inr at c
            rw [Bool.and_eq_true, k_le_iff, k_le_iff] at c
            rw [Int64.toInt_toInt32]
            have h1 := hx2.1
            have h2 := hx2.2
            rw [Int.bmod_eq_of_le (by omega) (by omega)]
            exact hx2
          · exact k_in_top _
        obtain ⟨ρ', hR'⟩ := k_resI_ok (d := []) hR2 hin (fun _ _ _ => k_nod)
        exact lv_l2i hF.1 hF.2.1 hd rfl (hk _ List.mem_cons_self ρ' H locs ls _ hH hW hR')
      · cases e
    · rename_i o r
      split at e
      · rename_i q hq
        cases e
        obtain ⟨v, rs, rfl, hv, hR2⟩ := k_pop hR
        obtain ⟨x, hx1, hx2⟩ := k_ivl_ok he hq
        cases hv.symm.trans hx1
        obtain ⟨ρ', hR'⟩ := k_resI_ok (d := []) hR2 (k_i2b_ok hx2) (fun _ _ _ => k_nod)
        exact lv_i2b hF.1 hF.2.1 hd rfl (hk _ List.mem_cons_self ρ' H locs ls _ hH hW hR')
      · cases e
    · rename_i oy ox r
      split at e
      · rename_i p q hp hq
        cases e
        obtain ⟨v, rs, rfl, hv, hR2⟩ := k_pop hR
        obtain ⟨v2, rs2, rfl, hv2, hR3⟩ := k_pop hR2
        obtain ⟨x, hx1, hx2⟩ := k_lvl_ok he hp
        obtain ⟨y, hy1, hy2⟩ := k_lvl_ok he hq
        cases hv.symm.trans hy1
        cases hv2.symm.trans hx1
        obtain ⟨ρ', hR'⟩ := k_resI_ok (d := k_sym2 n ox oy) hR3 (k_cmp_in x y) (by
          intro ρ' hu hn r' hr
          unfold k_sym2 at hr
          split at hr
          · rw [List.mem_singleton] at hr
            subst hr
            exact k_r4 ⟨_, x, y, hn, hu _ _ hx1, hu _ _ hy1, rfl⟩
          · cases hr)
        exact W.lcmp hF.1 hF.2.1 hd (hk _ List.mem_cons_self ρ' H locs ls _ hH hW hR')
      · cases e
    · rename_i oy ox r
      split at e
      · rename_i p q hp hq
        cases e
        obtain ⟨v, rs, rfl, hv, hR2⟩ := k_pop hR
        obtain ⟨v2, rs2, rfl, hv2, hR3⟩ := k_pop hR2
        obtain ⟨x, hx1, hx2⟩ := k_lvl_ok he hp
        obtain ⟨y, hy1, hy2⟩ := k_ivl_ok he hq
        cases hv.symm.trans hy1
        cases hv2.symm.trans hx1
        obtain ⟨ρ', hR'⟩ := k_resJ_ok (q := k_topL) (d := []) (x := x <<< (y.toInt64 &&& 63)) hR3 (k_in_topL _) (fun _ _ _ => k_nod)
        exact lv_lshl hF.1 hF.2.1 hd rfl (hk _ List.mem_cons_self ρ' H locs ls _ hH hW hR')
      · cases e
    · rename_i oy ox r _ _ _ _ _
      split at e
      · rename_i p q hp hq
        split at e
        · rename_i b hb
          cases e
          obtain ⟨v, rs, rfl, hv, hR2⟩ := k_pop hR
          obtain ⟨v2, rs2, rfl, hv2, hR3⟩ := k_pop hR2
          obtain ⟨x, hx1, hx2⟩ := k_lvl_ok he hp
          obtain ⟨y, hy1, hy2⟩ := k_lvl_ok he hq
          cases hv.symm.trans hy1
          cases hv2.symm.trans hx1
          obtain ⟨z, h1, h2⟩ := k_lbin_ok (H := H) (locs := locs) (ls := ls) (st := rs2) hF hd hb hx2 hy2 (k_isnz_ok (k_relR hR) hy1)
          obtain ⟨ρ', hR'⟩ := k_resJ_ok (d := []) hR3 h1 (fun _ _ _ => k_nod)
          exact h2 (hk _ List.mem_cons_self ρ' H locs ls _ hH hW hR')
        · cases e
      · cases e
    · cases e
  · cases e
-- 7: branches
def k_tgt (pc : Nat) (off : Int) : Option Nat := match (pc : Int) + off with
  | .ofNat t => some t
  | .negSucc _ => none
theorem k_tgt_ok {off : Int} {t : Nat} (e : k_tgt pc off = some t) : (pc : Int) + off = (t : Int) := by
  unfold k_tgt at e
  split at e
  · rename_i t' h
    cases e
    exact h
  · cases e
def k_asm (op : ClassFile.Cond) (x y : kOp) (p q : kB) (rel : List (Nat × Nat × Nat × Nat × Int)) (env : List (Nat × kInfo)) : Option (List (Nat × kInfo)) := match k_refO rel env x (.inl (k_bnd op p q).1) with
  | some e1 => match k_refO rel e1 y (.inl (k_bnd op p q).2) with
    | some e2 => some (match x with
      | .inl s => if (k_eqi q.1 0 && k_eqi q.2 0) = true then k_cmpL op s rel rel e2 else e2
      | .inr _ => e2)
    | none => none
  | none => none
theorem k_ivl_c {c : Int} {p : kB} (e : k_ivl env (.inr c) = some p) : (Int32.ofInt c).toInt = c := by
  unfold k_ivl at e
  dsimp only at e
  split at e
  · rename_i z
    rw [Bool.and_eq_true, k_le_iff, k_le_iff] at z
    rw [Int32.toInt_ofInt]
    have e2 : (Int32.size : Int) = 4294967296 := rfl
    exact Int.bmod_eq_of_le (by omega) (by omega)
  · cases e
theorem k_asm_ok {op : ClassFile.Cond} {ox oy : kOp} {p q : kB} {x y : Int32} (hr : ∀ r ∈ rel, k_rel ρ r) (he : k_env τ ρ env) (ex : k_ivl env ox = some p) (ey : k_ivl env oy = some q) (hx : k_v ρ ox = some (.int x)) (hy : k_v ρ oy = some (.int y)) (hp : k_in p x.toInt) (hq : k_in q y.toInt) (hc : k_cond op x.toInt y.toInt) : ∃ e, k_asm op ox oy p q rel env = some e ∧ k_env τ ρ e := by
  obtain ⟨b1, b2⟩ := k_bnd_ok hp hq hc
  obtain ⟨e1, j1, j2⟩ := k_refO_ok hr he hx (y := .inl (k_bnd op p q).1) ⟨x, rfl, b1⟩ (fun c hc => by subst hc; exact k_ivl_c ex)
  obtain ⟨e2, j3, j4⟩ := k_refO_ok hr j2 hy (y := .inl (k_bnd op p q).2) ⟨y, rfl, b2⟩ (fun c hc => by subst hc; exact k_ivl_c ey)
  unfold k_asm
  rw [j1]
  dsimp only
  rw [j3]
  dsimp only
  refine ⟨_, rfl, ?_⟩
  split
  · rename_i s
    split
    · rename_i z
      rw [Bool.and_eq_true, k_eqi_iff, k_eqi_iff] at z
      refine k_cmpL_ok hr hx ?_ hr j4
      have h1 := hq.1
      have h2 := hq.2
      rw [show y.toInt = 0 by omega] at hc
      exact hc
    · exact j4
  · exact j4
theorem k_ltr_ok {op : ClassFile.Cond} {ox oy : kOp} {x y : Int32} (hx : k_v ρ ox = some (.int x)) (hy : k_v ρ oy = some (.int y)) (hc : k_cond op x.toInt y.toInt) : ∀ r ∈ k_ltr op ox oy, k_rel ρ r := by
  intro r hr
  unfold k_ltr at hr
  split at hr
  · rw [List.mem_singleton] at hr
    subst hr
    exact k_r1 ⟨x, y, hx, hy, hc⟩
  · rw [List.mem_singleton] at hr
    subst hr
    exact k_r1 ⟨y, x, hy, hx, hc⟩
  · cases hr
/-- a comparing of a long with 0 that is not 0 -/
def k_nzr (op : ClassFile.Cond) (x : kOp) (q : kB) (env : List (Nat × kInfo)) (rel : List (Nat × Nat × Nat × Nat × Int)) : List (Nat × Nat × Nat × Nat × Int) := match op, x with
  | .ne, .inl s => if (k_eqi q.1 0 && k_eqi q.2 0) = true then rel.filterMap (fun r => if (Nat.beq r.1 4 && Nat.beq r.2.1 s) = true then (match k_lvl env (.inl r.2.2.2.1) with
      | some z => if (k_eqi z.1 0 && k_eqi z.2 0) = true then some (7, r.2.2.1, 0, 0, 0) else none
      | none => none) else none) else []
  | _, _ => []
theorem k_nzr_ok {op : ClassFile.Cond} {ox : kOp} {q : kB} {x y : Int32} (hr : ∀ r ∈ rel, k_rel ρ r) (he : k_env τ ρ env) (hx : k_v ρ ox = some (.int x)) (hq : k_in q y.toInt) (hc : k_cond op x.toInt y.toInt) : ∀ r ∈ k_nzr op ox q env rel, k_rel ρ r := by
  intro r hm
  unfold k_nzr at hm
  split at hm
  · rename_i s
    split at hm
    · rename_i z
      rw [Bool.and_eq_true, k_eqi_iff, k_eqi_iff] at z
      rw [List.mem_filterMap] at hm
      obtain ⟨p, hp, hm⟩ := hm
      split at hm
      · rename_i c
        rw [Bool.and_eq_true] at c
        split at hm
        · rename_i w hw
          split at hm
          · rename_i c2
            rw [Bool.and_eq_true, k_eqi_iff, k_eqi_iff] at c2
            cases hm
            obtain ⟨v, a, b, h1, h2, h3, h4⟩ := (hr p hp).2.2.1 (Nat.eq_of_beq_eq_true c.1)
            rw [Nat.eq_of_beq_eq_true c.2] at h1
            have hvx : v = x := Value.int.inj (Option.some.inj (h1.symm.trans hx))
            obtain ⟨b', w1, w2⟩ := k_lvl_ok he hw
            have hbb : b' = b := Value.long.inj (Option.some.inj (w1.symm.trans h3))
            subst hbb
            have i1 := w2.1
            have i2 := w2.2
            have j1 := hq.1
            have j2 := hq.2
            refine k_r7 ⟨a, h2, fun ha => ?_⟩
            have hx0 : x.toInt ≠ y.toInt := hc
            have hb0 : b' = 0 := Int64.toInt_inj.mp (by rw [show b'.toInt = 0 by omega]; rfl)
            rw [ha, hb0] at h4
            have : v = 0 := by rw [h4]; rfl
            rw [← hvx, this] at hx0
            have h00 : (0 : Int32).toInt = 0 := rfl
            omega
          · cases hm
        · cases hm
      · cases hm
    · cases hm
  · cases hm
def k_br (op : ClassFile.Cond) (x y : kOp) (t pc' : Nat) : kSt → Option (List (Nat × kSt))
  | (n, env, loc, stk, ff, rel, len, g, par) => match k_ivl env x, k_ivl env y with
    | some p, some q => some ((match k_asm op x y p q rel env with
        | some e => [(t, (n, e, loc, stk, ff, k_nzr op x q env rel ++ (k_ltr op x y ++ rel), len, g, par))]
        | none => []) ++ (match k_asm (k_neg op) x y p q rel env with
        | some e => [(pc', (n, e, loc, stk, ff, k_nzr (k_neg op) x q env rel ++ (k_ltr (k_neg op) x y ++ rel), len, g, par))]
        | none => []))
    | _, _ => none
theorem k_br_ok {op : ClassFile.Cond} {ox oy : kOp} {t pc' : Nat} {l : List (Nat × kSt)} (hH : k_HT E τ H) (hW : k_wk E τ mods H0 H locs) (hR : k_R E nL τ vs ρ H ls st (n, env, loc, stk, ff, rel, len, g, par))
    (e : k_br op ox oy t pc' (n, env, loc, stk, ff, rel, len, g, par) = some l) (hk : ∀ q ∈ l, k_good X E nL τ vs mods H0 q.1 q.2) : ∃ x y : Int32, k_v ρ ox = some (.int x) ∧ k_v ρ oy = some (.int y) ∧ (k_cond op x.toInt y.toInt → kw X H locs t ls st) ∧ (¬ k_cond op x.toInt y.toInt → kw X H locs pc' ls st) := by
  unfold k_br at e
  dsimp only at e
  split at e
  · rename_i p q hp hq
    obtain ⟨x, hx1, hx2⟩ := k_ivl_ok (k_envR hR) hp
    obtain ⟨y, hy1, hy2⟩ := k_ivl_ok (k_envR hR) hq
    cases e
    refine ⟨x, y, hx1, hy1, fun hc => ?_, fun hc => ?_⟩
    · obtain ⟨e1, h1, h2⟩ := k_asm_ok (k_relR hR) (k_envR hR) hp hq hx1 hy1 hx2 hy2 hc
      have hR' := k_withRel (k_withEnv hR h2) (rel' := k_nzr op ox q env rel ++ (k_ltr op ox oy ++ rel)) (fun r hr => by
        rcases List.mem_append.mp hr with z | z
        · exact k_nzr_ok (k_relR hR) (k_envR hR) hx1 hy2 hc r z
        rcases List.mem_append.mp z with z | z
        · exact k_ltr_ok hx1 hy1 hc r z
        · exact k_relR hR r z)
      exact hk (t, _) (List.mem_append_left _ (by rw [h1]; exact List.mem_singleton.mpr rfl)) ρ H locs ls st hH hW hR'
    · have hc := k_neg_ok hc
      obtain ⟨e1, h1, h2⟩ := k_asm_ok (k_relR hR) (k_envR hR) hp hq hx1 hy1 hx2 hy2 hc
      have hR' := k_withRel (k_withEnv hR h2) (rel' := k_nzr (k_neg op) ox q env rel ++ (k_ltr (k_neg op) ox oy ++ rel)) (fun r hr => by
        rcases List.mem_append.mp hr with z | z
        · exact k_nzr_ok (k_relR hR) (k_envR hR) hx1 hy2 hc r z
        rcases List.mem_append.mp z with z | z
        · exact k_ltr_ok hx1 hy1 hc r z
        · exact k_relR hR r z)
      exact hk (pc', _) (List.mem_append_right _ (by rw [h1]; exact List.mem_singleton.mpr rfl)) ρ H locs ls st hH hW hR'
  · cases e
theorem k_icmpW {op : ClassFile.Cond} {off : Int} {t : Nat} {x y : Int32} (hF : k_Fx X cc nL own) (hd : decode cc pc = .ok (.if_icmp op off, 3)) (ht : (pc : Int) + off = (t : Int)) (k1 : k_cond op x.toInt y.toInt → kw X H locs t ls st) (k2 : ¬ k_cond op x.toInt y.toInt → kw X H locs (pc + 3) ls st) : kw X H locs pc ls (.int y :: .int x :: st) := by
  obtain ⟨hx, hb, -⟩ := hF
  cases op
  · exact lv_icmp_eq hx hb hd ht (fun h => k1 (Int32.toInt_inj.mpr h)) (fun h => k2 (fun z => h (Int32.toInt_inj.mp z)))
  · exact lv_icmp_ne hx hb hd ht (fun h => k1 (fun z => h (Int32.toInt_inj.mp z))) (fun h => k2 (fun z => z (Int32.toInt_inj.mpr h)))
  · exact lv_icmp_lt hx hb hd ht (fun h => k1 (Int32.lt_iff_toInt_lt.mp h)) (fun h => k2 (fun z => h (Int32.lt_iff_toInt_lt.mpr z)))
  · exact lv_icmp_ge hx hb hd ht (fun h => k1 (Int32.le_iff_toInt_le.mp h)) (fun h => k2 (fun z => h (Int32.le_iff_toInt_le.mpr z)))
  · exact lv_icmp_gt hx hb hd ht (fun h => k1 (Int32.lt_iff_toInt_lt.mp h)) (fun h => k2 (fun z => h (Int32.lt_iff_toInt_lt.mpr z)))
  · exact lv_icmp_le hx hb hd ht (fun h => k1 (Int32.le_iff_toInt_le.mp h)) (fun h => k2 (fun z => h (Int32.le_iff_toInt_le.mpr z)))
theorem k_ifW {op : ClassFile.Cond} {off : Int} {t : Nat} {x : Int32} (hF : k_Fx X cc nL own) (hd : decode cc pc = .ok (.ifCond op off, 3)) (ht : (pc : Int) + off = (t : Int)) (k1 : k_cond op x.toInt (0 : Int32).toInt → kw X H locs t ls st) (k2 : ¬ k_cond op x.toInt (0 : Int32).toInt → kw X H locs (pc + 3) ls st) : kw X H locs pc ls (.int x :: st) := by
  obtain ⟨hx, hb, -⟩ := hF
  cases op
  · exact lv_if_eq hx hb hd ht (fun h => k1 (Int32.toInt_inj.mpr h)) (fun h => k2 (fun z => h (Int32.toInt_inj.mp z)))
  · exact lv_if_ne hx hb hd ht (fun h => k1 (fun z => h (Int32.toInt_inj.mp z))) (fun h => k2 (fun z => z (Int32.toInt_inj.mpr h)))
  · exact lv_if_lt hx hb hd ht (fun h => k1 (Int32.lt_iff_toInt_lt.mp h)) (fun h => k2 (fun z => h (Int32.lt_iff_toInt_lt.mpr z)))
  · exact lv_if_ge hx hb hd ht (fun h => k1 (Int32.le_iff_toInt_le.mp h)) (fun h => k2 (fun z => h (Int32.le_iff_toInt_le.mpr z)))
  · exact lv_if_gt hx hb hd ht (fun h => k1 (Int32.lt_iff_toInt_lt.mp h)) (fun h => k2 (fun z => h (Int32.lt_iff_toInt_lt.mpr z)))
  · exact lv_if_le hx hb hd ht (fun h => k1 (Int32.le_iff_toInt_le.mp h)) (fun h => k2 (fun z => h (Int32.le_iff_toInt_le.mpr z)))
/-- the arms of a switch, by keys and offsets -/
def k_arms (pc : Nat) (o : kOp) : List (Int × Int) → kSt → Option (List (Nat × kSt))
  | [], _ => some []
  | a :: r, (n, env, loc, stk, ff, rel, len, g, par) => match k_tgt pc a.2, k_arms pc o r (n, env, loc, stk, ff, rel, len, g, par) with
    | some t, some l => some ((match k_refO rel env o (.inl (a.1, a.1)) with
      | some e => [(t, (n, e, loc, stk, ff, rel, len, g, par))]
      | none => []) ++ l)
    | _, _ => none
theorem k_arms_ok {o : kOp} {x : Int32} (hH : k_HT E τ H) (hW : k_wk E τ mods H0 H locs) (hR : k_R E nL τ vs ρ H ls st (n, env, loc, stk, ff, rel, len, g, par)) (hx : k_v ρ o = some (.int x)) (hc : ∀ c, o = .inr c → (Int32.ofInt c).toInt = c) : ∀ {as : List (Int × Int)} {l : List (Nat × kSt)}, k_arms pc o as (n, env, loc, stk, ff, rel, len, g, par) = some l → (∀ q ∈ l, k_good X E nL τ vs mods H0 q.1 q.2) → ∀ off, (x.toInt, off) ∈ as → ∃ t : Nat, (pc : Int) + off = (t : Int) ∧ kw X H locs t ls st
  | [], _, _, _, _, hm => by cases hm
  | a :: r, l, e, hk, off, hm => by
    unfold k_arms at e
    split at e
    · rename_i t l' ht hl
      cases e
      rcases List.mem_cons.mp hm with z | z
      · subst z
        refine ⟨t, k_tgt_ok ht, ?_⟩
        obtain ⟨e1, j1, j2⟩ := k_refO_ok (k_relR hR) (k_envR hR) hx (y := .inl (x.toInt, x.toInt)) ⟨x, rfl, Int.le_refl _, Int.le_refl _⟩ hc
        exact hk (t, _) (List.mem_append_left _ (by rw [j1]; exact List.mem_singleton.mpr rfl)) ρ H locs ls st hH hW (k_withEnv hR j2)
      · exact k_arms_ok hH hW hR hx hc hl (fun q hq => hk q (List.mem_append_right _ hq)) off z
    · cases e
def k_keys (lo : Int) : List Int → List (Int × Int)
  | [] => []
  | o :: r => (lo, o) :: k_keys (lo + 1) r
theorem k_keys_ok : ∀ {os : List Int} {lo : Int} {j : Nat} {off : Int}, os[j]? = some off → (lo + (j : Int), off) ∈ k_keys lo os
  | [], _, _, _, e => by simp at e
  | o :: r, lo, 0, off, e => by
    simp at e
    subst e
    unfold k_keys
    have : lo + ((0 : Nat) : Int) = lo := by omega
    rw [this]
    exact List.mem_cons_self
  | o :: r, lo, j + 1, off, e => by
    unfold k_keys
    have := k_keys_ok (os := r) (lo := lo + 1) (j := j) (off := off) (by simpa using e)
    have h2 : lo + 1 + (j : Int) = lo + ((j + 1 : Nat) : Int) := by omega
    rw [h2] at this
    exact List.mem_cons_of_mem _ this
theorem k_lkoff : ∀ (ps : List (Int × Int)) (d x : Int), (∃ off, (x, off) ∈ ps ∧ Op.lookupswitch.offset ps d x = off) ∨ Op.lookupswitch.offset ps d x = d
  | [], d, x => Or.inr rfl
  | a :: r, d, x => by
    obtain ⟨k, o⟩ := a
    by_cases h : k = x
    · subst h
      exact Or.inl ⟨o, List.mem_cons_self, by rw [Op.lookupswitch.offset_cons, if_pos rfl]⟩
    · have h' : Op.lookupswitch.offset ((k, o) :: r) d x = Op.lookupswitch.offset r d x := by
        rw [Op.lookupswitch.offset_cons, if_neg h]
      rcases k_lkoff r d x with ⟨off, h1, h2⟩ | h1
      · exact Or.inl ⟨off, List.mem_cons_of_mem _ h1, by rw [h']; exact h2⟩
      · exact Or.inr (by rw [h']; exact h1)
def k_g7 (pc : Nat) (i : Instr) (L : Nat) : kSt → Option (List (Nat × kSt))
  | (n, env, loc, stk, ff, rel, len, g, par) => match i with
    | .goto off => if Nat.beq L 3 = true then (match k_tgt pc off with
      | some t => some [(t, (n, env, loc, stk, ff, rel, len, g, par))]
      | none => none) else none
    | .if_icmp op off => if Nat.beq L 3 = true then (match k_tgt pc off, stk with
      | some t, oy :: ox :: r => k_br op ox oy t (pc + 3) (n, env, loc, r, ff, rel, len, g, par)
      | _, _ => none) else none
    | .ifCond op off => if Nat.beq L 3 = true then (match k_tgt pc off, stk with
      | some t, ox :: r => k_br op ox (.inr 0) t (pc + 3) (n, env, loc, r, ff, rel, len, g, par)
      | _, _ => none) else none
    | .ifnull off => if Nat.beq L 3 = true then (match k_tgt pc off, stk with
      | some t, .inl s :: r => match k_rf env (.inl s) with
        | some q => some ((if q.1 = true then [(t, (n, env, loc, r, ff, rel, len, g, par))] else []) ++ [(pc + 3, (n, (s, .inr (.inr (.inl (false, q.2)))) :: env, loc, r, ff, rel, len, g, par))])
        | none => none
      | _, _ => none) else none
    | .ifnonnull off => if Nat.beq L 3 = true then (match k_tgt pc off, stk with
      | some t, .inl s :: r => match k_rf env (.inl s) with
        | some q => some ((if q.1 = true then [(pc + 3, (n, env, loc, r, ff, rel, len, g, par))] else []) ++ [(t, (n, (s, .inr (.inr (.inl (false, q.2)))) :: env, loc, r, ff, rel, len, g, par))])
        | none => none
      | _, _ => none) else none
    | .tableswitch dflt lo hi offs => match stk with
      | o :: r => match k_ivl env o, k_tgt pc dflt, k_arms pc o (k_keys lo offs.toList) (n, env, loc, r, ff, rel, len, g, par) with
        | some q, some t, some l => if k_eqi (lo + (offs.toList.length : Int)) (hi + 1) = true then some (l ++ (if k_bw q (lo, hi) = true then [] else [(t, (n, env, loc, r, ff, rel, len, g, par))])) else none
        | _, _, _ => none
      | [] => none
    | .lookupswitch dflt ps => match stk with
      | o :: r => match k_ivl env o, k_tgt pc dflt, k_arms pc o ps.toList (n, env, loc, r, ff, rel, len, g, par) with
        | some _, some t, some l => if (ps.toList.zip (ps.toList.drop 1)).all (fun (a, next) => a.1 < next.1) = true then some (l ++ [(t, (n, env, loc, r, ff, rel, len, g, par))]) else none
        | _, _, _ => none
      | [] => none
    | _ => none
theorem k_g7_ok {i : Instr} {L : Nat} {σ : kSt} {l : List (Nat × kSt)} (hF : k_Fx X cc nL own) (hd : decode cc pc = .ok (i, L)) (e : k_g7 pc i L σ = some l) (hk : ∀ q ∈ l, k_good X E nL τ vs mods H0 q.1 q.2) : k_good X E nL τ vs mods H0 pc σ := by
  obtain ⟨n, env, loc, stk, ff, rel, len, g, par⟩ := σ
  intro ρ H locs ls st hH hW hR
  have he := k_envR hR
  unfold k_g7 at e
  dsimp only at e
  split at e
  · rename_i off
    split at e
    · rename_i y
      have y := Nat.eq_of_beq_eq_true y
      subst y
      split at e
      · rename_i t ht
        cases e
        exact lv_goto hF.1 hF.2.1 hd (k_tgt_ok ht) (hk _ List.mem_cons_self ρ H locs ls _ hH hW hR)
      · cases e
    · cases e
  · rename_i op off
    split at e
    · rename_i y
      have y := Nat.eq_of_beq_eq_true y
      subst y
      split at e
      · rename_i t oy ox r ht
        obtain ⟨v, rs, rfl, hv, hR2⟩ := k_pop hR
        obtain ⟨v2, rs2, rfl, hv2, hR3⟩ := k_pop hR2
        obtain ⟨x, y, hx, hy, k1, k2⟩ := k_br_ok hH hW hR3 e hk
        cases hv.symm.trans hy
        cases hv2.symm.trans hx
        exact k_icmpW hF hd (k_tgt_ok ht) k1 k2
      · cases e
    · cases e
  · rename_i op off
    split at e
    · rename_i y
      have y := Nat.eq_of_beq_eq_true y
      subst y
      split at e
      · rename_i t ox r ht
        obtain ⟨v, rs, rfl, hv, hR2⟩ := k_pop hR
        obtain ⟨x, y, hx, hy, k1, k2⟩ := k_br_ok hH hW hR2 e hk
        cases hv.symm.trans hx
        have hy0 : y = 0 := by
          have := Option.some.inj hy
          exact (Value.int.inj this).symm
        subst hy0
        exact k_ifW hF hd (k_tgt_ok ht) k1 k2
      · cases e
    · cases e
  · rename_i off
    split at e
    · rename_i y
      have y := Nat.eq_of_beq_eq_true y
      subst y
      split at e
      · rename_i t s r ht
        split at e
        · rename_i q hq
          cases e
          obtain ⟨v, rs, rfl, hv, hR2⟩ := k_pop hR
          obtain ⟨w, h1, h2⟩ := k_rf_ok he hq
          cases hv.symm.trans h1
          rcases h2 with ⟨g1, g2⟩ | ⟨a, t', g1, g2, g3⟩
          · subst g2
            exact lv_ifnullN hF.1 hF.2.1 hd (k_tgt_ok ht) (hk (t, _) (List.mem_append_left _ (by rw [if_pos g1]; exact List.mem_singleton.mpr rfl)) ρ H locs ls _ hH hW hR2)
          · subst g1
            refine lv_ifnull hF.1 hF.2.1 hd (hk (pc + 3, _) (List.mem_append_right _ (List.mem_singleton.mpr rfl)) ρ H locs ls _ hH hW (k_withEnv hR2 (fun z hz => ?_)))
            rcases List.mem_cons.mp hz with e' | e'
            · subst e'; exact ⟨_, hv, Or.inr ⟨a, t', rfl, g2, g3⟩⟩
            · exact he z e'
        · cases e
      · cases e
    · cases e
  · rename_i off
    split at e
    · rename_i y
      have y := Nat.eq_of_beq_eq_true y
      subst y
      split at e
      · rename_i t s r ht
        split at e
        · rename_i q hq
          cases e
          obtain ⟨v, rs, rfl, hv, hR2⟩ := k_pop hR
          obtain ⟨w, h1, h2⟩ := k_rf_ok he hq
          cases hv.symm.trans h1
          rcases h2 with ⟨g1, g2⟩ | ⟨a, t', g1, g2, g3⟩
          · subst g2
            exact lv_ifnonnullN hF.1 hF.2.1 hd (hk (pc + 3, _) (List.mem_append_left _ (by rw [if_pos g1]; exact List.mem_singleton.mpr rfl)) ρ H locs ls _ hH hW hR2)
          · subst g1
            refine lv_ifnonnull hF.1 hF.2.1 hd (k_tgt_ok ht) (hk (t, _) (List.mem_append_right _ (List.mem_singleton.mpr rfl)) ρ H locs ls _ hH hW (k_withEnv hR2 (fun z hz => ?_)))
            rcases List.mem_cons.mp hz with e' | e'
            · subst e'; exact ⟨_, hv, Or.inr ⟨a, t', rfl, g2, g3⟩⟩
            · exact he z e'
        · cases e
      · cases e
    · cases e
  · rename_i dflt lo hi offs
    split at e
    · rename_i o r
      split at e
      · rename_i q t l' hq ht hl
        split at e
        · rename_i hlen
          rw [k_eqi_iff] at hlen
          cases e
          obtain ⟨v, rs, rfl, hv, hR2⟩ := k_pop hR
          obtain ⟨x, hx1, hx2⟩ := k_ivl_ok he hq
          cases hv.symm.trans hx1
          by_cases hin : x.toInt < lo ∨ hi < x.toInt
          · refine lv_tableOut hF.1 hF.2.1 hd hin (k_tgt_ok ht) (hk (t, _) (List.mem_append_right _ ?_) ρ H locs ls _ hH hW hR2)
            rw [if_neg]
            · exact List.mem_singleton.mpr rfl
            · intro z
              have := k_bw_ok z hx2
              have h1 := this.1
              have h2 := this.2
              dsimp only at h1 h2
              omega
          · have h1 : ¬ x.toInt < lo := fun z => hin (Or.inl z)
            have h2 : ¬ hi < x.toInt := fun z => hin (Or.inr z)
            have hj : (x.toInt - lo).toNat < offs.toList.length := by omega
            have hof : offs.toList[(x.toInt - lo).toNat]? = some offs.toList[(x.toInt - lo).toNat] := List.getElem?_eq_getElem hj
            have hkey := k_keys_ok (lo := lo) hof
            have hxk : lo + (((x.toInt - lo).toNat : Nat) : Int) = x.toInt := by omega
            rw [hxk] at hkey
            obtain ⟨t2, ht2, hw⟩ := k_arms_ok hH hW hR2 hx1 (fun c hc => by subst hc; exact k_ivl_c hq) hl (fun z hz => hk z (List.mem_append_left _ hz)) _ hkey
            exact lv_tableIn hF.1 hF.2.1 hd h1 h2 (by rw [← Array.getElem?_toList]; exact hof) ht2 hw
        · cases e
      · cases e
    · cases e
  · rename_i dflt ps
    split at e
    · rename_i o r
      split at e
      · rename_i q t l' hq ht hl
        split at e
        · rename_i hs
          cases e
          obtain ⟨v, rs, rfl, hv, hR2⟩ := k_pop hR
          obtain ⟨x, hx1, hx2⟩ := k_ivl_ok he hq
          cases hv.symm.trans hx1
          rcases k_lkoff ps.toList dflt x.toInt with ⟨off, h1, h2⟩ | h1
          · obtain ⟨t2, ht2, hw⟩ := k_arms_ok hH hW hR2 hx1 (fun c hc => by subst hc; exact k_ivl_c hq) hl (fun z hz => hk z (List.mem_append_left _ hz)) _ h1
            exact lv_lookup hF.1 hF.2.1 hd hs h2 ht2 hw
          · exact lv_lookup hF.1 hF.2.1 hd hs h1 (k_tgt_ok ht) (hk (t, _) (List.mem_append_right _ (List.mem_singleton.mpr rfl)) ρ H locs ls _ hH hW hR2)
        · cases e
      · cases e
    · cases e
  · cases e
end KP
