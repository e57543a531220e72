/-! ===== walking a method: steps, loops' heads, measures ===== -/
/-- a loop's head: where its symbols come from (0, local) | (1, symbol, field) | (2, parameter); their infos; locals; facts; invariants; parameters; measure (c + k * symbol each) -/
abbrev kAnn : Type := List (Nat × Nat × Nat) × List kInfo × List (Nat × kOp) × List (Nat × Nat × kOp) × List Nat × List kOp × List (Int × Int × Nat)
/-- a method: code; fields' entries; int constants; long constants; contracts of the calls by their places; its own contract; kind of its result; number of its locals; heads; places where the top is split -/
abbrev kM : Type := List (Nat × Instr × Nat) × List (Nat × Nat × Nat × Nat) × List (Nat × Int) × List (Nat × Int) × List (Nat × kCtr) × kCtr × Nat × Nat × List (Nat × kAnn) × List Nat
def k_cd : List (Nat × Instr × Nat) → Nat → Option (Instr × Nat)
  | [], _ => none
  | q :: r, k => if Nat.beq q.1 k = true then some q.2 else k_cd r k
theorem k_cd_ok : ∀ {l : List (Nat × Instr × Nat)} {k : Nat} {x : Instr × Nat}, k_cd l k = some x → (k, x) ∈ l
  | [], _, _, e => by cases e
  | q :: r, k, x, e => by
    unfold k_cd at e
    split at e
    · rename_i z
      cases e
      rw [← Nat.eq_of_beq_eq_true z]
      exact List.mem_cons_self
    · exact List.mem_cons_of_mem _ (k_cd_ok e)
def k_step (TT : List kDesc) (GS : Nat → List (Nat × Nat)) (M : kM) (pc : Nat) (σ : kSt) : Option (List (Nat × kSt)) := match k_cd M.1 pc with
  | none => none
  | some q => match k_g2 pc q.1 q.2 σ with
    | some l => some l
    | none => match k_g10 TT GS M.2.1 M.2.2.2.2.2.1.2.2.2.1 pc q.1 q.2 σ with
      | some l => some l
      | none => match k_g1 M.2.2.1 M.2.2.2.1 pc q.1 q.2 σ with
        | some l => some l
        | none => match k_g7 pc q.1 q.2 σ with
          | some l => some l
          | none => match k_g3 M.2.2.2.2.2.2.2.1 pc q.1 q.2 σ with
            | some l => some l
            | none => match k_g4 pc q.1 q.2 σ with
              | some l => some l
              | none => match k_g5 pc q.1 q.2 σ with
                | some l => some l
                | none => match k_g8 TT pc q.1 q.2 σ with
                  | some l => some l
                  | none => match k_g9 TT GS M.2.2.2.2.2.1.2.2.2.1 pc q.1 q.2 σ with
                    | some l => some l
                    | none => match k_g8b TT pc q.1 q.2 σ with
                      | some l => some l
                      | none => match k_g6 pc q.1 q.2 σ with
                        | some l => some l
                        | none => match k_g11 TT GS M.2.2.2.2.2.1.2.2.2.1 pc σ M.2.2.2.2.1 with
                          | some l => some l
                          | none => k_g12 TT M.2.2.2.2.2.1 M.2.2.2.2.2.2.1 q.1 q.2 σ
/-- what a method's tables must be -/
def k_Hy (X : kX) (E : kE) (τ : kTau) (M : kM) (ps : List Value) (cc : ByteArray) (own : String) : Prop :=
  k_Fx X cc M.2.2.2.2.2.2.2.1 own ∧ (∀ q ∈ M.1, decode cc q.1 = .ok q.2) ∧ k_FL X E own M.2.1 ∧ k_CI X own M.2.2.1 ∧ k_CJ X own M.2.2.2.1 ∧ (∀ q ∈ M.2.2.2.2.1, k_call X E M.2.2.2.2.2.2.2.1 τ q.2 q.1) ∧
  k_Eok E ∧ k_tys E ∧ va_K E.1 E.2.1 E.2.2.1 X.2.2.2.2.1 ∧ X.2.2.2.2.2.2.2.2.1.sig.returnType = k_rty M.2.2.2.2.2.2.1 ∧ X.2.2.2.2.2.2.2.2.1.locks = false ∧
  X.2.2.2.2.2.2.2.2.2.2 = MQ X.2.2.2.2.2.2.2.1 (k_Qc E τ M.2.2.2.2.2.1 ps) X.2.2.2.2.2.2.1 X.2.2.2.2.1 0 0 (fun q => E.2.2.2.2.1 ≤ q) ∧ ps.length = M.2.2.2.2.2.1.1.length
theorem k_step_ok {X : kX} {E : kE} {τ : kTau} {M : kM} {ps vs : List Value} {cc : ByteArray} {own : String} {pc : Nat} {σ : kSt} {l : List (Nat × kSt)} (hy : k_Hy X E τ M ps cc own) (hps : ∀ (i : Nat) (w : Value), vs[i]? = some w → i < ps.length → ps[i]? = some w)
    (e : k_step E.2.2.2.1 E.2.2.2.2.2.2 M pc σ = some l) (hk : ∀ q ∈ l, k_good X E M.2.2.2.2.2.2.2.1 τ vs M.2.2.2.2.2.1.2.2.2.1 X.2.2.2.2.1.heap q.1 q.2) : k_good X E M.2.2.2.2.2.2.2.1 τ vs M.2.2.2.2.2.1.2.2.2.1 X.2.2.2.2.1.heap pc σ := by
  obtain ⟨hF, hc, hFL, hCI, hCJ, hCT, hE, hT, hK, hr, hlk, hQ, hl⟩ := hy
  unfold k_step at e
  split at e
  · cases e
  · rename_i q hq
    have hd := hc _ (k_cd_ok hq)
    split at e
    · rename_i l' h; cases e; exact k_g2_ok hF hd h hk
    · split at e
      · rename_i l' h; cases e; exact k_g10_ok hF hE hK hFL hd h hk
      · split at e
        · rename_i l' h; cases e; exact k_g1_ok hF hCI hCJ hd h hk
        · split at e
          · rename_i l' h; cases e; exact k_g7_ok hF hd h hk
          · split at e
            · rename_i l' h; cases e; exact k_g3_ok hF hd h hk
            · split at e
              · rename_i l' h; cases e; exact k_g4_ok hF hd h hk
              · split at e
                · rename_i l' h; cases e; exact k_g5_ok hF hd h hk
                · split at e
                  · rename_i l' h; cases e; exact k_g8_ok hF hK hT hd h hk
                  · split at e
                    · rename_i l' h; cases e; exact k_g9_ok hF hE hK hT hd h hk
                    · split at e
                      · rename_i l' h; cases e; exact k_g8b_ok hF hK hd h hk
                      · split at e
                        · rename_i l' h; cases e; exact k_g6_ok hF hd h hk
                        · split at e
                          · rename_i l' h; cases e; exact k_g11_ok hE hCT h hk
                          · exact k_g12_ok hF hE hr hlk hQ rfl rfl hl hps hd e
/-- the top of the stack, an int of several values: each for itself -/
def k_split : kSt → Option (List kSt)
  | (n, env, loc, .inl s :: stk, ff, rel, len, g, par) => match k_get env s with
    | some (.inl q) => if (k_le (q.1 + 1) q.2 && k_le (q.2 - q.1) 600) = true then some ((List.range ((q.2 - q.1).toNat + 1)).map (fun (i : Nat) => (n, k_prop s (.inl (q.1 + (i : Int), q.1 + (i : Int))) rel ((s, .inl (q.1 + (i : Int), q.1 + (i : Int))) :: env), loc, .inl s :: stk, ff, rel, len, g, par))) else if (k_le q.1 (-1) && k_le 1 q.2) = true then some ([(q.1, -1), (0, 0), (1, q.2)].map (fun (z : kB) => (n, k_prop s (.inl z) rel ((s, .inl z) :: env), loc, .inl s :: stk, ff, rel, len, g, par))) else none
    | _ => none
  | _ => none
theorem k_split_ok {X : kX} {E : kE} {nL : Nat} {τ : kTau} {vs : List Value} {mods : List (Nat × Nat)} {H0 : Heap} {pc : Nat} {σ : kSt} {l : List kSt} (e : k_split σ = some l) (hk : ∀ q ∈ l, k_good X E nL τ vs mods H0 pc q) : k_good X E nL τ vs mods H0 pc σ := by
  unfold k_split at e
  split at e
  · rename_i n env loc s stk ff rel len g par
    intro ρ H locs ls st hH hW hR
    split at e
    · rename_i q hq
      split at e
      · cases e
        obtain ⟨v, h1, x, h2, h3⟩ := k_get_ok (k_envR hR) hq
        subst h2
        have hx1 := h3.1
        have hx2 := h3.2
        have hi : q.1 + (((x.toInt - q.1).toNat : Nat) : Int) = x.toInt := by omega
        have hz : k_ok τ (.inl (q.1 + (((x.toInt - q.1).toNat : Nat) : Int), q.1 + (((x.toInt - q.1).toNat : Nat) : Int))) (.int x) := ⟨x, rfl, by rw [hi]; exact ⟨Int.le_refl _, Int.le_refl _⟩⟩
        refine hk _ (List.mem_map.mpr ⟨(x.toInt - q.1).toNat, List.mem_range.mpr (by omega), rfl⟩) ρ H locs ls st hH hW (k_withEnv hR (k_prop_ok h1 hz (k_relR hR) (fun z hz' => ?_)))
        rcases List.mem_cons.mp hz' with e' | e'
        · subst e'; exact ⟨_, h1, hz⟩
        · exact k_envR hR z e'
      · split at e
        · cases e
          obtain ⟨v, h1, x, h2, h3⟩ := k_get_ok (k_envR hR) hq
          subst h2
          have hx1 := h3.1
          have hx2 := h3.2
          have go : ∀ z : kB, z ∈ [((q.1, -1) : kB), (0, 0), (1, q.2)] → k_in z x.toInt → kw X H locs pc ls st := by
            intro z hzm hzi
            have hz : k_ok τ (.inl z) (.int x) := ⟨x, rfl, hzi⟩
            refine hk _ (List.mem_map.mpr ⟨z, hzm, rfl⟩) ρ H locs ls st hH hW (k_withEnv hR (k_prop_ok h1 hz (k_relR hR) (fun w hw => ?_)))
            rcases List.mem_cons.mp hw with e' | e'
            · subst e'; exact ⟨_, h1, hz⟩
            · exact k_envR hR w e'
          rcases Int.lt_trichotomy x.toInt 0 with c | c | c
          · exact go _ (List.mem_of_getElem? (i := 0) rfl) ⟨hx1, by show x.toInt ≤ -1; omega⟩
          · exact go _ (List.mem_of_getElem? (i := 1) rfl) ⟨by show 0 ≤ x.toInt; omega, by show x.toInt ≤ 0; omega⟩
          · exact go _ (List.mem_of_getElem? (i := 2) rfl) ⟨by show 1 ≤ x.toInt; omega, hx2⟩
        · cases e
    · cases e
  · cases e
def k_an : List (Nat × kAnn) → Nat → Option kAnn
  | [], _ => none
  | q :: r, k => if Nat.beq q.1 k = true then some q.2 else k_an r k
theorem k_an_ok : ∀ {l : List (Nat × kAnn)} {k : Nat} {x : kAnn}, k_an l k = some x → (k, x) ∈ l
  | [], _, _, e => by cases e
  | q :: r, k, x, e => by
    unfold k_an at e
    split at e
    · rename_i z
      cases e
      rw [← Nat.eq_of_beq_eq_true z]
      exact List.mem_cons_self
    · exact List.mem_cons_of_mem _ (k_an_ok e)
/-- all that is reached from here is well, up to heads -/
def k_run (TT : List kDesc) (GS : Nat → List (Nat × Nat)) (M : kM) (ent : kAnn → kSt → Bool) : Nat → Nat → kSt → Bool
  | 0, _, _ => false
  | f + 1, pc, σ => match k_an M.2.2.2.2.2.2.2.2.1 pc with
    | some _ => M.2.2.2.2.2.2.2.2.1.any (fun q => Nat.beq q.1 pc && ent q.2 σ)
    | none => match (if k_mem1 pc M.2.2.2.2.2.2.2.2.2 = true then k_split σ else none) with
      | some l => l.all (fun q => k_run TT GS M ent f pc q)
      | none => match k_step TT GS M pc σ with
        | some l => l.all (fun q => k_run TT GS M ent f q.1 q.2)
        | none => false
theorem k_run_ok {X : kX} {E : kE} {τ : kTau} {M : kM} {ps vs : List Value} {cc : ByteArray} {own : String} {ent : kAnn → kSt → Bool} (hy : k_Hy X E τ M ps cc own) (hps : ∀ (i : Nat) (w : Value), vs[i]? = some w → i < ps.length → ps[i]? = some w)
    (hent : ∀ (pc : Nat) (A : kAnn) (σ : kSt), (pc, A) ∈ M.2.2.2.2.2.2.2.2.1 → ent A σ = true → k_good X E M.2.2.2.2.2.2.2.1 τ vs M.2.2.2.2.2.1.2.2.2.1 X.2.2.2.2.1.heap pc σ) :
    ∀ (f pc : Nat) (σ : kSt), k_run E.2.2.2.1 E.2.2.2.2.2.2 M ent f pc σ = true → k_good X E M.2.2.2.2.2.2.2.1 τ vs M.2.2.2.2.2.1.2.2.2.1 X.2.2.2.2.1.heap pc σ := by
  intro f
  induction f with
  | zero => intro pc σ e; cases e
  | succ f ih =>
    intro pc σ e
    unfold k_run at e
    split at e
    · rename_i A hA
      rw [List.any_eq_true] at e
      obtain ⟨q, hq, e⟩ := e
      rw [Bool.and_eq_true] at e
      have e1 := Nat.eq_of_beq_eq_true e.1
      exact hent pc q.2 σ (by rw [← e1]; exact hq) e.2
    · split at e
      · rename_i l hl
        rw [List.all_eq_true] at e
        split at hl
        · exact k_split_ok hl (fun q hq => ih pc q (e q hq))
        · cases hl
      · split at e
        · rename_i l hl
          rw [List.all_eq_true] at e
          exact k_step_ok hy hps hl (fun q hq => ih q.1 q.2 (e q hq))
        · cases e
-- heads
def k_zip : Nat → List kInfo → List (Nat × kInfo)
  | _, [] => []
  | i, x :: r => (i, x) :: k_zip (i + 1) r
theorem k_zip_mem : ∀ {xs : List kInfo} {b : Nat} {q : Nat × kInfo}, q ∈ k_zip b xs → b ≤ q.1 ∧ xs[q.1 - b]? = some q.2
  | [], _, _, h => by cases h
  | x :: r, b, q, h => by
    unfold k_zip at h
    rcases List.mem_cons.mp h with e | e
    · subst e
      exact ⟨Nat.le_refl _, by simp⟩
    · obtain ⟨h1, h2⟩ := k_zip_mem e
      refine ⟨by omega, ?_⟩
      have : q.1 - b = (q.1 - (b + 1)) + 1 := by omega
      rw [this]
      simpa using h2
def k_seq : Nat → Nat → List kOp
  | _, 0 => []
  | i, m + 1 => .inl i :: k_seq (i + 1) m
theorem k_seq_map {ρ : Nat → Option Value} : ∀ {m b : Nat} {hv : List Value}, hv.length = m → (∀ i w, hv[i]? = some w → ρ (b + i) = some w) → (k_seq b m).map (k_v ρ) = hv.map some
  | 0, b, hv, h, _ => by
    cases hv with
    | nil => rfl
    | cons a r => simp at h
  | m + 1, b, hv, h, hh => by
    cases hv with
    | nil => simp at h
    | cons a r =>
      unfold k_seq
      simp only [List.map_cons, List.cons.injEq]
      refine ⟨?_, k_seq_map (by simpa using h) (fun i w hi => ?_)⟩
      · have := hh 0 a (by simp)
        show ρ b = some a
        simpa using this
      · have := hh (i + 1) w (by simpa using hi)
        rw [show b + 1 + i = b + (i + 1) by omega]
        exact this
def k_hst0 (A : kAnn) : kSt := (A.2.1.length, k_zip 0 A.2.1, A.2.2.1, [], A.2.2.2.1, [], [], A.2.2.2.2.1, A.2.2.2.2.2.1)
def k_hst (A : kAnn) : kSt := (A.2.1.length, k_zip 0 A.2.1, A.2.2.1, [], A.2.2.2.1, [], [], A.2.2.2.2.1, A.2.2.2.2.2.1 ++ k_seq 0 A.2.1.length)
/-- an operand of a head, as it stands where the head is come to -/
def k_sb (θ : List kOp) : kOp → Option kOp
  | .inl i => θ[i]?
  | .inr c => some (.inr c)
def k_hv (ρ : Nat → Option Value) (θ : List kOp) : Nat → Option Value := fun i => (θ[i]?).bind (k_v ρ)
theorem k_sb_v {ρ : Nat → Option Value} {θ : List kOp} {o o' : kOp} (h : k_sb θ o = some o') : k_v (k_hv ρ θ) o = k_v ρ o' := by
  cases o with
  | inl i =>
    have h : θ[i]? = some o' := h
    show (θ[i]?).bind (k_v ρ) = _
    rw [h]; rfl
  | inr c => cases h; rfl
def k_bind (TT : List kDesc) : List (Nat × Nat × Nat) → List kOp → kSt → Option (List kOp × kSt)
  | [], θ, σ => some (θ, σ)
  | q :: r, θ, (n, env, loc, stk, ff, rel, len, g, par) => match q.1 with
    | 0 => match k_loc loc q.2.1 with
      | some o => k_bind TT r (θ ++ [o]) (n, env, loc, stk, ff, rel, len, g, par)
      | none => none
    | 1 => match θ[q.2.1]? with
      | some o => match k_obj env o with
        | some p => match TT[p.2]? with
          | some (.inl d) => match k_rd p.1 q.2.2 d.2 (n, env, loc, stk, ff, rel, len, g, par) with
            | some x => k_bind TT r (θ ++ [x.1]) x.2
            | none => none
          | _ => none
        | none => none
      | none => none
    | _ => match par[q.2.1]? with
      | some o => k_bind TT r (θ ++ [o]) (n, env, loc, stk, ff, rel, len, g, par)
      | none => none
theorem k_bind_ok {E : kE} {nL : Nat} {τ : kTau} {vs : List Value} {H : Heap} {ls : Array Slot} {st : List Value} (hE : k_Eok E) (hH : k_HT E τ H) : ∀ {src : List (Nat × Nat × Nat)} {θ θ' : List kOp} {σ σ' : kSt} {ρ : Nat → Option Value}, k_R E nL τ vs ρ H ls st σ → k_bind E.2.2.2.1 src θ σ = some (θ', σ') → ∃ ρ', k_R E nL τ vs ρ' H ls st σ'
  | [], θ, θ', σ, σ', ρ, hR, e => by cases e; exact ⟨ρ, hR⟩
  | q :: r, θ, θ', (n, env, loc, stk, ff, rel, len, g, par), σ', ρ, hR, e => by
    unfold k_bind at e
    split at e
    · split at e
      · exact k_bind_ok hE hH hR e
      · cases e
    · split at e
      · rename_i o ho
        split at e
        · rename_i p hp
          split at e
          · rename_i d hd
            split at e
            · rename_i x hx
              obtain ⟨ho2, a, ha1, ha2⟩ := k_obj_ok (s := p.1) (t := p.2) (k_envR hR) hp
              obtain ⟨ρ', v, -, hR', -⟩ := k_rd_ok (o := x.1) (σ := x.2) hE hH ha1 ha2 hd hR hx
              exact k_bind_ok hE hH hR' e
            · cases e
          · cases e
        · cases e
      · cases e
    · split at e
      · exact k_bind_ok hE hH hR e
      · cases e
def k_pq (θ : List kOp) : List kOp → List kOp → Bool
  | [], _ => true
  | a :: r, b :: s => (match k_sb θ a with
    | some o => k_oe o b
    | none => false) && k_pq θ r s
  | _ :: _, [] => false
theorem k_pq_ok {ρ : Nat → Option Value} {θ : List kOp} : ∀ {as bs : List kOp} {ps vs : List Value}, k_pq θ as bs = true → bs.map (k_v ρ) = vs.map some → ps.length = as.length → (∀ (i : Nat) (w : Value), vs[i]? = some w → i < ps.length → ps[i]? = some w) → as.map (k_v (k_hv ρ θ)) = ps.map some
  | [], bs, ps, vs, _, _, h, _ => by
    cases ps with
    | nil => rfl
    | cons a r => simp at h
  | a :: r, [], ps, vs, e, _, _, _ => by cases e
  | a :: r, b :: s, ps, vs, e, hm, h, hh => by
    cases ps with
    | nil => simp at h
    | cons p pr =>
      cases vs with
      | nil => simp at hm
      | cons v vr =>
        simp only [List.map_cons, List.cons.injEq] at hm
        unfold k_pq at e
        rw [Bool.and_eq_true] at e
        have hpv : p = v := by
          have := hh 0 v (by simp) (by simp)
          simpa using this
        subst hpv
        simp only [List.map_cons, List.cons.injEq]
        refine ⟨?_, k_pq_ok e.2 hm.2 (by simpa using h) (fun i w hi hl => ?_)⟩
        · have e1 := e.1
          split at e1
          · rename_i o ho
            rw [k_sb_v ho, k_oe_ok e1]
            exact hm.1
          · cases e1
        · have := hh (i + 1) w (by simpa using hi) (by simpa using hl)
          simpa using this
-- measures
def k_big : Nat := 17179869184
def k_num : List Nat → Nat
  | [] => 0
  | d :: r => d * k_big ^ r.length + k_num r
theorem k_num_lt : ∀ {l : List Nat}, (∀ d ∈ l, d < k_big) → k_num l < k_big ^ l.length
  | [], _ => by unfold k_num; exact Nat.one_pos
  | d :: r, h => by
    unfold k_num
    have h1 := k_num_lt (fun z hz => h z (List.mem_cons_of_mem _ hz))
    have h2 := h d List.mem_cons_self
    calc d * k_big ^ r.length + k_num r < d * k_big ^ r.length + k_big ^ r.length := by omega
      _ = (d + 1) * k_big ^ r.length := by rw [Nat.add_mul, Nat.one_mul]
      _ ≤ k_big * k_big ^ r.length := Nat.mul_le_mul_right _ h2
      _ = k_big ^ (d :: r).length := by rw [List.length_cons, Nat.pow_succ, Nat.mul_comm]
def k_lexP : List Nat → List Nat → Prop
  | a :: as, b :: bs => a < b ∨ (a = b ∧ k_lexP as bs)
  | _, _ => False
theorem k_lexP_num : ∀ {as bs : List Nat}, as.length = bs.length → (∀ d ∈ as, d < k_big) → k_lexP as bs → k_num as < k_num bs
  | [], _, _, _, h => by cases h
  | a :: as, [], _, _, h => by cases h
  | a :: as, b :: bs, hl, hd, h => by
    have hl' : as.length = bs.length := by simpa using hl
    unfold k_num
    rcases h with h | ⟨h1, h2⟩
    · have h3 := k_num_lt (fun z hz => hd z (List.mem_cons_of_mem _ hz))
      rw [← hl']
      calc a * k_big ^ as.length + k_num as < a * k_big ^ as.length + k_big ^ as.length := by omega
        _ = (a + 1) * k_big ^ as.length := by rw [Nat.add_mul, Nat.one_mul]
        _ ≤ b * k_big ^ as.length := Nat.mul_le_mul_right _ h
        _ ≤ b * k_big ^ as.length + k_num bs := Nat.le_add_right _ _
    · subst h1
      have := k_lexP_num hl' (fun z hz => hd z (List.mem_cons_of_mem _ hz)) h2
      rw [← hl']
      omega
def k_iv (v : Option Value) : Int := match v with
  | some (.int x) => x.toInt
  | _ => 0
def k_mval (hv : List Value) (m : Int × Int × Nat) : Nat := (m.1 + m.2.1 * k_iv hv[m.2.2]?).toNat
/-- a measure's number: between 0 and k_big by the infos -/
def k_mr (xs : List kInfo) (m : Int × Int × Nat) : Bool := if k_eqi m.2.1 0 = true then (k_le 0 m.1 && k_le m.1 17179869183) else match xs[m.2.2]? with
  | some (.inl q) => (k_eqi m.2.1 1 && (k_le 0 (m.1 + q.1) && k_le (m.1 + q.2) 17179869183)) || (k_eqi m.2.1 (-1) && (k_le 0 (m.1 - q.2) && k_le (m.1 - q.1) 17179869183))
  | _ => false
theorem k_mr_ok {τ : kTau} {xs : List kInfo} {m : Int × Int × Nat} {hv : List Value} (e : k_mr xs m = true) (h : ∀ (i : Nat) (x : kInfo), xs[i]? = some x → ∃ v, hv[i]? = some v ∧ k_ok τ x v) : 0 ≤ m.1 + m.2.1 * k_iv hv[m.2.2]? ∧ m.1 + m.2.1 * k_iv hv[m.2.2]? ≤ 17179869183 := by
  unfold k_mr at e
  split at e
  · rename_i z
    rw [k_eqi_iff] at z
    rw [Bool.and_eq_true, k_le_iff, k_le_iff] at e
    rw [z, Int.zero_mul]
    omega
  · split at e
    · rename_i q hq
      obtain ⟨v, h1, x, h2, h3⟩ := h _ _ hq
      subst h2
      rw [h1]
      show 0 ≤ m.1 + m.2.1 * x.toInt ∧ m.1 + m.2.1 * x.toInt ≤ 17179869183
      have a := h3.1
      have b := h3.2
      rw [Bool.or_eq_true, Bool.and_eq_true, Bool.and_eq_true, Bool.and_eq_true, Bool.and_eq_true, k_eqi_iff, k_eqi_iff, k_le_iff, k_le_iff, k_le_iff, k_le_iff] at e
      rcases e with ⟨e1, e2, e3⟩ | ⟨e1, e2, e3⟩
      · rw [e1]; omega
      · rw [e1]; omega
    · cases e
/-- one number of a head's measure against that of the head where one set out: 2 less, 1 the same, 0 not known -/
def k_mc (env : List (Nat × kInfo)) (rel : List (Nat × Nat × Nat × Nat × Int)) (θ par : List kOp) (np : Nat) (a b : Int × Int × Nat) : Nat := if (k_eqi a.2.1 0 && k_eqi b.2.1 0) = true then (if k_le (a.1 + 1) b.1 = true then 2 else if k_eqi a.1 b.1 = true then 1 else 0) else match θ[a.2.2]?, par[np + b.2.2]? with
  | some oa, some ob => match k_ivl env oa, k_ivl env ob with
    | some p, some q => if k_eqi a.2.1 b.2.1 = true then
        (if (k_oe (k_nrm oa rel).1 (k_nrm ob rel).1 && k_le (a.1 + a.2.1 * (k_nrm oa rel).2 + 1) (b.1 + b.2.1 * (k_nrm ob rel).2)) = true then 2
        else if (k_oe (k_nrm oa rel).1 (k_nrm ob rel).1 && k_eqi (a.1 + a.2.1 * (k_nrm oa rel).2) (b.1 + b.2.1 * (k_nrm ob rel).2)) = true then 1
        else if (k_eqi a.2.1 1 && k_le (a.1 + p.2 + 1) (b.1 + q.1)) = true then 2
        else if (k_eqi a.2.1 (-1) && k_le (a.1 - p.1 + 1) (b.1 - q.2)) = true then 2 else 0) else 0
    | _, _ => 0
  | _, _ => 0
theorem k_mc_ok {τ : kTau} {ρ : Nat → Option Value} {env : List (Nat × kInfo)} {rel : List (Nat × Nat × Nat × Nat × Int)} {θ par : List kOp} {np : Nat} {a b : Int × Int × Nat} {va vb : Option Value} (he : k_env τ ρ env) (hr : ∀ q ∈ rel, k_rel ρ q) (hva : ∀ o, θ[a.2.2]? = some o → k_v ρ o = va) (hvb : ∀ o, par[np + b.2.2]? = some o → k_v ρ o = vb) :
    (k_mc env rel θ par np a b = 2 → a.1 + a.2.1 * k_iv va < b.1 + b.2.1 * k_iv vb) ∧ (k_mc env rel θ par np a b = 1 → a.1 + a.2.1 * k_iv va = b.1 + b.2.1 * k_iv vb) := by
  unfold k_mc
  split
  · rename_i z
    rw [Bool.and_eq_true, k_eqi_iff, k_eqi_iff] at z
    rw [z.1, z.2, Int.zero_mul, Int.zero_mul]
    split
    · rename_i c
      rw [k_le_iff] at c
      exact ⟨fun _ => by omega, (fun z => by cases z)⟩
    · split
      · rename_i c
        rw [k_eqi_iff] at c
        exact ⟨(fun z => by cases z), fun _ => by omega⟩
      · exact ⟨(fun z => by cases z), (fun z => by cases z)⟩
  split
  · rename_i oa ob h1 h2
    split
    · rename_i p q hp hq
      obtain ⟨x, x1, x2⟩ := k_ivl_ok he hp
      obtain ⟨y, y1, y2⟩ := k_ivl_ok he hq
      have ea : va = some (.int x) := (hva oa h1).symm.trans x1
      have eb : vb = some (.int y) := (hvb ob h2).symm.trans y1
      subst ea
      subst eb
      show (_ → a.1 + a.2.1 * x.toInt < b.1 + b.2.1 * y.toInt) ∧ (_ → a.1 + a.2.1 * x.toInt = b.1 + b.2.1 * y.toInt)
      obtain ⟨x', nx1, nx2⟩ := k_nrm_ok x1 hr
      obtain ⟨y', ny1, ny2⟩ := k_nrm_ok y1 hr
      split
      · rename_i c
        rw [k_eqi_iff] at c
        have same : k_oe (k_nrm oa rel).1 (k_nrm ob rel).1 = true → x' = y' := fun z => by
          rw [k_oe_ok z, ny1] at nx1
          exact (Value.int.inj (Option.some.inj nx1)).symm
        split
        · rename_i d
          rw [Bool.and_eq_true, k_le_iff] at d
          refine ⟨fun _ => ?_, (fun z => by cases z)⟩
          have hxy := same d.1
          rw [nx2, ny2, hxy, c, Int.mul_add, Int.mul_add]
          rw [c] at d
          omega
        · split
          · rename_i d
            rw [Bool.and_eq_true, k_eqi_iff] at d
            refine ⟨(fun z => by cases z), fun _ => ?_⟩
            have hxy := same d.1
            rw [nx2, ny2, hxy, c, Int.mul_add, Int.mul_add]
            rw [c] at d
            omega
          · split
            · rename_i d
              rw [Bool.and_eq_true, k_eqi_iff, k_le_iff] at d
              refine ⟨fun _ => ?_, (fun z => by cases z)⟩
              have i1 := x2.2
              have i2 := y2.1
              rw [← c, d.1]
              omega
            · split
              · rename_i d
                rw [Bool.and_eq_true, k_eqi_iff, k_le_iff] at d
                refine ⟨fun _ => ?_, (fun z => by cases z)⟩
                have i1 := x2.1
                have i2 := y2.2
                rw [← c, d.1]
                omega
              · exact ⟨(fun z => by cases z), (fun z => by cases z)⟩
      · exact ⟨(fun z => by cases z), (fun z => by cases z)⟩
    · exact ⟨(fun z => by cases z), (fun z => by cases z)⟩
  · exact ⟨(fun z => by cases z), (fun z => by cases z)⟩
def k_ml (env : List (Nat × kInfo)) (rel : List (Nat × Nat × Nat × Nat × Int)) (θ par : List kOp) (np : Nat) : List (Int × Int × Nat) → List (Int × Int × Nat) → Bool
  | a :: as, b :: bs => match k_mc env rel θ par np a b with
    | 2 => true
    | 1 => k_ml env rel θ par np as bs
    | _ => false
  | _, _ => false
/-- does the state come to the head A: by the head's own words; with a measure below that where one set out -/
def k_ent (TT : List kDesc) (np : Nat) (ms : Option (List (Int × Int × Nat))) (A : kAnn) (σ : kSt) : Bool := match k_bind TT A.1 [] σ with
  | some (θ, (_, env, loc, [], ff, rel, _, g, par)) => ((Nat.beq θ.length A.2.1.length && k_args env θ A.2.1) && (A.2.2.1.all (fun q => match k_loc loc q.1, k_sb θ q.2 with
      | some o, some o' => k_oe o o'
      | _, _ => false) && A.2.2.2.1.all (fun q => match θ[q.1]?, k_sb θ q.2.2 with
      | some (.inl s), some o' => match k_fct ff s q.2.1 with
        | some o => k_oe o o'
        | none => false
      | _, _ => false))) && ((k_sub1 A.2.2.2.2.1 g && (k_pq θ A.2.2.2.2.2.1 par && Nat.beq A.2.2.2.2.2.1.length np)) && (match ms with
      | none => true
      | some ms => k_ml env rel θ par np A.2.2.2.2.2.2 ms && Nat.beq A.2.2.2.2.2.2.length ms.length))
  | _ => false
theorem k_args_at {τ : kTau} {ρ : Nat → Option Value} {env : List (Nat × kInfo)} (he : k_env τ ρ env) : ∀ {ops : List kOp} {xs : List kInfo}, k_args env ops xs = true → ∀ (i : Nat) (x : kInfo), xs[i]? = some x → ∃ (o : kOp) (v : Value), ops[i]? = some o ∧ k_v ρ o = some v ∧ k_ok τ x v
  | [], [], _, i, x, h => by simp at h
  | o :: r, x :: s, e, i, y, h => by
    unfold k_args at e
    rw [Bool.and_eq_true] at e
    cases i with
    | zero =>
      simp at h
      subst h
      obtain ⟨v, v1, v2⟩ := k_has_ok he e.1
      exact ⟨o, v, by simp, v1, v2⟩
    | succ i =>
      obtain ⟨o', v, h1, h2, h3⟩ := k_args_at he e.2 i y (by simpa using h)
      exact ⟨o', v, by simpa using h1, h2, h3⟩
  | [], x :: s, e, _, _, _ => by cases e
  | o :: r, [], e, _, _, _ => by cases e
/-- a head is come to: its own state holds, its symbols' values are those of θ; the measure is below -/
theorem k_ent_ok {E : kE} {nL : Nat} {τ : kTau} {ps vs : List Value} {ρ : Nat → Option Value} {H : Heap} {ls : Array Slot} {st : List Value} {A : kAnn} {σ : kSt} {ms : Option (List (Int × Int × Nat))} (hE : k_Eok E) (hH : k_HT E τ H) (hps : ∀ (i : Nat) (w : Value), vs[i]? = some w → i < ps.length → ps[i]? = some w) (hR : k_R E nL τ vs ρ H ls st σ) (e : k_ent E.2.2.2.1 ps.length ms A σ = true) (hmr : A.2.2.2.2.2.2.all (k_mr A.2.1) = true) :
    st = [] ∧ ∃ ρ', k_R E nL τ ps ρ' H ls [] (k_hst0 A) ∧ ∀ hv : List Value, hv.length = A.2.1.length → (∀ i w, hv[i]? = some w → ρ' i = some w) → ∀ m, ms = some m → k_lexP (A.2.2.2.2.2.2.map (k_mval hv)) (m.map (k_mval (vs.drop ps.length))) ∧ A.2.2.2.2.2.2.length = m.length := by
  unfold k_ent at e
  split at e
  · rename_i θ n env loc ff rel len g par hb
    obtain ⟨ρ', hR'⟩ := k_bind_ok hE hH hR hb
    rw [Bool.and_eq_true, Bool.and_eq_true, Bool.and_eq_true, Bool.and_eq_true, Bool.and_eq_true, Bool.and_eq_true, Bool.and_eq_true, List.all_eq_true, List.all_eq_true, k_sub1_iff] at e
    obtain ⟨⟨⟨e1, e2⟩, e3, e4⟩, ⟨e5, e6, e6'⟩, e7⟩ := e
    have e1 := Nat.eq_of_beq_eq_true e1
    have e6' := Nat.eq_of_beq_eq_true e6'
    have he := k_envR hR'
    have hst : st = [] := by
      have : ([] : List kOp).map (k_v ρ') = st.map some := hR'.2.2.2.1
      simpa using this.symm
    have hinf := k_args_at he e2
    have hpar : par.map (k_v ρ') = vs.map some := hR'.2.2.2.2.2.2.2.2
    refine ⟨hst, k_hv ρ' θ, ?_, ?_⟩
    · refine ⟨fun i hi => ?_, fun q hq => ?_, ⟨hR'.2.2.1.1, hR'.2.2.1.2.1, fun q hq => ?_⟩, rfl, fun q hq => ?_, (fun q hq => by cases hq), (fun q hq => by cases hq), fun i hi => hR'.2.2.2.2.2.2.2.1 i (e5 i hi), k_pq_ok e6 hpar (by rw [e6']) hps⟩
      · show (θ[i]?).bind _ = none
        rw [List.getElem?_eq_none (by omega)]
        rfl
      · obtain ⟨-, h2⟩ := k_zip_mem hq
        rw [Nat.sub_zero] at h2
        obtain ⟨o, v, h3, h4, h5⟩ := hinf _ _ h2
        exact ⟨v, by show (θ[q.1]?).bind _ = _; rw [h3]; exact h4, h5⟩
      · have := e3 q hq
        split at this
        · rename_i o o' h1 h2
          obtain ⟨v, v1, v2⟩ := k_loc_ok hR'.2.2.1.2.2 h1
          exact ⟨v, by rw [k_sb_v h2, ← k_oe_ok this]; exact v1, v2⟩
        · cases this
      · have := e4 q hq
        split at this
        · rename_i s o' h1 h2
          split at this
          · rename_i o h3
            obtain ⟨a, t, d, v, g1, g2, g3, g4, g5, g6⟩ := hR'.2.2.2.2.1 _ (k_fct_ok h3)
            refine ⟨a, t, d, v, ?_, g2, g3, g4, ?_, g6⟩
            · show (θ[q.1]?).bind _ = _
              rw [h1]
              exact g1
            · rw [k_sb_v h2, ← k_oe_ok this]
              exact g5
          · cases this
        · cases this
    · intro hv hl hh m hm
      subst hm
      dsimp only at e7
      rw [Bool.and_eq_true] at e7
      have e8 := Nat.eq_of_beq_eq_true e7.2
      refine ⟨?_, e8⟩
      have hhv : ∀ (i : Nat) (x : kInfo), A.2.1[i]? = some x → ∃ v, hv[i]? = some v ∧ k_ok τ x v := by
        intro i x hi
        have hil : i < A.2.1.length := (List.getElem?_eq_some_iff.mp hi).1
        obtain ⟨o, v, h3, h4, h5⟩ := hinf i x hi
        have hw : hv[i]? = some hv[i] := List.getElem?_eq_getElem (by omega)
        have := hh i _ hw
        have h6 : k_hv ρ' θ i = some v := by show (θ[i]?).bind _ = _; rw [h3]; exact h4
        rw [h6] at this
        have : v = hv[i] := Option.some.inj this
        subst this
        exact ⟨_, hw, h5⟩
      have hva : ∀ (a : Int × Int × Nat) o, θ[a.2.2]? = some o → k_v ρ' o = hv[a.2.2]? := by
        intro a o ho
        have hil : a.2.2 < θ.length := (List.getElem?_eq_some_iff.mp ho).1
        have hw : hv[a.2.2]? = some hv[a.2.2] := List.getElem?_eq_getElem (by omega)
        have := hh _ _ hw
        have h6 : k_hv ρ' θ a.2.2 = k_v ρ' o := by show (θ[a.2.2]?).bind _ = _; rw [ho]; rfl
        rw [hw, ← this, h6]
      have hvb : ∀ (b : Int × Int × Nat) o, par[ps.length + b.2.2]? = some o → k_v ρ' o = (vs.drop ps.length)[b.2.2]? := by
        intro b o ho
        obtain ⟨w, w1, w2⟩ := k_map_get2 hpar ho
        rw [List.getElem?_drop, w1, w2]
      have hmr' := List.all_eq_true.mp hmr
      have gen : ∀ (as bs : List (Int × Int × Nat)), (∀ a ∈ as, k_mr A.2.1 a = true) → k_ml env rel θ par ps.length as bs = true → k_lexP (as.map (k_mval hv)) (bs.map (k_mval (vs.drop ps.length))) := by
        intro as
        induction as with
        | nil => intro bs _ h; cases bs <;> cases h
        | cons a as ih =>
          intro bs hma h
          cases bs with
          | nil => cases h
          | cons b bs =>
            unfold k_ml at h
            have hc := k_mc_ok (a := a) (b := b) (np := ps.length) (va := hv[a.2.2]?) (vb := (vs.drop ps.length)[b.2.2]?) he (k_relR hR') (hva a) (hvb b)
            have hge := k_mr_ok (hma a List.mem_cons_self) hhv
            simp only [List.map_cons]
            split at h
            · rename_i z
              left
              have := hc.1 z
              unfold k_mval
              omega
            · rename_i z
              right
              have := hc.2 z
              refine ⟨?_, ih bs (fun x hx => hma x (List.mem_cons_of_mem _ hx)) h⟩
              unfold k_mval
              rw [this]
            · cases h
      exact gen _ _ hmr' e7.1
  · cases e
/-- a head's own walk -/
def k_hd (TT : List kDesc) (GS : Nat → List (Nat × Nat)) (M : kM) (f : Nat) (q : Nat × kAnn) : Bool := (q.2.2.2.2.2.2.2.all (k_mr q.2.2.1) && Nat.beq q.2.2.2.2.2.2.1.length M.2.2.2.2.2.1.1.length) && (match k_step TT GS M q.1 (k_hst q.2) with
  | some l => l.all (fun p => k_run TT GS M (k_ent TT M.2.2.2.2.2.1.1.length (some q.2.2.2.2.2.2.2)) f p.1 p.2)
  | none => false)
theorem k_heads {X : kX} {E : kE} {τ : kTau} {M : kM} {ps : List Value} {cc : ByteArray} {own : String} {f : Nat} (hy : k_Hy X E τ M ps cc own) (hh : ∀ q ∈ M.2.2.2.2.2.2.2.2.1, k_hd E.2.2.2.1 E.2.2.2.2.2.2 M f q = true) :
    ∀ (N : Nat) (q : Nat × kAnn), q ∈ M.2.2.2.2.2.2.2.2.1 → ∀ (ρ : Nat → Option Value) (H : Heap) (locs : List Loc) (ls : Array Slot) (hv : List Value), k_HT E τ H → k_wk E τ M.2.2.2.2.2.1.2.2.2.1 X.2.2.2.2.1.heap H locs → k_R E M.2.2.2.2.2.2.2.1 τ ps ρ H ls [] (k_hst0 q.2) → hv.length = q.2.2.1.length → (∀ i w, hv[i]? = some w → ρ i = some w) → k_num (q.2.2.2.2.2.2.2.map (k_mval hv)) < N → kw X H locs q.1 ls [] := by
  have hE := hy.2.2.2.2.2.2.1
  have hl : ps.length = M.2.2.2.2.2.1.1.length := hy.2.2.2.2.2.2.2.2.2.2.2.2
  intro N
  induction N with
  | zero => intro q _ ρ H locs ls hv _ _ _ _ _ h; exact absurd h (Nat.not_lt_zero _)
  | succ N ih =>
    intro q hq ρ H locs ls hv hH hW hR hvl hvv hN
    have hb := hh q hq
    unfold k_hd at hb
    rw [Bool.and_eq_true, Bool.and_eq_true] at hb
    obtain ⟨⟨b1, b1'⟩, b2⟩ := hb
    have b1' := Nat.eq_of_beq_eq_true b1'
    split at b2
    · rename_i l hst
      rw [List.all_eq_true] at b2
      have hR2 : k_R E M.2.2.2.2.2.2.2.1 τ (ps ++ hv) ρ H ls [] (k_hst q.2) := by
        obtain ⟨k1, k2, k3, k4, k5, k6, k7, k8, k9⟩ := hR
        refine ⟨k1, k2, k3, k4, k5, k6, k7, k8, ?_⟩
        rw [List.map_append, List.map_append, k9, k_seq_map (b := 0) hvl (fun i w hi => by rw [Nat.zero_add]; exact hvv i w hi)]
      have hps : ∀ (i : Nat) (w : Value), (ps ++ hv)[i]? = some w → i < ps.length → ps[i]? = some w := fun i w h1 h2 => by rw [List.getElem?_append_left h2] at h1; exact h1
      refine k_step_ok hy hps hst (fun p hp => k_run_ok hy hps (fun pc A σ hA hent => ?_) f p.1 p.2 (b2 p hp)) ρ H locs ls [] hH hW hR2
      intro ρ2 H2 locs2 ls2 st2 hH2 hW2 hR3
      have hA2 := hh _ hA
      unfold k_hd at hA2
      rw [Bool.and_eq_true, Bool.and_eq_true] at hA2
      have hmr := hA2.1.1
      obtain ⟨h1, ρ', h2, h3⟩ := k_ent_ok (ps := ps) hE hH2 hps hR3 (by rw [hl]; exact hent) hmr
      subst h1
      have hdom : ∀ i, i < A.2.1.length → ∃ w, ρ' i = some w := by
        intro i hi
        have hz : (i, A.2.1[i]) ∈ k_zip 0 A.2.1 := by
          have gen : ∀ (xs : List kInfo) (b j : Nat) (hj : j < xs.length), (b + j, xs[j]) ∈ k_zip b xs := by
            intro xs
            induction xs with
            | nil => intro b j hj; simp at hj
            | cons x r ihx =>
              intro b j hj
              unfold k_zip
              cases j with
              | zero => simp
              | succ j =>
                refine List.mem_cons_of_mem _ ?_
                have := ihx (b + 1) j (by simpa using hj)
                rw [show b + 1 + j = b + (j + 1) by omega] at this
                simpa using this
          have := gen A.2.1 0 i hi
          rwa [Nat.zero_add] at this
        obtain ⟨v, hv1, -⟩ := h2.2.1 _ hz
        exact ⟨v, hv1⟩
      obtain ⟨hv', hv1, hv2⟩ : ∃ hv' : List Value, hv'.length = A.2.1.length ∧ ∀ i w, hv'[i]? = some w → ρ' i = some w := by
        refine ⟨(List.range A.2.1.length).map (fun i => (ρ' i).getD .null), by simp, fun i w hi => ?_⟩
        rw [List.getElem?_map] at hi
        cases hr : (List.range A.2.1.length)[i]? with
        | none => rw [hr] at hi; cases hi
        | some j =>
          rw [hr] at hi
          have hij := List.getElem?_eq_some_iff.mp hr
          obtain ⟨hlt, hji⟩ := hij
          rw [List.getElem_range] at hji
          subst hji
          have hlt' : i < A.2.1.length := by simpa using hlt
          obtain ⟨v, hv⟩ := hdom i hlt'
          have : (ρ' i).getD .null = w := Option.some.inj hi
          rw [hv] at this ⊢
          exact congrArg some this
      obtain ⟨hlex, hlen⟩ := h3 hv' hv1 hv2 _ rfl
      have hdig : ∀ d ∈ A.2.2.2.2.2.2.map (k_mval hv'), d < k_big := by
        intro d hd
        obtain ⟨m, hm, rfl⟩ := List.mem_map.mp hd
        have hh2 : ∀ (i : Nat) (x : kInfo), A.2.1[i]? = some x → ∃ v, hv'[i]? = some v ∧ k_ok τ x v := by
          intro i x hi
          have hil : i < A.2.1.length := (List.getElem?_eq_some_iff.mp hi).1
          have hw : hv'[i]? = some hv'[i] := List.getElem?_eq_getElem (by omega)
          have hz : (i, x) ∈ k_zip 0 A.2.1 := by
            have gen : ∀ (xs : List kInfo) (b j : Nat) (y : kInfo), xs[j]? = some y → (b + j, y) ∈ k_zip b xs := by
              intro xs
              induction xs with
              | nil => intro b j y hj; simp at hj
              | cons x r ihx =>
                intro b j y hj
                unfold k_zip
                cases j with
                | zero => simp at hj; subst hj; simp
                | succ j =>
                  refine List.mem_cons_of_mem _ ?_
                  have := ihx (b + 1) j y (by simpa using hj)
                  rwa [show b + 1 + j = b + (j + 1) by omega] at this
            have := gen A.2.1 0 i x hi
            rwa [Nat.zero_add] at this
          obtain ⟨v, g1, g2⟩ := h2.2.1 _ hz
          have := hv2 i _ hw
          have hvv : v = hv'[i] := Option.some.inj (g1.symm.trans this)
          subst hvv
          exact ⟨_, hw, g2⟩
        have := k_mr_ok (List.all_eq_true.mp hmr m hm) hh2
        unfold k_mval k_big
        omega
      have hdrop : (ps ++ hv).drop ps.length = hv := by simp
      rw [hdrop] at hlex
      have hlt := k_lexP_num (by simp [hlen]) hdig hlex
      exact ih (pc, A) hA ρ' H2 locs2 ls2 hv' hH2 hW2 h2 hv1 hv2 (by show k_num (A.2.2.2.2.2.2.map (k_mval hv')) < N; omega)
    · cases b2
/-- where the parameters lie at the entry -/
def k_cat : kInfo → Nat
  | .inl _ => 1
  | .inr (.inl _) => 2
  | .inr (.inr _) => 1
def k_eloc : Nat → Nat → List kInfo → List (Nat × kOp)
  | _, _, [] => []
  | j, i, x :: r => (j, .inl i) :: k_eloc (j + k_cat x) (i + 1) r
def k_words : List kInfo → Nat
  | [] => 0
  | x :: r => k_cat x + k_words r
/-- the facts that the contract gives at the entry -/
def k_pfe : List (Nat × Nat × kInfo) → List kOp → kSt → Option kSt
  | [], _, σ => some σ
  | q :: r, ops, (n, env, loc, stk, ff, rel, len, g, par) => match ops[q.1]? with
    | some o => match k_obj env o with
      | some p => k_pfe r (ops ++ [.inl n]) (n + 1, (n, q.2.2) :: env, loc, stk, (p.1, q.2.1, .inl n) :: ff, rel, len, g, par)
      | none => none
    | none => none
theorem k_pfe_ok {E : kE} {nL : Nat} {τ : kTau} {vs : List Value} {H : Heap} {ls : Array Slot} {st : List Value} : ∀ {fs : List (Nat × Nat × kInfo)} {ops : List kOp} {as : List Value} {ρ : Nat → Option Value} {σ σ' : kSt}, ops.map (k_v ρ) = as.map some → k_R E nL τ vs ρ H ls st σ → k_prF E τ H fs as → k_pfe fs ops σ = some σ' → ∃ ρ', k_R E nL τ vs ρ' H ls st σ'
  | [], ops, as, ρ, σ, σ', _, hR, _, e => by cases e; exact ⟨ρ, hR⟩
  | q :: r, ops, as, ρ, (n, env, loc, stk, ff, rel, len, g, par), σ', hm, hR, hp, e => by
    unfold k_pfe at e
    split at e
    · rename_i o ho
      split at e
      · rename_i p hp2
        obtain ⟨v, w, w1, ⟨a, t, d, g1, g2, g3, g4, g5⟩, g6, hr⟩ := hp
        obtain ⟨ho2, a', ha1, ha2⟩ := k_obj_ok (s := p.1) (t := p.2) (k_envR hR) hp2
        have hv := k_map_get hm ho w1
        subst ho2
        subst g1
        have ea : a' = a := Value.ref.inj (Option.some.inj (ha1.symm.trans hv))
        subst ea
        have hn := k_R_new0 hR g6
        have hu := k_ext_le (v := w) hR.1
        have hm2 : (ops ++ [(Sum.inl n : kOp)]).map (k_v (k_ext ρ n w)) = (as ++ [w]).map some := by
          rw [List.map_append, List.map_append, k_map_up hu hm]
          simp only [List.map_cons, List.map_nil]
          rw [show k_v (k_ext ρ n w) (.inl n) = some w from k_ext_at]
        refine k_pfe_ok hm2 ?_ hr e
        obtain ⟨k1, k2, k3, k4, k5, k6⟩ := hn
        refine ⟨k1, k2, k3, k4, fun z hz => ?_, k6⟩
        rcases List.mem_cons.mp hz with e' | e'
        · subst e'
          exact ⟨a', t, d, w, hu _ _ hv, g2, g3, g4, k_ext_at, g5⟩
        · exact k5 z e'
      · cases e
    · cases e
def k_est (K : kCtr) : Option kSt := k_pfe K.2.1 (k_seq 0 K.1.length) (K.1.length, k_zip 0 K.1, k_eloc 0 0 K.1, [], [], [], [], K.2.2.2.2.1, k_seq 0 K.1.length)
def k_check (TT : List kDesc) (GS : Nat → List (Nat × Nat)) (M : kM) (f : Nat) : Bool := Nat.ble (k_words M.2.2.2.2.2.1.1) M.2.2.2.2.2.2.2.1 && (M.2.2.2.2.2.2.2.2.1.all (k_hd TT GS M f) && (match k_est M.2.2.2.2.2.1 with
  | some σ => k_run TT GS M (k_ent TT M.2.2.2.2.2.1.1.length none) f 0 σ
  | none => false))
theorem k_cat_ok {τ : kTau} {x : kInfo} {v : Value} (h : k_ok τ x v) : k_cat x = v.category := by
  cases x with
  | inl q => obtain ⟨z, h1, -⟩ := h; subst h1; rfl
  | inr x =>
    cases x with
    | inl q => obtain ⟨z, h1, -⟩ := h; subst h1; rfl
    | inr x =>
      cases x with
      | inl q => rcases h with ⟨-, h1⟩ | ⟨a, t, h1, -⟩ <;> subst h1 <;> rfl
      | inr q => exact (show v.category = 1 from h).symm
theorem k_eloc_ok {τ : kTau} {ls : Array Slot} {ρ : Nat → Option Value} : ∀ {xs : List kInfo} {vs : List Value} {j i : Nat}, vs.length = xs.length → (∀ (k : Nat) (x : kInfo), xs[k]? = some x → ∃ v, vs[k]? = some v ∧ k_ok τ x v) → (∀ q ∈ lv_args j vs, ls[q.1]? = some (.val q.2)) → (∀ k w, vs[k]? = some w → ρ (i + k) = some w) → ∀ q ∈ k_eloc j i xs, ∃ v, k_v ρ q.2 = some v ∧ ls[q.1]? = some (.val v)
  | [], vs, j, i, _, _, _, _, q, hq => by cases hq
  | x :: xs, [], j, i, h, _, _, _, _, _ => by simp at h
  | x :: xs, v :: vs, j, i, hl, hx, hls, hρ, q, hq => by
    unfold k_eloc at hq
    unfold lv_args at hls
    rcases List.mem_cons.mp hq with e | e
    · subst e
      refine ⟨v, ?_, hls (j, v) List.mem_cons_self⟩
      have := hρ 0 v (by simp)
      show ρ i = some v
      simpa using this
    · obtain ⟨w, w1, w2⟩ := hx 0 x (by simp)
      have : w = v := by simpa using w1.symm
      subst this
      have hcat := k_cat_ok w2
      have hj : j + k_cat x = (if w.category = 2 then j + 2 else j + 1) := by
        rw [hcat]
        rcases lv_cat w with z | z
        · rw [z]; rfl
        · rw [z]; rfl
      rw [hj] at e
      refine k_eloc_ok (τ := τ) (by simpa using hl) (fun k y hk => ?_) (fun z hz => hls z (List.mem_cons_of_mem _ hz)) (fun k w' hk => ?_) q e
      · obtain ⟨u, u1, u2⟩ := hx (k + 1) y (by simpa using hk)
        exact ⟨u, by simpa using u1, u2⟩
      · have := hρ (k + 1) w' (by simpa using hk)
        rw [show i + 1 + k = i + (k + 1) by omega]
        exact this
theorem k_words_ok {τ : kTau} : ∀ {xs : List kInfo} {vs : List Value}, vs.length = xs.length → (∀ (k : Nat) (x : kInfo), xs[k]? = some x → ∃ v, vs[k]? = some v ∧ k_ok τ x v) → (lg_sl vs).length = k_words xs
  | [], vs, h, _ => by
    cases vs with
    | nil => rfl
    | cons a r => simp at h
  | x :: xs, [], h, _ => by simp at h
  | x :: xs, v :: vs, hl, hx => by
    obtain ⟨w, w1, w2⟩ := hx 0 x (by simp)
    have : w = v := by simpa using w1.symm
    subst this
    have hcat := k_cat_ok w2
    have ih := k_words_ok (xs := xs) (vs := vs) (by simpa using hl) (fun k y hk => by
      obtain ⟨u, u1, u2⟩ := hx (k + 1) y (by simpa using hk)
      exact ⟨u, by simpa using u1, u2⟩)
    unfold k_words
    rw [hcat, ← ih]
    have : lg_sl (w :: vs) = (if w.category = 2 then [.val w, .second] else [.val w]) ++ lg_sl vs := by simp [lg_sl]
    rw [this, List.length_append]
    rcases lv_cat w with z | z
    · rw [z]; simp
    · rw [z]; simp
/-- the walk of a whole method from its entry -/
theorem k_entry {X : kX} {E : kE} {τ : kTau} {M : kM} {ps : List Value} {cc : ByteArray} {own : String} {f : Nat} (hy : k_Hy X E τ M ps cc own) (hc : k_check E.2.2.2.1 E.2.2.2.2.2.2 M f = true) (hH : k_HT E τ X.2.2.2.2.1.heap) (hpre : k_pre E τ X.2.2.2.2.1.heap M.2.2.2.2.2.1 ps) :
    W X.1 X.2.1 X.2.2.1 X.2.2.2.1 X.2.2.2.2.1 X.2.2.2.2.2.1 X.2.2.2.2.2.2.1 X.2.2.2.2.2.2.2.1 X.2.2.2.2.2.2.2.2.1 X.2.2.2.2.2.2.2.2.2.1 X.2.2.2.2.1.heap [] 0 0 X.2.2.2.2.2.2.2.2.2.2 (entryFrame X.2.2.2.2.2.1 ps.toArray M.2.2.2.2.2.2.2.1) := by
  unfold k_check at hc
  rw [Bool.and_eq_true, Bool.and_eq_true, List.all_eq_true] at hc
  obtain ⟨c1, c2, c3⟩ := hc
  have c1 := Nat.le_of_ble_eq_true c1
  obtain ⟨p1, p2, p3, p4⟩ := hpre
  have hE := hy.2.2.2.2.2.2.1
  have hw := k_words_ok p1 p2
  have hl := lv_entry ps (n := M.2.2.2.2.2.2.2.1) (by rw [hw]; exact c1)
  rw [lg_entry_eq]
  generalize (lg_sl ps ++ List.replicate (M.2.2.2.2.2.2.2.1 - (lg_sl ps).length) Slot.unset).toArray = ls at hl ⊢
  split at c3
  · rename_i σ hσ
    have hbase : k_R E M.2.2.2.2.2.2.2.1 τ ps (fun i => ps[i]?) X.2.2.2.2.1.heap ls [] (M.2.2.2.2.2.1.1.length, k_zip 0 M.2.2.2.2.2.1.1, k_eloc 0 0 M.2.2.2.2.2.1.1, [], [], [], [], M.2.2.2.2.2.1.2.2.2.2.1, k_seq 0 M.2.2.2.2.2.1.1.length) := by
      refine ⟨fun i hi => List.getElem?_eq_none (by omega), fun q hq => ?_, ⟨hl.1, hl.2.1, k_eloc_ok (i := 0) p1 p2 hl.2.2 (fun k w hk => by rw [Nat.zero_add]; exact hk)⟩, rfl, (fun q hq => by cases hq), (fun q hq => by cases hq), (fun q hq => by cases hq), p4, k_seq_map p1 (fun i w hi => by rw [Nat.zero_add]; exact hi)⟩
      obtain ⟨-, h2⟩ := k_zip_mem hq
      rw [Nat.sub_zero] at h2
      exact p2 _ _ h2
    obtain ⟨ρ, hR⟩ := k_pfe_ok (as := ps) (k_seq_map p1 (fun i w hi => by rw [Nat.zero_add]; exact hi)) hbase p3 hσ
    have hps : ∀ (i : Nat) (w : Value), ps[i]? = some w → i < ps.length → ps[i]? = some w := fun _ _ h _ => h
    refine k_run_ok hy hps (fun pc A σ' hA hent => ?_) f 0 σ c3 ρ _ [] ls [] hH ⟨k_fr_refl, fun _ h => by cases h⟩ hR
    intro ρ2 H2 locs2 ls2 st2 hH2 hW2 hR3
    have hA2 := c2 _ hA
    unfold k_hd at hA2
    rw [Bool.and_eq_true, Bool.and_eq_true] at hA2
    have hlen : ps.length = M.2.2.2.2.2.1.1.length := p1
    obtain ⟨h1, ρ', h2, -⟩ := k_ent_ok (ps := ps) hE hH2 hps hR3 (by rw [hlen]; exact hent) hA2.1.1
    subst h1
    have hdom : ∀ i, i < A.2.1.length → ∃ w, ρ' i = some w := by
      intro i hi
      have gen : ∀ (xs : List kInfo) (b j : Nat) (hj : j < xs.length), (b + j, xs[j]) ∈ k_zip b xs := by
        intro xs
        induction xs with
        | nil => intro b j hj; simp at hj
        | cons x r ihx =>
          intro b j hj
          unfold k_zip
          cases j with
          | zero => simp
          | succ j =>
            refine List.mem_cons_of_mem _ ?_
            have := ihx (b + 1) j (by simpa using hj)
            rw [show b + 1 + j = b + (j + 1) by omega] at this
            simpa using this
      have hz := gen A.2.1 0 i hi
      rw [Nat.zero_add] at hz
      obtain ⟨v, hv1, -⟩ := h2.2.1 _ hz
      exact ⟨v, hv1⟩
    refine k_heads hy c2 _ (pc, A) hA ρ' H2 locs2 ls2 ((List.range A.2.1.length).map (fun i => (ρ' i).getD .null)) hH2 hW2 h2 (by simp) (fun i w hi => ?_) (Nat.lt_succ_self _)
    rw [List.getElem?_map] at hi
    cases hr : (List.range A.2.1.length)[i]? with
    | none => rw [hr] at hi; cases hi
    | some j =>
      rw [hr] at hi
      obtain ⟨hlt, hji⟩ := List.getElem?_eq_some_iff.mp hr
      rw [List.getElem_range] at hji
      subst hji
      obtain ⟨v, hv⟩ := hdom i (by simpa using hlt)
      have : (ρ' i).getD .null = w := Option.some.inj hi
      rw [hv] at this ⊢
      exact congrArg some this
  · cases c3
