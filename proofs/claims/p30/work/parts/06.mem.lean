/-! ===== steps on the heap ===== -/
section KM
variable {X : kX} {E : kE} {nL : Nat} {τ : kTau} {vs : List Value} {mods : List (Nat × Nat)} {H0 : Heap} {cc : ByteArray} {own : String} {pc : Nat}
variable {ρ : Nat → Option Value} {H : Heap} {locs : List Loc} {ls : Array Slot} {st : List Value} {n : Nat} {env : List (Nat × kInfo)} {loc : List (Nat × kOp)} {stk : List kOp} {ff : List (Nat × Nat × kOp)} {rel : List (Nat × Nat × Nat × Nat × Int)} {len : List (Nat × Nat × kOp)} {g : List Nat} {par : List kOp}
theorem k_fct_ok {s k : Nat} {o : kOp} : ∀ {ff : List (Nat × Nat × kOp)}, k_fct ff s k = some o → (s, k, o) ∈ ff
  | [], e => by cases e
  | q :: r, e => by
    unfold k_fct at e
    split at e
    · rename_i z
      rw [Bool.and_eq_true] at z
      cases e
      rw [← Nat.eq_of_beq_eq_true z.1, ← Nat.eq_of_beq_eq_true z.2]
      exact List.mem_cons_self
    · exact List.mem_cons_of_mem _ (k_fct_ok e)
def k_join : kInfo → kInfo → Option kInfo
  | .inl p, .inl q => some (.inl (k_min p.1 q.1, k_max p.2 q.2))
  | .inr (.inl p), .inr (.inl q) => some (.inr (.inl (k_min p.1 q.1, k_max p.2 q.2)))
  | .inr (.inr (.inl p)), .inr (.inr (.inl q)) => some (.inr (.inr (.inl (p.1 || q.1, p.2 ++ q.2))))
  | _, _ => none
theorem k_min_l (a b : Int) : k_min a b ≤ a := by
  unfold k_min; split
  · exact Int.le_refl _
  · rename_i h
    have : ¬ a ≤ b := fun z => h (k_le_iff.mpr z)
    omega
theorem k_min_r (a b : Int) : k_min a b ≤ b := by
  unfold k_min; split
  · rename_i h; exact k_le_iff.mp h
  · exact Int.le_refl _
theorem k_max_l (a b : Int) : a ≤ k_max a b := by
  unfold k_max; split
  · rename_i h; exact k_le_iff.mp h
  · exact Int.le_refl _
theorem k_max_r (a b : Int) : b ≤ k_max a b := by
  unfold k_max; split
  · exact Int.le_refl _
  · rename_i h
    have : ¬ a ≤ b := fun z => h (k_le_iff.mpr z)
    omega
theorem k_join_l {x y z : kInfo} {v : Value} (e : k_join x y = some z) (h : k_ok τ x v) : k_ok τ z v := by
  unfold k_join at e
  split at e
  · rename_i p q
    cases e
    obtain ⟨w, h1, h2⟩ := h
    exact ⟨w, h1, Int.le_trans (k_min_l _ _) h2.1, Int.le_trans h2.2 (k_max_l _ _)⟩
  · rename_i p q
    cases e
    obtain ⟨w, h1, h2⟩ := h
    exact ⟨w, h1, Int.le_trans (k_min_l _ _) h2.1, Int.le_trans h2.2 (k_max_l _ _)⟩
  · rename_i p q
    cases e
    rcases h with ⟨h1, h2⟩ | ⟨a, t, h1, h2, h3⟩
    · exact Or.inl ⟨by show (p.1 || q.1) = true; rw [h1]; rfl, h2⟩
    · exact Or.inr ⟨a, t, h1, List.mem_append_left _ h2, h3⟩
  · cases e
theorem k_join_r {x y z : kInfo} {v : Value} (e : k_join x y = some z) (h : k_ok τ y v) : k_ok τ z v := by
  unfold k_join at e
  split at e
  · rename_i p q
    cases e
    obtain ⟨w, h1, h2⟩ := h
    exact ⟨w, h1, Int.le_trans (k_min_r _ _) h2.1, Int.le_trans h2.2 (k_max_r _ _)⟩
  · rename_i p q
    cases e
    obtain ⟨w, h1, h2⟩ := h
    exact ⟨w, h1, Int.le_trans (k_min_r _ _) h2.1, Int.le_trans h2.2 (k_max_r _ _)⟩
  · rename_i p q
    cases e
    rcases h with ⟨h1, h2⟩ | ⟨a, t, h1, h2, h3⟩
    · exact Or.inl ⟨by show (p.1 || q.1) = true; rw [h1]; cases p.1 <;> rfl, h2⟩
    · exact Or.inr ⟨a, t, h1, List.mem_append_right _ h2, h3⟩
  · cases e
/-- what places lo to hi of an array have in common -/
def k_elr (d : kInfo) (lo hi : Nat) : List (Nat × Nat × kInfo) → Option kInfo
  | [] => some d
  | q :: r => if (Nat.ble q.1 lo && Nat.ble hi q.2.1) = true then some q.2.2 else if (Nat.blt hi q.1 || Nat.blt q.2.1 lo) = true then k_elr d lo hi r else match k_elr d lo hi r with
    | some y => k_join q.2.2 y
    | none => none
theorem k_elr_ok {d : kInfo} {lo hi j : Nat} {v : Value} (h1 : lo ≤ j) (h2 : j ≤ hi) : ∀ {exc : List (Nat × Nat × kInfo)} {x : kInfo}, k_elr d lo hi exc = some x → k_ok τ (k_el exc d j) v → k_ok τ x v
  | [], x, e, h => by cases e; exact h
  | q :: r, x, e, h => by
    unfold k_elr at e
    unfold k_el at h
    split at e
    · rename_i c
      rw [Bool.and_eq_true] at c
      have c1 := Nat.le_of_ble_eq_true c.1
      have c2 := Nat.le_of_ble_eq_true c.2
      cases e
      rw [if_pos (by rw [Bool.and_eq_true]; exact ⟨Nat.ble_eq_true_of_le (by omega), Nat.ble_eq_true_of_le (by omega)⟩)] at h
      exact h
    · split at e
      · rename_i c
        rw [Bool.or_eq_true] at c
        rw [if_neg (by
          rw [Bool.and_eq_true]
          rintro ⟨z1, z2⟩
          have z1 := Nat.le_of_ble_eq_true z1
          have z2 := Nat.le_of_ble_eq_true z2
          rcases c with c | c
          · have := Nat.le_of_ble_eq_true (show Nat.ble (hi + 1) q.1 = true from c)
            omega
          · have := Nat.le_of_ble_eq_true (show Nat.ble (q.2.1 + 1) lo = true from c)
            omega)] at h
        exact k_elr_ok h1 h2 e h
      · split at e
        · rename_i y hy
          split at h
          · exact k_join_l e h
          · exact k_join_r e (k_elr_ok h1 h2 hy h)
        · cases e
/-- a value that each of the places lo to hi takes -/
def k_elw (d : kInfo) (lo hi : Nat) (x : kInfo) : List (Nat × Nat × kInfo) → Bool
  | [] => k_isub x d
  | q :: r => if (Nat.ble q.1 lo && Nat.ble hi q.2.1) = true then k_isub x q.2.2 else if (Nat.blt hi q.1 || Nat.blt q.2.1 lo) = true then k_elw d lo hi x r else k_isub x q.2.2 && k_elw d lo hi x r
theorem k_elw_ok {d : kInfo} {lo hi j : Nat} {v : Value} {x : kInfo} (h1 : lo ≤ j) (h2 : j ≤ hi) (h : k_ok τ x v) : ∀ {exc : List (Nat × Nat × kInfo)}, k_elw d lo hi x exc = true → k_ok τ (k_el exc d j) v
  | [], e => k_isub_ok e h
  | q :: r, e => by
    unfold k_elw at e
    unfold k_el
    split at e
    · rename_i c
      rw [Bool.and_eq_true] at c
      have c1 := Nat.le_of_ble_eq_true c.1
      have c2 := Nat.le_of_ble_eq_true c.2
      rw [if_pos (by rw [Bool.and_eq_true]; exact ⟨Nat.ble_eq_true_of_le (by omega), Nat.ble_eq_true_of_le (by omega)⟩)]
      exact k_isub_ok e h
    · split at e
      · rename_i c
        rw [Bool.or_eq_true] at c
        rw [if_neg (by
          rw [Bool.and_eq_true]
          rintro ⟨z1, z2⟩
          have z1 := Nat.le_of_ble_eq_true z1
          have z2 := Nat.le_of_ble_eq_true z2
          rcases c with c | c
          · have := Nat.le_of_ble_eq_true (show Nat.ble (hi + 1) q.1 = true from c)
            omega
          · have := Nat.le_of_ble_eq_true (show Nat.ble (q.2.1 + 1) lo = true from c)
            omega)]
        exact k_elw_ok h1 h2 h e
      · rw [Bool.and_eq_true] at e
        split
        · exact k_isub_ok e.1 h
        · exact k_elw_ok h1 h2 h e.2
def k_tys (E : kE) : Prop := ∀ (ai : Nat) (cA : ClassId) (ty : FieldType), E.2.2.1[ai]? = some (cA, ty) → (ai = 0 → ty = .int) ∧ (ai = 1 → ty = .byte) ∧ (ai = 2 → ty = .boolean) ∧ (ai = 3 → ty = .long) ∧ (4 ≤ ai → ty.isReference = true)
def k_oe0 (o : kOp) (s : Nat) : Bool := match o with
  | .inl a => Nat.beq a s
  | .inr _ => false
theorem k_oe0_ok {o : kOp} {s : Nat} (h : k_oe0 o s = true) : o = .inl s := by
  unfold k_oe0 at h
  split at h
  · rw [Nat.eq_of_beq_eq_true h]
  · cases h
/-- is the index within: by its bounds, or by a comparing with the length -/
def k_inb (l0 : Nat) (q : kB) (s : Nat) (oi : kOp) (rel : List (Nat × Nat × Nat × Nat × Int)) (len : List (Nat × Nat × kOp)) : Bool := k_le 0 q.1 && (k_le (q.2 + 1) (l0 : Int) || (match oi with
  | .inl a => len.any (fun p => (Nat.beq p.1 s && Nat.beq p.2.1 0) && rel.any (fun r => Nat.beq r.1 1 && (Nat.beq r.2.1 a && k_oe0 p.2.2 r.2.2.1)))
  | .inr _ => false))
theorem k_inb_ok {l0 m s : Nat} {q : kB} {oi : kOp} {a : Nat} {cA : ClassId} {f : Nat → Value} {x : Int32} (hR : k_R E nL τ vs ρ H ls st (n, env, loc, stk, ff, rel, len, g, par)) (e : k_inb l0 q s oi rel len = true) (hs : ρ s = some (.ref a)) (hc : H[a]? = some (arrV cA m f)) (hl : l0 ≤ m) (hx : k_v ρ oi = some (.int x)) (hq : k_in q x.toInt) : 0 ≤ x.toInt ∧ x.toInt < (m : Int) := by
  unfold k_inb at e
  rw [Bool.and_eq_true, Bool.or_eq_true, k_le_iff, k_le_iff] at e
  have h1 := hq.1
  have h2 := hq.2
  refine ⟨by omega, ?_⟩
  rcases e.2 with z | z
  · omega
  · split at z
    · rename_i b
      rw [List.any_eq_true] at z
      obtain ⟨p, hp, z⟩ := z
      rw [Bool.and_eq_true, Bool.and_eq_true, List.any_eq_true] at z
      obtain ⟨⟨z1, z0⟩, r, hr, z2⟩ := z
      rw [Bool.and_eq_true, Bool.and_eq_true] at z2
      have e1 := Nat.eq_of_beq_eq_true z1
      have e0 := Nat.eq_of_beq_eq_true z0
      have e2 := Nat.eq_of_beq_eq_true z2.1
      have e3 := Nat.eq_of_beq_eq_true z2.2.1
      have e4 := k_oe0_ok z2.2.2
      obtain ⟨a', t', d', cA', m', f', v', g1, g2, g3, g4, g5, g6, -⟩ := hR.2.2.2.2.2.2.1 p hp
      obtain ⟨y', rfl, g6⟩ := g6 e0
      obtain ⟨x1, y1, j1, j2, j3⟩ := (k_relR hR r hr).2.1 e2
      rw [e1, hs] at g1
      have ea : a = a' := Value.ref.inj (Option.some.inj g1)
      subst ea
      rw [hc] at g4
      have em : m = m' := by
        have := congrArg (fun c : Cell => c.slots.size) (Option.some.inj g4)
        simpa [arrV_size] using this
      subst em
      rw [e3] at j1
      have ex : x1 = x := Value.int.inj (Option.some.inj (j1.symm.trans hx))
      subst ex
      rw [e4] at g5
      have ey : y' = y1 := Value.int.inj (Option.some.inj (g5.symm.trans j2))
      subst ey
      omega
    · cases z
theorem k_idx {x : Int32} {m : Nat} (h : 0 ≤ x.toInt ∧ x.toInt < (m : Int)) (cA : ClassId) (f : Nat → Value) : ¬ (x < 0 ∨ (arrV cA m f).slots.size ≤ x.toNatClampNeg) := by
  rw [arrV_size]
  exact vp_in_iff.mpr h
theorem k_clamp {x : Int32} (h : 0 ≤ x.toInt) : x.toNatClampNeg = x.toInt.toNat := rfl
def k_alk : Instr → Nat → Bool
  | .iaload, 0 => true
  | .baload, 1 => true
  | .baload, 2 => true
  | .laload, 3 => true
  | .aaload, _ + 4 => true
  | _, _ => false
theorem k_aldW {i : Instr} {a m : Nat} {ai : Nat} {cA : ClassId} {ty : FieldType} {f : Nat → Value} {x : Int32} (hF : k_Fx X cc nL own) (hK : va_K E.1 E.2.1 E.2.2.1 X.2.2.2.2.1) (hT : k_tys E) (hd : decode cc pc = .ok (i, 1)) (e : k_alk i ai = true) (h1 : E.2.2.1[ai]? = some (cA, ty)) (hc : H[a]? = some (arrV cA m f)) (hx : 0 ≤ x.toInt ∧ x.toInt < (m : Int))
    (k : kw X H locs (pc + 1) ls (f x.toInt.toNat :: st)) : kw X H locs pc ls (.int x :: .ref a :: st) := by
  have harr := (hK.2 ai _ h1).1 m f
  have hty := hT ai cA ty h1
  have hin := k_idx hx cA f
  have hv : (arrV cA m f).slots[x.toNatClampNeg]? = some (f x.toInt.toNat) := arrV_read cA f (by rw [k_clamp hx.1]; omega)
  unfold k_alk at e
  split at e
  · obtain ⟨rfl⟩ := hty.1 rfl
    exact W.iald hF.1 hF.2.1 hc harr (fun z => by cases z) hin hv rfl rfl hd k
  · obtain ⟨rfl⟩ := hty.2.1 rfl
    exact W.bald hF.1 hF.2.1 hc harr (fun z => by cases z) hin hv rfl rfl hd k
  · obtain ⟨rfl⟩ := hty.2.2.1 rfl
    exact W.zald hF.1 hF.2.1 hc harr (fun z => by cases z) hin hv rfl rfl hd k
  · obtain ⟨rfl⟩ := hty.2.2.2.1 rfl
    exact W.lald hF.1 hF.2.1 hc harr (fun z => by cases z) hin hv rfl rfl hd k
  · exact W.aald hF.1 hF.2.1 hc harr (hty.2.2.2.2 (by omega)) (fun z => by cases z) hin hv rfl rfl hd k
  · cases e
def k_g8 (TT : List kDesc) (pc : Nat) (i : Instr) (L : Nat) : kSt → Option (List (Nat × kSt))
  | (n, env, loc, oi :: oa :: r, ff, rel, len, g, par) => if Nat.beq L 1 = true then (match k_ivl env oi, k_obj env oa with
    | some q, some p => match TT[p.2]? with
      | some (.inr d) => if (k_alk i d.1 && k_inb d.2.1 q p.1 oi rel len) = true then (if k_eqi q.1 q.2 = true then (match k_fct len p.1 (q.1.toNat + 1) with
          | some o => some [(pc + 1, (n, env, loc, o :: r, ff, rel, len, g, par))]
          | none => match k_elr d.2.2.2.2 q.1.toNat q.2.toNat d.2.2.2.1 with
            | some x => some [(pc + 1, (n + 1, (n, x) :: env, loc, .inl n :: r, ff, rel, (p.1, q.1.toNat + 1, .inl n) :: len, g, par))]
            | none => none)
        else match k_elr d.2.2.2.2 q.1.toNat q.2.toNat d.2.2.2.1 with
        | some (.inl b) => some [(pc + 1, k_resI b [] (n, env, loc, r, ff, rel, len, g, par))]
        | some x => some [(pc + 1, (n + 1, (n, x) :: env, loc, .inl n :: r, ff, rel, len, g, par))]
        | none => none) else none
      | _ => none
    | _, _ => none) else none
  | _ => none
theorem k_g8_ok {i : Instr} {L : Nat} {σ : kSt} {l : List (Nat × kSt)} (hF : k_Fx X cc nL own) (hK : va_K E.1 E.2.1 E.2.2.1 X.2.2.2.2.1) (hT : k_tys E) (hd : decode cc pc = .ok (i, L)) (e : k_g8 E.2.2.2.1 pc i L σ = some l) (hk : ∀ q ∈ l, k_good X E nL τ vs mods H0 q.1 q.2) : k_good X E nL τ vs mods H0 pc σ := by
  unfold k_g8 at e
  split at e
  · rename_i n env loc oi oa r ff rel len g par
    intro ρ H locs ls st hH hW hR
    have he := k_envR hR
    split at e
    · rename_i y
      have y := Nat.eq_of_beq_eq_true y
      subst y
      split at e
      · rename_i q p hq hp
        split at e
        · rename_i d hd2
          split at e
          · rename_i c
            rw [Bool.and_eq_true] at c
            obtain ⟨v, rs, rfl, hv, hR2⟩ := k_pop hR
            obtain ⟨v2, rs2, rfl, hv2, hR3⟩ := k_pop hR2
            obtain ⟨x, hx1, hx2⟩ := k_ivl_ok he hq
            obtain ⟨ho, a, ha1, ha2⟩ := k_obj_ok (s := p.1) (t := p.2) he hp
            subst ho
            cases hv.symm.trans hx1
            cases hv2.symm.trans ha1
            obtain ⟨cA, ty, m, f, h1, h2, h3, h4, h5⟩ := k_arr hH ha2 hd2
            have hin := k_inb_ok hR c.2 ha1 h2 h3 hx1 hx2
            have hok := h5 x.toInt.toNat (by omega)
            have hlo : q.1.toNat ≤ x.toInt.toNat := by have := hx2.1; omega
            have hhi : x.toInt.toNat ≤ q.2.toNat := by have := hx2.2; omega
            split at e
            · rename_i hsing
              rw [k_eqi_iff] at hsing
              have hj : x.toInt.toNat = q.1.toNat := by have := hx2.1; have := hx2.2; omega
              split at e
              · rename_i o ho
                cases e
                obtain ⟨a', t', d', cA', m', f', v', g1, g2, g3, g4, g5, -, g6⟩ := hR.2.2.2.2.2.2.1 _ (k_fct_ok ho)
                have ea : a = a' := Value.ref.inj (Option.some.inj (ha1.symm.trans g1))
                subst ea
                obtain ⟨-, gf⟩ := g6 q.1.toNat rfl
                rw [h2] at g4
                have hff : f x.toInt.toNat = v' := by
                  rw [hj, ← gf]
                  have hm2 : (arrV cA m f).slots[q.1.toNat]? = (arrV cA' m' f').slots[q.1.toNat]? := by rw [Option.some.inj g4]
                  have hmm : m = m' := by
                    have := congrArg (fun c : Cell => c.slots.size) (Option.some.inj g4)
                    simpa [arrV_size] using this
                  rw [arrV_read cA f (by omega), arrV_read cA' f' (by omega)] at hm2
                  exact Option.some.inj hm2
                refine k_aldW hF hK hT hd c.1 h1 h2 hin ?_
                rw [hff]
                exact hk _ List.mem_cons_self ρ H locs ls _ hH hW (k_psh hR3 g5)
              · split at e
                · rename_i w hb
                  cases e
                  have hn := k_R_new hR3 (k_elr_ok hlo hhi hb hok)
                  refine k_aldW hF hK hT hd c.1 h1 h2 hin (hk _ List.mem_cons_self (k_ext ρ n (f x.toInt.toNat)) H locs ls _ hH hW ?_)
                  obtain ⟨k1, k2, k3, k4, k5, k6, k7, k8⟩ := hn
                  refine ⟨k1, k2, k3, k4, k5, k6, fun z hz => ?_, k8⟩
                  rcases List.mem_cons.mp hz with e' | e'
                  · subst e'
                    refine ⟨a, p.2, d, cA, m, f, f x.toInt.toNat, k_ext_le hR3.1 _ _ ha1, ha2, hd2, h2, k_ext_at, (fun z => by cases z), fun j hj2 => ?_⟩
                    have : q.1.toNat = j := by
                      have : q.1.toNat + 1 = j + 1 := hj2
                      omega
                    subst this
                    exact ⟨by omega, by rw [hj]⟩
                  · exact k7 z e'
                · cases e
            · split at e
              · rename_i b hb
                cases e
                obtain ⟨z, hz, hz2⟩ := k_elr_ok hlo hhi hb hok
                obtain ⟨ρ', hR'⟩ := k_resI_ok (q := b) (d := []) (x := z) hR3 hz2 (fun _ _ _ => k_nod)
                refine k_aldW hF hK hT hd c.1 h1 h2 hin ?_
                rw [hz]
                exact hk _ List.mem_cons_self ρ' H locs ls _ hH hW hR'
              · rename_i w hb
                cases e
                exact k_aldW hF hK hT hd c.1 h1 h2 hin (hk _ List.mem_cons_self _ H locs ls _ hH hW (k_R_new hR3 (k_elr_ok hlo hhi hb hok)))
              · cases e
          · cases e
        · cases e
      · cases e
    · cases e
  · cases e
def k_g8b (TT : List kDesc) (pc : Nat) (i : Instr) (L : Nat) : kSt → Option (List (Nat × kSt))
  | (n, env, loc, oa :: r, ff, rel, len, g, par) => match i with
    | .arraylength => if Nat.beq L 1 = true then (match k_obj env oa with
      | some p => match TT[p.2]? with
        | some (.inr d) => if Nat.ble d.2.2.1 2147483647 = true then some [(pc + 1, (n + 1, (n, .inl ((d.2.1 : Int), (d.2.2.1 : Int))) :: env, loc, .inl n :: r, ff, rel, (p.1, 0, .inl n) :: len, g, par))] else none
        | _ => none
      | none => none) else none
    | _ => none
  | _ => none
theorem k_g8b_ok {i : Instr} {L : Nat} {σ : kSt} {l : List (Nat × kSt)} (hF : k_Fx X cc nL own) (hK : va_K E.1 E.2.1 E.2.2.1 X.2.2.2.2.1) (hd : decode cc pc = .ok (i, L)) (e : k_g8b E.2.2.2.1 pc i L σ = some l) (hk : ∀ q ∈ l, k_good X E nL τ vs mods H0 q.1 q.2) : k_good X E nL τ vs mods H0 pc σ := by
  unfold k_g8b at e
  split at e
  · rename_i n env loc oa r ff rel len g par
    intro ρ H locs ls st hH hW hR
    have he := k_envR hR
    split at e
    · split at e
      · rename_i y
        have y := Nat.eq_of_beq_eq_true y
        subst y
        split at e
        · rename_i p hp
          split at e
          · rename_i d hd2
            split at e
            · rename_i c
              have c := Nat.le_of_ble_eq_true c
              cases e
              obtain ⟨v, rs, rfl, hv, hR2⟩ := k_pop hR
              obtain ⟨ho, a, ha1, ha2⟩ := k_obj_ok (s := p.1) (t := p.2) he hp
              subst ho
              cases hv.symm.trans ha1
              obtain ⟨cA, ty, m, f, h1, h2, h3, h4, h5⟩ := k_arr hH ha2 hd2
              have hm : (Int32.ofNat m).toInt = (m : Int) := nI_toInt (n := m) (by omega)
              have hn := k_R_new hR2 (x := .inl ((d.2.1 : Int), (d.2.2.1 : Int))) (v := .int (Int32.ofNat m)) ⟨_, rfl, by rw [hm]; exact Int.ofNat_le.mpr h3, by rw [hm]; exact Int.ofNat_le.mpr h4⟩
              refine W.alen (n := Int32.ofNat m) hF.1 hF.2.1 h2 ((hK.2 d.1 _ h1).1 m f) (by rw [arrV_size]) rfl rfl hd (hk _ List.mem_cons_self (k_ext ρ n (.int (Int32.ofNat m))) H locs ls _ hH hW ?_)
              obtain ⟨k1, k2, k3, k4, k5, k6, k7, k8⟩ := hn
              refine ⟨k1, k2, k3, k4, k5, k6, fun z hz => ?_, k8⟩
              rcases List.mem_cons.mp hz with e' | e'
              · subst e'
                exact ⟨a, p.2, d, cA, m, f, .int (Int32.ofNat m), k_ext_le hR2.1 _ _ ha1, ha2, hd2, h2, k_ext_at, fun _ => ⟨_, rfl, hm⟩, (fun j z => by cases z)⟩
              · exact k7 z e'
            · cases e
          · cases e
        · cases e
      · cases e
    · cases e
  · cases e
theorem k_R_move {H' : Heap} {m : List (Nat × Nat)} (hE : k_Eok E) (hH : k_HT E τ H) (hf : k_fr E τ m H H') (hR : k_R E nL τ vs ρ H ls st (n, env, loc, stk, ff, rel, len, g, par)) : k_R E nL τ vs ρ H' ls st (n, env, loc, stk, k_keep env m ff, rel, k_keepA env m len, k_gk E.2.2.2.2.2.2 m g, par) := by
  obtain ⟨h1, h2, h3, h4, h5, h6, h7, h8, h9⟩ := hR
  exact ⟨h1, h2, h3, h4, k_keep_ok h2 h5 hf, h6, k_keepA_ok h2 h7 hf, k_gk_ok hE hH hf h8, h9⟩
def k_oe : kOp → kOp → Bool
  | .inl a, .inl b => Nat.beq a b
  | .inr a, .inr b => k_eqi a b
  | _, _ => false
theorem k_oe_ok {a b : kOp} (h : k_oe a b = true) : a = b := by
  unfold k_oe at h
  split at h
  · rw [Nat.eq_of_beq_eq_true h]
  · rw [k_eqi_iff.mp h]
  · cases h
/-- what an operand was made of -/
def k_nrm (o : kOp) : List (Nat × Nat × Nat × Nat × Int) → kOp × Int
  | [] => (o, 0)
  | q :: r => match o with
    | .inl s => if (Nat.beq q.1 0 && Nat.beq q.2.1 s) = true then (.inl q.2.2.1, q.2.2.2.2) else k_nrm o r
    | .inr _ => (o, 0)
theorem k_nrm_ok {ρ : Nat → Option Value} {o : kOp} {x : Int32} (ho : k_v ρ o = some (.int x)) : ∀ {rel : List (Nat × Nat × Nat × Nat × Int)}, (∀ q ∈ rel, k_rel ρ q) → ∃ y : Int32, k_v ρ (k_nrm o rel).1 = some (.int y) ∧ x.toInt = y.toInt + (k_nrm o rel).2
  | [], _ => ⟨x, ho, by show _ = _ + (0 : Int); omega⟩
  | q :: r, h => by
    unfold k_nrm
    split
    · rename_i s
      split
      · rename_i c
        rw [Bool.and_eq_true] at c
        obtain ⟨x', y, h1, h2, h3⟩ := (h q List.mem_cons_self).1 (Nat.eq_of_beq_eq_true c.1)
        rw [Nat.eq_of_beq_eq_true c.2] at h1
        have : x' = x := Value.int.inj (Option.some.inj (h1.symm.trans ho))
        subst this
        exact ⟨y, h2, h3⟩
      · exact k_nrm_ok ho (fun z hz => h z (List.mem_cons_of_mem _ hz))
    · exact ⟨x, ho, by show _ = _ + (0 : Int); omega⟩
-- 9: stores into arrays
def k_ask : Instr → Nat → Nat
  | .iastore, 0 => 1
  | .bastore, 1 => 2
  | .bastore, 2 => 3
  | .lastore, 3 => 4
  | _, _ => 0
def k_asv (env : List (Nat × kInfo)) (kind : Nat) (o : kOp) : Bool := match kind with
  | 1 => (k_ivl env o).isSome
  | 2 => k_has env o (.inl (-128, 127))
  | 3 => k_has env o (.inl (0, 1))
  | 4 => (k_lvl env o).isSome
  | _ => false
theorem k_nb {x : Int32} (h : k_in (-128, 127) x.toInt) : narrow .byte (.int x) = .int x := by
  have e : (x.toInt8.toInt32).toInt = x.toInt.bmod (2 ^ 8) := by rw [Int8.toInt_toInt32, Int32.toInt_toInt8]
  have h1 := h.1
  have h2 := h.2
  dsimp only at h1 h2
  have : x.toInt8.toInt32 = x := Int32.toInt_inj.mp (by rw [e, Int.bmod_eq_of_le (by omega) (by omega)])
  show Value.int x.toInt8.toInt32 = _
  rw [this]
theorem k_01 {x : Int32} (h : k_in (0, 1) x.toInt) : x = 0 ∨ x = 1 := by
  have h1 := h.1
  have h2 := h.2
  dsimp only at h1 h2
  rcases (show x.toInt = 0 ∨ x.toInt = 1 by omega) with e | e
  · exact Or.inl (Int32.toInt_inj.mp (by rw [e]; rfl))
  · exact Or.inr (Int32.toInt_inj.mp (by rw [e]; rfl))
theorem k_nz01 {x : Int32} (h : k_in (0, 1) x.toInt) : narrow .boolean (.int x) = .int x := by
  rcases k_01 h with rfl | rfl <;> rfl
theorem k_astW {i : Instr} {a m : Nat} {ai : Nat} {cA : ClassId} {ty : FieldType} {f : Nat → Value} {x : Int32} {o : kOp} {v : Value} (hF : k_Fx X cc nL own) (hK : va_K E.1 E.2.1 E.2.2.1 X.2.2.2.2.1) (hT : k_tys E) (he : k_env τ ρ env) (hd : decode cc pc = .ok (i, 1)) (e : k_asv env (k_ask i ai) o = true) (hv : k_v ρ o = some v) (h1 : E.2.2.1[ai]? = some (cA, ty)) (hc : H[a]? = some (arrV cA m f)) (hx : 0 ≤ x.toInt ∧ x.toInt < (m : Int))
    (k : ∀ H' : Heap, H'[a]? = some ((arrV cA m f).setSlot x.toInt.toNat v) → H'.size = H.size → (∀ q, q ≠ a → H'[q]? = H[q]?) → kw X H' (locs ++ [⟨a, x.toInt.toNat⟩]) (pc + 1) ls st) : kw X H locs pc ls (v :: .int x :: .ref a :: st) := by
  have harr := (hK.2 ai _ h1).1 m f
  have hty := hT ai cA ty h1
  have hin := k_idx hx cA f
  unfold k_ask at e
  split at e
  · obtain ⟨rfl⟩ := hty.1 rfl
    obtain ⟨b, hb⟩ := Option.isSome_iff_exists.mp (show (k_ivl env o).isSome = true from e)
    obtain ⟨z, hz, -⟩ := k_ivl_ok he hb
    cases hv.symm.trans hz
    exact W.iast hF.1 hF.2.1 hc harr (fun z => by cases z) hin rfl rfl hd k
  · obtain ⟨rfl⟩ := hty.2.1 rfl
    obtain ⟨w, hw, z, hz, hz2⟩ := k_has_ok he (show k_has env o (.inl (-128, 127)) = true from e)
    cases hv.symm.trans hw
    subst hz
    exact W.bast hF.1 hF.2.1 hc harr (fun z => by cases z) hin rfl rfl hd (fun H' e1 => k H' (by rw [k_nb hz2] at e1; exact e1))
  · obtain ⟨rfl⟩ := hty.2.2.1 rfl
    obtain ⟨w, hw, z, hz, hz2⟩ := k_has_ok he (show k_has env o (.inl (0, 1)) = true from e)
    cases hv.symm.trans hw
    subst hz
    exact W.zast hF.1 hF.2.1 hc harr (fun z => by cases z) hin rfl rfl hd (fun H' e1 => k H' (by rw [k_nz01 hz2] at e1; exact e1))
  · obtain ⟨rfl⟩ := hty.2.2.2.1 rfl
    obtain ⟨b, hb⟩ := Option.isSome_iff_exists.mp (show (k_lvl env o).isSome = true from e)
    obtain ⟨z, hz, -⟩ := k_lvl_ok he hb
    cases hv.symm.trans hz
    exact W.last hF.1 hF.2.1 hc harr (fun z => by cases z) hin rfl rfl hd k
  · cases e
def k_keepJ (jj : Nat) (len : List (Nat × Nat × kOp)) : List (Nat × Nat × kOp) := len.filter (fun z => !(Nat.beq z.2.1 jj))
theorem k_keepJ_ok {E : kE} {τ : kTau} {ρ : Nat → Option Value} {len : List (Nat × Nat × kOp)} {H H' : Heap} {a m j : Nat} {cA : ClassId} {f : Nat → Value} {v : Value} (h : ∀ q ∈ len, k_len E τ ρ H q) (hc : H[a]? = some (arrV cA m f)) (e1 : H'[a]? = some (arrV cA m (updV f j v))) (e3 : ∀ b : Nat, b ≠ a → H'[b]? = H[b]?) : ∀ q ∈ k_keepJ (j + 1) len, k_len E τ ρ H' q := by
  intro q hq
  obtain ⟨hq1, hq2⟩ := List.mem_filter.mp hq
  have hne : q.2.1 ≠ j + 1 := fun e => by
    rw [e] at hq2
    simp at hq2
  obtain ⟨a', t', d', cA', n', f', v', g1, g2, g3, g4, g5, g6, g7⟩ := h q hq1
  by_cases ea : a' = a
  · subst ea
    have ec : arrV cA' n' f' = arrV cA m f := Option.some.inj (g4.symm.trans hc)
    have en : n' = m := by rw [← arrV_size cA' n' f', ec, arrV_size]
    subst en
    refine ⟨a', t', d', cA, n', updV f j v, v', g1, g2, g3, e1, g5, g6, fun i hi => ?_⟩
    obtain ⟨h1, h2⟩ := g7 i hi
    refine ⟨h1, ?_⟩
    have hij : i ≠ j := fun e => hne (by rw [hi, e])
    have hf : f i = f' i := by
      have r1 := arrV_read cA f h1
      have r2 := arrV_read cA' f' h1
      rw [ec] at r2
      exact Option.some.inj (r1.symm.trans r2)
    unfold updV
    rw [if_neg hij, hf]
    exact h2
  · exact ⟨a', t', d', cA', n', f', v', g1, g2, g3, by rw [e3 a' ea]; exact g4, g5, g6, g7⟩
/-- is ov the field's old value and c -/
def k_dfo (env : List (Nat × kInfo)) (ff : List (Nat × Nat × kOp)) (rel : List (Nat × Nat × Nat × Nat × Int)) (s k : Nat) (ov : kOp) (c : Int) : Bool := match k_fct ff s k with
  | some o => match k_ivl env ov, k_ivl env o with
    | some p, some q => (k_oe (k_nrm ov rel).1 (k_nrm o rel).1 && k_eqi (k_nrm ov rel).2 ((k_nrm o rel).2 + c)) || (k_eqi p.1 p.2 && (k_eqi q.1 q.2 && k_eqi p.1 (q.1 + c)))
    | _, _ => false
  | none => false
def k_is0 (env : List (Nat × kInfo)) (ov : kOp) : Bool := match k_ivl env ov with
  | some p => k_eqi p.1 0 && k_eqi p.2 0
  | none => false
def k_dif (env : List (Nat × kInfo)) (ff : List (Nat × Nat × kOp)) (rel : List (Nat × Nat × Nat × Nat × Int)) (s k : Nat) (ov : kOp) : Nat → Bool
  | 0 => k_dfo env ff rel s k ov 1
  | 1 => k_dfo env ff rel s k ov (-1)
  | 2 => k_is0 env ov
  | _ => false
def k_grF (GS : Nat → List (Nat × Nat)) (env : List (Nat × kInfo)) (ff : List (Nat × Nat × kOp)) (rel : List (Nat × Nat × Nat × Nat × Int)) (s t k : Nat) (ov : kOp) (g : List Nat) : List Nat := ((GS (1000000 + 64 * t + k)).filter (fun r => k_mem1 (r.1 % 1000) g && k_dif env ff rel s k ov (r.1 / 1000))).map Prod.snd
theorem k_dfo_ok {s k a t : Nat} {ov : kOp} {c : Int} {d : Nat × List kInfo} (he : k_env τ ρ env) (hr : ∀ q ∈ rel, k_rel ρ q) (hf : ∀ q ∈ ff, k_fact E τ ρ H q) (ha1 : ρ s = some (.ref a)) (ha2 : τ a = some t) (hd : E.2.2.2.1[t]? = some (.inl d)) (e : k_dfo env ff rel s k ov c = true) : ∃ x x0 : Int32, k_v ρ ov = some (.int x) ∧ k_fld E H a d.1 k = some (.int x0) ∧ x.toInt = x0.toInt + c := by
  unfold k_dfo at e
  split at e
  · rename_i o ho
    obtain ⟨a', t', d', v, g1, g2, g3, g4, g5, g6⟩ := hf _ (k_fct_ok ho)
    have ea : a = a' := Value.ref.inj (Option.some.inj (ha1.symm.trans g1))
    subst ea
    have et : t = t' := Option.some.inj (ha2.symm.trans g2)
    subst et
    rw [hd] at g3
    cases g3
    split at e
    · rename_i p q hp hq
      obtain ⟨x, x1, x2⟩ := k_ivl_ok he hp
      obtain ⟨y, y1, y2⟩ := k_ivl_ok he hq
      have : v = .int y := Option.some.inj (g5.symm.trans y1)
      subst this
      refine ⟨x, y, x1, g6, ?_⟩
      rw [Bool.or_eq_true, Bool.and_eq_true, Bool.and_eq_true, Bool.and_eq_true, k_eqi_iff, k_eqi_iff, k_eqi_iff, k_eqi_iff] at e
      rcases e with ⟨e1, e2⟩ | ⟨e1, e2, e3⟩
      · obtain ⟨x', nx1, nx2⟩ := k_nrm_ok x1 hr
        obtain ⟨y', ny1, ny2⟩ := k_nrm_ok y1 hr
        rw [k_oe_ok e1, ny1] at nx1
        have := Value.int.inj (Option.some.inj nx1)
        subst this
        omega
      · have a1 := x2.1
        have a2 := x2.2
        have a3 := y2.1
        have a4 := y2.2
        omega
    · cases e
  · cases e
theorem k_grF_ok {s k a t : Nat} {ov : kOp} {v : Value} {d : Nat × List kInfo} {H' : Heap} (hE : k_Eok E) (hH : k_HT E τ H) (hH' : k_HT E τ H') (hR : k_R E nL τ vs ρ H ls st (n, env, loc, stk, ff, rel, len, g, par)) (ha1 : ρ s = some (.ref a)) (ha2 : τ a = some t) (hd : E.2.2.2.1[t]? = some (.inl d)) (hk : k < d.2.length) (hf : k_fr E τ [(t, k)] H H') (ho : ∀ b : Nat, b ≠ a → H'[b]? = H[b]?) (hv : k_v ρ ov = some v) (hw : k_fld E H' a d.1 k = some v) : ∀ j ∈ k_grF E.2.2.2.2.2.2 env ff rel s t k ov g, E.2.2.2.2.2.1 j τ H' := by
  intro j hj
  unfold k_grF at hj
  obtain ⟨r, hr, rfl⟩ := List.mem_map.mp hj
  obtain ⟨hr1, hr2⟩ := List.mem_filter.mp hr
  rw [Bool.and_eq_true, k_mem1_iff] at hr2
  obtain ⟨w0, cell, y, j1, j2, j3, j4, j5, j6, j7⟩ := k_read hE hH ha2 hd hk
  have hg : E.2.2.2.2.2.1 (r.1 % 1000) τ H := hR.2.2.2.2.2.2.2.1 _ hr2.1
  have key : ∀ x' : Int32, v = .int x' → k_kd (r.1 / 1000) w0 x' → E.2.2.2.2.2.1 r.2 τ H' := fun x' hx hkd => hE.2.2.1 τ t k a d H H' w0 x' r hr1 hd hk ha2 hH hH' hf ho j7 (by rw [hw, hx]) hkd hg
  have h2 := hr2.2
  generalize hz : r.1 / 1000 = kd at h2 key
  match kd, h2 with
  | 0, h2 =>
    obtain ⟨x, x0, h3, h4, h5⟩ := k_dfo_ok (k_envR hR) (k_relR hR) hR.2.2.2.2.1 ha1 ha2 hd h2
    exact key x (Option.some.inj (hv.symm.trans h3)) ⟨fun _ => ⟨x0, Option.some.inj (j7.symm.trans h4), h5⟩, (fun z => by cases z), (fun z => by cases z)⟩
  | 1, h2 =>
    obtain ⟨x, x0, h3, h4, h5⟩ := k_dfo_ok (k_envR hR) (k_relR hR) hR.2.2.2.2.1 ha1 ha2 hd h2
    exact key x (Option.some.inj (hv.symm.trans h3)) ⟨(fun z => by cases z), fun _ => ⟨x0, Option.some.inj (j7.symm.trans h4), by omega⟩, (fun z => by cases z)⟩
  | 2, h2 =>
    have h2 : k_is0 env ov = true := h2
    unfold k_is0 at h2
    split at h2
    · rename_i p hp
      rw [Bool.and_eq_true, k_eqi_iff, k_eqi_iff] at h2
      obtain ⟨x, x1, x2⟩ := k_ivl_ok (k_envR hR) hp
      exact key x (Option.some.inj (hv.symm.trans x1)) ⟨(fun z => by cases z), (fun z => by cases z), fun _ => by have a1 := x2.1; have a2 := x2.2; omega⟩
    · cases h2
  | n + 3, h2 => cases h2
def k_grA (GS : Nat → List (Nat × Nat)) (env : List (Nat × kInfo)) (ff : List (Nat × Nat × kOp)) (s t : Nat) (oi : kOp) (x : kInfo) (g : List Nat) : List Nat := ((k_rus (GS (2000000 + t))).filter (fun u => (k_mem1 u.2.2.2.2.2.1 g && k_isub x (.inl ((u.2.2.2.1 : Int), (u.2.2.2.2.1 : Int)))) && ff.any (fun w => (Nat.beq w.2.1 u.2.2.1 && k_oe w.2.2 (.inl s)) && (match k_obj env (.inl w.1), k_fct ff w.1 u.2.1 with
  | some p, some o => Nat.beq p.2 u.1 && k_oe o oi
  | _, _ => false)))).map (fun u => u.2.2.2.2.2.2)
theorem k_grA_ok {s b t m : Nat} {oi : kOp} {x0 : kInfo} {v : Value} {x : Int32} {cA : ClassId} {f : Nat → Value} {H' : Heap} (hE : k_Eok E) (hH : k_HT E τ H) (hH' : k_HT E τ H') (hR : k_R E nL τ vs ρ H ls st (n, env, loc, stk, ff, rel, len, g, par)) (ha1 : ρ s = some (.ref b)) (ha2 : τ b = some t) (hf : k_fr E τ [(t, 0)] H H') (ho : ∀ c : Nat, c ≠ b → H'[c]? = H[c]?) (hi : k_v ρ oi = some (.int x)) (hv : k_ok τ x0 v) (h1 : H[b]? = some (arrV cA m f)) (h2 : H'[b]? = some (arrV cA m (updV f x.toInt.toNat v))) (hx : 0 ≤ x.toInt ∧ x.toInt < (m : Int)) : ∀ j ∈ k_grA E.2.2.2.2.2.2 env ff s t oi x0 g, E.2.2.2.2.2.1 j τ H' := by
  intro j hj
  unfold k_grA at hj
  obtain ⟨u, hu, rfl⟩ := List.mem_map.mp hj
  obtain ⟨hu1, hu2⟩ := List.mem_filter.mp hu
  rw [Bool.and_eq_true, Bool.and_eq_true, k_mem1_iff, List.any_eq_true] at hu2
  obtain ⟨⟨c1, c2⟩, w, hw, c3⟩ := hu2
  rw [Bool.and_eq_true, Bool.and_eq_true] at c3
  obtain ⟨⟨c4, c5⟩, c6⟩ := c3
  have c4 := Nat.eq_of_beq_eq_true c4
  have c5 := k_oe_ok c5
  split at c6
  · rename_i p o hp hfo
    rw [Bool.and_eq_true] at c6
    have c7 := Nat.eq_of_beq_eq_true c6.1
    have c8 := k_oe_ok c6.2
    obtain ⟨y, hy, hy2⟩ := k_isub_ok c2 hv
    obtain ⟨a, ta, d, va, g1, g2, g3, g4, g5, g6⟩ := hR.2.2.2.2.1 w hw
    obtain ⟨a', ta', d', va', k1, k2, k3, k4, k5, k6⟩ := hR.2.2.2.2.1 _ (k_fct_ok hfo)
    obtain ⟨hps, a2, hp1, hp2⟩ := k_obj_ok (s := p.1) (t := p.2) (k_envR hR) hp
    have hps : w.1 = p.1 := Sum.inl.inj hps
    rw [← hps] at hp1
    have e1 : a2 = a := Value.ref.inj (Option.some.inj (hp1.symm.trans g1))
    subst e1
    have e2 : a' = a2 := Value.ref.inj (Option.some.inj (k1.symm.trans g1))
    subst e2
    have e3 : ta = p.2 := Option.some.inj (g2.symm.trans hp2)
    subst e3
    have e4 : ta' = p.2 := Option.some.inj (k2.symm.trans hp2)
    subst e4
    have e5 : d' = d := by rw [g3] at k3; exact (Sum.inl.inj (Option.some.inj k3)).symm
    subst e5
    rw [c5] at g5
    have e6 : va = .ref b := Option.some.inj (g5.symm.trans ha1)
    subst e6
    rw [c8] at k5
    have e7 : va' = .int x := Option.some.inj (k5.symm.trans hi)
    subst e7
    rw [c4] at g4 g6
    subst hy
    exact hE.2.2.2 τ t b a' u d' cA m f H H' x y hu1 ha2 (by rw [← c7]; exact hp2) (by rw [← c7]; exact g3) k4 g4 hH hH' hf ho k6 g6 h1 h2 hx.1 hx.2 hy2.1 hy2.2 (hR.2.2.2.2.2.2.2.1 _ c1)
  · cases c6
def k_g9 (TT : List kDesc) (GS : Nat → List (Nat × Nat)) (mods : List (Nat × Nat)) (pc : Nat) (i : Instr) (L : Nat) : kSt → Option (List (Nat × kSt))
  | (n, env, loc, ov :: oi :: oa :: r, ff, rel, len, g, par) => if Nat.beq L 1 = true then (match k_ivl env oi, k_obj env oa, k_opinfo env ov with
    | some q, some p, some x => match TT[p.2]? with
      | some (.inr d) => if ((k_asv env (k_ask i d.1) ov && k_inb d.2.1 q p.1 oi rel len) && (k_elw d.2.2.2.2 q.1.toNat q.2.toNat x d.2.2.2.1 && k_m2 p.2 0 mods)) = true then
          some [(pc + 1, (n, env, loc, r, k_keep env [(p.2, 0)] ff, rel, (if k_eqi q.1 q.2 = true then (p.1, q.1.toNat + 1, ov) :: k_keepJ (q.1.toNat + 1) len else k_keepA env [(p.2, 0)] len), k_grA GS env ff p.1 p.2 oi x g ++ k_gk GS [(p.2, 0)] g, par))] else none
      | _ => none
    | _, _, _ => none) else none
  | _ => none
theorem k_g9_ok {i : Instr} {L : Nat} {σ : kSt} {l : List (Nat × kSt)} (hF : k_Fx X cc nL own) (hE : k_Eok E) (hK : va_K E.1 E.2.1 E.2.2.1 X.2.2.2.2.1) (hT : k_tys E) (hd : decode cc pc = .ok (i, L)) (e : k_g9 E.2.2.2.1 E.2.2.2.2.2.2 mods pc i L σ = some l) (hk : ∀ q ∈ l, k_good X E nL τ vs mods H0 q.1 q.2) : k_good X E nL τ vs mods H0 pc σ := by
  unfold k_g9 at e
  split at e
  · rename_i n env loc ov oi oa r ff rel len g par
    intro ρ H locs ls st hH hW hR
    have he := k_envR hR
    split at e
    · rename_i y
      have y := Nat.eq_of_beq_eq_true y
      subst y
      split at e
      · rename_i q p x0 hq hp hx0
        split at e
        · rename_i d hd2
          split at e
          · rename_i c
            rw [Bool.and_eq_true, Bool.and_eq_true, Bool.and_eq_true, k_m2_iff] at c
            cases e
            obtain ⟨v, rs, rfl, hv, hR1⟩ := k_pop hR
            obtain ⟨v1, rs1, rfl, hv1, hR2⟩ := k_pop hR1
            obtain ⟨v2, rs2, rfl, hv2, hR3⟩ := k_pop hR2
            obtain ⟨x, hx1, hx2⟩ := k_ivl_ok he hq
            obtain ⟨w, hw1, hw2⟩ := k_opinfo_ok he hx0
            obtain ⟨ho, a, ha1, ha2⟩ := k_obj_ok (s := p.1) (t := p.2) he hp
            subst ho
            cases hv.symm.trans hw1
            cases hv1.symm.trans hx1
            cases hv2.symm.trans ha1
            obtain ⟨cA, ty, m, f, h1, h2, h3, h4, h5⟩ := k_arr hH ha2 hd2
            have hin := k_inb_ok hR c.1.2 ha1 h2 h3 hx1 hx2
            have hlo : q.1.toNat ≤ x.toInt.toNat := by have := hx2.1; omega
            have hhi : x.toInt.toNat ≤ q.2.toNat := by have := hx2.2; omega
            refine k_astW hF hK hT he hd c.1.1 hv h1 h2 hin (fun H' e1 e2 e3 => ?_)
            obtain ⟨g1, g2⟩ := k_awrite hH ha2 hd2 h1 h2 h3 h4 h5 (k_elw_ok hlo hhi hw2 c.2.1) e1 e2 e3
            have hR4 := k_R_move hE hH g2 hR3
            refine hk _ List.mem_cons_self ρ H' _ ls _ g1 ⟨k_fr_trans hW.1 g2 (fun z hz => by rw [List.mem_singleton.mp hz]; exact c.2.2), fun z hz => ?_⟩ ?_
            · rcases List.mem_append.mp hz with e' | e'
              · exact hW.2 z e'
              · rw [List.mem_singleton.mp e']; exact (hH a p.2 ha2).1
            · obtain ⟨k1, k2, k3, k4, k5, k6, k7, k8, k9⟩ := hR4
              refine ⟨k1, k2, k3, k4, k5, k6, fun z hz => ?_, fun j hj => (List.mem_append.mp hj).elim (fun e' => k_grA_ok hE hH g1 hR ha1 ha2 g2 e3 hv1 hw2 h2 (by rw [arrV_store] at e1; exact e1) hin j e') (k8 j), k9⟩
              split at hz
              · rename_i hsing
                rw [k_eqi_iff] at hsing
                have hj : x.toInt.toNat = q.1.toNat := by have := hx2.1; have := hx2.2; omega
                rw [arrV_store] at e1
                rcases List.mem_cons.mp hz with e' | e'
                · subst e'
                  refine ⟨a, p.2, d, cA, m, updV f x.toInt.toNat v, v, ha1, ha2, hd2, e1, hv, (fun z => by cases z), fun j hj2 => ?_⟩
                  have : q.1.toNat = j := by
                    have : q.1.toNat + 1 = j + 1 := hj2
                    omega
                  subst this
                  exact ⟨by omega, by unfold updV; rw [if_pos hj.symm]⟩
                · rw [hj] at e1
                  obtain ⟨-, -, -, -, -, -, l7, -⟩ := hR3
                  exact k_keepJ_ok l7 h2 e1 e3 z e'
              · exact k7 z hz
          · cases e
        · cases e
      · cases e
    · cases e
  · cases e
-- 10: fields
def k_f4 : List (Nat × Nat × Nat × Nat) → Nat → Option (Nat × Nat × Nat)
  | [], _ => none
  | q :: r, k => if Nat.beq q.1 k = true then some q.2 else k_f4 r k
theorem k_f4_ok : ∀ {l : List (Nat × Nat × Nat × Nat)} {k : Nat} {x : Nat × Nat × Nat}, k_f4 l k = some x → (k, x) ∈ l
  | [], _, _, e => by cases e
  | q :: r, k, x, e => by
    unfold k_f4 at e
    split at e
    · rename_i z
      cases e
      rw [← Nat.eq_of_beq_eq_true z]
      exact List.mem_cons_self
    · exact List.mem_cons_of_mem _ (k_f4_ok e)
/-- of a field's entry (pool number, class, field, kind): it links; kinds: 0 int, 1 boolean, 2 long, 3 a reference, 4 read alone -/
def k_FL (X : kX) (E : kE) (own : String) (FL : List (Nat × Nat × Nat × Nat)) : Prop := ∀ q ∈ FL, ∃ (C : String) (T : u_T) (N : Nat) (ref : String) (ty : FieldType) (Ts : List Jvm.Cond),
  E.2.1[q.2.1]? = some (C, T, N) ∧ q.2.2.1 < N ∧ (∀ w ∈ Ts, w.before X.2.2.2.2.2.2.1 X.2.2.2.2.1 = true) ∧ (∀ w ∈ u_ws C T N, w ∈ Ts) ∧ (Jvm.Cond.fieldLink own q.1 ref (T q.2.2.1).2.1 (T q.2.2.1).2.2.1).before X.2.2.2.2.2.2.1 X.2.2.2.2.1 = true ∧
  (∀ x, X.2.2.2.2.1.fieldFound? (T q.2.2.1).1 (T q.2.2.1).2.1 (T q.2.2.1).2.2.1 = some x → X.2.2.2.2.1.fieldFound? ref (T q.2.2.1).2.1 (T q.2.2.1).2.2.1 = some x) ∧ parseFieldDescriptor (T q.2.2.1).2.2.1 = some ty ∧
  (q.2.2.2 = 0 → ty = .int) ∧ (q.2.2.2 = 1 → ty = .boolean) ∧ (q.2.2.2 = 2 → ty = .long) ∧ (q.2.2.2 = 3 → ty.isReference = true) ∧ (q.2.2.2 < 4 → (T q.2.2.1).2.2.2 = false)
theorem k_getW {FL : List (Nat × Nat × Nat × Nat)} {idx ci k fk a : Nat} {cell : Cell} {v : Value} (hF : k_Fx X cc nL own) (hFL : k_FL X E own FL) (hK : va_K E.1 E.2.1 E.2.2.1 X.2.2.2.2.1) (hq : (idx, ci, k, fk) ∈ FL) (hd : decode cc pc = .ok (.getfield idx, 3)) (h1 : H[a]? = some cell) (h2 : cell.vm = .none) (h3 : cell.slots[E.1.2 ci k]? = some v)
    (kk : kw X H locs (pc + 3) ls (v :: st)) : kw X H locs pc ls (.ref a :: st) := by
  obtain ⟨C, T, N, ref, ty, Ts, f1, f2, f3, f4, f5, f6, -⟩ := hFL _ hq
  obtain ⟨hS, hfc, kC, hkC, hkind⟩ := hK.1 ci _ f1
  obtain ⟨cf, kf, fi, f, hi, hsl⟩ := hS k f2
  refine W.getf hF.1 hF.2.1 hF.2.2.2 f5 (f6 _ hi) (u_facts hfc hkC (u_lays f3 f4 f2) hi).1 h1 (by rw [h2]; exact fun z => by cases z) (v := v) ?_ rfl rfl hd kk
  rw [hsl]
  exact h3
def k_fkv (env : List (Nat × kInfo)) (fk : Nat) (o : kOp) : Bool := match fk with
  | 0 => (k_ivl env o).isSome
  | 1 => k_has env o (.inl (0, 1))
  | 2 => (k_lvl env o).isSome
  | 3 => (k_rf env o).isSome
  | _ => false
theorem k_fkv_ok {fk : Nat} {o : kOp} {v : Value} {ty : FieldType} (he : k_env τ ρ env) (e : k_fkv env fk o = true) (hv : k_v ρ o = some v) (h0 : fk = 0 → ty = .int) (h1 : fk = 1 → ty = .boolean) (h2 : fk = 2 → ty = .long) (h3 : fk = 3 → ty.isReference = true) : narrow ty v = v ∧ fits ty v = true ∧ fk < 4 := by
  unfold k_fkv at e
  split at e
  · obtain ⟨rfl⟩ := h0 rfl
    obtain ⟨b, hb⟩ := Option.isSome_iff_exists.mp e
    obtain ⟨z, hz, -⟩ := k_ivl_ok he hb
    cases hv.symm.trans hz
    exact ⟨rfl, rfl, by decide⟩
  · obtain ⟨rfl⟩ := h1 rfl
    obtain ⟨w, hw, z, hz, hz2⟩ := k_has_ok he e
    cases hv.symm.trans hw
    subst hz
    refine ⟨k_nz01 hz2, ?_, by decide⟩
    rcases k_01 hz2 with rfl | rfl <;> rfl
  · obtain ⟨rfl⟩ := h2 rfl
    obtain ⟨b, hb⟩ := Option.isSome_iff_exists.mp e
    obtain ⟨z, hz, -⟩ := k_lvl_ok he hb
    cases hv.symm.trans hz
    exact ⟨rfl, rfl, by decide⟩
  · have hr := h3 rfl
    obtain ⟨b, hb⟩ := Option.isSome_iff_exists.mp e
    obtain ⟨w, hw, hw2⟩ := k_rf_ok he hb
    cases hv.symm.trans hw
    cases ty <;> first | (exact absurd hr (by decide)) | skip
    · rcases hw2 with ⟨-, z⟩ | ⟨a, t, z, -⟩ <;> subst z <;> exact ⟨rfl, rfl, by decide⟩
    · rcases hw2 with ⟨-, z⟩ | ⟨a, t, z, -⟩ <;> subst z <;> exact ⟨rfl, rfl, by decide⟩
  · cases e
theorem k_putW {FL : List (Nat × Nat × Nat × Nat)} {idx ci k fk a : Nat} {cell : Cell} {v : Value} (hF : k_Fx X cc nL own) (hFL : k_FL X E own FL) (hK : va_K E.1 E.2.1 E.2.2.1 X.2.2.2.2.1) (hq : (idx, ci, k, fk) ∈ FL) (hd : decode cc pc = .ok (.putfield idx, 3)) (h1 : H[a]? = some cell) (h0 : cell.cls = E.1.1 ci) (h2 : cell.vm = .none) (h3 : (cell.slots[E.1.2 ci k]?).isSome = true)
    (hty : ∀ ty, (fk = 0 → ty = FieldType.int) → (fk = 1 → ty = .boolean) → (fk = 2 → ty = .long) → (fk = 3 → ty.isReference = true) → narrow ty v = v ∧ fits ty v = true ∧ fk < 4)
    (kk : ∀ H' : Heap, H'[a]? = some (cell.setSlot (E.1.2 ci k) v) → H'.size = H.size → (∀ q, q ≠ a → H'[q]? = H[q]?) → kw X H' (locs ++ [⟨a, E.1.2 ci k⟩]) (pc + 3) ls st) : kw X H locs pc ls (v :: .ref a :: st) := by
  obtain ⟨C, T, N, ref, ty, Ts, f1, f2, f3, f4, f5, f6, f7, t0, t1, t2, t3, t4⟩ := hFL _ hq
  obtain ⟨hn, hfit, h4⟩ := hty ty t0 t1 t2 t3
  have hfin := t4 h4
  obtain ⟨hS, hfc, kC, hkC, hkind⟩ := hK.1 ci _ f1
  obtain ⟨cf, kf, fi, f, hi, hsl⟩ := hS k f2
  have hlay := f3 _ (f4 _ (u_in_lay f2))
  unfold u_lay at hlay
  rw [if_neg (by rw [hfin]; decide)] at hlay
  have hst := (u_facts hfc hkC (u_lays f3 f4 f2) hi).1
  have h6 := u_store hfc hkC hkind hlay hi f7 hn hfit
  obtain ⟨v0, hv0⟩ := Option.isSome_iff_exists.mp h3
  refine W.putK hF.1 hF.2.1 (f := f) ⟨hF.2.2.2, f5, ⟨_, _, _, f6 _ hi⟩, hst⟩ (by rw [h0]; exact h6) h1 h2 (by rw [hsl]; exact k2_hasslot hv0) rfl rfl hd fun H' e1 e2 e3 => ?_
  rw [hsl] at e1 ⊢
  exact kk H' e1 e2 e3
/-- reading field k of the object s of a tag with these infos: the operand; where no fact is there a new symbol -/
def k_rd (s k : Nat) (fs : List kInfo) : kSt → Option (kOp × kSt)
  | (n, env, loc, stk, ff, rel, len, g, par) => match k_fct ff s k with
    | some o => some (o, (n, env, loc, stk, ff, rel, len, g, par))
    | none => match fs[k]? with
      | some x => some (.inl n, (n + 1, (n, x) :: env, loc, stk, (s, k, .inl n) :: ff, rel, len, g, par))
      | none => none
theorem k_R_new0 (h : k_R E nL τ vs ρ H ls st (n, env, loc, stk, ff, rel, len, g, par)) {x : kInfo} {v : Value} (hv : k_ok τ x v) : k_R E nL τ vs (k_ext ρ n v) H ls st (n + 1, (n, x) :: env, loc, stk, ff, rel, len, g, par) := by
  obtain ⟨w, rs, e, -, h2⟩ := k_pop (k_R_new h hv)
  cases e
  exact h2
theorem k_rd_ok {s k a t : Nat} {d : Nat × List kInfo} {o : kOp} {σ : kSt} (hE : k_Eok E) (hH : k_HT E τ H) (hs : ρ s = some (.ref a)) (ht : τ a = some t) (hd : E.2.2.2.1[t]? = some (.inl d)) (hR : k_R E nL τ vs ρ H ls st (n, env, loc, stk, ff, rel, len, g, par)) (e : k_rd s k d.2 (n, env, loc, stk, ff, rel, len, g, par) = some (o, σ)) :
    ∃ (ρ' : Nat → Option Value) (v : Value), k_le' ρ ρ' ∧ k_R E nL τ vs ρ' H ls st σ ∧ k_v ρ' o = some v ∧ k < d.2.length ∧ k_fld E H a d.1 k = some v := by
  unfold k_rd at e
  dsimp only at e
  split at e
  · rename_i o' hf
    cases e
    obtain ⟨a', t', d', v, g1, g2, g3, g4, g5, g6⟩ := hR.2.2.2.2.1 _ (k_fct_ok hf)
    have ea : a = a' := Value.ref.inj (Option.some.inj (hs.symm.trans g1))
    subst ea
    have et : t = t' := Option.some.inj (ht.symm.trans g2)
    subst et
    rw [hd] at g3
    cases g3
    exact ⟨ρ, v, fun _ _ h => h, hR, g5, g4, g6⟩
  · split at e
    · rename_i x hx
      cases e
      have hk : k < d.2.length := (List.getElem?_eq_some_iff.mp hx).1
      obtain ⟨v, cell, y, j1, j2, j3, j4, j5, j6, j7⟩ := k_read hE hH ht hd hk
      rw [hx] at j1
      cases j1
      have hn := k_R_new0 hR j2
      have hu := k_ext_le (v := v) hR.1
      refine ⟨_, v, hu, ?_, k_ext_at, hk, j7⟩
      obtain ⟨k1, k2, k3, k4, k5, k6⟩ := hn
      refine ⟨k1, k2, k3, k4, fun z hz => ?_, k6⟩
      rcases List.mem_cons.mp hz with e' | e'
      · subst e'
        exact ⟨a, t, d, v, hu _ _ hs, ht, hd, hk, k_ext_at, j7⟩
      · exact k5 z e'
    · cases e
def k_g10 (TT : List kDesc) (GS : Nat → List (Nat × Nat)) (FL : List (Nat × Nat × Nat × Nat)) (mods : List (Nat × Nat)) (pc : Nat) (i : Instr) (L : Nat) : kSt → Option (List (Nat × kSt))
  | (n, env, loc, stk, ff, rel, len, g, par) => if Nat.beq L 3 = true then (match i, stk with
    | .getfield idx, oa :: r => match k_f4 FL idx, k_obj env oa with
      | some q, some p => match TT[p.2]? with
        | some (.inl d) => if Nat.beq d.1 q.1 = true then (match k_rd p.1 q.2.1 d.2 (n, env, loc, r, ff, rel, len, g, par) with
          | some (o, (n', env', loc', stk', ff', rel', len', g', par')) => some [(pc + 3, (n', env', loc', o :: stk', ff', rel', len', g', par'))]
          | none => none) else none
        | _ => none
      | _, _ => none
    | .putfield idx, ov :: oa :: r => match k_f4 FL idx, k_obj env oa with
      | some q, some p => match TT[p.2]? with
        | some (.inl d) => match d.2[q.2.1]? with
          | some x => if ((Nat.beq d.1 q.1 && k_has env ov x) && (k_fkv env q.2.2 ov && k_m2 p.2 q.2.1 mods)) = true then
              some [(pc + 3, (n, env, loc, r, (p.1, q.2.1, ov) :: k_keep env [(p.2, q.2.1)] ff, rel, k_keepA env [(p.2, q.2.1)] len, k_grF GS env ff rel p.1 p.2 q.2.1 ov g ++ k_gk GS [(p.2, q.2.1)] g, par))] else none
          | none => none
        | _ => none
      | _, _ => none
    | _, _ => none) else none
theorem k_g10_ok {FL : List (Nat × Nat × Nat × Nat)} {i : Instr} {L : Nat} {σ : kSt} {l : List (Nat × kSt)} (hF : k_Fx X cc nL own) (hE : k_Eok E) (hK : va_K E.1 E.2.1 E.2.2.1 X.2.2.2.2.1) (hFL : k_FL X E own FL) (hd : decode cc pc = .ok (i, L)) (e : k_g10 E.2.2.2.1 E.2.2.2.2.2.2 FL mods pc i L σ = some l) (hk : ∀ q ∈ l, k_good X E nL τ vs mods H0 q.1 q.2) : k_good X E nL τ vs mods H0 pc σ := by
  obtain ⟨n, env, loc, stk, ff, rel, len, g, par⟩ := σ
  intro ρ H locs ls st hH hW hR
  have he := k_envR hR
  unfold k_g10 at e
  dsimp only at e
  split at e
  · rename_i y
    have y := Nat.eq_of_beq_eq_true y
    subst y
    split at e
    · rename_i idx oa r
      split at e
      · rename_i q p hq hp
        split at e
        · rename_i d hd2
          split at e
          · rename_i c
            have c := Nat.eq_of_beq_eq_true c
            split at e
            · rename_i o n' env' loc' stk' ff' rel' len' g' par' hrd
              cases e
              obtain ⟨v, rs, rfl, hv, hR2⟩ := k_pop hR
              obtain ⟨ho, a, ha1, ha2⟩ := k_obj_ok (s := p.1) (t := p.2) he hp
              subst ho
              cases hv.symm.trans ha1
              obtain ⟨ρ', w, hu, hR3, hw, hkl, hfl⟩ := k_rd_ok hE hH ha1 ha2 hd2 hR2 hrd
              obtain ⟨w', cell, y, j1, j2, j3, j4, j5, j6, j7⟩ := k_read hE hH ha2 hd2 hkl
              have : w' = w := Option.some.inj (j7.symm.trans hfl)
              subst this
              have hmem := k_f4_ok hq
              exact k_getW (ci := q.1) (k := q.2.1) (fk := q.2.2) hF hFL hK hmem hd j3 j5 (by rw [← c]; exact j6) (hk _ List.mem_cons_self ρ' H locs ls _ hH hW (k_psh hR3 hw))
            · cases e
          · cases e
        · cases e
      · cases e
    · rename_i idx ov oa r
      split at e
      · rename_i q p hq hp
        split at e
        · rename_i d hd2
          split at e
          · rename_i x hx
            split at e
            · rename_i c
              rw [Bool.and_eq_true, Bool.and_eq_true, Bool.and_eq_true, k_m2_iff] at c
              cases e
              have c1 := Nat.eq_of_beq_eq_true c.1.1
              obtain ⟨v, rs, rfl, hv, hR1⟩ := k_pop hR
              obtain ⟨v2, rs2, rfl, hv2, hR2⟩ := k_pop hR1
              obtain ⟨ho, a, ha1, ha2⟩ := k_obj_ok (s := p.1) (t := p.2) he hp
              subst ho
              cases hv2.symm.trans ha1
              obtain ⟨w, hw1, hw2⟩ := k_has_ok he c.1.2
              cases hv.symm.trans hw1
              have hkl : q.2.1 < d.2.length := (List.getElem?_eq_some_iff.mp hx).1
              obtain ⟨w', cell, y, j1, j2, j3, j4, j5, j6, j7⟩ := k_read hE hH ha2 hd2 hkl
              have hmem := k_f4_ok hq
              refine k_putW (ci := q.1) (k := q.2.1) (fk := q.2.2) hF hFL hK hmem hd j3 (by rw [← c1]; exact j4) j5 (by rw [← c1, j6]; rfl) (fun ty t0 t1 t2 t3 => k_fkv_ok he c.2.1 hv t0 t1 t2 t3) (fun H' e1 e2 e3 => ?_)
              obtain ⟨g1, g2, g3⟩ := k_write hE hH ha2 hd2 hx hw2 j3 (by rw [c1]; exact e1) e2 e3
              have hR3 := k_R_move hE hH g2 hR2
              refine hk _ List.mem_cons_self ρ H' _ ls _ g1 ⟨k_fr_trans hW.1 g2 (fun z hz => by rw [List.mem_singleton.mp hz]; exact c.2.2), fun z hz => ?_⟩ ?_
              · rcases List.mem_append.mp hz with e' | e'
                · exact hW.2 z e'
                · rw [List.mem_singleton.mp e']; exact (hH a p.2 ha2).1
              · obtain ⟨k1, k2, k3, k4, k5, k6, k7, k8, k9⟩ := hR3
                refine ⟨k1, k2, k3, k4, fun z hz => ?_, k6, k7, fun j hj => ?_, k9⟩
                · rcases List.mem_cons.mp hz with e' | e'
                  · subst e'
                    exact ⟨a, p.2, d, v, ha1, ha2, hd2, hkl, hv, g3⟩
                  · exact k5 z e'
                · rcases List.mem_append.mp hj with e' | e'
                  · exact k_grF_ok hE hH g1 hR ha1 ha2 hd2 hkl g2 e3 hv g3 j e'
                  · exact k8 j e'
            · cases e
          · cases e
        · cases e
      · cases e
    · cases e
  · cases e
-- 11: calls by contract
end KM
abbrev kAlt : Type := Option kInfo × List (Nat × kInfo) × List (Nat × Nat × kInfo)
/-- a contract: infos of the arguments; facts on fields of arguments before; how it may end; what it may change; invariants before, behind -/
abbrev kCtr : Type := List kInfo × List (Nat × Nat × kInfo) × List kAlt × List (Nat × Nat) × List Nat × List Nat
def k_fo (E : kE) (τ : kTau) (H : Heap) (v : Value) (k : Nat) (x : kInfo) : Prop := ∃ (a t : Nat) (d : Nat × List kInfo) (w : Value), v = .ref a ∧ τ a = some t ∧ E.2.2.2.1[t]? = some (.inl d) ∧ k < d.2.length ∧ k_fld E H a d.1 k = some w ∧ k_ok τ x w
def k_fw (E : kE) (τ : kTau) (H : Heap) (v : Value) (k : Nat) (w : Value) : Prop := ∃ (a t : Nat) (d : Nat × List kInfo), v = .ref a ∧ τ a = some t ∧ E.2.2.2.1[t]? = some (.inl d) ∧ k < d.2.length ∧ k_fld E H a d.1 k = some w
/-- facts on fields before a call: of an argument, or of what an earlier fact has named -/
def k_prF (E : kE) (τ : kTau) (H : Heap) : List (Nat × Nat × kInfo) → List Value → Prop
  | [], _ => True
  | q :: r, as => ∃ v w : Value, as[q.1]? = some v ∧ k_fw E τ H v q.2.1 w ∧ k_ok τ q.2.2 w ∧ k_prF E τ H r (as ++ [w])
def k_pre (E : kE) (τ : kTau) (H : Heap) (K : kCtr) (as : List Value) : Prop := as.length = K.1.length ∧ (∀ (i : Nat) (x : kInfo), K.1[i]? = some x → ∃ v, as[i]? = some v ∧ k_ok τ x v) ∧ k_prF E τ H K.2.1 as ∧ ∀ i ∈ K.2.2.2.2.1, E.2.2.2.2.2.1 i τ H
def k_alt (E : kE) (τ : kTau) (H' : Heap) (as : List Value) (v : Option Value) (A : kAlt) : Prop := (match A.1 with
  | none => v = none
  | some x => ∃ w, v = some w ∧ k_ok τ x w) ∧ (∀ q ∈ A.2.1, ∃ w, as[q.1]? = some w ∧ k_ok τ q.2 w) ∧ ∀ q ∈ A.2.2, (q.1 < 1000 → ∃ w, as[q.1]? = some w ∧ k_fo E τ H' w q.2.1 q.2.2) ∧ (1000 ≤ q.1 → E.2.2.2.2.2.1 (q.1 - 1000) τ H')
def k_post (E : kE) (τ : kTau) (H H' : Heap) (K : kCtr) (as : List Value) (v : Option Value) : Prop := k_HT E τ H' ∧ k_fr E τ K.2.2.2.1 H H' ∧ (∀ i ∈ K.2.2.2.2.2, E.2.2.2.2.2.1 i τ H') ∧ ∃ A ∈ K.2.2.1, k_alt E τ H' as v A
def k_call (X : kX) (E : kE) (nL : Nat) (τ : kTau) (K : kCtr) (pc : Nat) : Prop := ∀ (H : Heap) (locs : List Loc) (ls : Array Slot) (as rest : List Value), k_HT E τ H → k_pre E τ H K as → (rest.map fun v => v.category).sum ≤ 8 → ls.size = nL → (∀ q ∈ locs, E.2.2.2.2.1 ≤ q.base) →
  (∀ (H' : Heap) (L : List Loc) (v : Option Value), k_post E τ H H' K as v → (∀ q ∈ L, E.2.2.2.2.1 ≤ q.base) → kw X H' (locs ++ L) (pc + 3) ls (v.toList ++ rest)) → kw X H locs pc ls (as.reverse ++ rest)
section KC
variable {X : kX} {E : kE} {nL : Nat} {τ : kTau} {vs : List Value} {mods : List (Nat × Nat)} {H0 : Heap} {cc : ByteArray} {own : String} {pc : Nat}
variable {ρ : Nat → Option Value} {H : Heap} {locs : List Loc} {ls : Array Slot} {st : List Value} {n : Nat} {env : List (Nat × kInfo)} {loc : List (Nat × kOp)} {stk : List kOp} {ff : List (Nat × Nat × kOp)} {rel : List (Nat × Nat × Nat × Nat × Int)} {len : List (Nat × Nat × kOp)} {g : List Nat} {par : List kOp}
def k_args (env : List (Nat × kInfo)) : List kOp → List kInfo → Bool
  | [], [] => true
  | o :: r, x :: s => k_has env o x && k_args env r s
  | _, _ => false
theorem k_args_ok (he : k_env τ ρ env) : ∀ {ops : List kOp} {xs : List kInfo} {as : List Value}, k_args env ops xs = true → ops.map (k_v ρ) = as.map some → as.length = xs.length ∧ (∀ (i : Nat) (x : kInfo), xs[i]? = some x → ∃ v, as[i]? = some v ∧ k_ok τ x v) ∧ ∀ o ∈ ops, ∀ c, o = .inr c → (Int32.ofInt c).toInt = c
  | [], [], as, _, e => by
    cases as with
    | nil => exact ⟨rfl, fun i x h => by simp at h, fun o h => by cases h⟩
    | cons a r => simp at e
  | o :: r, x :: s, as, h, e => by
    cases as with
    | nil => simp at e
    | cons a as' =>
      simp only [List.map_cons, List.cons.injEq] at e
      unfold k_args at h
      rw [Bool.and_eq_true] at h
      obtain ⟨h1, h2, h3⟩ := k_args_ok he h.2 e.2
      obtain ⟨v, hv, hok⟩ := k_has_ok he h.1
      have : v = a := Option.some.inj (hv.symm.trans e.1)
      subst this
      refine ⟨by simp [h1], fun i y hi => ?_, fun o' ho' c hc => ?_⟩
      · cases i with
        | zero =>
          simp at hi
          subst hi
          exact ⟨v, by simp, hok⟩
        | succ i =>
          obtain ⟨w, w1, w2⟩ := h2 i y (by simpa using hi)
          exact ⟨w, by simpa using w1, w2⟩
      · rcases List.mem_cons.mp ho' with z | z
        · subst z
          subst hc
          have hh := h.1
          unfold k_has at hh
          split at hh
          · rename_i y hy
            unfold k_opinfo at hy
            dsimp only at hy
            split at hy
            · rename_i z
              rw [Bool.and_eq_true, k_le_iff, k_le_iff] at z
              rw [Int32.toInt_ofInt]
              have e2 : (Int32.size : Int) = 4294967296 := rfl
              exact Int.bmod_eq_of_le (by omega) (by omega)
            · cases hy
          · cases hh
        · exact h3 o' z c hc
  | [], x :: s, as, h, _ => by cases h
  | o :: r, [], as, h, _ => by cases h
/-- field k of the object o is x, by a fact or by its kind -/
def k_fhas (TT : List kDesc) (env : List (Nat × kInfo)) (ff : List (Nat × Nat × kOp)) (o : kOp) (k : Nat) (x : kInfo) : Bool := match k_obj env o with
  | some p => match TT[p.2]? with
    | some (.inl d) => match k_fct ff p.1 k with
      | some o' => k_has env o' x
      | none => match d.2[k]? with
        | some y => k_isub y x
        | none => false
    | _ => false
  | none => false
theorem k_fhas_ok {o : kOp} {k : Nat} {x : kInfo} (hE : k_Eok E) (hH : k_HT E τ H) (he : k_env τ ρ env) (hf : ∀ q ∈ ff, k_fact E τ ρ H q) (e : k_fhas E.2.2.2.1 env ff o k x = true) : ∃ v, k_v ρ o = some v ∧ k_fo E τ H v k x := by
  unfold k_fhas at e
  split at e
  · rename_i p hp
    obtain ⟨ho, a, ha1, ha2⟩ := k_obj_ok (s := p.1) (t := p.2) he hp
    subst ho
    split at e
    · rename_i d hd
      refine ⟨.ref a, ha1, ?_⟩
      split at e
      · rename_i o' ho'
        obtain ⟨a', t', d', v, g1, g2, g3, g4, g5, g6⟩ := hf _ (k_fct_ok ho')
        have ea : a = a' := Value.ref.inj (Option.some.inj (ha1.symm.trans g1))
        subst ea
        have et : p.2 = t' := Option.some.inj (ha2.symm.trans g2)
        rw [← et, hd] at g3
        cases g3
        obtain ⟨w, w1, w2⟩ := k_has_ok he e
        have : w = v := Option.some.inj (w1.symm.trans g5)
        subst this
        exact ⟨a, p.2, d, w, rfl, ha2, hd, g4, g6, w2⟩
      · split at e
        · rename_i y hy
          have hk : k < d.2.length := (List.getElem?_eq_some_iff.mp hy).1
          obtain ⟨v, cell, y', j1, j2, j3, j4, j5, j6, j7⟩ := k_read hE hH ha2 hd hk
          rw [hy] at j1
          cases j1
          exact ⟨a, p.2, d, v, rfl, ha2, hd, hk, j7, k_isub_ok e j2⟩
        · cases e
    · cases e
  · cases e
def k_cats (env : List (Nat × kInfo)) : List kOp → Option Nat
  | [] => some 0
  | o :: r => match k_cats env r with
    | some c => if k_is1 env o = true then some (c + 1) else if (k_lvl env o).isSome = true then some (c + 2) else none
    | none => none
theorem k_cats_ok (he : k_env τ ρ env) : ∀ {ops : List kOp} {as : List Value} {c : Nat}, k_cats env ops = some c → ops.map (k_v ρ) = as.map some → (as.map fun v => v.category).sum = c
  | [], [], c, e, _ => by cases e; rfl
  | [], a :: r, _, _, h => by simp at h
  | o :: r, [], _, _, h => by simp at h
  | o :: r, a :: as, c, e, h => by
    simp only [List.map_cons, List.cons.injEq] at h
    unfold k_cats at e
    split at e
    · rename_i c' hc'
      have ih := k_cats_ok he hc' h.2
      split at e
      · rename_i z
        cases e
        simp only [List.map_cons, List.sum_cons, ih, k_is1_ok he z h.1]
        omega
      · split at e
        · rename_i z
          cases e
          obtain ⟨b, hb⟩ := Option.isSome_iff_exists.mp z
          obtain ⟨x, hx, -⟩ := k_lvl_ok he hb
          have : a = .long x := Option.some.inj (h.1.symm.trans hx)
          subst this
          have h2 : (Value.long x).category = 2 := rfl
          simp only [List.map_cons, List.sum_cons, ih, h2]
          omega
        · cases e
    · cases e
def k_rfs (rel : List (Nat × Nat × Nat × Nat × Int)) (ops : List kOp) : List (Nat × kInfo) → List (Nat × kInfo) → Option (List (Nat × kInfo))
  | [], env => some env
  | q :: r, env => match ops[q.1]? with
    | some o => match k_refO rel env o q.2 with
      | some e => k_rfs rel ops r e
      | none => none
    | none => k_rfs rel ops r env
theorem k_map_get {ops : List kOp} {as : List Value} (h : ops.map (k_v ρ) = as.map some) {i : Nat} {o : kOp} {w : Value} (ho : ops[i]? = some o) (hw : as[i]? = some w) : k_v ρ o = some w := by
  have h1 : (ops.map (k_v ρ))[i]? = (as.map some)[i]? := by rw [h]
  rw [List.getElem?_map, List.getElem?_map, ho, hw] at h1
  exact Option.some.inj h1
theorem k_rfs_ok {ops : List kOp} {as : List Value} (hr : ∀ q ∈ rel, k_rel ρ q) (hm : ops.map (k_v ρ) = as.map some) (hc : ∀ o ∈ ops, ∀ c, o = .inr c → (Int32.ofInt c).toInt = c) : ∀ {ps : List (Nat × kInfo)} {env : List (Nat × kInfo)}, k_env τ ρ env → (∀ q ∈ ps, ∃ w, as[q.1]? = some w ∧ k_ok τ q.2 w) → ∃ e, k_rfs rel ops ps env = some e ∧ k_env τ ρ e
  | [], env, he, _ => ⟨env, rfl, he⟩
  | q :: r, env, he, hp => by
    obtain ⟨w, w1, w2⟩ := hp q List.mem_cons_self
    have hp' := fun z hz => hp z (List.mem_cons_of_mem _ hz)
    unfold k_rfs
    split
    · rename_i o ho
      obtain ⟨e, e1, e2⟩ := k_refO_ok hr he (k_map_get hm ho w1) w2 (hc o (List.mem_of_getElem? ho))
      rw [e1]
      exact k_rfs_ok hr hm hc e2 hp'
    · exact k_rfs_ok hr hm hc he hp'
def k_pfs (ops : List kOp) : List (Nat × Nat × kInfo) → kSt → Option kSt
  | [], σ => some σ
  | q :: r, (n, env, loc, stk, ff, rel, len, g, par) => if Nat.ble 1000 q.1 = true then k_pfs ops r (n, env, loc, stk, ff, rel, len, (q.1 - 1000) :: g, par) else match ops[q.1]? with
    | some o => match k_obj env o with
      | some p => k_pfs ops r (n + 1, (n, q.2.2) :: env, loc, stk, (p.1, q.2.1, .inl n) :: ff, rel, len, g, par)
      | none => none
    | none => none
theorem k_pfs_ok {ops : List kOp} {as : List Value} : ∀ {ps : List (Nat × Nat × kInfo)} {ρ : Nat → Option Value} {σ σ' : kSt}, ops.map (k_v ρ) = as.map some → k_R E nL τ vs ρ H ls st σ → (∀ q ∈ ps, (q.1 < 1000 → ∃ w, as[q.1]? = some w ∧ k_fo E τ H w q.2.1 q.2.2) ∧ (1000 ≤ q.1 → E.2.2.2.2.2.1 (q.1 - 1000) τ H)) → k_pfs ops ps σ = some σ' → ∃ ρ', k_R E nL τ vs ρ' H ls st σ'
  | [], ρ, σ, σ', _, hR, _, e => by cases e; exact ⟨ρ, hR⟩
  | q :: r, ρ, (n, env, loc, stk, ff, rel, len, g, par), σ', hm, hR, hp, e => by
    unfold k_pfs at e
    split at e
    · rename_i hb
      have hb := Nat.le_of_ble_eq_true hb
      refine k_pfs_ok (σ := (n, env, loc, stk, ff, rel, len, (q.1 - 1000) :: g, par)) hm ?_ (fun z hz => hp z (List.mem_cons_of_mem _ hz)) e
      obtain ⟨k1, k2, k3, k4, k5, k6, k7, k8, k9⟩ := hR
      refine ⟨k1, k2, k3, k4, k5, k6, k7, fun i hi => ?_, k9⟩
      rcases List.mem_cons.mp hi with e' | e'
      · rw [e']; exact (hp q List.mem_cons_self).2 hb
      · exact k8 i e'
    rename_i hb
    have hb : q.1 < 1000 := Nat.lt_of_not_le (fun z => hb (Nat.ble_eq_true_of_le z))
    split at e
    · rename_i o ho
      split at e
      · rename_i p hp2
        obtain ⟨w, w1, a, t, d, v, g1, g2, g3, g4, g5, g6⟩ := (hp q List.mem_cons_self).1 hb
        obtain ⟨ho2, a', ha1, ha2⟩ := k_obj_ok (s := p.1) (t := p.2) (k_envR hR) hp2
        have hv := k_map_get hm ho w1
        subst ho2
        subst g1
        have ea : a' = a := Value.ref.inj (Option.some.inj (ha1.symm.trans hv))
        subst ea
        have hn := k_R_new0 hR g6
        have hu := k_ext_le (v := v) hR.1
        refine k_pfs_ok (k_map_up hu hm) ?_ (fun z hz => hp z (List.mem_cons_of_mem _ hz)) e
        obtain ⟨k1, k2, k3, k4, k5, k6⟩ := hn
        refine ⟨k1, k2, k3, k4, fun z hz => ?_, k6⟩
        rcases List.mem_cons.mp hz with e' | e'
        · subst e'
          exact ⟨a', t, d, v, hu _ _ hv, g2, g3, g4, k_ext_at, g5⟩
        · exact k5 z e'
      · cases e
    · cases e
/-- the state behind a call, by one of its ends; some none: that end can't be -/
def k_aft (A : kAlt) (ops rest : List kOp) : kSt → Option (Option kSt)
  | (n, env, loc, _, ff, rel, len, g, par) => match k_rfs rel ops A.2.1 env with
    | none => some none
    | some env' => match k_pfs ops A.2.2 (n, env', loc, rest, ff, rel, len, g, par) with
      | some σ => match A.1, σ with
        | none, _ => some (some σ)
        | some (.inl b), _ => some (some (k_resI b [] σ))
        | some x, (n', env2, loc', stk', ff', rel', len', g', par') => some (some (n' + 1, (n', x) :: env2, loc', .inl n' :: stk', ff', rel', len', g', par'))
      | none => none
theorem k_aft_ok {A : kAlt} {ops rest : List kOp} {as rs : List Value} {v : Option Value} {r : Option kSt} (hm : ops.map (k_v ρ) = as.map some) (hc : ∀ o ∈ ops, ∀ c, o = .inr c → (Int32.ofInt c).toInt = c) (hR : k_R E nL τ vs ρ H ls rs (n, env, loc, rest, ff, rel, len, g, par)) (hA : k_alt E τ H as v A) (e : k_aft A ops rest (n, env, loc, stk, ff, rel, len, g, par) = some r) : ∃ σ' ρ', r = some σ' ∧ k_R E nL τ vs ρ' H ls (v.toList ++ rs) σ' := by
  obtain ⟨a1, a2, a3⟩ := hA
  unfold k_aft at e
  dsimp only at e
  obtain ⟨env', h1, h2⟩ := k_rfs_ok (k_relR hR) hm hc (k_envR hR) a2
  rw [h1] at e
  dsimp only at e
  split at e
  · rename_i σ hσ
    obtain ⟨ρ', hR'⟩ := k_pfs_ok hm (k_withEnv hR h2) a3 hσ
    obtain ⟨n', env2, loc', stk', ff', rel', len', g', par'⟩ := σ
    split at e
    · rename_i hA1
      cases e
      rw [hA1] at a1
      subst a1
      exact ⟨_, ρ', rfl, hR'⟩
    · rename_i b hA1
      cases e
      rw [hA1] at a1
      obtain ⟨w, w1, x, x1, x2⟩ := a1
      subst w1
      subst x1
      obtain ⟨ρ2, hR2⟩ := k_resI_ok (q := b) (d := []) hR' x2 (fun _ _ _ => k_nod)
      exact ⟨_, ρ2, rfl, hR2⟩
    · rename_i x _ _ _ _ _ _ _ _ _ hA1 he2
      cases e
      cases he2
      rw [hA1] at a1
      obtain ⟨w, w1, w2⟩ := a1
      subst w1
      exact ⟨_, _, rfl, k_R_new hR' w2⟩
  · cases e
def k_afts (t : Nat) (ops rest : List kOp) (σ : kSt) : List kAlt → Option (List (Nat × kSt))
  | [] => some []
  | A :: r => match k_aft A ops rest σ, k_afts t ops rest σ r with
    | some (some s), some l => some ((t, s) :: l)
    | some none, some l => some l
    | _, _ => none
theorem k_afts_mem {t : Nat} {ops rest : List kOp} {σ : kSt} : ∀ {As : List kAlt} {l : List (Nat × kSt)}, k_afts t ops rest σ As = some l → ∀ A ∈ As, ∃ r, k_aft A ops rest σ = some r ∧ ∀ s, r = some s → (t, s) ∈ l
  | [], l, _, A, h => by cases h
  | B :: r, l, e, A, h => by
    unfold k_afts at e
    split at e
    · rename_i s l' h1 h2
      cases e
      rcases List.mem_cons.mp h with z | z
      · subst z
        exact ⟨some s, h1, fun s' hs => by cases hs; exact List.mem_cons_self⟩
      · obtain ⟨r', g1, g2⟩ := k_afts_mem h2 A z
        exact ⟨r', g1, fun s' hs => List.mem_cons_of_mem _ (g2 s' hs)⟩
    · rename_i l' h1 h2
      cases e
      rcases List.mem_cons.mp h with z | z
      · subst z
        exact ⟨none, h1, fun s' hs => by cases hs⟩
      · exact k_afts_mem h2 A z
    · cases e
theorem k_map_get2 {ops : List kOp} {as : List Value} (h : ops.map (k_v ρ) = as.map some) {i : Nat} {o : kOp} (ho : ops[i]? = some o) : ∃ w, as[i]? = some w ∧ k_v ρ o = some w := by
  have h1 : (ops.map (k_v ρ))[i]? = (as.map some)[i]? := by rw [h]
  rw [List.getElem?_map, List.getElem?_map, ho] at h1
  cases hz : as[i]? with
  | none => rw [hz] at h1; cases h1
  | some w =>
    rw [hz] at h1
    exact ⟨w, rfl, Option.some.inj h1⟩
/-- the facts that a contract asks for ahead of the call -/
def k_prc (TT : List kDesc) : List (Nat × Nat × kInfo) → List kOp → kSt → Option kSt
  | [], _, σ => some σ
  | q :: r, ops, (n, env, loc, stk, ff, rel, len, g, par) => match ops[q.1]? with
    | some o => match k_obj env o with
      | some p => match TT[p.2]? with
        | some (.inl d) => match k_rd p.1 q.2.1 d.2 (n, env, loc, stk, ff, rel, len, g, par) with
          | some x => if k_has x.2.2.1 x.1 q.2.2 = true then k_prc TT r (ops ++ [x.1]) x.2 else none
          | none => none
        | _ => none
      | none => none
    | none => none
theorem k_prc_ok (hE : k_Eok E) (hH : k_HT E τ H) : ∀ {fs : List (Nat × Nat × kInfo)} {ops : List kOp} {as : List Value} {ρ : Nat → Option Value} {σ σ' : kSt}, ops.map (k_v ρ) = as.map some → k_R E nL τ vs ρ H ls st σ → k_prc E.2.2.2.1 fs ops σ = some σ' → ∃ ρ', k_le' ρ ρ' ∧ k_R E nL τ vs ρ' H ls st σ' ∧ k_prF E τ H fs as
  | [], ops, as, ρ, σ, σ', _, hR, e => by cases e; exact ⟨ρ, fun _ _ h => h, hR, trivial⟩
  | q :: r, ops, as, ρ, (n, env, loc, stk, ff, rel, len, g, par), σ', hm, hR, e => by
    unfold k_prc at e
    split at e
    · rename_i o ho
      split at e
      · rename_i p hp
        split at e
        · rename_i d hd
          split at e
          · rename_i x hx
            split at e
            · rename_i hh
              obtain ⟨o', n', env', loc', stk', ff', rel', len', g', par'⟩ := x
              obtain ⟨ho2, a, ha1, ha2⟩ := k_obj_ok (s := p.1) (t := p.2) (k_envR hR) hp
              obtain ⟨ρ1, w, hu, hR1, hw, hkl, hfl⟩ := k_rd_ok (o := o') hE hH ha1 ha2 hd hR hx
              obtain ⟨u, u1, u2⟩ := k_has_ok (k_envR hR1) hh
              have : u = w := Option.some.inj (u1.symm.trans hw)
              subst this
              obtain ⟨v, v1, v2⟩ := k_map_get2 hm ho
              subst ho2
              have hva : v = .ref a := Option.some.inj (v2.symm.trans ha1)
              subst hva
              have hm2 : (ops ++ [o']).map (k_v ρ1) = (as ++ [u]).map some := by
                rw [List.map_append, List.map_append, k_map_up hu hm]
                simp only [List.map_cons, List.map_nil]
                rw [hw]
              obtain ⟨ρ2, hu2, hR2, hpr⟩ := k_prc_ok hE hH hm2 hR1 e
              exact ⟨ρ2, fun i w h => hu2 i w (hu i w h), hR2, .ref a, u, v1, ⟨a, p.2, d, rfl, ha2, hd, hkl, hfl⟩, u2, hpr⟩
            · cases e
          · cases e
        · cases e
      · cases e
    · cases e
/-- a call by the contract K -/
def k_cl1 (TT : List kDesc) (GS : Nat → List (Nat × Nat)) (mods : List (Nat × Nat)) (pc : Nat) (K : kCtr) : kSt → Option (List (Nat × kSt))
  | (n0, env0, loc0, stk0, ff0, rel0, len0, g0, par0) => if k_args env0 (stk0.take K.1.length).reverse K.1 = true then (match k_prc TT K.2.1 (stk0.take K.1.length).reverse (n0, env0, loc0, stk0, ff0, rel0, len0, g0, par0) with
    | some (n, env, loc, stk, ff, rel, len, g, par) => match k_cats env (stk.drop K.1.length) with
      | some c => if ((k_args env (stk.take K.1.length).reverse K.1 && Nat.ble c 8) && (k_sub1 K.2.2.2.2.1 g && k_sub2 K.2.2.2.1 mods)) = true then
          k_afts (pc + 3) (stk.take K.1.length).reverse (stk.drop K.1.length) (n, env, loc, [], k_keep env K.2.2.2.1 ff, rel, k_keepA env K.2.2.2.1 len, K.2.2.2.2.2 ++ k_gk GS K.2.2.2.1 g, par) K.2.2.1 else none
      | none => none
    | none => none) else none
def k_g11 (TT : List kDesc) (GS : Nat → List (Nat × Nat)) (mods : List (Nat × Nat)) (pc : Nat) (σ : kSt) : List (Nat × kCtr) → Option (List (Nat × kSt))
  | [] => none
  | q :: r => if Nat.beq q.1 pc = true then (match k_cl1 TT GS mods pc q.2 σ with
    | some l => some l
    | none => k_g11 TT GS mods pc σ r) else k_g11 TT GS mods pc σ r
theorem k_cl1_ok {K : kCtr} {σ : kSt} {l : List (Nat × kSt)} (hE : k_Eok E) (hcall : k_call X E nL τ K pc) (e : k_cl1 E.2.2.2.1 E.2.2.2.2.2.2 mods pc K σ = some l) (hk : ∀ q ∈ l, k_good X E nL τ vs mods H0 q.1 q.2) : k_good X E nL τ vs mods H0 pc σ := by
  obtain ⟨n0, env0, loc0, stk0, ff0, rel0, len0, g0, par0⟩ := σ
  intro ρ0 H locs ls st hH hW hR0
  unfold k_cl1 at e
  dsimp only at e
  split at e
  · split at e
    · rename_i n env loc stk ff rel len g par hprc
      have hops0 : ((stk0.take K.1.length).reverse).map (k_v ρ0) = ((st.take K.1.length).reverse).map some := by
        have hst0 : stk0.map (k_v ρ0) = st.map some := hR0.2.2.2.1
        rw [List.map_reverse, List.map_reverse, List.map_take, List.map_take, hst0]
      obtain ⟨ρ, hu, hR, hprF⟩ := k_prc_ok hE hH hops0 hR0 hprc
      have he := k_envR hR
      split at e
      · rename_i c hc
        split at e
        · rename_i hb
          rw [Bool.and_eq_true, Bool.and_eq_true, Bool.and_eq_true, k_sub1_iff, k_sub2_iff] at hb
          obtain ⟨⟨b1, b2⟩, b4, b5⟩ := hb
          have hst : stk.map (k_v ρ) = st.map some := hR.2.2.2.1
          have hops : ((stk.take K.1.length).reverse).map (k_v ρ) = ((st.take K.1.length).reverse).map some := by
            rw [List.map_reverse, List.map_reverse, List.map_take, List.map_take, hst]
          have hrest : (stk.drop K.1.length).map (k_v ρ) = (st.drop K.1.length).map some := by
            rw [List.map_drop, List.map_drop, hst]
          obtain ⟨l1, l2, l3⟩ := k_args_ok he b1 hops
          have hpre : k_pre E τ H K (st.take K.1.length).reverse := ⟨l1, l2, hprF, fun i hi => hR.2.2.2.2.2.2.2.1 i (b4 i hi)⟩
          have hsplit : st = (st.take K.1.length).reverse.reverse ++ st.drop K.1.length := by rw [List.reverse_reverse, List.take_append_drop]
          rw [hsplit]
          refine hcall H locs ls _ _ hH hpre (by rw [k_cats_ok he hc hrest]; exact Nat.le_of_ble_eq_true b2) hR.2.2.1.1 hW.2 (fun H' L v hpost hL => ?_)
          obtain ⟨p1, p2, p3, A, hA, hA2⟩ := hpost
          have hR1' : k_R E nL τ vs ρ H ls (st.drop K.1.length) (n, env, loc, stk.drop K.1.length, ff, rel, len, g, par) := ⟨hR.1, hR.2.1, hR.2.2.1, hrest, hR.2.2.2.2⟩
          have hR1 := k_R_move hE hH p2 hR1'
          have hR2 : k_R E nL τ vs ρ H' ls (st.drop K.1.length) (n, env, loc, stk.drop K.1.length, k_keep env K.2.2.2.1 ff, rel, k_keepA env K.2.2.2.1 len, K.2.2.2.2.2 ++ k_gk E.2.2.2.2.2.2 K.2.2.2.1 g, par) := by
            obtain ⟨k1, k2, k3, k4, k5, k6, k7, k8, k9⟩ := hR1
            refine ⟨k1, k2, k3, k4, k5, k6, k7, fun i hi => ?_, k9⟩
            rcases List.mem_append.mp hi with z | z
            · exact p3 i z
            · exact k8 i z
          obtain ⟨r, r1, r2⟩ := k_afts_mem e A hA
          obtain ⟨σ', ρ', s1, s2⟩ := k_aft_ok hops l3 hR2 hA2 r1
          refine hk _ (r2 σ' s1) ρ' H' _ ls _ p1 ⟨k_fr_trans hW.1 p2 b5, fun z hz => ?_⟩ s2
          rcases List.mem_append.mp hz with e' | e'
          · exact hW.2 z e'
          · exact hL z e'
        · cases e
      · cases e
    · cases e
  · cases e
theorem k_g11_ok {σ : kSt} {l : List (Nat × kSt)} (hE : k_Eok E) : ∀ {CT : List (Nat × kCtr)}, (∀ q ∈ CT, k_call X E nL τ q.2 q.1) → k_g11 E.2.2.2.1 E.2.2.2.2.2.2 mods pc σ CT = some l → (∀ q ∈ l, k_good X E nL τ vs mods H0 q.1 q.2) → k_good X E nL τ vs mods H0 pc σ
  | [], _, e, _ => by cases e
  | q :: r, hCT, e, hk => by
    unfold k_g11 at e
    have hr := fun z hz => hCT z (List.mem_cons_of_mem _ hz)
    split at e
    · rename_i c
      have c := Nat.eq_of_beq_eq_true c
      split at e
      · rename_i l' h
        cases e
        have hq := hCT q List.mem_cons_self
        rw [c] at hq
        exact k_cl1_ok hE hq h hk
      · exact k_g11_ok hE hr e hk
    · exact k_g11_ok hE hr e hk
-- 12: returns
def k_rty : Nat → Option FieldType
  | 0 => none
  | 1 => some .int
  | 2 => some .boolean
  | 4 => some .byte
  | 5 => some .char
  | _ => some .long
def k_Qc (E : kE) (τ : kTau) (K : kCtr) (ps : List Value) : Array Value → State → Outcome → State → Prop := fun _ st o t => ∃ v, o = .returned v ∧ k_post E τ st.heap t.heap K ps v
def k_ra (TT : List kDesc) (env : List (Nat × kInfo)) (ff : List (Nat × Nat × kOp)) (g : List Nat) (par : List kOp) (o : Option kOp) (A : kAlt) : Bool := (match A.1, o with
  | none, none => true
  | some x, some o => k_has env o x
  | _, _ => false) && ((A.2.1.all (fun q => match par[q.1]? with
    | some o => k_has env o q.2
    | none => false)) && (A.2.2.all (fun q => if Nat.ble 1000 q.1 = true then k_mem1 (q.1 - 1000) g else match par[q.1]? with
    | some o => k_fhas TT env ff o q.2.1 q.2.2
    | none => false)))
theorem k_ra_ok {o : Option kOp} {v : Option Value} {A : kAlt} {ps : List Value} (hE : k_Eok E) (hH : k_HT E τ H) (hR : k_R E nL τ vs ρ H ls st (n, env, loc, stk, ff, rel, len, g, par)) (hps : ∀ (i : Nat) (w : Value), vs[i]? = some w → i < ps.length → ps[i]? = some w) (hA : ∀ q ∈ A.2.1, q.1 < ps.length) (hA2 : ∀ q ∈ A.2.2, q.1 < 1000 → q.1 < ps.length) (ho : ∀ o', o = some o' → ∃ w, v = some w ∧ k_v ρ o' = some w) (hn : o = none → v = none) (e : k_ra E.2.2.2.1 env ff g par o A = true) : k_alt E τ H ps v A := by
  have he := k_envR hR
  have hpar : par.map (k_v ρ) = vs.map some := hR.2.2.2.2.2.2.2.2
  unfold k_ra at e
  rw [Bool.and_eq_true, Bool.and_eq_true, List.all_eq_true, List.all_eq_true] at e
  obtain ⟨e1, e2, e3⟩ := e
  refine ⟨?_, fun q hq => ?_, fun q hq => ?_⟩
  · split at e1
    · rename_i h1
      rw [h1]
      exact hn rfl
    · rename_i x o' h1
      rw [h1]
      obtain ⟨w, w1, w2⟩ := ho o' rfl
      obtain ⟨u, u1, u2⟩ := k_has_ok he e1
      have : u = w := Option.some.inj (u1.symm.trans w2)
      subst this
      exact ⟨u, w1, u2⟩
    · cases e1
  · have := e2 q hq
    split at this
    · rename_i o' h1
      obtain ⟨w, w1, w2⟩ := k_map_get2 hpar h1
      obtain ⟨u, u1, u2⟩ := k_has_ok he this
      have : u = w := Option.some.inj (u1.symm.trans w2)
      subst this
      exact ⟨u, hps _ _ w1 (hA q hq), u2⟩
    · cases this
  · have := e3 q hq
    split at this
    · rename_i hb
      have hb := Nat.le_of_ble_eq_true hb
      exact ⟨fun z => absurd z (by omega), fun _ => hR.2.2.2.2.2.2.2.1 _ (k_mem1_iff.mp this)⟩
    rename_i hb
    have hb : q.1 < 1000 := Nat.lt_of_not_le (fun z => hb (Nat.ble_eq_true_of_le z))
    refine ⟨fun _ => ?_, fun z => absurd z (by omega)⟩
    split at this
    · rename_i o' h1
      obtain ⟨w, w1, w2⟩ := k_map_get2 hpar h1
      obtain ⟨u, u1, u2⟩ := k_fhas_ok hE hH he hR.2.2.2.2.1 this
      have : u = w := Option.some.inj (u1.symm.trans w2)
      subst this
      exact ⟨u, hps _ _ w1 (hA2 q hq hb), u2⟩
    · cases this
def k_g12 (TT : List kDesc) (K : kCtr) (rk : Nat) (i : Instr) (L : Nat) : kSt → Option (List (Nat × kSt))
  | (_, env, _, stk, ff, _, _, g, par) => if (Nat.beq L 1 && (k_sub1 K.2.2.2.2.2 g && K.2.2.1.all (fun A => A.2.1.all (fun q => Nat.blt q.1 K.1.length) && A.2.2.all (fun q => Nat.ble 1000 q.1 || Nat.blt q.1 K.1.length)))) = true then (match i, stk, rk with
    | .return_, [], 0 => if K.2.2.1.any (k_ra TT env ff g par none) = true then some [] else none
    | .ireturn, [o], 1 => if ((k_ivl env o).isSome && K.2.2.1.any (k_ra TT env ff g par (some o))) = true then some [] else none
    | .ireturn, [o], 2 => if (k_has env o (.inl (0, 1)) && K.2.2.1.any (k_ra TT env ff g par (some o))) = true then some [] else none
    | .lreturn, [o], 3 => if ((k_lvl env o).isSome && K.2.2.1.any (k_ra TT env ff g par (some o))) = true then some [] else none
    | _, _, _ => none) else none
theorem k_g12_ok {K : kCtr} {rk : Nat} {i : Instr} {L : Nat} {σ : kSt} {l : List (Nat × kSt)} {ps : List Value} (hF : k_Fx X cc nL own) (hE : k_Eok E) (hr : X.2.2.2.2.2.2.2.2.1.sig.returnType = k_rty rk) (hlk : X.2.2.2.2.2.2.2.2.1.locks = false) (hQ : X.2.2.2.2.2.2.2.2.2.2 = MQ X.2.2.2.2.2.2.2.1 (k_Qc E τ K ps) X.2.2.2.2.2.2.1 X.2.2.2.2.1 0 0 (fun q => E.2.2.2.2.1 ≤ q)) (hm : mods = K.2.2.2.1) (h0 : H0 = X.2.2.2.2.1.heap)
    (hl : ps.length = K.1.length) (hps : ∀ (i : Nat) (w : Value), vs[i]? = some w → i < ps.length → ps[i]? = some w) (hd : decode cc pc = .ok (i, L)) (e : k_g12 E.2.2.2.1 K rk i L σ = some l) : k_good X E nL τ vs mods H0 pc σ := by
  obtain ⟨n, env, loc, stk, ff, rel, len, g, par⟩ := σ
  intro ρ H locs ls st hH hW hR
  have he := k_envR hR
  unfold k_g12 at e
  dsimp only at e
  split at e
  · rename_i c
    rw [Bool.and_eq_true, Bool.and_eq_true, k_sub1_iff, List.all_eq_true] at c
    obtain ⟨c1, c2, c3⟩ := c
    have c1 := Nat.eq_of_beq_eq_true c1
    subst c1
    have key : ∀ (o : Option kOp) (v : Option Value), K.2.2.1.any (k_ra E.2.2.2.1 env ff g par o) = true → (∀ o', o = some o' → ∃ w, v = some w ∧ k_v ρ o' = some w) → (o = none → v = none) → ∀ t : State, t.heap = H → k_Qc E τ K ps X.2.2.2.2.2.2.1 X.2.2.2.2.1 (.returned v) t := by
      intro o v ha ho hn t ht
      rw [List.any_eq_true] at ha
      obtain ⟨A, hA, hA2⟩ := ha
      have hA3 := c3 A hA
      rw [Bool.and_eq_true, List.all_eq_true, List.all_eq_true] at hA3
      refine ⟨v, rfl, ?_, ?_, ?_, A, hA, ?_⟩
      · rw [ht]; exact hH
      · rw [ht, ← hm, ← h0]; exact hW.1
      · intro j hj
        rw [ht]
        exact hR.2.2.2.2.2.2.2.1 j (c2 j hj)
      · rw [ht]
        exact k_ra_ok hE hH hR hps (fun q hq => by rw [hl]; exact Nat.le_of_ble_eq_true (hA3.1 q hq)) (fun q hq hb => by
          rw [hl]
          have hz := hA3.2 q hq
          rw [Bool.or_eq_true] at hz
          rcases hz with hz | hz
          · have := Nat.le_of_ble_eq_true hz
            omega
          · exact Nat.le_of_ble_eq_true hz) ho hn hA2
    unfold kw
    rw [hQ]
    split at e
    · split at e
      · rename_i ha
        have hst : st = [] := by
          have : ([] : List kOp).map (k_v ρ) = st.map some := hR.2.2.2.1
          simpa using this.symm
        subst hst
        exact W.vret hF.1 hF.2.1 hr (fun t ht _ => key none none ha (fun _ h => by cases h) (fun _ => rfl) t ht) hW.2 hd hlk
      · cases e
    · split at e
      · rename_i ha
        rw [Bool.and_eq_true] at ha
        obtain ⟨v, rs, rfl, hv, hR2⟩ := k_pop hR
        have hrs : rs = [] := by
          have : ([] : List kOp).map (k_v ρ) = rs.map some := hR2.2.2.2.1
          simpa using this.symm
        subst hrs
        obtain ⟨b, hb⟩ := Option.isSome_iff_exists.mp ha.1
        obtain ⟨x, hx, -⟩ := k_ivl_ok he hb
        cases hv.symm.trans hx
        exact W.iret hF.1 hF.2.1 hr (fun t ht _ => key _ _ ha.2 (fun o' h => by cases h; exact ⟨_, rfl, hv⟩) (fun h => by cases h) t ht) hW.2 hd hlk
      · cases e
    · split at e
      · rename_i ha
        rw [Bool.and_eq_true] at ha
        obtain ⟨v, rs, rfl, hv, hR2⟩ := k_pop hR
        have hrs : rs = [] := by
          have : ([] : List kOp).map (k_v ρ) = rs.map some := hR2.2.2.2.1
          simpa using this.symm
        subst hrs
        obtain ⟨w, hw, x, hx, hx2⟩ := k_has_ok he ha.1
        cases hv.symm.trans hw
        subst hx
        exact W.zret hF.1 hF.2.1 hr (k_nz01 hx2) (fun t ht _ => key _ _ ha.2 (fun o' h => by cases h; exact ⟨_, rfl, hv⟩) (fun h => by cases h) t ht) hW.2 hd hlk
      · cases e
    · split at e
      · rename_i ha
        rw [Bool.and_eq_true] at ha
        obtain ⟨v, rs, rfl, hv, hR2⟩ := k_pop hR
        have hrs : rs = [] := by
          have : ([] : List kOp).map (k_v ρ) = rs.map some := hR2.2.2.2.1
          simpa using this.symm
        subst hrs
        obtain ⟨b, hb⟩ := Option.isSome_iff_exists.mp ha.1
        obtain ⟨x, hx, -⟩ := k_lvl_ok he hb
        cases hv.symm.trans hx
        exact W.lret hF.1 hF.2.1 hr (fun t ht _ => key _ _ ha.2 (fun o' h => by cases h; exact ⟨_, rfl, hv⟩) (fun h => by cases h) t ht) hW.2 hd hlk
      · cases e
    · cases e
  · cases e
end KC
