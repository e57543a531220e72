/-! ===== steps on the heap ===== -/
section KM
variable {X : kX} {E : kE} {nL : Nat} {τ : kTau} {vs : List Value} {mods : List (Nat × Nat)} {H0 : Heap} {cc : ByteArray} {own : String} {pc : Nat}
variable {ρ : Nat → Option Value} {H : Heap} {locs : List Loc} {ls : Array Slot} {st : List Value} {n : Nat} {env : List (Nat × kInfo)} {loc : List (Nat × kOp)} {stk : List kOp} {ff : List (Nat × Nat × kOp)} {rel : List (Nat × Nat × Nat × Nat × Int)} {len : List (Nat × Nat)} {g : List Nat} {par : List kOp}
def k_join : kInfo → kInfo → Option kInfo
  | .inl p, .inl q => some (.inl (k_min p.1 q.1, k_max p.2 q.2))
  | .inr (.inl p), .inr (.inl q) => some (.inr (.inl (k_min p.1 q.1, k_max p.2 q.2)))
  | .inr (.inr (.inl p)), .inr (.inr (.inl q)) => some (.inr (.inr (.inl (p.1 || q.1, p.2 ++ q.2))))
  | _, _ => none
theorem k_min_l (a b : Int) : k_min a b ≤ a := by
  unfold k_min; split
  · exact Int.le_refl _
  · rename_i h
    have : ¬ a ≤ b := fun z => h (k_le_iff.mpr z)
    omega
theorem k_min_r (a b : Int) : k_min a b ≤ b := by
  unfold k_min; split
  · rename_i h; exact k_le_iff.mp h
  · exact Int.le_refl _
theorem k_max_l (a b : Int) : a ≤ k_max a b := by
  unfold k_max; split
  · rename_i h; exact k_le_iff.mp h
  · exact Int.le_refl _
theorem k_max_r (a b : Int) : b ≤ k_max a b := by
  unfold k_max; split
  · exact Int.le_refl _
  · rename_i h
    have : ¬ a ≤ b := fun z => h (k_le_iff.mpr z)
    omega
theorem k_join_l {x y z : kInfo} {v : Value} (e : k_join x y = some z) (h : k_ok τ x v) : k_ok τ z v := by
  unfold k_join at e
  split at e
  · rename_i p q
    cases e
    obtain ⟨w, h1, h2⟩ := h
    exact ⟨w, h1, Int.le_trans (k_min_l _ _) h2.1, Int.le_trans h2.2 (k_max_l _ _)⟩
  · rename_i p q
    cases e
    obtain ⟨w, h1, h2⟩ := h
    exact ⟨w, h1, Int.le_trans (k_min_l _ _) h2.1, Int.le_trans h2.2 (k_max_l _ _)⟩
  · rename_i p q
    cases e
    rcases h with ⟨h1, h2⟩ | ⟨a, t, h1, h2, h3⟩
    · exact Or.inl ⟨by show (p.1 || q.1) = true; rw [h1]; rfl, h2⟩
    · exact Or.inr ⟨a, t, h1, List.mem_append_left _ h2, h3⟩
  · cases e
theorem k_join_r {x y z : kInfo} {v : Value} (e : k_join x y = some z) (h : k_ok τ y v) : k_ok τ z v := by
  unfold k_join at e
  split at e
  · rename_i p q
    cases e
    obtain ⟨w, h1, h2⟩ := h
    exact ⟨w, h1, Int.le_trans (k_min_r _ _) h2.1, Int.le_trans h2.2 (k_max_r _ _)⟩
  · rename_i p q
    cases e
    obtain ⟨w, h1, h2⟩ := h
    exact ⟨w, h1, Int.le_trans (k_min_r _ _) h2.1, Int.le_trans h2.2 (k_max_r _ _)⟩
  · rename_i p q
    cases e
    rcases h with ⟨h1, h2⟩ | ⟨a, t, h1, h2, h3⟩
    · exact Or.inl ⟨by show (p.1 || q.1) = true; rw [h1]; cases p.1 <;> rfl, h2⟩
    · exact Or.inr ⟨a, t, h1, List.mem_append_right _ h2, h3⟩
  · cases e
/-- what places lo to hi of an array have in common -/
def k_elr (d : kInfo) (lo hi : Nat) : List (Nat × Nat × kInfo) → Option kInfo
  | [] => some d
  | q :: r => if (Nat.ble q.1 lo && Nat.ble hi q.2.1) = true then some q.2.2 else if (Nat.blt hi q.1 || Nat.blt q.2.1 lo) = true then k_elr d lo hi r else match k_elr d lo hi r with
    | some y => k_join q.2.2 y
    | none => none
theorem k_elr_ok {d : kInfo} {lo hi j : Nat} {v : Value} (h1 : lo ≤ j) (h2 : j ≤ hi) : ∀ {exc : List (Nat × Nat × kInfo)} {x : kInfo}, k_elr d lo hi exc = some x → k_ok τ (k_el exc d j) v → k_ok τ x v
  | [], x, e, h => by cases e; exact h
  | q :: r, x, e, h => by
    unfold k_elr at e
    unfold k_el at h
    split at e
    · rename_i c
      rw [Bool.and_eq_true] at c
      have c1 := Nat.le_of_ble_eq_true c.1
      have c2 := Nat.le_of_ble_eq_true c.2
      cases e
      rw [if_pos (by rw [Bool.and_eq_true]; exact ⟨Nat.ble_eq_true_of_le (by omega), Nat.ble_eq_true_of_le (by omega)⟩)] at h
      exact h
    · split at e
      · rename_i c
        rw [Bool.or_eq_true] at c
        rw [if_neg (by
          rw [Bool.and_eq_true]
          rintro ⟨z1, z2⟩
          have z1 := Nat.le_of_ble_eq_true z1
          have z2 := Nat.le_of_ble_eq_true z2
          rcases c with c | c
          · have := Nat.le_of_ble_eq_true (show Nat.ble (hi + 1) q.1 = true from c)
            omega
          · have := Nat.le_of_ble_eq_true (show Nat.ble (q.2.1 + 1) lo = true from c)
            omega)] at h
        exact k_elr_ok h1 h2 e h
      · split at e
        · rename_i y hy
          split at h
          · exact k_join_l e h
          · exact k_join_r e (k_elr_ok h1 h2 hy h)
        · cases e
/-- a value that each of the places lo to hi takes -/
def k_elw (d : kInfo) (lo hi : Nat) (x : kInfo) : List (Nat × Nat × kInfo) → Bool
  | [] => k_isub x d
  | q :: r => if (Nat.ble q.1 lo && Nat.ble hi q.2.1) = true then k_isub x q.2.2 else if (Nat.blt hi q.1 || Nat.blt q.2.1 lo) = true then k_elw d lo hi x r else k_isub x q.2.2 && k_elw d lo hi x r
theorem k_elw_ok {d : kInfo} {lo hi j : Nat} {v : Value} {x : kInfo} (h1 : lo ≤ j) (h2 : j ≤ hi) (h : k_ok τ x v) : ∀ {exc : List (Nat × Nat × kInfo)}, k_elw d lo hi x exc = true → k_ok τ (k_el exc d j) v
  | [], e => k_isub_ok e h
  | q :: r, e => by
    unfold k_elw at e
    unfold k_el
    split at e
    · rename_i c
      rw [Bool.and_eq_true] at c
      have c1 := Nat.le_of_ble_eq_true c.1
      have c2 := Nat.le_of_ble_eq_true c.2
      rw [if_pos (by rw [Bool.and_eq_true]; exact ⟨Nat.ble_eq_true_of_le (by omega), Nat.ble_eq_true_of_le (by omega)⟩)]
      exact k_isub_ok e h
    · split at e
      · rename_i c
        rw [Bool.or_eq_true] at c
        rw [if_neg (by
          rw [Bool.and_eq_true]
          rintro ⟨z1, z2⟩
          have z1 := Nat.le_of_ble_eq_true z1
          have z2 := Nat.le_of_ble_eq_true z2
          rcases c with c | c
          · have := Nat.le_of_ble_eq_true (show Nat.ble (hi + 1) q.1 = true from c)
            omega
          · have := Nat.le_of_ble_eq_true (show Nat.ble (q.2.1 + 1) lo = true from c)
            omega)]
        exact k_elw_ok h1 h2 h e
      · rw [Bool.and_eq_true] at e
        split
        · exact k_isub_ok e.1 h
        · exact k_elw_ok h1 h2 h e.2
def k_tys (E : kE) : Prop := ∀ (ai : Nat) (cA : ClassId) (ty : FieldType), E.2.2.1[ai]? = some (cA, ty) → (ai = 0 → ty = .int) ∧ (ai = 1 → ty = .byte) ∧ (ai = 2 → ty = .boolean) ∧ (ai = 3 → ty = .long) ∧ (4 ≤ ai → ty.isReference = true)
/-- is the index within: by its bounds, or by a comparing with the length -/
def k_inb (l0 : Nat) (q : kB) (s : Nat) (oi : kOp) (rel : List (Nat × Nat × Nat × Nat × Int)) (len : List (Nat × Nat)) : Bool := k_le 0 q.1 && (k_le (q.2 + 1) (l0 : Int) || (match oi with
  | .inl a => len.any (fun p => Nat.beq p.1 s && rel.any (fun r => Nat.beq r.1 1 && (Nat.beq r.2.1 a && Nat.beq r.2.2.1 p.2)))
  | .inr _ => false))
theorem k_inb_ok {l0 m s : Nat} {q : kB} {oi : kOp} {a : Nat} {cA : ClassId} {f : Nat → Value} {x : Int32} (hR : k_R E nL τ vs ρ H ls st (n, env, loc, stk, ff, rel, len, g, par)) (e : k_inb l0 q s oi rel len = true) (hs : ρ s = some (.ref a)) (hc : H[a]? = some (arrV cA m f)) (hl : l0 ≤ m) (hx : k_v ρ oi = some (.int x)) (hq : k_in q x.toInt) : 0 ≤ x.toInt ∧ x.toInt < (m : Int) := by
  unfold k_inb at e
  rw [Bool.and_eq_true, Bool.or_eq_true, k_le_iff, k_le_iff] at e
  have h1 := hq.1
  have h2 := hq.2
  refine ⟨by omega, ?_⟩
  rcases e.2 with z | z
  · omega
  · split at z
    · rename_i b
      rw [List.any_eq_true] at z
      obtain ⟨p, hp, z⟩ := z
      rw [Bool.and_eq_true, List.any_eq_true] at z
      obtain ⟨z1, r, hr, z2⟩ := z
      rw [Bool.and_eq_true, Bool.and_eq_true] at z2
      have e1 := Nat.eq_of_beq_eq_true z1
      have e2 := Nat.eq_of_beq_eq_true z2.1
      have e3 := Nat.eq_of_beq_eq_true z2.2.1
      have e4 := Nat.eq_of_beq_eq_true z2.2.2
      obtain ⟨a', t', d', cA', m', f', y', g1, g2, g3, g4, g5, g6⟩ := hR.2.2.2.2.2.2.1 p hp
      obtain ⟨x1, y1, j1, j2, j3⟩ := (k_relR hR r hr).2.1 e2
      rw [e1, hs] at g1
      have ea : a = a' := Value.ref.inj (Option.some.inj g1)
      subst ea
      rw [hc] at g4
      have em : m = m' := by
        have := congrArg (fun c : Cell => c.slots.size) (Option.some.inj g4)
        simpa [arrV_size] using this
      subst em
      rw [e3] at j1
      have ex : x1 = x := Value.int.inj (Option.some.inj (j1.symm.trans hx))
      subst ex
      rw [e4, g5] at j2
      have ey : y' = y1 := Value.int.inj (Option.some.inj j2)
      subst ey
      omega
    · cases z
theorem k_idx {x : Int32} {m : Nat} (h : 0 ≤ x.toInt ∧ x.toInt < (m : Int)) (cA : ClassId) (f : Nat → Value) : ¬ (x < 0 ∨ (arrV cA m f).slots.size ≤ x.toNatClampNeg) := by
  rw [arrV_size]
  exact vp_in_iff.mpr h
theorem k_clamp {x : Int32} (h : 0 ≤ x.toInt) : x.toNatClampNeg = x.toInt.toNat := rfl
def k_alk : Instr → Nat → Bool
  | .iaload, 0 => true
  | .baload, 1 => true
  | .baload, 2 => true
  | .laload, 3 => true
  | .aaload, _ + 4 => true
  | _, _ => false
theorem k_aldW {i : Instr} {a m : Nat} {ai : Nat} {cA : ClassId} {ty : FieldType} {f : Nat → Value} {x : Int32} (hF : k_Fx X cc nL own) (hK : va_K E.1 E.2.1 E.2.2.1 X.2.2.2.2.1) (hT : k_tys E) (hd : decode cc pc = .ok (i, 1)) (e : k_alk i ai = true) (h1 : E.2.2.1[ai]? = some (cA, ty)) (hc : H[a]? = some (arrV cA m f)) (hx : 0 ≤ x.toInt ∧ x.toInt < (m : Int))
    (k : kw X H locs (pc + 1) ls (f x.toInt.toNat :: st)) : kw X H locs pc ls (.int x :: .ref a :: st) := by
  have harr := (hK.2 ai _ h1).1 m f
  have hty := hT ai cA ty h1
  have hin := k_idx hx cA f
  have hv : (arrV cA m f).slots[x.toNatClampNeg]? = some (f x.toInt.toNat) := arrV_read cA f (by rw [k_clamp hx.1]; omega)
  unfold k_alk at e
  split at e
  · obtain ⟨rfl⟩ := hty.1 rfl
    exact W.iald hF.1 hF.2.1 hc harr (fun z => by cases z) hin hv rfl rfl hd k
  · obtain ⟨rfl⟩ := hty.2.1 rfl
    exact W.bald hF.1 hF.2.1 hc harr (fun z => by cases z) hin hv rfl rfl hd k
  · obtain ⟨rfl⟩ := hty.2.2.1 rfl
    exact W.zald hF.1 hF.2.1 hc harr (fun z => by cases z) hin hv rfl rfl hd k
  · obtain ⟨rfl⟩ := hty.2.2.2.1 rfl
    exact W.lald hF.1 hF.2.1 hc harr (fun z => by cases z) hin hv rfl rfl hd k
  · exact W.aald hF.1 hF.2.1 hc harr (hty.2.2.2.2 (by omega)) (fun z => by cases z) hin hv rfl rfl hd k
  · cases e
def k_g8 (TT : List kDesc) (pc : Nat) (i : Instr) (L : Nat) : kSt → Option (List (Nat × kSt))
  | (n, env, loc, oi :: oa :: r, ff, rel, len, g, par) => if Nat.beq L 1 = true then (match k_ivl env oi, k_obj env oa with
    | some q, some p => match TT[p.2]? with
      | some (.inr d) => if (k_alk i d.1 && k_inb d.2.1 q p.1 oi rel len) = true then (match k_elr d.2.2.2.2 q.1.toNat q.2.toNat d.2.2.2.1 with
        | some (.inl b) => some [(pc + 1, k_resI b [] (n, env, loc, r, ff, rel, len, g, par))]
        | some x => some [(pc + 1, (n + 1, (n, x) :: env, loc, .inl n :: r, ff, rel, len, g, par))]
        | none => none) else none
      | _ => none
    | _, _ => none) else none
  | _ => none
theorem k_g8_ok {i : Instr} {L : Nat} {σ : kSt} {l : List (Nat × kSt)} (hF : k_Fx X cc nL own) (hK : va_K E.1 E.2.1 E.2.2.1 X.2.2.2.2.1) (hT : k_tys E) (hd : decode cc pc = .ok (i, L)) (e : k_g8 E.2.2.2.1 pc i L σ = some l) (hk : ∀ q ∈ l, k_good X E nL τ vs mods H0 q.1 q.2) : k_good X E nL τ vs mods H0 pc σ := by
  unfold k_g8 at e
  split at e
  · rename_i n env loc oi oa r ff rel len g par
    intro ρ H locs ls st hH hW hR
    have he := k_envR hR
    split at e
    · rename_i y
      have y := Nat.eq_of_beq_eq_true y
      subst y
      split at e
      · rename_i q p hq hp
        split at e
        · rename_i d hd2
          split at e
          · rename_i c
            rw [Bool.and_eq_true] at c
            obtain ⟨v, rs, rfl, hv, hR2⟩ := k_pop hR
            obtain ⟨v2, rs2, rfl, hv2, hR3⟩ := k_pop hR2
            obtain ⟨x, hx1, hx2⟩ := k_ivl_ok he hq
            obtain ⟨ho, a, ha1, ha2⟩ := k_obj_ok (s := p.1) (t := p.2) he hp
            subst ho
            cases hv.symm.trans hx1
            cases hv2.symm.trans ha1
            obtain ⟨cA, ty, m, f, h1, h2, h3, h4, h5⟩ := k_arr hH ha2 hd2
            have hin := k_inb_ok hR c.2 ha1 h2 h3 hx1 hx2
            have hok := h5 x.toInt.toNat (by omega)
            have hlo : q.1.toNat ≤ x.toInt.toNat := by have := hx2.1; omega
            have hhi : x.toInt.toNat ≤ q.2.toNat := by have := hx2.2; omega
            split at e
            · rename_i b hb
              cases e
              obtain ⟨z, hz, hz2⟩ := k_elr_ok hlo hhi hb hok
              obtain ⟨ρ', hR'⟩ := k_resI_ok (q := b) (d := []) (x := z) hR3 hz2 (fun _ _ _ => k_nod)
              refine k_aldW hF hK hT hd c.1 h1 h2 hin ?_
              rw [hz]
              exact hk _ List.mem_cons_self ρ' H locs ls _ hH hW hR'
            · rename_i w hb
              cases e
              exact k_aldW hF hK hT hd c.1 h1 h2 hin (hk _ List.mem_cons_self _ H locs ls _ hH hW (k_R_new hR3 (k_elr_ok hlo hhi hb hok)))
            · cases e
          · cases e
        · cases e
      · cases e
    · cases e
  · cases e
def k_g8b (TT : List kDesc) (pc : Nat) (i : Instr) (L : Nat) : kSt → Option (List (Nat × kSt))
  | (n, env, loc, oa :: r, ff, rel, len, g, par) => match i with
    | .arraylength => if Nat.beq L 1 = true then (match k_obj env oa with
      | some p => match TT[p.2]? with
        | some (.inr d) => if Nat.ble d.2.2.1 2147483647 = true then some [(pc + 1, (n + 1, (n, .inl ((d.2.1 : Int), (d.2.2.1 : Int))) :: env, loc, .inl n :: r, ff, rel, (p.1, n) :: len, g, par))] else none
        | _ => none
      | none => none) else none
    | _ => none
  | _ => none
theorem k_g8b_ok {i : Instr} {L : Nat} {σ : kSt} {l : List (Nat × kSt)} (hF : k_Fx X cc nL own) (hK : va_K E.1 E.2.1 E.2.2.1 X.2.2.2.2.1) (hd : decode cc pc = .ok (i, L)) (e : k_g8b E.2.2.2.1 pc i L σ = some l) (hk : ∀ q ∈ l, k_good X E nL τ vs mods H0 q.1 q.2) : k_good X E nL τ vs mods H0 pc σ := by
  unfold k_g8b at e
  split at e
  · rename_i n env loc oa r ff rel len g par
    intro ρ H locs ls st hH hW hR
    have he := k_envR hR
    split at e
    · split at e
      · rename_i y
        have y := Nat.eq_of_beq_eq_true y
        subst y
        split at e
        · rename_i p hp
          split at e
          · rename_i d hd2
            split at e
            · rename_i c
              have c := Nat.le_of_ble_eq_true c
              cases e
              obtain ⟨v, rs, rfl, hv, hR2⟩ := k_pop hR
              obtain ⟨ho, a, ha1, ha2⟩ := k_obj_ok (s := p.1) (t := p.2) he hp
              subst ho
              cases hv.symm.trans ha1
              obtain ⟨cA, ty, m, f, h1, h2, h3, h4, h5⟩ := k_arr hH ha2 hd2
              have hm : (Int32.ofNat m).toInt = (m : Int) := nI_toInt (n := m) (by omega)
              have hn := k_R_new hR2 (x := .inl ((d.2.1 : Int), (d.2.2.1 : Int))) (v := .int (Int32.ofNat m)) ⟨_, rfl, by rw [hm]; exact Int.ofNat_le.mpr h3, by rw [hm]; exact Int.ofNat_le.mpr h4⟩
              refine W.alen (n := Int32.ofNat m) hF.1 hF.2.1 h2 ((hK.2 d.1 _ h1).1 m f) (by rw [arrV_size]; rfl) rfl rfl hd (hk _ List.mem_cons_self _ H locs ls _ hH hW ?_)
              obtain ⟨k1, k2, k3, k4, k5, k6, k7, k8⟩ := hn
              refine ⟨k1, k2, k3, k4, k5, k6, fun z hz => ?_, k8⟩
              rcases List.mem_cons.mp hz with e' | e'
              · subst e'
                exact ⟨a, p.2, d, cA, m, f, Int32.ofNat m, k_ext_le hR2.1 _ _ ha1, ha2, hd2, h2, k_ext_at, hm⟩
              · exact k7 z e'
            · cases e
          · cases e
        · cases e
      · cases e
    · cases e
  · cases e
