/-! ===== walks by hand: one lemma an instruction ===== -/
def k_lv : List (Nat × Value) → Nat → Option Value
  | [], _ => none
  | q :: r, j => if Nat.beq q.1 j = true then some q.2 else k_lv r j
theorem k_lv_ok {v : Value} : ∀ {L : List (Nat × Value)} {j : Nat}, k_lv L j = some v → (j, v) ∈ L
  | [], _, e => by cases e
  | q :: r, j, e => by
    unfold k_lv at e
    split at e
    · rename_i z
      cases e
      rw [← Nat.eq_of_beq_eq_true z]
      exact List.mem_cons_self
    · exact List.mem_cons_of_mem _ (k_lv_ok e)
/-- what holds of a method while it is walked -/
def xC (X : kX) (E : kE) (nL : Nat) (τ : kTau) (cc : ByteArray) (own : String) (I : List (Nat × Instr × Nat)) (FL : List (Nat × Nat × Nat × Nat)) (CI CJ : List (Nat × Int)) (K : kCtr) (rk : Nat) (ps : List Value) : Prop :=
  k_Fx X cc nL own ∧ (∀ q ∈ I, decode cc q.1 = .ok q.2) ∧ k_FL X E own FL ∧ k_CI X own CI ∧ k_CJ X own CJ ∧ k_Eok (k_Eg E (fun _ _ _ => True)) ∧ k_tys E ∧ kK E.1 E.2.1 E.2.2.1 E.2.2.2.2.1 X.2.2.2.2.1 ∧ X.2.2.2.2.2.2.2.2.1.sig.returnType = k_rty rk ∧ X.2.2.2.2.2.2.2.2.1.locks = false ∧
  X.2.2.2.2.2.2.2.2.2.2 = MQ X.2.2.2.2.2.2.2.1 (k_Qc E τ K ps) X.2.2.2.2.2.2.1 X.2.2.2.2.1 0 0 (fun q => E.2.2.2.2.1 ≤ q)
def kx (X : kX) (E : kE) (H : Heap) (pc nL : Nat) (L : List (Nat × Value)) (st : List Value) : Prop := ∀ locs : List Loc, (∀ q ∈ locs, E.2.2.2.2.1 ≤ q.base) → ∀ ls : Array Slot, lv_has ls nL L → kw X H locs pc ls st
section XS
variable {X : kX} {E : kE} {nL : Nat} {τ : kTau} {cc : ByteArray} {own : String} {I : List (Nat × Instr × Nat)} {FL : List (Nat × Nat × Nat × Nat)} {CI CJ : List (Nat × Int)} {K : kCtr} {rk : Nat} {ps : List Value} {H : Heap} {pc : Nat} {L : List (Nat × Value)} {st : List Value} {i : Instr} {n : Nat}
theorem xF (hC : xC X E nL τ cc own I FL CI CJ K rk ps) : k_Fx X cc nL own := by
  unfold xC at hC
  obtain ⟨h, -, -, -, -, -, -, -, -, -, -⟩ := hC
  exact h
theorem xD (hC : xC X E nL τ cc own I FL CI CJ K rk ps) : ∀ q ∈ I, decode cc q.1 = .ok q.2 := by
  unfold xC at hC
  obtain ⟨-, h, -, -, -, -, -, -, -, -, -⟩ := hC
  exact h
theorem xFL (hC : xC X E nL τ cc own I FL CI CJ K rk ps) : k_FL X E own FL := by
  unfold xC at hC
  obtain ⟨-, -, h, -, -, -, -, -, -, -, -⟩ := hC
  exact h
theorem xCI (hC : xC X E nL τ cc own I FL CI CJ K rk ps) : k_CI X own CI := by
  unfold xC at hC
  obtain ⟨-, -, -, h, -, -, -, -, -, -, -⟩ := hC
  exact h
theorem xCJ (hC : xC X E nL τ cc own I FL CI CJ K rk ps) : k_CJ X own CJ := by
  unfold xC at hC
  obtain ⟨-, -, -, -, h, -, -, -, -, -, -⟩ := hC
  exact h
theorem xE (hC : xC X E nL τ cc own I FL CI CJ K rk ps) : k_Eok (k_Eg E (fun _ _ _ => True)) := by
  unfold xC at hC
  obtain ⟨-, -, -, -, -, h, -, -, -, -, -⟩ := hC
  exact h
theorem xT (hC : xC X E nL τ cc own I FL CI CJ K rk ps) : k_tys E := by
  unfold xC at hC
  obtain ⟨-, -, -, -, -, -, h, -, -, -, -⟩ := hC
  exact h
theorem xK (hC : xC X E nL τ cc own I FL CI CJ K rk ps) : va_K E.1 E.2.1 E.2.2.1 X.2.2.2.2.1 := by
  unfold xC at hC
  obtain ⟨-, -, -, -, -, -, -, h, -, -, -⟩ := hC
  exact h.1
theorem xKK (hC : xC X E nL τ cc own I FL CI CJ K rk ps) : kK E.1 E.2.1 E.2.2.1 E.2.2.2.2.1 X.2.2.2.2.1 := by
  unfold xC at hC
  obtain ⟨-, -, -, -, -, -, -, h, -, -, -⟩ := hC
  exact h
theorem xR (hC : xC X E nL τ cc own I FL CI CJ K rk ps) : X.2.2.2.2.2.2.2.2.1.sig.returnType = k_rty rk := by
  unfold xC at hC
  obtain ⟨-, -, -, -, -, -, -, -, h, -, -⟩ := hC
  exact h
theorem xLk (hC : xC X E nL τ cc own I FL CI CJ K rk ps) : X.2.2.2.2.2.2.2.2.1.locks = false := by
  unfold xC at hC
  obtain ⟨-, -, -, -, -, -, -, -, -, h, -⟩ := hC
  exact h
theorem xQ (hC : xC X E nL τ cc own I FL CI CJ K rk ps) : X.2.2.2.2.2.2.2.2.2.2 = MQ X.2.2.2.2.2.2.2.1 (k_Qc E τ K ps) X.2.2.2.2.2.2.1 X.2.2.2.2.1 0 0 (fun q => E.2.2.2.2.1 ≤ q) := by
  unfold xC at hC
  obtain ⟨-, -, -, -, -, -, -, -, -, -, h⟩ := hC
  exact h
theorem x_ldi {j : Nat} {x : Int32} (hC : xC X E nL τ cc own I FL CI CJ K rk ps) (h : k_cd I pc = some (i, n)) (e : k_ld i = some (0, j, n)) (hv : k_lv L j = some (.int x)) (k : kx X E H (pc + n) nL L (.int x :: st)) : kx X E H pc nL L st := by
  have hF := xF hC
  intro locs hl ls hls
  have hd := xD hC _ (k_cd_ok h)
  have hs := hls.2.2 _ (k_lv_ok hv)
  have hgo := k locs hl ls hls
  obtain ⟨hx, hb, hml, ho⟩ := hF
  unfold k_ld at e
  split at e <;> cases e
  · exact lv_iload_n hx hb hd rfl hs hgo
  · exact lv_iload hx hb hd hs hgo
theorem x_ldl {j : Nat} {x : Int64} (hC : xC X E nL τ cc own I FL CI CJ K rk ps) (h : k_cd I pc = some (i, n)) (e : k_ld i = some (1, j, n)) (hv : k_lv L j = some (.long x)) (k : kx X E H (pc + n) nL L (.long x :: st)) : kx X E H pc nL L st := by
  have hF := xF hC
  intro locs hl ls hls
  have hd := xD hC _ (k_cd_ok h)
  have hs := hls.2.2 _ (k_lv_ok hv)
  have hgo := k locs hl ls hls
  obtain ⟨hx, hb, hml, ho⟩ := hF
  unfold k_ld at e
  split at e <;> cases e
  · exact lv_lload_n hx hb hd rfl hs hgo
  · exact lv_lload hx hb hd hs hgo
theorem x_lda {j : Nat} {x : Nat} (hC : xC X E nL τ cc own I FL CI CJ K rk ps) (h : k_cd I pc = some (i, n)) (e : k_ld i = some (2, j, n)) (hv : k_lv L j = some (.ref x)) (k : kx X E H (pc + n) nL L (.ref x :: st)) : kx X E H pc nL L st := by
  have hF := xF hC
  intro locs hl ls hls
  have hd := xD hC _ (k_cd_ok h)
  have hs := hls.2.2 _ (k_lv_ok hv)
  have hgo := k locs hl ls hls
  obtain ⟨hx, hb, hml, ho⟩ := hF
  unfold k_ld at e
  split at e <;> cases e
  · exact lv_aload_n hx hb hd rfl hs hgo
  · exact lv_aload hx hb hd hs hgo
theorem x_cst {c : Int} (hC : xC X E nL τ cc own I FL CI CJ K rk ps) (h : k_cd I pc = some (i, n)) (e : k_cst CI i = some (c, n)) (k : kx X E H (pc + n) nL L (.int (Int32.ofInt c) :: st)) : kx X E H pc nL L st := by
  have hF := xF hC
  have hCI := xCI hC
  have hdc := xD hC _ (k_cd_ok h)
  intro locs hl ls hls
  exact k_cst_ok hF hCI e hdc (k locs hl ls hls)
theorem x_bin {r : kB} {x y : Int32} (hC : xC X E nL τ cc own I FL CI CJ K rk ps) (h : k_cd I pc = some (i, 1)) (e : k_bin i k_top k_top = some r) (k : kx X E H (pc + 1) nL L (.int (k_binV i x y) :: st)) : kx X E H pc nL L (.int y :: .int x :: st) := by
  have hF := xF hC
  have hdc := xD hC _ (k_cd_ok h)
  intro locs hl ls hls
  exact (k_bin_ok hF hdc e (k_in_top _) (k_in_top _)).2 (k locs hl ls hls)
theorem x_goto {off : Int} {t : Nat} (hC : xC X E nL τ cc own I FL CI CJ K rk ps) (h : k_cd I pc = some (.goto off, 3)) (ht : (pc : Int) + off = (t : Int)) (k : kx X E H t nL L st) : kx X E H pc nL L st := by
  have hF := xF hC
  have hdc := xD hC _ (k_cd_ok h)
  intro locs hl ls hls
  exact lv_goto hF.1 hF.2.1 hdc ht (k locs hl ls hls)
theorem x_icmp {op : ClassFile.Cond} {off : Int} {t : Nat} {x y : Int32} (hC : xC X E nL τ cc own I FL CI CJ K rk ps) (h : k_cd I pc = some (.if_icmp op off, 3)) (ht : (pc : Int) + off = (t : Int)) (k1 : k_cond op x.toInt y.toInt → kx X E H t nL L st) (k2 : ¬ k_cond op x.toInt y.toInt → kx X E H (pc + 3) nL L st) : kx X E H pc nL L (.int y :: .int x :: st) := by
  have hF := xF hC
  have hdc := xD hC _ (k_cd_ok h)
  intro locs hl ls hls
  exact k_icmpW hF hdc ht (fun z => k1 z locs hl ls hls) (fun z => k2 z locs hl ls hls)
theorem x_if {op : ClassFile.Cond} {off : Int} {t : Nat} {x : Int32} (hC : xC X E nL τ cc own I FL CI CJ K rk ps) (h : k_cd I pc = some (.ifCond op off, 3)) (ht : (pc : Int) + off = (t : Int)) (k1 : k_cond op x.toInt (0 : Int32).toInt → kx X E H t nL L st) (k2 : ¬ k_cond op x.toInt (0 : Int32).toInt → kx X E H (pc + 3) nL L st) : kx X E H pc nL L (.int x :: st) := by
  have hF := xF hC
  have hdc := xD hC _ (k_cd_ok h)
  intro locs hl ls hls
  exact k_ifW hF hdc ht (fun z => k1 z locs hl ls hls) (fun z => k2 z locs hl ls hls)
theorem x_dup {v : Value} (hC : xC X E nL τ cc own I FL CI CJ K rk ps) (h : k_cd I pc = some (.dup, 1)) (hv : v.category = 1) (k : kx X E H (pc + 1) nL L (v :: v :: st)) : kx X E H pc nL L (v :: st) := by
  have hF := xF hC
  have hdc := xD hC _ (k_cd_ok h)
  intro locs hl ls hls
  exact lv_dup hF.1 hF.2.1 hdc hv (k locs hl ls hls)
theorem x_dup2 {v w : Value} (hC : xC X E nL τ cc own I FL CI CJ K rk ps) (h : k_cd I pc = some (.dup2, 1)) (hv : v.category = 1) (hw : w.category = 1) (k : kx X E H (pc + 1) nL L (v :: w :: v :: w :: st)) : kx X E H pc nL L (v :: w :: st) := by
  have hF := xF hC
  have hdc := xD hC _ (k_cd_ok h)
  intro locs hl ls hls
  exact lv_dup2_11 hF.1 hF.2.1 hdc hv hw (k locs hl ls hls)
theorem x_pop {v : Value} (hC : xC X E nL τ cc own I FL CI CJ K rk ps) (h : k_cd I pc = some (.pop, 1)) (hv : v.category = 1) (k : kx X E H (pc + 1) nL L st) : kx X E H pc nL L (v :: st) := by
  have hF := xF hC
  have hdc := xD hC _ (k_cd_ok h)
  intro locs hl ls hls
  exact lv_pop hF.1 hF.2.1 hdc hv (k locs hl ls hls)
/-- istore, astore's kin: the locals' list is made anew -/
theorem x_ist_n {j : Fin 4} {x : Int32} {L' : List (Nat × Value)} (hC : xC X E nL τ cc own I FL CI CJ K rk ps) (h : k_cd I pc = some (.istore_n j, 1)) (hj : (j : Nat) < nL) (hl : ((j : Nat), Value.int x) :: L.filter (fun q => !(q.1 == (j : Nat)) && !(q.1 + 1 == (j : Nat) && q.2.category == 2)) = L') (k : kx X E H (pc + 1) nL L' st) : kx X E H pc nL L (.int x :: st) := by
  have hF := xF hC
  have hdc := xD hC _ (k_cd_ok h)
  intro locs hll ls hls
  exact lv_istore_n hF.1 hF.2.1 hdc rfl hls hj hl (fun ls' h' => k locs hll ls' h')
theorem x_ist {j : Nat} {x : Int32} {L' : List (Nat × Value)} (hC : xC X E nL τ cc own I FL CI CJ K rk ps) (h : k_cd I pc = some (.istore j, 2)) (hj : j < nL) (hl : (j, Value.int x) :: L.filter (fun q => !(q.1 == j) && !(q.1 + 1 == j && q.2.category == 2)) = L') (k : kx X E H (pc + 2) nL L' st) : kx X E H pc nL L (.int x :: st) := by
  have hF := xF hC
  have hdc := xD hC _ (k_cd_ok h)
  intro locs hll ls hls
  exact lv_istore hF.1 hF.2.1 hdc hls hj hl (fun ls' h' => k locs hll ls' h')
theorem x_lst {j : Nat} {x : Int64} {L' : List (Nat × Value)} (hC : xC X E nL τ cc own I FL CI CJ K rk ps) (h : k_cd I pc = some (.lstore j, 2)) (hj : j + 1 < nL) (hl : (j, Value.long x) :: L.filter (fun q => !(q.1 == j) && (!(q.1 == j + 1) && !(q.1 + 1 == j && q.2.category == 2))) = L') (k : kx X E H (pc + 2) nL L' st) : kx X E H pc nL L (.long x :: st) := by
  have hF := xF hC
  have hdc := xD hC _ (k_cd_ok h)
  intro locs hll ls hls
  exact lv_lstore hF.1 hF.2.1 hdc hls hj hl (fun ls' h' => k locs hll ls' h')
theorem x_iinc {j m : Nat} {c : Int} {x : Int32} {L' : List (Nat × Value)} (hC : xC X E nL τ cc own I FL CI CJ K rk ps) (h : k_cd I pc = some (.iinc j c, 3)) (hk : L[m]? = some (j, .int x)) (hj : j < nL) (hl : (j, Value.int (x + Int32.ofInt c)) :: L.filter (fun q => !(q.1 == j) && !(q.1 + 1 == j && q.2.category == 2)) = L') (k : kx X E H (pc + 3) nL L' st) : kx X E H pc nL L st := by
  have hF := xF hC
  have hdc := xD hC _ (k_cd_ok h)
  intro locs hll ls hls
  exact lv_iinc hF.1 hF.2.1 hdc hls hk rfl hj hl (fun ls' h' => k locs hll ls' h')
theorem x_get {idx ci k fk a t : Nat} {v : Value} {d : Nat × List kInfo} (hC : xC X E nL τ cc own I FL CI CJ K rk ps) (h : k_cd I pc = some (.getfield idx, 3)) (hf : k_f4 FL idx = some (ci, k, fk)) (hH : k_HT E τ H) (ha : τ a = some t) (ht : E.2.2.2.1[t]? = some (.inl d)) (hc : d.1 = ci) (hkl : k < d.2.length) (hv : k_fld E H a ci k = some v) (kk : kx X E H (pc + 3) nL L (v :: st)) : kx X E H pc nL L (.ref a :: st) := by
  have hF := xF hC
  have hFL := xFL hC
  have hE := xE hC
  have hK := xK hC
  have hdc := xD hC _ (k_cd_ok h)
  subst hc
  intro locs hl ls hls
  have hH0 : k_HT (k_Eg E (fun _ _ _ => True)) τ H := hH
  obtain ⟨w, cell, y, j1, j2, j3, j4, j5, j6, j7⟩ := k_read hE hH0 ha ht hkl
  have j7 : k_fld E H a d.1 k = some w := j7
  have : w = v := Option.some.inj (j7.symm.trans hv)
  subst this
  exact k_getW hF hFL hK (k_f4_ok hf) hdc j3 j5 j6 (kk locs hl ls hls)
/-- an int field is written -/
theorem x_put {idx ci k a t : Nat} {x : Int32} {y : kInfo} {d : Nat × List kInfo} (hC : xC X E nL τ cc own I FL CI CJ K rk ps) (h : k_cd I pc = some (.putfield idx, 3)) (hf : k_f4 FL idx = some (ci, k, 0)) (hH : k_HT E τ H) (ha : τ a = some t) (ht : E.2.2.2.1[t]? = some (.inl d)) (hc : d.1 = ci) (hy : d.2[k]? = some y) (hv : k_ok τ y (.int x))
    (kk : ∀ H' : Heap, k_HT E τ H' → k_fr E τ [(t, k)] H H' → k_fld E H' a ci k = some (.int x) → (∀ b : Nat, b ≠ a → H'[b]? = H[b]?) → kx X E H' (pc + 3) nL L st) : kx X E H pc nL L (.int x :: .ref a :: st) := by
  have hF := xF hC
  have hFL := xFL hC
  have hE := xE hC
  have hK := xK hC
  have hdc := xD hC _ (k_cd_ok h)
  subst hc
  intro locs hl ls hls
  have hkl : k < d.2.length := (List.getElem?_eq_some_iff.mp hy).1
  have hH0 : k_HT (k_Eg E (fun _ _ _ => True)) τ H := hH
  obtain ⟨w, cell, y', j1, j2, j3, j4, j5, j6, j7⟩ := k_read hE hH0 ha ht hkl
  refine k_putW (fk := 0) hF hFL hK (k_f4_ok hf) hdc j3 j4 j5 (by rw [j6]; rfl) (fun ty t0 _ _ _ => by obtain ⟨rfl⟩ := t0 rfl; exact ⟨rfl, rfl, by decide⟩) (fun H' e1 e2 e3 => ?_)
  obtain ⟨g1, g2, g3⟩ := k_write hE hH0 ha ht hy hv j3 e1 e2 e3
  refine kk H' g1 g2 g3 e3 _ (fun z hz => ?_) ls hls
  rcases List.mem_append.mp hz with e' | e'
  · exact hl z e'
  · rw [List.mem_singleton.mp e']; exact (hH a t ha).1
/-- a place of an array is read -/
theorem x_ald {a m ai : Nat} {cA : ClassId} {ty : FieldType} {f : Nat → Value} {x : Int32} {v : Value} (hC : xC X E nL τ cc own I FL CI CJ K rk ps) (h : k_cd I pc = some (i, 1)) (e : k_alk i ai = true) (h1 : E.2.2.1[ai]? = some (cA, ty)) (hc : H[a]? = some (arrV cA m f)) (hx : 0 ≤ x.toInt ∧ x.toInt < (m : Int)) (hv : f x.toInt.toNat = v) (k : kx X E H (pc + 1) nL L (v :: st)) : kx X E H pc nL L (.int x :: .ref a :: st) := by
  have hF := xF hC
  have hT := xT hC
  have hK := xK hC
  have hdc := xD hC _ (k_cd_ok h)
  subst hv
  exact fun locs hl ls hls => k_aldW hF hK hT hdc e h1 hc hx (k locs hl ls hls)
/-- an int is stored into an array of ints -/
theorem x_iast {a m t : Nat} {cA : ClassId} {f : Nat → Value} {x y : Int32} {d : Nat × Nat × Nat × List (Nat × Nat × kInfo) × kInfo} (hC : xC X E nL τ cc own I FL CI CJ K rk ps) (h : k_cd I pc = some (.iastore, 1)) (hH : k_HT E τ H) (ha : τ a = some t) (ht : E.2.2.2.1[t]? = some (.inr d)) (h0 : d.1 = 0) (hc : H[a]? = some (arrV cA m f)) (hx : 0 ≤ x.toInt ∧ x.toInt < (m : Int)) (hv : k_ok τ (k_el d.2.2.2.1 d.2.2.2.2 x.toInt.toNat) (.int y))
    (kk : ∀ H' : Heap, k_HT E τ H' → k_fr E τ [(t, 0)] H H' → H'[a]? = some (arrV cA m (updV f x.toInt.toNat (.int y))) → (∀ b : Nat, b ≠ a → H'[b]? = H[b]?) → kx X E H' (pc + 1) nL L st) : kx X E H pc nL L (.int y :: .int x :: .ref a :: st) := by
  have hF := xF hC
  have hT := xT hC
  have hK := xK hC
  have hdc := xD hC _ (k_cd_ok h)
  intro locs hl ls hls
  obtain ⟨cA', ty, m', f', p1, p2, p3, p4, p5⟩ := k_arr hH ha ht
  have hsz : m = m' := by
    have hs : (arrV cA m f).slots.size = (arrV cA' m' f').slots.size := by rw [Option.some.inj (hc.symm.trans p2)]
    rwa [arrV_size, arrV_size] at hs
  subst hsz
  have hcls : cA = cA' := by
    have := Option.some.inj (hc.symm.trans p2)
    exact congrArg Cell.cls this
  subst hcls
  have hff : ∀ j, j < m → f' j = f j := fun j hj => by
    have r1 := arrV_read cA f hj
    have r2 := arrV_read cA f' hj
    rw [Option.some.inj (hc.symm.trans p2), r2] at r1
    exact Option.some.inj r1
  rw [h0] at p1
  have hin := k_idx hx cA f
  obtain ⟨rfl⟩ := (hT 0 cA ty p1).1 rfl
  refine W.iast hF.1 hF.2.1 hc ((hK.2 0 _ p1).1 m f) (fun z => by cases z) hin rfl rfl hdc (fun H' e1 e2 e3 => ?_)
  obtain ⟨g1, g2⟩ := k_awrite hH ha ht (show E.2.2.1[d.1]? = some (cA, .int) by rw [h0]; exact p1) hc p3 p4 (fun j hj => by rw [← hff j hj]; exact p5 j hj) hv e1 e2 e3
  rw [arrV_store] at e1
  refine kk H' g1 g2 e1 e3 _ (fun z hz => ?_) ls hls
  rcases List.mem_append.mp hz with e' | e'
  · exact hl z e'
  · rw [List.mem_singleton.mp e']; exact (hH a t ha).1
theorem x_call {E2 : kE} {K2 : kCtr} {as rest : List Value} (hc : k_call X E2 nL τ K2 pc) (hB : E2.2.2.2.2.1 = E.2.2.2.2.1) (hH : k_HT E2 τ H) (hp : k_pre E2 τ H K2 as) (hs : st = as.reverse ++ rest) (hcat : (rest.map fun v => v.category).sum ≤ 8)
    (k : ∀ (H' : Heap) (v : Option Value), k_post E2 τ H H' K2 as v → kx X E H' (pc + 3) nL L (v.toList ++ rest)) : kx X E H pc nL L st := by
  intro locs hl ls hls
  subst hs
  refine hc H locs ls as rest hH hp hcat hls.1 (by rw [hB]; exact hl) (fun H' L' v hq hL => k H' v hq _ (fun z hz => ?_) ls hls)
  rcases List.mem_append.mp hz with e' | e'
  · exact hl z e'
  · rw [← hB]; exact hL z e'
theorem x_vret (hC : xC X E nL τ cc own I FL CI CJ K 0 ps) (h : k_cd I pc = some (.return_, 1)) (hp : k_post E τ X.2.2.2.2.1.heap H K ps none) : kx X E H pc nL L [] := by
  have hF := xF hC
  have hR := xR hC
  have hLk := xLk hC
  have hQ := xQ hC
  have hdc := xD hC _ (k_cd_ok h)
  intro locs hl ls hls
  unfold kw
  rw [hQ]
  exact W.vret hF.1 hF.2.1 hR (fun t ht _ => ⟨none, rfl, by rw [ht]; exact hp⟩) hl hdc hLk
theorem x_iret {x : Int32} (hC : xC X E nL τ cc own I FL CI CJ K 1 ps) (h : k_cd I pc = some (.ireturn, 1)) (hp : k_post E τ X.2.2.2.2.1.heap H K ps (some (.int x))) : kx X E H pc nL L [.int x] := by
  have hF := xF hC
  have hR := xR hC
  have hLk := xLk hC
  have hQ := xQ hC
  have hdc := xD hC _ (k_cd_ok h)
  intro locs hl ls hls
  unfold kw
  rw [hQ]
  exact W.iret hF.1 hF.2.1 hR (fun t ht _ => ⟨_, rfl, by rw [ht]; exact hp⟩) hl hdc hLk
theorem x_zret {x : Int32} (hC : xC X E nL τ cc own I FL CI CJ K 2 ps) (h : k_cd I pc = some (.ireturn, 1)) (hx : k_in (0, 1) x.toInt) (hp : k_post E τ X.2.2.2.2.1.heap H K ps (some (.int x))) : kx X E H pc nL L [.int x] := by
  have hF := xF hC
  have hR := xR hC
  have hLk := xLk hC
  have hQ := xQ hC
  have hdc := xD hC _ (k_cd_ok h)
  intro locs hl ls hls
  unfold kw
  rw [hQ]
  exact W.zret hF.1 hF.2.1 hR (k_nz01 hx) (fun t ht _ => ⟨_, rfl, by rw [ht]; exact hp⟩) hl hdc hLk
theorem x_lret {x : Int64} (hC : xC X E nL τ cc own I FL CI CJ K 3 ps) (h : k_cd I pc = some (.lreturn, 1)) (hp : k_post E τ X.2.2.2.2.1.heap H K ps (some (.long x))) : kx X E H pc nL L [.long x] := by
  have hF := xF hC
  have hR := xR hC
  have hLk := xLk hC
  have hQ := xQ hC
  have hdc := xD hC _ (k_cd_ok h)
  intro locs hl ls hls
  unfold kw
  rw [hQ]
  exact W.lret hF.1 hF.2.1 hR (fun t ht _ => ⟨_, rfl, by rw [ht]; exact hp⟩) hl hdc hLk
end XS
/-- a contract by a walk -/
theorem x_met {l : Launch} {E : kE} {τ : kTau} {tb : List Jvm.Cond} {y : MethodName} {cc : ByteArray} {nL rk : Nat} {K : kCtr} {rm : Room} {I : List (Nat × Instr × Nat)} {FL : List (Nat × Nat × Nat × Nat)} {CI CJ : List (Nat × Int)} (hpl : plainName y.cls = true) (hdec : ∀ q ∈ I, decode cc q.1 = .ok q.2)
    (hT : ∀ X : kX, (∀ w ∈ tb, w.before X.2.2.2.2.2.2.1 X.2.2.2.2.1 = true) → k_FL X E y.cls FL ∧ k_CI X y.cls CI ∧ k_CJ X y.cls CJ) (hE : k_Eok (k_Eg E (fun _ _ _ => True))) (hTy : k_tys E) (hw : (lg_sl ([] : List Value)).length = 0 → k_words K.1 ≤ nL)
    (walk : ∀ (X : kX) (ps : List Value), X.2.1 = l → X.2.2.2.1 = rm → (∀ w ∈ tb, w.before X.2.2.2.2.2.2.1 X.2.2.2.2.1 = true) → xC X E nL τ cc y.cls I FL CI CJ K rk ps → k_HT E τ X.2.2.2.2.1.heap → k_pre E τ X.2.2.2.2.1.heap K ps → kx X E X.2.2.2.2.1.heap 0 nL (lv_args 0 ps) []) : k_Met l E τ tb y cc nL rk K rm := by
  intro ps
  refine Met.ofW (cc := cc) (maxL := nL) (ret := k_rty rk) hpl rfl ?_
  intro p e s m args below meth c s₁ B hml hv
  obtain ⟨rfl, hK, hH, hpre⟩ := hv
  have hts0 := atoms_spec (ws := Jvm.Cond.code y cc nL (k_rty rk) :: tb) B.pre
  have hts : ∀ w ∈ tb, w.before ps.toArray s = true := fun w hw => hts0 w (List.mem_cons_of_mem _ hw)
  have hown : s.vm.findClass y.cls = some m.cls := findClass_of_methodNamed B.named
  obtain ⟨t1, t2, t3⟩ := hT (p, l, e, rm, s, m, ps.toArray, below, meth, c, MQ below (k_Qc E τ K ps) ps.toArray s 0 0 (fun q => E.2.2.2.2.1 ≤ q)) hts
  have hC : xC (p, l, e, rm, s, m, ps.toArray, below, meth, c, MQ below (k_Qc E τ K ps) ps.toArray s 0 0 (fun q => E.2.2.2.2.1 ≤ q)) E nL τ cc y.cls I FL CI CJ K rk ps := ⟨⟨B.exec, B.bytes, hml, hown⟩, hdec, t1, t2, t3, hE, hTy, hK, B.returns, B.notSynchronized, rfl⟩
  have hwd := k_words_ok hpre.1 hpre.2.1
  have hl := lv_entry ps (n := nL) (by rw [hwd]; exact hw rfl)
  rw [lg_entry_eq]
  exact walk _ ps rfl rfl hts hC hH hpre [] (fun _ h => by cases h) _ hl
theorem k_frU {E : kE} {τ : kTau} {m1 m2 : List (Nat × Nat)} {H H' : Heap} (h : k_fr E τ m1 H H') (hs : ∀ q ∈ m1, q ∈ m2) : k_fr E τ m2 H H' := ⟨h.1, h.2.1, fun a t ht => ⟨fun q hq k hk hm => (h.2.2 a t ht).1 q hq k hk (fun z => hm (hs _ z)), fun q hq hm => (h.2.2 a t ht).2 q hq (fun z => hm (hs _ z))⟩⟩
/-! ===== what does not look at invariants ===== -/
theorem k_HT_g {g : va_G} {tys : List (ClassId × FieldType)} {B0 : Nat} {GI GI' : kGI} {τ : kTau} {H : Heap} (h : k_HT (gE g tys B0 GI) τ H) : k_HT (gE g tys B0 GI') τ H := h
theorem k_fr_g {g : va_G} {tys : List (ClassId × FieldType)} {B0 : Nat} {GI GI' : kGI} {τ : kTau} {m : List (Nat × Nat)} {H H' : Heap} (h : k_fr (gE g tys B0 GI) τ m H H') : k_fr (gE g tys B0 GI') τ m H H' := h
/-! ===== ints that stay small ===== -/
theorem i_of {c : Int} (h1 : -2147483648 ≤ c) (h2 : c ≤ 2147483647) : (Int32.ofInt c).toInt = c := by
  rw [Int32.toInt_ofInt]
  have e2 : (Int32.size : Int) = 4294967296 := rfl
  exact Int.bmod_eq_of_le (by omega) (by omega)
theorem i_add {x y : Int32} {z : Int} (h : x.toInt + y.toInt = z) (h1 : -2147483648 ≤ z) (h2 : z ≤ 2147483647) : (x + y).toInt = z := by
  rw [Int32.toInt_add, h]
  exact Int.bmod_eq_of_le (by omega) (by omega)
theorem i_sub {x y : Int32} {z : Int} (h : x.toInt - y.toInt = z) (h1 : -2147483648 ≤ z) (h2 : z ≤ 2147483647) : (x - y).toInt = z := by
  rw [Int32.toInt_sub, h]
  exact Int.bmod_eq_of_le (by omega) (by omega)
theorem i_mul {x y : Int32} {z : Int} (h : x.toInt * y.toInt = z) (h1 : -2147483648 ≤ z) (h2 : z ≤ 2147483647) : (x * y).toInt = z := by
  rw [Int32.toInt_mul, h]
  exact Int.bmod_eq_of_le (by omega) (by omega)
/-! ===== exact contracts on the reference ===== -/
def exGI (g : va_G) (a : Nat) (pre post : (Nat → Int) → (Nat → Nat → Int) → Prop) : kGI := fun i τ H => (∀ a', τ a' = some 11 → a' = a) ∧ (i = 0 → pre (vI g H a) (vA g H a)) ∧ (i = 1 → post (vI g H a) (vA g H a))
theorem vE_at {H : Heap} {b m j : Nat} {cA : ClassId} {f : Nat → Value} {y : Int32} (h : H[b]? = some (arrV cA m f)) (hj : j < m) (hy : f j = .int y) : vE H b j = y.toInt := by
  unfold vE
  rw [h]
  show (match (arrV cA m f).slots[j]? with
    | some (.int x) => x.toInt
    | _ => 0) = _
  rw [arrV_read _ _ hj, hy]
