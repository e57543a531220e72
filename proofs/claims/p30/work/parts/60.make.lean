/-! ===== making: cells that have no kind yet, kinds that grow; walks with room ===== -/
def zle (τ τ' : kTau) : Prop := ∀ q u : Nat, τ q = some u → τ' q = some u
theorem zle_refl {τ : kTau} : zle τ τ := fun _ _ h => h
theorem zle_trans {τ τ1 τ2 : kTau} (h : zle τ τ1) (h' : zle τ1 τ2) : zle τ τ2 := fun q u e => h' q u (h q u e)
theorem k_ok_up {τ τ' : kTau} (h : zle τ τ') : ∀ {x : kInfo} {v : Value}, k_ok τ x v → k_ok τ' x v
  | .inl _, _, e => e
  | .inr (.inl _), _, e => e
  | .inr (.inr (.inl _)), _, e => by
    rcases e with e | ⟨a, t, e1, e2, e3⟩
    · exact Or.inl e
    · exact Or.inr ⟨a, t, e1, e2, h _ _ e3⟩
  | .inr (.inr (.inr _)), _, e => e
theorem k_cell_up {E : kE} {τ τ' : kTau} {a : Nat} {H : Heap} {d : kDesc} (h : zle τ τ') (hc : k_cell E τ a H d) : k_cell E τ' a H d := by
  cases d with
  | inl q =>
    obtain ⟨vs, h1, h2, h3⟩ := hc
    exact ⟨vs, h1, h2, fun k x hx => by obtain ⟨v, v1, v2⟩ := h3 k x hx; exact ⟨v, v1, k_ok_up h v2⟩⟩
  | inr q =>
    obtain ⟨cA, ty, n, f, h1, h2, h3, h4, h5⟩ := hc
    exact ⟨cA, ty, n, f, h1, h2, h3, h4, fun j hj => k_ok_up h (h5 j hj)⟩
theorem k_cell_lt {E : kE} {τ : kTau} {a : Nat} {H : Heap} {d : kDesc} (hc : k_cell E τ a H d) : a < H.size := by
  cases d with
  | inl q =>
    obtain ⟨vs, h1, -⟩ := hc
    exact va_at.lt h1
  | inr q =>
    obtain ⟨cA, ty, n, f, -, h2, -⟩ := hc
    exact (Array.getElem?_eq_some_iff.mp h2).1
theorem k_HT_lt {E : kE} {τ : kTau} {H : Heap} {a t : Nat} (hH : k_HT E τ H) (ha : τ a = some t) : a < H.size := by
  obtain ⟨-, d, -, hc⟩ := hH a t ha
  exact k_cell_lt hc
theorem k_HT_top {E : kE} {τ : kTau} {H : Heap} {b : Nat} (hH : k_HT E τ H) (hb : H.size ≤ b) : τ b = none := by
  cases h : τ b with
  | none => rfl
  | some t => exact absurd (k_HT_lt hH h) (by omega)
def zt (τ : kTau) (b t : Nat) : kTau := fun q => if q = b then some t else τ q
theorem zt_at {τ : kTau} {b t : Nat} : zt τ b t b = some t := if_pos rfl
theorem zt_ne {τ : kTau} {b t q : Nat} (h : q ≠ b) : zt τ b t q = τ q := if_neg h
theorem zle_t {τ : kTau} {b t : Nat} (h : τ b = none) : zle τ (zt τ b t) := fun q u e => by
  by_cases c : q = b
  · subst c; rw [h] at e; cases e
  · rw [zt_ne c]; exact e
theorem k_HT_kept {E : kE} {τ : kTau} {H H' : Heap} (hH : k_HT E τ H) (hk : ∀ q u : Nat, τ q = some u → H'[q]? = H[q]?) : k_HT E τ H' := fun a t ha => by
  obtain ⟨h1, d, h2, h3⟩ := hH a t ha
  exact ⟨h1, d, h2, k_cell_kept h3 (hk a t ha)⟩
theorem k_HT_t {E : kE} {τ : kTau} {H : Heap} {b t : Nat} {d : kDesc} (hH : k_HT E τ H) (hb : τ b = none) (hB : E.2.2.2.2.1 ≤ b) (hd : E.2.2.2.1[t]? = some d) (hc : k_cell E (zt τ b t) b H d) : k_HT E (zt τ b t) H := fun a u ha => by
  by_cases c : a = b
  · subst c
    rw [zt_at] at ha
    cases ha
    exact ⟨hB, d, hd, hc⟩
  · rw [zt_ne c] at ha
    obtain ⟨h1, d', h2, h3⟩ := hH a u ha
    exact ⟨h1, d', h2, k_cell_up (zle_t hb) h3⟩
abbrev e0 (g : va_G) (tys : List (ClassId × FieldType)) (B0 : Nat) : kE := gE g tys B0 (fun _ _ _ => True)
def gTyL : List FieldType := [.int, .byte, .boolean, .long, .object RX6, .object RX10, .object RX4]
theorem gTyL_at {tys : List (ClassId × FieldType)} (h : tys.map Prod.snd = gTyL) {i : Nat} {ty : FieldType} (hi : gTyL[i]? = some ty) : ∃ cA, tys[i]? = some (cA, ty) := by
  rw [← h, List.getElem?_map] at hi
  cases e : tys[i]? with
  | none => rw [e] at hi; cases hi
  | some q =>
    rw [e] at hi
    cases hi
    exact ⟨q.1, rfl⟩
theorem gTyL_tys {g : va_G} {tys : List (ClassId × FieldType)} {B0 : Nat} (h : tys.map Prod.snd = gTyL) : ∀ GI : kGI, k_tys (gE g tys B0 GI) := by
  intro GI ai cA ty hai
  have hai : tys[ai]? = some (cA, ty) := hai
  have : gTyL[ai]? = some ty := by rw [← h, List.getElem?_map, hai]; rfl
  refine ⟨fun z => ?_, fun z => ?_, fun z => ?_, fun z => ?_, fun z => ?_⟩
  · subst z; cases this; rfl
  · subst z; cases this; rfl
  · subst z; cases this; rfl
  · subst z; cases this; rfl
  · match ai, z, this with
    | 4, _, this => cases this; rfl
    | 5, _, this => cases this; rfl
    | 6, _, this => cases this; rfl
    | n + 7, _, this => cases this
/-- links to private constructors of nest mates -/
def zNL : List (String × Nat × MethodName) := [(RX11, 9, yX7_init), (RX11, 18, yX10_init), (RX10, 11, yX8_init), (RX10, 20, yX6_init), (RX9, 11, yX8_init), (RX1, 11, yX6_init), (RX3, 28, yX6_init), (RX11, 89, yX6_init)]
def zN (U : State) : Prop := (∀ q ∈ zNL, va_Nw (.methodLinkNest q.1 q.2.1 q.2.2 RX11) U) ∧ (∀ C ∈ [RX6, RX10, RX4], va_AO C U) ∧ va_Nw (.castable "[I" "java/lang/Cloneable") U
theorem zN_moved {s U : State} (hW : s.WarmedH U.vm) (h : zN s) : zN U := ⟨fun q hq => (h.1 q hq).warmM hW, fun C hC => (h.2.1 C hC).moved hW.alike, h.2.2.warmC hW⟩
/-- what holds of a method while it is walked with room -/
def zC (X : kX) (g : va_G) (tys : List (ClassId × FieldType)) (B0 nL : Nat) (cc : ByteArray) (own : String) (I : List (Nat × Instr × Nat)) (FL : List (Nat × Nat × Nat × Nat)) : Prop :=
  k_Fx X cc nL own ∧ (∀ q ∈ I, decode cc q.1 = .ok q.2) ∧ kK g gCl tys B0 X.2.2.2.2.1 ∧ (∀ w ∈ gTB, w.before X.2.2.2.2.2.2.1 X.2.2.2.2.1 = true) ∧ B0 ≤ X.2.2.2.2.1.heap.size ∧ X.2.2.2.2.2.2.2.2.1.locks = false ∧ k_FL X (e0 g tys B0) own FL ∧ gE1 g ∧ tys.map Prod.snd = gTyL ∧ zN X.2.2.2.2.1
def kz (X : kX) (B0 cells slots : Nat) (H : Heap) (pc nL : Nat) (L : List (Nat × Value)) (st : List Value) : Prop := ∀ locs : List Loc, (∀ q ∈ locs, B0 ≤ q.base) → ∀ ls : Array Slot, lv_has ls nL L →
  W X.1 X.2.1 X.2.2.1 X.2.2.2.1 X.2.2.2.2.1 X.2.2.2.2.2.1 X.2.2.2.2.2.2.1 X.2.2.2.2.2.2.2.1 X.2.2.2.2.2.2.2.2.1 X.2.2.2.2.2.2.2.2.2.1 H locs cells slots X.2.2.2.2.2.2.2.2.2.2 (F0 X.2.2.2.2.2.1 pc ls st)
section ZR
variable {X : kX} {g : va_G} {tys : List (ClassId × FieldType)} {B0 nL : Nat} {cc : ByteArray} {own : String} {I : List (Nat × Instr × Nat)} {FL : List (Nat × Nat × Nat × Nat)} {cells slots : Nat} {H : Heap} {pc : Nat} {L : List (Nat × Value)} {st : List Value} {i : Instr} {n : Nat} {τ : kTau}
theorem z_lda {j x : Nat} (hC : zC X g tys B0 nL cc own I FL) (h : k_cd I pc = some (i, n)) (e : k_ld i = some (2, j, n)) (hv : k_lv L j = some (.ref x)) (k : kz X B0 cells slots H (pc + n) nL L (.ref x :: st)) : kz X B0 cells slots H pc nL L st := by
  obtain ⟨⟨hx, hb, hml, ho⟩, hD, -⟩ := hC
  intro locs hl ls hls
  have hd := hD _ (k_cd_ok h)
  have hs := hls.2.2 _ (k_lv_ok hv)
  have hgo := k locs hl ls hls
  unfold k_ld at e
  split at e <;> cases e
  · exact lv_aload_n hx hb hd rfl hs hgo
  · exact lv_aload hx hb hd hs hgo
theorem z_ldi {j : Nat} {x : Int32} (hC : zC X g tys B0 nL cc own I FL) (h : k_cd I pc = some (i, n)) (e : k_ld i = some (0, j, n)) (hv : k_lv L j = some (.int x)) (k : kz X B0 cells slots H (pc + n) nL L (.int x :: st)) : kz X B0 cells slots H pc nL L st := by
  obtain ⟨⟨hx, hb, hml, ho⟩, hD, -⟩ := hC
  intro locs hl ls hls
  have hd := hD _ (k_cd_ok h)
  have hs := hls.2.2 _ (k_lv_ok hv)
  have hgo := k locs hl ls hls
  unfold k_ld at e
  split at e <;> cases e
  · exact lv_iload_n hx hb hd rfl hs hgo
  · exact lv_iload hx hb hd hs hgo
theorem z_cst {c : Int} (hC : zC X g tys B0 nL cc own I FL) (h : k_cd I pc = some (i, n)) (e : k_cst [] i = some (c, n)) (k : kz X B0 cells slots H (pc + n) nL L (.int (Int32.ofInt c) :: st)) : kz X B0 cells slots H pc nL L st := by
  obtain ⟨⟨hx, hb, hml, ho⟩, hD, -⟩ := hC
  intro locs hl ls hls
  have hd := hD _ (k_cd_ok h)
  have hgo := k locs hl ls hls
  unfold k_cst at e
  split at e
  · cases e
    exact lv_iconst hx hb hd rfl hgo
  · split at e
    · rename_i z
      rw [Bool.and_eq_true, k_le_iff, k_le_iff] at z
      cases e
      exact lv_bipush hx hb hd (k_i8 z.1 z.2) hgo
    · cases e
  · split at e
    · rename_i z
      rw [Bool.and_eq_true, k_le_iff, k_le_iff] at z
      cases e
      exact lv_sipush hx hb hd (k_i16 z.1 z.2) hgo
    · cases e
  · cases e
  · cases e
  · cases e
theorem z_dup {v : Value} (hC : zC X g tys B0 nL cc own I FL) (h : k_cd I pc = some (.dup, 1)) (hv : v.category = 1) (k : kz X B0 cells slots H (pc + 1) nL L (v :: v :: st)) : kz X B0 cells slots H pc nL L (v :: st) := by
  obtain ⟨⟨hx, hb, hml, ho⟩, hD, -⟩ := hC
  intro locs hl ls hls
  have hd := hD _ (k_cd_ok h)
  have hgo := k locs hl ls hls
  exact lv_dup hx hb hd hv hgo
theorem z_dup_x1 {v w : Value} (hC : zC X g tys B0 nL cc own I FL) (h : k_cd I pc = some (.dup_x1, 1)) (hv : v.category = 1) (hw : w.category = 1) (k : kz X B0 cells slots H (pc + 1) nL L (v :: w :: v :: st)) : kz X B0 cells slots H pc nL L (v :: w :: st) := by
  obtain ⟨⟨hx, hb, hml, ho⟩, hD, -⟩ := hC
  intro locs hl ls hls
  have hd := hD _ (k_cd_ok h)
  have hgo := k locs hl ls hls
  exact lv_dup_x1 hx hb hd hv hw hgo
theorem z_pop {v : Value} (hC : zC X g tys B0 nL cc own I FL) (h : k_cd I pc = some (.pop, 1)) (hv : v.category = 1) (k : kz X B0 cells slots H (pc + 1) nL L st) : kz X B0 cells slots H pc nL L (v :: st) := by
  obtain ⟨⟨hx, hb, hml, ho⟩, hD, -⟩ := hC
  intro locs hl ls hls
  have hd := hD _ (k_cd_ok h)
  have hgo := k locs hl ls hls
  exact lv_pop hx hb hd hv hgo
theorem z_iadd {x y : Int32} (hC : zC X g tys B0 nL cc own I FL) (h : k_cd I pc = some (.iadd, 1)) (k : kz X B0 cells slots H (pc + 1) nL L (.int (x + y) :: st)) : kz X B0 cells slots H pc nL L (.int y :: .int x :: st) := by
  obtain ⟨⟨hx, hb, hml, ho⟩, hD, -⟩ := hC
  intro locs hl ls hls
  have hd := hD _ (k_cd_ok h)
  have hgo := k locs hl ls hls
  exact lv_iadd hx hb hd hgo
theorem z_ist_n {j : Fin 4} {x : Int32} {L' : List (Nat × Value)} (hC : zC X g tys B0 nL cc own I FL) (h : k_cd I pc = some (.istore_n j, 1)) (hj : (j : Nat) < nL) (hl' : ((j : Nat), Value.int x) :: L.filter (fun q => !(q.1 == (j : Nat)) && !(q.1 + 1 == (j : Nat) && q.2.category == 2)) = L') (k : kz X B0 cells slots H (pc + 1) nL L' st) : kz X B0 cells slots H pc nL L (.int x :: st) := by
  obtain ⟨⟨hx, hb, hml, ho⟩, hD, -⟩ := hC
  intro locs hl ls hls
  have hd := hD _ (k_cd_ok h)
  exact lv_istore_n hx hb hd rfl hls hj hl' (fun ls' h' => k locs hl ls' h')
theorem z_ast_n {j : Fin 4} {x : Nat} {L' : List (Nat × Value)} (hC : zC X g tys B0 nL cc own I FL) (h : k_cd I pc = some (.astore_n j, 1)) (hj : (j : Nat) < nL) (hl' : ((j : Nat), Value.ref x) :: L.filter (fun q => !(q.1 == (j : Nat)) && !(q.1 + 1 == (j : Nat) && q.2.category == 2)) = L') (k : kz X B0 cells slots H (pc + 1) nL L' st) : kz X B0 cells slots H pc nL L (.ref x :: st) := by
  obtain ⟨⟨hx, hb, hml, ho⟩, hD, -⟩ := hC
  intro locs hl ls hls
  have hd := hD _ (k_cd_ok h)
  exact lv_astore_n hx hb hd rfl hls hj hl' (fun ls' h' => k locs hl ls' h')
theorem z_iinc {j m : Nat} {c : Int} {x : Int32} {L' : List (Nat × Value)} (hC : zC X g tys B0 nL cc own I FL) (h : k_cd I pc = some (.iinc j c, 3)) (hk : L[m]? = some (j, .int x)) (hj : j < nL) (hl' : (j, Value.int (x + Int32.ofInt c)) :: L.filter (fun q => !(q.1 == j) && !(q.1 + 1 == j && q.2.category == 2)) = L') (k : kz X B0 cells slots H (pc + 3) nL L' st) : kz X B0 cells slots H pc nL L st := by
  obtain ⟨⟨hx, hb, hml, ho⟩, hD, -⟩ := hC
  intro locs hl ls hls
  have hd := hD _ (k_cd_ok h)
  exact lv_iinc hx hb hd hls hk rfl hj hl' (fun ls' h' => k locs hl ls' h')
theorem z_goto {off : Int} {t : Nat} (hC : zC X g tys B0 nL cc own I FL) (h : k_cd I pc = some (.goto off, 3)) (ht : (pc : Int) + off = (t : Int)) (k : kz X B0 cells slots H t nL L st) : kz X B0 cells slots H pc nL L st := by
  obtain ⟨⟨hx, hb, hml, ho⟩, hD, -⟩ := hC
  intro locs hl ls hls
  have hd := hD _ (k_cd_ok h)
  have hgo := k locs hl ls hls
  exact lv_goto hx hb hd ht hgo
theorem z_icmp {op : ClassFile.Cond} {off : Int} {t : Nat} {x y : Int32} (hC : zC X g tys B0 nL cc own I FL) (h : k_cd I pc = some (.if_icmp op off, 3)) (ht : (pc : Int) + off = (t : Int)) (k1 : k_cond op x.toInt y.toInt → kz X B0 cells slots H t nL L st) (k2 : ¬ k_cond op x.toInt y.toInt → kz X B0 cells slots H (pc + 3) nL L st) : kz X B0 cells slots H pc nL L (.int y :: .int x :: st) := by
  obtain ⟨⟨hx, hb, hml, ho⟩, hD, -⟩ := hC
  intro locs hl ls hls
  have hd := hD _ (k_cd_ok h)
  cases op
  · exact lv_icmp_eq hx hb hd ht (fun h => k1 (Int32.toInt_inj.mpr h) locs hl ls hls) (fun h => k2 (fun z => h (Int32.toInt_inj.mp z)) locs hl ls hls)
  · exact lv_icmp_ne hx hb hd ht (fun h => k1 (fun z => h (Int32.toInt_inj.mp z)) locs hl ls hls) (fun h => k2 (fun z => z (Int32.toInt_inj.mpr h)) locs hl ls hls)
  · exact lv_icmp_lt hx hb hd ht (fun h => k1 (Int32.lt_iff_toInt_lt.mp h) locs hl ls hls) (fun h => k2 (fun z => h (Int32.lt_iff_toInt_lt.mpr z)) locs hl ls hls)
  · exact lv_icmp_ge hx hb hd ht (fun h => k1 (Int32.le_iff_toInt_le.mp h) locs hl ls hls) (fun h => k2 (fun z => h (Int32.le_iff_toInt_le.mpr z)) locs hl ls hls)
  · exact lv_icmp_gt hx hb hd ht (fun h => k1 (Int32.lt_iff_toInt_lt.mp h) locs hl ls hls) (fun h => k2 (fun z => h (Int32.lt_iff_toInt_lt.mpr z)) locs hl ls hls)
  · exact lv_icmp_le hx hb hd ht (fun h => k1 (Int32.le_iff_toInt_le.mp h) locs hl ls hls) (fun h => k2 (fun z => h (Int32.le_iff_toInt_le.mpr z)) locs hl ls hls)
theorem z_if {op : ClassFile.Cond} {off : Int} {t : Nat} {x : Int32} (hC : zC X g tys B0 nL cc own I FL) (h : k_cd I pc = some (.ifCond op off, 3)) (ht : (pc : Int) + off = (t : Int)) (k1 : k_cond op x.toInt (0 : Int32).toInt → kz X B0 cells slots H t nL L st) (k2 : ¬ k_cond op x.toInt (0 : Int32).toInt → kz X B0 cells slots H (pc + 3) nL L st) : kz X B0 cells slots H pc nL L (.int x :: st) := by
  obtain ⟨⟨hx, hb, hml, ho⟩, hD, -⟩ := hC
  intro locs hl ls hls
  have hd := hD _ (k_cd_ok h)
  cases op
  · exact lv_if_eq hx hb hd ht (fun h => k1 (Int32.toInt_inj.mpr h) locs hl ls hls) (fun h => k2 (fun z => h (Int32.toInt_inj.mp z)) locs hl ls hls)
  · exact lv_if_ne hx hb hd ht (fun h => k1 (fun z => h (Int32.toInt_inj.mp z)) locs hl ls hls) (fun h => k2 (fun z => z (Int32.toInt_inj.mpr h)) locs hl ls hls)
  · exact lv_if_lt hx hb hd ht (fun h => k1 (Int32.lt_iff_toInt_lt.mp h) locs hl ls hls) (fun h => k2 (fun z => h (Int32.lt_iff_toInt_lt.mpr z)) locs hl ls hls)
  · exact lv_if_ge hx hb hd ht (fun h => k1 (Int32.le_iff_toInt_le.mp h) locs hl ls hls) (fun h => k2 (fun z => h (Int32.le_iff_toInt_le.mpr z)) locs hl ls hls)
  · exact lv_if_gt hx hb hd ht (fun h => k1 (Int32.lt_iff_toInt_lt.mp h) locs hl ls hls) (fun h => k2 (fun z => h (Int32.lt_iff_toInt_lt.mpr z)) locs hl ls hls)
  · exact lv_if_le hx hb hd ht (fun h => k1 (Int32.le_iff_toInt_le.mp h) locs hl ls hls) (fun h => k2 (fun z => h (Int32.le_iff_toInt_le.mpr z)) locs hl ls hls)
theorem z_sub {L' : List (Nat × Value)} (h : ∀ q ∈ L, q ∈ L') (k : kz X B0 cells slots H pc nL L st) : kz X B0 cells slots H pc nL L' st := fun locs hl ls hls => k locs hl ls ⟨hls.1, hls.2.1, fun q hq => hls.2.2 q (h q hq)⟩
theorem z_objinit {idx a : Nat} (hC : zC X g tys B0 nL cc own I FL) (h : k_cd I pc = some (.invokespecial idx, 3)) (hl1 : Jvm.Cond.methodLink own idx Lib.objectInit ∈ gTB) (hl2 : Jvm.Cond.instanceMethod Lib.objectInit ∈ gTB) (hl3 : Jvm.Cond.code Lib.objectInit ⟨#[0xb1]⟩ 1 none ∈ gTB) (hfr : 1 ≤ X.2.2.2.1.frames) (hlo : (st.map fun v => v.category).sum + 12 ≤ X.2.2.2.1.locals) (k : kz X B0 cells slots H (pc + 3) nL L st) : kz X B0 cells slots H pc nL L (.ref a :: st) := by
  obtain ⟨⟨hx, hb, hml, ho⟩, hD, -, hts, -⟩ := hC
  intro locs hl ls hls
  have hd := hD _ (k_cd_ok h)
  have hgo := k locs hl ls hls
  have w1 := hts _ hl1
  have w2 := hts _ hl2
  have w3 := hts _ hl3
  exact W.objInit hx hb ho w1 w2 w3 rfl (by rw [hml]; exact hls.1) rfl hd hfr (by show 2 * 0 + _ + 12 ≤ _; omega) hgo
/-- a field of an object is read -/
theorem z_get {idx ci k fk a : Nat} {v : Value} {ks : List kInfo} (hC : zC X g tys B0 nL cc own I FL) (h : k_cd I pc = some (.getfield idx, 3)) (hf : k_f4 FL idx = some (ci, k, fk)) (hc : k_cell (e0 g tys B0) τ a H (.inl (ci, ks))) (hv : (H[a]?).bind (fun c => c.slots[g.2 ci k]?) = some v) (kk : kz X B0 cells slots H (pc + 3) nL L (v :: st)) : kz X B0 cells slots H pc nL L (.ref a :: st) := by
  obtain ⟨hF, hD, hK, hts, hB, -, hFL, -⟩ := hC
  have hd := hD _ (k_cd_ok h)
  obtain ⟨C, T, N, ref, ty, Ts, f1, f2, f3, f4, f5, f6, -⟩ := hFL _ (k_f4_ok hf)
  obtain ⟨vs, ⟨r, g1, cell, g2, g3, g4, g5⟩, -⟩ := hc
  obtain ⟨hS, hfc, kC, hkC, hkind⟩ := hK.1.1 ci _ f1
  obtain ⟨cf, kf, fi, f, hi, hsl⟩ := hS k f2
  rw [g2] at hv
  have hv : cell.slots[g.2 ci k]? = some v := hv
  intro locs hl ls hls
  refine W.getf hF.1 hF.2.1 hF.2.2.2 f5 (f6 _ hi) (u_facts hfc hkC (u_lays f3 f4 f2) hi).1 g2 (by rw [g4]; exact fun z => by cases z) (v := v) ?_ rfl rfl hd (kk locs hl ls hls)
  rw [hsl]
  exact hv
/-- field k of an object whose kinds are known -/
theorem k_cell_at {ci k a : Nat} {ks : List kInfo} {x : kInfo} (h0 : gE1 g) (hN : ∃ r : vw_C, gCl[ci]? = some r ∧ r.2.2 = ks.length) (hc : k_cell (e0 g tys B0) τ a H (.inl (ci, ks))) (hx : ks[k]? = some x) : ∃ v, (H[a]?).bind (fun c => c.slots[g.2 ci k]?) = some v ∧ k_ok τ x v := by
  obtain ⟨vs, ⟨r, g1, cell, g2, g3, g4, g5⟩, h2, h3⟩ := hc
  obtain ⟨v, v1, v2⟩ := h3 k x hx
  obtain ⟨r', e1, e2⟩ := hN
  have er : r' = r := Option.some.inj (e1.symm.trans g1)
  subst er
  have hk : k < ks.length := (List.getElem?_eq_some_iff.mp hx).1
  refine ⟨v, ?_, v2⟩
  rw [g2]
  show cell.slots[g.2 ci k]? = some v
  have g5 : ∀ k, k < r'.2.2 → cell.slots[g.2 ci k]? = some (vp_V vs k) := g5
  rw [g5 k (by omega)]
  simp [vp_V, v1]
theorem k_cell_set {ci k a : Nat} {ks : List kInfo} {x : kInfo} {v : Value} {cell : Cell} {H' : Heap} (hap : ∀ x y, x < ks.length → y < ks.length → x ≠ y → g.2 ci x ≠ g.2 ci y) (hN : ∃ r : vw_C, gCl[ci]? = some r ∧ r.2.2 = ks.length) (hc : k_cell (e0 g tys B0) τ a H (.inl (ci, ks))) (hk : k < ks.length) (hv : k_ok τ x v) (h1 : H[a]? = some cell) (e1 : H'[a]? = some (cell.setSlot (g.2 ci k) v)) : k_cell (e0 g tys B0) τ a H' (.inl (ci, ks.set k x)) := by
  obtain ⟨vs, ⟨r, g1, cell', g2, g3, g4, g5⟩, h2, h3⟩ := hc
  have : cell' = cell := Option.some.inj (g2.symm.trans h1)
  subst this
  obtain ⟨r', e1', e2⟩ := hN
  have er : r' = r := Option.some.inj (e1'.symm.trans g1)
  subst er
  have h2 : vs.length = ks.length := h2
  refine ⟨vs.set k v, ⟨r', g1, t_OB.to (V := updV (vp_V vs) k v) ⟨_, e1, g3, g4, t_set g5 (fun x y hx hy => hap x y (by omega) (by omega)) (by omega) v⟩ (fun j _ => vp_updV_set (by omega) v j)⟩, ?_, ?_⟩
  · show (vs.set k v).length = (ks.set k x).length
    rw [List.length_set, List.length_set]
    exact h2
  · intro j y hy
    have hy : (ks.set k x)[j]? = some y := hy
    by_cases c : j = k
    · subst c
      rw [List.getElem?_set_self hk] at hy
      cases hy
      exact ⟨v, List.getElem?_set_self (by omega), hv⟩
    · rw [List.getElem?_set_ne (Ne.symm c)] at hy
      obtain ⟨w, w1, w2⟩ := h3 j y hy
      exact ⟨w, by rw [List.getElem?_set_ne (Ne.symm c)]; exact w1, w2⟩
theorem k_slot_set {ci k a : Nat} {ks : List kInfo} {v : Value} {cell : Cell} {H' : Heap} (hap : ∀ x y, x < ks.length → y < ks.length → x ≠ y → g.2 ci x ≠ g.2 ci y) (hN : ∃ r : vw_C, gCl[ci]? = some r ∧ r.2.2 = ks.length) (hc : k_cell (e0 g tys B0) τ a H (.inl (ci, ks))) (hk : k < ks.length) (h1 : H[a]? = some cell) (e1 : H'[a]? = some (cell.setSlot (g.2 ci k) v)) : ∀ j, j < ks.length → (H'[a]?).bind (fun c => c.slots[g.2 ci j]?) = if j = k then some v else (H[a]?).bind (fun c => c.slots[g.2 ci j]?) := by
  obtain ⟨vs, ⟨r, g1, cell', g2, g3, g4, g5⟩, h2, h3⟩ := hc
  have : cell' = cell := Option.some.inj (g2.symm.trans h1)
  subst this
  obtain ⟨r', e1', e2⟩ := hN
  have er : r' = r := Option.some.inj (e1'.symm.trans g1)
  subst er
  intro j hj
  have hq := t_set (k := k) g5 (fun x y hx hy => hap x y (by omega) (by omega)) (by omega) v j (by omega)
  have hq : (cell'.setSlot (g.2 ci k) v).slots[g.2 ci j]? = some (updV (vp_V vs) k v j) := hq
  have hp : cell'.slots[g.2 ci j]? = some (vp_V vs j) := g5 j (by omega)
  rw [e1, h1]
  show (cell'.setSlot (g.2 ci k) v).slots[g.2 ci j]? = if j = k then some v else cell'.slots[g.2 ci j]?
  rw [hq, hp]
  by_cases c : j = k
  · subst c; simp [updV]
  · simp [updV, c]
/-- a field that isn't final is written -/
theorem z_put {idx ci k fk a : Nat} {v : Value} {ks : List kInfo} {x : kInfo} (hC : zC X g tys B0 nL cc own I FL) (h : k_cd I pc = some (.putfield idx, 3)) (hf : k_f4 FL idx = some (ci, k, fk)) (hap : ∀ x y, x < ks.length → y < ks.length → x ≠ y → g.2 ci x ≠ g.2 ci y) (hN : ∃ r : vw_C, gCl[ci]? = some r ∧ r.2.2 = ks.length) (hc : k_cell (e0 g tys B0) τ a H (.inl (ci, ks))) (hB : B0 ≤ a) (hk : k < ks.length) (hv : k_ok τ x v)
    (hty : ∀ ty, (fk = 0 → ty = FieldType.int) → (fk = 1 → ty = .boolean) → (fk = 2 → ty = .long) → (fk = 3 → ty.isReference = true) → narrow ty v = v ∧ fits ty v = true ∧ fk < 4)
    (kk : ∀ H' : Heap, k_cell (e0 g tys B0) τ a H' (.inl (ci, ks.set k x)) → H'.size = H.size → (∀ q : Nat, q ≠ a → H'[q]? = H[q]?) → (∀ j, j < ks.length → (H'[a]?).bind (fun c => c.slots[g.2 ci j]?) = if j = k then some v else (H[a]?).bind (fun c => c.slots[g.2 ci j]?)) → kz X B0 cells slots H' (pc + 3) nL L st) : kz X B0 cells slots H pc nL L (v :: .ref a :: st) := by
  obtain ⟨hF, hD, hK, hts, hB', -, hFL, -⟩ := hC
  have hd := hD _ (k_cd_ok h)
  obtain ⟨C, T, N, ref, ty, Ts, f1, f2, f3, f4, f5, f6, f7, t0, t1, t2, t3, t4⟩ := hFL _ (k_f4_ok hf)
  obtain ⟨hn, hfit, h4⟩ := hty ty t0 t1 t2 t3
  have hfin := t4 h4
  have hc0 := hc
  obtain ⟨vs, ⟨r, g1, cell, g2, g3, g4, g5⟩, h2, h3⟩ := hc
  obtain ⟨hS, hfc, kC, hkC, hkind⟩ := hK.1.1 ci _ f1
  obtain ⟨cf, kf, fi, f, hi, hsl⟩ := hS k f2
  have hlay := f3 _ (f4 _ (u_in_lay f2))
  unfold u_lay at hlay
  rw [if_neg (by rw [hfin]; decide)] at hlay
  have hst := (u_facts hfc hkC (u_lays f3 f4 f2) hi).1
  have h6 := u_store hfc hkC hkind hlay hi f7 hn hfit
  have er : r = (C, T, N) := Option.some.inj (g1.symm.trans f1)
  subst er
  intro locs hl ls hls
  refine W.putK hF.1 hF.2.1 (f := f) ⟨hF.2.2.2, f5, ⟨_, _, _, f6 _ hi⟩, hst⟩ (by rw [g3]; exact h6) g2 g4 (by rw [hsl]; exact k2_hasslot (g5 k f2)) rfl rfl hd fun H' e1 e2 e3 => ?_
  rw [hsl] at e1 ⊢
  refine kk H' (k_cell_set hap hN hc0 hk hv g2 e1) e2 e3 (k_slot_set hap hN hc0 hk g2 e1) _ (fun z hz => ?_) ls hls
  rcases List.mem_append.mp hz with e' | e'
  · exact hl z e'
  · rw [List.mem_singleton.mp e']; exact hB
/-- a final field is written by its constructor -/
theorem z_putF {idx ci k fk a : Nat} {v : Value} {ks : List kInfo} {x : kInfo} {ty' : FieldType} (hC : zC X g tys B0 nL cc own I FL) (hin : X.2.2.2.2.2.2.2.2.1.name = "<init>") (h : k_cd I pc = some (.putfield idx, 3)) (hf : k_f4 FL idx = some (ci, k, fk)) (hap : ∀ x y, x < ks.length → y < ks.length → x ≠ y → g.2 ci x ≠ g.2 ci y) (hN : ∃ r : vw_C, gCl[ci]? = some r ∧ r.2.2 = ks.length) (hc : k_cell (e0 g tys B0) τ a H (.inl (ci, ks))) (hB : B0 ≤ a) (hk : k < ks.length) (hv : k_ok τ x v)
    (hfin : ∀ r : vw_C, gCl[ci]? = some r → (r.2.1 k).2.2.2 = true ∧ (r.2.1 k).1 = own ∧ parseFieldDescriptor (r.2.1 k).2.2.1 = some ty') (hn : narrow ty' v = v) (hfit : fits ty' v = true)
    (kk : ∀ H' : Heap, k_cell (e0 g tys B0) τ a H' (.inl (ci, ks.set k x)) → H'.size = H.size → (∀ q : Nat, q ≠ a → H'[q]? = H[q]?) → (∀ j, j < ks.length → (H'[a]?).bind (fun c => c.slots[g.2 ci j]?) = if j = k then some v else (H[a]?).bind (fun c => c.slots[g.2 ci j]?)) → kz X B0 cells slots H' (pc + 3) nL L st) : kz X B0 cells slots H pc nL L (v :: .ref a :: st) := by
  obtain ⟨hF, hD, hK, hts, hB', -, hFL, -⟩ := hC
  have hd := hD _ (k_cd_ok h)
  obtain ⟨C, T, N, ref, ty, Ts, f1, f2, f3, f4, f5, f6, -⟩ := hFL _ (k_f4_ok hf)
  obtain ⟨fin1, fin2, fin3⟩ := hfin _ f1
  have hc0 := hc
  obtain ⟨vs, ⟨r, g1, cell, g2, g3, g4, g5⟩, h2, h3⟩ := hc
  obtain ⟨hS, hfc, kC, hkC, hkind⟩ := hK.1.1 ci _ f1
  obtain ⟨cf, kf, fi, f, hi, hsl⟩ := hS k f2
  have hlay := f3 _ (f4 _ (u_in_lay f2))
  unfold u_lay at hlay
  rw [if_pos fin1] at hlay
  have hst := (u_facts hfc hkC (u_lays f3 f4 f2) hi).1
  have hcf : X.2.2.2.2.2.1.cls = cf := by
    obtain ⟨_, _, c', _, _, _, -, -, hf', -, -, -, hown2, -⟩ := Cond.laysFinal_spec hlay
    have e1 : c' = cf := by have := hi.symm.trans hf'; simp at this; exact this.1.symm
    rw [fin2] at hown2
    rw [← e1]; exact Option.some.inj (hF.2.2.2.symm.trans hown2)
  have h6 := u_fits hfc hkC hkind (Or.inr hlay) hi fin3 hn hfit
  have er : r = (C, T, N) := Option.some.inj (g1.symm.trans f1)
  subst er
  intro locs hl ls hls
  refine W.putFinK hF.1 hF.2.1 hF.2.2.2 f5 (f6 _ hi) hst hcf hin (by rw [g3]; exact h6) g2 g4 (by rw [hsl]; exact k2_hasslot (g5 k f2)) rfl rfl hd fun H' e1 e2 e3 => ?_
  rw [hsl] at e1 ⊢
  refine kk H' (k_cell_set hap hN hc0 hk hv g2 e1) e2 e3 (k_slot_set hap hN hc0 hk g2 e1) _ (fun z hz => ?_) ls hls
  rcases List.mem_append.mp hz with e' | e'
  · exact hl z e'
  · rw [List.mem_singleton.mp e']; exact hB
/-- a new array of numbers -/
theorem z_newa {atype : ArrayType} {x : Int32} {N ai : Nat} (hC : zC X g tys B0 nL cc own I FL) (h : k_cd I pc = some (.newarray atype, 2)) (hty : gTyL[ai]? = some (newarray.typeOf atype)) (hw : Jvm.Cond.arrayClass (newarray.typeOf atype) ∈ gTB) (hat : atype ≠ .char ∧ atype ≠ .float ∧ atype ≠ .double ∧ atype ≠ .short) (hx : x.toInt = (N : Int)) (hN : N ≤ 60000000) (hce : cells + 1 ≤ X.2.2.2.1.cells) (hsl : slots + N ≤ X.2.2.2.1.slots)
    (kk : ∀ (H' : Heap) (cA : ClassId), tys[ai]? = some (cA, newarray.typeOf atype) → H'[H.size]? = some (arrV cA N (fun _ => defaultValue (newarray.typeOf atype))) → H'.size = H.size + 1 → (∀ q : Nat, q < H.size → H'[q]? = H[q]?) → kz X B0 (cells + 1) (slots + N) H' (pc + 2) nL L (.ref H.size :: st)) : kz X B0 cells slots H pc nL L (.int x :: st) := by
  obtain ⟨hF, hD, hK, hts, hB', -, -, -, htys, -⟩ := hC
  have hd := hD _ (k_cd_ok h)
  obtain ⟨c0, hc0⟩ := gTyL_at htys hty
  have hra := (hK.1.2 ai _ hc0).2
  have hnm : X.2.2.2.2.1.vm.findClass ("[" ++ (newarray.typeOf atype).toString) = some c0 := by
    cases atype <;> first | exact hra | (exfalso; first | exact hat.1 rfl | exact hat.2.1 rfl | exact hat.2.2.1 rfl | exact hat.2.2.2 rfl)
  intro locs hl ls hls
  refine va_newaK (N := N) hF.1 hF.2.1 (hts _ hw) rfl hd rfl (by rw [Int32.lt_iff_toInt_lt]; show ¬ x.toInt < 0; omega) (by show x.toInt.toNat = N; omega) (by cases atype <;> simp only [newarray.typeOf, componentBytes] <;> omega) hce hsl rfl (fun H' cA e1 z1 o1 _ hN' => ?_)
  have ec : cA = c0 := Option.some.inj (hN'.symm.trans hnm)
  subst ec
  exact kk H' cA hc0 e1 z1 o1 locs hl ls hls
/-- a new array of references -/
theorem z_anew {C : String} {x : Int32} {N ai idx : Nat} (hC : zC X g tys B0 nL cc own I FL) (h : k_cd I pc = some (.anewarray idx, 3)) (hty : gTyL[ai]? = some (.object C)) (hw1 : Jvm.Cond.classLink own idx C ∈ gTB) (hw2 : C ∈ [RX6, RX10, RX4]) (hx : x.toInt = (N : Int)) (hN : N ≤ 60000000) (hce : cells + 1 ≤ X.2.2.2.1.cells) (hsl : slots + N ≤ X.2.2.2.1.slots)
    (kk : ∀ (H' : Heap) (cA : ClassId), tys[ai]? = some (cA, .object C) → H'[H.size]? = some (arrV cA N (fun _ => .null)) → H'.size = H.size + 1 → (∀ q : Nat, q < H.size → H'[q]? = H[q]?) → kz X B0 (cells + 1) (slots + N) H' (pc + 3) nL L (.ref H.size :: st)) : kz X B0 cells slots H pc nL L (.int x :: st) := by
  obtain ⟨hF, hD, hK, hts, hB', -, -, -, htys, hzn⟩ := hC
  have hd := hD _ (k_cd_ok h)
  obtain ⟨c0, hc0⟩ := gTyL_at htys hty
  obtain ⟨kA0, comp0, -, -, -, hnm⟩ := (hK.1.2 ai _ hc0).2
  have hxn : x.toNatClampNeg = N := by show x.toInt.toNat = N; omega
  subst hxn
  intro locs hl ls hls
  refine W.anew hF.1 hF.2.1 hF.2.2.2 (hts _ hw1) (va_AO.use (hzn.2.1 _ hw2)) rfl hd rfl (by rw [Int32.lt_iff_toInt_lt]; show ¬ x.toInt < 0; omega) (by omega) hce hsl (fun cA kA comp f1 f2 f3 f4 => ?_)
  have ec : cA = c0 := Option.some.inj (f1.symm.trans hnm)
  subst ec
  exact kk _ cA hc0 (by rw [Array.getElem?_push_size, ← arrV_new]) (by rw [Array.size_push]) (fun q hq => by rw [Array.getElem?_push, if_neg (Nat.ne_of_lt hq)]) locs hl ls hls
/-- the kinds of a fresh object's fields -/
def z_k0 : FieldType → kInfo
  | .int => .inl (0, 0)
  | .boolean => .inl (0, 0)
  | .long => .inr (.inl (0, 0))
  | _ => .inr (.inr (.inl (true, [])))
def z_ks (ty : Nat → FieldType) (N : Nat) : List kInfo := (List.range N).map (fun k => z_k0 (ty k))
theorem z_new {C : String} {T : u_T} {N ci idx : Nat} {ty : Nat → FieldType} (hC : zC X g tys B0 nL cc own I FL) (h : k_cd I pc = some (.new idx, 3)) (hcl : gCl[ci]? = some (C, T, N)) (hin : ∀ w ∈ u_ws C T N, w ∈ gTB) (hty : ∀ k, k < N → parseFieldDescriptor (T k).2.2.1 = some (ty k)) (hok : ∀ k, k < N → k_ok τ (z_k0 (ty k)) (defaultValue (ty k))) (hw1 : Jvm.Cond.classLink own idx C ∈ gTB) (hw2 : Jvm.Cond.instantiable C N ∈ gTB) (hw3 : Jvm.Cond.initialized C ∈ gTB) (hce : cells + 1 ≤ X.2.2.2.1.cells) (hsl : slots + N ≤ X.2.2.2.1.slots)
    (kk : ∀ H' : Heap, k_cell (e0 g tys B0) τ H.size H' (.inl (ci, z_ks ty N)) → H'.size = H.size + 1 → (∀ q : Nat, q < H.size → H'[q]? = H[q]?) → kz X B0 (cells + 1) (slots + N) H' (pc + 3) nL L (.ref H.size :: st)) : kz X B0 cells slots H pc nL L st := by
  obtain ⟨hF, hD, hK, hts, hB', -⟩ := hC
  have hd := hD _ (k_cd_ok h)
  have hKn := hK.1.1 ci _ hcl
  intro locs hl ls hls
  refine W.newcK hF.1 hF.2.1 hF.2.2.2 (hts _ hw1) (hts _ hw2) (hts _ hw3) rfl hd hce hsl hKn.2.1 rfl fun H1 kC hkC e1 z1 o1 => ?_
  have hb := u_born ty hts hin hKn hkC e1 hty
  refine kk H1 ⟨(List.range N).map (fun k => defaultValue (ty k)), ⟨_, hcl, hb.to (fun k hk => ?_)⟩, ?_, ?_⟩ z1 o1 locs hl ls hls
  · have hk : k < N := hk
    simp [vp_V, hk]
  · simp [z_ks]
  · intro k y hy
    have hy : (z_ks ty N)[k]? = some y := hy
    unfold z_ks at hy
    have hk : k < N := by
      have := (List.getElem?_eq_some_iff.mp hy).1
      simpa using this
    simp [hk] at hy
    subst hy
    exact ⟨_, by simp [hk], hok k hk⟩
end ZR
/-! ===== constructors' contracts ===== -/
def c_Pc (g : va_G) (tys : List (ClassId × FieldType)) (B0 : Nat) (τ : kTau) (ci : Nat) (ks P : List kInfo) (ps : List Value) : Array Value → State → Prop := fun a U => a = ps.toArray ∧ (kK g gCl tys B0 U ∧ zN U) ∧ B0 ≤ U.heap.size ∧ k_HT (e0 g tys B0) τ U.heap ∧
  ∃ (b : Nat) (As : List Value), ps = .ref b :: As ∧ τ b = none ∧ B0 ≤ b ∧ k_cell (e0 g tys B0) τ b U.heap (.inl (ci, ks)) ∧ As.length = P.length ∧ ∀ (i : Nat) (x : kInfo), P[i]? = some x → ∃ v, As[i]? = some v ∧ k_ok τ x v
def c_post (g : va_G) (tys : List (ClassId × FieldType)) (B0 : Nat) (τ τ' : kTau) (b t : Nat) (NT : List Nat) (Ex : kTau → Heap → Nat → Prop) (H H' : Heap) : Prop :=
  zle τ τ' ∧ (∀ q u : Nat, τ' q = some u → τ q = some u ∨ (q = b ∧ u = t) ∨ u ∈ NT) ∧ k_HT (e0 g tys B0) τ' H' ∧ τ' b = some t ∧ (∀ q : Nat, q < H.size → q ≠ b → H'[q]? = H[q]? ∧ τ' q = τ q) ∧ H.size ≤ H'.size ∧ Ex τ' H' b
def c_Qc (g : va_G) (tys : List (ClassId × FieldType)) (B0 : Nat) (τ : kTau) (t : Nat) (NT : List Nat) (Ex : kTau → Heap → Nat → Prop) (ps : List Value) : Array Value → State → Outcome → State → Prop := fun _ st o u => o = .returned none ∧ ∀ (b : Nat) (As : List Value), ps = .ref b :: As → ∃ τ' : kTau, c_post g tys B0 τ τ' b t NT Ex st.heap u.heap
def c_Met (l : Launch) (g : va_G) (tys : List (ClassId × FieldType)) (B0 : Nat) (τ : kTau) (y : MethodName) (cc : ByteArray) (nL ci : Nat) (ks P : List kInfo) (t : Nat) (NT : List Nat) (Ex : kTau → Heap → Nat → Prop) (rm : Room) : Prop :=
  ∀ ps : List Value, Met l y (Jvm.Cond.code y cc nL none :: gTB) rm (c_Pc g tys B0 τ ci ks P ps) (c_Qc g tys B0 τ t NT Ex ps) rm.cells rm.slots (fun q => B0 ≤ q)
theorem c_Pc_blind {g : va_G} {tys : List (ClassId × FieldType)} {B0 : Nat} {τ : kTau} {ci : Nat} {ks P : List kInfo} {ps : List Value} : FrameBlind (c_Pc g tys B0 τ ci ks P ps) := by
  intro a U g' mk h
  obtain ⟨h1, h2, h3⟩ := h
  exact ⟨h1, ⟨⟨va_K.moved (u := U) (U := U.calling g' mk a) (Vm.Alike.refl U.vm) h2.1.1, gZ_moved (s := U) (U := U.calling g' mk a) (State.WarmedH.refl U) (fun _ _ _ => rfl) h2.1.2⟩, zN_moved (s := U) (U := U.calling g' mk a) (State.WarmedH.refl U) h2.2⟩, h3⟩
theorem gGoodIn {w0 : Jvm.Cond} (h : w0 ∈ gTB) : GoodIn gTB (w0 :: gTB) := fun w hw => by
  rcases List.mem_cons.mp hw with e | e
  · subst e; exact ⟨h, good_of_word (gGood _ h)⟩
  · exact ⟨e, good_of_word (gGood w e)⟩
theorem z_met {l : Launch} {g : va_G} {tys : List (ClassId × FieldType)} {B0 : Nat} {τ : kTau} {y : MethodName} {cc : ByteArray} {nL ci : Nat} {ks P : List kInfo} {t : Nat} {NT : List Nat} {Ex : kTau → Heap → Nat → Prop} {rm : Room} {I : List (Nat × Instr × Nat)} {FL : List (Nat × Nat × Nat × Nat)} (h0 : gE1 g) (htys : tys.map Prod.snd = gTyL) (hpl : plainName y.cls = true) (hnm : y.name = "<init>") (hdec : ∀ q ∈ I, decode cc q.1 = .ok q.2)
    (hFL : ∀ X : kX, (∀ w ∈ gTB, w.before X.2.2.2.2.2.2.1 X.2.2.2.2.1 = true) → k_FL X (e0 g tys B0) y.cls FL) (hw : k_words (.inr (.inr (.inr ())) :: P) ≤ nL)
    (walk : ∀ (X : kX) (b : Nat) (As : List Value), X.2.1 = l → X.2.2.2.1 = rm → zC X g tys B0 nL cc y.cls I FL → X.2.2.2.2.2.2.2.2.1.name = "<init>" → X.2.2.2.2.2.2.2.2.1.sig.returnType = none → X.2.2.2.2.2.2.2.2.2.2 = MQ X.2.2.2.2.2.2.2.1 (c_Qc g tys B0 τ t NT Ex (.ref b :: As)) X.2.2.2.2.2.2.1 X.2.2.2.2.1 rm.cells rm.slots (fun q => B0 ≤ q) →
      k_HT (e0 g tys B0) τ X.2.2.2.2.1.heap → τ b = none → B0 ≤ b → k_cell (e0 g tys B0) τ b X.2.2.2.2.1.heap (.inl (ci, ks)) → As.length = P.length → (∀ (i : Nat) (x : kInfo), P[i]? = some x → ∃ v, As[i]? = some v ∧ k_ok τ x v) → kz X B0 0 0 X.2.2.2.2.1.heap 0 nL (lv_args 0 (.ref b :: As)) []) : c_Met l g tys B0 τ y cc nL ci ks P t NT Ex rm := by
  intro ps
  refine Met.ofW (cc := cc) (maxL := nL) (ret := none) hpl rfl ?_
  intro p e s m args below meth c s₁ B hml hv
  obtain ⟨rfl, ⟨hK, hzn⟩, hsz, hH, b, As, rfl, hb, hB, hc, hAl, hA⟩ := hv
  have hts0 := atoms_spec (ws := Jvm.Cond.code y cc nL none :: gTB) B.pre
  have hts : ∀ w ∈ gTB, w.before (Value.ref b :: As).toArray s = true := fun w hw => hts0 w (List.mem_cons_of_mem _ hw)
  have hown : s.vm.findClass y.cls = some m.cls := findClass_of_methodNamed B.named
  have hin : meth.name = "<init>" := by rw [(name_of_methodNamed B.named B.method).1]; exact hnm
  have hC : zC (p, l, e, rm, s, m, (Value.ref b :: As).toArray, below, meth, c, MQ below (c_Qc g tys B0 τ t NT Ex (.ref b :: As)) (Value.ref b :: As).toArray s rm.cells rm.slots (fun q => B0 ≤ q)) g tys B0 nL cc y.cls I FL := ⟨⟨B.exec, B.bytes, hml, hown⟩, hdec, hK, hts, hsz, B.notSynchronized, hFL _ hts, h0, htys, hzn⟩
  have hwd := k_words_ok (τ := τ) (xs := .inr (.inr (.inr ())) :: P) (vs := .ref b :: As) (by simp [hAl]) (fun k x hx => by
    cases k with
    | zero => cases hx; exact ⟨_, rfl, rfl⟩
    | succ k => exact hA k x hx)
  have hl := lv_entry (Value.ref b :: As) (n := nL) (by rw [hwd]; exact hw)
  rw [lg_entry_eq]
  exact walk _ b As rfl rfl hC hin B.returns rfl hH hb hB hc hAl hA [] (fun _ h => by cases h) _ hl
section ZS
variable {X : kX} {g : va_G} {tys : List (ClassId × FieldType)} {B0 nL : Nat} {cc : ByteArray} {own : String} {I : List (Nat × Instr × Nat)} {FL : List (Nat × Nat × Nat × Nat)} {cells slots : Nat} {H : Heap} {pc : Nat} {L : List (Nat × Value)} {st : List Value} {τ : kTau}
theorem z_vret {τ0 : kTau} {b t mc ms : Nat} {As : List Value} {NT : List Nat} {Ex : kTau → Heap → Nat → Prop} (hC : zC X g tys B0 nL cc own I FL) (hret : X.2.2.2.2.2.2.2.2.1.sig.returnType = none) (hQ : X.2.2.2.2.2.2.2.2.2.2 = MQ X.2.2.2.2.2.2.2.1 (c_Qc g tys B0 τ0 t NT Ex (.ref b :: As)) X.2.2.2.2.2.2.1 X.2.2.2.2.1 mc ms (fun q => B0 ≤ q)) (h : k_cd I pc = some (.return_, 1)) (hce : cells ≤ mc) (hsl : slots ≤ ms) (hp : ∃ τ' : kTau, c_post g tys B0 τ0 τ' b t NT Ex X.2.2.2.2.1.heap H) : kz X B0 cells slots H pc nL L [] := by
  obtain ⟨hF, hD, -, -, -, hlk, -⟩ := hC
  have hd := hD _ (k_cd_ok h)
  intro locs hl ls hls
  refine W.widen hce hsl ?_
  rw [hQ]
  exact W.vret hF.1 hF.2.1 hret (fun u hu _ => ⟨rfl, fun b' As' e => by cases e; rw [hu]; exact hp⟩) hl hd hlk
theorem z_init {y : MethodName} {cc' : ByteArray} {nL' ci t idx b : Nat} {ks P : List kInfo} {NT : List Nat} {Ex : kTau → Heap → Nat → Prop} {rm : Room} {As rest : List Value} (hC : zC X g tys B0 nL cc own I FL) (h : k_cd I pc = some (.invokespecial idx, 3)) (hM : c_Met X.2.1 g tys B0 τ y cc' nL' ci ks P t NT Ex rm) (hcode : Jvm.Cond.code y cc' nL' none ∈ gTB) (hini : Jvm.Cond.initialized y.cls ∈ gTB) (hlk : Jvm.Cond.methodLink own idx y ∈ gTB) (him : Jvm.Cond.instanceMethod y ∈ gTB) (hnm : y.name = "<init>")
    (hd : y.cls ≠ "java/lang/invoke/MethodHandle" ∧ y.cls ≠ "java/lang/invoke/VarHandle" ∧ (parseMethodDescriptor y.desc).map (fun d => d.parameters.length) = some P.length) (hR : rm.frames + 1 ≤ X.2.2.2.1.frames ∧ 8 + (nL' + 11) + rm.locals ≤ X.2.2.2.1.locals) (hce : cells + rm.cells ≤ X.2.2.2.1.cells ∧ slots + rm.slots ≤ X.2.2.2.1.slots)
    (hH : k_HT (e0 g tys B0) τ H) (hsz : B0 ≤ H.size) (hb : τ b = none) (hB : B0 ≤ b) (hc : k_cell (e0 g tys B0) τ b H (.inl (ci, ks))) (hAl : As.length = P.length) (hA : ∀ (i : Nat) (x : kInfo), P[i]? = some x → ∃ v, As[i]? = some v ∧ k_ok τ x v) (hs : st = As.reverse ++ .ref b :: rest) (hcat : (rest.map fun v => v.category).sum ≤ 8)
    (kk : ∀ (H' : Heap) (τ' : kTau), c_post g tys B0 τ τ' b t NT Ex H H' → kz X B0 (cells + rm.cells) (slots + rm.slots) H' (pc + 3) nL L rest) : kz X B0 cells slots H pc nL L st := by
  obtain ⟨hF, hD, hK, hts, -, -, -, -, -, hzn⟩ := hC
  have hdc := hD _ (k_cd_ok h)
  subst hs
  intro locs hl ls hls T hT Y
  have hz := k_below Y hl
  rw [hT] at hz
  have hr := W.runI (e := X.2.2.1) (below := X.2.2.2.2.2.2.2.1) (meth := X.2.2.2.2.2.2.2.2.1) (g := F0 X.2.2.2.2.2.1 pc ls (As.reverse ++ .ref b :: rest)) (Ts := gTB) (cc := cc) (nL := nL) (own := own) (As := As) (b := b) (rest := rest) (H := H) (locs := locs) (cells := cells) (slots := slots) ⟨hF.1, hF.2.1, hF.2.2.1, hF.2.2.2, hts⟩ (hM (.ref b :: As)) ⟨callB_of (Ts := gTB) P.length hts (gGoodIn hcode) rfl rfl rfl (hts _ hini) (hts _ hlk) hd hR, hnm, hts _ him⟩
    ⟨c_Pc_blind, fun U hU hW => ⟨rfl, ⟨⟨va_K.moved hW.alike hK.1, gZ_moved hW (by rw [hU]; exact hz) hK.2⟩, zN_moved hW hzn⟩, by rw [hU]; exact hsz, by rw [hU]; exact hH, b, As, rfl, hb, hB, by rw [hU]; exact hc, hAl, hA⟩⟩ rfl hAl hls.1 rfl (lv_room hcat) hdc hce
  obtain ⟨v, st₀, u, T', L', e0', Y', hL, e1, ⟨hv, hq⟩, go⟩ := hr T hT Y
  cases hv
  obtain ⟨τ', hp⟩ := hq b As rfl
  rw [e0'] at hp
  obtain ⟨t2, a1, b1⟩ := kk u.heap τ' hp (locs ++ L') (fun z hz => by
    rcases List.mem_append.mp hz with e' | e'
    · exact hl z e'
    · exact hL z e') ls hls T' e1 Y'
  exact ⟨t2, go t2 a1, b1⟩
theorem z_initN {y : MethodName} {cc' : ByteArray} {nL' ci t idx b : Nat} {ks P : List kInfo} {NT : List Nat} {Ex : kTau → Heap → Nat → Prop} {rm : Room} {As rest : List Value} (hC : zC X g tys B0 nL cc own I FL) (h : k_cd I pc = some (.invokespecial idx, 3)) (hM : c_Met X.2.1 g tys B0 τ y cc' nL' ci ks P t NT Ex rm) (hcode : Jvm.Cond.code y cc' nL' none ∈ gTB) (hini : Jvm.Cond.initialized y.cls ∈ gTB) (hlk : (own, idx, y) ∈ zNL) (him : Jvm.Cond.instanceMethod y ∈ gTB) (hnm : y.name = "<init>")
    (hd : y.cls ≠ "java/lang/invoke/MethodHandle" ∧ y.cls ≠ "java/lang/invoke/VarHandle" ∧ (parseMethodDescriptor y.desc).map (fun d => d.parameters.length) = some P.length) (hR : rm.frames + 1 ≤ X.2.2.2.1.frames ∧ 8 + (nL' + 11) + rm.locals ≤ X.2.2.2.1.locals) (hce : cells + rm.cells ≤ X.2.2.2.1.cells ∧ slots + rm.slots ≤ X.2.2.2.1.slots)
    (hH : k_HT (e0 g tys B0) τ H) (hsz : B0 ≤ H.size) (hb : τ b = none) (hB : B0 ≤ b) (hc : k_cell (e0 g tys B0) τ b H (.inl (ci, ks))) (hAl : As.length = P.length) (hA : ∀ (i : Nat) (x : kInfo), P[i]? = some x → ∃ v, As[i]? = some v ∧ k_ok τ x v) (hs : st = As.reverse ++ .ref b :: rest) (hcat : (rest.map fun v => v.category).sum ≤ 8)
    (kk : ∀ (H' : Heap) (τ' : kTau), c_post g tys B0 τ τ' b t NT Ex H H' → kz X B0 (cells + rm.cells) (slots + rm.slots) H' (pc + 3) nL L rest) : kz X B0 cells slots H pc nL L st := by
  obtain ⟨hF, hD, hK, hts, -, -, -, -, -, hzn⟩ := hC
  have hdc := hD _ (k_cd_ok h)
  subst hs
  intro locs hl ls hls T hT Y
  have hz := k_below Y hl
  rw [hT] at hz
  have hr := va_runIN (host := RX11) (e := X.2.2.1) (below := X.2.2.2.2.2.2.2.1) (meth := X.2.2.2.2.2.2.2.2.1) (g := F0 X.2.2.2.2.2.1 pc ls (As.reverse ++ .ref b :: rest)) (Ts := gTB) (cc := cc) (nL := nL) (own := own) (As := As) (b := b) (rest := rest) (H := H) (locs := locs) (cells := cells) (slots := slots) ⟨hF.1, hF.2.1, hF.2.2.1, hF.2.2.2, hts⟩ (hM (.ref b :: As)) ⟨va_cnB (Ts := gTB) P.length hts (gGoodIn hcode) rfl rfl rfl (hzn.1 _ hlk) (hts _ hini) hd hR, hnm, hts _ him⟩
    ⟨c_Pc_blind, fun U hU hW => ⟨rfl, ⟨⟨va_K.moved hW.alike hK.1, gZ_moved hW (by rw [hU]; exact hz) hK.2⟩, zN_moved hW hzn⟩, by rw [hU]; exact hsz, by rw [hU]; exact hH, b, As, rfl, hb, hB, by rw [hU]; exact hc, hAl, hA⟩⟩ rfl hAl hls.1 rfl (lv_room hcat) hdc hce
  obtain ⟨v, st₀, u, T', L', e0', Y', hL, e1, -, ⟨hv, hq⟩, go⟩ := hr T hT Y
  cases hv
  obtain ⟨τ', hp⟩ := hq b As rfl
  rw [e0'] at hp
  obtain ⟨t2, a1, b1⟩ := kk u.heap τ' hp (locs ++ L') (fun z hz => by
    rcases List.mem_append.mp hz with e' | e'
    · exact hl z e'
    · exact hL z e') ls hls T' e1 Y'
  exact ⟨t2, go t2 a1, b1⟩
end ZS
/-! ===== the state of an object that is being made ===== -/
def zI (g : va_G) (tys : List (ClassId × FieldType)) (B0 : Nat) (τ0 : kTau) (H0 : Heap) (a ci : Nat) (NT : List Nat) (ks : List kInfo) (τ : kTau) (H : Heap) : Prop :=
  k_HT (e0 g tys B0) τ H ∧ zle τ0 τ ∧ τ a = none ∧ k_cell (e0 g tys B0) τ a H (.inl (ci, ks)) ∧ B0 ≤ a ∧ a < H0.size ∧ H0.size ≤ H.size ∧ B0 ≤ H0.size ∧ (∀ q : Nat, q < H0.size → q ≠ a → H[q]? = H0[q]? ∧ τ q = τ0 q) ∧ ∀ q u : Nat, τ q = some u → τ0 q = some u ∨ u ∈ NT
section ZI
variable {g : va_G} {tys : List (ClassId × FieldType)} {B0 : Nat} {τ0 τ : kTau} {H0 H H' : Heap} {a ci : Nat} {NT : List Nat} {ks : List kInfo}
theorem zI_begin (hH : k_HT (e0 g tys B0) τ0 H0) (ha : τ0 a = none) (hB : B0 ≤ a) (hc : k_cell (e0 g tys B0) τ0 a H0 (.inl (ci, ks))) (hs : B0 ≤ H0.size) : zI g tys B0 τ0 H0 a ci NT ks τ0 H0 := ⟨hH, zle_refl, ha, hc, hB, k_cell_lt hc, Nat.le_refl _, hs, fun _ _ _ => ⟨rfl, rfl⟩, fun _ _ h => Or.inl h⟩
theorem zI_put {k : Nat} {x : kInfo} (hI : zI g tys B0 τ0 H0 a ci NT ks τ H) (hc : k_cell (e0 g tys B0) τ a H' (.inl (ci, ks.set k x))) (hs : H'.size = H.size) (ho : ∀ q : Nat, q ≠ a → H'[q]? = H[q]?) : zI g tys B0 τ0 H0 a ci NT (ks.set k x) τ H' := by
  obtain ⟨h1, h2, h3, h4, h5, h6, h7, h8, h9, h10⟩ := hI
  refine ⟨k_HT_kept h1 (fun q u hq => ho q (fun z => by rw [z, h3] at hq; cases hq)), h2, h3, hc, h5, h6, by omega, h8, fun q hq hne => ⟨by rw [ho q hne]; exact (h9 q hq hne).1, (h9 q hq hne).2⟩, h10⟩
theorem zI_arr {t : Nat} {d : kDesc} (hI : zI g tys B0 τ0 H0 a ci NT ks τ H) (ht : t ∈ NT) (hd : gTT[t]? = some d) (hs : H'.size = H.size + 1) (ho : ∀ q : Nat, q < H.size → H'[q]? = H[q]?) (hc : k_cell (e0 g tys B0) (zt τ H.size t) H.size H' d) : zI g tys B0 τ0 H0 a ci NT ks (zt τ H.size t) H' := by
  obtain ⟨h1, h2, h3, h4, h5, h6, h7, h8, h9, h10⟩ := hI
  have hn : τ H.size = none := k_HT_top h1 (Nat.le_refl _)
  have hle := zle_t (t := t) hn
  have ha : a < H.size := k_cell_lt h4
  refine ⟨k_HT_t (k_HT_kept h1 (fun q u hq => ho q (k_HT_lt h1 hq))) hn (by show B0 ≤ H.size; omega) hd hc, zle_trans h2 hle, by rw [zt_ne (by omega)]; exact h3, k_cell_up hle (k_cell_kept h4 (ho a ha)), h5, h6, by omega, h8, fun q hq hne => ⟨by rw [ho q (by omega)]; exact (h9 q hq hne).1, by rw [zt_ne (by omega)]; exact (h9 q hq hne).2⟩, fun q u hq => ?_⟩
  by_cases c : q = H.size
  · subst c
    rw [zt_at] at hq
    cases hq
    exact Or.inr ht
  · rw [zt_ne c] at hq
    exact h10 q u hq
/-- 'new' alone -/
theorem zI_new {H1 : Heap} (hI : zI g tys B0 τ0 H0 a ci NT ks τ H) (hs : H1.size = H.size + 1) (ho : ∀ q : Nat, q < H.size → H1[q]? = H[q]?) : zI g tys B0 τ0 H0 a ci NT ks τ H1 ∧ τ H.size = none ∧ B0 ≤ H.size ∧ H0.size ≤ H.size ∧ B0 ≤ H1.size := by
  obtain ⟨h1, h2, h3, h4, h5, h6, h7, h8, h9, h10⟩ := hI
  have ha : a < H.size := k_cell_lt h4
  exact ⟨⟨k_HT_kept h1 (fun q u hq => ho q (k_HT_lt h1 hq)), h2, h3, k_cell_kept h4 (ho a ha), h5, h6, by omega, h8, fun q hq hne => ⟨by rw [ho q (by omega)]; exact (h9 q hq hne).1, (h9 q hq hne).2⟩, h10⟩, k_HT_top h1 (Nat.le_refl _), by omega, by omega, by omega⟩
/-- behind a constructor -/
theorem zI_obj {H2 : Heap} {τ' : kTau} {b t : Nat} {NT' : List Nat} {Ex : kTau → Heap → Nat → Prop} (hI : zI g tys B0 τ0 H0 a ci NT ks τ H) (hb : H0.size ≤ b) (ht : t ∈ NT) (hNT : ∀ u ∈ NT', u ∈ NT) (hp : c_post g tys B0 τ τ' b t NT' Ex H H2) : zI g tys B0 τ0 H0 a ci NT ks τ' H2 := by
  obtain ⟨h1, h2, h3, h4, h5, h6, h7, h8, h9, h10⟩ := hI
  obtain ⟨p1, p2, p3, p4, p5, p6, -⟩ := hp
  refine ⟨p3, zle_trans h2 p1, by rw [(p5 a (by omega) (by omega)).2]; exact h3, k_cell_up p1 (k_cell_kept h4 (p5 a (by omega) (by omega)).1), h5, h6, by omega, h8, fun q hq hne => ⟨by rw [(p5 q (by omega) (by omega)).1]; exact (h9 q hq hne).1, by rw [(p5 q (by omega) (by omega)).2]; exact (h9 q hq hne).2⟩, fun q u hq => ?_⟩
  rcases p2 q u hq with e | ⟨-, e⟩ | e
  · exact h10 q u e
  · subst e; exact Or.inr ht
  · exact Or.inr (hNT u e)
theorem zI_end {t : Nat} {fs : List kInfo} {Ex : kTau → Heap → Nat → Prop} (hI : zI g tys B0 τ0 H0 a ci NT ks τ H) (hd : gTT[t]? = some (.inl (ci, fs))) (hl : ks.length = fs.length) (hk : (List.zip ks fs).all (fun q => k_isub q.1 q.2) = true) (hE : zle τ (zt τ a t) → (zt τ a t) a = some t → k_cell (e0 g tys B0) (zt τ a t) a H (.inl (ci, ks)) → Ex (zt τ a t) H a) : ∃ τ' : kTau, c_post g tys B0 τ0 τ' a t NT Ex H0 H := by
  obtain ⟨h1, h2, h3, h4, h5, h6, h7, h8, h9, h10⟩ := hI
  have hle := zle_t (t := t) h3
  have h4' := k_cell_up hle h4
  have hc : k_cell (e0 g tys B0) (zt τ a t) a H (.inl (ci, fs)) := by
    obtain ⟨vs, q1, q2, q3⟩ := h4'
    refine ⟨vs, q1, Eq.trans q2 hl, fun k y hy => ?_⟩
    have hy : fs[k]? = some y := hy
    have hkl : k < ks.length := by rw [hl]; exact (List.getElem?_eq_some_iff.mp hy).1
    have hx : ks[k]? = some ks[k] := List.getElem?_eq_getElem hkl
    obtain ⟨v, v1, v2⟩ := q3 k _ hx
    refine ⟨v, v1, k_isub_ok ?_ v2⟩
    rw [List.all_eq_true] at hk
    refine hk (ks[k], y) ?_
    refine List.mem_of_getElem? (i := k) ?_
    rw [List.getElem?_zip_eq_some]
    exact ⟨hx, hy⟩
  refine ⟨zt τ a t, zle_trans h2 hle, fun q u hq => ?_, k_HT_t h1 h3 h5 hd hc, zt_at, fun q hq hne => ⟨(h9 q hq hne).1, by rw [zt_ne hne]; exact (h9 q hq hne).2⟩, h7, hE hle zt_at h4'⟩
  by_cases c : q = a
  · subst c
    rw [zt_at] at hq
    cases hq
    exact Or.inr (Or.inl ⟨rfl, rfl⟩)
  · rw [zt_ne c] at hq
    rcases h10 q u hq with e | e
    · exact Or.inl e
    · exact Or.inr (Or.inr e)
/-- an array that had no kind gets one -/
theorem zI_raw {b k t u ai N : Nat} {cA : ClassId} {ty : FieldType} {f : Nat → Value} (h0 : gE1 g) (hap : ∀ x y, x < ks.length → y < ks.length → x ≠ y → g.2 ci x ≠ g.2 ci y) (hN : ∃ r : vw_C, gCl[ci]? = some r ∧ r.2.2 = ks.length) (hI : zI g tys B0 τ0 H0 a ci NT ks τ H) (hb : τ b = none) (hb0 : H0.size ≤ b) (hba : b ≠ a) (hB : B0 ≤ b) (ht : t ∈ NT) (hd : gTT[t]? = some (.inr (ai, N, N, [], .inr (.inr (.inl (false, [u])))))) (htys : tys[ai]? = some (cA, ty)) (hcell : H[b]? = some (arrV cA N f)) (hf : ∀ j, j < N → ∃ s, f j = .ref s ∧ τ s = some u) (hk : k < ks.length) (hs : (H[a]?).bind (fun c => c.slots[g.2 ci k]?) = some (.ref b)) : zI g tys B0 τ0 H0 a ci NT (ks.set k (.inr (.inr (.inl (false, [t]))))) (zt τ b t) H := by
  obtain ⟨h1, h2, h3, h4, h5, h6, h7, h8, h9, h10⟩ := hI
  have hle := zle_t (t := t) hb
  refine ⟨k_HT_t h1 hb hB hd ⟨cA, ty, N, f, htys, hcell, Nat.le_refl _, Nat.le_refl _, fun j hj => ?_⟩, zle_trans h2 hle, by rw [zt_ne (Ne.symm hba)]; exact h3, ?_, h5, h6, h7, h8, fun q hq hne => ⟨(h9 q hq hne).1, by rw [zt_ne (by omega)]; exact (h9 q hq hne).2⟩, fun q w hq => ?_⟩
  · obtain ⟨s, e1, e2⟩ := hf j hj
    exact Or.inr ⟨s, u, e1, List.mem_singleton.mpr rfl, hle _ _ e2⟩
  · obtain ⟨vs, ⟨r, g1, cell, g2, g3, g4, g5⟩, q2, q3⟩ := k_cell_up hle h4
    obtain ⟨r', e1', e2⟩ := hN
    have er : r' = r := Option.some.inj (e1'.symm.trans g1)
    subst er
    have q2 : vs.length = ks.length := q2
    have hvk : vs[k]? = some (.ref b) := by
      rw [g2] at hs
      have hs : cell.slots[g.2 ci k]? = some (.ref b) := hs
      have hg : cell.slots[g.2 ci k]? = some (vp_V vs k) := g5 k (by omega)
      rw [hs] at hg
      have hg := Option.some.inj hg
      have hlt : k < vs.length := by omega
      rw [List.getElem?_eq_getElem hlt]
      simp [vp_V, hlt] at hg
      rw [hg]
    refine ⟨vs, ⟨r', g1, cell, g2, g3, g4, g5⟩, ?_, fun j y hy => ?_⟩
    · show vs.length = (ks.set k _).length
      rw [List.length_set]
      exact q2
    · have hy : (ks.set k (.inr (.inr (.inl (false, [t])))))[j]? = some y := hy
      by_cases c : j = k
      · subst c
        rw [List.getElem?_set_self hk] at hy
        cases hy
        exact ⟨_, hvk, Or.inr ⟨b, t, rfl, List.mem_singleton.mpr rfl, zt_at⟩⟩
      · rw [List.getElem?_set_ne (Ne.symm c)] at hy
        exact q3 j y hy
  · by_cases c : q = b
    · subst c
      rw [zt_at] at hq
      cases hq
      exact Or.inr ht
    · rw [zt_ne c] at hq
      exact h10 q w hq
end ZI
theorem zt_u1 {τ : kTau} {b t : Nat} {P : Nat → Prop} (ht : t ≠ 1) (h : ∀ q, τ q = some 1 → P q) : ∀ q, zt τ b t q = some 1 → P q := fun q hq => by
  by_cases c : q = b
  · subst c
    rw [zt_at] at hq
    cases hq
    exact absurd rfl ht
  · rw [zt_ne c] at hq
    exact h q hq
theorem cp_u1 {g : va_G} {tys : List (ClassId × FieldType)} {B0 : Nat} {τ τ' : kTau} {b t : Nat} {NT : List Nat} {Ex : kTau → Heap → Nat → Prop} {H H' : Heap} {P : Nat → Prop} (hp : c_post g tys B0 τ τ' b t NT Ex H H') (ht : t ≠ 1) (hn : 1 ∉ NT) (h : ∀ q, τ q = some 1 → P q) : ∀ q, τ' q = some 1 → P q := fun q hq => by
  rcases hp.2.1 q 1 hq with e | ⟨-, e⟩ | e
  · exact h q e
  · exact absurd e.symm ht
  · exact absurd e hn
/-- a reference is stored into an array of references that has no kind, or one -/
theorem z_aast {X : kX} {g : va_G} {tys : List (ClassId × FieldType)} {B0 nL : Nat} {cc : ByteArray} {own : String} {I : List (Nat × Instr × Nat)} {FL : List (Nat × Nat × Nat × Nat)} {cells slots : Nat} {H : Heap} {pc : Nat} {L : List (Nat × Value)} {st : List Value} {τ : kTau} {b s N ai ci : Nat} {r : vw_C} {ks : List kInfo} {cA : ClassId} {f : Nat → Value} {x : Int32} (hC : zC X g tys B0 nL cc own I FL) (h : k_cd I pc = some (.aastore, 1)) (hcl : gCl[ci]? = some r) (htys : tys[ai]? = some (cA, .object r.1)) (hcell : H[b]? = some (arrV cA N f)) (hs : k_cell (e0 g tys B0) τ s H (.inl (ci, ks))) (hx : 0 ≤ x.toInt ∧ x.toInt < (N : Int)) (hB : B0 ≤ b)
    (kk : ∀ H' : Heap, H'[b]? = some (arrV cA N (updV f x.toInt.toNat (.ref s))) → H'.size = H.size → (∀ q : Nat, q ≠ b → H'[q]? = H[q]?) → kz X B0 cells slots H' (pc + 1) nL L st) : kz X B0 cells slots H pc nL L (.ref s :: .int x :: .ref b :: st) := by
  obtain ⟨hF, hD, hK, -⟩ := hC
  have hd := hD _ (k_cd_ok h)
  obtain ⟨vs, ⟨r', g1, cell, g2, g3, g4, g5⟩, -⟩ := hs
  have er : r' = r := Option.some.inj (g1.symm.trans hcl)
  subst er
  have hcls := (hK.1.1 ci r' hcl).2
  obtain ⟨kA, comp, k1, k2, k3, -⟩ := (hK.1.2 ai _ htys).2
  have hcomp : comp = g.1 ci := Option.some.inj (k3.symm.trans hcls.1)
  subst hcomp
  obtain ⟨kC, hkC, -⟩ := hcls.2
  intro locs hl ls hls
  refine W.aast hF.1 hF.2.1 hcell (fun q h => by cases h) (fun h => by cases h) k1 k2 rfl hkC ⟨by rw [Int32.lt_iff_toInt_lt]; show ¬ x.toInt < 0; omega, by show _ < (arrV _ _ _).slots.size; rw [arrV_size]; show x.toInt.toNat < N; omega⟩ g2 (fun q h => by rw [g4] at h; cases h) (by rw [g3]; exact hkC) (by rw [g3]; exact va_assign hcls) rfl rfl hd fun H1 e z oq => ?_
  have e : H1[b]? = some ((arrV cA N f).setSlot x.toInt.toNat (.ref s)) := e
  rw [arrV_store] at e
  refine kk H1 e z oq _ (fun z hz => ?_) ls hls
  rcases List.mem_append.mp hz with e' | e'
  · exact hl z e'
  · rw [List.mem_singleton.mp e']; exact hB
