/-! ===== contracts with room that aren't constructors', calls of all contracts in walks with room ===== -/
def m_Pc (g : va_G) (tys : List (ClassId × FieldType)) (B0 : Nat) (τ : kTau) (H0 : Heap) (ps : List Value) : Array Value → State → Prop := fun a U => a = ps.toArray ∧ (kK g gCl tys B0 U ∧ zN U) ∧ B0 ≤ U.heap.size ∧ k_HT (e0 g tys B0) τ U.heap ∧ U.heap = H0
def m_Qc (R : Heap → Option Value → Prop) : Array Value → State → Outcome → State → Prop := fun _ _ o u => ∃ v, o = .returned v ∧ R u.heap v
def m_Met (l : Launch) (g : va_G) (tys : List (ClassId × FieldType)) (B0 : Nat) (τ : kTau) (H0 : Heap) (y : MethodName) (cc : ByteArray) (nL : Nat) (rt : Option FieldType) (ps : List Value) (R : Heap → Option Value → Prop) (rm : Room) : Prop :=
  Met l y (Jvm.Cond.code y cc nL rt :: gTB) rm (m_Pc g tys B0 τ H0 ps) (m_Qc R) rm.cells rm.slots (fun q => B0 ≤ q)
theorem m_Pc_blind {g : va_G} {tys : List (ClassId × FieldType)} {B0 : Nat} {τ : kTau} {H0 : Heap} {ps : List Value} : FrameBlind (m_Pc g tys B0 τ H0 ps) := by
  intro a U g' mk h
  obtain ⟨h1, h2, h3⟩ := h
  exact ⟨h1, ⟨⟨va_K.moved (u := U) (U := U.calling g' mk a) (Vm.Alike.refl U.vm) h2.1.1, gZ_moved (s := U) (U := U.calling g' mk a) (State.WarmedH.refl U) (fun _ _ _ => rfl) h2.1.2⟩, zN_moved (s := U) (U := U.calling g' mk a) (State.WarmedH.refl U) h2.2⟩, h3⟩
theorem m_met {l : Launch} {g : va_G} {tys : List (ClassId × FieldType)} {B0 : Nat} {τ : kTau} {H0 : Heap} {y : MethodName} {cc : ByteArray} {nL : Nat} {rt : Option FieldType} {ps : List Value} {R : Heap → Option Value → Prop} {rm : Room} {I : List (Nat × Instr × Nat)} {FL : List (Nat × Nat × Nat × Nat)} (h0 : gE1 g) (htys : tys.map Prod.snd = gTyL) (hpl : plainName y.cls = true) (hdec : ∀ q ∈ I, decode cc q.1 = .ok q.2)
    (hFL : ∀ X : kX, (∀ w ∈ gTB, w.before X.2.2.2.2.2.2.1 X.2.2.2.2.1 = true) → k_FL X (e0 g tys B0) y.cls FL) (hw : (lg_sl ps).length ≤ nL)
    (walk : ∀ (X : kX), X.2.1 = l → X.2.2.2.1 = rm → zC X g tys B0 nL cc y.cls I FL → X.2.2.2.2.2.2.2.2.1.sig.returnType = rt → X.2.2.2.2.2.2.2.2.2.2 = MQ X.2.2.2.2.2.2.2.1 (m_Qc R) X.2.2.2.2.2.2.1 X.2.2.2.2.1 rm.cells rm.slots (fun q => B0 ≤ q) →
      k_HT (e0 g tys B0) τ H0 → B0 ≤ H0.size → kz X B0 0 0 H0 0 nL (lv_args 0 ps) []) : m_Met l g tys B0 τ H0 y cc nL rt ps R rm := by
  refine Met.ofW (cc := cc) (maxL := nL) (ret := rt) hpl rfl ?_
  intro p e s m args below meth c s₁ B hml hv
  obtain ⟨rfl, ⟨hK, hzn⟩, hsz, hH, rfl⟩ := hv
  have hts0 := atoms_spec (ws := Jvm.Cond.code y cc nL rt :: gTB) B.pre
  have hts : ∀ w ∈ gTB, w.before ps.toArray s = true := fun w hw => hts0 w (List.mem_cons_of_mem _ hw)
  have hown : s.vm.findClass y.cls = some m.cls := findClass_of_methodNamed B.named
  have hC : zC (p, l, e, rm, s, m, ps.toArray, below, meth, c, MQ below (m_Qc R) ps.toArray s rm.cells rm.slots (fun q => B0 ≤ q)) g tys B0 nL cc y.cls I FL := ⟨⟨B.exec, B.bytes, hml, hown⟩, hdec, hK, hts, hsz, B.notSynchronized, hFL _ hts, h0, htys, hzn⟩
  have hl := lv_entry ps (n := nL) hw
  rw [lg_entry_eq]
  exact walk _ rfl rfl hC B.returns rfl hH hsz [] (fun _ h => by cases h) _ hl
section
variable {X : kX} {g : va_G} {tys : List (ClassId × FieldType)} {B0 nL : Nat} {cc : ByteArray} {own : String} {I : List (Nat × Instr × Nat)} {FL : List (Nat × Nat × Nat × Nat)} {cells slots : Nat} {H : Heap} {pc : Nat} {L : List (Nat × Value)} {st : List Value} {τ : kTau} {i : Instr}
theorem z_iret {R : Heap → Option Value → Prop} {mc ms : Nat} {x : Int32} (hC : zC X g tys B0 nL cc own I FL) (hret : X.2.2.2.2.2.2.2.2.1.sig.returnType = some .int) (hQ : X.2.2.2.2.2.2.2.2.2.2 = MQ X.2.2.2.2.2.2.2.1 (m_Qc R) X.2.2.2.2.2.2.1 X.2.2.2.2.1 mc ms (fun q => B0 ≤ q)) (h : k_cd I pc = some (.ireturn, 1)) (hce : cells ≤ mc) (hsl : slots ≤ ms) (hp : R H (some (.int x))) : kz X B0 cells slots H pc nL L [.int x] := by
  obtain ⟨hF, hD, -, -, -, hlk, -⟩ := hC
  have hd := hD _ (k_cd_ok h)
  intro locs hl ls hls
  refine W.widen hce hsl ?_
  rw [hQ]
  exact W.iret hF.1 hF.2.1 hret (fun u hu _ => ⟨_, rfl, by rw [hu]; exact hp⟩) hl hd hlk
theorem z_ald {a m ai : Nat} {cA : ClassId} {ty : FieldType} {f : Nat → Value} {x : Int32} {v : Value} (hC : zC X g tys B0 nL cc own I FL) (h : k_cd I pc = some (i, 1)) (e : k_alk i ai = true) (h1 : tys[ai]? = some (cA, ty)) (hc : H[a]? = some (arrV cA m f)) (hx : 0 ≤ x.toInt ∧ x.toInt < (m : Int)) (hv : f x.toInt.toNat = v) (k : kz X B0 cells slots H (pc + 1) nL L (v :: st)) : kz X B0 cells slots H pc nL L (.int x :: .ref a :: st) := by
  obtain ⟨hF, hD, hK, -, -, -, -, -, htys, -⟩ := hC
  have hd := hD _ (k_cd_ok h)
  have hT := gTyL_tys (g := g) (B0 := B0) htys (fun _ _ _ => True)
  have harr := (hK.1.2 ai _ h1).1 m f
  have hty := hT ai cA ty h1
  have hin := k_idx hx cA f
  subst hv
  have hv : (arrV cA m f).slots[x.toNatClampNeg]? = some (f x.toInt.toNat) := arrV_read cA f (by rw [k_clamp hx.1]; omega)
  intro locs hl ls hls
  have hgo := k locs hl ls hls
  unfold k_alk at e
  split at e
  · obtain ⟨rfl⟩ := hty.1 rfl
    exact W.iald hF.1 hF.2.1 hc harr (fun z => by cases z) hin hv rfl rfl hd hgo
  · obtain ⟨rfl⟩ := hty.2.1 rfl
    exact W.bald hF.1 hF.2.1 hc harr (fun z => by cases z) hin hv rfl rfl hd hgo
  · obtain ⟨rfl⟩ := hty.2.2.1 rfl
    exact W.zald hF.1 hF.2.1 hc harr (fun z => by cases z) hin hv rfl rfl hd hgo
  · obtain ⟨rfl⟩ := hty.2.2.2.1 rfl
    exact W.lald hF.1 hF.2.1 hc harr (fun z => by cases z) hin hv rfl rfl hd hgo
  · exact W.aald hF.1 hF.2.1 hc harr (hty.2.2.2.2 (by omega)) (fun z => by cases z) hin hv rfl rfl hd hgo
  · cases e
theorem z_nn {x t : Nat} {off : Int} (hC : zC X g tys B0 nL cc own I FL) (h : k_cd I pc = some (.ifnonnull off, 3)) (ht : (pc : Int) + off = (t : Int)) (k : kz X B0 cells slots H t nL L st) : kz X B0 cells slots H pc nL L (.ref x :: st) := by
  obtain ⟨hF, hD, -⟩ := hC
  have hdc := hD _ (k_cd_ok h)
  intro locs hl ls hls
  have hgo := k locs hl ls hls
  exact lv_ifnonnull hF.1 hF.2.1 hdc ht hgo
theorem z_nnN {off : Int} (hC : zC X g tys B0 nL cc own I FL) (h : k_cd I pc = some (.ifnonnull off, 3)) (k : kz X B0 cells slots H (pc + 3) nL L st) : kz X B0 cells slots H pc nL L (.null :: st) := by
  obtain ⟨hF, hD, -⟩ := hC
  have hdc := hD _ (k_cd_ok h)
  intro locs hl ls hls
  have hgo := k locs hl ls hls
  exact lv_ifnonnullN hF.1 hF.2.1 hdc hgo
/-- a call on an object, by any contract -/
theorem z_mV {C : String} {T : u_T} {N : Nat} {y : MethodName} {cc' : ByteArray} {nL' idx b ci : Nat} {rt : Option FieldType} {ks : List kInfo} {rm : Room} {Pc : Array Value → State → Prop} {Qc : Array Value → State → Outcome → State → Prop} {As rest : List Value} (hC : zC X g tys B0 nL cc own I FL) (h : k_cd I pc = some (.invokevirtual idx, 3)) (hM : Met X.2.1 y (Jvm.Cond.code y cc' nL' rt :: gTB) rm Pc Qc rm.cells rm.slots (fun q => B0 ≤ q)) (hbl : FrameBlind Pc) (hPc : ∀ U : State, U.heap = H → kK g gCl tys B0 U → zN U → Pc (Value.ref b :: As).toArray U)
    (hcode : Jvm.Cond.code y cc' nL' rt ∈ gTB) (hini : Jvm.Cond.initialized y.cls ∈ gTB) (hlk : Jvm.Cond.methodLink own idx y ∈ gTB) (him : Jvm.Cond.instanceMethod y ∈ gTB) (hsel : Jvm.Cond.selects C y y ∈ gTB) (hcl : gCl[ci]? = some (C, T, N)) (hc : k_cell (e0 g tys B0) τ b H (.inl (ci, ks)))
    (hd : y.cls ≠ "java/lang/invoke/MethodHandle" ∧ y.cls ≠ "java/lang/invoke/VarHandle" ∧ (parseMethodDescriptor y.desc).map (fun d => d.parameters.length) = some As.length) (hR : rm.frames + 1 ≤ X.2.2.2.1.frames ∧ 8 + (nL' + 11) + rm.locals ≤ X.2.2.2.1.locals) (hce : cells + rm.cells ≤ X.2.2.2.1.cells ∧ slots + rm.slots ≤ X.2.2.2.1.slots)
    (hs : st = As.reverse ++ .ref b :: rest) (hcat : (rest.map fun v => v.category).sum ≤ 8)
    (kk : ∀ (st0 u : State) (v : Option Value), st0.heap = H → Qc (Value.ref b :: As).toArray st0 (.returned v) u → kz X B0 (cells + rm.cells) (slots + rm.slots) u.heap (pc + 3) nL L (v.toList ++ rest)) : kz X B0 cells slots H pc nL L st := by
  obtain ⟨hF, hD, hK, hts, -, -, -, -, -, hzn⟩ := hC
  have hdc := hD _ (k_cd_ok h)
  subst hs
  obtain ⟨vs, ⟨r, g1, cell, q2, q3, q4, -⟩, -⟩ := hc
  intro locs hl ls hls T hT Y
  have hz := k_below Y hl
  rw [hT] at hz
  have hr := W.runV (e := X.2.2.1) (below := X.2.2.2.2.2.2.2.1) (meth := X.2.2.2.2.2.2.2.2.1) (g := F0 X.2.2.2.2.2.1 pc ls (As.reverse ++ .ref b :: rest)) (Ts := gTB) (cc := cc) (nL := nL) (own := own) (C := C) (As := As) (b := b) (rest := rest) (H := H) (locs := locs) (cells := cells) (slots := slots) ⟨hF.1, hF.2.1, hF.2.2.1, hF.2.2.2, hts⟩ hM ⟨callB_of (Ts := gTB) As.length hts (gGoodIn hcode) rfl rfl rfl (hts _ hini) (hts _ hlk) hd hR, hts _ him, hts _ hsel⟩
    ⟨hbl, ⟨cell, q2, by rw [q4]; rfl, by rw [q3]; exact (hK.1.1 ci _ hcl).2.1⟩, fun U hU hW => hPc U hU ⟨va_K.moved hW.alike hK.1, gZ_moved hW (by rw [hU]; exact hz) hK.2⟩ (zN_moved hW hzn)⟩ rfl rfl hls.1 rfl (lv_room hcat) hdc hce
  obtain ⟨v, st₀, u, T', L', e0', Y', hL, e1, hq, go⟩ := hr T hT Y
  obtain ⟨t2, a1, b1⟩ := kk st₀ u v e0' hq (locs ++ L') (fun z hz => by
    rcases List.mem_append.mp hz with e' | e'
    · exact hl z e'
    · exact hL z e') ls hls T' e1 Y'
  exact ⟨t2, go t2 a1, b1⟩
/-- a static call, by any contract -/
theorem z_mS {y : MethodName} {cc' : ByteArray} {nL' idx : Nat} {rt : Option FieldType} {rm : Room} {Pc : Array Value → State → Prop} {Qc : Array Value → State → Outcome → State → Prop} {As rest : List Value} (hC : zC X g tys B0 nL cc own I FL) (h : k_cd I pc = some (.invokestatic idx, 3)) (hM : Met X.2.1 y (Jvm.Cond.code y cc' nL' rt :: gTB) rm Pc Qc rm.cells rm.slots (fun q => B0 ≤ q)) (hbl : FrameBlind Pc) (hPc : ∀ U : State, U.heap = H → kK g gCl tys B0 U → zN U → Pc As.toArray U)
    (hcode : Jvm.Cond.code y cc' nL' rt ∈ gTB) (hini : Jvm.Cond.initialized y.cls ∈ gTB) (hlk : Jvm.Cond.methodLink own idx y ∈ gTB) (hst : Jvm.Cond.static y ∈ gTB)
    (hd : y.cls ≠ "java/lang/invoke/MethodHandle" ∧ y.cls ≠ "java/lang/invoke/VarHandle" ∧ (parseMethodDescriptor y.desc).map (fun d => d.parameters.length) = some As.length) (hR : rm.frames + 1 ≤ X.2.2.2.1.frames ∧ 8 + (nL' + 11) + rm.locals ≤ X.2.2.2.1.locals) (hce : cells + rm.cells ≤ X.2.2.2.1.cells ∧ slots + rm.slots ≤ X.2.2.2.1.slots)
    (hs : st = As.reverse ++ rest) (hcat : (rest.map fun v => v.category).sum ≤ 8)
    (kk : ∀ (st0 u : State) (v : Option Value), st0.heap = H → Qc As.toArray st0 (.returned v) u → kz X B0 (cells + rm.cells) (slots + rm.slots) u.heap (pc + 3) nL L (v.toList ++ rest)) : kz X B0 cells slots H pc nL L st := by
  obtain ⟨hF, hD, hK, hts, -, -, -, -, -, hzn⟩ := hC
  have hdc := hD _ (k_cd_ok h)
  subst hs
  intro locs hl ls hls T hT Y
  have hz := k_below Y hl
  rw [hT] at hz
  have hr := W.runS (e := X.2.2.1) (below := X.2.2.2.2.2.2.2.1) (meth := X.2.2.2.2.2.2.2.2.1) (g := F0 X.2.2.2.2.2.1 pc ls (As.reverse ++ rest)) (Ts := gTB) (cc := cc) (nL := nL) (own := own) (As := As) (rest := rest) (H := H) (locs := locs) (cells := cells) (slots := slots) ⟨hF.1, hF.2.1, hF.2.2.1, hF.2.2.2, hts⟩ hM ⟨callB_of (Ts := gTB) As.length hts (gGoodIn hcode) rfl rfl rfl (hts _ hini) (hts _ hlk) hd hR, hts _ hst⟩
    ⟨hbl, fun U hU hW => hPc U hU ⟨va_K.moved hW.alike hK.1, gZ_moved hW (by rw [hU]; exact hz) hK.2⟩ (zN_moved hW hzn)⟩ rfl rfl hls.1 rfl (lv_room hcat) hdc hce
  obtain ⟨v, st₀, u, T', L', e0', Y', hL, e1, hq, go⟩ := hr T hT Y
  obtain ⟨t2, a1, b1⟩ := kk st₀ u v e0' hq (locs ++ L') (fun z hz => by
    rcases List.mem_append.mp hz with e' | e'
    · exact hl z e'
    · exact hL z e') ls hls T' e1 Y'
  exact ⟨t2, go t2 a1, b1⟩
end
/-! ===== what grew, and what stayed ===== -/
def m_ok (g : va_G) (tys : List (ClassId × FieldType)) (B0 : Nat) (τ τ' : kTau) (NT : List Nat) (mods : List (Nat × Nat)) (H H' : Heap) : Prop :=
  zle τ τ' ∧ (∀ q u : Nat, τ' q = some u → τ q = some u ∨ u ∈ NT) ∧ k_HT (e0 g tys B0) τ' H' ∧ k_fr (e0 g tys B0) τ mods H H' ∧ ∀ q : Nat, q < H.size → τ' q = τ q
section
variable {g : va_G} {tys : List (ClassId × FieldType)} {B0 : Nat} {τ τ1 τ2 : kTau} {NT NT' : List Nat} {mods m2 : List (Nat × Nat)} {H H1 H2 H3 : Heap}
theorem m_ok_refl (hH : k_HT (e0 g tys B0) τ H) : m_ok g tys B0 τ τ NT mods H H := ⟨zle_refl, fun _ _ h => Or.inl h, hH, k_fr_refl, fun _ _ => rfl⟩
theorem m_ok_fr (h : m_ok g tys B0 τ τ1 NT mods H H1) (hH : k_HT (e0 g tys B0) τ1 H2) (hf : k_fr (e0 g tys B0) τ1 m2 H1 H2) (hs : ∀ q ∈ m2, q ∈ mods) : m_ok g tys B0 τ τ1 NT mods H H2 := by
  obtain ⟨h1, h2, h3, h4, h5⟩ := h
  refine ⟨h1, h2, hH, ⟨Nat.le_trans h4.1 hf.1, fun a ha hn => ?_, fun a t ht => ⟨fun q hq k hk hm => ?_, fun q hq hm => ?_⟩⟩, h5⟩
  · rw [hf.2.1 a (Nat.lt_of_lt_of_le ha h4.1) (by rw [h5 a ha]; exact hn)]
    exact h4.2.1 a ha hn
  · rw [(hf.2.2 a t (h1 a t ht)).1 q hq k hk (fun z => hm (hs _ z))]
    exact (h4.2.2 a t ht).1 q hq k hk hm
  · rw [(hf.2.2 a t (h1 a t ht)).2 q hq (fun z => hm (hs _ z))]
    exact (h4.2.2 a t ht).2 q hq hm
/-- an object is made: 'new', then its constructor -/
theorem m_ok_obj {t : Nat} {Ex : kTau → Heap → Nat → Prop} (h : m_ok g tys B0 τ τ1 NT mods H H1) (ht : t ∈ NT) (hNT : ∀ u ∈ NT', u ∈ NT) (hsz : H2.size = H1.size + 1) (ho : ∀ q : Nat, q < H1.size → H2[q]? = H1[q]?) (hp : c_post g tys B0 τ1 τ2 H1.size t NT' Ex H2 H3) : m_ok g tys B0 τ τ2 NT mods H H3 := by
  obtain ⟨h1, h2, h3, h4, h5⟩ := h
  obtain ⟨p1, p2, p3, p4, p5, p6, -⟩ := hp
  have keep : ∀ q : Nat, q < H1.size → H3[q]? = H1[q]? := fun q hq => by
    rw [(p5 q (by omega) (by omega)).1, ho q hq]
  have h41 := h4.1
  refine ⟨zle_trans h1 p1, fun q u hq => ?_, p3, ⟨by omega, fun a ha hn => ?_, fun a u hu => ⟨fun q hq k hk hm => ?_, fun q hq hm => ?_⟩⟩, fun q hq => ?_⟩
  · rcases p2 q u hq with e | ⟨-, e⟩ | e
    · exact h2 q u e
    · subst e; exact Or.inr ht
    · exact Or.inr (hNT u e)
  · rw [keep a (by omega)]
    exact h4.2.1 a ha hn
  · unfold k_fld
    rw [keep a (k_HT_lt h3 (h1 a u hu))]
    exact (h4.2.2 a u hu).1 q hq k hk hm
  · rw [keep a (k_HT_lt h3 (h1 a u hu))]
    exact (h4.2.2 a u hu).2 q hq hm
  · rw [(p5 q (by omega) (by omega)).2]
    exact h5 q hq
theorem gUU_up (hle : zle τ τ1) (hn : ∀ q u : Nat, τ1 q = some u → τ q = some u ∨ u ∈ NT) (h1 : 1 ∉ NT) (h11 : 11 ∉ NT) (hu : gUU τ) : gUU τ1 := by
  obtain ⟨⟨a, ha, hb⟩, hc⟩ := hu
  refine ⟨⟨a, hle _ _ ha, fun a' h => ?_⟩, fun a a' h h' => ?_⟩
  · rcases hn _ _ h with e | e
    · exact hb a' e
    · exact absurd e h11
  · rcases hn _ _ h with e | e
    · rcases hn _ _ h' with e' | e'
      · exact hc a a' e e'
      · exact absurd e' h1
    · exact absurd e h1
theorem ht_cell {a t : Nat} {d : kDesc} (hH : k_HT (e0 g tys B0) τ H) (ha : τ a = some t) (hd : gTT[t]? = some d) : k_cell (e0 g tys B0) τ a H d := by
  obtain ⟨-, d', h1, h2⟩ := hH a t ha
  have h1 : gTT[t]? = some d' := h1
  rw [hd] at h1
  cases h1
  exact h2
/-- a place of an array that has a kind is written -/
theorem ht_arr {b t ai n0 n1 N x : Nat} {q : kInfo} {cA : ClassId} {ty : FieldType} {f : Nat → Value} {v : Value} (hH : k_HT (e0 g tys B0) τ H) (hb : τ b = some t) (hd : gTT[t]? = some (.inr (ai, n0, n1, [], q))) (q1 : tys[ai]? = some (cA, ty)) (q3 : n0 ≤ N) (q4 : N ≤ n1) (q5 : ∀ j, j < N → k_ok τ q (f j)) (hv : k_ok τ q v) (h1 : H1[b]? = some (arrV cA N (updV f x v))) (ho : ∀ p : Nat, p ≠ b → H1[p]? = H[p]?) (hs : H1.size = H.size) : k_HT (e0 g tys B0) τ H1 ∧ k_fr (e0 g tys B0) τ [(t, 0)] H H1 := by
  refine ⟨fun a u hu => ?_, by omega, fun a ha hn => ho a (fun z => by rw [z, hb] at hn; cases hn), fun a u hu => ⟨fun p hp k hk hm => ?_, fun p hp hm => ?_⟩⟩
  · obtain ⟨z1, d, z2, z3⟩ := hH a u hu
    by_cases c : a = b
    · subst c
      rw [hb] at hu
      cases hu
      have z2 : gTT[t]? = some d := z2
      rw [hd] at z2
      cases z2
      refine ⟨z1, _, hd, cA, ty, N, _, q1, h1, q3, q4, fun j hj => ?_⟩
      show k_ok τ q (updV f x v j)
      unfold updV
      split
      · exact hv
      · exact q5 j hj
    · exact ⟨z1, d, z2, k_cell_kept z3 (ho a c)⟩
  · have c : a ≠ b := fun z => by
      rw [z, hb] at hu
      cases hu
      have hp : gTT[t]? = some (.inl p) := hp
      rw [hd] at hp
      cases hp
    unfold k_fld
    rw [ho a c]
  · exact ho a (fun z => by
      rw [z, hb] at hu
      cases hu
      exact hm List.mem_cons_self)
end
