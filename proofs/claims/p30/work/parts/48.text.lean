/-! ===== calls that ask something of their arguments; reads of text constants; fields of any kind of cell ===== -/
def gU1 (τ : kTau) : Prop := ∀ a a', τ a = some 1 → τ a' = some 1 → a = a'
/-- there is one reference, at most one tape -/
def gUU (τ : kTau) : Prop := gU τ ∧ gU1 τ
def s_Met (l : Launch) (E : kE) (τ : kTau) (tb : List Jvm.Cond) (y : MethodName) (cc : ByteArray) (nL rk : Nat) (K : kCtr) (rm : Room) (Z : List Value → Prop) : Prop :=
  ∀ ps : List Value, Z ps → Met l y (Jvm.Cond.code y cc nL (k_rty rk) :: tb) rm (k_Pc E τ K ps) (k_Qc E τ K ps) 0 0 (fun q => E.2.2.2.2.1 ≤ q)
def s_call (X : kX) (E : kE) (nL : Nat) (τ : kTau) (K : kCtr) (pc : Nat) (Z : List Value → Prop) : Prop := ∀ (H : Heap) (locs : List Loc) (ls : Array Slot) (as rest : List Value), Z as → k_HT E τ H → k_pre E τ H K as → (rest.map fun v => v.category).sum ≤ 8 → ls.size = nL → (∀ q ∈ locs, E.2.2.2.2.1 ≤ q.base) →
  (∀ (H' : Heap) (L : List Loc) (v : Option Value), k_post E τ H H' K as v → (∀ q ∈ L, E.2.2.2.2.1 ≤ q.base) → kw X H' (locs ++ L) (pc + 3) ls (v.toList ++ rest)) → kw X H locs pc ls (as.reverse ++ rest)
theorem s_S {p : Program} {l : Launch} {e : Env} {R : Room} {s : State} {m : MethodId} {args : Array Value} {below : List Frame} {meth : Method} {c : Code} {T : State} {H : Heap} {locs : List Loc} {cells slots B0 : Nat} (Y : Stand p l e R s m args below meth c T locs cells slots) (hT : T.heap = H) (hl : ∀ q ∈ locs, B0 ≤ q.base) : va_S (fun q => B0 ≤ q) s.heap H locs := by
  subst hT
  exact ⟨Y.same.2.1, k_below Y hl, hl⟩
section
variable {X : kX} {E : kE} {nL : Nat} {τ : kTau} {tb : List Jvm.Cond} {cc cc' : ByteArray} {own : String} {pc idx nL' rk' : Nat} {y : MethodName} {K : kCtr} {rm : Room} {Z : List Value → Prop}
theorem s_callS (hF : k_Fx X cc nL own) (hK : kK E.1 E.2.1 E.2.2.1 E.2.2.2.2.1 X.2.2.2.2.1) (hts : ∀ w ∈ tb, w.before X.2.2.2.2.2.2.1 X.2.2.2.2.1 = true) (hg : ∀ w ∈ tb, goodWord w = true) (hM : s_Met X.2.1 E τ tb y cc' nL' rk' K rm Z) (hcode : Jvm.Cond.code y cc' nL' (k_rty rk') ∈ tb) (hini : Jvm.Cond.initialized y.cls ∈ tb) (hl : Jvm.Cond.methodLink own idx y ∈ tb) (hst : Jvm.Cond.static y ∈ tb)
    (hrc : rm.cells = 0) (hrs : rm.slots = 0) (hd : y.cls ≠ "java/lang/invoke/MethodHandle" ∧ y.cls ≠ "java/lang/invoke/VarHandle" ∧ (parseMethodDescriptor y.desc).map (fun d => d.parameters.length) = some K.1.length) (hR : rm.frames + 1 ≤ X.2.2.2.1.frames ∧ 8 + (nL' + 11) + rm.locals ≤ X.2.2.2.1.locals)
    (hdg : decode cc pc = .ok (.invokestatic idx, 3)) : s_call X E nL τ K pc Z := by
  intro H locs ls as rest hZ hH hpre hsum hls hloc kk
  intro T hT Y
  have hz := k_below Y hloc
  rw [hT] at hz
  have hgo : kw X H locs pc ls (as.reverse ++ rest) := k_ofRun (W.runS (Ts := tb) (cc := cc) (nL := nL) (own := own) (As := as) ⟨hF.1, hF.2.1, hF.2.2.1, hF.2.2.2, hts⟩ (hM as hZ) ⟨k_cb hts hg hcode hini hl hrc hrs hd hR, hts _ hst⟩ ⟨k_Pc_blind, fun U hU hW => ⟨rfl, ⟨va_K.moved hW.alike hK.1, gZ_moved hW (by rw [hU]; exact hz) hK.2⟩, by rw [hU]; exact hH, by rw [hU]; exact hpre⟩⟩ rfl hpre.1 hls rfl (lv_room hsum) hdg ⟨Nat.zero_le _, Nat.zero_le _⟩) kk
  exact hgo T hT Y
/-- a call on a text constant -/
theorem s_callT {r : List kInfo} (hF : k_Fx X cc nL own) (hK : kK E.1 E.2.1 E.2.2.1 E.2.2.2.2.1 X.2.2.2.2.1) (hts : ∀ w ∈ tb, w.before X.2.2.2.2.2.2.1 X.2.2.2.2.1 = true) (hg : ∀ w ∈ tb, goodWord w = true) (hM : s_Met X.2.1 E τ tb y cc' nL' rk' K rm Z) (hcode : Jvm.Cond.code y cc' nL' (k_rty rk') ∈ tb) (hini : Jvm.Cond.initialized y.cls ∈ tb) (hl : Jvm.Cond.methodLink own idx y ∈ tb) (him : Jvm.Cond.instanceMethod y ∈ tb) (hsel : Jvm.Cond.selects "java/lang/String" y y ∈ tb)
    (hZ : ∀ as, Z as → ∃ (i : Nat) (As : List Value), i < 19 ∧ as = .ref (E.1.2 100 i) :: As) (hK1 : K.1 = .inr (.inr (.inr ())) :: r)
    (hrc : rm.cells = 0) (hrs : rm.slots = 0) (hd : y.cls ≠ "java/lang/invoke/MethodHandle" ∧ y.cls ≠ "java/lang/invoke/VarHandle" ∧ (parseMethodDescriptor y.desc).map (fun d => d.parameters.length) = some r.length) (hR : rm.frames + 1 ≤ X.2.2.2.1.frames ∧ 8 + (nL' + 11) + rm.locals ≤ X.2.2.2.1.locals)
    (hdg : decode cc pc = .ok (.invokevirtual idx, 3)) : s_call X E nL τ K pc Z := by
  intro H locs ls as rest hz hH hpre hsum hls hloc kk
  obtain ⟨i, As, hi, e⟩ := hZ as hz
  subst e
  intro T hT Y
  have hS := s_S Y hT hloc
  obtain ⟨cell, q2, q3, q4⟩ := vk_recv hK.2.1 hi hS
  have hlen : As.length = r.length := by
    have := hpre.1
    rw [hK1] at this
    simpa using this
  have hrev : (Value.ref (E.1.2 100 i) :: As).reverse ++ rest = As.reverse ++ .ref (E.1.2 100 i) :: rest := by simp
  have hrun := W.runV (e := X.2.2.1) (below := X.2.2.2.2.2.2.2.1) (meth := X.2.2.2.2.2.2.2.2.1) (g := F0 X.2.2.2.2.2.1 pc ls (As.reverse ++ .ref (E.1.2 100 i) :: rest)) (Ts := tb) (cc := cc) (nL := nL) (own := own) (C := "java/lang/String") (As := As) (b := E.1.2 100 i) (rest := rest) (H := H) (locs := locs) (cells := 0) (slots := 0) ⟨hF.1, hF.2.1, hF.2.2.1, hF.2.2.2, hts⟩ (hM (.ref (E.1.2 100 i) :: As) hz) ⟨k_cb (n := r.length) hts hg hcode hini hl hrc hrs hd hR, hts _ him, hts _ hsel⟩
    ⟨k_Pc_blind, ⟨cell, q2, q3, q4⟩, fun U hU hW => ⟨rfl, ⟨va_K.moved hW.alike hK.1, gZ_moved hW (by rw [hU]; exact hS.2.1) hK.2⟩, by rw [hU]; exact hH, by rw [hU]; exact hpre⟩⟩ rfl hlen hls rfl (lv_room hsum) hdg ⟨Nat.zero_le _, Nat.zero_le _⟩
  rw [← hrev] at hrun
  have hgo : kw X H locs pc ls ((Value.ref (E.1.2 100 i) :: As).reverse ++ rest) := k_ofRun hrun kk
  exact hgo T hT Y
/-- a call on a cell of a kind, the arguments as Z says -/
theorem s_callV {C : String} {T : u_T} {N ci t : Nat} {fs : List kInfo} (hF : k_Fx X cc nL own) (hK : kK E.1 E.2.1 E.2.2.1 E.2.2.2.2.1 X.2.2.2.2.1) (hts : ∀ w ∈ tb, w.before X.2.2.2.2.2.2.1 X.2.2.2.2.1 = true) (hg : ∀ w ∈ tb, goodWord w = true) (hM : s_Met X.2.1 E τ tb y cc' nL' rk' K rm Z) (hcode : Jvm.Cond.code y cc' nL' (k_rty rk') ∈ tb) (hini : Jvm.Cond.initialized y.cls ∈ tb) (hl : Jvm.Cond.methodLink own idx y ∈ tb) (him : Jvm.Cond.instanceMethod y ∈ tb) (hsel : Jvm.Cond.selects C y y ∈ tb)
    (hcl : E.2.1[ci]? = some (C, T, N)) (htt : E.2.2.2.1[t]? = some (.inl (ci, fs))) {r : List kInfo} (hK1 : K.1 = .inr (.inr (.inl (false, [t]))) :: r)
    (hrc : rm.cells = 0) (hrs : rm.slots = 0) (hd : y.cls ≠ "java/lang/invoke/MethodHandle" ∧ y.cls ≠ "java/lang/invoke/VarHandle" ∧ (parseMethodDescriptor y.desc).map (fun d => d.parameters.length) = some r.length) (hR : rm.frames + 1 ≤ X.2.2.2.1.frames ∧ 8 + (nL' + 11) + rm.locals ≤ X.2.2.2.1.locals)
    (hdg : decode cc pc = .ok (.invokevirtual idx, 3)) : s_call X E nL τ K pc Z := by
  intro H locs ls as rest hZ hH hpre hsum hls hloc kk
  obtain ⟨v, hv, hok⟩ := hpre.2.1 0 (.inr (.inr (.inl (false, [t])))) (by rw [hK1]; rfl)
  obtain ⟨a, rfl, z3⟩ := k_refOk hok
  cases as with
  | nil => simp at hv
  | cons a0 As =>
    have : a0 = .ref a := by simpa using hv
    subst this
    obtain ⟨-, d, g2, g3⟩ := hH a t z3
    rw [htt] at g2
    cases g2
    obtain ⟨ws, ⟨q, q1, cell, q2, q3, q4, -⟩, -⟩ := g3
    have hlen : As.length = r.length := by
      have := hpre.1
      rw [hK1] at this
      simpa using this
    have hrev : (Value.ref a :: As).reverse ++ rest = As.reverse ++ .ref a :: rest := by simp
    intro T hT Y
    have hz := k_below Y hloc
    rw [hT] at hz
    have hrun := W.runV (e := X.2.2.1) (below := X.2.2.2.2.2.2.2.1) (meth := X.2.2.2.2.2.2.2.2.1) (g := F0 X.2.2.2.2.2.1 pc ls (As.reverse ++ .ref a :: rest)) (Ts := tb) (cc := cc) (nL := nL) (own := own) (C := C) (As := As) (b := a) (rest := rest) (H := H) (locs := locs) (cells := 0) (slots := 0) ⟨hF.1, hF.2.1, hF.2.2.1, hF.2.2.2, hts⟩ (hM (.ref a :: As) hZ) ⟨k_cb (n := r.length) hts hg hcode hini hl hrc hrs hd hR, hts _ him, hts _ hsel⟩
      ⟨k_Pc_blind, ⟨cell, q2, by rw [q4]; rfl, by rw [q3]; exact (hK.1.1 ci _ hcl).2.1⟩, fun U hU hW => ⟨rfl, ⟨va_K.moved hW.alike hK.1, gZ_moved hW (by rw [hU]; exact hz) hK.2⟩, by rw [hU]; exact hH, by rw [hU]; exact hpre⟩⟩ rfl hlen hls rfl (lv_room hsum) hdg ⟨Nat.zero_le _, Nat.zero_le _⟩
    rw [← hrev] at hrun
    have hgo : kw X H locs pc ls ((Value.ref a :: As).reverse ++ rest) := k_ofRun hrun kk
    exact hgo T hT Y
end
section
variable {X : kX} {E : kE} {nL : Nat} {τ : kTau} {cc : ByteArray} {own : String} {I : List (Nat × Instr × Nat)} {FL : List (Nat × Nat × Nat × Nat)} {CI CJ : List (Nat × Int)} {K : kCtr} {rk : Nat} {ps : List Value} {H : Heap} {pc : Nat} {L : List (Nat × Value)} {st : List Value} {i : Instr} {n : Nat}
theorem x_callZ {E2 : kE} {K2 : kCtr} {Z : List Value → Prop} {as rest : List Value} (hc : s_call X E2 nL τ K2 pc Z) (hZ : Z as) (hB : E2.2.2.2.2.1 = E.2.2.2.2.1) (hH : k_HT E2 τ H) (hp : k_pre E2 τ H K2 as) (hs : st = as.reverse ++ rest) (hcat : (rest.map fun v => v.category).sum ≤ 8)
    (k : ∀ (H' : Heap) (v : Option Value), k_post E2 τ H H' K2 as v → kx X E H' (pc + 3) nL L (v.toList ++ rest)) : kx X E H pc nL L st := by
  intro locs hl ls hls
  subst hs
  refine hc H locs ls as rest hZ hH hp hcat hls.1 (by rw [hB]; exact hl) (fun H' L' v hq hL => k H' v hq _ (fun z hz => ?_) ls hls)
  rcases List.mem_append.mp hz with e' | e'
  · exact hl z e'
  · rw [← hB]; exact hL z e'
theorem x_gets {C nm d ref : String} {v : Value} {index : Nat} (hC : xC X E nL τ cc own I FL CI CJ K rk ps) (h : k_cd I pc = some (.getstatic index, 3)) (hZ : va_Z C nm d v (fun q => E.2.2.2.2.1 ≤ q) X.2.2.2.2.1 X.2.2.2.2.1.heap) (hlink : (Jvm.Cond.fieldLink own index ref nm d).before X.2.2.2.2.2.2.1 X.2.2.2.2.1 = true) (hsame : ref = C) (k : kx X E H (pc + 3) nL L (v :: st)) : kx X E H pc nL L st := by
  have hF := xF hC
  have hdc := xD hC _ (k_cd_ok h)
  subst hsame
  intro locs hl ls hls T hT Y
  exact va_gets hF.1 hF.2.1 hZ (s_S Y hT hl) hF.2.2.2 hlink (fun _ h => h) hdc (k locs hl ls hls) T hT Y
theorem x_fget {nm d : String} {index q : Nat} {v : Value} (hC : xC X E nL τ cc own I FL CI CJ K rk ps) (h : k_cd I pc = some (.getfield index, 3)) (hE : va_OF "java/lang/String" nm d v q (fun q => E.2.2.2.2.1 ≤ q) X.2.2.2.2.1 X.2.2.2.2.1.heap) (hlink : (Jvm.Cond.fieldLink own index "java/lang/String" nm d).before X.2.2.2.2.2.2.1 X.2.2.2.2.1 = true) (k : kx X E H (pc + 3) nL L (v :: st)) : kx X E H pc nL L (.ref q :: st) := by
  have hF := xF hC
  have hdc := xD hC _ (k_cd_ok h)
  intro locs hl ls hls T hT Y
  exact vk_getf hF.1 hF.2.1 hE (s_S Y hT hl) hF.2.2.2 hlink (fun _ h => h) hdc (k locs hl ls hls) T hT Y
theorem x_tlen {ty : FieldType} {t N : Nat} {f : Nat → Value} (hC : xC X E nL τ cc own I FL CI CJ K rk ps) (h : k_cd I pc = some (.arraylength, 1)) (hA : va_T ty t N f (fun q => E.2.2.2.2.1 ≤ q) X.2.2.2.2.1 X.2.2.2.2.1.heap) (k : kx X E H (pc + 1) nL L (.int (Int32.ofNat N) :: st)) : kx X E H pc nL L (.ref t :: st) := by
  have hF := xF hC
  have hdc := xD hC _ (k_cd_ok h)
  intro locs hl ls hls T hT Y
  exact va_tlen hF.1 hF.2.1 hA (s_S Y hT hl) rfl hdc (k locs hl ls hls) T hT Y
theorem x_tb {t N : Nat} {f : Nat → Value} {x : Int32} {v : Value} (hC : xC X E nL τ cc own I FL CI CJ K rk ps) (h : k_cd I pc = some (.baload, 1)) (hA : va_T .byte t N f (fun q => E.2.2.2.2.1 ≤ q) X.2.2.2.2.1 X.2.2.2.2.1.heap) (hin : vp_in x N) (hv : f x.toNatClampNeg = v) (k : kx X E H (pc + 1) nL L (v :: st)) : kx X E H pc nL L (.int x :: .ref t :: st) := by
  have hF := xF hC
  have hdc := xD hC _ (k_cd_ok h)
  intro locs hl ls hls T hT Y
  exact va_tb hF.1 hF.2.1 hA (s_S Y hT hl) hin hv hdc (k locs hl ls hls) T hT Y
theorem x_ldcS {tx : String} {index q : Nat} (hC : xC X E nL τ cc own I FL CI CJ K rk ps) (h : k_cd I pc = some (.ldc index, 2)) (hZ : vk_R own index tx q X.2.2.2.2.1) (k : kx X E H (pc + 2) nL L (.ref q :: st)) : kx X E H pc nL L st := by
  have hF := xF hC
  have hdc := xD hC _ (k_cd_ok h)
  intro locs hl ls hls
  exact va_ldcS hF.1 hF.2.1 hF.2.2.2 hZ hdc (k locs hl ls hls)
theorem x_ishr {x y : Int32} (hC : xC X E nL τ cc own I FL CI CJ K rk ps) (h : k_cd I pc = some (.ishr, 1)) (k : kx X E H (pc + 1) nL L (.int (x >>> (y &&& 31)) :: st)) : kx X E H pc nL L (.int y :: .int x :: st) := by
  have hF := xF hC
  have hdc := xD hC _ (k_cd_ok h)
  intro locs hl ls hls
  exact lv_ishr hF.1 hF.2.1 hdc (k locs hl ls hls)
theorem x_i2c {x v : Int32} (hC : xC X E nL τ cc own I FL CI CJ K rk ps) (h : k_cd I pc = some (.i2c, 1)) (hv : (x.toUInt32 % 65536).toInt32 = v) (k : kx X E H (pc + 1) nL L (.int v :: st)) : kx X E H pc nL L (.int x :: st) := by
  have hF := xF hC
  have hdc := xD hC _ (k_cd_ok h)
  intro locs hl ls hls
  exact lv_i2c hF.1 hF.2.1 hdc hv (k locs hl ls hls)
theorem x_nret {x : Int32} {ty : FieldType} (hC : xC X E nL τ cc own I FL CI CJ K rk ps) (h : k_cd I pc = some (.ireturn, 1)) (hty : k_rty rk = some ty) (hn : narrow ty (.int x) = .int x) (hp : k_post E τ X.2.2.2.2.1.heap H K ps (some (.int x))) : kx X E H pc nL L [.int x] := by
  have hF := xF hC
  have hR := xR hC
  have hLk := xLk hC
  have hQ := xQ hC
  have hdc := xD hC _ (k_cd_ok h)
  rw [hty] at hR
  intro locs hl ls hls
  unfold kw
  rw [hQ]
  exact W.zret hF.1 hF.2.1 hR hn (fun t ht _ => ⟨_, rfl, by rw [ht]; exact hp⟩) hl hdc hLk
end
/-- a contract by a walk, the arguments as Z says -/
theorem x_metZ {l : Launch} {E : kE} {τ : kTau} {tb : List Jvm.Cond} {y : MethodName} {cc : ByteArray} {nL rk : Nat} {K : kCtr} {rm : Room} {Z : List Value → Prop} {I : List (Nat × Instr × Nat)} {FL : List (Nat × Nat × Nat × Nat)} {CI CJ : List (Nat × Int)} (hpl : plainName y.cls = true) (hdec : ∀ q ∈ I, decode cc q.1 = .ok q.2)
    (hT : ∀ X : kX, (∀ w ∈ tb, w.before X.2.2.2.2.2.2.1 X.2.2.2.2.1 = true) → k_FL X E y.cls FL ∧ k_CI X y.cls CI ∧ k_CJ X y.cls CJ) (hE : k_Eok (k_Eg E (fun _ _ _ => True))) (hTy : k_tys E) (hw : (lg_sl ([] : List Value)).length = 0 → k_words K.1 ≤ nL)
    (walk : ∀ (X : kX) (ps : List Value), Z ps → X.2.1 = l → X.2.2.2.1 = rm → (∀ w ∈ tb, w.before X.2.2.2.2.2.2.1 X.2.2.2.2.1 = true) → xC X E nL τ cc y.cls I FL CI CJ K rk ps → k_HT E τ X.2.2.2.2.1.heap → k_pre E τ X.2.2.2.2.1.heap K ps → kx X E X.2.2.2.2.1.heap 0 nL (lv_args 0 ps) []) : s_Met l E τ tb y cc nL rk K rm Z := by
  intro ps hZ
  refine Met.ofW (cc := cc) (maxL := nL) (ret := k_rty rk) hpl rfl ?_
  intro p e s m args below meth c s₁ B hml hv
  obtain ⟨rfl, hK, hH, hpre⟩ := hv
  have hts0 := atoms_spec (ws := Jvm.Cond.code y cc nL (k_rty rk) :: tb) B.pre
  have hts : ∀ w ∈ tb, w.before ps.toArray s = true := fun w hw => hts0 w (List.mem_cons_of_mem _ hw)
  have hown : s.vm.findClass y.cls = some m.cls := findClass_of_methodNamed B.named
  obtain ⟨t1, t2, t3⟩ := hT (p, l, e, rm, s, m, ps.toArray, below, meth, c, MQ below (k_Qc E τ K ps) ps.toArray s 0 0 (fun q => E.2.2.2.2.1 ≤ q)) hts
  have hC : xC (p, l, e, rm, s, m, ps.toArray, below, meth, c, MQ below (k_Qc E τ K ps) ps.toArray s 0 0 (fun q => E.2.2.2.2.1 ≤ q)) E nL τ cc y.cls I FL CI CJ K rk ps := ⟨⟨B.exec, B.bytes, hml, hown⟩, hdec, t1, t2, t3, hE, hTy, hK, B.returns, B.notSynchronized, rfl⟩
  have hwd := k_words_ok hpre.1 hpre.2.1
  have hl := lv_entry ps (n := nL) (by rw [hwd]; exact hw rfl)
  rw [lg_entry_eq]
  exact walk _ ps hZ rfl rfl hts hC hH hpre [] (fun _ h => by cases h) _ hl
/-! ===== fields of any kind of cell ===== -/
section
variable {g : va_G} {tys : List (ClassId × FieldType)} {B0 : Nat} {GI : kGI} {τ : kTau} {H H' : Heap} {a : Nat}
theorem tI_in {t k : Nat} {d : Nat × List kInfo} {q : kB} (h0 : gE1 g) (hH : k_HT (gE g tys B0 GI) τ H) (ha : τ a = some t) (ht : gTT[t]? = some (.inl d)) (hx : d.2[k]? = some (.inl q)) : ∃ x : Int32, (H[a]?).bind (fun c => c.slots[g.2 d.1 k]?) = some (.int x) ∧ q.1 ≤ x.toInt ∧ x.toInt ≤ q.2 := by
  have hk : k < d.2.length := (List.getElem?_eq_some_iff.mp hx).1
  obtain ⟨v, cell, x, j1, j2, j3, j4, j5, j6, j7⟩ := k_read (q := d) (gEok0 (tys := tys) (B0 := B0) h0) hH ha ht hk
  rw [hx] at j1
  cases j1
  obtain ⟨x, rfl, h1⟩ := j2
  exact ⟨x, j7, h1.1, h1.2⟩
theorem tR_in {t k u : Nat} {d : Nat × List kInfo} (h0 : gE1 g) (hH : k_HT (gE g tys B0 GI) τ H) (ha : τ a = some t) (ht : gTT[t]? = some (.inl d)) (hx : d.2[k]? = some (.inr (.inr (.inl (false, [u]))))) : ∃ b : Nat, (H[a]?).bind (fun c => c.slots[g.2 d.1 k]?) = some (.ref b) ∧ τ b = some u := by
  have hk : k < d.2.length := (List.getElem?_eq_some_iff.mp hx).1
  obtain ⟨v, cell, x, j1, j2, j3, j4, j5, j6, j7⟩ := k_read (q := d) (gEok0 (tys := tys) (B0 := B0) h0) hH ha ht hk
  rw [hx] at j1
  cases j1
  obtain ⟨b, rfl, hb⟩ := k_refOk j2
  exact ⟨b, j7, hb⟩
end
