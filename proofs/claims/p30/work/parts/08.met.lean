/-! ===== from a check to a contract, from a contract to a call ===== -/
def k_Pc (E : kE) (τ : kTau) (K : kCtr) (ps : List Value) : Array Value → State → Prop := fun a U => a = ps.toArray ∧ kK E.1 E.2.1 E.2.2.1 E.2.2.2.2.1 U ∧ k_HT E τ U.heap ∧ k_pre E τ U.heap K ps
/-- a method's contract over the machine, for all arguments -/
def k_Met (l : Launch) (E : kE) (τ : kTau) (tb : List Jvm.Cond) (y : MethodName) (cc : ByteArray) (nL rk : Nat) (K : kCtr) (rm : Room) : Prop :=
  ∀ ps : List Value, Met l y (Jvm.Cond.code y cc nL (k_rty rk) :: tb) rm (k_Pc E τ K ps) (k_Qc E τ K ps) 0 0 (fun q => E.2.2.2.2.1 ≤ q)
theorem k_Pc_blind {E : kE} {τ : kTau} {K : kCtr} {ps : List Value} : FrameBlind (k_Pc E τ K ps) := by
  intro a U g mk h
  obtain ⟨h1, h2, h3, h4⟩ := h
  exact ⟨h1, ⟨va_K.moved (u := U) (U := U.calling g mk a) (Vm.Alike.refl U.vm) h2.1, gZ_moved (s := U) (U := U.calling g mk a) (State.WarmedH.refl U) (fun _ _ _ => rfl) h2.2⟩, h3, h4⟩
theorem k_met {l : Launch} {E : kE} {τ : kTau} {tb : List Jvm.Cond} {y : MethodName} {cc : ByteArray} {M : kM} {rm : Room} {f : Nat} (hpl : plainName y.cls = true)
    (hT : ∀ X : kX, X.2.1 = l → X.2.2.2.1 = rm → k_Fx X cc M.2.2.2.2.2.2.2.1 y.cls → (∀ w ∈ tb, w.before X.2.2.2.2.2.2.1 X.2.2.2.2.1 = true) → kK E.1 E.2.1 E.2.2.1 E.2.2.2.2.1 X.2.2.2.2.1 →
      k_FL X E y.cls M.2.1 ∧ k_CI X y.cls M.2.2.1 ∧ k_CJ X y.cls M.2.2.2.1 ∧ (∀ q ∈ M.2.2.2.2.1, k_call X E M.2.2.2.2.2.2.2.1 τ q.2 q.1) ∧ k_Eok E ∧ k_tys E)
    (hdec : ∀ q ∈ M.1, decode cc q.1 = .ok q.2) (hchk : k_check E.2.2.2.1 E.2.2.2.2.2.2 M f = true) :
    k_Met l E τ tb y cc M.2.2.2.2.2.2.2.1 M.2.2.2.2.2.2.1 M.2.2.2.2.2.1 rm := by
  intro ps
  refine Met.ofW (cc := cc) (maxL := M.2.2.2.2.2.2.2.1) (ret := k_rty M.2.2.2.2.2.2.1) hpl rfl ?_
  intro p e s m args below meth c s₁ B hml hv
  obtain ⟨rfl, hK, hH, hpre⟩ := hv
  have hts0 := atoms_spec (ws := Jvm.Cond.code y cc M.2.2.2.2.2.2.2.1 (k_rty M.2.2.2.2.2.2.1) :: tb) B.pre
  have hts : ∀ w ∈ tb, w.before ps.toArray s = true := fun w hw => hts0 w (List.mem_cons_of_mem _ hw)
  have hown : s.vm.findClass y.cls = some m.cls := findClass_of_methodNamed B.named
  have hF : k_Fx (p, l, e, rm, s, m, ps.toArray, below, meth, c, MQ below (k_Qc E τ M.2.2.2.2.2.1 ps) ps.toArray s 0 0 (fun q => E.2.2.2.2.1 ≤ q)) cc M.2.2.2.2.2.2.2.1 y.cls := ⟨B.exec, B.bytes, hml, hown⟩
  obtain ⟨t1, t2, t3, t4, t5, t6⟩ := hT _ rfl rfl hF hts hK
  exact k_entry (X := (p, l, e, rm, s, m, ps.toArray, below, meth, c, MQ below (k_Qc E τ M.2.2.2.2.2.1 ps) ps.toArray s 0 0 (fun q => E.2.2.2.2.1 ≤ q))) (own := y.cls) (cc := cc) ⟨hF, hdec, t1, t2, t3, t4, t5, t6, hK.1, B.returns, B.notSynchronized, rfl, hpre.1⟩ hchk hH hpre
section KCS
variable {X : kX} {E : kE} {nL : Nat} {τ : kTau} {tb : List Jvm.Cond} {cc cc' : ByteArray} {own : String} {pc idx nL' rk' : Nat} {y : MethodName} {K : kCtr} {rm : Room}
theorem k_ofRun {H : Heap} {locs : List Loc} {ls : Array Slot} {as rest : List Value} (hr : CallRun X.1 X.2.1 X.2.2.1 X.2.2.2.1 X.2.2.2.2.1 X.2.2.2.2.2.1 X.2.2.2.2.2.2.1 X.2.2.2.2.2.2.2.1 X.2.2.2.2.2.2.2.2.1 X.2.2.2.2.2.2.2.2.2.1 H locs 0 0 0 0 (F0 X.2.2.2.2.2.1 pc ls (as.reverse ++ rest)) rest (k_Qc E τ K as as.toArray) (fun q => E.2.2.2.2.1 ≤ q))
    (kk : ∀ (H' : Heap) (L : List Loc) (v : Option Value), k_post E τ H H' K as v → (∀ q ∈ L, E.2.2.2.2.1 ≤ q.base) → kw X H' (locs ++ L) (pc + 3) ls (v.toList ++ rest)) : kw X H locs pc ls (as.reverse ++ rest) := by
  intro T hT Y
  obtain ⟨v, st₀, t, T', L, h0, Y', hL, e1, ⟨v', hv, hpost⟩, st⟩ := hr T hT Y
  cases hv
  rw [h0] at hpost
  obtain ⟨t2, a1, b1⟩ := kk t.heap L v hpost hL T' e1 Y'
  exact ⟨t2, st t2 a1, b1⟩
/-- the words of a call -/
theorem k_cb (hts : ∀ w ∈ tb, w.before X.2.2.2.2.2.2.1 X.2.2.2.2.1 = true) (hg : ∀ w ∈ tb, goodWord w = true) (hcode : Jvm.Cond.code y cc' nL' (k_rty rk') ∈ tb) (hini : Jvm.Cond.initialized y.cls ∈ tb) (hl : Jvm.Cond.methodLink own idx y ∈ tb)
    (hrc : rm.cells = 0) (hrs : rm.slots = 0) {n : Nat} (hd : y.cls ≠ "java/lang/invoke/MethodHandle" ∧ y.cls ≠ "java/lang/invoke/VarHandle" ∧ (parseMethodDescriptor y.desc).map (fun d => d.parameters.length) = some n) (hR : rm.frames + 1 ≤ X.2.2.2.1.frames ∧ 8 + (nL' + 11) + rm.locals ≤ X.2.2.2.1.locals) :
    CallB X.2.2.2.1 X.2.2.2.2.1 X.2.2.2.2.2.2.1 own idx y cc' nL' (k_rty rk') (Jvm.Cond.code y cc' nL' (k_rty rk') :: tb) rm 0 0 n :=
  callB_of (Ts := tb) n hts (fun w hw => by
    rcases List.mem_cons.mp hw with e | e
    · subst e; exact ⟨hcode, good_of_word (hg _ hcode)⟩
    · exact ⟨e, good_of_word (hg w e)⟩) rfl hrc hrs (hts _ hini) (hts _ hl) hd hR
theorem k_callS (hF : k_Fx X cc nL own) (hK : kK E.1 E.2.1 E.2.2.1 E.2.2.2.2.1 X.2.2.2.2.1) (hts : ∀ w ∈ tb, w.before X.2.2.2.2.2.2.1 X.2.2.2.2.1 = true) (hg : ∀ w ∈ tb, goodWord w = true) (hM : k_Met X.2.1 E τ tb y cc' nL' rk' K rm) (hcode : Jvm.Cond.code y cc' nL' (k_rty rk') ∈ tb) (hini : Jvm.Cond.initialized y.cls ∈ tb) (hl : Jvm.Cond.methodLink own idx y ∈ tb) (hst : Jvm.Cond.static y ∈ tb)
    (hrc : rm.cells = 0) (hrs : rm.slots = 0) (hd : y.cls ≠ "java/lang/invoke/MethodHandle" ∧ y.cls ≠ "java/lang/invoke/VarHandle" ∧ (parseMethodDescriptor y.desc).map (fun d => d.parameters.length) = some K.1.length) (hR : rm.frames + 1 ≤ X.2.2.2.1.frames ∧ 8 + (nL' + 11) + rm.locals ≤ X.2.2.2.1.locals)
    (hdg : decode cc pc = .ok (.invokestatic idx, 3)) : k_call X E nL τ K pc := by
  intro H locs ls as rest hH hpre hsum hls hloc kk
  intro T hT Y
  have hz := k_below Y hloc
  rw [hT] at hz
  have hgo : kw X H locs pc ls (as.reverse ++ rest) := k_ofRun (W.runS (Ts := tb) (cc := cc) (nL := nL) (own := own) (As := as) ⟨hF.1, hF.2.1, hF.2.2.1, hF.2.2.2, hts⟩ (hM as) ⟨k_cb hts hg hcode hini hl hrc hrs hd hR, hts _ hst⟩ ⟨k_Pc_blind, fun U hU hW => ⟨rfl, ⟨va_K.moved hW.alike hK.1, gZ_moved hW (by rw [hU]; exact hz) hK.2⟩, by rw [hU]; exact hH, by rw [hU]; exact hpre⟩⟩ rfl hpre.1 hls rfl (lv_room hsum) hdg ⟨Nat.zero_le _, Nat.zero_le _⟩) kk
  exact hgo T hT Y
theorem k_callV {C : String} {T : u_T} {N ci t : Nat} {fs : List kInfo} (hF : k_Fx X cc nL own) (hK : kK E.1 E.2.1 E.2.2.1 E.2.2.2.2.1 X.2.2.2.2.1) (hts : ∀ w ∈ tb, w.before X.2.2.2.2.2.2.1 X.2.2.2.2.1 = true) (hg : ∀ w ∈ tb, goodWord w = true) (hM : k_Met X.2.1 E τ tb y cc' nL' rk' K rm) (hcode : Jvm.Cond.code y cc' nL' (k_rty rk') ∈ tb) (hini : Jvm.Cond.initialized y.cls ∈ tb) (hl : Jvm.Cond.methodLink own idx y ∈ tb) (him : Jvm.Cond.instanceMethod y ∈ tb) (hsel : Jvm.Cond.selects C y y ∈ tb)
    (hcl : E.2.1[ci]? = some (C, T, N)) (htt : E.2.2.2.1[t]? = some (.inl (ci, fs))) {r : List kInfo} (hK1 : K.1 = .inr (.inr (.inl (false, [t]))) :: r)
    (hrc : rm.cells = 0) (hrs : rm.slots = 0) (hd : y.cls ≠ "java/lang/invoke/MethodHandle" ∧ y.cls ≠ "java/lang/invoke/VarHandle" ∧ (parseMethodDescriptor y.desc).map (fun d => d.parameters.length) = some r.length) (hR : rm.frames + 1 ≤ X.2.2.2.1.frames ∧ 8 + (nL' + 11) + rm.locals ≤ X.2.2.2.1.locals)
    (hdg : decode cc pc = .ok (.invokevirtual idx, 3)) : k_call X E nL τ K pc := by
  intro H locs ls as rest hH hpre hsum hls hloc kk
  obtain ⟨v, hv, hok⟩ := hpre.2.1 0 (.inr (.inr (.inl (false, [t])))) (by rw [hK1]; rfl)
  rcases hok with ⟨z, -⟩ | ⟨a, t', z1, z2, z3⟩
  · cases z
  subst z1
  have et : t' = t := List.mem_singleton.mp z2
  subst et
  cases as with
  | nil => simp at hv
  | cons a0 As =>
    have : a0 = .ref a := by simpa using hv
    subst this
    obtain ⟨-, d, g2, g3⟩ := hH a t' z3
    rw [htt] at g2
    cases g2
    obtain ⟨ws, ⟨q, q1, cell, q2, q3, q4, -⟩, -⟩ := g3
    have hlen : As.length = r.length := by
      have := hpre.1
      rw [hK1] at this
      simpa using this
    have hrev : (Value.ref a :: As).reverse ++ rest = As.reverse ++ .ref a :: rest := by simp
    intro T hT Y
    have hz := k_below Y hloc
    rw [hT] at hz
    have hrun := W.runV (e := X.2.2.1) (below := X.2.2.2.2.2.2.2.1) (meth := X.2.2.2.2.2.2.2.2.1) (g := F0 X.2.2.2.2.2.1 pc ls (As.reverse ++ .ref a :: rest)) (Ts := tb) (cc := cc) (nL := nL) (own := own) (C := C) (As := As) (b := a) (rest := rest) (H := H) (locs := locs) (cells := 0) (slots := 0) ⟨hF.1, hF.2.1, hF.2.2.1, hF.2.2.2, hts⟩ (hM (.ref a :: As)) ⟨k_cb (n := r.length) hts hg hcode hini hl hrc hrs hd hR, hts _ him, hts _ hsel⟩
      ⟨k_Pc_blind, ⟨cell, q2, by rw [q4]; rfl, by rw [q3]; exact (hK.1.1 ci _ hcl).2.1⟩, fun U hU hW => ⟨rfl, ⟨va_K.moved hW.alike hK.1, gZ_moved hW (by rw [hU]; exact hz) hK.2⟩, by rw [hU]; exact hH, by rw [hU]; exact hpre⟩⟩ rfl hlen hls rfl (lv_room hsum) hdg ⟨Nat.zero_le _, Nat.zero_le _⟩
    rw [← hrev] at hrun
    have hgo : kw X H locs pc ls ((Value.ref a :: As).reverse ++ rest) := k_ofRun hrun kk
    exact hgo T hT Y
end KCS
/-- Math.max, Math.min as contracts -/
def k_Kmm : kCtr := ([.inl k_top, .inl k_top], [], [(some (.inl k_top), [], [])], [], [], [])
theorem k_post_same {E : kE} {τ : kTau} {H : Heap} {K : kCtr} {as : List Value} {v : Option Value} (hH : k_HT E τ H) (hg : K.2.2.2.2.2 = []) (hA : ∃ A ∈ K.2.2.1, k_alt E τ H as v A) : k_post E τ H H K as v := ⟨hH, k_fr_refl, by rw [hg]; exact fun _ h => (by cases h), hA⟩
theorem k_mmax {X : kX} {E : kE} {nL : Nat} {τ : kTau} {cc : ByteArray} {own : String} {pc idx : Nat} (hF : k_Fx X cc nL own) (hlink : (Jvm.Cond.methodLink own idx Lib.Math.max.name).before X.2.2.2.2.2.2.1 X.2.2.2.2.1 = true) (hstat : (Jvm.Cond.static Lib.Math.max.name).before X.2.2.2.2.2.2.1 X.2.2.2.2.1 = true) (hini : (Jvm.Cond.initialized "java/lang/Math").before X.2.2.2.2.2.2.1 X.2.2.2.2.1 = true) (hcode : (Jvm.Cond.code Lib.Math.max.name Lib.Math.max.code 2 (some .int)).before X.2.2.2.2.2.2.1 X.2.2.2.2.1 = true)
    (hfr : 1 ≤ X.2.2.2.1.frames) (hlo : 21 ≤ X.2.2.2.1.locals) (hdg : decode cc pc = .ok (.invokestatic idx, 3)) : k_call X E nL τ k_Kmm pc := by
  intro H locs ls as rest hH hpre hsum hls hloc kk
  obtain ⟨h1, h2, -⟩ := hpre
  match as, h1 with
  | [a, b], _ =>
    obtain ⟨v, v1, x, v2, -⟩ := h2 0 (.inl k_top) rfl
    obtain ⟨w, w1, y, w2, -⟩ := h2 1 (.inl k_top) rfl
    have ea : a = .int x := by simpa [v2] using v1
    have eb : b = .int y := by simpa [w2] using w1
    subst ea; subst eb
    show kw X H locs pc ls (.int y :: .int x :: rest)
    refine va_mmax hF.1 hF.2.1 (by rw [hF.2.2.1]; exact hls.symm) hF.2.2.2 hlink hstat hini hcode hfr (by omega) (Nat.zero_le _) (Nat.zero_le _) hdg ?_
    have := kk H [] (some (.int (if x < y then y else x))) (k_post_same hH rfl ⟨_, List.mem_cons_self, ⟨_, rfl, _, rfl, k_in_top _⟩, fun _ h => (by cases h), fun _ h => (by cases h)⟩) (fun _ h => by cases h)
    rw [List.append_nil] at this
    exact this
theorem k_mmin {X : kX} {E : kE} {nL : Nat} {τ : kTau} {cc : ByteArray} {own : String} {pc idx : Nat} (hF : k_Fx X cc nL own) (hlink : (Jvm.Cond.methodLink own idx Lib.Math.min.name).before X.2.2.2.2.2.2.1 X.2.2.2.2.1 = true) (hstat : (Jvm.Cond.static Lib.Math.min.name).before X.2.2.2.2.2.2.1 X.2.2.2.2.1 = true) (hini : (Jvm.Cond.initialized "java/lang/Math").before X.2.2.2.2.2.2.1 X.2.2.2.2.1 = true) (hcode : (Jvm.Cond.code Lib.Math.min.name Lib.Math.min.code 2 (some .int)).before X.2.2.2.2.2.2.1 X.2.2.2.2.1 = true)
    (hfr : 1 ≤ X.2.2.2.1.frames) (hlo : 21 ≤ X.2.2.2.1.locals) (hdg : decode cc pc = .ok (.invokestatic idx, 3)) : k_call X E nL τ k_Kmm pc := by
  intro H locs ls as rest hH hpre hsum hls hloc kk
  obtain ⟨h1, h2, -⟩ := hpre
  match as, h1 with
  | [a, b], _ =>
    obtain ⟨v, v1, x, v2, -⟩ := h2 0 (.inl k_top) rfl
    obtain ⟨w, w1, y, w2, -⟩ := h2 1 (.inl k_top) rfl
    have ea : a = .int x := by simpa [v2] using v1
    have eb : b = .int y := by simpa [w2] using w1
    subst ea; subst eb
    show kw X H locs pc ls (.int y :: .int x :: rest)
    refine va_mmin hF.1 hF.2.1 (by rw [hF.2.2.1]; exact hls.symm) hF.2.2.2 hlink hstat hini hcode hfr (by omega) (Nat.zero_le _) (Nat.zero_le _) hdg ?_
    have := kk H [] (some (.int (if y < x then y else x))) (k_post_same hH rfl ⟨_, List.mem_cons_self, ⟨_, rfl, _, rfl, k_in_top _⟩, fun _ h => (by cases h), fun _ h => (by cases h)⟩) (fun _ h => by cases h)
    rw [List.append_nil] at this
    exact this
