/-! ===== loops and contracts with ghost numbers: families of invariants ===== -/
abbrev kGI : Type := Nat → kTau → Heap → Prop
/-- the same world with other invariants -/
abbrev k_Eg (E : kE) (GI : kGI) : kE := (E.1, E.2.1, E.2.2.1, E.2.2.2.1, E.2.2.2.2.1, GI, E.2.2.2.2.2.2)
def k_sh : List (Nat × Nat) → Nat → Nat
  | [], i => i
  | q :: r, i => if Nat.beq q.1 i = true then q.2 else k_sh r i
def k_shA (sh : List (Nat × Nat)) (A : kAnn) : kAnn := (A.1, A.2.1, A.2.2.1, A.2.2.2.1, A.2.2.2.2.1.map (k_sh sh), A.2.2.2.2.2.1, A.2.2.2.2.2.2)
def k_hdG (TT : List kDesc) (GS : Nat → List (Nat × Nat)) (M : kM) (f d : Nat) (sh : List (Nat × Nat)) (q : Nat × kAnn) : Bool := ((q.2.2.2.2.2.2.2.all (k_mr q.2.2.1) && Nat.beq q.2.2.2.2.2.2.1.length M.2.2.2.2.2.1.1.length) && k_mem1 d q.2.2.2.2.2.1) && (match k_step TT GS M q.1 (k_hst0 q.2) with
  | some l => l.all (fun p => k_run TT GS M (fun A σ => k_ent TT M.2.2.2.2.2.1.1.length none (k_shA sh A) σ) f p.1 p.2)
  | none => false)
/-- a head as it is come to, under another ghost number -/
theorem k_hst0_conv {E : kE} {GI GI' : kGI} {nL : Nat} {τ : kTau} {vs : List Value} {ρ : Nat → Option Value} {H : Heap} {ls : Array Slot} {sh : List (Nat × Nat)} {A : kAnn} (h : k_R (k_Eg E GI) nL τ vs ρ H ls [] (k_hst0 (k_shA sh A))) (hs : ∀ i ∈ A.2.2.2.2.1, GI (k_sh sh i) τ H → GI' i τ H) : k_R (k_Eg E GI') nL τ vs ρ H ls [] (k_hst0 A) := by
  obtain ⟨k1, k2, k3, k4, k5, k6, k7, k8, k9⟩ := h
  exact ⟨k1, k2, k3, k4, k5, k6, k7, fun i hi => hs i hi (k8 _ (List.mem_map.mpr ⟨i, hi, rfl⟩)), k9⟩
theorem k_headsG {X : kX} {E : kE} {GI : Nat → kGI} {τ : kTau} {M : kM} {ps : List Value} {cc : ByteArray} {own : String} {f d B m0 : Nat} {sh : List (Nat × Nat)} (hy : ∀ m, m0 ≤ m → k_Hy X (k_Eg E (GI m)) τ M ps cc own) (hh : ∀ q ∈ M.2.2.2.2.2.2.2.2.1, k_hdG E.2.2.2.1 E.2.2.2.2.2.2 M f d sh q = true)
    (hsh : ∀ m, m0 ≤ m → ∀ q ∈ M.2.2.2.2.2.2.2.2.1, ∀ i ∈ q.2.2.2.2.2.1, ∀ H, k_HT E τ H → GI m (k_sh sh i) τ H → GI (m + 1) i τ H) (hbd : ∀ m H, k_HT E τ H → GI m d τ H → m ≤ B) :
    ∀ (N m : Nat), m0 ≤ m → B + 1 ≤ m + N → ∀ (q : Nat × kAnn), q ∈ M.2.2.2.2.2.2.2.2.1 → ∀ (ρ : Nat → Option Value) (H : Heap) (locs : List Loc) (ls : Array Slot), k_HT E τ H → k_wk E τ M.2.2.2.2.2.1.2.2.2.1 X.2.2.2.2.1.heap H locs → k_R (k_Eg E (GI m)) M.2.2.2.2.2.2.2.1 τ ps ρ H ls [] (k_hst0 q.2) → kw X H locs q.1 ls [] := by
  intro N
  induction N with
  | zero =>
    intro m hm hB q hq ρ H locs ls hH hW hR
    have hb := hh q hq
    unfold k_hdG at hb
    rw [Bool.and_eq_true, Bool.and_eq_true, Bool.and_eq_true, k_mem1_iff] at hb
    have := hbd m H hH (hR.2.2.2.2.2.2.2.1 d hb.1.2)
    omega
  | succ N ih =>
    intro m hm hB q hq ρ H locs ls hH hW hR
    have hE := (hy m hm).2.2.2.2.2.2.1
    have hl : ps.length = M.2.2.2.2.2.1.1.length := (hy m hm).2.2.2.2.2.2.2.2.2.2.2.2
    have hb := hh q hq
    unfold k_hdG at hb
    rw [Bool.and_eq_true, Bool.and_eq_true, Bool.and_eq_true] at hb
    obtain ⟨⟨⟨b1, b1'⟩, b0⟩, b2⟩ := hb
    have hps : ∀ (i : Nat) (w : Value), ps[i]? = some w → i < ps.length → ps[i]? = some w := fun _ _ h _ => h
    split at b2
    · rename_i l hst
      rw [List.all_eq_true] at b2
      refine k_step_ok (hy m hm) hps hst (fun p hp => k_run_ok (hy m hm) hps (fun pc A σ hA hent => ?_) f p.1 p.2 (b2 p hp)) ρ H locs ls [] hH hW hR
      intro ρ2 H2 locs2 ls2 st2 hH2 hW2 hR3
      have hA2 := hh _ hA
      unfold k_hdG at hA2
      rw [Bool.and_eq_true, Bool.and_eq_true, Bool.and_eq_true] at hA2
      obtain ⟨h1, ρ', h2, -⟩ := k_ent_ok (ps := ps) (ms := none) (A := k_shA sh A) hE hH2 hps hR3 (by rw [hl]; exact hent) hA2.1.1.1
      subst h1
      exact ih (m + 1) (by omega) (by omega) (pc, A) hA ρ' H2 locs2 ls2 hH2 hW2 (k_hst0_conv h2 (fun i hi => hsh m hm _ hA i hi H2 hH2))
    · cases b2
def k_checkG (TT : List kDesc) (GS : Nat → List (Nat × Nat)) (M : kM) (f d : Nat) (sh sh0 : List (Nat × Nat)) : Bool := Nat.ble (k_words M.2.2.2.2.2.1.1) M.2.2.2.2.2.2.2.1 && (M.2.2.2.2.2.2.2.2.1.all (k_hdG TT GS M f d sh) && (match k_est M.2.2.2.2.2.1 with
  | some σ => k_run TT GS M (fun A σ => k_ent TT M.2.2.2.2.2.1.1.length none (k_shA sh0 A) σ) f 0 σ
  | none => false))
theorem k_entryG {X : kX} {E : kE} {GI : Nat → kGI} {τ : kTau} {M : kM} {ps : List Value} {cc : ByteArray} {own : String} {f d B m0 : Nat} {sh sh0 : List (Nat × Nat)} (hy : ∀ m, m0 ≤ m → k_Hy X (k_Eg E (GI m)) τ M ps cc own) (hc : k_checkG E.2.2.2.1 E.2.2.2.2.2.2 M f d sh sh0 = true)
    (hsh : ∀ m, m0 ≤ m → ∀ q ∈ M.2.2.2.2.2.2.2.2.1, ∀ i ∈ q.2.2.2.2.2.1, ∀ H, k_HT E τ H → GI m (k_sh sh i) τ H → GI (m + 1) i τ H) (hs0 : ∀ q ∈ M.2.2.2.2.2.2.2.2.1, ∀ i ∈ q.2.2.2.2.2.1, ∀ H, k_HT E τ H → GI m0 (k_sh sh0 i) τ H → GI m0 i τ H) (hbd : ∀ m H, k_HT E τ H → GI m d τ H → m ≤ B)
    (hH : k_HT E τ X.2.2.2.2.1.heap) (hpre : k_pre (k_Eg E (GI m0)) τ X.2.2.2.2.1.heap M.2.2.2.2.2.1 ps) :
    W X.1 X.2.1 X.2.2.1 X.2.2.2.1 X.2.2.2.2.1 X.2.2.2.2.2.1 X.2.2.2.2.2.2.1 X.2.2.2.2.2.2.2.1 X.2.2.2.2.2.2.2.2.1 X.2.2.2.2.2.2.2.2.2.1 X.2.2.2.2.1.heap [] 0 0 X.2.2.2.2.2.2.2.2.2.2 (entryFrame X.2.2.2.2.2.1 ps.toArray M.2.2.2.2.2.2.2.1) := by
  unfold k_checkG at hc
  rw [Bool.and_eq_true, Bool.and_eq_true, List.all_eq_true] at hc
  obtain ⟨c1, c2, c3⟩ := hc
  have c1 := Nat.le_of_ble_eq_true c1
  obtain ⟨p1, p2, p3, p4⟩ := hpre
  have hy0 := hy m0 (Nat.le_refl _)
  have hE := hy0.2.2.2.2.2.2.1
  have hw := k_words_ok p1 p2
  have hl := lv_entry ps (n := M.2.2.2.2.2.2.2.1) (by rw [hw]; exact c1)
  rw [lg_entry_eq]
  generalize (lg_sl ps ++ List.replicate (M.2.2.2.2.2.2.2.1 - (lg_sl ps).length) Slot.unset).toArray = ls at hl ⊢
  split at c3
  · rename_i σ hσ
    have hbase : k_R (k_Eg E (GI m0)) M.2.2.2.2.2.2.2.1 τ ps (fun i => ps[i]?) X.2.2.2.2.1.heap ls [] (M.2.2.2.2.2.1.1.length, k_zip 0 M.2.2.2.2.2.1.1, k_eloc 0 0 M.2.2.2.2.2.1.1, [], [], [], [], M.2.2.2.2.2.1.2.2.2.2.1, k_seq 0 M.2.2.2.2.2.1.1.length) := by
      refine ⟨fun i hi => List.getElem?_eq_none (by omega), fun q hq => ?_, ⟨hl.1, hl.2.1, k_eloc_ok (i := 0) p1 p2 hl.2.2 (fun k w hk => by rw [Nat.zero_add]; exact hk)⟩, rfl, (fun q hq => by cases hq), (fun q hq => by cases hq), (fun q hq => by cases hq), p4, k_seq_map p1 (fun i w hi => by rw [Nat.zero_add]; exact hi)⟩
      obtain ⟨-, h2⟩ := k_zip_mem hq
      rw [Nat.sub_zero] at h2
      exact p2 _ _ h2
    obtain ⟨ρ, hR⟩ := k_pfe_ok (as := ps) (k_seq_map p1 (fun i w hi => by rw [Nat.zero_add]; exact hi)) hbase p3 hσ
    have hps : ∀ (i : Nat) (w : Value), ps[i]? = some w → i < ps.length → ps[i]? = some w := fun _ _ h _ => h
    refine k_run_ok hy0 hps (fun pc A σ' hA hent => ?_) f 0 σ c3 ρ _ [] ls [] hH ⟨k_fr_refl, fun _ h => by cases h⟩ hR
    intro ρ2 H2 locs2 ls2 st2 hH2 hW2 hR3
    have hA2 := c2 _ hA
    unfold k_hdG at hA2
    rw [Bool.and_eq_true, Bool.and_eq_true, Bool.and_eq_true] at hA2
    have hlen : ps.length = M.2.2.2.2.2.1.1.length := p1
    obtain ⟨h1, ρ', h2, -⟩ := k_ent_ok (ps := ps) (ms := none) (A := k_shA sh0 A) hE hH2 hps hR3 (by rw [hlen]; exact hent) hA2.1.1.1
    subst h1
    exact k_headsG hy c2 hsh hbd (B + 1) m0 (Nat.le_refl _) (by omega) (pc, A) hA ρ' H2 locs2 ls2 hH2 hW2 (k_hst0_conv h2 (fun i hi => hs0 _ hA i hi H2 hH2))
  · cases c3
/-- from a check with a ghost number to a contract -/
theorem k_metG {l : Launch} {E : kE} {GI : Nat → kGI} {τ : kTau} {tb : List Jvm.Cond} {y : MethodName} {cc : ByteArray} {M : kM} {rm : Room} {f d B m0 : Nat} {sh sh0 : List (Nat × Nat)} (hpl : plainName y.cls = true)
    (hQ : ∀ m, m0 ≤ m → ∀ ps, k_Qc (k_Eg E (GI m0)) τ M.2.2.2.2.2.1 ps = k_Qc (k_Eg E (GI m)) τ M.2.2.2.2.2.1 ps)
    (hT : ∀ m, m0 ≤ m → ∀ X : kX, X.2.1 = l → X.2.2.2.1 = rm → k_Fx X cc M.2.2.2.2.2.2.2.1 y.cls → (∀ w ∈ tb, w.before X.2.2.2.2.2.2.1 X.2.2.2.2.1 = true) → kK E.1 E.2.1 E.2.2.1 E.2.2.2.2.1 X.2.2.2.2.1 →
      k_FL X (k_Eg E (GI m)) y.cls M.2.1 ∧ k_CI X y.cls M.2.2.1 ∧ k_CJ X y.cls M.2.2.2.1 ∧ (∀ q ∈ M.2.2.2.2.1, k_call X (k_Eg E (GI m)) M.2.2.2.2.2.2.2.1 τ q.2 q.1) ∧ k_Eok (k_Eg E (GI m)) ∧ k_tys (k_Eg E (GI m)))
    (hdec : ∀ q ∈ M.1, decode cc q.1 = .ok q.2) (hchk : k_checkG E.2.2.2.1 E.2.2.2.2.2.2 M f d sh sh0 = true)
    (hsh : ∀ m, m0 ≤ m → ∀ q ∈ M.2.2.2.2.2.2.2.2.1, ∀ i ∈ q.2.2.2.2.2.1, ∀ H, k_HT E τ H → GI m (k_sh sh i) τ H → GI (m + 1) i τ H) (hs0 : ∀ q ∈ M.2.2.2.2.2.2.2.2.1, ∀ i ∈ q.2.2.2.2.2.1, ∀ H, k_HT E τ H → GI m0 (k_sh sh0 i) τ H → GI m0 i τ H) (hbd : ∀ m H, k_HT E τ H → GI m d τ H → m ≤ B) :
    k_Met l (k_Eg E (GI m0)) τ tb y cc M.2.2.2.2.2.2.2.1 M.2.2.2.2.2.2.1 M.2.2.2.2.2.1 rm := by
  intro ps
  refine Met.ofW (cc := cc) (maxL := M.2.2.2.2.2.2.2.1) (ret := k_rty M.2.2.2.2.2.2.1) hpl rfl ?_
  intro p e s m args below meth c s₁ B' hml hv
  obtain ⟨rfl, hK, hH, hpre⟩ := hv
  have hts0 := atoms_spec (ws := Jvm.Cond.code y cc M.2.2.2.2.2.2.2.1 (k_rty M.2.2.2.2.2.2.1) :: tb) B'.pre
  have hts : ∀ w ∈ tb, w.before ps.toArray s = true := fun w hw => hts0 w (List.mem_cons_of_mem _ hw)
  have hown : s.vm.findClass y.cls = some m.cls := findClass_of_methodNamed B'.named
  have hF : k_Fx (p, l, e, rm, s, m, ps.toArray, below, meth, c, MQ below (k_Qc (k_Eg E (GI m0)) τ M.2.2.2.2.2.1 ps) ps.toArray s 0 0 (fun q => E.2.2.2.2.1 ≤ q)) cc M.2.2.2.2.2.2.2.1 y.cls := ⟨B'.exec, B'.bytes, hml, hown⟩
  refine k_entryG (X := (p, l, e, rm, s, m, ps.toArray, below, meth, c, MQ below (k_Qc (k_Eg E (GI m0)) τ M.2.2.2.2.2.1 ps) ps.toArray s 0 0 (fun q => E.2.2.2.2.1 ≤ q))) (own := y.cls) (cc := cc) (B := B) (fun m' hm' => ?_) hchk hsh hs0 hbd hH hpre
  obtain ⟨t1, t2, t3, t4, t5, t6⟩ := hT m' hm' _ rfl rfl hF hts hK
  exact ⟨hF, hdec, t1, t2, t3, t4, t5, t6, hK.1, B'.returns, B'.notSynchronized, by rw [hQ m' hm' ps], hpre.1⟩
theorem k_Qc_eq {E : kE} {GI GI' : kGI} {τ : kTau} {K : kCtr} (h1 : ∀ i ∈ K.2.2.2.2.2, GI i = GI' i) (h2 : ∀ A ∈ K.2.2.1, ∀ q ∈ A.2.2, 1000 ≤ q.1 → GI (q.1 - 1000) = GI' (q.1 - 1000)) (ps : List Value) : k_Qc (k_Eg E GI) τ K ps = k_Qc (k_Eg E GI') τ K ps := by
  have ha : ∀ (H' : Heap) (v : Option Value) (A : kAlt), A ∈ K.2.2.1 → (k_alt (k_Eg E GI) τ H' ps v A ↔ k_alt (k_Eg E GI') τ H' ps v A) := by
    intro H' v A hA
    constructor
    · rintro ⟨a1, a2, a3⟩
      exact ⟨a1, a2, fun q hq => ⟨(a3 q hq).1, fun z => by have := (a3 q hq).2 z; show GI' _ τ H'; rw [← h2 A hA q hq z]; exact this⟩⟩
    · rintro ⟨a1, a2, a3⟩
      exact ⟨a1, a2, fun q hq => ⟨(a3 q hq).1, fun z => by have := (a3 q hq).2 z; show GI _ τ H'; rw [h2 A hA q hq z]; exact this⟩⟩
  funext a st o t
  apply propext
  constructor
  · rintro ⟨v, hv, p1, p2, p3, A, hA, hA2⟩
    exact ⟨v, hv, p1, p2, fun i hi => by have := p3 i hi; show GI' i τ t.heap; rw [← h1 i hi]; exact this, A, hA, (ha _ _ A hA).mp hA2⟩
  · rintro ⟨v, hv, p1, p2, p3, A, hA, hA2⟩
    exact ⟨v, hv, p1, p2, fun i hi => by have := p3 i hi; show GI i τ t.heap; rw [h1 i hi]; exact this, A, hA, (ha _ _ A hA).mpr hA2⟩
/-- a contract by a family of contracts: the ghosts are chosen where the call begins -/
theorem k_conv {γ : Type} {l : Launch} {E : kE} {GI : γ → kGI} {τ : kTau} {tb : List Jvm.Cond} {y : MethodName} {cc : ByteArray} {nL rk : Nat} {K : γ → kCtr} {K' : kCtr} {rm : Room} (h : ∀ c, k_Met l (k_Eg E (GI c)) τ tb y cc nL rk (K c) rm)
    (hc : ∀ (as : List Value) (H : Heap), k_HT E τ H → k_pre E τ H K' as → ∃ c, k_pre (k_Eg E (GI c)) τ H (K c) as ∧ ∀ H' v, k_post (k_Eg E (GI c)) τ H H' (K c) as v → k_post E τ H H' K' as v) : k_Met l E τ tb y cc nL rk K' rm := by
  intro ps p e a1 a2 a3 s m args below hfr happ hP hK
  obtain ⟨b1, b2, b3, b4⟩ := hP
  obtain ⟨c, hpre, hpost⟩ := hc ps s.heap b3 b4
  obtain ⟨n, o, k1, k2, k3, ⟨v, hv, hp⟩, k5⟩ := h c ps p e a1 a2 a3 s m args below hfr happ ⟨b1, b2, b3, hpre⟩ hK
  exact ⟨n, o, k1, k2, k3, ⟨v, hv, hpost _ v hp⟩, k5⟩
theorem k_prF_g {E : kE} {GI : kGI} {τ : kTau} {H : Heap} : ∀ {fs : List (Nat × Nat × kInfo)} {as : List Value}, k_prF E τ H fs as → k_prF (k_Eg E GI) τ H fs as
  | [], _, _ => trivial
  | _ :: _, _, ⟨v, w, h1, h2, h3, h4⟩ => ⟨v, w, h1, h2, h3, k_prF_g h4⟩
/-- the same contract under other invariants -/
theorem k_cvm {l : Launch} {E : kE} {GI GI' : kGI} {τ : kTau} {tb : List Jvm.Cond} {y : MethodName} {cc : ByteArray} {nL rk : Nat} {K K' : kCtr} {rm : Room} (h : k_Met l (k_Eg E GI) τ tb y cc nL rk K rm) (e1 : K'.1 = K.1) (e2 : K'.2.1 = K.2.1) (e4 : K'.2.2.2.1 = K.2.2.2.1)
    (hpre : ∀ H, k_HT E τ H → (∀ i ∈ K'.2.2.2.2.1, GI' i τ H) → ∀ i ∈ K.2.2.2.2.1, GI i τ H) (hpost : ∀ H, k_HT E τ H → (∀ i ∈ K.2.2.2.2.2, GI i τ H) → ∀ i ∈ K'.2.2.2.2.2, GI' i τ H)
    (halt : ∀ A ∈ K.2.2.1, ∃ A' ∈ K'.2.2.1, A'.1 = A.1 ∧ A'.2.1 = A.2.1 ∧ ∀ H, k_HT E τ H → (∀ q ∈ A.2.2, 1000 ≤ q.1 → GI (q.1 - 1000) τ H) → ∀ q' ∈ A'.2.2, (q'.1 < 1000 ∧ q' ∈ A.2.2) ∨ (1000 ≤ q'.1 ∧ GI' (q'.1 - 1000) τ H)) : k_Met l (k_Eg E GI') τ tb y cc nL rk K' rm := by
  refine k_conv (γ := Unit) (E := k_Eg E GI') (GI := fun _ => GI) (K := fun _ => K) (fun _ => h) (fun as H hH hp => ⟨(), ⟨by rw [← e1]; exact hp.1, by rw [← e1]; exact hp.2.1, by rw [← e2]; exact k_prF_g hp.2.2.1, hpre H hH hp.2.2.2⟩, fun H' v hq => ?_⟩)
  obtain ⟨q1, q2, q3, A, hA, a1, a2, a3⟩ := hq
  obtain ⟨A', hA', b1, b2, b3⟩ := halt A hA
  refine ⟨q1, by rw [e4]; exact q2, hpost H' q1 q3, A', hA', by rw [b1]; exact a1, by rw [b2]; exact a2, fun q' hq' => ?_⟩
  rcases b3 H' q1 (fun q hq hz => (a3 q hq).2 hz) q' hq' with ⟨z1, z2⟩ | ⟨z1, z2⟩
  · exact ⟨(a3 q' z2).1, fun z => absurd z (by omega)⟩
  · exact ⟨fun z => absurd z (by omega), fun _ => z2⟩
