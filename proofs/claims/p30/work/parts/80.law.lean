/-! ===== the law's walk: the script, calls on the two, what holds between the steps ===== -/
def zS (X : kX) (B0 b Lx : Nat) (xs : Nat → Int32) : Prop := va_X b Lx xs X.2.2.2.2.1 X.2.2.2.2.1.heap ∧ b < X.2.2.2.2.1.heap.size ∧ X.2.2.2.2.1.heap.size = B0 ∧ Lx ≤ 3072
section
variable {X : kX} {g : va_G} {tys : List (ClassId × FieldType)} {B0 nL : Nat} {cc : ByteArray} {own : String} {I : List (Nat × Instr × Nat)} {FL : List (Nat × Nat × Nat × Nat)} {cells slots : Nat} {H : Heap} {pc : Nat} {L : List (Nat × Value)} {st : List Value} {τ : kTau} {b Lx : Nat} {xs : Nat → Int32}
theorem z_sld {x : Int32} (hC : zC X g tys B0 nL cc own I FL) (hX : zS X B0 b Lx xs) (h : k_cd I pc = some (.iaload, 1)) (hx : 0 ≤ x.toInt ∧ x.toInt < (Lx : Int)) (k : kz X B0 cells slots H (pc + 1) nL L (.int (xs x.toInt.toNat) :: st)) : kz X B0 cells slots H pc nL L (.int x :: .ref b :: st) := by
  obtain ⟨hF, hD, -⟩ := hC
  obtain ⟨h1, h2, h3, h4⟩ := hX
  have hd := hD _ (k_cd_ok h)
  have hin : vp_in x Lx := fun q => by
    rcases q with q | q
    · rw [Int32.lt_iff_toInt_lt] at q
      have q : x.toInt < 0 := q
      omega
    · have q : Lx ≤ x.toInt.toNat := q
      omega
  intro locs hl ls hls T hT Y
  have hgo := k locs hl ls hls
  exact va_sld (A := fun q => B0 ≤ q) hF.1 hF.2.1 h1 h2 (by show ¬ B0 ≤ b; omega) (s_S Y hT hl) hin hd hgo T hT Y
theorem z_slen (hC : zC X g tys B0 nL cc own I FL) (hX : zS X B0 b Lx xs) (h : k_cd I pc = some (.arraylength, 1)) (k : kz X B0 cells slots H (pc + 1) nL L (.int (Int32.ofNat Lx) :: st)) : kz X B0 cells slots H pc nL L (.ref b :: st) := by
  obtain ⟨hF, hD, -⟩ := hC
  obtain ⟨h1, h2, h3, h4⟩ := hX
  have hd := hD _ (k_cd_ok h)
  intro locs hl ls hls T hT Y
  have hgo := k locs hl ls hls
  exact va_slen (A := fun q => B0 ≤ q) hF.1 hF.2.1 h1 h2 (by show ¬ B0 ≤ b; omega) (s_S Y hT hl) hd hgo T hT Y
/-- one number of the script: five instructions -/
theorem z_scr {i : Int32} {k jn : Nat} (hC : zC X g tys B0 nL cc own I FL) (hX : zS X B0 b Lx xs) (c0 : k_cd I pc = some (.aload_n 0, 1)) (c1 : k_cd I (pc + 1) = some (.iload_n 3, 1)) (c2 : k_cd I (pc + 2) = some (.iconst (jn : Int), 1)) (c3 : k_cd I (pc + 3) = some (.iadd, 1)) (c4 : k_cd I (pc + 4) = some (.iaload, 1)) (hv0 : k_lv L 0 = some (.ref b)) (hv3 : k_lv L 3 = some (.int i)) (hi : i.toInt = (k : Int)) (hk : k + 5 < Lx) (hj : jn ≤ 5) (kk : kz X B0 cells slots H (pc + 5) nL L (.int (xs (k + jn)) :: st)) : kz X B0 cells slots H pc nL L st := by
  have h4 := hX.2.2.2
  refine z_lda hC c0 rfl hv0 ?_
  refine z_ldi hC c1 rfl hv3 ?_
  refine z_cst hC c2 rfl ?_
  refine z_iadd hC c3 ?_
  have ej : (Int32.ofInt (jn : Int)).toInt = (jn : Int) := i_of (by omega) (by omega)
  have es : (i + Int32.ofInt (jn : Int)).toInt = ((k + jn : Nat) : Int) := i_add (by rw [hi, ej]; omega) (by omega) (by omega)
  generalize i + Int32.ofInt (jn : Int) = y at es ⊢
  refine z_sld hC hX c4 ⟨by omega, by omega⟩ ?_
  rw [es]
  exact kk
def k_allI (l : List kAlt) : Bool := l.all (fun A => match A.1 with
  | some (.inl _) => true
  | _ => false)
theorem k_altI {E : kE} {H' : Heap} {as : List Value} {v : Option Value} {l : List kAlt} (h : k_allI l = true) (hp : ∃ A ∈ l, k_alt E τ H' as v A) : ∃ x : Int32, v = some (.int x) := by
  obtain ⟨A, hA, h1, -⟩ := hp
  have := List.all_eq_true.mp h A hA
  obtain ⟨a1, a2⟩ := A
  match a1, this, h1 with
  | some (.inl q), _, h1 =>
    obtain ⟨w, rfl, x, rfl, -⟩ := h1
    exact ⟨x, rfl⟩
/-- a call by a contract of the checker, all arguments numbers -/
theorem z_km {C : String} {T : u_T} {N : Nat} {y : MethodName} {cc' : ByteArray} {nL' idx a ci t n : Nat} {ks : List kInfo} {K : kCtr} {rm : Room} {c : gGh} {As rest : List Value} (hC : zC X g tys B0 nL cc own I FL) (h : k_cd I pc = some (.invokevirtual idx, 3)) (hM : k_Met X.2.1 (gE g tys B0 (gGI g c)) τ gTB y cc' nL' 1 K rm) (hrc : rm.cells = 0) (hrs : rm.slots = 0)
    (hcode : Jvm.Cond.code y cc' nL' (k_rty 1) ∈ gTB) (hini : Jvm.Cond.initialized y.cls ∈ gTB) (hlk : Jvm.Cond.methodLink own idx y ∈ gTB) (him : Jvm.Cond.instanceMethod y ∈ gTB) (hsel : Jvm.Cond.selects C y y ∈ gTB) (hwd : y.cls ≠ "java/lang/invoke/MethodHandle" ∧ y.cls ≠ "java/lang/invoke/VarHandle" ∧ (parseMethodDescriptor y.desc).map (fun d => d.parameters.length) = some n)
    (hcl : gCl[ci]? = some (C, T, N)) (hd : gTT[t]? = some (.inl (ci, ks))) (hR : rm.frames + 1 ≤ X.2.2.2.1.frames ∧ 8 + (nL' + 11) + rm.locals ≤ X.2.2.2.1.locals) (hce : cells ≤ X.2.2.2.1.cells) (hsl : slots ≤ X.2.2.2.1.slots) (hH : k_HT (e0 g tys B0) τ H) (ha : τ a = some t)
    (hK1 : K.1 = .inr (.inr (.inl (false, [t]))) :: List.replicate n kA) (hK2 : K.2.1 = []) (hK3 : k_allI K.2.2.1 = true) (hg : ∀ i ∈ K.2.2.2.2.1, gGI g c i τ H) (hAl : As.length = n) (hA : ∀ v ∈ As, ∃ x : Int32, v = .int x) (hs : st = As.reverse ++ .ref a :: rest) (hcat : (rest.map fun v => v.category).sum ≤ 8)
    (kk : ∀ (H' : Heap) (x : Int32), k_HT (e0 g tys B0) τ H' → k_fr (e0 g tys B0) τ K.2.2.2.1 H H' → (∀ i ∈ K.2.2.2.2.2, gGI g c i τ H') → kz X B0 cells slots H' (pc + 3) nL L (.int x :: rest)) : kz X B0 cells slots H pc nL L st := by
  have hM' : Met X.2.1 y (Jvm.Cond.code y cc' nL' (k_rty 1) :: gTB) rm (k_Pc (gE g tys B0 (gGI g c)) τ K (.ref a :: As)) (k_Qc (gE g tys B0 (gGI g c)) τ K (.ref a :: As)) rm.cells rm.slots (fun q => B0 ≤ q) := by
    rw [hrc, hrs]
    exact hM (.ref a :: As)
  refine z_mV (τ := τ) (ks := ks) (b := a) (As := As) (rest := rest) (rm := rm) hC h hM' k_Pc_blind (fun U hU hk hz => ⟨rfl, hk, by rw [hU]; exact k_HT_g hH, ?_⟩) hcode hini hlk him hsel hcl (ht_cell hH ha hd) (by rw [hAl]; exact hwd) hR ⟨by rw [hrc]; exact hce, by rw [hrs]; exact hsl⟩ hs hcat (fun st0 u v hst hq => ?_)
  · refine ⟨by rw [hK1]; simp [hAl], fun i z hz => ?_, by rw [hK2]; trivial, by rw [hU]; exact hg⟩
    rw [hK1] at hz
    cases i with
    | zero => cases hz; exact ⟨_, rfl, Or.inr ⟨_, t, rfl, List.mem_singleton.mpr rfl, ha⟩⟩
    | succ i =>
      have hz : (List.replicate n kA)[i]? = some z := hz
      have hi : i < n := by
        have := (List.getElem?_eq_some_iff.mp hz).1
        simpa using this
      have ez : z = kA := by
        rw [List.getElem?_replicate, if_pos hi] at hz
        exact (Option.some.inj hz).symm
      subst ez
      obtain ⟨x, hx⟩ := hA As[i] (List.getElem_mem _)
      exact ⟨As[i], by show As[i]? = _; exact List.getElem?_eq_getElem _, x, hx, k_in_top x⟩
  · obtain ⟨v', e, p1, p2, p3, p4⟩ := hq
    cases e
    rw [hst] at p2
    obtain ⟨x, rfl⟩ := k_altI hK3 p4
    rw [hrc, hrs]
    exact kk u.heap x (k_HT_g p1) (k_fr_g p2) p3
end
/-- what holds between two steps of the law -/
def LI (g : va_G) (tys : List (ClassId × FieldType)) (B0 : Nat) (c : gGh) (ax am : Nat) (τ : kTau) (H : Heap) (d : Int) (im : Nat → Option Int) : Prop := k_HT (e0 g tys B0) τ H ∧ gUU τ ∧ gGI g c 1 τ H ∧ τ ax = some 0 ∧ τ am = some 11 ∧ CV g ax τ H d im ∧ MV g am H d im
def keepsAll (m : List (Nat × Nat)) : Bool := [(0, 1), (0, 2), (2, 5), (20, 0), (11, 23), (11, 41), (11, 42), (51, 0), (52, 0)].all (fun q => !(m.contains q))
def keepsG (m : List (Nat × Nat)) : Bool := (gGS 1).all (fun q => !(m.contains q))
theorem contains_no {m : List (Nat × Nat)} {q : Nat × Nat} (h : (!(m.contains q)) = true) : q ∉ m := fun z => by
  rw [List.contains_iff_mem.mpr z] at h
  cases h
section
variable {g : va_G} {tys : List (ClassId × FieldType)} {B0 : Nat} {c : gGh} {ax am : Nat} {τ : kTau} {H H' : Heap} {d : Int} {im : Nat → Option Int} {m : List (Nat × Nat)}
theorem LI_fr (h0 : gE1 g) (hL : LI g tys B0 c ax am τ H d im) (hm : keepsAll m = true) (hH : k_HT (e0 g tys B0) τ H') (hf : k_fr (e0 g tys B0) τ m H H') (hg : gGI g c 1 τ H') : LI g tys B0 c ax am τ H' d im := by
  obtain ⟨l1, l2, l3, l4, l5, l6, l7⟩ := hL
  have n : ∀ q ∈ [(0, 1), (0, 2), (2, 5), (20, 0), (11, 23), (11, 41), (11, 42), (51, 0), (52, 0)], q ∉ m := fun q hq => contains_no (List.all_eq_true.mp hm q hq)
  exact ⟨hH, l2, hg, l4, l5, CV_fr hf l4 ⟨n _ (List.mem_of_getElem? (i := 0) rfl), n _ (List.mem_of_getElem? (i := 1) rfl), n _ (List.mem_of_getElem? (i := 2) rfl), n _ (List.mem_of_getElem? (i := 3) rfl)⟩ l6, MV_fr h0 l1 hf l5 ⟨n _ (List.mem_of_getElem? (i := 4) rfl), n _ (List.mem_of_getElem? (i := 5) rfl), n _ (List.mem_of_getElem? (i := 6) rfl), n _ (List.mem_of_getElem? (i := 7) rfl), n _ (List.mem_of_getElem? (i := 8) rfl)⟩ l7⟩
theorem LI_g (h0 : gE1 g) (hL : LI g tys B0 c ax am τ H d im) (hm : keepsG m = true) (hf : k_fr (e0 g tys B0) τ m H H') : gGI g c 1 τ H' := gGI_fr h0 (fun q hq => contains_no (List.all_eq_true.mp hm q hq)) hf hL.1 hL.2.2.1
theorem LI_two (hL : LI g tys B0 c ax am τ H d im) : gGI g c 2 τ H := gGI_map (by decide) (by decide) (fun I A h => by first | exact trivial | exact h) hL.2.2.1
end
