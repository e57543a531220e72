/-! ===== the law: seed, back, image, rule (printed by wip/p30/law2.py) ===== -/
section
variable {X : kX} {g : va_G} {tys : List (ClassId × FieldType)} {B0 nL : Nat} {cc : ByteArray} {own : String} {I : List (Nat × Instr × Nat)} {FL : List (Nat × Nat × Nat × Nat)} {cells slots : Nat} {H : Heap} {pc : Nat} {L : List (Nat × Value)} {st : List Value} {τ : kTau}
/-- a call by an exact contract -/
theorem z_sm {C : String} {T : u_T} {N : Nat} {y : MethodName} {cc' : ByteArray} {nL' idx a ci t : Nat} {ks : List kInfo} {K : kCtr} {rm : Room} {P : Heap → Prop} {rest : List Value} {n : Int32} (hC : zC X g tys B0 nL cc own I FL) (h : k_cd I pc = some (.invokevirtual idx, 3)) (hM : s_Met X.2.1 (gE g tys B0 (hGI H P)) τ gTB y cc' nL' 1 K rm (fun ps => ps = [.ref a, .int n])) (hrc : rm.cells = 0) (hrs : rm.slots = 0)
    (hcode : Jvm.Cond.code y cc' nL' (k_rty 1) ∈ gTB) (hini : Jvm.Cond.initialized y.cls ∈ gTB) (hlk : Jvm.Cond.methodLink own idx y ∈ gTB) (him : Jvm.Cond.instanceMethod y ∈ gTB) (hsel : Jvm.Cond.selects C y y ∈ gTB) (hwd : y.cls ≠ "java/lang/invoke/MethodHandle" ∧ y.cls ≠ "java/lang/invoke/VarHandle" ∧ (parseMethodDescriptor y.desc).map (fun d => d.parameters.length) = some 1)
    (hcl : gCl[ci]? = some (C, T, N)) (hd : gTT[t]? = some (.inl (ci, ks))) (hR : rm.frames + 1 ≤ X.2.2.2.1.frames ∧ 8 + (nL' + 11) + rm.locals ≤ X.2.2.2.1.locals) (hce : cells ≤ X.2.2.2.1.cells) (hsl : slots ≤ X.2.2.2.1.slots) (hH : k_HT (e0 g tys B0) τ H) (ha : τ a = some t)
    (hK1 : K.1 = [.inr (.inr (.inl (false, [t]))), kA]) (hK2 : K.2.1 = []) (hKp : K.2.2.2.2.1 = [0]) (hKq : K.2.2.2.2.2 = [1]) (hs : st = .int n :: .ref a :: rest) (hcat : (rest.map fun v => v.category).sum ≤ 8)
    (kk : ∀ (H' : Heap) (v : Option Value), k_HT (e0 g tys B0) τ H' → k_fr (e0 g tys B0) τ K.2.2.2.1 H H' → P H' → (∃ A ∈ K.2.2.1, k_alt (gE g tys B0 (hGI H P)) τ H' [.ref a, .int n] v A) → kz X B0 cells slots H' (pc + 3) nL L (v.toList ++ rest)) : kz X B0 cells slots H pc nL L st := by
  have hM' : Met X.2.1 y (Jvm.Cond.code y cc' nL' (k_rty 1) :: gTB) rm (k_Pc (gE g tys B0 (hGI H P)) τ K [.ref a, .int n]) (k_Qc (gE g tys B0 (hGI H P)) τ K [.ref a, .int n]) rm.cells rm.slots (fun q => B0 ≤ q) := by
    rw [hrc, hrs]
    exact hM [.ref a, .int n] rfl
  refine z_mV (τ := τ) (ks := ks) (b := a) (As := [.int n]) (rest := rest) (rm := rm) hC h hM' k_Pc_blind (fun U hU hk hz => ⟨rfl, hk, by rw [hU]; exact k_HT_g hH, ?_⟩) hcode hini hlk him hsel hcl (ht_cell hH ha hd) hwd hR ⟨by rw [hrc]; exact hce, by rw [hrs]; exact hsl⟩ hs hcat (fun st0 u v hst hq => ?_)
  · refine ⟨by rw [hK1]; rfl, fun i z hz => ?_, by rw [hK2]; trivial, by rw [hKp, hU]; exact List.forall_mem_cons.mpr ⟨⟨fun _ => rfl, fun z => (by cases z)⟩, List.forall_mem_nil _⟩⟩
    rw [hK1] at hz
    match i, hz with
    | 0, hz => cases hz; exact ⟨_, rfl, Or.inr ⟨_, t, rfl, List.mem_singleton.mpr rfl, ha⟩⟩
    | 1, hz => cases hz; exact ⟨_, rfl, n, rfl, k_in_top n⟩
    | j + 2, hz => cases hz
  · obtain ⟨v', e, p1, p2, p3, p4⟩ := hq
    cases e
    rw [hst] at p2
    rw [hKq] at p3
    rw [hrc, hrs]
    exact kk u.heap v (k_HT_g p1) (k_fr_g p2) ((p3 1 List.mem_cons_self).2 rfl) p4
end
section
variable {g : va_G} {tys : List (ClassId × FieldType)} {B0 : Nat} {c : gGh} {ax am : Nat} {τ τ' : kTau} {H H' : Heap} {d : Int} {im : Nat → Option Int} {m : List (Nat × Nat)} {NT : List Nat}
theorem CV_up (h : zle τ τ') (hc : CV g ax τ H d im) : CV g ax τ' H d im := by
  obtain ⟨w, b, x, c1, c2, c3, c4, c5, c6, c7, c8⟩ := hc
  refine ⟨w, b, x, c1, h _ _ c2, c3, c4, c5, h _ _ c6, fun k hk => ?_, c8⟩
  rcases c7 k hk with e | ⟨u, y, t1, t2, t3, t4, t5⟩
  · exact Or.inl e
  · exact Or.inr ⟨u, y, t1, t2, h _ _ t3, t4, t5⟩
theorem gGI_up (hle : zle τ τ') (hn : ∀ q u : Nat, τ' q = some u → τ q = some u ∨ u ∈ NT) (h11 : 11 ∉ NT) (h : gGI g c 1 τ H) : gGI g c 1 τ' H := by
  obtain ⟨h1, h2, h3⟩ := h
  have old : ∀ q, τ' q = some 11 → τ q = some 11 := fun q hq => by
    rcases hn _ _ hq with e | e
    · exact e
    · exact absurd e h11
  refine ⟨fun z => (by cases z), Or.inr ?_, fun a ha => ?_⟩
  · rcases h2 with e | ⟨a, e⟩
    · cases e
    · exact ⟨a, hle _ _ e⟩
  · obtain ⟨q1, q2⟩ := h3 a (old a ha)
    exact ⟨fun a' h' => q1 a' (old a' h'), q2⟩
def keepsM (m : List (Nat × Nat)) : Bool := [(11, 23), (11, 41), (11, 42), (51, 0), (52, 0)].all (fun q => !(m.contains q))
theorem LI_mok (h0 : gE1 g) (hL : LI g tys B0 c ax am τ H d im) (hm : m_ok g tys B0 τ τ' NT m H H') (h1 : 1 ∉ NT) (h11 : 11 ∉ NT) (hkM : keepsM m = true) (hkG : keepsG m = true) {im' : Nat → Option Int} (hcv : CV g ax τ' H' d im') : k_HT (e0 g tys B0) τ' H' ∧ gUU τ' ∧ gGI g c 1 τ' H' ∧ τ' ax = some 0 ∧ τ' am = some 11 ∧ CV g ax τ' H' d im' ∧ MV g am H' d im := by
  have hg := LI_g h0 hL hkG hm.2.2.2.1
  have n : ∀ q ∈ [(11, 23), (11, 41), (11, 42), (51, 0), (52, 0)], q ∉ m := fun q hq => contains_no (List.all_eq_true.mp hkM q hq)
  exact ⟨hm.2.2.1, gUU_up hm.1 hm.2.1 h1 h11 hL.2.1, gGI_up hm.1 hm.2.1 h11 hg, hm.1 _ _ hL.2.2.2.1, hm.1 _ _ hL.2.2.2.2.1, hcv, MV_fr h0 hL.1 hm.2.2.2.1 hL.2.2.2.2.1 ⟨n _ (List.mem_of_getElem? (i := 0) rfl), n _ (List.mem_of_getElem? (i := 1) rfl), n _ (List.mem_of_getElem? (i := 2) rfl), n _ (List.mem_of_getElem? (i := 3) rfl), n _ (List.mem_of_getElem? (i := 4) rfl)⟩ hL.2.2.2.2.2.2⟩
end
def I_L28 : List (Nat × Instr × Nat) := [(934, .aload_n 1, 1), (935, .aload_n 0, 1), (936, .iload_n 3, 1), (937, .iconst 1, 1), (938, .iadd, 1), (939, .iaload, 1), (940, .invokevirtual 131, 3), (943, .aload_n 2, 1), (944, .aload_n 0, 1), (945, .iload_n 3, 1), (946, .iconst 1, 1), (947, .iadd, 1), (948, .iaload, 1), (949, .invokevirtual 134, 3), (952, .if_icmp .eq 127, 3), (955, .iconst 0, 1), (956, .ireturn, 1)]
theorem dec_L28 : ∀ q ∈ I_L28, decode code q.1 = .ok q.2 := by decide +kernel
theorem wL_X11_seed : Jvm.Cond.code yX11_seed cX11_seed 3 (some .int) ∈ gTB ∧ Jvm.Cond.initialized yX11_seed.cls ∈ gTB ∧ Jvm.Cond.methodLink RL 131 yX11_seed ∈ gTB ∧ Jvm.Cond.instanceMethod yX11_seed ∈ gTB ∧ Jvm.Cond.selects RX11 yX11_seed yX11_seed ∈ gTB := ⟨gIn (i := 1209) (by decide +kernel) (by decide +kernel), gIn (i := 126) (by decide +kernel) (by decide +kernel), gIn (i := 1206) (by decide +kernel) (by decide +kernel), gIn (i := 1207) (by decide +kernel) (by decide +kernel), gIn (i := 1208) (by decide +kernel) (by decide +kernel)⟩
theorem wLd_X11_seed : yX11_seed.cls ≠ "java/lang/invoke/MethodHandle" ∧ yX11_seed.cls ≠ "java/lang/invoke/VarHandle" ∧ (parseMethodDescriptor yX11_seed.desc).map (fun d => d.parameters.length) = some 1 := by decide +kernel
theorem wL_X12_seed : Jvm.Cond.code yX12_seed cX12_seed 3 (some .int) ∈ gTB ∧ Jvm.Cond.initialized yX12_seed.cls ∈ gTB ∧ Jvm.Cond.methodLink RL 134 yX12_seed ∈ gTB ∧ Jvm.Cond.instanceMethod yX12_seed ∈ gTB ∧ Jvm.Cond.selects RX12 yX12_seed yX12_seed ∈ gTB := ⟨gIn (i := 1857) (by decide +kernel) (by decide +kernel), gIn (i := 137) (by decide +kernel) (by decide +kernel), gIn (i := 1854) (by decide +kernel) (by decide +kernel), gIn (i := 1855) (by decide +kernel) (by decide +kernel), gIn (i := 1856) (by decide +kernel) (by decide +kernel)⟩
theorem wLd_X12_seed : yX12_seed.cls ≠ "java/lang/invoke/MethodHandle" ∧ yX12_seed.cls ≠ "java/lang/invoke/VarHandle" ∧ (parseMethodDescriptor yX12_seed.desc).map (fun d => d.parameters.length) = some 1 := by decide +kernel
theorem lc_seed {X : kX} {g : va_G} {tys : List (ClassId × FieldType)} {B0 : Nat} {I0 : List (Nat × Instr × Nat)} {cells slots : Nat} {H : Heap} {τ : kTau} {b Lx : Nat} {xs : Nat → Int32} {c : gGh} {ax am k : Nat} {i : Int32} {d : Int} {im : Nat → Option Int} (hC0 : zC X g tys B0 4 code RL I0 []) (hX : zS X B0 b Lx xs) (h0 : gE1 g) (htys : tys.map Prod.snd = gTyL) (hr : X.2.2.2.1 = room_1) (hL : LI g tys B0 c ax am τ H d im) (hi : i.toInt = (k : Int)) (hk : k + 5 < Lx) (hce : cells + 0 ≤ 600000) (hsl : slots + 0 ≤ 7302250) (kk : ∀ (H' : Heap) (τ' : kTau) (d' : Int) (im' : Nat → Option Int), LI g tys B0 c ax am τ' H' d' im' → kz X B0 cells slots H' 1079 4 [(0, .ref b), (1, .ref ax), (2, .ref am), (3, .int i)] []) : kz X B0 cells slots H 934 4 [(0, .ref b), (1, .ref ax), (2, .ref am), (3, .int i)] [] := by
  have hC := zC_I hC0 dec_L28
  have hT := gTyL_tys (g := g) (B0 := B0) htys
  have hL0 := hL
  obtain ⟨l1, l2, l3, l4, l5, ⟨w, q, x, c1, c2, c3, c4, c5, c6, c7, c8⟩, l7⟩ := hL
  refine z_lda hC rfl rfl rfl ?_
  refine z_scr (jn := 1) hC hX rfl rfl rfl rfl rfl rfl rfl hi hk (by decide) ?_
  refine z_sm (τ := τ) (n := xs (k + 1)) (t := 0) (ci := 11) (ks := gSF) (a := ax) (rest := []) hC rfl (C_seedC (l := X.2.1) h0 hT H ax w l4 c2 c1 x c3 (xs (k + 1))) rfl rfl wL_X11_seed.1 wL_X11_seed.2.1 wL_X11_seed.2.2.1 wL_X11_seed.2.2.2.1 wL_X11_seed.2.2.2.2 wLd_X11_seed rfl gS_at ⟨by rw [hr]; decide, by rw [hr]; decide⟩ (by rw [hr]; exact hce) (by rw [hr]; exact hsl) hL0.1 hL0.2.2.2.1 rfl rfl rfl rfl rfl (Nat.le_of_ble_eq_true rfl) (fun H1 v1 g1 f1 p1 a1 => ?_)
  obtain ⟨A, hA, ha1, -⟩ := a1
  cases List.mem_singleton.mp hA
  obtain ⟨w1, rfl, y1, rfl, b1, b2⟩ := ha1
  have b1 : (if (xs (k + 1)).toInt < 0 then (-1 : Int) else x.toInt) ≤ y1.toInt := b1
  have b2 : y1.toInt ≤ (if (xs (k + 1)).toInt < 0 then (-1 : Int) else x.toInt) := b2
  have ey : y1.toInt = if (xs (k + 1)).toInt < 0 then (-1 : Int) else d := by rw [← c4]; exact Int.le_antisymm b2 b1
  obtain ⟨d1, d2⟩ := p1
  have f1 : k_fr (e0 g tys B0) τ [(2, 5)] H H1 := f1
  have nt : ∀ z t : Nat, τ z = some t → t ≠ 2 → z ≠ w := fun z t hz ht e => by
    rw [e, c2] at hz
    cases hz
    exact ht rfl
  have cv1 : CV g ax τ H1 (if (xs (k + 1)).toInt < 0 then d else (xs (k + 1)).toInt) im := by
    refine ⟨w, q, (if (xs (k + 1)).toInt < 0 then x else xs (k + 1)), ?_, c2, d1, ?_, ?_, c6, fun j hj => ?_, fun j j' p hj hj' e1 e2 => ?_⟩
    · unfold fS; rw [d2 ax (nt ax 0 l4 (by decide))]; exact c1
    · by_cases hneg : (xs (k + 1)).toInt < 0
      · rw [if_pos hneg, if_pos hneg]; exact c4
      · rw [if_neg hneg, if_neg hneg]
    · unfold fS; rw [d2 ax (nt ax 0 l4 (by decide))]; exact c5
    · have eq : iS H1 q j = iS H q j := by unfold iS; rw [d2 q (nt q 20 c6 (by decide))]
      rcases c7 j hj with ⟨e1, e2⟩ | ⟨u, y, e1, e2, e3, e4, e5⟩
      · exact Or.inl ⟨e1, by rw [eq]; exact e2⟩
      · exact Or.inr ⟨u, y, e1, by rw [eq]; exact e2, e3, e4, by unfold dS; rw [d2 u e4]; exact e5⟩
    · have eq : ∀ z, iS H1 q z = iS H q z := fun z => by unfold iS; rw [d2 q (nt q 20 c6 (by decide))]
      rw [eq] at e1 e2
      exact c8 j j' p hj hj' e1 e2
  have gi1 : gGI g c 1 τ H1 := LI_g h0 hL0 (m := [(2, 5)]) (by decide +kernel) f1
  have mv1 : MV g am H1 d im := MV_fr h0 l1 f1 l5 (by decide) l7
  refine z_lda hC rfl rfl rfl ?_
  refine z_scr (jn := 1) hC hX rfl rfl rfl rfl rfl rfl rfl hi hk (by decide) ?_
  have L1 : k_HT (e0 g tys B0) τ H1 ∧ gUU τ ∧ gGI g c 1 τ H1 ∧ τ ax = some 0 ∧ τ am = some 11 ∧ True := ⟨g1, l2, gi1, l4, l5, trivial⟩
  refine z_sm (τ := τ) (n := xs (k + 1)) (t := 11) (ci := 12) (ks := gMF) (a := am) (rest := [.int y1]) hC rfl (C_seedM (l := X.2.1) h0 hT H1 am l5 (xs (k + 1))) rfl rfl wL_X12_seed.1 wL_X12_seed.2.1 wL_X12_seed.2.2.1 wL_X12_seed.2.2.2.1 wL_X12_seed.2.2.2.2 wLd_X12_seed rfl gM_at ⟨by rw [hr]; decide, by rw [hr]; decide⟩ (by rw [hr]; exact hce) (by rw [hr]; exact hsl) L1.1 l5 rfl rfl rfl rfl rfl (Nat.le_of_ble_eq_true rfl) (fun H2 v2 g2 f2 p2 a2 => ?_)
  obtain ⟨A, hA, ha2, -⟩ := a2
  cases List.mem_singleton.mp hA
  obtain ⟨w2, rfl, y2, rfl, b3, b4⟩ := ha2
  have b3 : (if (xs (k + 1)).toInt < 0 then (-1 : Int) else vI g H1 am 23) ≤ y2.toInt := b3
  have b4 : y2.toInt ≤ (if (xs (k + 1)).toInt < 0 then (-1 : Int) else vI g H1 am 23) := b4
  have ey2 : y2.toInt = if (xs (k + 1)).toInt < 0 then (-1 : Int) else d := by rw [← mv1.1]; exact Int.le_antisymm b4 b3
  have eyy : y1.toInt = y2.toInt := by rw [ey, ey2]
  have f2 : k_fr (e0 g tys B0) τ [(11, 23)] H1 H2 := f2
  have cv2 := CV_fr f2 l4 (by decide) cv1
  have gi2 : gGI g c 1 τ H2 := gGI_fr h0 (fun q hq => contains_no (List.all_eq_true.mp (show keepsG [(11, 23)] = true by decide +kernel) q hq)) f2 g1 gi1
  have k2 : vA g H2 am 41 = vA g H1 am 41 := vA_kept1 h0 g1 f2 l5 (k := 41) (t := 51) (by decide) rfl ⟨_, rfl⟩ (by decide) (by decide)
  have k3 : vA g H2 am 42 = vA g H1 am 42 := vA_kept1 h0 g1 f2 l5 (k := 42) (t := 52) (by decide) rfl ⟨_, rfl⟩ (by decide) (by decide)
  have mv2 : MV g am H2 (if (xs (k + 1)).toInt < 0 then d else (xs (k + 1)).toInt) im := by
    refine ⟨by rw [p2, mv1.1], ?_⟩
    rw [k2, k3]
    exact mv1.2
  refine z_icmp (t := 1079) hC rfl (by decide) (fun _ => ?_) (fun z => absurd eyy z)
  exact kk H2 τ _ im ⟨g2, l2, gi2, l4, l5, cv2, mv2⟩
def I_L32 : List (Nat × Instr × Nat) := [(1056, .aload_n 1, 1), (1057, .aload_n 0, 1), (1058, .iload_n 3, 1), (1059, .iconst 1, 1), (1060, .iadd, 1), (1061, .iaload, 1), (1062, .invokevirtual 147, 3), (1065, .pop, 1), (1066, .aload_n 2, 1), (1067, .aload_n 0, 1), (1068, .iload_n 3, 1), (1069, .iconst 1, 1), (1070, .iadd, 1), (1071, .iaload, 1), (1072, .invokevirtual 150, 3), (1075, .pop, 1), (1076, .goto 3, 3)]
theorem dec_L32 : ∀ q ∈ I_L32, decode code q.1 = .ok q.2 := by decide +kernel
theorem wL_X11_back : Jvm.Cond.code yX11_back cX11_back 2 (some .int) ∈ gTB ∧ Jvm.Cond.initialized yX11_back.cls ∈ gTB ∧ Jvm.Cond.methodLink RL 147 yX11_back ∈ gTB ∧ Jvm.Cond.instanceMethod yX11_back ∈ gTB ∧ Jvm.Cond.selects RX11 yX11_back yX11_back ∈ gTB := ⟨gIn (i := 1255) (by decide +kernel) (by decide +kernel), gIn (i := 126) (by decide +kernel) (by decide +kernel), gIn (i := 1252) (by decide +kernel) (by decide +kernel), gIn (i := 1253) (by decide +kernel) (by decide +kernel), gIn (i := 1254) (by decide +kernel) (by decide +kernel)⟩
theorem wLd_X11_back : yX11_back.cls ≠ "java/lang/invoke/MethodHandle" ∧ yX11_back.cls ≠ "java/lang/invoke/VarHandle" ∧ (parseMethodDescriptor yX11_back.desc).map (fun d => d.parameters.length) = some 1 := by decide +kernel
theorem wL_X12_back : Jvm.Cond.code yX12_back cX12_back 3 (some .int) ∈ gTB ∧ Jvm.Cond.initialized yX12_back.cls ∈ gTB ∧ Jvm.Cond.methodLink RL 150 yX12_back ∈ gTB ∧ Jvm.Cond.instanceMethod yX12_back ∈ gTB ∧ Jvm.Cond.selects RX12 yX12_back yX12_back ∈ gTB := ⟨gIn (i := 1887) (by decide +kernel) (by decide +kernel), gIn (i := 137) (by decide +kernel) (by decide +kernel), gIn (i := 1884) (by decide +kernel) (by decide +kernel), gIn (i := 1885) (by decide +kernel) (by decide +kernel), gIn (i := 1886) (by decide +kernel) (by decide +kernel)⟩
theorem wLd_X12_back : yX12_back.cls ≠ "java/lang/invoke/MethodHandle" ∧ yX12_back.cls ≠ "java/lang/invoke/VarHandle" ∧ (parseMethodDescriptor yX12_back.desc).map (fun d => d.parameters.length) = some 1 := by decide +kernel
theorem lc_back {X : kX} {g : va_G} {tys : List (ClassId × FieldType)} {B0 : Nat} {I0 : List (Nat × Instr × Nat)} {cells slots : Nat} {H : Heap} {τ : kTau} {b Lx : Nat} {xs : Nat → Int32} {c : gGh} {ax am k : Nat} {i : Int32} {d : Int} {im : Nat → Option Int} (hC0 : zC X g tys B0 4 code RL I0 []) (hX : zS X B0 b Lx xs) (h0 : gE1 g) (htys : tys.map Prod.snd = gTyL) (hr : X.2.2.2.1 = room_1) (hL : LI g tys B0 c ax am τ H d im) (hi : i.toInt = (k : Int)) (hk : k + 5 < Lx) (hce : cells + 0 ≤ 600000) (hsl : slots + 0 ≤ 7302250) (kk : ∀ (H' : Heap) (τ' : kTau) (d' : Int) (im' : Nat → Option Int), LI g tys B0 c ax am τ' H' d' im' → kz X B0 cells slots H' 1079 4 [(0, .ref b), (1, .ref ax), (2, .ref am), (3, .int i)] []) : kz X B0 cells slots H 1056 4 [(0, .ref b), (1, .ref ax), (2, .ref am), (3, .int i)] [] := by
  have hC := zC_I hC0 dec_L32
  have hT := gTyL_tys (g := g) (B0 := B0) htys
  have hL0 := hL
  obtain ⟨l1, l2, l3, l4, l5, l6, l7⟩ := hL
  refine z_lda hC rfl rfl rfl ?_
  refine z_scr (jn := 1) hC hX rfl rfl rfl rfl rfl rfl rfl hi hk (by decide) ?_
  refine z_sm (τ := τ) (n := xs (k + 1)) (t := 0) (ci := 11) (ks := gSF) (a := ax) (rest := []) hC rfl (C_bkC (l := X.2.1) h0 l2 hT H ax l4 d im l6 (xs (k + 1))) rfl rfl wL_X11_back.1 wL_X11_back.2.1 wL_X11_back.2.2.1 wL_X11_back.2.2.2.1 wL_X11_back.2.2.2.2 wLd_X11_back rfl gS_at ⟨by rw [hr]; decide, by rw [hr]; decide⟩ (by rw [hr]; exact hce) (by rw [hr]; exact hsl) hL0.1 hL0.2.2.2.1 rfl rfl rfl rfl rfl (Nat.le_of_ble_eq_true rfl) (fun H1 v1 g1 f1 p1 a1 => ?_)
  obtain ⟨y1, rfl⟩ := k_altI (by decide +kernel) a1
  have gi1 : gGI g c 1 τ H1 := LI_g h0 hL0 (m := K_bkC.2.2.2.1) (by decide +kernel) f1
  have mv1 : MV g am H1 d im := MV_fr h0 l1 f1 l5 (by decide) l7
  refine z_pop hC rfl rfl ?_
  refine z_lda hC rfl rfl rfl ?_
  refine z_scr (jn := 1) hC hX rfl rfl rfl rfl rfl rfl rfl hi hk (by decide) ?_
  have L1 : k_HT (e0 g tys B0) τ H1 ∧ gUU τ ∧ gGI g c 1 τ H1 ∧ τ ax = some 0 ∧ τ am = some 11 ∧ True := ⟨g1, l2, gi1, l4, l5, trivial⟩
  refine z_sm (τ := τ) (n := xs (k + 1)) (t := 11) (ci := 12) (ks := gMF) (a := am) (rest := []) hC rfl (C_bkM (l := X.2.1) h0 hT H1 am l5 (xs (k + 1))) rfl rfl wL_X12_back.1 wL_X12_back.2.1 wL_X12_back.2.2.1 wL_X12_back.2.2.2.1 wL_X12_back.2.2.2.2 wLd_X12_back rfl gM_at ⟨by rw [hr]; decide, by rw [hr]; decide⟩ (by rw [hr]; exact hce) (by rw [hr]; exact hsl) L1.1 L1.2.2.2.2.1 rfl rfl rfl rfl rfl (Nat.le_of_ble_eq_true rfl) (fun H2 v2 g2 f2 p2 a2 => ?_)
  obtain ⟨y2, rfl⟩ := k_altI (by decide +kernel) a2
  have cv2 := CV_fr f2 l4 (by decide) p1
  have gi2 : gGI g c 1 τ H2 := gGI_fr h0 (fun q hq => contains_no (List.all_eq_true.mp (show keepsG K_bkM.2.2.2.1 = true by decide +kernel) q hq)) f2 g1 gi1
  have k2 : vA g H2 am 41 = vA g H1 am 41 := vA_kept1 h0 g1 f2 l5 (k := 41) (t := 51) (by decide) rfl ⟨_, rfl⟩ (by decide) (by decide)
  have k3 : vA g H2 am 42 = vA g H1 am 42 := vA_kept1 h0 g1 f2 l5 (k := 42) (t := 52) (by decide) rfl ⟨_, rfl⟩ (by decide) (by decide)
  have mv2 : MV g am H2 (bkD d im (xs (k + 1))) im := by
    refine ⟨?_, ?_⟩
    · rw [p2]
      unfold bkD
      by_cases hn : inI (xs (k + 1))
      · rw [if_pos hn]
        have hlt : (xs (k + 1)).toInt.toNat < 4 := by have h1 := hn.1; have h2 := hn.2; omega
        obtain ⟨z1, z2⟩ := mv1.2 _ hlt
        cases e : im (xs (k + 1)).toInt.toNat with
        | none =>
          rw [if_neg (fun h => h.2 (z1 e))]
          exact mv1.1
        | some y =>
          obtain ⟨z3, z4⟩ := z2 y e
          rw [if_pos ⟨hn, z3⟩]
          exact z4
      · rw [if_neg hn, if_neg (fun h => hn h.1)]
        exact mv1.1
    · rw [k2, k3]
      exact mv1.2
  refine z_pop hC rfl rfl ?_
  refine z_goto (t := 1079) hC rfl (by decide) ?_
  exact kk H2 τ _ im ⟨g2, l2, gi2, l4, l5, cv2, mv2⟩
def I_L31 : List (Nat × Instr × Nat) := [(1033, .aload_n 1, 1), (1034, .aload_n 0, 1), (1035, .iload_n 3, 1), (1036, .iconst 1, 1), (1037, .iadd, 1), (1038, .iaload, 1), (1039, .invokevirtual 143, 3), (1042, .pop, 1), (1043, .aload_n 2, 1), (1044, .aload_n 0, 1), (1045, .iload_n 3, 1), (1046, .iconst 1, 1), (1047, .iadd, 1), (1048, .iaload, 1), (1049, .invokevirtual 146, 3), (1052, .pop, 1), (1053, .goto 26, 3)]
theorem dec_L31 : ∀ q ∈ I_L31, decode code q.1 = .ok q.2 := by decide +kernel
theorem wL_X11_image : Jvm.Cond.code yX11_image cX11_image 2 (some .int) ∈ gTB ∧ Jvm.Cond.initialized yX11_image.cls ∈ gTB ∧ Jvm.Cond.methodLink RL 143 yX11_image ∈ gTB ∧ Jvm.Cond.instanceMethod yX11_image ∈ gTB ∧ Jvm.Cond.selects RX11 yX11_image yX11_image ∈ gTB := ⟨gIn (i := 1244) (by decide +kernel) (by decide +kernel), gIn (i := 126) (by decide +kernel) (by decide +kernel), gIn (i := 1241) (by decide +kernel) (by decide +kernel), gIn (i := 1242) (by decide +kernel) (by decide +kernel), gIn (i := 1243) (by decide +kernel) (by decide +kernel)⟩
theorem wLd_X11_image : yX11_image.cls ≠ "java/lang/invoke/MethodHandle" ∧ yX11_image.cls ≠ "java/lang/invoke/VarHandle" ∧ (parseMethodDescriptor yX11_image.desc).map (fun d => d.parameters.length) = some 1 := by decide +kernel
theorem wL_X12_image : Jvm.Cond.code yX12_image cX12_image 3 (some .int) ∈ gTB ∧ Jvm.Cond.initialized yX12_image.cls ∈ gTB ∧ Jvm.Cond.methodLink RL 146 yX12_image ∈ gTB ∧ Jvm.Cond.instanceMethod yX12_image ∈ gTB ∧ Jvm.Cond.selects RX12 yX12_image yX12_image ∈ gTB := ⟨gIn (i := 1882) (by decide +kernel) (by decide +kernel), gIn (i := 137) (by decide +kernel) (by decide +kernel), gIn (i := 1879) (by decide +kernel) (by decide +kernel), gIn (i := 1880) (by decide +kernel) (by decide +kernel), gIn (i := 1881) (by decide +kernel) (by decide +kernel)⟩
theorem wLd_X12_image : yX12_image.cls ≠ "java/lang/invoke/MethodHandle" ∧ yX12_image.cls ≠ "java/lang/invoke/VarHandle" ∧ (parseMethodDescriptor yX12_image.desc).map (fun d => d.parameters.length) = some 1 := by decide +kernel
theorem lc_image {X : kX} {g : va_G} {tys : List (ClassId × FieldType)} {B0 : Nat} {I0 : List (Nat × Instr × Nat)} {cells slots : Nat} {H : Heap} {τ : kTau} {b Lx : Nat} {xs : Nat → Int32} {c : gGh} {ax am k : Nat} {i : Int32} {d : Int} {im : Nat → Option Int} (hC0 : zC X g tys B0 4 code RL I0 []) (hX : zS X B0 b Lx xs) (h0 : gE1 g) (htys : tys.map Prod.snd = gTyL) (hr : X.2.2.2.1 = room_1) (hL : LI g tys B0 c ax am τ H d im) (hi : i.toInt = (k : Int)) (hk : k + 5 < Lx) (hce : cells + 14 ≤ 600000) (hsl : slots + 142 ≤ 7302250) (kk : ∀ (H' : Heap) (τ' : kTau) (d' : Int) (im' : Nat → Option Int), LI g tys B0 c ax am τ' H' d' im' → kz X B0 (cells + 14) (slots + 142) H' 1079 4 [(0, .ref b), (1, .ref ax), (2, .ref am), (3, .int i)] []) : kz X B0 cells slots H 1033 4 [(0, .ref b), (1, .ref ax), (2, .ref am), (3, .int i)] [] := by
  have hC := zC_I hC0 dec_L31
  have hT := gTyL_tys (g := g) (B0 := B0) htys
  have hL0 := hL
  obtain ⟨l1, l2, l3, l4, l5, l6, l7⟩ := hL
  refine z_lda hC rfl rfl rfl ?_
  refine z_scr (jn := 1) hC hX rfl rfl rfl rfl rfl rfl rfl hi hk (by decide) ?_
  refine z_mV (τ := τ) (C := RX11) (T := TX11) (N := 14) (ci := 11) (ks := gSF) (b := ax) (As := [.int (xs (k + 1))]) (rest := []) (rm := ⟨3, 14, 142, 90⟩) hC rfl (C_imC (l := X.2.1) h0 l2 htys H ax l4 d im l6 (xs (k + 1))) m_Pc_blind (fun U hU hk hz => ⟨rfl, ⟨hk, hz⟩, by rw [hU]; exact Nat.le_trans (l1 _ _ l4).1 (Nat.le_of_lt (k_HT_lt l1 l4)), by rw [hU]; exact l1, hU⟩) wL_X11_image.1 wL_X11_image.2.1 wL_X11_image.2.2.1 wL_X11_image.2.2.2.1 wL_X11_image.2.2.2.2 rfl (ht_cell l1 l4 gS_at) wLd_X11_image ⟨by rw [hr]; decide, by rw [hr]; decide⟩ ⟨by rw [hr]; exact hce, by rw [hr]; exact hsl⟩ rfl (by decide) (fun st0 u v hst hq => ?_)
  obtain ⟨v', e, ⟨y1, rfl⟩, τ', hm, hcv⟩ := hq
  cases e
  generalize hu1 : u.heap = H1 at hm hcv ⊢
  have L1 := LI_mok h0 hL0 hm (by decide) (by decide) (by decide +kernel) (by decide +kernel) hcv
  obtain ⟨n1, n2, n3, n4, n5, n6, n7⟩ := L1
  refine z_pop hC rfl rfl ?_
  refine z_lda hC rfl rfl rfl ?_
  refine z_scr (jn := 1) hC hX rfl rfl rfl rfl rfl rfl rfl hi hk (by decide) ?_
  have L1 : k_HT (e0 g tys B0) τ' H1 ∧ gUU τ' ∧ gGI g c 1 τ' H1 ∧ τ' ax = some 0 ∧ τ' am = some 11 ∧ True := ⟨n1, n2, n3, n4, n5, trivial⟩
  refine z_sm (τ := τ') (n := xs (k + 1)) (t := 11) (ci := 12) (ks := gMF) (a := am) (rest := []) hC rfl (C_imM (l := X.2.1) h0 hT H1 am n5 (xs (k + 1))) rfl rfl wL_X12_image.1 wL_X12_image.2.1 wL_X12_image.2.2.1 wL_X12_image.2.2.2.1 wL_X12_image.2.2.2.2 wLd_X12_image rfl gM_at ⟨by rw [hr]; decide, by rw [hr]; decide⟩ (by rw [hr]; exact hce) (by rw [hr]; exact hsl) L1.1 L1.2.2.2.2.1 rfl rfl rfl rfl rfl (Nat.le_of_ble_eq_true rfl) (fun H2 v2 g2 f2 p2 a2 => ?_)
  obtain ⟨y2, rfl⟩ := k_altI (by decide +kernel) a2
  have cv2 := CV_fr f2 n4 (by decide) n6
  have gi2 : gGI g c 1 τ' H2 := gGI_fr h0 (fun q hq => contains_no (List.all_eq_true.mp (show keepsG K_imM.2.2.2.1 = true by decide +kernel) q hq)) f2 n1 n3
  have k1 : vI g H2 am 23 = vI g H1 am 23 := vI_kept f2 n5 (by decide) (by decide)
  have mv2 : MV g am H2 d (imU d im (xs (k + 1))) := by
    refine ⟨by rw [k1]; exact n7.1, fun j hj => ?_⟩
    rw [p2.1 j, p2.2 j]
    unfold imU
    by_cases hc : inI (xs (k + 1)) ∧ j = (xs (k + 1)).toInt.toNat
    · rw [if_pos hc, if_pos hc, if_pos hc]
      exact ⟨fun z => (by cases z), fun y hy => ⟨by decide, (by cases hy; exact n7.1)⟩⟩
    · rw [if_neg hc, if_neg hc, if_neg hc]
      exact n7.2 j hj
  refine z_pop hC rfl rfl ?_
  refine z_goto (t := 1079) hC rfl (by decide) ?_
  exact kk H2 τ' d _ ⟨g2, n2, gi2, n4, n5, cv2, mv2⟩
def I_L3 : List (Nat × Instr × Nat) := [(279, .aload_n 1, 1), (280, .invokevirtual 28, 3), (283, .pop, 1), (284, .aload_n 2, 1), (285, .invokevirtual 31, 3), (288, .pop, 1), (289, .goto 790, 3)]
theorem dec_L3 : ∀ q ∈ I_L3, decode code q.1 = .ok q.2 := by decide +kernel
theorem wL_X11_rule : Jvm.Cond.code yX11_rule cX11_rule 1 (some .int) ∈ gTB ∧ Jvm.Cond.initialized yX11_rule.cls ∈ gTB ∧ Jvm.Cond.methodLink RL 28 yX11_rule ∈ gTB ∧ Jvm.Cond.instanceMethod yX11_rule ∈ gTB ∧ Jvm.Cond.selects RX11 yX11_rule yX11_rule ∈ gTB := ⟨gIn (i := 781) (by decide +kernel) (by decide +kernel), gIn (i := 126) (by decide +kernel) (by decide +kernel), gIn (i := 778) (by decide +kernel) (by decide +kernel), gIn (i := 779) (by decide +kernel) (by decide +kernel), gIn (i := 780) (by decide +kernel) (by decide +kernel)⟩
theorem wLd_X11_rule : yX11_rule.cls ≠ "java/lang/invoke/MethodHandle" ∧ yX11_rule.cls ≠ "java/lang/invoke/VarHandle" ∧ (parseMethodDescriptor yX11_rule.desc).map (fun d => d.parameters.length) = some 0 := by decide +kernel
theorem wL_X12_rule : Jvm.Cond.code yX12_rule cX12_rule 1 (some .int) ∈ gTB ∧ Jvm.Cond.initialized yX12_rule.cls ∈ gTB ∧ Jvm.Cond.methodLink RL 31 yX12_rule ∈ gTB ∧ Jvm.Cond.instanceMethod yX12_rule ∈ gTB ∧ Jvm.Cond.selects RX12 yX12_rule yX12_rule ∈ gTB := ⟨gIn (i := 1408) (by decide +kernel) (by decide +kernel), gIn (i := 137) (by decide +kernel) (by decide +kernel), gIn (i := 1405) (by decide +kernel) (by decide +kernel), gIn (i := 1406) (by decide +kernel) (by decide +kernel), gIn (i := 1407) (by decide +kernel) (by decide +kernel)⟩
theorem wLd_X12_rule : yX12_rule.cls ≠ "java/lang/invoke/MethodHandle" ∧ yX12_rule.cls ≠ "java/lang/invoke/VarHandle" ∧ (parseMethodDescriptor yX12_rule.desc).map (fun d => d.parameters.length) = some 0 := by decide +kernel
theorem lc_rule {X : kX} {g : va_G} {tys : List (ClassId × FieldType)} {B0 : Nat} {I0 : List (Nat × Instr × Nat)} {cells slots : Nat} {H : Heap} {τ : kTau} {b Lx : Nat} {xs : Nat → Int32} {c : gGh} {ax am k : Nat} {i : Int32} {d : Int} {im : Nat → Option Int} (hC0 : zC X g tys B0 4 code RL I0 []) (hX : zS X B0 b Lx xs) (h0 : gE1 g) (htys : tys.map Prod.snd = gTyL) (hr : X.2.2.2.1 = room_1) (hL : LI g tys B0 c ax am τ H d im) (hi : i.toInt = (k : Int)) (hk : k + 5 < Lx) (hce : cells + 3 ≤ 600000) (hsl : slots + 803 ≤ 7302250) (kk : ∀ (H' : Heap) (τ' : kTau) (d' : Int) (im' : Nat → Option Int), LI g tys B0 c ax am τ' H' d' im' → kz X B0 (cells + 3) (slots + 803) H' 1079 4 [(0, .ref b), (1, .ref ax), (2, .ref am), (3, .int i)] []) : kz X B0 cells slots H 279 4 [(0, .ref b), (1, .ref ax), (2, .ref am), (3, .int i)] [] := by
  have hC := zC_I hC0 dec_L3
  have hT := gTyL_tys (g := g) (B0 := B0) htys
  have hL0 := hL
  obtain ⟨l1, l2, l3, l4, l5, l6, l7⟩ := hL
  refine z_lda hC rfl rfl rfl ?_
  refine z_mV (τ := τ) (C := RX11) (T := TX11) (N := 14) (ci := 11) (ks := gSF) (b := ax) (As := []) (rest := []) (rm := ⟨43, 3, 803, 1230⟩) hC rfl (C_ruC (l := X.2.1) h0 l2 htys H ax l4) m_Pc_blind (fun U hU hk hz => ⟨rfl, ⟨hk, hz⟩, by rw [hU]; exact Nat.le_trans (l1 _ _ l4).1 (Nat.le_of_lt (k_HT_lt l1 l4)), by rw [hU]; exact l1, hU⟩) wL_X11_rule.1 wL_X11_rule.2.1 wL_X11_rule.2.2.1 wL_X11_rule.2.2.2.1 wL_X11_rule.2.2.2.2 rfl (ht_cell l1 l4 gS_at) wLd_X11_rule ⟨by rw [hr]; decide, by rw [hr]; decide⟩ ⟨by rw [hr]; exact hce, by rw [hr]; exact hsl⟩ rfl (by decide) (fun st0 u v hst hq => ?_)
  obtain ⟨v', e, ⟨y1, rfl⟩, τ', hm⟩ := hq
  cases e
  generalize hu1 : u.heap = H1 at hm ⊢
  have L1 : LI g tys B0 c ax am τ' H1 d im := LI_mok h0 hL0 hm (by decide) (by decide) (by decide +kernel) (by decide +kernel) (CV_up hm.1 (CV_fr hm.2.2.2.1 l4 (by decide) l6))
  refine z_pop hC rfl rfl ?_
  refine z_lda hC rfl rfl rfl ?_
  refine z_km (τ := τ') (c := c) (n := 0) (t := 11) (ci := 12) (ks := gMF) (a := am) (As := []) (rest := []) hC rfl (C_X12_rule (l := X.2.1) h0 L1.2.1.1 hT c) rfl rfl wL_X12_rule.1 wL_X12_rule.2.1 wL_X12_rule.2.2.1 wL_X12_rule.2.2.2.1 wL_X12_rule.2.2.2.2 wLd_X12_rule rfl gM_at ⟨by rw [hr]; decide, by rw [hr]; decide⟩ (by rw [hr]; exact hce) (by rw [hr]; exact hsl) L1.1 L1.2.2.2.2.1 rfl rfl (by decide +kernel) (List.forall_mem_cons.mpr ⟨L1.2.2.1, List.forall_mem_nil _⟩) rfl (List.forall_mem_nil _) rfl (by decide) (fun H2 v2 g2 f2 p2 => ?_)
  have L2 := LI_fr h0 L1 (m := K_X12_rule.2.2.2.1) (by decide +kernel) g2 f2 (p2 1 List.mem_cons_self)
  refine z_pop hC rfl rfl ?_
  refine z_goto (t := 1079) hC rfl (by decide) ?_
  exact kk H2 τ' d im L2
