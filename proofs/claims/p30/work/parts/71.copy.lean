/-! ===== arrays are copied: Math.min, Arrays.copyOf ===== -/
theorem wcl_RJ7_316 : Jvm.Cond.methodLink RJ7 316 ⟨"[I", "clone", "()Ljava/lang/Object;"⟩ ∈ gTB := gIn (i := 838) (by decide +kernel) (by decide +kernel)
theorem wcl_all : Jvm.Cond.sameMethod "[I" "java/lang/Object" "clone" "()Ljava/lang/Object;" ∈ gTB ∧ Jvm.Cond.native ⟨"java/lang/Object", "clone", "()Ljava/lang/Object;"⟩ ∈ gTB ∧ Jvm.Cond.instanceMethod ⟨"java/lang/Object", "clone", "()Ljava/lang/Object;"⟩ ∈ gTB ∧ Jvm.Cond.selects "[I" ⟨"[I", "clone", "()Ljava/lang/Object;"⟩ ⟨"java/lang/Object", "clone", "()Ljava/lang/Object;"⟩ ∈ gTB := ⟨gIn (i := 839) (by decide +kernel) (by decide +kernel), gIn (i := 840) (by decide +kernel) (by decide +kernel), gIn (i := 841) (by decide +kernel) (by decide +kernel), gIn (i := 842) (by decide +kernel) (by decide +kernel)⟩
theorem wc_RJ7_317 : Jvm.Cond.classLink RJ7 317 "[I" ∈ gTB := gIn (i := 844) (by decide +kernel) (by decide +kernel)
theorem wl_RJ7_304 : Jvm.Cond.methodLink RJ7 304 Lib.Math.min.name ∈ gTB := gIn (i := 845) (by decide +kernel) (by decide +kernel)
theorem wl_RJ7_150 : Jvm.Cond.methodLink RJ7 150 arraycopyName ∈ gTB := gIn (i := 848) (by decide +kernel) (by decide +kernel)
theorem wa_int' : Jvm.Cond.arrayClass (newarray.typeOf .int) ∈ gTB := wa_int
section
variable {X : kX} {g : va_G} {tys : List (ClassId × FieldType)} {B0 nL : Nat} {cc : ByteArray} {own : String} {I : List (Nat × Instr × Nat)} {FL : List (Nat × Nat × Nat × Nat)} {cells slots : Nat} {H : Heap} {pc : Nat} {L : List (Nat × Value)} {st : List Value} {τ : kTau} {i : Instr}
theorem z_aret {R : Heap → Option Value → Prop} {mc ms x : Nat} {rt : FieldType} (hC : zC X g tys B0 nL cc own I FL) (hret : X.2.2.2.2.2.2.2.2.1.sig.returnType = some rt) (hrt : (∃ n, rt = .object n) ∨ ∃ t, rt = .array t) (hQ : X.2.2.2.2.2.2.2.2.2.2 = MQ X.2.2.2.2.2.2.2.1 (m_Qc R) X.2.2.2.2.2.2.1 X.2.2.2.2.1 mc ms (fun q => B0 ≤ q)) (h : k_cd I pc = some (.areturn, 1)) (hce : cells ≤ mc) (hsl : slots ≤ ms) (hp : R H (some (.ref x))) : kz X B0 cells slots H pc nL L [.ref x] := by
  obtain ⟨hF, hD, -, -, -, hlk, -⟩ := hC
  have hd := hD _ (k_cd_ok h)
  intro locs hl ls hls
  refine W.widen hce hsl ?_
  rw [hQ]
  exact W.aret hF.1 hF.2.1 hret hrt (Or.inr ⟨x, rfl⟩) (fun u hu _ => ⟨_, rfl, by rw [hu]; exact hp⟩) hl hd hlk
theorem z_alen {a N ai : Nat} {cA : ClassId} {ty : FieldType} {f : Nat → Value} (hC : zC X g tys B0 nL cc own I FL) (h : k_cd I pc = some (.arraylength, 1)) (h1 : tys[ai]? = some (cA, ty)) (hc : H[a]? = some (arrV cA N f)) (k : kz X B0 cells slots H (pc + 1) nL L (.int (Int32.ofNat N) :: st)) : kz X B0 cells slots H pc nL L (.ref a :: st) := by
  obtain ⟨hF, hD, hK, -⟩ := hC
  have hd := hD _ (k_cd_ok h)
  have harr := (hK.1.2 ai _ h1).1 N f
  intro locs hl ls hls
  have hgo := k locs hl ls hls
  exact W.alen hF.1 hF.2.1 hc harr (by rw [arrV_size]) rfl rfl hd hgo
theorem z_castE {a N idx : Nat} {cA : ClassId} {f : Nat → Value} (hC : zC X g tys B0 nL cc own I FL) (h : k_cd I pc = some (.checkcast idx, 3)) (hlk : Jvm.Cond.classLink own idx "[I" ∈ gTB) (h1 : tys[0]? = some (cA, .int)) (hc : H[a]? = some (arrV cA N f)) (k : kz X B0 cells slots H (pc + 3) nL L (.ref a :: st)) : kz X B0 cells slots H pc nL L (.ref a :: st) := by
  obtain ⟨hF, hD, hK, hts, -⟩ := hC
  have hd := hD _ (k_cd_ok h)
  have hra : X.2.2.2.2.1.vm.findClass "[I" = some cA := (hK.1.2 0 _ h1).2
  intro locs hl ls hls
  have hgo := k locs hl ls hls
  exact va_castE hF.1 hF.2.1 hF.2.2.2 (hts _ hlk) ⟨_, hc, rfl, hra⟩ hd hgo
theorem z_clone {idx a N : Nat} {cA : ClassId} {f : Nat → Value} (hC : zC X g tys B0 nL cc own I FL) (h : k_cd I pc = some (.invokevirtual idx, 3)) (hlk : Jvm.Cond.methodLink own idx ⟨"[I", "clone", "()Ljava/lang/Object;"⟩ ∈ gTB) (h1 : tys[0]? = some (cA, .int)) (hc : H[a]? = some (arrV cA N f)) (hf : ∀ j, j < N → ∃ x : Int32, f j = .int x) (hce : cells + 1 ≤ X.2.2.2.1.cells) (hsl : slots + N ≤ X.2.2.2.1.slots) (hfr : 1 ≤ X.2.2.2.1.frames) (hlo : (st.map fun v => v.category).sum + 14 ≤ X.2.2.2.1.locals)
    (kk : ∀ H' : Heap, H'[H.size]? = some (arrV cA N f) → H'.size = H.size + 1 → (∀ q : Nat, q < H.size → H'[q]? = H[q]?) → kz X B0 (cells + 1) (slots + N) H' (pc + 3) nL L (.ref H.size :: st)) : kz X B0 cells slots H pc nL L (.ref a :: st) := by
  obtain ⟨hF, hD, hK, hts, -, -, -, -, -, hzn⟩ := hC
  have hd := hD _ (k_cd_ok h)
  have hra : X.2.2.2.2.1.vm.findClass "[I" = some cA := (hK.1.2 0 _ h1).2
  obtain ⟨c0, t0, f1, f2, f3⟩ := Cond.castable_spec (va_Nw.use (A := X.2.2.2.2.2.2.1) rfl hzn.2.2)
  have ec : c0 = cA := Option.some.inj (f1.symm.trans hra)
  subst ec
  obtain ⟨-, kS, hkS, compS, hkindS⟩ := (hK.1.2 0 _ h1).1 N f
  intro locs hl ls hls T hT Y
  subst hT
  obtain ⟨-, kA, hkA, comp, hkind⟩ := State.isArrayOf_alike Y.warmed.alike ((hK.1.2 0 _ h1).1 N f)
  have hfit : ∀ (i : Nat) (v : Value), (arrV c0 N f).slots[i]? = some v → T.fitsSlot (arrV c0 N f).cls .none i v = true := by
    intro i v hv
    have hi : i < N := by
      have := (Array.getElem?_eq_some_iff.mp hv).1
      rw [arrV_size] at this
      exact this
    rw [arrV_read c0 f hi] at hv
    cases hv
    obtain ⟨x, hx⟩ := hf i hi
    rw [hx]
    have hk' : T.vm.classes[(arrV c0 N f).cls]? = some kA := hkA
    simp [State.fitsSlot, State.slotType?, hk', hkind, fits]
  obtain ⟨vm', Y', go⟩ := Y.cloneArray hF.1 hF.2.2.2 (hts _ hlk) (hts _ wcl_all.1) (hts _ wcl_all.2.1) (hts _ wcl_all.2.2.1) (hts _ wcl_all.2.2.2) (a := a) (cell := arrV c0 N f) hc (fun k z => by cases z) (fun z => by cases z) hra f2 f3 hfit (g := F0 X.2.2.2.2.2.1 pc ls (.ref a :: st)) rfl (by rw [hF.2.2.1]; exact hls.1) rfl (by rw [hF.2.1]; exact hd) hfr (by show 2 * 0 + _ + 14 ≤ _; omega) hce (by rw [arrV_size]; exact hsl) (hloader := Vm.clonesLoader_of_array hkS hkindS)
  rw [arrV_size] at Y'
  obtain ⟨t2, b1, b2⟩ := kk (T.heap.push (arrV c0 N f)) (by rw [Array.getElem?_push_size]) (by rw [Array.size_push]) (fun q hq => by rw [Array.getElem?_push, if_neg (Nat.ne_of_lt hq)]) locs hl ls hls _ rfl Y'
  exact ⟨t2, go t2 b1, b2⟩
theorem z_cpy {idx a0 a n0 n1 : Nat} {cA : ClassId} {f g' : Nat → Value} {x : Int32} (hC : zC X g tys B0 nL cc own I FL) (h : k_cd I pc = some (.invokestatic idx, 3)) (hlk : Jvm.Cond.methodLink own idx arraycopyName ∈ gTB) (h1 : tys[0]? = some (cA, .int)) (c0 : H[a0]? = some (arrV cA n0 f)) (c1 : H[a]? = some (arrV cA n1 g')) (hf : ∀ j, j < n0 → ∃ y : Int32, f j = .int y) (hx : 0 ≤ x.toInt ∧ x.toInt ≤ (n0 : Int) ∧ x.toInt ≤ (n1 : Int)) (hB : B0 ≤ a) (hfr : 1 ≤ X.2.2.2.1.frames) (hlo : (st.map fun v => v.category).sum + 18 ≤ X.2.2.2.1.locals)
    (kk : ∀ H' : Heap, H'[a]? = some (arrV cA n1 (fun j => va_cpy f g' 0 0 x.toNatClampNeg j)) → H'.size = H.size → (∀ q : Nat, q ≠ a → H'[q]? = H[q]?) → kz X B0 cells slots H' (pc + 3) nL L st) : kz X B0 cells slots H pc nL L (.int x :: .int 0 :: .ref a :: .int 0 :: .ref a0 :: st) := by
  obtain ⟨hF, hD, hK, hts, -⟩ := hC
  have hd := hD _ (k_cd_ok h)
  have hc0 : (0 : Int32).toNatClampNeg = 0 := rfl
  have hc4 : (x.toNatClampNeg : Int) = x.toInt := by show ((x.toInt.toNat : Nat) : Int) = x.toInt; omega
  obtain ⟨-, k0, hk0, cm0, hkk0⟩ := (hK.1.2 0 _ h1).1 n0 f
  obtain ⟨-, k1, hk1, cm1, hkk1⟩ := (hK.1.2 0 _ h1).1 n1 g'
  have hel : ∀ i, i < x.toNatClampNeg → (arrV cA n0 f).slots.getD ((0 : Int32).toNatClampNeg + i) .null = f i := fun i hi => by
    rw [hc0, Nat.zero_add, Array.getD_eq_getD_getElem?, arrV_read _ _ (by omega)]
    rfl
  have hl' : a < H.size := (Array.getElem?_eq_some_iff.mp c1).1
  intro locs hl ls hls T hT Y
  subst hT
  obtain ⟨vm', Y', step⟩ := Y.arraycopy hF.1 hF.2.2.2 (hts _ hlk) (hts _ wm_cp.1) (hts _ wm_cp.2.1) (hts _ wm_cp.2.2) (src := a0) (dst := a) (cs := arrV cA n0 f) (cd := arrV cA n1 g') (srcPos := 0) (destPos := 0) (n := x) c0 c1
    (fun _ h => by cases h) (fun _ h => by cases h) (fun h => by cases h) (fun h => by cases h) hk0 hk1 hkk0 hkk1 (by simp [refKind]) (by decide) (by decide) (by rw [Int32.lt_iff_toInt_lt]; show ¬ x.toInt < 0; omega)
    (by show ¬ _ > ((arrV cA n0 f).slots.size : Int); rw [arrV_size]; show ¬ (0 : Int) + x.toInt > _; omega)
    (by show ¬ _ > ((arrV cA n1 g').slots.size : Int); rw [arrV_size]; show ¬ (0 : Int) + x.toInt > _; omega)
    (fun vm₁ _ i hi => by
      obtain ⟨y, y1⟩ := hf i (by omega)
      refine ⟨?_, ?_⟩
      · rw [hel i hi, y1]; rfl
      · rw [hel i hi, y1]; exact trivial)
    (g := F0 X.2.2.2.2.2.1 pc ls (.int x :: .int 0 :: .ref a :: .int 0 :: .ref a0 :: st)) rfl (by rw [hF.2.2.1]; exact hls.1) (rest := st) rfl (by rw [hF.2.1]; exact hd) hfr (by show 2 * 0 + _ + (7 + 11) ≤ _; omega)
  have ec : copied (arrV cA n0 f) (arrV cA n1 g') 0 0 x = arrV cA n1 (fun j => va_cpy f g' 0 0 x.toNatClampNeg j) := va_copied (fun z => z) cA cA f g' (by omega)
  rw [ec] at Y' step
  obtain ⟨t2, b1, b2⟩ := kk (T.heap.setIfInBounds a (arrV cA n1 (fun j => va_cpy f g' 0 0 x.toNatClampNeg j))) (by simp [Array.getElem?_setIfInBounds, hl']) (by simp) (fun q hq => by simp [Array.getElem?_setIfInBounds, Ne.symm hq]) _ (fun z hz => by
    rcases List.mem_append.mp hz with e' | e'
    · exact hl z e'
    · obtain ⟨y, -, hy⟩ := List.mem_map.mp e'
      rw [← hy]
      exact hB) ls hls _ rfl Y'
  exact ⟨t2, step t2 b1, b2⟩
theorem z_mmin {idx : Nat} {x y : Int32} (hC : zC X g tys B0 nL cc own I FL) (h : k_cd I pc = some (.invokestatic idx, 3)) (hlk : Jvm.Cond.methodLink own idx Lib.Math.min.name ∈ gTB) (hfr : 1 ≤ X.2.2.2.1.frames) (hlo : (st.map fun v => v.category).sum + 13 ≤ X.2.2.2.1.locals) (hce : cells ≤ X.2.2.2.1.cells) (hsl : slots ≤ X.2.2.2.1.slots) (k : kz X B0 cells slots H (pc + 3) nL L (.int (if y < x then y else x) :: st)) : kz X B0 cells slots H pc nL L (.int y :: .int x :: st) := by
  obtain ⟨hF, hD, hK, hts, -⟩ := hC
  have hd := hD _ (k_cd_ok h)
  intro locs hl ls hls
  have hgo := k locs hl ls hls
  exact va_mmin hF.1 hF.2.1 (by rw [hF.2.2.1]; exact hls.1.symm) hF.2.2.2 (hts _ hlk) (hts _ wm_min.1) (hts _ wm_min.2.1) (hts _ wm_min.2.2) hfr (by omega) hce hsl hd hgo
end
def I_J7_copyOf : List (Nat × Instr × Nat) := [(0, .iload_n 1, 1), (1, .aload_n 0, 1), (2, .arraylength, 1), (3, .if_icmp .ne 11, 3), (6, .aload_n 0, 1), (7, .invokevirtual 316, 3), (10, .checkcast 317, 3), (13, .areturn, 1), (14, .iload_n 1, 1), (15, .newarray .int, 2), (17, .astore_n 2, 1), (18, .aload_n 0, 1), (19, .iconst 0, 1), (20, .aload_n 2, 1), (21, .iconst 0, 1), (22, .aload_n 0, 1), (23, .arraylength, 1), (24, .iload_n 1, 1), (25, .invokestatic 304, 3), (28, .invokestatic 150, 3), (31, .aload_n 2, 1), (32, .areturn, 1)]
theorem dec_J7_copyOf : ∀ q ∈ I_J7_copyOf, decode cJ7_copyOf_59c91 q.1 = .ok q.2 := by decide +kernel
theorem ofN {n : Nat} (h : n < 2147483648) : (Int32.ofNat n).toInt = (n : Int) := by
  have : Int32.ofNat n = Int32.ofInt (n : Int) := rfl
  rw [this]
  exact i_of (by omega) (by omega)
section
variable {l : Launch} {g : va_G} {tys : List (ClassId × FieldType)} {B0 : Nat} {τ : kTau}
def cpR (tys : List (ClassId × FieldType)) (H0 : Heap) (n : Nat) (f : Nat → Value) : Heap → Option Value → Prop := fun H' v => v = some (.ref H0.size) ∧ H'.size = H0.size + 1 ∧ (∀ q : Nat, q < H0.size → H'[q]? = H0[q]?) ∧ ∃ (cA : ClassId) (f' : Nat → Value), tys[0]? = some (cA, .int) ∧ H'[H0.size]? = some (arrV cA n f') ∧ ∀ j, j < n → f' j = f j
theorem C_copyOf (h0 : gE1 g) (htys : tys.map Prod.snd = gTyL) (H0 : Heap) (a N : Nat) (cA : ClassId) (f : Nat → Value) (h1 : tys[0]? = some (cA, .int)) (hc : H0[a]? = some (arrV cA N f)) (hf : ∀ j, j < N → ∃ x : Int32, f j = .int x) (hN : N ≤ 400) (x : Int32) (n : Nat) (hx : x.toInt = (n : Int)) (hn : n ≤ N) : m_Met l g tys B0 τ H0 yJ7_copyOf_59c91 cJ7_copyOf_59c91 3 (some (.array .int)) [.ref a, .int x] (cpR tys H0 n f) ⟨1, 1, 400, 40⟩ := by
  refine m_met (I := I_J7_copyOf) (FL := []) h0 htys (by decide +kernel) dec_J7_copyOf (fun X hts q h => by cases h) (by show 2 ≤ 3; decide) ?_
  intro X hl hr hC hret hQ hH hsz
  subst hl
  have eN := ofN (n := N) (by omega)
  refine z_ldi hC rfl rfl rfl ?_
  refine z_lda hC rfl rfl rfl ?_
  refine z_alen (ai := 0) hC rfl h1 hc ?_
  refine z_icmp (t := 14) hC rfl (by decide) (fun z => ?_) (fun z => ?_)
  rotate_left
  · have z : ¬ ¬ x.toInt = (Int32.ofNat N).toInt := z
    rw [eN] at z
    have en : n = N := by omega
    subst en
    refine z_lda hC rfl rfl rfl ?_
    refine z_clone hC rfl wcl_RJ7_316 h1 hc hf (by rw [hr]; decide) (by rw [hr]; show 0 + n ≤ 400; omega) (by rw [hr]; decide) (by rw [hr]; decide) (fun H1 e1 s1 o1 => ?_)
    refine z_castE hC rfl wc_RJ7_317 h1 e1 ?_
    exact z_aret hC hret (Or.inr ⟨_, rfl⟩) hQ rfl (Nat.le_refl _) (by show 0 + n ≤ 400; omega) ⟨rfl, s1, o1, cA, f, h1, e1, fun _ _ => rfl⟩
  have z : ¬ x.toInt = (Int32.ofNat N).toInt := z
  rw [eN] at z
  refine z_ldi hC rfl rfl rfl ?_
  refine z_newa (N := n) (ai := 0) hC rfl rfl wa_int' (by decide) hx (by omega) (by rw [hr]; decide) (by rw [hr]; show 0 + n ≤ 400; omega) (fun H1 cB t1 e1 s1 o1 => ?_)
  have ec : cB = cA := by
    have := t1.symm.trans h1
    cases this
    rfl
  subst ec
  have la : a < H0.size := (Array.getElem?_eq_some_iff.mp hc).1
  have hc1 : H1[a]? = some (arrV cB N f) := by rw [o1 a la]; exact hc
  refine z_ast_n hC rfl (by decide) rfl ?_
  refine z_lda hC rfl rfl rfl ?_
  refine z_cst hC rfl rfl ?_
  refine z_lda hC rfl rfl rfl ?_
  refine z_cst hC rfl rfl ?_
  refine z_lda hC rfl rfl rfl ?_
  refine z_alen (ai := 0) hC rfl h1 hc1 ?_
  refine z_ldi hC rfl rfl rfl ?_
  refine z_mmin hC rfl wl_RJ7_304 (by rw [hr]; decide) (by rw [hr]; show 4 + 13 ≤ 40; decide) (by rw [hr]; decide) (by rw [hr]; show 0 + n ≤ 400; omega) ?_
  rw [if_pos (by rw [Int32.lt_iff_toInt_lt, eN]; omega)]
  refine z_cpy (a0 := a) (a := H0.size) hC rfl wl_RJ7_150 h1 hc1 e1 hf ⟨by omega, by omega, by omega⟩ hsz (by rw [hr]; decide) (by rw [hr]; decide) (fun H2 e2 s2 o2 => ?_)
  refine z_lda hC rfl rfl rfl ?_
  refine z_aret hC hret (Or.inr ⟨_, rfl⟩) hQ rfl (Nat.le_refl _) (by show 0 + n ≤ 400; omega) ⟨rfl, by rw [s2, s1], fun q hq => by rw [o2 q (by omega)]; exact o1 q hq, cB, _, h1, e2, fun j hj => ?_⟩
  show va_cpy f _ 0 0 x.toNatClampNeg j = f j
  unfold va_cpy
  have hxn : x.toNatClampNeg = n := by show x.toInt.toNat = n; omega
  rw [hxn, if_pos ⟨Nat.zero_le _, by omega⟩]
  congr 1
  omega
end
