/-! ===== a rule is made: Rule, RuleReader.compiled, SmokeWord.rule ===== -/
theorem wlo_RX4_1 : Jvm.Cond.methodLink RX4 1 Lib.objectInit ∈ gTB := gIn (i := 852) (by decide +kernel) (by decide +kernel)
theorem wn_4 : Jvm.Cond.instantiable RX4 3 ∈ gTB := gIn (i := 834) (by decide +kernel) (by decide +kernel)
theorem wz_4 : Jvm.Cond.initialized RX4 ∈ gTB := gIn (i := 143) (by decide +kernel) (by decide +kernel)
theorem wic_4 : Jvm.Cond.code yX4_init cX4_init 4 none ∈ gTB := gIn (i := 851) (by decide +kernel) (by decide +kernel)
theorem wim_4 : Jvm.Cond.instanceMethod yX4_init ∈ gTB := gIn (i := 850) (by decide +kernel) (by decide +kernel)
theorem wid_4 : yX4_init.cls ≠ "java/lang/invoke/MethodHandle" ∧ yX4_init.cls ≠ "java/lang/invoke/VarHandle" ∧ (parseMethodDescriptor yX4_init.desc).map (fun d => d.parameters.length) = some 3 := by decide +kernel
theorem wc_RX5_58 : Jvm.Cond.classLink RX5 58 RX4 ∈ gTB := gIn (i := 833) (by decide +kernel) (by decide +kernel)
theorem wl_RX5_66 : Jvm.Cond.methodLink RX5 66 yX4_init ∈ gTB := gIn (i := 849) (by decide +kernel) (by decide +kernel)
theorem wl_RX5_60 : Jvm.Cond.methodLink RX5 60 yJ7_copyOf_59c91 ∈ gTB := gIn (i := 835) (by decide +kernel) (by decide +kernel)
theorem wkc_1 : Jvm.Cond.code yJ7_copyOf_59c91 cJ7_copyOf_59c91 3 (some (.array .int)) ∈ gTB := gIn (i := 837) (by decide +kernel) (by decide +kernel)
theorem wkc_2 : Jvm.Cond.initialized yJ7_copyOf_59c91.cls ∈ gTB := gIn (i := 144) (by decide +kernel) (by decide +kernel)
theorem wkc_3 : Jvm.Cond.static yJ7_copyOf_59c91 ∈ gTB := gIn (i := 836) (by decide +kernel) (by decide +kernel)
theorem wkc_4 : yJ7_copyOf_59c91.cls ≠ "java/lang/invoke/MethodHandle" ∧ yJ7_copyOf_59c91.cls ≠ "java/lang/invoke/VarHandle" ∧ (parseMethodDescriptor yJ7_copyOf_59c91.desc).map (fun d => d.parameters.length) = some 2 := by decide +kernel
theorem wl_RX11_136 : Jvm.Cond.methodLink RX11 136 yX5_compiled ∈ gTB := gIn (i := 829) (by decide +kernel) (by decide +kernel)
theorem wkp_1 : Jvm.Cond.code yX5_compiled cX5_compiled 1 (some (.object RX4)) ∈ gTB := gIn (i := 832) (by decide +kernel) (by decide +kernel)
theorem wkp_2 : Jvm.Cond.initialized yX5_compiled.cls ∈ gTB := gIn (i := 132) (by decide +kernel) (by decide +kernel)
theorem wkp_3 : Jvm.Cond.instanceMethod yX5_compiled ∈ gTB := gIn (i := 830) (by decide +kernel) (by decide +kernel)
theorem wkp_4 : Jvm.Cond.selects RX5 yX5_compiled yX5_compiled ∈ gTB := gIn (i := 831) (by decide +kernel) (by decide +kernel)
theorem wkp_5 : yX5_compiled.cls ≠ "java/lang/invoke/MethodHandle" ∧ yX5_compiled.cls ≠ "java/lang/invoke/VarHandle" ∧ (parseMethodDescriptor yX5_compiled.desc).map (fun d => d.parameters.length) = some 0 := by decide +kernel
theorem wl_RX11_135r : Jvm.Cond.methodLink RX11 135 yX5_read ∈ gTB := gIn (i := 782) (by decide +kernel) (by decide +kernel)
theorem wkr_1 : Jvm.Cond.code yX5_read cX5_read 2 (k_rty 2) ∈ gTB := gIn (i := 785) (by decide +kernel) (by decide +kernel)
theorem wkr_2 : Jvm.Cond.initialized yX5_read.cls ∈ gTB := gIn (i := 132) (by decide +kernel) (by decide +kernel)
theorem wkr_3 : Jvm.Cond.instanceMethod yX5_read ∈ gTB := gIn (i := 783) (by decide +kernel) (by decide +kernel)
theorem wkr_4 : Jvm.Cond.selects RX5 yX5_read yX5_read ∈ gTB := gIn (i := 784) (by decide +kernel) (by decide +kernel)
theorem wkr_5 : yX5_read.cls ≠ "java/lang/invoke/MethodHandle" ∧ yX5_read.cls ≠ "java/lang/invoke/VarHandle" ∧ (parseMethodDescriptor yX5_read.desc).map (fun d => d.parameters.length) = some 0 := by decide +kernel
def rF (c : Nat) : List kInfo := [.inr (.inr (.inl (false, [31]))), .inr (.inr (.inl (false, [66 + c]))), .inl ((c : Int), (c : Int))]
theorem rT_at : ∀ c : Nat, c < 13 → gTT[53 + c]? = some (.inl (4, rF c))
  | 0, _ => rfl
  | 1, _ => rfl
  | 2, _ => rfl
  | 3, _ => rfl
  | 4, _ => rfl
  | 5, _ => rfl
  | 6, _ => rfl
  | 7, _ => rfl
  | 8, _ => rfl
  | 9, _ => rfl
  | 10, _ => rfl
  | 11, _ => rfl
  | 12, _ => rfl
  | n + 13, h => absurd h (by omega)
theorem sT_at : ∀ c : Nat, c < 13 → gTT[66 + c]? = some (.inr (0, 2 * c + 1, 2 * c + 1, [], .inl (0, 400)))
  | 0, _ => rfl
  | 1, _ => rfl
  | 2, _ => rfl
  | 3, _ => rfl
  | 4, _ => rfl
  | 5, _ => rfl
  | 6, _ => rfl
  | 7, _ => rfl
  | 8, _ => rfl
  | 9, _ => rfl
  | 10, _ => rfl
  | 11, _ => rfl
  | 12, _ => rfl
  | n + 13, h => absurd h (by omega)
theorem rI : ∀ c : Nat, c < 13 → ((List.zip (rF c) (rF c)).all (fun q => k_isub q.1 q.2)) = true
  | 0, _ => by decide
  | 1, _ => by decide
  | 2, _ => by decide
  | 3, _ => by decide
  | 4, _ => by decide
  | 5, _ => by decide
  | 6, _ => by decide
  | 7, _ => by decide
  | 8, _ => by decide
  | 9, _ => by decide
  | 10, _ => by decide
  | 11, _ => by decide
  | 12, _ => by decide
  | n + 13, h => absurd h (by omega)
def NT_ru : List Nat := [31, 53, 54, 55, 56, 57, 58, 59, 60, 61, 62, 63, 64, 65, 66, 67, 68, 69, 70, 71, 72, 73, 74, 75, 76, 77, 78]
theorem rM1 : ∀ c : Nat, c < 13 → 53 + c ∈ NT_ru
  | 0, _ => by decide
  | 1, _ => by decide
  | 2, _ => by decide
  | 3, _ => by decide
  | 4, _ => by decide
  | 5, _ => by decide
  | 6, _ => by decide
  | 7, _ => by decide
  | 8, _ => by decide
  | 9, _ => by decide
  | 10, _ => by decide
  | 11, _ => by decide
  | 12, _ => by decide
  | n + 13, h => absurd h (by omega)
theorem rM2 : ∀ c : Nat, c < 13 → 66 + c ∈ NT_ru
  | 0, _ => by decide
  | 1, _ => by decide
  | 2, _ => by decide
  | 3, _ => by decide
  | 4, _ => by decide
  | 5, _ => by decide
  | 6, _ => by decide
  | 7, _ => by decide
  | 8, _ => by decide
  | 9, _ => by decide
  | 10, _ => by decide
  | 11, _ => by decide
  | 12, _ => by decide
  | n + 13, h => absurd h (by omega)
theorem rM3 : ∀ c : Nat, c < 13 → 53 + c ∈ [53, 54, 55, 56, 57, 58, 59, 60, 61, 62, 63, 64, 65]
  | 0, _ => by decide
  | 1, _ => by decide
  | 2, _ => by decide
  | 3, _ => by decide
  | 4, _ => by decide
  | 5, _ => by decide
  | 6, _ => by decide
  | 7, _ => by decide
  | 8, _ => by decide
  | 9, _ => by decide
  | 10, _ => by decide
  | 11, _ => by decide
  | 12, _ => by decide
  | n + 13, h => absurd h (by omega)
theorem rX : ∀ c : Nat, c < 13 → (Int32.ofInt 2 * Int32.ofInt (c : Int) + Int32.ofInt 1).toInt = ((2 * c + 1 : Nat) : Int)
  | 0, _ => by decide
  | 1, _ => by decide
  | 2, _ => by decide
  | 3, _ => by decide
  | 4, _ => by decide
  | 5, _ => by decide
  | 6, _ => by decide
  | 7, _ => by decide
  | 8, _ => by decide
  | 9, _ => by decide
  | 10, _ => by decide
  | 11, _ => by decide
  | 12, _ => by decide
  | n + 13, h => absurd h (by omega)
def I_X4_init : List (Nat × Instr × Nat) := [(0, .aload_n 0, 1), (1, .invokespecial 1, 3), (4, .aload_n 0, 1), (5, .aload_n 1, 1), (6, .putfield 7, 3), (9, .aload_n 0, 1), (10, .aload_n 2, 1), (11, .putfield 13, 3), (14, .aload_n 0, 1), (15, .iload_n 3, 1), (16, .putfield 16, 3), (19, .return_, 1)]
theorem dec_X4_init : ∀ q ∈ I_X4_init, decode cX4_init q.1 = .ok q.2 := by decide +kernel
def R_4 : Room := ⟨1, 0, 0, 20⟩
theorem C_X4_init {l : Launch} {g : va_G} {tys : List (ClassId × FieldType)} {B0 : Nat} {τ : kTau} (h0 : gE1 g) (htys : tys.map Prod.snd = gTyL) (c : Nat) (hc13 : c < 13) : c_Met l g tys B0 τ yX4_init cX4_init 4 4 (z_ks tyX4 3) (rF c) (53 + c) [] (fun _ _ _ => True) R_4 := by
  refine z_met (I := I_X4_init) (FL := gFL4) h0 htys (by decide +kernel) rfl dec_X4_init (fun X hts => gFLk4 hts) (Nat.le_refl 4) ?_
  intro X a As hl hr hC hin hret hQ hH hb hB hc hAl hA
  obtain ⟨v0, d0, o0⟩ := hA 0 _ rfl
  obtain ⟨v1, d1, o1⟩ := hA 1 _ rfl
  obtain ⟨v2, d2, x, o2, b1, b2⟩ := hA 2 _ rfl
  obtain ⟨p0, rfl, t0⟩ := k_refOk o0
  obtain ⟨p1, rfl, t1⟩ := k_refOk o1
  subst o2
  match As, hAl with
  | [w0, w1, w2], _ =>
    have y0 : w0 = .ref p0 := by simpa using d0
    have y1 : w1 = .ref p1 := by simpa using d1
    have y2 : w2 = .int x := by simpa using d2
    subst y0; subst y1; subst y2
    have hc : k_cell (e0 g tys B0) τ a X.2.2.2.2.1.heap (.inl (4, [.inr (.inr (.inl (true, []))), .inr (.inr (.inl (true, []))), .inl (0, 0)])) := hc
    have I0 : zI g tys B0 τ X.2.2.2.2.1.heap a 4 [] [.inr (.inr (.inl (true, []))), .inr (.inr (.inl (true, []))), .inl (0, 0)] τ X.2.2.2.2.1.heap := zI_begin hH hb hB hc hC.2.2.2.2.1
    refine z_lda hC rfl rfl rfl ?_
    refine z_objinit hC rfl wlo_RX4_1 wo_inst wo_code (by rw [hr]; decide) (by rw [hr]; decide) ?_
    refine z_lda hC rfl rfl rfl ?_
    refine z_lda hC rfl rfl rfl ?_
    refine z_putF (k := 0) (ks := [.inr (.inr (.inl (true, []))), .inr (.inr (.inl (true, []))), .inl (0, 0)]) (x := .inr (.inr (.inl (false, [31])))) hC hin rfl rfl (hap_4 h0) hN_4 I0.2.2.2.1 hB (by decide) (Or.inr ⟨_, 31, rfl, List.mem_singleton.mpr rfl, t0⟩) (fun r hr' => by cases hr'; exact ⟨rfl, rfl, tyX4_ok 0 (by decide)⟩) rfl rfl (fun H1 c1 s1 o1 z1 => ?_)
    have J1 : zI g tys B0 τ X.2.2.2.2.1.heap a 4 [] [.inr (.inr (.inl (false, [31]))), .inr (.inr (.inl (true, []))), .inl (0, 0)] _ H1 := zI_put (k := 0) (x := .inr (.inr (.inl (false, [31])))) I0 c1 s1 o1
    refine z_lda hC rfl rfl rfl ?_
    refine z_lda hC rfl rfl rfl ?_
    refine z_putF (k := 1) (ks := [.inr (.inr (.inl (false, [31]))), .inr (.inr (.inl (true, []))), .inl (0, 0)]) (x := .inr (.inr (.inl (false, [66 + c])))) hC hin rfl rfl (hap_4 h0) hN_4 J1.2.2.2.1 hB (by show 1 < 3; decide) (Or.inr ⟨_, 66 + c, rfl, List.mem_singleton.mpr rfl, t1⟩) (fun r hr' => by cases hr'; exact ⟨rfl, rfl, tyX4_ok 1 (by decide)⟩) rfl rfl (fun H2 c2 s2 o2 z2 => ?_)
    have J2 : zI g tys B0 τ X.2.2.2.2.1.heap a 4 [] [.inr (.inr (.inl (false, [31]))), .inr (.inr (.inl (false, [66 + c]))), .inl (0, 0)] _ H2 := zI_put (k := 1) (x := .inr (.inr (.inl (false, [66 + c])))) J1 c2 s2 o2
    refine z_lda hC rfl rfl rfl ?_
    refine z_ldi hC rfl rfl rfl ?_
    refine z_putF (k := 2) (ks := [.inr (.inr (.inl (false, [31]))), .inr (.inr (.inl (false, [66 + c]))), .inl (0, 0)]) (x := .inl ((c : Int), (c : Int))) hC hin rfl rfl (hap_4 h0) hN_4 J2.2.2.2.1 hB (by show 2 < 3; decide) ⟨_, rfl, b1, b2⟩ (fun r hr' => by cases hr'; exact ⟨rfl, rfl, tyX4_ok 2 (by decide)⟩) rfl rfl (fun H3 c3 s3 o3 z3 => ?_)
    have J3 : zI g tys B0 τ X.2.2.2.2.1.heap a 4 [] (rF c) _ H3 := zI_put (k := 2) (x := .inl ((c : Int), (c : Int))) J2 c3 s3 o3
    exact z_vret hC hret hQ rfl (Nat.le_refl _) (Nat.le_refl _) (zI_end (t := 53 + c) J3 (rT_at c hc13) rfl (rI c hc13) (fun _ _ _ => trivial))
section
variable {g : va_G} {tys : List (ClassId × FieldType)} {B0 : Nat} {τ τ1 τ2 : kTau} {NT NT' : List Nat} {mods m2 : List (Nat × Nat)} {H H1 H2 : Heap}
theorem m_ok_grow (h : m_ok g tys B0 τ τ1 NT mods H H1) (hsz : H1.size ≤ H2.size) (ho : ∀ q : Nat, q < H1.size → H2[q]? = H1[q]?) : m_ok g tys B0 τ τ1 NT mods H H2 := by
  obtain ⟨h1, h2, h3, h4, h5⟩ := h
  have h41 := h4.1
  refine ⟨h1, h2, k_HT_kept h3 (fun q u hq => ho q (k_HT_lt h3 hq)), ⟨by omega, fun a ha hn => ?_, fun a u hu => ⟨fun q hq k hk hm => ?_, fun q hq hm => ?_⟩⟩, h5⟩
  · rw [ho a (by omega)]
    exact h4.2.1 a ha hn
  · unfold k_fld
    rw [ho a (k_HT_lt h3 (h1 a u hu))]
    exact (h4.2.2 a u hu).1 q hq k hk hm
  · rw [ho a (k_HT_lt h3 (h1 a u hu))]
    exact (h4.2.2 a u hu).2 q hq hm
theorem m_ok_tag {b t : Nat} {d : kDesc} (h : m_ok g tys B0 τ τ1 NT mods H H1) (hb : τ1 b = none) (hbl : H.size ≤ b) (hB : B0 ≤ b) (ht : t ∈ NT) (hd : gTT[t]? = some d) (hc : k_cell (e0 g tys B0) (zt τ1 b t) b H1 d) : m_ok g tys B0 τ (zt τ1 b t) NT mods H H1 := by
  obtain ⟨h1, h2, h3, h4, h5⟩ := h
  refine ⟨zle_trans h1 (zle_t hb), fun q u hq => ?_, k_HT_t h3 hb hB hd hc, h4, fun q hq => ?_⟩
  · by_cases c : q = b
    · subst c
      rw [zt_at] at hq
      cases hq
      exact Or.inr ht
    · rw [zt_ne c] at hq
      exact h2 q u hq
  · rw [zt_ne (by omega)]
    exact h5 q hq
theorem m_ok_init {b t : Nat} {Ex : kTau → Heap → Nat → Prop} (h : m_ok g tys B0 τ τ1 NT mods H H1) (hb : τ1 b = none) (hbl : H.size ≤ b) (ht : t ∈ NT) (hNT : ∀ u ∈ NT', u ∈ NT) (hp : c_post g tys B0 τ1 τ2 b t NT' Ex H1 H2) : m_ok g tys B0 τ τ2 NT mods H H2 := by
  obtain ⟨h1, h2, h3, h4, h5⟩ := h
  obtain ⟨p1, p2, p3, p4, p5, p6, -⟩ := hp
  have h41 := h4.1
  have nb : ∀ q u : Nat, τ q = some u → q ≠ b := fun q u hq z => by
    have := h1 q u hq
    rw [z, hb] at this
    cases this
  refine ⟨zle_trans h1 p1, fun q u hq => ?_, p3, ⟨by omega, fun a ha hn => ?_, fun a u hu => ⟨fun q hq k hk hm => ?_, fun q hq hm => ?_⟩⟩, fun q hq => ?_⟩
  · rcases p2 q u hq with e | ⟨-, e⟩ | e
    · exact h2 q u e
    · subst e; exact Or.inr ht
    · exact Or.inr (hNT u e)
  · rw [(p5 a (by omega) (by omega)).1]
    exact h4.2.1 a ha hn
  · unfold k_fld
    rw [(p5 a (k_HT_lt h3 (h1 a u hu)) (nb a u hu)).1]
    exact (h4.2.2 a u hu).1 q hq k hk hm
  · rw [(p5 a (k_HT_lt h3 (h1 a u hu)) (nb a u hu)).1]
    exact (h4.2.2 a u hu).2 q hq hm
  · rw [(p5 q (by omega) (by omega)).2]
    exact h5 q hq
/-- a field of an object that has a kind is written -/
theorem ht_put {a t ci k : Nat} {fs : List kInfo} {x : kInfo} {v : Value} (hH : k_HT (e0 g tys B0) τ H) (ha : τ a = some t) (hd : gTT[t]? = some (.inl (ci, fs))) (hx : fs[k]? = some x) (hc : k_cell (e0 g tys B0) τ a H1 (.inl (ci, fs.set k x))) (hs : H1.size = H.size) (ho : ∀ q : Nat, q ≠ a → H1[q]? = H[q]?) (hz : ∀ j, j < fs.length → (H1[a]?).bind (fun c => c.slots[g.2 ci j]?) = if j = k then some v else (H[a]?).bind (fun c => c.slots[g.2 ci j]?)) : k_HT (e0 g tys B0) τ H1 ∧ k_fr (e0 g tys B0) τ [(t, k)] H H1 := by
  have hset : fs.set k x = fs := by
    apply List.ext_getElem?
    intro j
    by_cases c : j = k
    · subst c
      rw [List.getElem?_set_self (List.getElem?_eq_some_iff.mp hx).1, hx]
    · rw [List.getElem?_set_ne (Ne.symm c)]
  rw [hset] at hc
  refine ⟨fun q u hu => ?_, by omega, fun q hq hn => ho q (fun z => by rw [z, ha] at hn; cases hn), fun q u hu => ⟨fun p hp j hj hm => ?_, fun p hp hm => ?_⟩⟩
  · obtain ⟨z1, d, z2, z3⟩ := hH q u hu
    by_cases c : q = a
    · subst c
      rw [ha] at hu
      cases hu
      exact ⟨z1, _, hd, hc⟩
    · exact ⟨z1, d, z2, k_cell_kept z3 (ho q c)⟩
  · by_cases c : q = a
    · subst c
      rw [ha] at hu
      cases hu
      have hp : gTT[t]? = some (.inl p) := hp
      rw [hd] at hp
      cases hp
      have hj : j < fs.length := hj
      have := hz j hj
      rw [if_neg (fun z => hm (by rw [z]; exact List.mem_cons_self))] at this
      exact this
    · unfold k_fld
      rw [ho q c]
  · exact ho q (fun z => by
      rw [z, ha] at hu
      cases hu
      have hp : gTT[t]? = some (.inr p) := hp
      rw [hd] at hp
      cases hp)
end
section
variable {X : kX} {g : va_G} {tys : List (ClassId × FieldType)} {B0 nL : Nat} {cc : ByteArray} {own : String} {I : List (Nat × Instr × Nat)} {FL : List (Nat × Nat × Nat × Nat)} {cells slots : Nat} {H : Heap} {pc : Nat} {L : List (Nat × Value)} {st : List Value}
theorem z_imul {x y : Int32} (hC : zC X g tys B0 nL cc own I FL) (h : k_cd I pc = some (.imul, 1)) (k : kz X B0 cells slots H (pc + 1) nL L (.int (x * y) :: st)) : kz X B0 cells slots H pc nL L (.int y :: .int x :: st) := by
  obtain ⟨⟨hx, hb, hml, ho⟩, hD, -⟩ := hC
  intro locs hl ls hls
  have hd := hD _ (k_cd_ok h)
  have hgo := k locs hl ls hls
  exact lv_imul hx hb hd hgo
theorem z_isub {x y : Int32} (hC : zC X g tys B0 nL cc own I FL) (h : k_cd I pc = some (.isub, 1)) (k : kz X B0 cells slots H (pc + 1) nL L (.int (x - y) :: st)) : kz X B0 cells slots H pc nL L (.int y :: .int x :: st) := by
  obtain ⟨⟨hx, hb, hml, ho⟩, hD, -⟩ := hC
  intro locs hl ls hls
  have hd := hD _ (k_cd_ok h)
  have hgo := k locs hl ls hls
  exact lv_isub hx hb hd hgo
end
def gRF : List kInfo := match (gTT[6]? : Option kDesc) with
  | some (.inl q) => q.2
  | _ => []
theorem gR_at : gTT[6]? = some (.inl (5, gRF)) := rfl
def I_X5_compiled : List (Nat × Instr × Nat) := [(0, .new 58, 3), (3, .dup, 1), (4, .aload_n 0, 1), (5, .getfield 9, 3), (8, .aload_n 0, 1), (9, .getfield 27, 3), (12, .invokestatic 60, 3), (15, .aload_n 0, 1), (16, .getfield 15, 3), (19, .iconst 2, 1), (20, .aload_n 0, 1), (21, .getfield 45, 3), (24, .imul, 1), (25, .iconst 1, 1), (26, .iadd, 1), (27, .invokestatic 60, 3), (30, .aload_n 0, 1), (31, .getfield 45, 3), (34, .invokespecial 66, 3), (37, .areturn, 1)]
theorem dec_X5_compiled : ∀ q ∈ I_X5_compiled, decode cX5_compiled q.1 = .ok q.2 := by decide +kernel
def cmR (g : va_G) (tys : List (ClassId × FieldType)) (B0 : Nat) (τ : kTau) (H0 : Heap) : Heap → Option Value → Prop := fun H' v => ∃ (b c : Nat) (τ' : kTau), v = some (.ref b) ∧ c < 13 ∧ m_ok g tys B0 τ τ' NT_ru [] H0 H' ∧ τ' b = some (53 + c)
section
variable {l : Launch} {g : va_G} {tys : List (ClassId × FieldType)} {B0 : Nat} {τ : kTau}
theorem C_compiled (h0 : gE1 g) (htys : tys.map Prod.snd = gTyL) (H0 : Heap) (a : Nat) (ha : τ a = some 6) : m_Met l g tys B0 τ H0 yX5_compiled cX5_compiled 1 (some (.object RX4)) [.ref a] (cmR g tys B0 τ H0) ⟨2, 3, 803, 70⟩ := by
  refine m_met (I := I_X5_compiled) (FL := gFL5) h0 htys (by decide +kernel) dec_X5_compiled (fun X hts => gFLk5 hts) (by show 1 ≤ 1; decide) ?_
  intro X hl hr hC hret hQ hH hsz
  subst hl
  have hT := gTyL_tys (g := g) (B0 := B0) htys (fun _ _ _ => True)
  have la : a < H0.size := k_HT_lt hH ha
  obtain ⟨r1, f1, t1⟩ := tR_in h0 hH ha gR_at (k := 1) (u := 23) rfl
  obtain ⟨x, f2, x1, x2⟩ := tI_in h0 hH ha gR_at (k := 2) rfl
  obtain ⟨r2, f3, t3⟩ := tR_in h0 hH ha gR_at (k := 3) (u := 24) rfl
  obtain ⟨y, f4, y1, y2⟩ := tI_in h0 hH ha gR_at (k := 4) rfl
  have x1 : (0 : Int) ≤ x.toInt := x1
  have x2 : x.toInt ≤ 400 := x2
  have y1 : (0 : Int) ≤ y.toInt := y1
  have y2 : y.toInt ≤ 12 := y2
  obtain ⟨c, hc⟩ : ∃ c : Nat, y.toInt = (c : Int) := ⟨y.toInt.toNat, by omega⟩
  have c13 : c < 13 := by omega
  have ey : y = Int32.ofInt (c : Int) := Int32.toInt_inj.mp (by rw [i_of (by omega) (by omega)]; exact hc)
  have nb0 : τ H0.size = none := k_HT_top hH (Nat.le_refl _)
  refine z_new (τ := τ) (ci := 4) (C := RX4) (T := TX4) (N := 3) (ty := tyX4) hC rfl rfl gW4 tyX4_ok (z_dok4 _) wc_RX5_58 wn_4 wz_4 (by rw [hr]; exact Nat.le_of_ble_eq_true rfl) (by rw [hr]; exact Nat.le_of_ble_eq_true rfl) (fun H1 n1 s1 o1 => ?_)
  have m1 : m_ok g tys B0 τ τ NT_ru [] H0 H1 := m_ok_grow (m_ok_refl hH) (by omega) o1
  have a1 : H1[a]? = H0[a]? := o1 a la
  refine z_dup hC rfl rfl ?_
  refine z_lda hC rfl rfl rfl ?_
  refine z_get (τ := τ) (ci := 5) (k := 1) (ks := gRF) hC rfl rfl (ht_cell m1.2.2.1 ha gR_at) (by rw [a1]; exact f1) ?_
  refine z_lda hC rfl rfl rfl ?_
  refine z_get (τ := τ) (ci := 5) (k := 2) (ks := gRF) hC rfl rfl (ht_cell m1.2.2.1 ha gR_at) (by rw [a1]; exact f2) ?_
  obtain ⟨cA, ty, N, f, q1, q2, q3, q4, q5⟩ := k_arr m1.2.2.1 t1 (show gTT[23]? = some (.inr (0, 400, 400, [], _)) from rfl)
  have q1 : tys[0]? = some (cA, ty) := q1
  have q3 : 400 ≤ N := q3
  have q4 : N ≤ 400 := q4
  have ety : ty = .int := (hT 0 cA ty q1).1 rfl
  subst ety
  refine z_mS (As := [.ref r1, .int x]) (rest := [.ref H0.size, .ref H0.size]) (rm := ⟨1, 1, 400, 40⟩) hC rfl (C_copyOf (l := X.2.1) (τ := τ) h0 htys H1 r1 N cA f q1 q2 (fun j hj => by obtain ⟨z, z1, -⟩ := q5 j hj; exact ⟨z, z1⟩) q4 x x.toInt.toNat (by omega) (by omega)) m_Pc_blind (fun U hU hk hz => ⟨rfl, ⟨hk, hz⟩, by rw [hU]; omega, by rw [hU]; exact m1.2.2.1, hU⟩) wkc_1 wkc_2 wl_RX5_60 wkc_3 wkc_4 ⟨by rw [hr]; decide, by rw [hr]; decide⟩ ⟨by rw [hr]; decide, by rw [hr]; decide⟩ rfl (by show 2 ≤ 8; decide) (fun st0 u v hst hq => ?_)
  obtain ⟨v', e, rfl, s2, o2, cB, fB, w1, w2, w3⟩ := hq
  cases e
  generalize hu2 : u.heap = H2 at s2 o2 w2 ⊢
  have ecB : cB = cA := by
    have := w1.symm.trans q1
    cases this
    rfl
  subst ecB
  have n1b : τ H1.size = none := k_HT_top m1.2.2.1 (Nat.le_refl _)
  have m2 : m_ok g tys B0 τ (zt τ H1.size 31) NT_ru [] H0 H2 := m_ok_tag (m_ok_grow m1 (by omega) o2) n1b (by omega) (by omega) (by decide) (show gTT[31]? = some (.inr (0, 0, 400, [], kA)) from rfl) ⟨cB, .int, x.toInt.toNat, fB, q1, w2, Nat.zero_le _, by show x.toInt.toNat ≤ 400; omega, fun j hj => by rw [w3 j hj]; obtain ⟨z, z1, z2⟩ := q5 j (by omega); exact ⟨z, z1, z2⟩⟩
  have a2 : H2[a]? = H0[a]? := by rw [o2 a (by omega)]; exact a1
  have ha2 := m2.1 _ _ ha
  refine z_lda hC rfl rfl rfl ?_
  refine z_get (τ := zt τ H1.size 31) (ci := 5) (k := 3) (ks := gRF) hC rfl rfl (ht_cell m2.2.2.1 ha2 gR_at) (by rw [a2]; exact f3) ?_
  refine z_cst hC rfl rfl ?_
  refine z_lda hC rfl rfl rfl ?_
  refine z_get (τ := zt τ H1.size 31) (ci := 5) (k := 4) (ks := gRF) hC rfl rfl (ht_cell m2.2.2.1 ha2 gR_at) (by rw [a2]; exact f4) ?_
  refine z_imul hC rfl ?_
  refine z_cst hC rfl rfl ?_
  refine z_iadd hC rfl ?_
  obtain ⟨cC, tyC, NC, fC, r1', r2', r3', r4', r5'⟩ := k_arr m2.2.2.1 (m2.1 _ _ t3) (show gTT[24]? = some (.inr (0, 25, 25, [], .inl (0, 400))) from rfl)
  have r1' : tys[0]? = some (cC, tyC) := r1'
  have ecC : cC = cB ∧ tyC = .int := by
    have := r1'.symm.trans q1
    cases this
    exact ⟨rfl, rfl⟩
  obtain ⟨rfl, rfl⟩ := ecC
  have r3' : 25 ≤ NC := r3'
  have r4' : NC ≤ 25 := r4'
  have ex2 : (Int32.ofInt 2 * y + Int32.ofInt 1).toInt = ((2 * c + 1 : Nat) : Int) := by rw [ey]; exact rX c c13
  generalize Int32.ofInt 2 * y + Int32.ofInt 1 = y' at ex2 ⊢
  refine z_mS (As := [.ref r2, .int y']) (rest := [.ref H1.size, .ref H0.size, .ref H0.size]) (rm := ⟨1, 1, 400, 40⟩) hC rfl (C_copyOf (l := X.2.1) (τ := zt τ H1.size 31) h0 htys H2 r2 NC cC fC q1 r2' (fun j hj => by obtain ⟨z, z1, -⟩ := r5' j hj; exact ⟨z, z1⟩) (by omega) y' (2 * c + 1) ex2 (by omega)) m_Pc_blind (fun U hU hk hz => ⟨rfl, ⟨hk, hz⟩, by rw [hU]; omega, by rw [hU]; exact m2.2.2.1, hU⟩) wkc_1 wkc_2 wl_RX5_60 wkc_3 wkc_4 ⟨by rw [hr]; decide, by rw [hr]; decide⟩ ⟨by rw [hr]; decide, by rw [hr]; decide⟩ rfl (by show 3 ≤ 8; decide) (fun st0 u v hst hq => ?_)
  obtain ⟨v', e, rfl, s3, o3, cD, fD, w1', w2', w3'⟩ := hq
  cases e
  generalize hu3 : u.heap = H3 at s3 o3 w2' ⊢
  have ecD : cD = cC := by
    have := w1'.symm.trans q1
    cases this
    rfl
  subst ecD
  have n2b : zt τ H1.size 31 H2.size = none := k_HT_top m2.2.2.1 (Nat.le_refl _)
  have m3 : m_ok g tys B0 τ (zt (zt τ H1.size 31) H2.size (66 + c)) NT_ru [] H0 H3 := m_ok_tag (m_ok_grow m2 (by omega) o3) n2b (by omega) (by omega) (rM2 c c13) (sT_at c c13) ⟨cD, .int, 2 * c + 1, fD, q1, w2', Nat.le_refl _, Nat.le_refl _, fun j hj => by rw [w3' j hj]; obtain ⟨z, z1, z2⟩ := r5' j (by omega); exact ⟨z, z1, z2⟩⟩
  have a3 : H3[a]? = H0[a]? := by rw [o3 a (by omega)]; exact a2
  have ha3 := m3.1 _ _ ha
  refine z_lda hC rfl rfl rfl ?_
  refine z_get (τ := zt (zt τ H1.size 31) H2.size (66 + c)) (ci := 5) (k := 4) (ks := gRF) hC rfl rfl (ht_cell m3.2.2.1 ha3 gR_at) (by rw [a3]; exact f4) ?_
  have nb3 : zt (zt τ H1.size 31) H2.size (66 + c) H0.size = none := by
    rw [zt_ne (by omega), zt_ne (by omega)]
    exact nb0
  have hcell : k_cell (e0 g tys B0) (zt (zt τ H1.size 31) H2.size (66 + c)) H0.size H3 (.inl (4, z_ks tyX4 3)) := k_cell_up m3.1 (k_cell_kept n1 (by rw [o3 _ (by omega), o2 _ (by omega)]))
  refine z_init (b := H0.size) (As := [.ref H1.size, .ref H2.size, .int y]) (rest := [.ref H0.size]) (rm := R_4) hC rfl (C_X4_init (l := X.2.1) h0 htys c c13) wic_4 wz_4 wl_RX5_66 wim_4 rfl wid_4 ⟨by rw [hr]; decide, by rw [hr]; decide⟩ ⟨by rw [hr]; decide, by rw [hr]; decide⟩ m3.2.2.1 (by omega) nb3 hsz hcell rfl (fun i z hz => ?_) rfl (by show 1 ≤ 8; decide) (fun H4 τ4 hp => ?_)
  · match i, hz with
    | 0, hz => cases hz; exact ⟨_, rfl, Or.inr ⟨_, 31, rfl, List.mem_singleton.mpr rfl, by rw [zt_ne (by omega)]; exact zt_at⟩⟩
    | 1, hz => cases hz; exact ⟨_, rfl, Or.inr ⟨_, 66 + c, rfl, List.mem_singleton.mpr rfl, zt_at⟩⟩
    | 2, hz => cases hz; exact ⟨_, rfl, _, rfl, by rw [hc]; exact Int.le_refl _, by rw [hc]; exact Int.le_refl _⟩
    | n + 3, hz => cases hz
  have m4 := m_ok_init m3 nb3 (Nat.le_refl _) (rM1 c c13) (fun u hu => by cases hu) hp
  exact z_aret hC hret (Or.inl ⟨_, rfl⟩) hQ rfl (Nat.le_refl _) (Nat.le_refl _) ⟨_, c, τ4, rfl, c13, m4, hp.2.2.2.1⟩
end
