/-! ===== words for making ===== -/
theorem z_refT {ty : FieldType} {b : Nat} (h : ty.isReference = true) : narrow ty (.ref b) = .ref b ∧ fits ty (.ref b) = true ∧ 3 < 4 := by
  cases ty <;> first | exact ⟨rfl, rfl, by decide⟩ | cases h
theorem z_el0 {τ : kTau} {exc : List (Nat × Nat × kInfo)} {d : kInfo} {v : Value} (h : ((d :: exc.map (fun q => q.2.2)).all (fun x => match x, v with
  | .inl q, .int y => k_le q.1 y.toInt && k_le y.toInt q.2
  | .inr (.inl q), .long y => k_le q.1 y.toInt && k_le y.toInt q.2
  | _, _ => false)) = true) (j : Nat) : k_ok τ (k_el exc d j) v := by
  rw [List.all_eq_true] at h
  have key : ∀ x, x ∈ d :: exc.map (fun q => q.2.2) → k_ok τ x v := by
    intro x hx
    have := h x hx
    match x, v, this with
    | .inl q, .int y, this =>
      rw [Bool.and_eq_true, k_le_iff, k_le_iff] at this
      exact ⟨y, rfl, this⟩
    | .inr (.inl q), .long y, this =>
      rw [Bool.and_eq_true, k_le_iff, k_le_iff] at this
      exact ⟨y, rfl, this⟩
  apply key
  clear key h
  induction exc with
  | nil => exact List.mem_cons_self
  | cons q r ih =>
    unfold k_el
    split
    · exact List.mem_cons_of_mem _ (by rw [List.map_cons]; exact List.mem_cons_self)
    · rcases List.mem_cons.mp ih with e | e
      · rw [e]; exact List.mem_cons_self
      · exact List.mem_cons_of_mem _ (by rw [List.map_cons]; exact List.mem_cons_of_mem _ e)
theorem z_arg1 {τ : kTau} {As : List Value} {t : Nat} (hAl : As.length = [(.inr (.inr (.inl (false, [t]))) : kInfo)].length) (hA : ∀ (i : Nat) (x : kInfo), [(.inr (.inr (.inl (false, [t]))) : kInfo)][i]? = some x → ∃ v, As[i]? = some v ∧ k_ok τ x v) : ∃ p : Nat, As = [.ref p] ∧ τ p = some t := by
  match As, hAl with
  | [w0], _ =>
    obtain ⟨u0, z0, o0⟩ := hA 0 _ rfl
    obtain ⟨a, r0, ha⟩ := k_refOk o0
    have y0 : w0 = .ref a := by simpa [r0] using z0
    subst y0
    exact ⟨a, rfl, ha⟩
theorem z_arg2 {τ : kTau} {As : List Value} {t t' : Nat} (hAl : As.length = [(.inr (.inr (.inl (false, [t]))) : kInfo), .inr (.inr (.inl (false, [t'])))].length) (hA : ∀ (i : Nat) (x : kInfo), [(.inr (.inr (.inl (false, [t]))) : kInfo), .inr (.inr (.inl (false, [t'])))][i]? = some x → ∃ v, As[i]? = some v ∧ k_ok τ x v) : ∃ p p' : Nat, As = [.ref p, .ref p'] ∧ τ p = some t ∧ τ p' = some t' := by
  match As, hAl with
  | [w0, w1], _ =>
    obtain ⟨u0, z0, o0⟩ := hA 0 _ rfl
    obtain ⟨u1, z1, o1⟩ := hA 1 _ rfl
    obtain ⟨a, r0, ha⟩ := k_refOk o0
    obtain ⟨b, r1, hb⟩ := k_refOk o1
    have y0 : w0 = .ref a := by simpa [r0] using z0
    have y1 : w1 = .ref b := by simpa [r1] using z1
    subst y0; subst y1
    exact ⟨a, b, rfl, ha, hb⟩
theorem wo_inst : Jvm.Cond.instanceMethod Lib.objectInit ∈ gTB := gIn (i := 153) (by decide +kernel) (by decide +kernel)
theorem wo_code : Jvm.Cond.code Lib.objectInit ⟨#[0xb1]⟩ 1 none ∈ gTB := gIn (i := 154) (by decide +kernel) (by decide +kernel)
theorem wlo_RX6_3 : Jvm.Cond.methodLink RX6 3 Lib.objectInit ∈ gTB := gIn (i := 258) (by decide +kernel) (by decide +kernel)
theorem wa_int : Jvm.Cond.arrayClass .int ∈ gTB := gIn (i := 188) (by decide +kernel) (by decide +kernel)
theorem wlo_RX8_3 : Jvm.Cond.methodLink RX8 3 Lib.objectInit ∈ gTB := gIn (i := 200) (by decide +kernel) (by decide +kernel)
theorem wlo_RX7_3 : Jvm.Cond.methodLink RX7 3 Lib.objectInit ∈ gTB := gIn (i := 160) (by decide +kernel) (by decide +kernel)
theorem wa_byte : Jvm.Cond.arrayClass .byte ∈ gTB := gIn (i := 187) (by decide +kernel) (by decide +kernel)
theorem wlo_RX10_3 : Jvm.Cond.methodLink RX10 3 Lib.objectInit ∈ gTB := gIn (i := 194) (by decide +kernel) (by decide +kernel)
theorem wc_RX10_9 : Jvm.Cond.classLink RX10 9 RX8 ∈ gTB := gIn (i := 195) (by decide +kernel) (by decide +kernel)
theorem wn_8 : Jvm.Cond.instantiable RX8 9 ∈ gTB := gIn (i := 196) (by decide +kernel) (by decide +kernel)
theorem wz_8 : Jvm.Cond.initialized RX8 ∈ gTB := gIn (i := 129) (by decide +kernel) (by decide +kernel)
theorem wic_8 : Jvm.Cond.code yX8_init cX8_init 1 none ∈ gTB := gIn (i := 199) (by decide +kernel) (by decide +kernel)
theorem wim_8 : Jvm.Cond.instanceMethod yX8_init ∈ gTB := gIn (i := 198) (by decide +kernel) (by decide +kernel)
theorem wid_8 : yX8_init.cls ≠ "java/lang/invoke/MethodHandle" ∧ yX8_init.cls ≠ "java/lang/invoke/VarHandle" ∧ (parseMethodDescriptor yX8_init.desc).map (fun d => d.parameters.length) = some 0 := by decide +kernel
theorem wc_RX10_18 : Jvm.Cond.classLink RX10 18 RX6 ∈ gTB := gIn (i := 253) (by decide +kernel) (by decide +kernel)
theorem wn_6 : Jvm.Cond.instantiable RX6 9 ∈ gTB := gIn (i := 254) (by decide +kernel) (by decide +kernel)
theorem wz_6 : Jvm.Cond.initialized RX6 ∈ gTB := gIn (i := 130) (by decide +kernel) (by decide +kernel)
theorem wic_6 : Jvm.Cond.code yX6_init cX6_init 1 none ∈ gTB := gIn (i := 257) (by decide +kernel) (by decide +kernel)
theorem wim_6 : Jvm.Cond.instanceMethod yX6_init ∈ gTB := gIn (i := 256) (by decide +kernel) (by decide +kernel)
theorem wid_6 : yX6_init.cls ≠ "java/lang/invoke/MethodHandle" ∧ yX6_init.cls ≠ "java/lang/invoke/VarHandle" ∧ (parseMethodDescriptor yX6_init.desc).map (fun d => d.parameters.length) = some 0 := by decide +kernel
theorem wlo_RX9_3 : Jvm.Cond.methodLink RX9 3 Lib.objectInit ∈ gTB := gIn (i := 358) (by decide +kernel) (by decide +kernel)
theorem wc_RX9_9 : Jvm.Cond.classLink RX9 9 RX8 ∈ gTB := gIn (i := 359) (by decide +kernel) (by decide +kernel)
theorem wlo_RX5_3 : Jvm.Cond.methodLink RX5 3 Lib.objectInit ∈ gTB := gIn (i := 374) (by decide +kernel) (by decide +kernel)
theorem wlo_RX1_3 : Jvm.Cond.methodLink RX1 3 Lib.objectInit ∈ gTB := gIn (i := 399) (by decide +kernel) (by decide +kernel)
theorem wc_RX1_9 : Jvm.Cond.classLink RX1 9 RX6 ∈ gTB := gIn (i := 400) (by decide +kernel) (by decide +kernel)
theorem wa_long : Jvm.Cond.arrayClass .long ∈ gTB := gIn (i := 442) (by decide +kernel) (by decide +kernel)
theorem wlo_RX0_3 : Jvm.Cond.methodLink RX0 3 Lib.objectInit ∈ gTB := gIn (i := 448) (by decide +kernel) (by decide +kernel)
theorem wlo_RX2_3 : Jvm.Cond.methodLink RX2 3 Lib.objectInit ∈ gTB := gIn (i := 507) (by decide +kernel) (by decide +kernel)
def I_X6_init : List (Nat × Instr × Nat) := [(0, .aload_n 0, 1), (1, .invokespecial 3, 3), (4, .aload_n 0, 1), (5, .bipush 6, 2), (7, .newarray .int, 2), (9, .putfield 9, 3), (12, .aload_n 0, 1), (13, .bipush 6, 2), (15, .newarray .int, 2), (17, .putfield 15, 3), (20, .aload_n 0, 1), (21, .bipush 6, 2), (23, .newarray .int, 2), (25, .putfield 18, 3), (28, .aload_n 0, 1), (29, .bipush 6, 2), (31, .newarray .int, 2), (33, .putfield 21, 3), (36, .aload_n 0, 1), (37, .iconst (-1), 1), (38, .putfield 24, 3), (41, .return_, 1)]
theorem dec_X6_init : ∀ q ∈ I_X6_init, decode cX6_init q.1 = .ok q.2 := by decide +kernel
def I_X8_init : List (Nat × Instr × Nat) := [(0, .aload_n 0, 1), (1, .invokespecial 3, 3), (4, .aload_n 0, 1), (5, .bipush 6, 2), (7, .newarray .int, 2), (9, .putfield 9, 3), (12, .aload_n 0, 1), (13, .bipush 6, 2), (15, .newarray .int, 2), (17, .putfield 15, 3), (20, .aload_n 0, 1), (21, .bipush 6, 2), (23, .newarray .int, 2), (25, .putfield 18, 3), (28, .aload_n 0, 1), (29, .bipush 6, 2), (31, .newarray .int, 2), (33, .putfield 21, 3), (36, .aload_n 0, 1), (37, .bipush 49, 2), (39, .newarray .int, 2), (41, .putfield 24, 3), (44, .return_, 1)]
theorem dec_X8_init : ∀ q ∈ I_X8_init, decode cX8_init q.1 = .ok q.2 := by decide +kernel
def I_X7_init : List (Nat × Instr × Nat) := [(0, .aload_n 0, 1), (1, .invokespecial 3, 3), (4, .aload_n 0, 1), (5, .sipush 400, 3), (8, .newarray .byte, 2), (10, .putfield 9, 3), (13, .aload_n 0, 1), (14, .sipush 401, 3), (17, .newarray .int, 2), (19, .putfield 15, 3), (22, .aload_n 0, 1), (23, .sipush 401, 3), (26, .newarray .int, 2), (28, .putfield 19, 3), (31, .aload_n 0, 1), (32, .sipush 401, 3), (35, .newarray .int, 2), (37, .putfield 22, 3), (40, .return_, 1)]
theorem dec_X7_init : ∀ q ∈ I_X7_init, decode cX7_init q.1 = .ok q.2 := by decide +kernel
def I_X10_init : List (Nat × Instr × Nat) := [(0, .aload_n 0, 1), (1, .invokespecial 3, 3), (4, .aload_n 0, 1), (5, .new 9, 3), (8, .dup, 1), (9, .invokespecial 11, 3), (12, .putfield 12, 3), (15, .aload_n 0, 1), (16, .new 18, 3), (19, .dup, 1), (20, .invokespecial 20, 3), (23, .putfield 21, 3), (26, .aload_n 0, 1), (27, .bipush 10, 2), (29, .newarray .int, 2), (31, .putfield 25, 3), (34, .aload_n 0, 1), (35, .bipush 10, 2), (37, .newarray .int, 2), (39, .putfield 29, 3), (42, .aload_n 0, 1), (43, .iconst (-1), 1), (44, .putfield 32, 3), (47, .return_, 1)]
theorem dec_X10_init : ∀ q ∈ I_X10_init, decode cX10_init q.1 = .ok q.2 := by decide +kernel
def I_X9_init : List (Nat × Instr × Nat) := [(0, .aload_n 0, 1), (1, .invokespecial 3, 3), (4, .aload_n 0, 1), (5, .new 9, 3), (8, .dup, 1), (9, .invokespecial 11, 3), (12, .putfield 12, 3), (15, .aload_n 0, 1), (16, .aload_n 1, 1), (17, .putfield 18, 3), (20, .return_, 1)]
theorem dec_X9_init : ∀ q ∈ I_X9_init, decode cX9_init q.1 = .ok q.2 := by decide +kernel
def I_X5_init : List (Nat × Instr × Nat) := [(0, .aload_n 0, 1), (1, .invokespecial 3, 3), (4, .aload_n 0, 1), (5, .sipush 400, 3), (8, .newarray .int, 2), (10, .putfield 9, 3), (13, .aload_n 0, 1), (14, .bipush 25, 2), (16, .newarray .int, 2), (18, .putfield 15, 3), (21, .aload_n 0, 1), (22, .aload_n 1, 1), (23, .putfield 18, 3), (26, .return_, 1)]
theorem dec_X5_init : ∀ q ∈ I_X5_init, decode cX5_init q.1 = .ok q.2 := by decide +kernel
def I_X1_init : List (Nat × Instr × Nat) := [(0, .aload_n 0, 1), (1, .invokespecial 3, 3), (4, .aload_n 0, 1), (5, .new 9, 3), (8, .dup, 1), (9, .invokespecial 11, 3), (12, .putfield 12, 3), (15, .aload_n 0, 1), (16, .bipush 64, 2), (18, .newarray .long, 2), (20, .putfield 18, 3), (23, .aload_n 0, 1), (24, .iconst (-1), 1), (25, .putfield 22, 3), (28, .aload_n 0, 1), (29, .aload_n 1, 1), (30, .putfield 26, 3), (33, .aload_n 0, 1), (34, .aload_n 1, 1), (35, .getfield 30, 3), (38, .putfield 36, 3), (41, .aload_n 0, 1), (42, .aload_n 2, 1), (43, .putfield 37, 3), (46, .return_, 1)]
theorem dec_X1_init : ∀ q ∈ I_X1_init, decode cX1_init q.1 = .ok q.2 := by decide +kernel
def I_X0_init : List (Nat × Instr × Nat) := [(0, .aload_n 0, 1), (1, .invokespecial 3, 3), (4, .aload_n 0, 1), (5, .iconst 3, 1), (6, .newarray .int, 2), (8, .putfield 9, 3), (11, .aload_n 0, 1), (12, .bipush 25, 2), (14, .newarray .int, 2), (16, .putfield 15, 3), (19, .aload_n 0, 1), (20, .bipush 25, 2), (22, .newarray .int, 2), (24, .putfield 18, 3), (27, .aload_n 0, 1), (28, .aload_n 1, 1), (29, .putfield 21, 3), (32, .aload_n 0, 1), (33, .aload_n 1, 1), (34, .getfield 25, 3), (37, .putfield 31, 3), (40, .aload_n 0, 1), (41, .aload_n 2, 1), (42, .putfield 32, 3), (45, .return_, 1)]
theorem dec_X0_init : ∀ q ∈ I_X0_init, decode cX0_init q.1 = .ok q.2 := by decide +kernel
def I_X2_init : List (Nat × Instr × Nat) := [(0, .aload_n 0, 1), (1, .invokespecial 3, 3), (4, .aload_n 0, 1), (5, .sipush 427, 3), (8, .newarray .int, 2), (10, .putfield 11, 3), (13, .aload_n 0, 1), (14, .bipush 7, 2), (16, .newarray .int, 2), (18, .putfield 15, 3), (21, .aload_n 0, 1), (22, .aload_n 1, 1), (23, .putfield 18, 3), (26, .aload_n 0, 1), (27, .aload_n 2, 1), (28, .putfield 22, 3), (31, .return_, 1)]
theorem dec_X2_init : ∀ q ∈ I_X2_init, decode cX2_init q.1 = .ok q.2 := by decide +kernel
theorem hN_0 : ∃ r : vw_C, gCl[0]? = some r ∧ r.2.2 = 6 := ⟨_, rfl, rfl⟩
theorem hap_0 {g : va_G} (h0 : gE1 g) : ∀ x y, x < 6 → y < 6 → x ≠ y → g.2 0 x ≠ g.2 0 y := by
  obtain ⟨r, -, -, h⟩ := h0 8 _ rfl
  exact h
theorem z_dok0 (τ : kTau) : ∀ k, k < 6 → k_ok τ (z_k0 (tyX0 k)) (defaultValue (tyX0 k))
  | 0, _ => Or.inl ⟨rfl, rfl⟩
  | 1, _ => Or.inl ⟨rfl, rfl⟩
  | 2, _ => Or.inl ⟨rfl, rfl⟩
  | 3, _ => Or.inl ⟨rfl, rfl⟩
  | 4, _ => Or.inl ⟨rfl, rfl⟩
  | 5, _ => Or.inl ⟨rfl, rfl⟩
  | n + 6, h => absurd h (by omega)
theorem hN_1 : ∃ r : vw_C, gCl[1]? = some r ∧ r.2.2 = 11 := ⟨_, rfl, rfl⟩
theorem hap_1 {g : va_G} (h0 : gE1 g) : ∀ x y, x < 11 → y < 11 → x ≠ y → g.2 1 x ≠ g.2 1 y := by
  obtain ⟨r, -, -, h⟩ := h0 7 _ rfl
  exact h
theorem z_dok1 (τ : kTau) : ∀ k, k < 11 → k_ok τ (z_k0 (tyX1 k)) (defaultValue (tyX1 k))
  | 0, _ => Or.inl ⟨rfl, rfl⟩
  | 1, _ => Or.inl ⟨rfl, rfl⟩
  | 2, _ => Or.inl ⟨rfl, rfl⟩
  | 3, _ => Or.inl ⟨rfl, rfl⟩
  | 4, _ => Or.inl ⟨rfl, rfl⟩
  | 5, _ => Or.inl ⟨rfl, rfl⟩
  | 6, _ => ⟨0, rfl, by decide, by decide⟩
  | 7, _ => ⟨0, rfl, by decide, by decide⟩
  | 8, _ => ⟨0, rfl, by decide, by decide⟩
  | 9, _ => ⟨0, rfl, by decide, by decide⟩
  | 10, _ => ⟨0, rfl, by decide, by decide⟩
  | n + 11, h => absurd h (by omega)
theorem hN_2 : ∃ r : vw_C, gCl[2]? = some r ∧ r.2.2 = 10 := ⟨_, rfl, rfl⟩
theorem hap_2 {g : va_G} (h0 : gE1 g) : ∀ x y, x < 10 → y < 10 → x ≠ y → g.2 2 x ≠ g.2 2 y := by
  obtain ⟨r, -, -, h⟩ := h0 10 _ rfl
  exact h
theorem z_dok2 (τ : kTau) : ∀ k, k < 10 → k_ok τ (z_k0 (tyX2 k)) (defaultValue (tyX2 k))
  | 0, _ => Or.inl ⟨rfl, rfl⟩
  | 1, _ => Or.inl ⟨rfl, rfl⟩
  | 2, _ => Or.inl ⟨rfl, rfl⟩
  | 3, _ => Or.inl ⟨rfl, rfl⟩
  | 4, _ => ⟨0, rfl, by decide, by decide⟩
  | 5, _ => ⟨0, rfl, by decide, by decide⟩
  | 6, _ => ⟨0, rfl, by decide, by decide⟩
  | 7, _ => ⟨0, rfl, by decide, by decide⟩
  | 8, _ => ⟨0, rfl, by decide, by decide⟩
  | 9, _ => ⟨0, rfl, by decide, by decide⟩
  | n + 10, h => absurd h (by omega)
theorem hN_3 : ∃ r : vw_C, gCl[3]? = some r ∧ r.2.2 = 7 := ⟨_, rfl, rfl⟩
theorem hap_3 {g : va_G} (h0 : gE1 g) : ∀ x y, x < 7 → y < 7 → x ≠ y → g.2 3 x ≠ g.2 3 y := by
  obtain ⟨r, -, -, h⟩ := h0 9 _ rfl
  exact h
theorem z_dok3 (τ : kTau) : ∀ k, k < 7 → k_ok τ (z_k0 (tyX3 k)) (defaultValue (tyX3 k))
  | 0, _ => Or.inl ⟨rfl, rfl⟩
  | 1, _ => Or.inl ⟨rfl, rfl⟩
  | 2, _ => Or.inl ⟨rfl, rfl⟩
  | 3, _ => Or.inl ⟨rfl, rfl⟩
  | 4, _ => ⟨0, rfl, by decide, by decide⟩
  | 5, _ => ⟨0, rfl, by decide, by decide⟩
  | 6, _ => ⟨0, rfl, by decide, by decide⟩
  | n + 7, h => absurd h (by omega)
theorem hN_4 : ∃ r : vw_C, gCl[4]? = some r ∧ r.2.2 = 3 := ⟨_, rfl, rfl⟩
theorem hap_4 {g : va_G} (h0 : gE1 g) : ∀ x y, x < 3 → y < 3 → x ≠ y → g.2 4 x ≠ g.2 4 y := by
  obtain ⟨r, -, -, h⟩ := h0 53 _ rfl
  exact h
theorem z_dok4 (τ : kTau) : ∀ k, k < 3 → k_ok τ (z_k0 (tyX4 k)) (defaultValue (tyX4 k))
  | 0, _ => Or.inl ⟨rfl, rfl⟩
  | 1, _ => Or.inl ⟨rfl, rfl⟩
  | 2, _ => ⟨0, rfl, by decide, by decide⟩
  | n + 3, h => absurd h (by omega)
theorem hN_5 : ∃ r : vw_C, gCl[5]? = some r ∧ r.2.2 = 6 := ⟨_, rfl, rfl⟩
theorem hap_5 {g : va_G} (h0 : gE1 g) : ∀ x y, x < 6 → y < 6 → x ≠ y → g.2 5 x ≠ g.2 5 y := by
  obtain ⟨r, -, -, h⟩ := h0 6 _ rfl
  exact h
theorem z_dok5 (τ : kTau) : ∀ k, k < 6 → k_ok τ (z_k0 (tyX5 k)) (defaultValue (tyX5 k))
  | 0, _ => Or.inl ⟨rfl, rfl⟩
  | 1, _ => Or.inl ⟨rfl, rfl⟩
  | 2, _ => ⟨0, rfl, by decide, by decide⟩
  | 3, _ => Or.inl ⟨rfl, rfl⟩
  | 4, _ => ⟨0, rfl, by decide, by decide⟩
  | 5, _ => ⟨0, rfl, by decide, by decide⟩
  | n + 6, h => absurd h (by omega)
theorem hN_6 : ∃ r : vw_C, gCl[6]? = some r ∧ r.2.2 = 9 := ⟨_, rfl, rfl⟩
theorem hap_6 {g : va_G} (h0 : gE1 g) : ∀ x y, x < 9 → y < 9 → x ≠ y → g.2 6 x ≠ g.2 6 y := by
  obtain ⟨r, -, -, h⟩ := h0 4 _ rfl
  exact h
theorem z_dok6 (τ : kTau) : ∀ k, k < 9 → k_ok τ (z_k0 (tyX6 k)) (defaultValue (tyX6 k))
  | 0, _ => Or.inl ⟨rfl, rfl⟩
  | 1, _ => Or.inl ⟨rfl, rfl⟩
  | 2, _ => Or.inl ⟨rfl, rfl⟩
  | 3, _ => Or.inl ⟨rfl, rfl⟩
  | 4, _ => ⟨0, rfl, by decide, by decide⟩
  | 5, _ => ⟨0, rfl, by decide, by decide⟩
  | 6, _ => ⟨0, rfl, by decide, by decide⟩
  | 7, _ => ⟨0, rfl, by decide, by decide⟩
  | 8, _ => ⟨0, rfl, by decide, by decide⟩
  | n + 9, h => absurd h (by omega)
theorem hN_7 : ∃ r : vw_C, gCl[7]? = some r ∧ r.2.2 = 7 := ⟨_, rfl, rfl⟩
theorem hap_7 {g : va_G} (h0 : gE1 g) : ∀ x y, x < 7 → y < 7 → x ≠ y → g.2 7 x ≠ g.2 7 y := by
  obtain ⟨r, -, -, h⟩ := h0 1 _ rfl
  exact h
theorem z_dok7 (τ : kTau) : ∀ k, k < 7 → k_ok τ (z_k0 (tyX7 k)) (defaultValue (tyX7 k))
  | 0, _ => Or.inl ⟨rfl, rfl⟩
  | 1, _ => ⟨0, rfl, by decide, by decide⟩
  | 2, _ => Or.inl ⟨rfl, rfl⟩
  | 3, _ => Or.inl ⟨rfl, rfl⟩
  | 4, _ => Or.inl ⟨rfl, rfl⟩
  | 5, _ => ⟨0, rfl, by decide, by decide⟩
  | 6, _ => ⟨0, rfl, by decide, by decide⟩
  | n + 7, h => absurd h (by omega)
theorem hN_8 : ∃ r : vw_C, gCl[8]? = some r ∧ r.2.2 = 9 := ⟨_, rfl, rfl⟩
theorem hap_8 {g : va_G} (h0 : gE1 g) : ∀ x y, x < 9 → y < 9 → x ≠ y → g.2 8 x ≠ g.2 8 y := by
  obtain ⟨r, -, -, h⟩ := h0 3 _ rfl
  exact h
theorem z_dok8 (τ : kTau) : ∀ k, k < 9 → k_ok τ (z_k0 (tyX8 k)) (defaultValue (tyX8 k))
  | 0, _ => ⟨0, rfl, by decide, by decide⟩
  | 1, _ => ⟨0, rfl, by decide, by decide⟩
  | 2, _ => ⟨0, rfl, by decide, by decide⟩
  | 3, _ => ⟨0, rfl, by decide, by decide⟩
  | 4, _ => Or.inl ⟨rfl, rfl⟩
  | 5, _ => Or.inl ⟨rfl, rfl⟩
  | 6, _ => Or.inl ⟨rfl, rfl⟩
  | 7, _ => Or.inl ⟨rfl, rfl⟩
  | 8, _ => Or.inl ⟨rfl, rfl⟩
  | n + 9, h => absurd h (by omega)
theorem hN_9 : ∃ r : vw_C, gCl[9]? = some r ∧ r.2.2 = 2 := ⟨_, rfl, rfl⟩
theorem hap_9 {g : va_G} (h0 : gE1 g) : ∀ x y, x < 2 → y < 2 → x ≠ y → g.2 9 x ≠ g.2 9 y := by
  obtain ⟨r, -, -, h⟩ := h0 5 _ rfl
  exact h
theorem z_dok9 (τ : kTau) : ∀ k, k < 2 → k_ok τ (z_k0 (tyX9 k)) (defaultValue (tyX9 k))
  | 0, _ => Or.inl ⟨rfl, rfl⟩
  | 1, _ => Or.inl ⟨rfl, rfl⟩
  | n + 2, h => absurd h (by omega)
theorem hN_10 : ∃ r : vw_C, gCl[10]? = some r ∧ r.2.2 = 7 := ⟨_, rfl, rfl⟩
theorem hap_10 {g : va_G} (h0 : gE1 g) : ∀ x y, x < 7 → y < 7 → x ≠ y → g.2 10 x ≠ g.2 10 y := by
  obtain ⟨r, -, -, h⟩ := h0 2 _ rfl
  exact h
theorem z_dok10 (τ : kTau) : ∀ k, k < 7 → k_ok τ (z_k0 (tyX10 k)) (defaultValue (tyX10 k))
  | 0, _ => Or.inl ⟨rfl, rfl⟩
  | 1, _ => Or.inl ⟨rfl, rfl⟩
  | 2, _ => Or.inl ⟨rfl, rfl⟩
  | 3, _ => Or.inl ⟨rfl, rfl⟩
  | 4, _ => ⟨0, rfl, by decide, by decide⟩
  | 5, _ => ⟨0, rfl, by decide, by decide⟩
  | 6, _ => ⟨0, rfl, by decide, by decide⟩
  | n + 7, h => absurd h (by omega)
theorem hN_11 : ∃ r : vw_C, gCl[11]? = some r ∧ r.2.2 = 14 := ⟨_, rfl, rfl⟩
theorem hap_11 {g : va_G} (h0 : gE1 g) : ∀ x y, x < 14 → y < 14 → x ≠ y → g.2 11 x ≠ g.2 11 y := by
  obtain ⟨r, -, -, h⟩ := h0 0 _ rfl
  exact h
theorem z_dok11 (τ : kTau) : ∀ k, k < 14 → k_ok τ (z_k0 (tyX11 k)) (defaultValue (tyX11 k))
  | 0, _ => Or.inl ⟨rfl, rfl⟩
  | 1, _ => Or.inl ⟨rfl, rfl⟩
  | 2, _ => Or.inl ⟨rfl, rfl⟩
  | 3, _ => Or.inl ⟨rfl, rfl⟩
  | 4, _ => ⟨0, rfl, by decide, by decide⟩
  | 5, _ => Or.inl ⟨rfl, rfl⟩
  | 6, _ => ⟨0, rfl, by decide, by decide⟩
  | 7, _ => ⟨0, rfl, by decide, by decide⟩
  | 8, _ => Or.inl ⟨rfl, rfl⟩
  | 9, _ => Or.inl ⟨rfl, rfl⟩
  | 10, _ => Or.inl ⟨rfl, rfl⟩
  | 11, _ => Or.inl ⟨rfl, rfl⟩
  | 12, _ => Or.inl ⟨rfl, rfl⟩
  | 13, _ => Or.inl ⟨rfl, rfl⟩
  | n + 14, h => absurd h (by omega)
theorem hN_12 : ∃ r : vw_C, gCl[12]? = some r ∧ r.2.2 = 43 := ⟨_, rfl, rfl⟩
theorem hap_12 {g : va_G} (h0 : gE1 g) : ∀ x y, x < 43 → y < 43 → x ≠ y → g.2 12 x ≠ g.2 12 y := by
  obtain ⟨r, -, -, h⟩ := h0 11 _ rfl
  exact h
theorem z_dok12 (τ : kTau) : ∀ k, k < 43 → k_ok τ (z_k0 (tyX12 k)) (defaultValue (tyX12 k))
  | 0, _ => Or.inl ⟨rfl, rfl⟩
  | 1, _ => ⟨0, rfl, by decide, by decide⟩
  | 2, _ => ⟨0, rfl, by decide, by decide⟩
  | 3, _ => Or.inl ⟨rfl, rfl⟩
  | 4, _ => Or.inl ⟨rfl, rfl⟩
  | 5, _ => Or.inl ⟨rfl, rfl⟩
  | 6, _ => Or.inl ⟨rfl, rfl⟩
  | 7, _ => Or.inl ⟨rfl, rfl⟩
  | 8, _ => ⟨0, rfl, by decide, by decide⟩
  | 9, _ => ⟨0, rfl, by decide, by decide⟩
  | 10, _ => ⟨0, rfl, by decide, by decide⟩
  | 11, _ => ⟨0, rfl, by decide, by decide⟩
  | 12, _ => ⟨0, rfl, by decide, by decide⟩
  | 13, _ => ⟨0, rfl, by decide, by decide⟩
  | 14, _ => ⟨0, rfl, by decide, by decide⟩
  | 15, _ => Or.inl ⟨rfl, rfl⟩
  | 16, _ => ⟨0, rfl, by decide, by decide⟩
  | 17, _ => ⟨0, rfl, by decide, by decide⟩
  | 18, _ => Or.inl ⟨rfl, rfl⟩
  | 19, _ => ⟨0, rfl, by decide, by decide⟩
  | 20, _ => Or.inl ⟨rfl, rfl⟩
  | 21, _ => Or.inl ⟨rfl, rfl⟩
  | 22, _ => ⟨0, rfl, by decide, by decide⟩
  | 23, _ => ⟨0, rfl, by decide, by decide⟩
  | 24, _ => Or.inl ⟨rfl, rfl⟩
  | 25, _ => ⟨0, rfl, by decide, by decide⟩
  | 26, _ => ⟨0, rfl, by decide, by decide⟩
  | 27, _ => ⟨0, rfl, by decide, by decide⟩
  | 28, _ => ⟨0, rfl, by decide, by decide⟩
  | 29, _ => ⟨0, rfl, by decide, by decide⟩
  | 30, _ => Or.inl ⟨rfl, rfl⟩
  | 31, _ => ⟨0, rfl, by decide, by decide⟩
  | 32, _ => Or.inl ⟨rfl, rfl⟩
  | 33, _ => Or.inl ⟨rfl, rfl⟩
  | 34, _ => ⟨0, rfl, by decide, by decide⟩
  | 35, _ => Or.inl ⟨rfl, rfl⟩
  | 36, _ => Or.inl ⟨rfl, rfl⟩
  | 37, _ => Or.inl ⟨rfl, rfl⟩
  | 38, _ => ⟨0, rfl, by decide, by decide⟩
  | 39, _ => Or.inl ⟨rfl, rfl⟩
  | 40, _ => Or.inl ⟨rfl, rfl⟩
  | 41, _ => Or.inl ⟨rfl, rfl⟩
  | 42, _ => Or.inl ⟨rfl, rfl⟩
  | n + 43, h => absurd h (by omega)
