/-! ===== words for making ===== -/
theorem z_refT {ty : FieldType} {b : Nat} (h : ty.isReference = true) : narrow ty (.ref b) = .ref b ∧ fits ty (.ref b) = true ∧ 3 < 4 := by
  cases ty <;> first | exact ⟨rfl, rfl, by decide⟩ | cases h
theorem z_el0 {τ : kTau} {exc : List (Nat × Nat × kInfo)} {d : kInfo} {v : Value} (h : ((d :: exc.map (fun q => q.2.2)).all (fun x => match x, v with
  | .inl q, .int y => k_le q.1 y.toInt && k_le y.toInt q.2
  | .inr (.inl q), .long y => k_le q.1 y.toInt && k_le y.toInt q.2
  | _, _ => false)) = true) (j : Nat) : k_ok τ (k_el exc d j) v := by
  rw [List.all_eq_true] at h
  have key : ∀ x, x ∈ d :: exc.map (fun q => q.2.2) → k_ok τ x v := by
    intro x hx
    have := h x hx
    match x, v, this with
    | .inl q, .int y, this =>
      rw [Bool.and_eq_true, k_le_iff, k_le_iff] at this
      exact ⟨y, rfl, this⟩
    | .inr (.inl q), .long y, this =>
      rw [Bool.and_eq_true, k_le_iff, k_le_iff] at this
      exact ⟨y, rfl, this⟩
  apply key
  clear key h
  induction exc with
  | nil => exact List.mem_cons_self
  | cons q r ih =>
    unfold k_el
    split
    · exact List.mem_cons_of_mem _ (by rw [List.map_cons]; exact List.mem_cons_self)
    · rcases List.mem_cons.mp ih with e | e
      · rw [e]; exact List.mem_cons_self
      · exact List.mem_cons_of_mem _ (by rw [List.map_cons]; exact List.mem_cons_of_mem _ e)
theorem z_arg1 {τ : kTau} {As : List Value} {t : Nat} (hAl : As.length = [(.inr (.inr (.inl (false, [t]))) : kInfo)].length) (hA : ∀ (i : Nat) (x : kInfo), [(.inr (.inr (.inl (false, [t]))) : kInfo)][i]? = some x → ∃ v, As[i]? = some v ∧ k_ok τ x v) : ∃ p : Nat, As = [.ref p] ∧ τ p = some t := by
  match As, hAl with
  | [w0], _ =>
    obtain ⟨u0, z0, o0⟩ := hA 0 _ rfl
    obtain ⟨a, r0, ha⟩ := k_refOk o0
    have y0 : w0 = .ref a := by simpa [r0] using z0
    subst y0
    exact ⟨a, rfl, ha⟩
theorem z_arg2 {τ : kTau} {As : List Value} {t t' : Nat} (hAl : As.length = [(.inr (.inr (.inl (false, [t]))) : kInfo), .inr (.inr (.inl (false, [t'])))].length) (hA : ∀ (i : Nat) (x : kInfo), [(.inr (.inr (.inl (false, [t]))) : kInfo), .inr (.inr (.inl (false, [t'])))][i]? = some x → ∃ v, As[i]? = some v ∧ k_ok τ x v) : ∃ p p' : Nat, As = [.ref p, .ref p'] ∧ τ p = some t ∧ τ p' = some t' := by
  match As, hAl with
  | [w0, w1], _ =>
    obtain ⟨u0, z0, o0⟩ := hA 0 _ rfl
    obtain ⟨u1, z1, o1⟩ := hA 1 _ rfl
    obtain ⟨a, r0, ha⟩ := k_refOk o0
    obtain ⟨b, r1, hb⟩ := k_refOk o1
    have y0 : w0 = .ref a := by simpa [r0] using z0
    have y1 : w1 = .ref b := by simpa [r1] using z1
    subst y0; subst y1
    exact ⟨a, b, rfl, ha, hb⟩
theorem wo_inst : Jvm.Cond.instanceMethod Lib.objectInit ∈ gTB := gIn (i := 153) (by decide +kernel) (by decide +kernel)
theorem wo_code : Jvm.Cond.code Lib.objectInit ⟨#[0xb1]⟩ 1 none ∈ gTB := gIn (i := 154) (by decide +kernel) (by decide +kernel)
theorem wlo_RX6_3 : Jvm.Cond.methodLink RX6 3 Lib.objectInit ∈ gTB := gIn (i := 258) (by decide +kernel) (by decide +kernel)
theorem wa_int : Jvm.Cond.arrayClass .int ∈ gTB := gIn (i := 188) (by decide +kernel) (by decide +kernel)
theorem wlo_RX8_3 : Jvm.Cond.methodLink RX8 3 Lib.objectInit ∈ gTB := gIn (i := 200) (by decide +kernel) (by decide +kernel)
theorem wlo_RX7_3 : Jvm.Cond.methodLink RX7 3 Lib.objectInit ∈ gTB := gIn (i := 160) (by decide +kernel) (by decide +kernel)
theorem wa_byte : Jvm.Cond.arrayClass .byte ∈ gTB := gIn (i := 187) (by decide +kernel) (by decide +kernel)
theorem wlo_RX10_3 : Jvm.Cond.methodLink RX10 3 Lib.objectInit ∈ gTB := gIn (i := 194) (by decide +kernel) (by decide +kernel)
theorem wc_RX10_9 : Jvm.Cond.classLink RX10 9 RX8 ∈ gTB := gIn (i := 195) (by decide +kernel) (by decide +kernel)
theorem wn_8 : Jvm.Cond.instantiable RX8 9 ∈ gTB := gIn (i := 196) (by decide +kernel) (by decide +kernel)
theorem wz_8 : Jvm.Cond.initialized RX8 ∈ gTB := gIn (i := 129) (by decide +kernel) (by decide +kernel)
theorem wic_8 : Jvm.Cond.code yX8_init cX8_init 1 none ∈ gTB := gIn (i := 199) (by decide +kernel) (by decide +kernel)
theorem wim_8 : Jvm.Cond.instanceMethod yX8_init ∈ gTB := gIn (i := 198) (by decide +kernel) (by decide +kernel)
theorem wid_8 : yX8_init.cls ≠ "java/lang/invoke/MethodHandle" ∧ yX8_init.cls ≠ "java/lang/invoke/VarHandle" ∧ (parseMethodDescriptor yX8_init.desc).map (fun d => d.parameters.length) = some 0 := by decide +kernel
theorem wc_RX10_18 : Jvm.Cond.classLink RX10 18 RX6 ∈ gTB := gIn (i := 253) (by decide +kernel) (by decide +kernel)
theorem wn_6 : Jvm.Cond.instantiable RX6 9 ∈ gTB := gIn (i := 254) (by decide +kernel) (by decide +kernel)
theorem wz_6 : Jvm.Cond.initialized RX6 ∈ gTB := gIn (i := 130) (by decide +kernel) (by decide +kernel)
theorem wic_6 : Jvm.Cond.code yX6_init cX6_init 1 none ∈ gTB := gIn (i := 257) (by decide +kernel) (by decide +kernel)
theorem wim_6 : Jvm.Cond.instanceMethod yX6_init ∈ gTB := gIn (i := 256) (by decide +kernel) (by decide +kernel)
theorem wid_6 : yX6_init.cls ≠ "java/lang/invoke/MethodHandle" ∧ yX6_init.cls ≠ "java/lang/invoke/VarHandle" ∧ (parseMethodDescriptor yX6_init.desc).map (fun d => d.parameters.length) = some 0 := by decide +kernel
theorem wlo_RX9_3 : Jvm.Cond.methodLink RX9 3 Lib.objectInit ∈ gTB := gIn (i := 358) (by decide +kernel) (by decide +kernel)
theorem wc_RX9_9 : Jvm.Cond.classLink RX9 9 RX8 ∈ gTB := gIn (i := 359) (by decide +kernel) (by decide +kernel)
theorem wlo_RX5_3 : Jvm.Cond.methodLink RX5 3 Lib.objectInit ∈ gTB := gIn (i := 374) (by decide +kernel) (by decide +kernel)
theorem wlo_RX1_3 : Jvm.Cond.methodLink RX1 3 Lib.objectInit ∈ gTB := gIn (i := 399) (by decide +kernel) (by decide +kernel)
theorem wc_RX1_9 : Jvm.Cond.classLink RX1 9 RX6 ∈ gTB := gIn (i := 400) (by decide +kernel) (by decide +kernel)
theorem wa_long : Jvm.Cond.arrayClass .long ∈ gTB := gIn (i := 442) (by decide +kernel) (by decide +kernel)
theorem wlo_RX0_3 : Jvm.Cond.methodLink RX0 3 Lib.objectInit ∈ gTB := gIn (i := 448) (by decide +kernel) (by decide +kernel)
theorem wlo_RX2_3 : Jvm.Cond.methodLink RX2 3 Lib.objectInit ∈ gTB := gIn (i := 507) (by decide +kernel) (by decide +kernel)
theorem wlo_RX12_1 : Jvm.Cond.methodLink RX12 1 Lib.objectInit ∈ gTB := gIn (i := 1261) (by decide +kernel) (by decide +kernel)
theorem wa_boolean : Jvm.Cond.arrayClass .boolean ∈ gTB := gIn (i := 1392) (by decide +kernel) (by decide +kernel)
theorem wlo_RX3_3 : Jvm.Cond.methodLink RX3 3 Lib.objectInit ∈ gTB := gIn (i := 474) (by decide +kernel) (by decide +kernel)
theorem wc_RX3_9 : Jvm.Cond.classLink RX3 9 RX6 ∈ gTB := gIn (i := 475) (by decide +kernel) (by decide +kernel)
theorem wlo_RX11_1 : Jvm.Cond.methodLink RX11 1 Lib.objectInit ∈ gTB := gIn (i := 152) (by decide +kernel) (by decide +kernel)
theorem wc_RX11_7 : Jvm.Cond.classLink RX11 7 RX7 ∈ gTB := gIn (i := 155) (by decide +kernel) (by decide +kernel)
theorem wn_7 : Jvm.Cond.instantiable RX7 7 ∈ gTB := gIn (i := 156) (by decide +kernel) (by decide +kernel)
theorem wz_7 : Jvm.Cond.initialized RX7 ∈ gTB := gIn (i := 127) (by decide +kernel) (by decide +kernel)
theorem wic_7 : Jvm.Cond.code yX7_init cX7_init 1 none ∈ gTB := gIn (i := 159) (by decide +kernel) (by decide +kernel)
theorem wim_7 : Jvm.Cond.instanceMethod yX7_init ∈ gTB := gIn (i := 158) (by decide +kernel) (by decide +kernel)
theorem wid_7 : yX7_init.cls ≠ "java/lang/invoke/MethodHandle" ∧ yX7_init.cls ≠ "java/lang/invoke/VarHandle" ∧ (parseMethodDescriptor yX7_init.desc).map (fun d => d.parameters.length) = some 0 := by decide +kernel
theorem wc_RX11_16 : Jvm.Cond.classLink RX11 16 RX10 ∈ gTB := gIn (i := 189) (by decide +kernel) (by decide +kernel)
theorem wn_10 : Jvm.Cond.instantiable RX10 7 ∈ gTB := gIn (i := 190) (by decide +kernel) (by decide +kernel)
theorem wz_10 : Jvm.Cond.initialized RX10 ∈ gTB := gIn (i := 128) (by decide +kernel) (by decide +kernel)
theorem wic_10 : Jvm.Cond.code yX10_init cX10_init 1 none ∈ gTB := gIn (i := 193) (by decide +kernel) (by decide +kernel)
theorem wim_10 : Jvm.Cond.instanceMethod yX10_init ∈ gTB := gIn (i := 192) (by decide +kernel) (by decide +kernel)
theorem wid_10 : yX10_init.cls ≠ "java/lang/invoke/MethodHandle" ∧ yX10_init.cls ≠ "java/lang/invoke/VarHandle" ∧ (parseMethodDescriptor yX10_init.desc).map (fun d => d.parameters.length) = some 0 := by decide +kernel
theorem wc_RX11_27 : Jvm.Cond.classLink RX11 27 RX4 ∈ gTB := gIn (i := 349) (by decide +kernel) (by decide +kernel)
theorem wc_RX11_33 : Jvm.Cond.classLink RX11 33 RX6 ∈ gTB := gIn (i := 351) (by decide +kernel) (by decide +kernel)
theorem wc_RX11_39 : Jvm.Cond.classLink RX11 39 RX9 ∈ gTB := gIn (i := 353) (by decide +kernel) (by decide +kernel)
theorem wn_9 : Jvm.Cond.instantiable RX9 2 ∈ gTB := gIn (i := 354) (by decide +kernel) (by decide +kernel)
theorem wz_9 : Jvm.Cond.initialized RX9 ∈ gTB := gIn (i := 131) (by decide +kernel) (by decide +kernel)
theorem wic_9 : Jvm.Cond.code yX9_init cX9_init 2 none ∈ gTB := gIn (i := 357) (by decide +kernel) (by decide +kernel)
theorem wim_9 : Jvm.Cond.instanceMethod yX9_init ∈ gTB := gIn (i := 356) (by decide +kernel) (by decide +kernel)
theorem wid_9 : yX9_init.cls ≠ "java/lang/invoke/MethodHandle" ∧ yX9_init.cls ≠ "java/lang/invoke/VarHandle" ∧ (parseMethodDescriptor yX9_init.desc).map (fun d => d.parameters.length) = some 1 := by decide +kernel
theorem wl_RX11_41 : Jvm.Cond.methodLink RX11 41 yX9_init ∈ gTB := gIn (i := 355) (by decide +kernel) (by decide +kernel)
theorem wc_RX11_48 : Jvm.Cond.classLink RX11 48 RX5 ∈ gTB := gIn (i := 369) (by decide +kernel) (by decide +kernel)
theorem wn_5 : Jvm.Cond.instantiable RX5 6 ∈ gTB := gIn (i := 370) (by decide +kernel) (by decide +kernel)
theorem wz_5 : Jvm.Cond.initialized RX5 ∈ gTB := gIn (i := 132) (by decide +kernel) (by decide +kernel)
theorem wic_5 : Jvm.Cond.code yX5_init cX5_init 2 none ∈ gTB := gIn (i := 373) (by decide +kernel) (by decide +kernel)
theorem wim_5 : Jvm.Cond.instanceMethod yX5_init ∈ gTB := gIn (i := 372) (by decide +kernel) (by decide +kernel)
theorem wid_5 : yX5_init.cls ≠ "java/lang/invoke/MethodHandle" ∧ yX5_init.cls ≠ "java/lang/invoke/VarHandle" ∧ (parseMethodDescriptor yX5_init.desc).map (fun d => d.parameters.length) = some 1 := by decide +kernel
theorem wl_RX11_50 : Jvm.Cond.methodLink RX11 50 yX5_init ∈ gTB := gIn (i := 371) (by decide +kernel) (by decide +kernel)
theorem wc_RX11_55 : Jvm.Cond.classLink RX11 55 RX1 ∈ gTB := gIn (i := 394) (by decide +kernel) (by decide +kernel)
theorem wn_1 : Jvm.Cond.instantiable RX1 11 ∈ gTB := gIn (i := 395) (by decide +kernel) (by decide +kernel)
theorem wz_1 : Jvm.Cond.initialized RX1 ∈ gTB := gIn (i := 133) (by decide +kernel) (by decide +kernel)
theorem wic_1 : Jvm.Cond.code yX1_init cX1_init 3 none ∈ gTB := gIn (i := 398) (by decide +kernel) (by decide +kernel)
theorem wim_1 : Jvm.Cond.instanceMethod yX1_init ∈ gTB := gIn (i := 397) (by decide +kernel) (by decide +kernel)
theorem wid_1 : yX1_init.cls ≠ "java/lang/invoke/MethodHandle" ∧ yX1_init.cls ≠ "java/lang/invoke/VarHandle" ∧ (parseMethodDescriptor yX1_init.desc).map (fun d => d.parameters.length) = some 2 := by decide +kernel
theorem wl_RX11_57 : Jvm.Cond.methodLink RX11 57 yX1_init ∈ gTB := gIn (i := 396) (by decide +kernel) (by decide +kernel)
theorem wc_RX11_64 : Jvm.Cond.classLink RX11 64 RX0 ∈ gTB := gIn (i := 443) (by decide +kernel) (by decide +kernel)
theorem wn_0 : Jvm.Cond.instantiable RX0 6 ∈ gTB := gIn (i := 444) (by decide +kernel) (by decide +kernel)
theorem wz_0 : Jvm.Cond.initialized RX0 ∈ gTB := gIn (i := 134) (by decide +kernel) (by decide +kernel)
theorem wic_0 : Jvm.Cond.code yX0_init cX0_init 3 none ∈ gTB := gIn (i := 447) (by decide +kernel) (by decide +kernel)
theorem wim_0 : Jvm.Cond.instanceMethod yX0_init ∈ gTB := gIn (i := 446) (by decide +kernel) (by decide +kernel)
theorem wid_0 : yX0_init.cls ≠ "java/lang/invoke/MethodHandle" ∧ yX0_init.cls ≠ "java/lang/invoke/VarHandle" ∧ (parseMethodDescriptor yX0_init.desc).map (fun d => d.parameters.length) = some 2 := by decide +kernel
theorem wl_RX11_66 : Jvm.Cond.methodLink RX11 66 yX0_init ∈ gTB := gIn (i := 445) (by decide +kernel) (by decide +kernel)
theorem wc_RX11_73 : Jvm.Cond.classLink RX11 73 RX3 ∈ gTB := gIn (i := 469) (by decide +kernel) (by decide +kernel)
theorem wn_3 : Jvm.Cond.instantiable RX3 7 ∈ gTB := gIn (i := 470) (by decide +kernel) (by decide +kernel)
theorem wz_3 : Jvm.Cond.initialized RX3 ∈ gTB := gIn (i := 135) (by decide +kernel) (by decide +kernel)
theorem wic_3 : Jvm.Cond.code yX3_init cX3_init 3 none ∈ gTB := gIn (i := 473) (by decide +kernel) (by decide +kernel)
theorem wim_3 : Jvm.Cond.instanceMethod yX3_init ∈ gTB := gIn (i := 472) (by decide +kernel) (by decide +kernel)
theorem wid_3 : yX3_init.cls ≠ "java/lang/invoke/MethodHandle" ∧ yX3_init.cls ≠ "java/lang/invoke/VarHandle" ∧ (parseMethodDescriptor yX3_init.desc).map (fun d => d.parameters.length) = some 1 := by decide +kernel
theorem wl_RX11_75 : Jvm.Cond.methodLink RX11 75 yX3_init ∈ gTB := gIn (i := 471) (by decide +kernel) (by decide +kernel)
theorem wc_RX11_82 : Jvm.Cond.classLink RX11 82 RX2 ∈ gTB := gIn (i := 502) (by decide +kernel) (by decide +kernel)
theorem wn_2 : Jvm.Cond.instantiable RX2 10 ∈ gTB := gIn (i := 503) (by decide +kernel) (by decide +kernel)
theorem wz_2 : Jvm.Cond.initialized RX2 ∈ gTB := gIn (i := 136) (by decide +kernel) (by decide +kernel)
theorem wic_2 : Jvm.Cond.code yX2_init cX2_init 3 none ∈ gTB := gIn (i := 506) (by decide +kernel) (by decide +kernel)
theorem wim_2 : Jvm.Cond.instanceMethod yX2_init ∈ gTB := gIn (i := 505) (by decide +kernel) (by decide +kernel)
theorem wid_2 : yX2_init.cls ≠ "java/lang/invoke/MethodHandle" ∧ yX2_init.cls ≠ "java/lang/invoke/VarHandle" ∧ (parseMethodDescriptor yX2_init.desc).map (fun d => d.parameters.length) = some 2 := by decide +kernel
theorem wl_RX11_84 : Jvm.Cond.methodLink RX11 84 yX2_init ∈ gTB := gIn (i := 504) (by decide +kernel) (by decide +kernel)
def I_X6_init : List (Nat × Instr × Nat) := [(0, .aload_n 0, 1), (1, .invokespecial 3, 3), (4, .aload_n 0, 1), (5, .bipush 6, 2), (7, .newarray .int, 2), (9, .putfield 9, 3), (12, .aload_n 0, 1), (13, .bipush 6, 2), (15, .newarray .int, 2), (17, .putfield 15, 3), (20, .aload_n 0, 1), (21, .bipush 6, 2), (23, .newarray .int, 2), (25, .putfield 18, 3), (28, .aload_n 0, 1), (29, .bipush 6, 2), (31, .newarray .int, 2), (33, .putfield 21, 3), (36, .aload_n 0, 1), (37, .iconst (-1), 1), (38, .putfield 24, 3), (41, .return_, 1)]
theorem dec_X6_init : ∀ q ∈ I_X6_init, decode cX6_init q.1 = .ok q.2 := by decide +kernel
def I_X8_init : List (Nat × Instr × Nat) := [(0, .aload_n 0, 1), (1, .invokespecial 3, 3), (4, .aload_n 0, 1), (5, .bipush 6, 2), (7, .newarray .int, 2), (9, .putfield 9, 3), (12, .aload_n 0, 1), (13, .bipush 6, 2), (15, .newarray .int, 2), (17, .putfield 15, 3), (20, .aload_n 0, 1), (21, .bipush 6, 2), (23, .newarray .int, 2), (25, .putfield 18, 3), (28, .aload_n 0, 1), (29, .bipush 6, 2), (31, .newarray .int, 2), (33, .putfield 21, 3), (36, .aload_n 0, 1), (37, .bipush 49, 2), (39, .newarray .int, 2), (41, .putfield 24, 3), (44, .return_, 1)]
theorem dec_X8_init : ∀ q ∈ I_X8_init, decode cX8_init q.1 = .ok q.2 := by decide +kernel
def I_X7_init : List (Nat × Instr × Nat) := [(0, .aload_n 0, 1), (1, .invokespecial 3, 3), (4, .aload_n 0, 1), (5, .sipush 400, 3), (8, .newarray .byte, 2), (10, .putfield 9, 3), (13, .aload_n 0, 1), (14, .sipush 401, 3), (17, .newarray .int, 2), (19, .putfield 15, 3), (22, .aload_n 0, 1), (23, .sipush 401, 3), (26, .newarray .int, 2), (28, .putfield 19, 3), (31, .aload_n 0, 1), (32, .sipush 401, 3), (35, .newarray .int, 2), (37, .putfield 22, 3), (40, .return_, 1)]
theorem dec_X7_init : ∀ q ∈ I_X7_init, decode cX7_init q.1 = .ok q.2 := by decide +kernel
def I_X10_init : List (Nat × Instr × Nat) := [(0, .aload_n 0, 1), (1, .invokespecial 3, 3), (4, .aload_n 0, 1), (5, .new 9, 3), (8, .dup, 1), (9, .invokespecial 11, 3), (12, .putfield 12, 3), (15, .aload_n 0, 1), (16, .new 18, 3), (19, .dup, 1), (20, .invokespecial 20, 3), (23, .putfield 21, 3), (26, .aload_n 0, 1), (27, .bipush 10, 2), (29, .newarray .int, 2), (31, .putfield 25, 3), (34, .aload_n 0, 1), (35, .bipush 10, 2), (37, .newarray .int, 2), (39, .putfield 29, 3), (42, .aload_n 0, 1), (43, .iconst (-1), 1), (44, .putfield 32, 3), (47, .return_, 1)]
theorem dec_X10_init : ∀ q ∈ I_X10_init, decode cX10_init q.1 = .ok q.2 := by decide +kernel
def I_X9_init : List (Nat × Instr × Nat) := [(0, .aload_n 0, 1), (1, .invokespecial 3, 3), (4, .aload_n 0, 1), (5, .new 9, 3), (8, .dup, 1), (9, .invokespecial 11, 3), (12, .putfield 12, 3), (15, .aload_n 0, 1), (16, .aload_n 1, 1), (17, .putfield 18, 3), (20, .return_, 1)]
theorem dec_X9_init : ∀ q ∈ I_X9_init, decode cX9_init q.1 = .ok q.2 := by decide +kernel
def I_X5_init : List (Nat × Instr × Nat) := [(0, .aload_n 0, 1), (1, .invokespecial 3, 3), (4, .aload_n 0, 1), (5, .sipush 400, 3), (8, .newarray .int, 2), (10, .putfield 9, 3), (13, .aload_n 0, 1), (14, .bipush 25, 2), (16, .newarray .int, 2), (18, .putfield 15, 3), (21, .aload_n 0, 1), (22, .aload_n 1, 1), (23, .putfield 18, 3), (26, .return_, 1)]
theorem dec_X5_init : ∀ q ∈ I_X5_init, decode cX5_init q.1 = .ok q.2 := by decide +kernel
def I_X1_init : List (Nat × Instr × Nat) := [(0, .aload_n 0, 1), (1, .invokespecial 3, 3), (4, .aload_n 0, 1), (5, .new 9, 3), (8, .dup, 1), (9, .invokespecial 11, 3), (12, .putfield 12, 3), (15, .aload_n 0, 1), (16, .bipush 64, 2), (18, .newarray .long, 2), (20, .putfield 18, 3), (23, .aload_n 0, 1), (24, .iconst (-1), 1), (25, .putfield 22, 3), (28, .aload_n 0, 1), (29, .aload_n 1, 1), (30, .putfield 26, 3), (33, .aload_n 0, 1), (34, .aload_n 1, 1), (35, .getfield 30, 3), (38, .putfield 36, 3), (41, .aload_n 0, 1), (42, .aload_n 2, 1), (43, .putfield 37, 3), (46, .return_, 1)]
theorem dec_X1_init : ∀ q ∈ I_X1_init, decode cX1_init q.1 = .ok q.2 := by decide +kernel
def I_X0_init : List (Nat × Instr × Nat) := [(0, .aload_n 0, 1), (1, .invokespecial 3, 3), (4, .aload_n 0, 1), (5, .iconst 3, 1), (6, .newarray .int, 2), (8, .putfield 9, 3), (11, .aload_n 0, 1), (12, .bipush 25, 2), (14, .newarray .int, 2), (16, .putfield 15, 3), (19, .aload_n 0, 1), (20, .bipush 25, 2), (22, .newarray .int, 2), (24, .putfield 18, 3), (27, .aload_n 0, 1), (28, .aload_n 1, 1), (29, .putfield 21, 3), (32, .aload_n 0, 1), (33, .aload_n 1, 1), (34, .getfield 25, 3), (37, .putfield 31, 3), (40, .aload_n 0, 1), (41, .aload_n 2, 1), (42, .putfield 32, 3), (45, .return_, 1)]
theorem dec_X0_init : ∀ q ∈ I_X0_init, decode cX0_init q.1 = .ok q.2 := by decide +kernel
def I_X2_init : List (Nat × Instr × Nat) := [(0, .aload_n 0, 1), (1, .invokespecial 3, 3), (4, .aload_n 0, 1), (5, .sipush 427, 3), (8, .newarray .int, 2), (10, .putfield 11, 3), (13, .aload_n 0, 1), (14, .bipush 7, 2), (16, .newarray .int, 2), (18, .putfield 15, 3), (21, .aload_n 0, 1), (22, .aload_n 1, 1), (23, .putfield 18, 3), (26, .aload_n 0, 1), (27, .aload_n 2, 1), (28, .putfield 22, 3), (31, .return_, 1)]
theorem dec_X2_init : ∀ q ∈ I_X2_init, decode cX2_init q.1 = .ok q.2 := by decide +kernel
def I_X12_init : List (Nat × Instr × Nat) := [(0, .aload_n 0, 1), (1, .invokespecial 1, 3), (4, .aload_n 0, 1), (5, .sipush 400, 3), (8, .newarray .byte, 2), (10, .putfield 7, 3), (13, .aload_n 0, 1), (14, .sipush 2400, 3), (17, .newarray .int, 2), (19, .putfield 13, 3), (22, .aload_n 0, 1), (23, .bipush 7, 2), (25, .newarray .int, 2), (27, .putfield 17, 3), (30, .aload_n 0, 1), (31, .sipush 288, 3), (34, .newarray .int, 2), (36, .putfield 20, 3), (39, .aload_n 0, 1), (40, .bipush 6, 2), (42, .newarray .int, 2), (44, .putfield 23, 3), (47, .aload_n 0, 1), (48, .bipush 111, 2), (50, .newarray .int, 2), (52, .putfield 26, 3), (55, .aload_n 0, 1), (56, .sipush 400, 3), (59, .newarray .int, 2), (61, .putfield 29, 3), (64, .aload_n 0, 1), (65, .bipush 64, 2), (67, .newarray .long, 2), (69, .putfield 32, 3), (72, .aload_n 0, 1), (73, .bipush 11, 2), (75, .newarray .long, 2), (77, .putfield 36, 3), (80, .aload_n 0, 1), (81, .sipush 132, 3), (84, .newarray .int, 2), (86, .putfield 39, 3), (89, .aload_n 0, 1), (90, .iconst (-1), 1), (91, .putfield 42, 3), (94, .aload_n 0, 1), (95, .bipush 6, 2), (97, .newarray .int, 2), (99, .putfield 46, 3), (102, .aload_n 0, 1), (103, .iconst (-1), 1), (104, .putfield 49, 3), (107, .aload_n 0, 1), (108, .sipush 560, 3), (111, .newarray .int, 2), (113, .putfield 52, 3), (116, .aload_n 0, 1), (117, .bipush 28, 2), (119, .newarray .int, 2), (121, .putfield 55, 3), (124, .aload_n 0, 1), (125, .bipush 6, 2), (127, .newarray .int, 2), (129, .putfield 58, 3), (132, .aload_n 0, 1), (133, .bipush 50, 2), (135, .newarray .int, 2), (137, .putfield 61, 3), (140, .aload_n 0, 1), (141, .bipush 7, 2), (143, .newarray .boolean, 2), (145, .putfield 64, 3), (148, .aload_n 0, 1), (149, .sipush 427, 3), (152, .newarray .int, 2), (154, .putfield 68, 3), (157, .aload_n 0, 1), (158, .sipush 528, 3), (161, .newarray .int, 2), (163, .putfield 71, 3), (166, .aload_n 0, 1), (167, .iconst 4, 1), (168, .newarray .int, 2), (170, .putfield 74, 3), (173, .aload_n 0, 1), (174, .iconst 4, 1), (175, .newarray .int, 2), (177, .putfield 77, 3), (180, .aload_n 0, 1), (181, .iconst 4, 1), (182, .newarray .boolean, 2), (184, .putfield 80, 3), (187, .return_, 1)]
theorem dec_X12_init : ∀ q ∈ I_X12_init, decode cX12_init q.1 = .ok q.2 := by decide +kernel
def I_X3_init : List (Nat × Instr × Nat) := [(0, .aload_n 0, 1), (1, .invokespecial 3, 3), (4, .aload_n 0, 1), (5, .bipush 7, 2), (7, .anewarray 9, 3), (10, .putfield 11, 3), (13, .aload_n 0, 1), (14, .bipush 6, 2), (16, .newarray .int, 2), (18, .putfield 17, 3), (21, .aload_n 0, 1), (22, .bipush 6, 2), (24, .newarray .int, 2), (26, .putfield 21, 3), (29, .aload_n 0, 1), (30, .aload_n 1, 1), (31, .putfield 24, 3), (34, .iconst 0, 1), (35, .istore_n 2, 1), (36, .iload_n 2, 1), (37, .bipush 6, 2), (39, .if_icmp .gt 22, 3), (42, .aload_n 0, 1), (43, .getfield 11, 3), (46, .iload_n 2, 1), (47, .new 9, 3), (50, .dup, 1), (51, .invokespecial 28, 3), (54, .aastore, 1), (55, .iinc 2 1, 3), (58, .goto (-22), 3), (61, .return_, 1)]
theorem dec_X3_init : ∀ q ∈ I_X3_init, decode cX3_init q.1 = .ok q.2 := by decide +kernel
def I_X11_init : List (Nat × Instr × Nat) := [(0, .aload_n 0, 1), (1, .invokespecial 1, 3), (4, .aload_n 0, 1), (5, .new 7, 3), (8, .dup, 1), (9, .invokespecial 9, 3), (12, .putfield 10, 3), (15, .aload_n 0, 1), (16, .new 16, 3), (19, .dup, 1), (20, .invokespecial 18, 3), (23, .putfield 19, 3), (26, .aload_n 0, 1), (27, .iconst 4, 1), (28, .anewarray 16, 3), (31, .putfield 23, 3), (34, .aload_n 0, 1), (35, .bipush 6, 2), (37, .anewarray 27, 3), (40, .putfield 29, 3), (43, .aload_n 0, 1), (44, .bipush 20, 2), (46, .anewarray 33, 3), (49, .putfield 35, 3), (52, .aload_n 0, 1), (53, .new 39, 3), (56, .dup, 1), (57, .aload_n 0, 1), (58, .getfield 10, 3), (61, .invokespecial 41, 3), (64, .putfield 44, 3), (67, .aload_n 0, 1), (68, .new 48, 3), (71, .dup, 1), (72, .aload_n 0, 1), (73, .getfield 10, 3), (76, .invokespecial 50, 3), (79, .putfield 51, 3), (82, .aload_n 0, 1), (83, .new 55, 3), (86, .dup, 1), (87, .aload_n 0, 1), (88, .getfield 19, 3), (91, .aload_n 0, 1), (92, .getfield 29, 3), (95, .invokespecial 57, 3), (98, .putfield 60, 3), (101, .aload_n 0, 1), (102, .new 64, 3), (105, .dup, 1), (106, .aload_n 0, 1), (107, .getfield 19, 3), (110, .aload_n 0, 1), (111, .getfield 60, 3), (114, .invokespecial 66, 3), (117, .putfield 69, 3), (120, .aload_n 0, 1), (121, .new 73, 3), (124, .dup, 1), (125, .aload_n 0, 1), (126, .getfield 60, 3), (129, .invokespecial 75, 3), (132, .putfield 78, 3), (135, .aload_n 0, 1), (136, .new 82, 3), (139, .dup, 1), (140, .aload_n 0, 1), (141, .getfield 19, 3), (144, .aload_n 0, 1), (145, .getfield 60, 3), (148, .invokespecial 84, 3), (151, .putfield 85, 3), (154, .iconst 0, 1), (155, .istore_n 1, 1), (156, .iload_n 1, 1), (157, .bipush 20, 2), (159, .if_icmp .ge 22, 3), (162, .aload_n 0, 1), (163, .getfield 35, 3), (166, .iload_n 1, 1), (167, .new 33, 3), (170, .dup, 1), (171, .invokespecial 89, 3), (174, .aastore, 1), (175, .iinc 1 1, 3), (178, .goto (-22), 3), (181, .return_, 1)]
theorem dec_X11_init : ∀ q ∈ I_X11_init, decode cX11_init q.1 = .ok q.2 := by decide +kernel
theorem hN_0 : ∃ r : vw_C, gCl[0]? = some r ∧ r.2.2 = 6 := ⟨_, rfl, rfl⟩
theorem hap_0 {g : va_G} (h0 : gE1 g) : ∀ x y, x < 6 → y < 6 → x ≠ y → g.2 0 x ≠ g.2 0 y := by
  obtain ⟨r, -, -, h⟩ := h0 8 _ rfl
  exact h
theorem z_dok0 (τ : kTau) : ∀ k, k < 6 → k_ok τ (z_k0 (tyX0 k)) (defaultValue (tyX0 k))
  | 0, _ => Or.inl ⟨rfl, rfl⟩
  | 1, _ => Or.inl ⟨rfl, rfl⟩
  | 2, _ => Or.inl ⟨rfl, rfl⟩
  | 3, _ => Or.inl ⟨rfl, rfl⟩
  | 4, _ => Or.inl ⟨rfl, rfl⟩
  | 5, _ => Or.inl ⟨rfl, rfl⟩
  | n + 6, h => absurd h (by omega)
theorem hN_1 : ∃ r : vw_C, gCl[1]? = some r ∧ r.2.2 = 11 := ⟨_, rfl, rfl⟩
theorem hap_1 {g : va_G} (h0 : gE1 g) : ∀ x y, x < 11 → y < 11 → x ≠ y → g.2 1 x ≠ g.2 1 y := by
  obtain ⟨r, -, -, h⟩ := h0 7 _ rfl
  exact h
theorem z_dok1 (τ : kTau) : ∀ k, k < 11 → k_ok τ (z_k0 (tyX1 k)) (defaultValue (tyX1 k))
  | 0, _ => Or.inl ⟨rfl, rfl⟩
  | 1, _ => Or.inl ⟨rfl, rfl⟩
  | 2, _ => Or.inl ⟨rfl, rfl⟩
  | 3, _ => Or.inl ⟨rfl, rfl⟩
  | 4, _ => Or.inl ⟨rfl, rfl⟩
  | 5, _ => Or.inl ⟨rfl, rfl⟩
  | 6, _ => ⟨0, rfl, by decide, by decide⟩
  | 7, _ => ⟨0, rfl, by decide, by decide⟩
  | 8, _ => ⟨0, rfl, by decide, by decide⟩
  | 9, _ => ⟨0, rfl, by decide, by decide⟩
  | 10, _ => ⟨0, rfl, by decide, by decide⟩
  | n + 11, h => absurd h (by omega)
theorem hN_2 : ∃ r : vw_C, gCl[2]? = some r ∧ r.2.2 = 10 := ⟨_, rfl, rfl⟩
theorem hap_2 {g : va_G} (h0 : gE1 g) : ∀ x y, x < 10 → y < 10 → x ≠ y → g.2 2 x ≠ g.2 2 y := by
  obtain ⟨r, -, -, h⟩ := h0 10 _ rfl
  exact h
theorem z_dok2 (τ : kTau) : ∀ k, k < 10 → k_ok τ (z_k0 (tyX2 k)) (defaultValue (tyX2 k))
  | 0, _ => Or.inl ⟨rfl, rfl⟩
  | 1, _ => Or.inl ⟨rfl, rfl⟩
  | 2, _ => Or.inl ⟨rfl, rfl⟩
  | 3, _ => Or.inl ⟨rfl, rfl⟩
  | 4, _ => ⟨0, rfl, by decide, by decide⟩
  | 5, _ => ⟨0, rfl, by decide, by decide⟩
  | 6, _ => ⟨0, rfl, by decide, by decide⟩
  | 7, _ => ⟨0, rfl, by decide, by decide⟩
  | 8, _ => ⟨0, rfl, by decide, by decide⟩
  | 9, _ => ⟨0, rfl, by decide, by decide⟩
  | n + 10, h => absurd h (by omega)
theorem hN_3 : ∃ r : vw_C, gCl[3]? = some r ∧ r.2.2 = 7 := ⟨_, rfl, rfl⟩
theorem hap_3 {g : va_G} (h0 : gE1 g) : ∀ x y, x < 7 → y < 7 → x ≠ y → g.2 3 x ≠ g.2 3 y := by
  obtain ⟨r, -, -, h⟩ := h0 9 _ rfl
  exact h
theorem z_dok3 (τ : kTau) : ∀ k, k < 7 → k_ok τ (z_k0 (tyX3 k)) (defaultValue (tyX3 k))
  | 0, _ => Or.inl ⟨rfl, rfl⟩
  | 1, _ => Or.inl ⟨rfl, rfl⟩
  | 2, _ => Or.inl ⟨rfl, rfl⟩
  | 3, _ => Or.inl ⟨rfl, rfl⟩
  | 4, _ => ⟨0, rfl, by decide, by decide⟩
  | 5, _ => ⟨0, rfl, by decide, by decide⟩
  | 6, _ => ⟨0, rfl, by decide, by decide⟩
  | n + 7, h => absurd h (by omega)
theorem hN_4 : ∃ r : vw_C, gCl[4]? = some r ∧ r.2.2 = 3 := ⟨_, rfl, rfl⟩
theorem hap_4 {g : va_G} (h0 : gE1 g) : ∀ x y, x < 3 → y < 3 → x ≠ y → g.2 4 x ≠ g.2 4 y := by
  obtain ⟨r, -, -, h⟩ := h0 53 _ rfl
  exact h
theorem z_dok4 (τ : kTau) : ∀ k, k < 3 → k_ok τ (z_k0 (tyX4 k)) (defaultValue (tyX4 k))
  | 0, _ => Or.inl ⟨rfl, rfl⟩
  | 1, _ => Or.inl ⟨rfl, rfl⟩
  | 2, _ => ⟨0, rfl, by decide, by decide⟩
  | n + 3, h => absurd h (by omega)
theorem hN_5 : ∃ r : vw_C, gCl[5]? = some r ∧ r.2.2 = 6 := ⟨_, rfl, rfl⟩
theorem hap_5 {g : va_G} (h0 : gE1 g) : ∀ x y, x < 6 → y < 6 → x ≠ y → g.2 5 x ≠ g.2 5 y := by
  obtain ⟨r, -, -, h⟩ := h0 6 _ rfl
  exact h
theorem z_dok5 (τ : kTau) : ∀ k, k < 6 → k_ok τ (z_k0 (tyX5 k)) (defaultValue (tyX5 k))
  | 0, _ => Or.inl ⟨rfl, rfl⟩
  | 1, _ => Or.inl ⟨rfl, rfl⟩
  | 2, _ => ⟨0, rfl, by decide, by decide⟩
  | 3, _ => Or.inl ⟨rfl, rfl⟩
  | 4, _ => ⟨0, rfl, by decide, by decide⟩
  | 5, _ => ⟨0, rfl, by decide, by decide⟩
  | n + 6, h => absurd h (by omega)
theorem hN_6 : ∃ r : vw_C, gCl[6]? = some r ∧ r.2.2 = 9 := ⟨_, rfl, rfl⟩
theorem hap_6 {g : va_G} (h0 : gE1 g) : ∀ x y, x < 9 → y < 9 → x ≠ y → g.2 6 x ≠ g.2 6 y := by
  obtain ⟨r, -, -, h⟩ := h0 4 _ rfl
  exact h
theorem z_dok6 (τ : kTau) : ∀ k, k < 9 → k_ok τ (z_k0 (tyX6 k)) (defaultValue (tyX6 k))
  | 0, _ => Or.inl ⟨rfl, rfl⟩
  | 1, _ => Or.inl ⟨rfl, rfl⟩
  | 2, _ => Or.inl ⟨rfl, rfl⟩
  | 3, _ => Or.inl ⟨rfl, rfl⟩
  | 4, _ => ⟨0, rfl, by decide, by decide⟩
  | 5, _ => ⟨0, rfl, by decide, by decide⟩
  | 6, _ => ⟨0, rfl, by decide, by decide⟩
  | 7, _ => ⟨0, rfl, by decide, by decide⟩
  | 8, _ => ⟨0, rfl, by decide, by decide⟩
  | n + 9, h => absurd h (by omega)
theorem hN_7 : ∃ r : vw_C, gCl[7]? = some r ∧ r.2.2 = 7 := ⟨_, rfl, rfl⟩
theorem hap_7 {g : va_G} (h0 : gE1 g) : ∀ x y, x < 7 → y < 7 → x ≠ y → g.2 7 x ≠ g.2 7 y := by
  obtain ⟨r, -, -, h⟩ := h0 1 _ rfl
  exact h
theorem z_dok7 (τ : kTau) : ∀ k, k < 7 → k_ok τ (z_k0 (tyX7 k)) (defaultValue (tyX7 k))
  | 0, _ => Or.inl ⟨rfl, rfl⟩
  | 1, _ => ⟨0, rfl, by decide, by decide⟩
  | 2, _ => Or.inl ⟨rfl, rfl⟩
  | 3, _ => Or.inl ⟨rfl, rfl⟩
  | 4, _ => Or.inl ⟨rfl, rfl⟩
  | 5, _ => ⟨0, rfl, by decide, by decide⟩
  | 6, _ => ⟨0, rfl, by decide, by decide⟩
  | n + 7, h => absurd h (by omega)
theorem hN_8 : ∃ r : vw_C, gCl[8]? = some r ∧ r.2.2 = 9 := ⟨_, rfl, rfl⟩
theorem hap_8 {g : va_G} (h0 : gE1 g) : ∀ x y, x < 9 → y < 9 → x ≠ y → g.2 8 x ≠ g.2 8 y := by
  obtain ⟨r, -, -, h⟩ := h0 3 _ rfl
  exact h
theorem z_dok8 (τ : kTau) : ∀ k, k < 9 → k_ok τ (z_k0 (tyX8 k)) (defaultValue (tyX8 k))
  | 0, _ => ⟨0, rfl, by decide, by decide⟩
  | 1, _ => ⟨0, rfl, by decide, by decide⟩
  | 2, _ => ⟨0, rfl, by decide, by decide⟩
  | 3, _ => ⟨0, rfl, by decide, by decide⟩
  | 4, _ => Or.inl ⟨rfl, rfl⟩
  | 5, _ => Or.inl ⟨rfl, rfl⟩
  | 6, _ => Or.inl ⟨rfl, rfl⟩
  | 7, _ => Or.inl ⟨rfl, rfl⟩
  | 8, _ => Or.inl ⟨rfl, rfl⟩
  | n + 9, h => absurd h (by omega)
theorem hN_9 : ∃ r : vw_C, gCl[9]? = some r ∧ r.2.2 = 2 := ⟨_, rfl, rfl⟩
theorem hap_9 {g : va_G} (h0 : gE1 g) : ∀ x y, x < 2 → y < 2 → x ≠ y → g.2 9 x ≠ g.2 9 y := by
  obtain ⟨r, -, -, h⟩ := h0 5 _ rfl
  exact h
theorem z_dok9 (τ : kTau) : ∀ k, k < 2 → k_ok τ (z_k0 (tyX9 k)) (defaultValue (tyX9 k))
  | 0, _ => Or.inl ⟨rfl, rfl⟩
  | 1, _ => Or.inl ⟨rfl, rfl⟩
  | n + 2, h => absurd h (by omega)
theorem hN_10 : ∃ r : vw_C, gCl[10]? = some r ∧ r.2.2 = 7 := ⟨_, rfl, rfl⟩
theorem hap_10 {g : va_G} (h0 : gE1 g) : ∀ x y, x < 7 → y < 7 → x ≠ y → g.2 10 x ≠ g.2 10 y := by
  obtain ⟨r, -, -, h⟩ := h0 2 _ rfl
  exact h
theorem z_dok10 (τ : kTau) : ∀ k, k < 7 → k_ok τ (z_k0 (tyX10 k)) (defaultValue (tyX10 k))
  | 0, _ => Or.inl ⟨rfl, rfl⟩
  | 1, _ => Or.inl ⟨rfl, rfl⟩
  | 2, _ => Or.inl ⟨rfl, rfl⟩
  | 3, _ => Or.inl ⟨rfl, rfl⟩
  | 4, _ => ⟨0, rfl, by decide, by decide⟩
  | 5, _ => ⟨0, rfl, by decide, by decide⟩
  | 6, _ => ⟨0, rfl, by decide, by decide⟩
  | n + 7, h => absurd h (by omega)
theorem hN_11 : ∃ r : vw_C, gCl[11]? = some r ∧ r.2.2 = 14 := ⟨_, rfl, rfl⟩
theorem hap_11 {g : va_G} (h0 : gE1 g) : ∀ x y, x < 14 → y < 14 → x ≠ y → g.2 11 x ≠ g.2 11 y := by
  obtain ⟨r, -, -, h⟩ := h0 0 _ rfl
  exact h
theorem z_dok11 (τ : kTau) : ∀ k, k < 14 → k_ok τ (z_k0 (tyX11 k)) (defaultValue (tyX11 k))
  | 0, _ => Or.inl ⟨rfl, rfl⟩
  | 1, _ => Or.inl ⟨rfl, rfl⟩
  | 2, _ => Or.inl ⟨rfl, rfl⟩
  | 3, _ => Or.inl ⟨rfl, rfl⟩
  | 4, _ => ⟨0, rfl, by decide, by decide⟩
  | 5, _ => Or.inl ⟨rfl, rfl⟩
  | 6, _ => ⟨0, rfl, by decide, by decide⟩
  | 7, _ => ⟨0, rfl, by decide, by decide⟩
  | 8, _ => Or.inl ⟨rfl, rfl⟩
  | 9, _ => Or.inl ⟨rfl, rfl⟩
  | 10, _ => Or.inl ⟨rfl, rfl⟩
  | 11, _ => Or.inl ⟨rfl, rfl⟩
  | 12, _ => Or.inl ⟨rfl, rfl⟩
  | 13, _ => Or.inl ⟨rfl, rfl⟩
  | n + 14, h => absurd h (by omega)
theorem hN_12 : ∃ r : vw_C, gCl[12]? = some r ∧ r.2.2 = 43 := ⟨_, rfl, rfl⟩
theorem hap_12 {g : va_G} (h0 : gE1 g) : ∀ x y, x < 43 → y < 43 → x ≠ y → g.2 12 x ≠ g.2 12 y := by
  obtain ⟨r, -, -, h⟩ := h0 11 _ rfl
  exact h
theorem z_dok12 (τ : kTau) : ∀ k, k < 43 → k_ok τ (z_k0 (tyX12 k)) (defaultValue (tyX12 k))
  | 0, _ => Or.inl ⟨rfl, rfl⟩
  | 1, _ => ⟨0, rfl, by decide, by decide⟩
  | 2, _ => ⟨0, rfl, by decide, by decide⟩
  | 3, _ => Or.inl ⟨rfl, rfl⟩
  | 4, _ => Or.inl ⟨rfl, rfl⟩
  | 5, _ => Or.inl ⟨rfl, rfl⟩
  | 6, _ => Or.inl ⟨rfl, rfl⟩
  | 7, _ => Or.inl ⟨rfl, rfl⟩
  | 8, _ => ⟨0, rfl, by decide, by decide⟩
  | 9, _ => ⟨0, rfl, by decide, by decide⟩
  | 10, _ => ⟨0, rfl, by decide, by decide⟩
  | 11, _ => ⟨0, rfl, by decide, by decide⟩
  | 12, _ => ⟨0, rfl, by decide, by decide⟩
  | 13, _ => ⟨0, rfl, by decide, by decide⟩
  | 14, _ => ⟨0, rfl, by decide, by decide⟩
  | 15, _ => Or.inl ⟨rfl, rfl⟩
  | 16, _ => ⟨0, rfl, by decide, by decide⟩
  | 17, _ => ⟨0, rfl, by decide, by decide⟩
  | 18, _ => Or.inl ⟨rfl, rfl⟩
  | 19, _ => ⟨0, rfl, by decide, by decide⟩
  | 20, _ => Or.inl ⟨rfl, rfl⟩
  | 21, _ => Or.inl ⟨rfl, rfl⟩
  | 22, _ => ⟨0, rfl, by decide, by decide⟩
  | 23, _ => ⟨0, rfl, by decide, by decide⟩
  | 24, _ => Or.inl ⟨rfl, rfl⟩
  | 25, _ => ⟨0, rfl, by decide, by decide⟩
  | 26, _ => ⟨0, rfl, by decide, by decide⟩
  | 27, _ => ⟨0, rfl, by decide, by decide⟩
  | 28, _ => ⟨0, rfl, by decide, by decide⟩
  | 29, _ => ⟨0, rfl, by decide, by decide⟩
  | 30, _ => Or.inl ⟨rfl, rfl⟩
  | 31, _ => ⟨0, rfl, by decide, by decide⟩
  | 32, _ => Or.inl ⟨rfl, rfl⟩
  | 33, _ => Or.inl ⟨rfl, rfl⟩
  | 34, _ => ⟨0, rfl, by decide, by decide⟩
  | 35, _ => Or.inl ⟨rfl, rfl⟩
  | 36, _ => Or.inl ⟨rfl, rfl⟩
  | 37, _ => Or.inl ⟨rfl, rfl⟩
  | 38, _ => ⟨0, rfl, by decide, by decide⟩
  | 39, _ => Or.inl ⟨rfl, rfl⟩
  | 40, _ => Or.inl ⟨rfl, rfl⟩
  | 41, _ => Or.inl ⟨rfl, rfl⟩
  | 42, _ => Or.inl ⟨rfl, rfl⟩
  | n + 43, h => absurd h (by omega)
