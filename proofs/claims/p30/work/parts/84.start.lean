/-! ===== the law's start: the two are made ===== -/
theorem wst_1 : Jvm.Cond.classLink RL 7 RX11 ∈ gTB ∧ Jvm.Cond.instantiable RX11 14 ∈ gTB ∧ Jvm.Cond.initialized RX11 ∈ gTB ∧ Jvm.Cond.methodLink RL 9 yX11_init ∈ gTB ∧ Jvm.Cond.instanceMethod yX11_init ∈ gTB ∧ Jvm.Cond.code yX11_init cX11_init 2 none ∈ gTB := ⟨gIn (i := 147) (by decide +kernel) (by decide +kernel), gIn (i := 148) (by decide +kernel) (by decide +kernel), gIn (i := 126) (by decide +kernel) (by decide +kernel), gIn (i := 149) (by decide +kernel) (by decide +kernel), gIn (i := 150) (by decide +kernel) (by decide +kernel), gIn (i := 151) (by decide +kernel) (by decide +kernel)⟩
theorem wst_2 : Jvm.Cond.classLink RL 10 RX12 ∈ gTB ∧ Jvm.Cond.instantiable RX12 43 ∈ gTB ∧ Jvm.Cond.initialized RX12 ∈ gTB ∧ Jvm.Cond.methodLink RL 12 yX12_init ∈ gTB ∧ Jvm.Cond.instanceMethod yX12_init ∈ gTB ∧ Jvm.Cond.code yX12_init cX12_init 1 none ∈ gTB := ⟨gIn (i := 1256) (by decide +kernel) (by decide +kernel), gIn (i := 1257) (by decide +kernel) (by decide +kernel), gIn (i := 137) (by decide +kernel) (by decide +kernel), gIn (i := 1258) (by decide +kernel) (by decide +kernel), gIn (i := 1259) (by decide +kernel) (by decide +kernel), gIn (i := 1260) (by decide +kernel) (by decide +kernel)⟩
theorem wsd_1 : yX11_init.cls ≠ "java/lang/invoke/MethodHandle" ∧ yX11_init.cls ≠ "java/lang/invoke/VarHandle" ∧ (parseMethodDescriptor yX11_init.desc).map (fun d => d.parameters.length) = some 0 := by decide +kernel
theorem wsd_2 : yX12_init.cls ≠ "java/lang/invoke/MethodHandle" ∧ yX12_init.cls ≠ "java/lang/invoke/VarHandle" ∧ (parseMethodDescriptor yX12_init.desc).map (fun d => d.parameters.length) = some 0 := by decide +kernel
def I_LS : List (Nat × Instr × Nat) := [(0, .new 7, 3), (3, .dup, 1), (4, .invokespecial 9, 3), (7, .astore_n 1, 1), (8, .new 10, 3), (11, .dup, 1), (12, .invokespecial 12, 3), (15, .astore_n 2, 1), (16, .iconst 0, 1), (17, .istore_n 3, 1)]
theorem dec_LS : ∀ q ∈ I_LS, decode code q.1 = .ok q.2 := by decide +kernel
theorem law_start {X : kX} {g : va_G} {tys : List (ClassId × FieldType)} {B0 : Nat} {I0 : List (Nat × Instr × Nat)} {b Lx : Nat} {xs : Nat → Int32} (hC0 : zC X g tys B0 4 code RL I0 []) (hX : zS X B0 b Lx xs) (h0 : gE1 g) (htys : tys.map Prod.snd = gTyL) (hr : X.2.2.2.1 = room_1)
    (hend : ∀ (cells slots : Nat) (H : Heap) (L : List (Nat × Value)), cells ≤ 600000 → slots ≤ 7302250 → kz X B0 cells slots H 1086 4 L [.int (Int32.ofInt 1)]) : kz X B0 0 0 X.2.2.2.2.1.heap 0 4 [(0, .ref b)] [] := by
  have hC := zC_I hC0 dec_LS
  have c : gGh := ((0, fun _ => True), 0, 0, 0, 0)
  have hB : X.2.2.2.2.1.heap.size = B0 := hX.2.2.1
  have hX4 := hX.2.2.2
  generalize X.2.2.2.2.1.heap = H0 at hB ⊢
  have hH0 : k_HT (e0 g tys B0) (fun _ => none) H0 := fun a t h => by cases h
  refine z_new (τ := fun _ => none) (ci := 11) (C := RX11) (T := TX11) (N := 14) (ty := tyX11) hC rfl rfl gW11 tyX11_ok (z_dok11 _) wst_1.1 wst_1.2.1 wst_1.2.2.1 (by rw [hr]; exact Nat.le_of_ble_eq_true rfl) (by rw [hr]; exact Nat.le_of_ble_eq_true rfl) (fun H1 n1 s1 o1 => ?_)
  have hH1 : k_HT (e0 g tys B0) (fun _ => none) H1 := fun a t h => by cases h
  refine z_dup hC rfl rfl ?_
  refine z_init (τ := fun _ => none) (b := H0.size) (As := []) (rest := [.ref H0.size]) (rm := R_11) hC rfl (C_X11_init (l := X.2.1) h0 htys) wst_1.2.2.2.2.2 wst_1.2.2.1 wst_1.2.2.2.1 wst_1.2.2.2.2.1 rfl wsd_1 ⟨by rw [hr]; decide, by rw [hr]; decide⟩ ⟨by rw [hr]; exact Nat.le_of_ble_eq_true rfl, by rw [hr]; exact Nat.le_of_ble_eq_true rfl⟩ hH1 (by omega) rfl (by omega) n1 rfl (fun i x h => by cases h) rfl (by show 1 ≤ 8; decide) (fun H2 τ2 hp => ?_)
  obtain ⟨p1, p2, p3, p4, p5, p6, ⟨xk, ⟨w, xw1, xw2, xw3⟩, ⟨bi, cI, xi1, xi2⟩, dT, xT⟩⟩ := hp
  generalize hax : H0.size = ax at *
  refine z_ast_n hC rfl (by decide) rfl ?_
  refine z_new (τ := τ2) (ci := 12) (C := RX12) (T := TX12) (N := 43) (ty := tyX12) hC rfl rfl gW12 tyX12_ok (z_dok12 _) wst_2.1 wst_2.2.1 wst_2.2.2.1 (by rw [hr]; exact Nat.le_of_ble_eq_true rfl) (by rw [hr]; exact Nat.le_of_ble_eq_true rfl) (fun H3 n3 s3 o3 => ?_)
  have hH3 : k_HT (e0 g tys B0) τ2 H3 := k_HT_kept p3 (fun q u hq => o3 q (k_HT_lt p3 hq))
  refine z_dup hC rfl rfl ?_
  refine z_init (τ := τ2) (b := H2.size) (As := []) (rest := [.ref H2.size]) (rm := R_12) hC rfl (C_X12_init (l := X.2.1) h0 htys) wst_2.2.2.2.2.2 wst_2.2.2.1 wst_2.2.2.2.1 wst_2.2.2.2.2.1 rfl wsd_2 ⟨by rw [hr]; decide, by rw [hr]; decide⟩ ⟨by rw [hr]; exact Nat.le_of_ble_eq_true rfl, by rw [hr]; exact Nat.le_of_ble_eq_true rfl⟩ hH3 (by omega) (k_HT_top p3 (Nat.le_refl _)) (by omega) n3 rfl (fun i x h => by cases h) rfl (by show 1 ≤ 8; decide) (fun H4 τ4 hp => ?_)
  obtain ⟨q1, q2, q3, q4, q5, q6, ⟨yk, ⟨d6, cA6, y61, y62⟩, ⟨d42, cA42, y421, y422⟩⟩⟩ := hp
  generalize ham : H2.size = am at *
  have old : ∀ q : Nat, q < am → H4[q]? = H2[q]? := fun q hq => by
    rw [(q5 q (by omega) (by omega)).1]
    exact o3 q hq
  have lt2 : ∀ q u : Nat, τ2 q = some u → q < am := fun q u hq => by rw [← ham]; exact k_HT_lt p3 hq
  have no11 : ∀ q, τ2 q ≠ some 11 := fun q hq => by
    rcases p2 q 11 hq with e | ⟨-, e⟩ | e
    · cases e
    · exact absurd e (by decide)
    · exact absurd e (by decide)
  have u11 : ∀ q, τ4 q = some 11 → q = am := fun q hq => by
    rcases q2 q 11 hq with e | ⟨e, -⟩ | e
    · exact absurd e (no11 q)
    · exact e
    · exact absurd e (by decide)
  have u1 : ∀ q, τ4 q = some 1 → q = dT := fun q hq => by
    rcases q2 q 1 hq with e | ⟨-, e⟩ | e
    · rcases xT q e with e' | e'
      · cases e'
      · exact e'
    · exact absurd e (by decide)
    · exact absurd e (by decide)
  have lax : ax < am := lt2 _ _ p4
  have tb : τ2 bi = some 20 := by
    obtain ⟨v, v1, v2⟩ := k_cell_at (k := 2) (x := .inr (.inr (.inl (false, [20])))) h0 hN_11 xk rfl
    rw [xi1] at v1
    cases v1
    obtain ⟨z, e, hz⟩ := k_refOk v2
    cases e
    exact hz
  have lbi := lt2 _ _ tb
  have lw := lt2 _ _ xw2
  have hcv : CV g ax τ4 H4 0 (fun _ => none) := by
    refine ⟨w, bi, 0, by unfold fS; rw [old ax lax]; exact xw1, q1 _ _ xw2, by unfold dS; rw [old w lw]; exact xw3, rfl, by unfold fS; rw [old ax lax]; exact xi1, q1 _ _ tb, fun j hj => Or.inl ⟨rfl, ?_⟩, fun j k p hj hk e1 e2 => ?_⟩
    · unfold iS
      rw [old bi lbi, xi2]
      exact arrV_read cI _ hj
    · unfold iS at e1
      rw [old bi lbi, xi2] at e1
      have e1 : (arrV cI 4 (fun _ => .null)).slots[j]? = some (.ref p) := e1
      rw [arrV_read cI _ hj] at e1
      cases e1
  have z23 : vI g H4 am 23 = 0 := by
    obtain ⟨v, v1, x, rfl, v2, v3⟩ := k_cell_at (k := 23) (x := .inl (0, 0)) h0 hN_12 yk rfl
    unfold vI
    rw [v1]
    exact Int.le_antisymm v3 v2
  have z42 : ∀ j, j < 4 → vA g H4 am 42 j = 0 := fun j hj => by
    unfold vA
    rw [y421]
    exact vE_at y422 hj rfl
  have z6 : ∀ j, j < 6 → vA g H4 am 6 j = 0 := fun j hj => by
    unfold vA
    rw [y61]
    exact vE_at y62 hj rfl
  have hmv : MV g am H4 0 (fun _ => none) := ⟨z23, fun j hj => ⟨fun _ => z42 j hj, fun y hy => by cases hy⟩⟩
  have hgi : gGI g c 1 τ4 H4 := gGI_put (by decide) q4 u11 (by
    show bGood (vA g H4 am 3) (vA g H4 am 5) (vA g H4 am 6)
    intro t ht i hi
    rw [z6 t ht] at hi
    omega)
  have hLI : LI g tys B0 c ax am τ4 H4 0 (fun _ => none) := ⟨q3, ⟨⟨am, q4, u11⟩, fun x y hx hy => by rw [u1 x hx, u1 y hy]⟩, hgi, q1 _ _ p4, q4, hcv, hmv⟩
  refine z_ast_n hC rfl (by decide) rfl ?_
  refine z_cst hC rfl rfl ?_
  refine z_ist_n hC rfl (by decide) rfl ?_
  refine z_sub (L := [(0, .ref b), (1, .ref ax), (2, .ref am), (3, .int (Int32.ofInt 0))]) (fun q hq => ?_) (law_loop hC0 hX h0 htys hr hend 512 0 _ _ (Int32.ofInt 0) H4 τ4 0 (fun _ => none) (i_of (by decide) (by decide)) (Nat.zero_le _) (by omega) (Nat.le_of_ble_eq_true rfl) (Nat.le_of_ble_eq_true rfl) hLI)
  rcases List.mem_cons.mp hq with e | hq
  · subst e; exact List.mem_of_getElem? (i := 3) rfl
  rcases List.mem_cons.mp hq with e | hq
  · subst e; exact List.mem_of_getElem? (i := 2) rfl
  rcases List.mem_cons.mp hq with e | hq
  · subst e; exact List.mem_of_getElem? (i := 1) rfl
  · rw [List.mem_singleton.mp hq]; exact List.mem_of_getElem? (i := 0) rfl
