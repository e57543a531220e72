/-! ===== text constants: length, charAt; Tape.is, wordFrom, otherWordFrom ===== -/
theorem s_len : ∀ i, i < 19 → (Int32.ofNat (sLen.getD i 0)).toInt = ((sLen.getD i 0 : Nat) : Int) ∧ sLen.getD i 0 ≤ 6 ∧ 1 ≤ sLen.getD i 0 := by decide +kernel
theorem wf_RJ0_9 : Jvm.Cond.fieldLink RJ0 9 "java/lang/String" "value" "[B" ∈ gTB := gIn (i := 1888) (by decide +kernel) (by decide +kernel)
theorem wf_RJ0_15 : Jvm.Cond.fieldLink RJ0 15 "java/lang/String" "coder" "B" ∈ gTB := gIn (i := 1889) (by decide +kernel) (by decide +kernel)
theorem wf_RJ0_38 : Jvm.Cond.fieldLink RJ0 38 "java/lang/String" "COMPACT_STRINGS" "Z" ∈ gTB := gIn (i := 647) (by decide +kernel) (by decide +kernel)
theorem wf_RJ0_1053 : Jvm.Cond.fieldLink RJ0 1053 "jdk/internal/util/Preconditions" "SIOOBE_FORMATTE\x52" "Ljava/util/function/BiFunction;" ∈ gTB := gIn (i := 663) (by decide +kernel) (by decide +kernel)
def K_s1 (r : Int) : kCtr := ([.inr (.inr (.inr ()))], [], [(some (.inl (r, r)), [], [])], [], [], [])
def K_sch : kCtr := ([.inr (.inr (.inr ())), kA], [], [(some (.inl (0, 255)), [], [])], [], [], [])
def K_cki : kCtr := ([kA, kA], [], [(none, [], [])], [], [], [])
def K_ck3 : kCtr := ([kA, kA, .inr (.inr (.inr ()))], [], [(some kA, [], [])], [], [], [])
theorem k_nilCI {X : kX} {own : String} : k_CI X own [] := fun _ h => by cases h
theorem s_pre2 {E : kE} {τ : kTau} {H : Heap} {v : Value} {k : Int32} {A : List kAlt} {m : List (Nat × Nat)} (hv : v.category = 1) : k_pre E τ H ([.inr (.inr (.inr ())), kA], [], A, m, [], []) [v, .int k] := by
  refine ⟨rfl, fun i z hz => ?_, trivial, fun _ h => (by cases h)⟩
  match i, hz with
  | 0, hz => cases hz; exact ⟨_, rfl, hv⟩
  | 1, hz => cases hz; exact ⟨_, rfl, _, rfl, k_in_top _⟩
  | n + 2, hz => cases hz
theorem s_pre1 {E : kE} {τ : kTau} {H : Heap} {v : Value} {A : List kAlt} {m : List (Nat × Nat)} (hv : v.category = 1) : k_pre E τ H ([.inr (.inr (.inr ()))], [], A, m, [], []) [v] := by
  refine ⟨rfl, fun i z hz => ?_, trivial, fun _ h => (by cases h)⟩
  match i, hz with
  | 0, hz => cases hz; exact ⟨_, rfl, hv⟩
  | n + 1, hz => cases hz
theorem s_post1 {E : kE} {τ : kTau} {H H' : Heap} {P : List kInfo} {q : kB} {as : List Value} {v : Option Value} (hp : k_post E τ H H' (P, [], [(some (.inl q), [], [])], [], [], []) as v) : k_HT E τ H' ∧ k_fr E τ [] H H' ∧ ∃ x : Int32, v = some (.int x) ∧ k_in q x.toInt := by
  obtain ⟨p1, p2, -, A, hA, hA2⟩ := hp
  obtain rfl := List.mem_singleton.mp hA
  obtain ⟨⟨w, hw, x, hx, hq⟩, -, -⟩ := hA2
  subst hx
  exact ⟨p1, p2, x, hw, hq⟩
theorem s_char {x : Int32} (h1 : 0 ≤ x.toInt) (h2 : x.toInt ≤ 255) : narrow .char (.int x) = .int x := by
  obtain ⟨j, hj, rfl⟩ := nI_of (x := x) (by rw [Int32.lt_iff_toInt_lt]; show ¬ x.toInt < 0; omega)
  rw [nI_toInt hj] at h2
  exact (pk_charN (by omega)).1
theorem s_eqv {x : Int32} {c : Int} (h : k_in (c, c) x.toInt) : x.toInt = c := Int.le_antisymm h.2 h.1
section
variable {l : Launch} {g : va_G} {tys : List (ClassId × FieldType)} {B0 : Nat} {GI : kGI} {τ : kTau}
theorem C_J3_checkIndex (h0 : gE1 g) (hT : k_tys (gE g tys B0 GI)) : s_Met l (gE g tys B0 GI) τ gTB yJ3_checkIndex_8e157 cJ3_checkIndex_8e157 3 1 K_ck3 ⟨0, 0, 0, 0⟩ (fun ps => ∃ (x y : Int32) (v : Value), ps = [.int x, .int y, v] ∧ 0 ≤ x.toInt ∧ x.toInt < y.toInt) := by
  refine x_metZ (I := I_J3_checkIndex_8e157) (FL := []) (CI := []) (CJ := []) (by decide +kernel) dec_J3_checkIndex_8e157 (fun X hts => ⟨k_nilFL, k_nilCI, k_nilCJ⟩) (gEok0 h0) hT (fun _ => by show 3 ≤ 3; decide) ?_
  rintro X ps ⟨x, y, v, rfl, h1, h2⟩ hl hr hts hC hH hpre
  have z0 : (0 : Int32).toInt = 0 := rfl
  refine x_ldi hC rfl rfl rfl ?_
  refine x_if (t := 9) hC rfl (by decide) (fun z => ?_) (fun _ => ?_)
  · have z : x.toInt < (0 : Int32).toInt := z
    rw [z0] at z
    omega
  refine x_ldi hC rfl rfl rfl ?_
  refine x_ldi hC rfl rfl rfl ?_
  refine x_icmp (t := 16) hC rfl (by decide) (fun _ => ?_) (fun z => absurd h2 z)
  refine x_ldi hC rfl rfl rfl ?_
  exact x_iret hC rfl ⟨hH, k_fr_refl, fun _ h => (by cases h), _, List.mem_cons_self, ⟨_, rfl, _, rfl, k_in_top _⟩, fun _ h => (by cases h), fun _ h => (by cases h)⟩
theorem C_J0_checkIndex (h0 : gE1 g) (hT : k_tys (gE g tys B0 GI)) : s_Met l (gE g tys B0 GI) τ gTB yJ0_checkIndex_df160 cJ0_checkIndex_df160 2 0 K_cki ⟨1, 0, 0, 22⟩ (fun ps => ∃ (x y : Int32), ps = [.int x, .int y] ∧ 0 ≤ x.toInt ∧ x.toInt < y.toInt) := by
  refine x_metZ (I := I_J0_checkIndex_df160) (FL := []) (CI := []) (CJ := []) (by decide +kernel) dec_J0_checkIndex_df160 (fun X hts => ⟨k_nilFL, k_nilCI, k_nilCJ⟩) (gEok0 h0) hT (fun _ => by show 2 ≤ 2; decide) ?_
  rintro X ps ⟨x, y, rfl, h1, h2⟩ hl hr hts hC hH hpre
  have hF := xF hC
  have hK : kK g gCl tys B0 X.2.2.2.2.1 := xKK hC
  subst hl
  obtain ⟨v, hv, hcat⟩ : ∃ v : Value, va_Z "jdk/internal/util/Preconditions" "SIOOBE_FORMATTE\x52" "Ljava/util/function/BiFunction;" v (fun q => B0 ≤ q) X.2.2.2.2.1 X.2.2.2.2.1.heap ∧ v.category = 1 := by
    rcases hK.2.2.2.2 with h | ⟨t, h⟩
    · exact ⟨_, h, rfl⟩
    · exact ⟨_, h, rfl⟩
  refine x_ldi hC rfl rfl rfl ?_
  refine x_ldi hC rfl rfl rfl ?_
  refine x_gets hC rfl hv (hts _ wf_RJ0_1053) rfl ?_
  refine x_callZ (E2 := gE g tys B0 GI) (K2 := K_ck3) (as := [.int x, .int y, v]) (rest := []) (s_callS (cc := cJ0_checkIndex_df160) hF hK hts gGood (C_J3_checkIndex h0 hT) wk_J3_checkIndex_8e157.1 wk_J3_checkIndex_8e157.2.1 wl_RJ0_1059 wk_J3_checkIndex_8e157.2.2 rfl rfl wd_J3_checkIndex_8e157 ⟨by rw [hr]; decide, by rw [hr]; decide⟩ (dec_J0_checkIndex_df160 (5, .invokestatic 1059, 3) (List.mem_of_getElem? (i := 3) rfl))) ⟨x, y, v, rfl, h1, h2⟩ rfl hH ⟨rfl, fun i z hz => ?_, trivial, fun _ h => (by cases h)⟩ rfl (by decide) (fun H1 w hp => ?_)
  · match i, hz with
    | 0, hz => cases hz; exact ⟨_, rfl, _, rfl, k_in_top _⟩
    | 1, hz => cases hz; exact ⟨_, rfl, _, rfl, k_in_top _⟩
    | 2, hz => cases hz; exact ⟨_, rfl, hcat⟩
    | n + 3, hz => cases hz
  · obtain ⟨p1, p2, w', rfl, -⟩ := s_post1 hp
    refine x_pop hC rfl rfl ?_
    exact x_vret hC rfl ⟨p1, p2, fun _ h => (by cases h), _, List.mem_cons_self, rfl, fun _ h => (by cases h), fun _ h => (by cases h)⟩
theorem C_J1_charAt (h0 : gE1 g) (hT : k_tys (gE g tys B0 GI)) {i : Nat} (hi : i < 19) : s_Met l (gE g tys B0 GI) τ gTB yJ1_charAt_3b067 cJ1_charAt_3b067 2 5 K_sch ⟨2, 0, 0, 43⟩ (fun ps => ∃ k : Int32, ps = [.ref (g.2 101 i), .int k] ∧ 0 ≤ k.toInt ∧ k.toInt < ((sLen.getD i 0 : Nat) : Int)) := by
  refine x_metZ (I := I_J1_charAt_3b067) (FL := []) (CI := []) (CJ := []) (by decide +kernel) dec_J1_charAt_3b067 (fun X hts => ⟨k_nilFL, k_nilCI, k_nilCJ⟩) (gEok0 h0) hT (fun _ => by show 2 ≤ 2; decide) ?_
  rintro X ps ⟨k, rfl, h1, h2⟩ hl hr hts hC hH hpre
  have hF := xF hC
  have hK : kK g gCl tys B0 X.2.2.2.2.1 := xKK hC
  subst hl
  have hTb := (hK.2.1.1 i hi).2.2.2
  obtain ⟨n1, n2, n3⟩ := s_len i hi
  refine x_ldi hC rfl rfl rfl ?_
  refine x_lda hC rfl rfl rfl ?_
  refine x_tlen hC rfl hTb ?_
  refine x_callZ (E2 := gE g tys B0 GI) (K2 := K_cki) (as := [.int k, .int (Int32.ofNat (sLen.getD i 0))]) (rest := []) (s_callS (cc := cJ1_charAt_3b067) hF hK hts gGood (C_J0_checkIndex h0 hT) wk_J0_checkIndex_df160.1 wk_J0_checkIndex_df160.2.1 wl_RJ1_9 wk_J0_checkIndex_df160.2.2 rfl rfl wd_J0_checkIndex_df160 ⟨by rw [hr]; decide, by rw [hr]; decide⟩ (dec_J1_charAt_3b067 (3, .invokestatic 9, 3) (List.mem_of_getElem? (i := 3) rfl))) ⟨k, _, rfl, h1, by rw [n1]; exact h2⟩ rfl hH ⟨rfl, fun i z hz => ?_, trivial, fun _ h => (by cases h)⟩ rfl (by decide) (fun H1 w hp => ?_)
  · match i, hz with
    | 0, hz => cases hz; exact ⟨_, rfl, _, rfl, k_in_top _⟩
    | 1, hz => cases hz; exact ⟨_, rfl, _, rfl, k_in_top _⟩
    | n + 2, hz => cases hz
  · obtain ⟨p1, p2, -, A, hA, hA2⟩ := hp
    obtain rfl := List.mem_singleton.mp hA
    obtain ⟨e, -, -⟩ := hA2
    have e : w = none := e
    subst e
    refine x_lda hC rfl rfl rfl ?_
    refine x_ldi hC rfl rfl rfl ?_
    refine x_tb hC rfl hTb ?_ rfl ?_
    · intro z
      rcases z with z | z
      · rw [Int32.lt_iff_toInt_lt] at z
        have z : k.toInt < 0 := z
        omega
      · have z : sLen.getD i 0 ≤ k.toInt.toNat := z
        omega
    refine x_cst hC rfl rfl ?_
    refine x_bin hC rfl rfl ?_
    have hb : k_in (0, 255) (k_binV .iand ((sByt.getD i []).getD k.toNatClampNeg 0) (Int32.ofInt 255)).toInt := k_andI_ok (p := k_top) (q := (255, 255)) (k_in_top _) ⟨by decide, by decide⟩
    refine x_i2c hC rfl (sc_c2 _) ?_
    exact x_nret hC rfl rfl (sc_nar _) ⟨p1, p2, fun _ h => (by cases h), _, List.mem_cons_self, ⟨_, rfl, _, rfl, hb⟩, fun _ h => (by cases h), fun _ h => (by cases h)⟩
theorem C_J0_isLatin1 (h0 : gE1 g) (hT : k_tys (gE g tys B0 GI)) {i : Nat} (hi : i < 19) : s_Met l (gE g tys B0 GI) τ gTB yJ0_isLatin1_aae02 cJ0_isLatin1_aae02 1 2 (K_s1 1) ⟨0, 0, 0, 0⟩ (fun ps => ps = [.ref (g.2 100 i)]) := by
  refine x_metZ (I := I_J0_isLatin1_aae02) (FL := []) (CI := []) (CJ := []) (by decide +kernel) dec_J0_isLatin1_aae02 (fun X hts => ⟨k_nilFL, k_nilCI, k_nilCJ⟩) (gEok0 h0) hT (fun _ => by show 1 ≤ 1; decide) ?_
  rintro X ps rfl hl hr hts hC hH hpre
  have hK : kK g gCl tys B0 X.2.2.2.2.1 := xKK hC
  refine x_gets hC rfl hK.2.2.2.1 (hts _ wf_RJ0_38) rfl ?_
  refine x_if (t := 17) hC rfl (by decide) (fun z => absurd z (by show ¬ ((1 : Int32).toInt = (0 : Int32).toInt); decide)) (fun _ => ?_)
  refine x_lda hC rfl rfl rfl ?_
  refine x_fget hC rfl (hK.2.1.1 i hi).2.1 (hts _ wf_RJ0_15) ?_
  refine x_if (t := 17) hC rfl (by decide) (fun z => absurd z (by show ¬ ¬ ((0 : Int32).toInt = (0 : Int32).toInt); decide)) (fun _ => ?_)
  refine x_cst hC rfl rfl ?_
  refine x_goto (t := 18) hC rfl (by decide) ?_
  exact x_zret hC rfl ⟨by decide, by decide⟩ ⟨hH, k_fr_refl, fun _ h => (by cases h), _, List.mem_cons_self, ⟨_, rfl, _, rfl, by decide, by decide⟩, fun _ h => (by cases h), fun _ h => (by cases h)⟩
theorem C_J0_coder (h0 : gE1 g) (hT : k_tys (gE g tys B0 GI)) {i : Nat} (hi : i < 19) : s_Met l (gE g tys B0 GI) τ gTB yJ0_coder_7d493 cJ0_coder_7d493 1 4 (K_s1 0) ⟨0, 0, 0, 0⟩ (fun ps => ps = [.ref (g.2 100 i)]) := by
  refine x_metZ (I := I_J0_coder_7d493) (FL := []) (CI := []) (CJ := []) (by decide +kernel) dec_J0_coder_7d493 (fun X hts => ⟨k_nilFL, k_nilCI, k_nilCJ⟩) (gEok0 h0) hT (fun _ => by show 1 ≤ 1; decide) ?_
  rintro X ps rfl hl hr hts hC hH hpre
  have hK : kK g gCl tys B0 X.2.2.2.2.1 := xKK hC
  refine x_gets hC rfl hK.2.2.2.1 (hts _ wf_RJ0_38) rfl ?_
  refine x_if (t := 13) hC rfl (by decide) (fun z => absurd z (by show ¬ ((1 : Int32).toInt = (0 : Int32).toInt); decide)) (fun _ => ?_)
  refine x_lda hC rfl rfl rfl ?_
  refine x_fget hC rfl (hK.2.1.1 i hi).2.1 (hts _ wf_RJ0_15) ?_
  refine x_goto (t := 14) hC rfl (by decide) ?_
  exact x_nret hC rfl rfl rfl ⟨hH, k_fr_refl, fun _ h => (by cases h), _, List.mem_cons_self, ⟨_, rfl, _, rfl, by decide, by decide⟩, fun _ h => (by cases h), fun _ h => (by cases h)⟩
theorem s_litT {E : kE} {i : Nat} (hi : i < 19) : ∀ as : List Value, as = [.ref (E.1.2 100 i)] → ∃ (j : Nat) (As : List Value), j < 19 ∧ as = .ref (E.1.2 100 j) :: As := fun _ h => ⟨i, [], hi, h⟩
theorem C_J0_length (h0 : gE1 g) (hT : k_tys (gE g tys B0 GI)) {i : Nat} (hi : i < 19) : s_Met l (gE g tys B0 GI) τ gTB yJ0_length_8abf5 cJ0_length_8abf5 1 1 (K_s1 ((sLen.getD i 0 : Nat) : Int)) ⟨1, 0, 0, 20⟩ (fun ps => ps = [.ref (g.2 100 i)]) := by
  refine x_metZ (I := I_J0_length_8abf5) (FL := []) (CI := []) (CJ := []) (by decide +kernel) dec_J0_length_8abf5 (fun X hts => ⟨k_nilFL, k_nilCI, k_nilCJ⟩) (gEok0 h0) hT (fun _ => by show 1 ≤ 1; decide) ?_
  rintro X ps rfl hl hr hts hC hH hpre
  have hF := xF hC
  have hK : kK g gCl tys B0 X.2.2.2.2.1 := xKK hC
  subst hl
  have hTb := (hK.2.1.1 i hi).2.2.2
  obtain ⟨n1, n2, n3⟩ := s_len i hi
  refine x_lda hC rfl rfl rfl ?_
  refine x_fget hC rfl (hK.2.1.1 i hi).2.2.1 (hts _ wf_RJ0_9) ?_
  refine x_tlen hC rfl hTb ?_
  refine x_lda hC rfl rfl rfl ?_
  refine x_callZ (E2 := gE g tys B0 GI) (K2 := K_s1 0) (as := [.ref (g.2 100 i)]) (rest := [.int (Int32.ofNat (sLen.getD i 0))]) (s_callT (cc := cJ0_length_8abf5) hF hK hts gGood (C_J0_coder h0 hT hi) wk_J0_coder_7d493.1 wk_J0_coder_7d493.2.1 wl_RJ0_335 wk_J0_coder_7d493.2.2.1 wk_J0_coder_7d493.2.2.2 (s_litT (E := gE g tys B0 GI) hi) rfl rfl rfl wd_J0_coder_7d493 ⟨by rw [hr]; decide, by rw [hr]; decide⟩ (dec_J0_length_8abf5 (6, .invokevirtual 335, 3) (List.mem_of_getElem? (i := 4) rfl))) rfl rfl hH (s_pre1 rfl) rfl (by show 1 ≤ 8; decide) (fun H1 w hp => ?_)
  obtain ⟨p1, p2, w', rfl, hw⟩ := s_post1 hp
  have hw0 : w' = 0 := Int32.toInt_inj.mp (by rw [s_eqv hw]; rfl)
  subst hw0
  refine x_ishr hC rfl ?_
  have e : Int32.ofNat (sLen.getD i 0) >>> ((0 : Int32) &&& 31) = Int32.ofNat (sLen.getD i 0) := sc_shr0 (n := sLen.getD i 0) (by omega)
  rw [e]
  exact x_iret hC rfl ⟨p1, p2, fun _ h => (by cases h), _, List.mem_cons_self, ⟨_, rfl, _, rfl, by rw [n1]; exact ⟨Int.le_refl _, Int.le_refl _⟩⟩, fun _ h => (by cases h), fun _ h => (by cases h)⟩
theorem C_J0_charAt (h0 : gE1 g) (hT : k_tys (gE g tys B0 GI)) {i : Nat} (hi : i < 19) : s_Met l (gE g tys B0 GI) τ gTB yJ0_charAt_5068e cJ0_charAt_5068e 2 5 K_sch ⟨3, 0, 0, 64⟩ (fun ps => ∃ k : Int32, ps = [.ref (g.2 100 i), .int k] ∧ 0 ≤ k.toInt ∧ k.toInt < ((sLen.getD i 0 : Nat) : Int)) := by
  refine x_metZ (I := I_J0_charAt_5068e) (FL := []) (CI := []) (CJ := []) (by decide +kernel) dec_J0_charAt_5068e (fun X hts => ⟨k_nilFL, k_nilCI, k_nilCJ⟩) (gEok0 h0) hT (fun _ => by show 2 ≤ 2; decide) ?_
  rintro X ps ⟨k, rfl, h1, h2⟩ hl hr hts hC hH hpre
  have hF := xF hC
  have hK : kK g gCl tys B0 X.2.2.2.2.1 := xKK hC
  subst hl
  refine x_lda hC rfl rfl rfl ?_
  refine x_callZ (E2 := gE g tys B0 GI) (K2 := K_s1 1) (as := [.ref (g.2 100 i)]) (rest := []) (s_callT (cc := cJ0_charAt_5068e) hF hK hts gGood (C_J0_isLatin1 h0 hT hi) wk_J0_isLatin1_aae02.1 wk_J0_isLatin1_aae02.2.1 wl_RJ0_492 wk_J0_isLatin1_aae02.2.2.1 wk_J0_isLatin1_aae02.2.2.2 (s_litT (E := gE g tys B0 GI) hi) rfl rfl rfl wd_J0_isLatin1_aae02 ⟨by rw [hr]; decide, by rw [hr]; decide⟩ (dec_J0_charAt_5068e (1, .invokevirtual 492, 3) (List.mem_of_getElem? (i := 1) rfl))) rfl rfl hH (s_pre1 rfl) rfl (by decide) (fun H1 w hp => ?_)
  obtain ⟨p1, p2, w', rfl, hw⟩ := s_post1 hp
  have hw1 : w' = 1 := Int32.toInt_inj.mp (by rw [s_eqv hw]; rfl)
  subst hw1
  refine x_if (t := 16) hC rfl (by decide) (fun z => absurd z (by show ¬ ((1 : Int32).toInt = (0 : Int32).toInt); decide)) (fun _ => ?_)
  refine x_lda hC rfl rfl rfl ?_
  refine x_fget hC rfl (hK.2.1.1 i hi).2.2.1 (hts _ wf_RJ0_9) ?_
  refine x_ldi hC rfl rfl rfl ?_
  refine x_callZ (E2 := gE g tys B0 GI) (K2 := K_sch) (as := [.ref (g.2 101 i), .int k]) (rest := []) (s_callS (cc := cJ0_charAt_5068e) hF hK hts gGood (C_J1_charAt h0 hT hi) wk_J1_charAt_3b067.1 wk_J1_charAt_3b067.2.1 wl_RJ0_495 wk_J1_charAt_3b067.2.2 rfl rfl wd_J1_charAt_3b067 ⟨by rw [hr]; decide, by rw [hr]; decide⟩ (dec_J0_charAt_5068e (12, .invokestatic 495, 3) (List.mem_of_getElem? (i := 6) rfl))) ⟨k, rfl, h1, h2⟩ rfl p1 (s_pre2 rfl) rfl (by decide) (fun H2 w hp2 => ?_)
  obtain ⟨p3, p4, w', rfl, hw⟩ := s_post1 hp2
  exact x_nret hC rfl rfl (s_char hw.1 hw.2) ⟨p3, k_fr_trans p2 p4 (fun _ h => h), fun _ h => (by cases h), _, List.mem_cons_self, ⟨_, rfl, _, rfl, hw⟩, fun _ h => (by cases h), fun _ h => (by cases h)⟩
end
def gTF : List kInfo := match (gTT[1]? : Option kDesc) with
  | some (.inl q) => q.2
  | _ => []
theorem gT_at : gTT[1]? = some (.inl (7, gTF)) := rfl
section
variable {l : Launch} {g : va_G} {tys : List (ClassId × FieldType)} {B0 : Nat} {c : gGh} {τ : kTau}
theorem C_X7_is (h0 : gE1 g) (hu : gUU τ) (hT : k_tys (gE g tys B0 (gGI g c))) {i : Nat} (hi : i < 19) : s_Met l (gE g tys B0 (gGI g c)) τ gTB yX7_is cX7_is 5 2 K_X7_is ⟨4, 0, 0, 85⟩ (fun ps => ∃ (a : Nat) (x y : Int32), ps = [.ref a, .int x, .int y, .ref (g.2 100 i)] ∧ τ a = some 1) := by
  refine x_metZ (I := I_X7_is) (FL := gFL7) (CI := gCI7) (CJ := gCJ7) (by decide +kernel) dec_X7_is (fun X hts => ⟨gFLk7 hts, gCIk7 hts, gCJk7 hts⟩) (gEok0 h0) hT (fun _ => by show 4 ≤ 5; decide) ?_
  rintro X ps ⟨a, x, y, rfl, ha⟩ hl hr hts hC hH hpre
  have hF := xF hC
  have hK : kK g gCl tys B0 X.2.2.2.2.1 := xKK hC
  subst hl
  obtain ⟨n1, n2, n3⟩ := s_len i hi
  have post : ∀ (H : Heap) (w : Int32), k_HT (gE g tys B0 (gGI g c)) τ H → k_fr (gE g tys B0 (gGI g c)) τ [] X.2.2.2.2.1.heap H → k_in (0, 1) w.toInt → k_post (gE g tys B0 (gGI g c)) τ X.2.2.2.2.1.heap H K_X7_is [.ref a, .int x, .int y, .ref (g.2 100 i)] (some (.int w)) := fun H w hH hf hw => ⟨hH, hf, fun _ h => (by cases h), _, List.mem_cons_self, ⟨_, rfl, _, rfl, hw⟩, fun _ h => (by cases h), fun _ h => (by cases h)⟩
  have z0 : (Int32.ofInt 0).toInt = 0 := i_of (by decide) (by decide)
  have loop : ∀ (N : Nat) (H : Heap) (k : Int32), k_HT (gE g tys B0 (gGI g c)) τ H → k_fr (gE g tys B0 (gGI g c)) τ [] X.2.2.2.2.1.heap H → 0 ≤ k.toInt → k.toInt ≤ ((sLen.getD i 0 : Nat) : Int) → (((sLen.getD i 0 : Nat) : Int) - k.toInt).toNat < N → kx X (gE g tys B0 (gGI g c)) H 15 5 [(4, .int k), (0, .ref a), (1, .int x), (2, .int y), (3, .ref (g.2 100 i))] [] := by
    intro N
    induction N with
    | zero => intro H k _ _ _ _ h; omega
    | succ N ih =>
      intro H k hH hf k1 k2 hN
      refine x_ldi hC rfl rfl rfl ?_
      refine x_lda hC rfl rfl rfl ?_
      refine x_callZ (E2 := gE g tys B0 (gGI g c)) (K2 := K_s1 ((sLen.getD i 0 : Nat) : Int)) (as := [.ref (g.2 100 i)]) (rest := [.int k]) (s_callT (cc := cX7_is) hF hK hts gGood (C_J0_length h0 hT hi) wk_J0_length_8abf5.1 wk_J0_length_8abf5.2.1 wl_RX7_102 wk_J0_length_8abf5.2.2.1 wk_J0_length_8abf5.2.2.2 (s_litT (E := gE g tys B0 (gGI g c)) hi) rfl rfl rfl wd_J0_length_8abf5 ⟨by rw [hr]; decide, by rw [hr]; decide⟩ (dec_X7_is (18, .invokevirtual 102, 3) (List.mem_of_getElem? (i := 12) rfl))) rfl rfl hH (s_pre1 rfl) rfl (by show 1 ≤ 8; decide) (fun H1 w hp => ?_)
      obtain ⟨p1, p2, w', rfl, hw⟩ := s_post1 hp
      have hw := s_eqv hw
      have hf1 := k_fr_trans hf p2 (fun _ h => h)
      refine x_icmp (t := 49) hC rfl (by decide) (fun _ => ?_) (fun z => ?_)
      · refine x_cst hC rfl rfl ?_
        exact x_zret hC rfl ⟨by decide, by decide⟩ (post H1 _ p1 hf1 ⟨by decide, by decide⟩)
      · have z : ¬ w'.toInt ≤ k.toInt := z
        rw [hw] at z
        refine x_lda hC rfl rfl rfl ?_
        refine x_ldi hC rfl rfl rfl ?_
        refine x_ldi hC rfl rfl rfl ?_
        refine x_bin hC rfl rfl ?_
        refine x_call (E2 := gE g tys B0 (gGI g c)) (K2 := K_X7_byteAt) (as := [.ref a, .int (k_binV .iadd x k)]) (rest := []) (k_callV (cc := cX7_is) (C := RX7) hF hK hts gGood (C_X7_byteAt (l := X.2.1) h0 hu hT) wk_X7_byteAt.1 wk_X7_byteAt.2.1 wl_RX7_39 wk_X7_byteAt.2.2.1 wk_X7_byteAt.2.2.2 rfl rfl rfl rfl rfl wd_X7_byteAt ⟨by rw [hr]; decide, by rw [hr]; decide⟩ (dec_X7_is (29, .invokevirtual 39, 3) (List.mem_of_getElem? (i := 18) rfl))) rfl p1 ⟨rfl, fun i z hz => ?_, trivial, fun _ h => (by cases h)⟩ rfl (by decide) (fun H2 w2 hp2 => ?_)
        · match i, hz with
          | 0, hz => cases hz; exact ⟨_, rfl, Or.inr ⟨a, 1, rfl, List.mem_singleton.mpr rfl, ha⟩⟩
          | 1, hz => cases hz; exact ⟨_, rfl, _, rfl, k_in_top _⟩
          | n + 2, hz => cases hz
        · obtain ⟨p3, p4, w3, rfl, -⟩ := s_post1 hp2
          have hf2 := k_fr_trans hf1 p4 (fun _ h => h)
          refine x_lda hC rfl rfl rfl ?_
          refine x_ldi hC rfl rfl rfl ?_
          refine x_callZ (E2 := gE g tys B0 (gGI g c)) (K2 := K_sch) (as := [.ref (g.2 100 i), .int k]) (rest := [.int w3]) (s_callT (cc := cX7_is) hF hK hts gGood (C_J0_charAt h0 hT hi) wk_J0_charAt_5068e.1 wk_J0_charAt_5068e.2.1 wl_RX7_107 wk_J0_charAt_5068e.2.2.1 wk_J0_charAt_5068e.2.2.2 (fun _ h => by obtain ⟨k, e, -⟩ := h; exact ⟨i, _, hi, e⟩) rfl rfl rfl wd_J0_charAt_5068e ⟨by rw [hr]; decide, by rw [hr]; decide⟩ (dec_X7_is (35, .invokevirtual 107, 3) (List.mem_of_getElem? (i := 21) rfl))) ⟨k, rfl, k1, by omega⟩ rfl p3 (s_pre2 rfl) rfl (by show 1 ≤ 8; decide) (fun H3 w4 hp3 => ?_)
          obtain ⟨p5, p6, w5, rfl, -⟩ := s_post1 hp3
          have hf3 := k_fr_trans hf2 p6 (fun _ h => h)
          refine x_icmp (t := 43) hC rfl (by decide) (fun _ => ?_) (fun _ => ?_)
          · have hx1 : (k + Int32.ofInt 1).toInt = k.toInt + 1 := i_add (by rw [i_of (by decide) (by decide)]) (by omega) (by omega)
            refine x_iinc hC rfl (m := 0) rfl (by decide) rfl ?_
            refine x_goto (t := 15) hC rfl (by decide) ?_
            exact ih H3 _ p5 hf3 (by rw [hx1]; omega) (by rw [hx1]; omega) (by rw [hx1]; omega)
          · refine x_cst hC rfl rfl ?_
            exact x_zret hC rfl ⟨by decide, by decide⟩ (post H3 _ p5 hf3 ⟨by decide, by decide⟩)
  refine x_ldi hC rfl rfl rfl ?_
  refine x_ldi hC rfl rfl rfl ?_
  refine x_bin hC rfl rfl ?_
  refine x_lda hC rfl rfl rfl ?_
  refine x_callZ (E2 := gE g tys B0 (gGI g c)) (K2 := K_s1 ((sLen.getD i 0 : Nat) : Int)) (as := [.ref (g.2 100 i)]) (rest := [.int (k_binV .isub y x)]) (s_callT (cc := cX7_is) hF hK hts gGood (C_J0_length h0 hT hi) wk_J0_length_8abf5.1 wk_J0_length_8abf5.2.1 wl_RX7_102 wk_J0_length_8abf5.2.2.1 wk_J0_length_8abf5.2.2.2 (s_litT (E := gE g tys B0 (gGI g c)) hi) rfl rfl rfl wd_J0_length_8abf5 ⟨by rw [hr]; decide, by rw [hr]; decide⟩ (dec_X7_is (4, .invokevirtual 102, 3) (List.mem_of_getElem? (i := 4) rfl))) rfl rfl hH (s_pre1 rfl) rfl (by show 1 ≤ 8; decide) (fun H1 w hp => ?_)
  obtain ⟨p1, p2, w', rfl, hw⟩ := s_post1 hp
  refine x_icmp (t := 12) hC rfl (by decide) (fun _ => ?_) (fun _ => ?_)
  · refine x_cst hC rfl rfl ?_
    refine x_ist hC rfl (by decide) rfl ?_
    exact loop 7 H1 _ p1 p2 (by rw [z0]; decide) (by rw [z0]; omega) (by rw [z0]; omega)
  · refine x_cst hC rfl rfl ?_
    exact x_zret hC rfl ⟨by decide, by decide⟩ (post H1 _ p1 p2 ⟨by decide, by decide⟩)
end
