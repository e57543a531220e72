/-! ===== the law's loop (printed by wip/p30/law3.py) ===== -/
def I_LL : List (Nat × Instr × Nat) := [(18, .iload_n 3, 1), (19, .aload_n 0, 1), (20, .arraylength, 1), (21, .bipush 6, 2), (23, .isub, 1), (24, .if_icmp .gt 1061, 3), (27, .aload_n 0, 1), (28, .iload_n 3, 1), (29, .iaload, 1), (30, .bipush 63, 2), (32, .iand, 1), (33, .tableswitch 1046 0 32 #[147, 210, 233, 246, 259, 282, 315, 348, 361, 384, 407, 440, 463, 476, 519, 542, 555, 568, 601, 624, 647, 680, 713, 746, 799, 822, 855, 878, 901, 924, 977, 1000, 1023], 147), (1079, .iinc 3 6, 3), (1082, .goto (-1064), 3), (1085, .iconst 1, 1), (1086, .ireturn, 1)]
theorem dec_LL : ∀ q ∈ I_LL, decode code q.1 = .ok q.2 := by decide +kernel
section
variable {X : kX} {g : va_G} {tys : List (ClassId × FieldType)} {B0 nL : Nat} {cc : ByteArray} {own : String} {I : List (Nat × Instr × Nat)} {FL : List (Nat × Nat × Nat × Nat)} {cells slots : Nat} {H : Heap} {pc : Nat} {L : List (Nat × Value)} {st : List Value}
theorem z_iand {x y : Int32} (hC : zC X g tys B0 nL cc own I FL) (h : k_cd I pc = some (.iand, 1)) (k : kz X B0 cells slots H (pc + 1) nL L (.int (x &&& y) :: st)) : kz X B0 cells slots H pc nL L (.int y :: .int x :: st) := by
  obtain ⟨⟨hx, hb, hml, ho⟩, hD, -⟩ := hC
  intro locs hl ls hls
  have hd := hD _ (k_cd_ok h)
  have hgo := k locs hl ls hls
  exact lv_iand hx hb hd hgo
theorem z_tabIn {dflt lo hi off : Int} {offs : Array Int} {len tgt : Nat} {x : Int32} (hC : zC X g tys B0 nL cc own I FL) (h : k_cd I pc = some (.tableswitch dflt lo hi offs, len)) (h1 : ¬ x.toInt < lo) (h2 : ¬ hi < x.toInt) (ho : offs[(x.toInt - lo).toNat]? = some off) (ht : (pc : Int) + off = (tgt : Int)) (k : kz X B0 cells slots H tgt nL L st) : kz X B0 cells slots H pc nL L (.int x :: st) := by
  obtain ⟨⟨hx, hb, hml, ho'⟩, hD, -⟩ := hC
  intro locs hl ls hls
  have hd := hD _ (k_cd_ok h)
  have hgo := k locs hl ls hls
  exact lv_tableIn hx hb hd h1 h2 ho ht hgo
theorem z_tabOut {dflt lo hi : Int} {offs : Array Int} {len tgt : Nat} {x : Int32} (hC : zC X g tys B0 nL cc own I FL) (h : k_cd I pc = some (.tableswitch dflt lo hi offs, len)) (h1 : x.toInt < lo ∨ hi < x.toInt) (ht : (pc : Int) + dflt = (tgt : Int)) (k : kz X B0 cells slots H tgt nL L st) : kz X B0 cells slots H pc nL L (.int x :: st) := by
  obtain ⟨⟨hx, hb, hml, ho'⟩, hD, -⟩ := hC
  intro locs hl ls hls
  have hd := hD _ (k_cd_ok h)
  have hgo := k locs hl ls hls
  exact lv_tableOut hx hb hd h1 ht hgo
end
theorem i_sub' {x y : Int32} {z : Int} (h : x.toInt - y.toInt = z) (h1 : -2147483648 ≤ z) (h2 : z ≤ 2147483647) : (x - y).toInt = z := by
  rw [Int32.toInt_sub, h]
  exact Int.bmod_eq_of_le (by omega) (by omega)
theorem law_loop {X : kX} {g : va_G} {tys : List (ClassId × FieldType)} {B0 : Nat} {I0 : List (Nat × Instr × Nat)} {b Lx : Nat} {xs : Nat → Int32} {c : gGh} {ax am : Nat} (hC0 : zC X g tys B0 4 code RL I0 []) (hX : zS X B0 b Lx xs) (h0 : gE1 g) (htys : tys.map Prod.snd = gTyL) (hr : X.2.2.2.1 = room_1)
    (hend : ∀ (cells slots : Nat) (H : Heap) (L : List (Nat × Value)), cells ≤ 600000 → slots ≤ 7302250 → kz X B0 cells slots H 1086 4 L [.int (Int32.ofInt 1)]) :
    ∀ (m k cells slots : Nat) (i : Int32) (H : Heap) (τ : kTau) (d : Int) (im : Nat → Option Int), i.toInt = (k : Int) → k ≤ Lx → Lx ≤ k + 6 * m → cells + 14 * m ≤ 600000 → slots + 803 * m ≤ 7302250 → LI g tys B0 c ax am τ H d im → kz X B0 cells slots H 18 4 [(0, .ref b), (1, .ref ax), (2, .ref am), (3, .int i)] [] := by
  have hC := zC_I hC0 dec_LL
  have hX4 := hX.2.2.2
  intro m
  induction m with
  | zero =>
    intro k cells slots i H τ d im hi hkL hLm hce hsl hL
    have eL := ofN (n := Lx) (by omega)
    have e6 : (Int32.ofInt 6).toInt = 6 := i_of (by decide) (by decide)
    have es : (Int32.ofNat Lx - Int32.ofInt 6).toInt = (Lx : Int) - 6 := i_sub' (by rw [eL, e6]) (by omega) (by omega)
    refine z_ldi hC rfl rfl rfl ?_
    refine z_lda hC rfl rfl rfl ?_
    refine z_slen hC hX rfl ?_
    refine z_cst hC rfl rfl ?_
    refine z_isub hC rfl ?_
    generalize Int32.ofNat Lx - Int32.ofInt 6 = y at es ⊢
    refine z_icmp (t := 1085) hC rfl (by decide) (fun z => ?_) (fun z => ?_)
    · refine z_cst hC rfl rfl ?_
      exact hend cells slots H _ (by omega) (by omega)
    · have z : ¬ y.toInt < i.toInt := z
      omega
  | succ m ih =>
    intro k cells slots i H τ d im hi hkL hLm hce hsl hL
    have hs8 : slots + 803 ≤ 7302250 := Nat.le_trans (Nat.add_le_add_left (Nat.le_mul_of_pos_right 803 (Nat.succ_pos m)) slots) hsl
    have eL := ofN (n := Lx) (by omega)
    have e6 : (Int32.ofInt 6).toInt = 6 := i_of (by decide) (by decide)
    have es : (Int32.ofNat Lx - Int32.ofInt 6).toInt = (Lx : Int) - 6 := i_sub' (by rw [eL, e6]) (by omega) (by omega)
    refine z_ldi hC rfl rfl rfl ?_
    refine z_lda hC rfl rfl rfl ?_
    refine z_slen hC hX rfl ?_
    refine z_cst hC rfl rfl ?_
    refine z_isub hC rfl ?_
    generalize Int32.ofNat Lx - Int32.ofInt 6 = y at es ⊢
    refine z_icmp (t := 1085) hC rfl (by decide) (fun z => ?_) (fun z => ?_)
    · refine z_cst hC rfl rfl ?_
      exact hend cells slots H _ (by omega) (by omega)
    have z : ¬ y.toInt < i.toInt := z
    have hk : k + 5 < Lx := by omega
    have ei : (i + Int32.ofInt 6).toInt = ((k + 6 : Nat) : Int) := i_add (by rw [hi, e6]; omega) (by omega) (by omega)
    have next : ∀ (cells' slots' : Nat) (H' : Heap) (τ' : kTau) (d' : Int) (im' : Nat → Option Int), cells' ≤ cells + 14 → slots' ≤ slots + 803 → LI g tys B0 c ax am τ' H' d' im' → kz X B0 cells' slots' H' 1079 4 [(0, .ref b), (1, .ref ax), (2, .ref am), (3, .int i)] [] := by
      intro cells' slots' H' τ' d' im' q1 q2 hL'
      refine z_iinc (m := 3) hC rfl rfl (by decide) rfl ?_
      refine z_goto (t := 18) hC rfl (by decide) ?_
      refine z_sub (L := [(0, .ref b), (1, .ref ax), (2, .ref am), (3, .int (i + Int32.ofInt 6))]) (fun q hq => ?_) (ih (k + 6) cells' slots' (i + Int32.ofInt 6) H' τ' d' im' ei (by omega) (by omega) (by omega) (by omega) hL')
      rcases List.mem_cons.mp hq with e | hq
      · subst e; exact List.mem_of_getElem? (i := 1) rfl
      rcases List.mem_cons.mp hq with e | hq
      · subst e; exact List.mem_of_getElem? (i := 2) rfl
      rcases List.mem_cons.mp hq with e | hq
      · subst e; exact List.mem_of_getElem? (i := 3) rfl
      · rw [List.mem_singleton.mp hq]; exact List.mem_of_getElem? (i := 0) rfl
    have next0 : ∀ H' : Heap, LI g tys B0 c ax am τ H' d im → kz X B0 cells slots H' 1079 4 [(0, .ref b), (1, .ref ax), (2, .ref am), (3, .int i)] [] := fun H' hL' => next cells slots H' τ d im (by omega) (by omega) hL'
    have nextT : ∀ (cells' slots' : Nat), cells' ≤ cells + 14 → slots' ≤ slots + 803 → ∀ (H' : Heap) (τ' : kTau) (d' : Int) (im' : Nat → Option Int), LI g tys B0 c ax am τ' H' d' im' → kz X B0 cells' slots' H' 1079 4 [(0, .ref b), (1, .ref ax), (2, .ref am), (3, .int i)] [] := fun cells' slots' q1 q2 H' τ' d' im' hL' => next cells' slots' H' τ' d' im' q1 q2 hL'
    refine z_lda hC rfl rfl rfl ?_
    refine z_ldi hC rfl rfl rfl ?_
    refine z_sld hC hX rfl ⟨by omega, by omega⟩ ?_
    refine z_cst hC rfl rfl ?_
    refine z_iand hC rfl ?_
    generalize xs i.toInt.toNat &&& Int32.ofInt 63 = v
    by_cases hv : v.toInt < 0 ∨ 32 < v.toInt
    · exact z_tabOut (tgt := 1079) hC rfl hv (by decide) (next0 H hL)
    have hlo : ¬ v.toInt < 0 := fun h => hv (Or.inl h)
    have hhi : ¬ 32 < v.toInt := fun h => hv (Or.inr h)
    have hce0 : cells ≤ 600000 := by omega
    have hsl0 : slots ≤ 7302250 := by omega
    obtain ⟨t, ht⟩ : ∃ t : Nat, v.toInt = (t : Int) := ⟨v.toInt.toNat, by omega⟩
    have ht33 : t < 33 := by omega
    have tab : ∀ (off : Int) (tgt : Nat), (#[147, 210, 233, 246, 259, 282, 315, 348, 361, 384, 407, 440, 463, 476, 519, 542, 555, 568, 601, 624, 647, 680, 713, 746, 799, 822, 855, 878, 901, 924, 977, 1000, 1023] : Array Int)[t]? = some off → (33 : Int) + off = (tgt : Int) → kz X B0 cells slots H tgt 4 [(0, .ref b), (1, .ref ax), (2, .ref am), (3, .int i)] [] → kz X B0 cells slots H 33 4 [(0, .ref b), (1, .ref ax), (2, .ref am), (3, .int i)] [.int v] := by
      intro off tgt ho hg kk
      refine z_tabIn (off := off) (tgt := tgt) hC rfl hlo hhi ?_ hg kk
      rw [ht]
      exact ho
    have hs3 : cells + 3 ≤ 600000 := by omega
    have q3 : cells + 3 ≤ cells + 14 := by omega
    have q8 : slots + 803 ≤ slots + 803 := Nat.le_refl _
    have nR := nextT (cells + 3) (slots + 803) q3 q8
    match t, ht33 with
    | 0, _ => exact tab 147 180 rfl (by decide) (lc_feed hC0 hX h0 htys hr hL hi hk hce0 hsl0 next0)
    | 1, _ => exact tab 210 243 rfl (by decide) (lc_end hC0 hX h0 htys hr hL hi hk hce0 hsl0 next0)
    | 2, _ => exact tab 233 266 rfl (by decide) (lc_valley hC0 hX h0 htys hr hL hi hk hce0 hsl0 next0)
    | 3, _ => exact tab 246 279 rfl (by decide) (lc_rule hC0 hX h0 htys hr hL hi hk hs3 hs8 nR)
    | 4, _ => exact tab 259 292 rfl (by decide) (lc_force hC0 hX h0 htys hr hL hi hk hce0 hsl0 next0)
    | 5, _ => exact tab 282 315 rfl (by decide) (lc_house hC0 hX h0 htys hr hL hi hk hce0 hsl0 next0)
    | 6, _ => exact tab 315 348 rfl (by decide) (lc_far hC0 hX h0 htys hr hL hi hk hce0 hsl0 next0)
    | 7, _ => exact tab 348 381 rfl (by decide) (lc_hour hC0 hX h0 htys hr hL hi hk hce0 hsl0 next0)
    | 8, _ => exact tab 361 394 rfl (by decide) (lc_light hC0 hX h0 htys hr hL hi hk hce0 hsl0 next0)
    | 9, _ => exact tab 384 417 rfl (by decide) (lc_douse hC0 hX h0 htys hr hL hi hk hce0 hsl0 next0)
    | 10, _ => exact tab 407 440 rfl (by decide) (lc_say hC0 hX h0 htys hr hL hi hk hce0 hsl0 next0)
    | 11, _ => exact tab 440 473 rfl (by decide) (lc_send hC0 hX h0 htys hr hL hi hk hce0 hsl0 next0)
    | 12, _ => exact tab 463 496 rfl (by decide) (lc_undo hC0 hX h0 htys hr hL hi hk hce0 hsl0 next0)
    | 13, _ => exact tab 476 509 rfl (by decide) (lc_ahead hC0 hX h0 htys hr hL hi hk hce0 hsl0 next0)
    | 14, _ => exact tab 519 552 rfl (by decide) (lc_left hC0 hX h0 htys hr hL hi hk hce0 hsl0 next0)
    | 15, _ => exact tab 542 575 rfl (by decide) (lc_out hC0 hX h0 htys hr hL hi hk hce0 hsl0 next0)
    | 16, _ => exact tab 555 588 rfl (by decide) (lc_canBurn hC0 hX h0 htys hr hL hi hk hce0 hsl0 next0)
    | 17, _ => exact tab 568 601 rfl (by decide) (lc_order hC0 hX h0 htys hr hL hi hk hce0 hsl0 next0)
    | 18, _ => exact tab 601 634 rfl (by decide) (lc_heard hC0 hX h0 htys hr hL hi hk hce0 hsl0 next0)
    | 19, _ => exact tab 624 657 rfl (by decide) (lc_water hC0 hX h0 htys hr hL hi hk hce0 hsl0 next0)
    | 20, _ => exact tab 647 680 rfl (by decide) (lc_clear hC0 hX h0 htys hr hL hi hk hce0 hsl0 next0)
    | 21, _ => exact tab 680 713 rfl (by decide) (lc_silent hC0 hX h0 htys hr hL hi hk hce0 hsl0 next0)
    | 22, _ => exact tab 713 746 rfl (by decide) (lc_pence hC0 hX h0 htys hr hL hi hk hce0 hsl0 next0)
    | 23, _ => exact tab 746 779 rfl (by decide) (lc_rests hC0 hX h0 htys hr hL hi hk hce0 hsl0 next0)
    | 24, _ => exact tab 799 832 rfl (by decide) (lc_first hC0 hX h0 htys hr hL hi hk hce0 hsl0 next0)
    | 25, _ => exact tab 822 855 rfl (by decide) (lc_note hC0 hX h0 htys hr hL hi hk hce0 hsl0 next0)
    | 26, _ => exact tab 855 888 rfl (by decide) (lc_ruled hC0 hX h0 htys hr hL hi hk hce0 hsl0 next0)
    | 27, _ => exact tab 878 911 rfl (by decide) (lc_look hC0 hX h0 htys hr hL hi hk hce0 hsl0 next0)
    | 28, _ => exact tab 901 934 rfl (by decide) (lc_seed hC0 hX h0 htys hr hL hi hk (by omega) (by omega) (nextT cells slots (by omega) (by omega)))
    | 29, _ => exact tab 924 957 rfl (by decide) (lc_sparks hC0 hX h0 htys hr hL hi hk hce0 hsl0 next0)
    | 30, _ => exact tab 977 1010 rfl (by decide) (lc_count hC0 hX h0 htys hr hL hi hk hce0 hsl0 next0)
    | 31, _ => exact tab 1000 1033 rfl (by decide) (lc_image hC0 hX h0 htys hr hL hi hk (by omega) (by omega) (nextT (cells + 14) (slots + 142) (by omega) (by omega)))
    | 32, _ => exact tab 1023 1056 rfl (by decide) (lc_back hC0 hX h0 htys hr hL hi hk (by omega) (by omega) (nextT cells slots (by omega) (by omega)))
    | n + 33, h => exact absurd h (by omega)
