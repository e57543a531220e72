/-! ===== what is known at the start: the texts, two statics ===== -/
def sTm (i : Nat) : Term := .string "SmokeWord$Tape" (sIx.getD i 0)
def sL : List Jvm.Cond := flatC (Jvm.Cond.and given_1 narrow_1)
theorem tx_1 : ∀ i, i < 19 → Jvm.Cond.exactly (sTm i) "java/lang/String" ∈ sL := by decide +kernel
theorem tx_2 : ∀ i, i < 19 → Jvm.Cond.eq (.field (sTm i) "java/lang/String" "coder" "B") (.int 0) ∈ sL := by decide +kernel
theorem tx_3 : ∀ i, i < 19 → Jvm.Cond.arrayOf (.field (sTm i) "java/lang/String" "value" "[B") .byte ∈ sL := by decide +kernel
theorem tx_4 : ∀ i, i < 19 → Jvm.Cond.eq (.length (.field (sTm i) "java/lang/String" "value" "[B")) (.int (Int32.ofNat (sLen.getD i 0))) ∈ sL := by decide +kernel
theorem tx_5 : ∀ i, i < 19 → ∀ j, j < sLen.getD i 0 → Jvm.Cond.eq (.elem (.field (sTm i) "java/lang/String" "value" "[B") (.int (Int32.ofNat j))) (.int ((sByt.getD i []).getD j 0)) ∈ sL := by decide +kernel
theorem tx_6_1 : ∀ i, i < 1 → sL[([65] : List Nat).getD i 0]? = some (Jvm.Cond.not (Jvm.Cond.eq (sTm i) (sTm 1))) := by decide +kernel
theorem tx_6_2 : ∀ i, i < 2 → sL[([75, 76] : List Nat).getD i 0]? = some (Jvm.Cond.not (Jvm.Cond.eq (sTm i) (sTm 2))) := by decide +kernel
theorem tx_6_3 : ∀ i, i < 3 → sL[([86, 87, 88] : List Nat).getD i 0]? = some (Jvm.Cond.not (Jvm.Cond.eq (sTm i) (sTm 3))) := by decide +kernel
theorem tx_6_4 : ∀ i, i < 4 → sL[([96, 97, 98, 99] : List Nat).getD i 0]? = some (Jvm.Cond.not (Jvm.Cond.eq (sTm i) (sTm 4))) := by decide +kernel
theorem tx_6_5 : ∀ i, i < 5 → sL[([108, 109, 110, 111, 112] : List Nat).getD i 0]? = some (Jvm.Cond.not (Jvm.Cond.eq (sTm i) (sTm 5))) := by decide +kernel
theorem tx_6_6 : ∀ i, i < 6 → sL[([122, 123, 124, 125, 126, 127] : List Nat).getD i 0]? = some (Jvm.Cond.not (Jvm.Cond.eq (sTm i) (sTm 6))) := by decide +kernel
theorem tx_6_7 : ∀ i, i < 7 → sL[([136, 137, 138, 139, 140, 141, 142] : List Nat).getD i 0]? = some (Jvm.Cond.not (Jvm.Cond.eq (sTm i) (sTm 7))) := by decide +kernel
theorem tx_6_8 : ∀ i, i < 8 → sL[([151, 152, 153, 154, 155, 156, 157, 158] : List Nat).getD i 0]? = some (Jvm.Cond.not (Jvm.Cond.eq (sTm i) (sTm 8))) := by decide +kernel
theorem tx_6_9 : ∀ i, i < 9 → sL[([168, 169, 170, 171, 172, 173, 174, 175, 176] : List Nat).getD i 0]? = some (Jvm.Cond.not (Jvm.Cond.eq (sTm i) (sTm 9))) := by decide +kernel
theorem tx_6_10 : ∀ i, i < 10 → sL[([185, 186, 187, 188, 189, 190, 191, 192, 193, 194] : List Nat).getD i 0]? = some (Jvm.Cond.not (Jvm.Cond.eq (sTm i) (sTm 10))) := by decide +kernel
theorem tx_6_11 : ∀ i, i < 11 → sL[([205, 206, 207, 208, 209, 210, 211, 212, 213, 214, 215] : List Nat).getD i 0]? = some (Jvm.Cond.not (Jvm.Cond.eq (sTm i) (sTm 11))) := by decide +kernel
theorem tx_6_12 : ∀ i, i < 12 → sL[([224, 225, 226, 227, 228, 229, 230, 231, 232, 233, 234, 235] : List Nat).getD i 0]? = some (Jvm.Cond.not (Jvm.Cond.eq (sTm i) (sTm 12))) := by decide +kernel
theorem tx_6_13 : ∀ i, i < 13 → sL[([246, 247, 248, 249, 250, 251, 252, 253, 254, 255, 256, 257, 258] : List Nat).getD i 0]? = some (Jvm.Cond.not (Jvm.Cond.eq (sTm i) (sTm 13))) := by decide +kernel
theorem tx_6_14 : ∀ i, i < 14 → sL[([265, 266, 267, 268, 269, 270, 271, 272, 273, 274, 275, 276, 277, 278] : List Nat).getD i 0]? = some (Jvm.Cond.not (Jvm.Cond.eq (sTm i) (sTm 14))) := by decide +kernel
theorem tx_6_15 : ∀ i, i < 15 → sL[([285, 286, 287, 288, 289, 290, 291, 292, 293, 294, 295, 296, 297, 298, 299] : List Nat).getD i 0]? = some (Jvm.Cond.not (Jvm.Cond.eq (sTm i) (sTm 15))) := by decide +kernel
theorem tx_6_16 : ∀ i, i < 16 → sL[([306, 307, 308, 309, 310, 311, 312, 313, 314, 315, 316, 317, 318, 319, 320, 321] : List Nat).getD i 0]? = some (Jvm.Cond.not (Jvm.Cond.eq (sTm i) (sTm 16))) := by decide +kernel
theorem tx_6_17 : ∀ i, i < 17 → sL[([329, 330, 331, 332, 333, 334, 335, 336, 337, 338, 339, 340, 341, 342, 343, 344, 345] : List Nat).getD i 0]? = some (Jvm.Cond.not (Jvm.Cond.eq (sTm i) (sTm 17))) := by decide +kernel
theorem tx_6_18 : ∀ i, i < 18 → sL[([353, 354, 355, 356, 357, 358, 359, 360, 361, 362, 363, 364, 365, 366, 367, 368, 369, 370] : List Nat).getD i 0]? = some (Jvm.Cond.not (Jvm.Cond.eq (sTm i) (sTm 18))) := by decide +kernel
theorem tx_6 : ∀ j, j < 19 → ∀ i, i < j → Jvm.Cond.not (Jvm.Cond.eq (sTm i) (sTm j)) ∈ sL
  | 0, _ => fun i h => absurd h (Nat.not_lt_zero i)
  | 1, _ => fun i h => List.mem_of_getElem? (tx_6_1 i h)
  | 2, _ => fun i h => List.mem_of_getElem? (tx_6_2 i h)
  | 3, _ => fun i h => List.mem_of_getElem? (tx_6_3 i h)
  | 4, _ => fun i h => List.mem_of_getElem? (tx_6_4 i h)
  | 5, _ => fun i h => List.mem_of_getElem? (tx_6_5 i h)
  | 6, _ => fun i h => List.mem_of_getElem? (tx_6_6 i h)
  | 7, _ => fun i h => List.mem_of_getElem? (tx_6_7 i h)
  | 8, _ => fun i h => List.mem_of_getElem? (tx_6_8 i h)
  | 9, _ => fun i h => List.mem_of_getElem? (tx_6_9 i h)
  | 10, _ => fun i h => List.mem_of_getElem? (tx_6_10 i h)
  | 11, _ => fun i h => List.mem_of_getElem? (tx_6_11 i h)
  | 12, _ => fun i h => List.mem_of_getElem? (tx_6_12 i h)
  | 13, _ => fun i h => List.mem_of_getElem? (tx_6_13 i h)
  | 14, _ => fun i h => List.mem_of_getElem? (tx_6_14 i h)
  | 15, _ => fun i h => List.mem_of_getElem? (tx_6_15 i h)
  | 16, _ => fun i h => List.mem_of_getElem? (tx_6_16 i h)
  | 17, _ => fun i h => List.mem_of_getElem? (tx_6_17 i h)
  | 18, _ => fun i h => List.mem_of_getElem? (tx_6_18 i h)
  | n + 19, h => absurd h (by omega)
theorem tx_7 : ∀ i, i < 19 → lw_tbl[([634, 687, 688, 689, 690, 691, 692, 693, 694, 695, 696, 701, 702, 703, 704, 705, 706, 707, 708] : List Nat).getD i 0]? = some (Jvm.Cond.stringRef "SmokeWord$Tape" (sIx.getD i 0) (sTx.getD i "")) := by decide +kernel
theorem tx_8 : Jvm.Cond.eq (.static "java/lang/String" "COMPACT_STRINGS" "Z") (.int 1) ∈ sL ∧ Jvm.Cond.isRef (.static "jdk/internal/util/Preconditions" "SIOOBE_FORMATTE\x52" "Ljava/util/function/BiFunction;") ∈ sL := by decide +kernel
theorem tx_9 : Jvm.Cond.laysStatic "java/lang/String" "COMPACT_STRINGS" "Z" ∈ lw_tbl ∧ Jvm.Cond.laysStatic "jdk/internal/util/Preconditions" "SIOOBE_FORMATTE\x52" "Ljava/util/function/BiFunction;" ∈ lw_tbl := ⟨List.mem_of_getElem? (i := 648) (by decide +kernel), List.mem_of_getElem? (i := 664) (by decide +kernel)⟩
theorem tx_10 : Jvm.Cond.initialized "java/lang/String" ∈ lw_tbl ∧ Jvm.Cond.initialized "jdk/internal/util/Preconditions" ∈ lw_tbl := ⟨List.mem_of_getElem? (i := 138) (by decide +kernel), List.mem_of_getElem? (i := 140) (by decide +kernel)⟩
theorem law_texts {s : State} {b : Nat} (hts : ∀ w ∈ lw_tbl, w.before #[Value.ref b] s = true) (hgv : (Jvm.Cond.and given_1 narrow_1).before #[Value.ref b] s = true) : ∃ adK adV : Nat → Nat, vk_S 19 sLen sByt adK adV (fun q => s.heap.size ≤ q) s s.heap ∧ (∀ i, i < 19 → vk_R "SmokeWord$Tape" (sIx.getD i 0) (sTx.getD i "") (adK i) s) ∧ va_Z "java/lang/String" "COMPACT_STRINGS" "Z" (.int 1) (fun q => s.heap.size ≤ q) s s.heap ∧ va_Zq "jdk/internal/util/Preconditions" "SIOOBE_FORMATTE\x52" "Ljava/util/function/BiFunction;" (fun q => s.heap.size ≤ q) s s.heap := by
  have hs : ∀ c ∈ sL, c.before #[Value.ref b] s = true := flat_of_before _ hgv
  have hA : ∀ a : Nat, a < s.heap.size → ¬ (fun q => s.heap.size ≤ q) a := fun a h z => by
    have z : s.heap.size ≤ a := z
    omega
  obtain ⟨adK, adV, h1, h2⟩ := vk_Sof (args := #[Value.ref b]) (s := s) (N := 19) (tm := sTm) (len := sLen) (byt := sByt) (A := fun q => s.heap.size ≤ q) (by decide +kernel) (fun i hi => hs _ (tx_1 i hi)) (fun i hi => hs _ (tx_2 i hi)) (fun i hi => hs _ (tx_3 i hi)) (fun i hi => hs _ (tx_4 i hi)) (fun i hi j hj => hs _ (tx_5 i hi j hj)) (fun i j hi hj hne => by
    rcases Nat.lt_or_gt_of_ne hne with h | h
    · exact Or.inl (hs _ (tx_6 j hj i h))
    · exact Or.inr (hs _ (tx_6 i hi j h))) hA
  exact ⟨adK, adV, h1, fun i hi => vk_R.of (hts _ (List.mem_of_getElem? (tx_7 i hi))) (h2 i hi), va_Zof (hts _ tx_9.1) (hts _ tx_10.1) (va_eqt (hs _ tx_8.1)) hA, va_Zqof (hts _ tx_9.2) (hts _ tx_10.2) (hs _ tx_8.2) hA⟩
