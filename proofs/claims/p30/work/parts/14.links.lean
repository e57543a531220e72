/-! ===== words of the program, the classes ===== -/
def gCl : List vw_C := [(RX0, TX0, 6), (RX1, TX1, 11), (RX2, TX2, 10), (RX3, TX3, 7), (RX4, TX4, 3), (RX5, TX5, 6), (RX6, TX6, 9), (RX7, TX7, 7), (RX8, TX8, 9), (RX9, TX9, 2), (RX10, TX10, 7), (RX11, TX11, 14), (RX12, TX12, 43)]
def gC : Nat → vw_C
  | 0 => (RX0, TX0, 6)
  | 1 => (RX1, TX1, 11)
  | 2 => (RX2, TX2, 10)
  | 3 => (RX3, TX3, 7)
  | 4 => (RX4, TX4, 3)
  | 5 => (RX5, TX5, 6)
  | 6 => (RX6, TX6, 9)
  | 7 => (RX7, TX7, 7)
  | 8 => (RX8, TX8, 9)
  | 9 => (RX9, TX9, 2)
  | 10 => (RX10, TX10, 7)
  | 11 => (RX11, TX11, 14)
  | _ => (RX12, TX12, 43)
theorem gC_ok : ∀ c, c < 13 → gCl[c]? = some (gC c)
  | 0, _ => rfl
  | 1, _ => rfl
  | 2, _ => rfl
  | 3, _ => rfl
  | 4, _ => rfl
  | 5, _ => rfl
  | 6, _ => rfl
  | 7, _ => rfl
  | 8, _ => rfl
  | 9, _ => rfl
  | 10, _ => rfl
  | 11, _ => rfl
  | 12, _ => rfl
  | n + 13, h => absurd h (by omega)
def gTy : Nat → Nat → FieldType
  | 0 => tyX0
  | 1 => tyX1
  | 2 => tyX2
  | 3 => tyX3
  | 4 => tyX4
  | 5 => tyX5
  | 6 => tyX6
  | 7 => tyX7
  | 8 => tyX8
  | 9 => tyX9
  | 10 => tyX10
  | 11 => tyX11
  | _ => tyX12
abbrev gE (g : va_G) (tys : List (ClassId × FieldType)) (B0 : Nat) (GI : Nat → kTau → Heap → Prop) : kE := (g, gCl, tys, gTT, B0, GI, gGS)
def gTB : List Cond := lw_tbl.filter goodWord
theorem gGood : ∀ w ∈ gTB, goodWord w = true := fun _ h => (List.mem_filter.mp h).2
theorem gIn {i : Nat} {w : Cond} (h : lw_tbl[i]? = some w) (hg : goodWord w = true) : w ∈ gTB := List.mem_filter.mpr ⟨List.mem_of_getElem? h, hg⟩
theorem gWi {C : String} {T : u_T} {N : Nat} (ix : List Nat) {w : Cond} (hw : w ∈ u_ws C T N) (h : (List.range N).all (fun k => decide (lw_tbl[ix.getD k 0]? = some (u_lay C T k) ∧ goodWord (u_lay C T k) = true)) = true) : w ∈ gTB := by
  obtain ⟨k, hk, rfl⟩ := List.mem_map.mp hw
  have := of_decide_eq_true (List.all_eq_true.mp h k hk)
  exact gIn this.1 this.2
theorem gW0 : ∀ w ∈ u_ws RX0 TX0 6, w ∈ gTB := fun w hw => gWi [456, 458, 460, 462, 464, 466] hw (by decide +kernel)
theorem gW1 : ∀ w ∈ u_ws RX1 TX1 11, w ∈ gTB := fun w hw => gWi [419, 421, 423, 425, 427, 429, 431, 433, 435, 437, 439] hw (by decide +kernel)
theorem gW2 : ∀ w ∈ u_ws RX2 TX2 10, w ∈ gTB := fun w hw => gWi [522, 524, 526, 528, 530, 532, 534, 536, 538, 540] hw (by decide +kernel)
theorem gW3 : ∀ w ∈ u_ws RX3 TX3 7, w ∈ gTB := fun w hw => gWi [487, 489, 491, 493, 495, 497, 499] hw (by decide +kernel)
theorem gW4 : ∀ w ∈ u_ws RX4 TX4 3, w ∈ gTB := fun w hw => gWi [859, 861, 863] hw (by decide +kernel)
theorem gW5 : ∀ w ∈ u_ws RX5 TX5 6, w ∈ gTB := fun w hw => gWi [381, 383, 385, 387, 389, 391] hw (by decide +kernel)
theorem gW6 : ∀ w ∈ u_ws RX6 TX6 9, w ∈ gTB := fun w hw => gWi [291, 293, 295, 297, 299, 301, 303, 305, 307] hw (by decide +kernel)
theorem gW7 : ∀ w ∈ u_ws RX7 TX7 7, w ∈ gTB := fun w hw => gWi [172, 174, 176, 178, 180, 182, 184] hw (by decide +kernel)
theorem gW8 : ∀ w ∈ u_ws RX8 TX8 9, w ∈ gTB := fun w hw => gWi [234, 236, 238, 240, 242, 244, 246, 248, 250] hw (by decide +kernel)
theorem gW9 : ∀ w ∈ u_ws RX9 TX9 2, w ∈ gTB := fun w hw => gWi [364, 366] hw (by decide +kernel)
theorem gW10 : ∀ w ∈ u_ws RX10 TX10 7, w ∈ gTB := fun w hw => gWi [333, 335, 337, 339, 341, 343, 345] hw (by decide +kernel)
theorem gW11 : ∀ w ∈ u_ws RX11 TX11 14, w ∈ gTB := fun w hw => gWi [558, 560, 562, 564, 566, 568, 570, 572, 574, 576, 578, 580, 582, 584] hw (by decide +kernel)
theorem gW12 : ∀ w ∈ u_ws RX12 TX12 43, w ∈ gTB := fun w hw => gWi [1305, 1307, 1309, 1311, 1313, 1315, 1317, 1319, 1321, 1323, 1325, 1327, 1329, 1331, 1333, 1335, 1337, 1339, 1341, 1343, 1345, 1347, 1349, 1351, 1353, 1355, 1357, 1359, 1361, 1363, 1365, 1367, 1369, 1371, 1373, 1375, 1377, 1379, 1381, 1383, 1385, 1387, 1389] hw (by decide +kernel)
theorem gW : ∀ c, c < 13 → ∀ w ∈ u_ws (gC c).1 (gC c).2.1 (gC c).2.2, w ∈ gTB
  | 0, _ => gW0
  | 1, _ => gW1
  | 2, _ => gW2
  | 3, _ => gW3
  | 4, _ => gW4
  | 5, _ => gW5
  | 6, _ => gW6
  | 7, _ => gW7
  | 8, _ => gW8
  | 9, _ => gW9
  | 10, _ => gW10
  | 11, _ => gW11
  | 12, _ => gW12
  | n + 13, h => absurd h (by omega)
abbrev gFLp (own : String) (q : (Nat × Nat × Nat × Nat) × Nat) : Prop := q.1.2.1 < 13 ∧ q.1.2.2.1 < (gC q.1.2.1).2.2 ∧ lw_tbl[q.2]? = some (Jvm.Cond.fieldLink own q.1.1 ((gC q.1.2.1).2.1 q.1.2.2.1).1 ((gC q.1.2.1).2.1 q.1.2.2.1).2.1 ((gC q.1.2.1).2.1 q.1.2.2.1).2.2.1) ∧ parseFieldDescriptor ((gC q.1.2.1).2.1 q.1.2.2.1).2.2.1 = some (gTy q.1.2.1 q.1.2.2.1) ∧
  (q.1.2.2.2 = 0 → gTy q.1.2.1 q.1.2.2.1 = .int) ∧ (q.1.2.2.2 = 1 → gTy q.1.2.1 q.1.2.2.1 = .boolean) ∧ (q.1.2.2.2 = 2 → gTy q.1.2.1 q.1.2.2.1 = .long) ∧ (q.1.2.2.2 = 3 → (gTy q.1.2.1 q.1.2.2.1).isReference = true) ∧ (q.1.2.2.2 < 4 → ((gC q.1.2.1).2.1 q.1.2.2.1).2.2.2 = false)
theorem gFLok {X : kX} {g : va_G} {tys : List (ClassId × FieldType)} {B0 : Nat} {GI : Nat → kTau → Heap → Prop} {own : String} {FL : List (Nat × Nat × Nat × Nat)} (FLi : List ((Nat × Nat × Nat × Nat) × Nat)) (hFL : FL = FLi.map Prod.fst) (hts : ∀ w ∈ gTB, w.before X.2.2.2.2.2.2.1 X.2.2.2.2.1 = true) (hd : ∀ q ∈ FLi, gFLp own q) : k_FL X (gE g tys B0 GI) own FL := by
  intro q hq
  rw [hFL] at hq
  obtain ⟨z, hz, rfl⟩ := List.mem_map.mp hq
  obtain ⟨h1, h2, h3, h4, h5⟩ := hd z hz
  exact ⟨(gC z.1.2.1).1, (gC z.1.2.1).2.1, (gC z.1.2.1).2.2, _, _, gTB, gC_ok _ h1, h2, hts, gW _ h1, hts _ (gIn h3 rfl), fun _ h => h, h4, h5⟩
theorem gCIok {X : kX} {own : String} {CI : List (Nat × Int)} (CIi : List ((Nat × Int) × Nat)) (hCI : CI = CIi.map Prod.fst) (hts : ∀ w ∈ gTB, w.before X.2.2.2.2.2.2.1 X.2.2.2.2.1 = true) (hd : ∀ q ∈ CIi, lw_tbl[q.2]? = some (Jvm.Cond.constant own q.1.1 (Int32.ofInt q.1.2))) : k_CI X own CI := by
  intro q hq
  rw [hCI] at hq
  obtain ⟨z, hz, rfl⟩ := List.mem_map.mp hq
  exact hts _ (gIn (hd z hz) rfl)
theorem gCJok {X : kX} {own : String} {CI : List (Nat × Int)} (CIi : List ((Nat × Int) × Nat)) (hCI : CI = CIi.map Prod.fst) (hts : ∀ w ∈ gTB, w.before X.2.2.2.2.2.2.1 X.2.2.2.2.1 = true) (hd : ∀ q ∈ CIi, lw_tbl[q.2]? = some (Jvm.Cond.constantLong own q.1.1 (Int64.ofInt q.1.2))) : k_CJ X own CI := by
  intro q hq
  rw [hCI] at hq
  obtain ⟨z, hz, rfl⟩ := List.mem_map.mp hq
  exact hts _ (gIn (hd z hz) rfl)
section
variable {X : kX} {g : va_G} {tys : List (ClassId × FieldType)} {B0 : Nat} {GI : Nat → kTau → Heap → Prop}
theorem gFLk0 (hts : ∀ w ∈ gTB, w.before X.2.2.2.2.2.2.1 X.2.2.2.2.1 = true) : k_FL X (gE g tys B0 GI) RX0 gFL0 := gFLok [((9, 0, 3, 4), 452), ((15, 0, 4, 4), 454), ((18, 0, 5, 4), 455), ((21, 0, 0, 4), 449), ((25, 10, 0, 4), 311), ((31, 0, 1, 4), 450), ((32, 0, 2, 4), 451), ((41, 1, 3, 4), 407), ((51, 6, 5, 0), 278), ((58, 10, 1, 4), 316), ((59, 8, 3, 0), 213), ((64, 6, 0, 4), 260), ((67, 8, 7, 4), 228), ((70, 6, 2, 4), 268), ((77, 1, 10, 0), 418), ((80, 1, 9, 0), 416), ((91, 6, 1, 4), 265), ((102, 6, 4, 0), 275), ((108, 8, 4, 4), 220), ((112, 10, 5, 0), 328)] rfl hts (by decide +kernel)
theorem gCIk0 (hts : ∀ w ∈ gTB, w.before X.2.2.2.2.2.2.1 X.2.2.2.2.1 = true) : k_CI X RX0 gCI0 := gCIok [((118, 65536), 1224)] rfl hts (by decide +kernel)
theorem gCJk0 (hts : ∀ w ∈ gTB, w.before X.2.2.2.2.2.2.1 X.2.2.2.2.1 = true) : k_CJ X RX0 gCJ0 := gCJok [((126, 1103515245), 1221), ((128, 12345), 1222), ((130, 2147483647), 1223)] rfl hts (by decide +kernel)
theorem gFLk1 (hts : ∀ w ∈ gTB, w.before X.2.2.2.2.2.2.1 X.2.2.2.2.1 = true) : k_FL X (gE g tys B0 GI) RX1 gFL1 := gFLok [((12, 1, 3, 4), 405), ((18, 1, 4, 4), 410), ((22, 1, 10, 0), 417), ((26, 1, 0, 4), 402), ((30, 10, 0, 4), 312), ((36, 1, 1, 4), 403), ((37, 1, 2, 4), 404), ((41, 10, 1, 4), 315), ((46, 8, 1, 0), 205), ((51, 1, 9, 0), 415), ((52, 10, 6, 0), 331), ((63, 1, 5, 3), 411), ((87, 1, 6, 0), 412), ((95, 1, 7, 0), 413), ((98, 8, 3, 0), 216), ((114, 8, 8, 4), 233), ((118, 6, 6, 0), 284), ((125, 6, 1, 4), 266), ((128, 6, 2, 4), 270), ((131, 8, 7, 4), 230), ((134, 1, 8, 0), 414), ((137, 4, 2, 4), 858), ((142, 4, 1, 4), 856), ((149, 4, 0, 4), 854), ((160, 6, 0, 4), 262), ((163, 6, 4, 0), 276), ((166, 6, 3, 4), 273), ((169, 6, 5, 0), 281), ((184, 6, 7, 0), 288), ((187, 6, 8, 0), 290), ((198, 8, 2, 0), 210)] rfl hts (by decide +kernel)
theorem gCIk1 (hts : ∀ w ∈ gTB, w.before X.2.2.2.2.2.2.1 X.2.2.2.2.1 = true) : k_CI X RX1 gCI1 := gCIok [] rfl hts (by decide +kernel)
theorem gCJk1 (hts : ∀ w ∈ gTB, w.before X.2.2.2.2.2.2.1 X.2.2.2.2.1 = true) : k_CJ X RX1 gCJ1 := gCJok [] rfl hts (by decide +kernel)
theorem gFLk2 (hts : ∀ w ∈ gTB, w.before X.2.2.2.2.2.2.1 X.2.2.2.2.1 = true) : k_FL X (gE g tys B0 GI) RX2 gFL2 := gFLok [((11, 2, 2, 4), 510), ((15, 2, 3, 4), 511), ((18, 2, 0, 4), 508), ((22, 2, 1, 4), 509), ((26, 2, 4, 0), 512), ((30, 2, 5, 0), 513), ((33, 2, 6, 0), 514), ((36, 2, 7, 0), 516), ((52, 1, 3, 4), 408), ((56, 6, 6, 0), 283), ((65, 10, 4, 0), 325), ((70, 10, 2, 4), 319), ((73, 10, 3, 4), 322), ((76, 2, 8, 0), 518), ((79, 2, 9, 0), 520)] rfl hts (by decide +kernel)
theorem gCIk2 (hts : ∀ w ∈ gTB, w.before X.2.2.2.2.2.2.1 X.2.2.2.2.1 = true) : k_CI X RX2 gCI2 := gCIok [] rfl hts (by decide +kernel)
theorem gCJk2 (hts : ∀ w ∈ gTB, w.before X.2.2.2.2.2.2.1 X.2.2.2.2.1 = true) : k_CJ X RX2 gCJ2 := gCJok [] rfl hts (by decide +kernel)
theorem gFLk3 (hts : ∀ w ∈ gTB, w.before X.2.2.2.2.2.2.1 X.2.2.2.2.1 = true) : k_FL X (gE g tys B0 GI) RX3 gFL3 := gFLok [((11, 3, 1, 4), 478), ((17, 3, 2, 4), 479), ((21, 3, 3, 4), 480), ((24, 3, 0, 4), 477), ((34, 1, 3, 4), 406), ((48, 3, 4, 0), 482), ((52, 6, 5, 0), 277), ((55, 3, 6, 0), 486), ((58, 3, 5, 0), 484)] rfl hts (by decide +kernel)
theorem gCIk3 (hts : ∀ w ∈ gTB, w.before X.2.2.2.2.2.2.1 X.2.2.2.2.1 = true) : k_CI X RX3 gCI3 := gCIok [] rfl hts (by decide +kernel)
theorem gCJk3 (hts : ∀ w ∈ gTB, w.before X.2.2.2.2.2.2.1 X.2.2.2.2.1 = true) : k_CJ X RX3 gCJ3 := gCJok [] rfl hts (by decide +kernel)
theorem gFLk4 (hts : ∀ w ∈ gTB, w.before X.2.2.2.2.2.2.1 X.2.2.2.2.1 = true) : k_FL X (gE g tys B0 GI) RX4 gFL4 := gFLok [((7, 4, 0, 4), 853), ((13, 4, 1, 4), 855), ((16, 4, 2, 4), 857)] rfl hts (by decide +kernel)
theorem gCIk4 (hts : ∀ w ∈ gTB, w.before X.2.2.2.2.2.2.1 X.2.2.2.2.1 = true) : k_CI X RX4 gCI4 := gCIok [] rfl hts (by decide +kernel)
theorem gCJk4 (hts : ∀ w ∈ gTB, w.before X.2.2.2.2.2.2.1 X.2.2.2.2.1 = true) : k_CJ X RX4 gCJ4 := gCJok [] rfl hts (by decide +kernel)
theorem gFLk5 (hts : ∀ w ∈ gTB, w.before X.2.2.2.2.2.2.1 X.2.2.2.2.1 = true) : k_FL X (gE g tys B0 GI) RX5 gFL5 := gFLok [((9, 5, 1, 4), 376), ((15, 5, 3, 4), 378), ((18, 5, 0, 4), 375), ((27, 5, 2, 0), 377), ((31, 5, 5, 0), 380), ((45, 5, 4, 0), 379), ((92, 7, 4, 4), 167), ((95, 7, 5, 0), 169)] rfl hts (by decide +kernel)
theorem gCIk5 (hts : ∀ w ∈ gTB, w.before X.2.2.2.2.2.2.1 X.2.2.2.2.1 = true) : k_CI X RX5 gCI5 := gCIok [((98, 100000), 802)] rfl hts (by decide +kernel)
theorem gCJk5 (hts : ∀ w ∈ gTB, w.before X.2.2.2.2.2.2.1 X.2.2.2.2.1 = true) : k_CJ X RX5 gCJ5 := gCJok [] rfl hts (by decide +kernel)
theorem gFLk6 (hts : ∀ w ∈ gTB, w.before X.2.2.2.2.2.2.1 X.2.2.2.2.1 = true) : k_FL X (gE g tys B0 GI) RX6 gFL6 := gFLok [((9, 6, 0, 4), 259), ((15, 6, 1, 4), 263), ((18, 6, 2, 4), 267), ((21, 6, 3, 4), 271), ((24, 6, 7, 0), 286), ((34, 6, 4, 0), 274), ((37, 6, 5, 0), 279), ((40, 6, 6, 0), 282), ((43, 6, 8, 0), 289), ((46, 8, 4, 4), 218), ((49, 8, 5, 4), 222), ((50, 8, 6, 4), 225)] rfl hts (by decide +kernel)
theorem gCIk6 (hts : ∀ w ∈ gTB, w.before X.2.2.2.2.2.2.1 X.2.2.2.2.1 = true) : k_CI X RX6 gCI6 := gCIok [] rfl hts (by decide +kernel)
theorem gCJk6 (hts : ∀ w ∈ gTB, w.before X.2.2.2.2.2.2.1 X.2.2.2.2.1 = true) : k_CJ X RX6 gCJ6 := gCJok [] rfl hts (by decide +kernel)
theorem gFLk7 (hts : ∀ w ∈ gTB, w.before X.2.2.2.2.2.2.1 X.2.2.2.2.1 = true) : k_FL X (gE g tys B0 GI) RX7 gFL7 := gFLok [((9, 7, 0, 4), 161), ((15, 7, 2, 4), 164), ((19, 7, 3, 4), 165), ((22, 7, 4, 4), 166), ((25, 7, 1, 0), 162), ((33, 7, 5, 0), 168), ((36, 7, 6, 0), 170)] rfl hts (by decide +kernel)
theorem gCIk7 (hts : ∀ w ∈ gTB, w.before X.2.2.2.2.2.2.1 X.2.2.2.2.1 = true) : k_CI X RX7 gCI7 := gCIok [((56, 100000), 626)] rfl hts (by decide +kernel)
theorem gCJk7 (hts : ∀ w ∈ gTB, w.before X.2.2.2.2.2.2.1 X.2.2.2.2.1 = true) : k_CJ X RX7 gCJ7 := gCJok [] rfl hts (by decide +kernel)
theorem gFLk8 (hts : ∀ w ∈ gTB, w.before X.2.2.2.2.2.2.1 X.2.2.2.2.1 = true) : k_FL X (gE g tys B0 GI) RX8 gFL8 := gFLok [((9, 8, 4, 4), 217), ((15, 8, 5, 4), 221), ((18, 8, 6, 4), 224), ((21, 8, 7, 4), 227), ((24, 8, 8, 4), 231), ((27, 8, 0, 1), 201), ((31, 8, 1, 0), 204), ((35, 8, 2, 0), 208), ((38, 8, 3, 0), 212)] rfl hts (by decide +kernel)
theorem gCIk8 (hts : ∀ w ∈ gTB, w.before X.2.2.2.2.2.2.1 X.2.2.2.2.1 = true) : k_CI X RX8 gCI8 := gCIok [] rfl hts (by decide +kernel)
theorem gCJk8 (hts : ∀ w ∈ gTB, w.before X.2.2.2.2.2.2.1 X.2.2.2.2.1 = true) : k_CJ X RX8 gCJ8 := gCJok [] rfl hts (by decide +kernel)
theorem gFLk9 (hts : ∀ w ∈ gTB, w.before X.2.2.2.2.2.2.1 X.2.2.2.2.1 = true) : k_FL X (gE g tys B0 GI) RX9 gFL9 := gFLok [((12, 9, 1, 4), 362), ((18, 9, 0, 4), 361), ((38, 8, 0, 1), 202), ((51, 8, 3, 0), 214), ((72, 8, 1, 0), 206), ((75, 8, 2, 0), 209), ((78, 8, 4, 4), 219), ((82, 8, 5, 4), 223), ((85, 8, 6, 4), 226)] rfl hts (by decide +kernel)
theorem gCIk9 (hts : ∀ w ∈ gTB, w.before X.2.2.2.2.2.2.1 X.2.2.2.2.1 = true) : k_CI X RX9 gCI9 := gCIok [] rfl hts (by decide +kernel)
theorem gCJk9 (hts : ∀ w ∈ gTB, w.before X.2.2.2.2.2.2.1 X.2.2.2.2.1 = true) : k_CJ X RX9 gCJ9 := gCJok [] rfl hts (by decide +kernel)
theorem gFLk10 (hts : ∀ w ∈ gTB, w.before X.2.2.2.2.2.2.1 X.2.2.2.2.1 = true) : k_FL X (gE g tys B0 GI) RX10 gFL10 := gFLok [((12, 10, 0, 4), 310), ((21, 10, 1, 4), 314), ((25, 10, 2, 4), 318), ((29, 10, 3, 4), 321), ((32, 10, 6, 0), 330), ((49, 10, 4, 0), 324), ((52, 10, 5, 0), 327)] rfl hts (by decide +kernel)
theorem gCIk10 (hts : ∀ w ∈ gTB, w.before X.2.2.2.2.2.2.1 X.2.2.2.2.1 = true) : k_CI X RX10 gCI10 := gCIok [] rfl hts (by decide +kernel)
theorem gCJk10 (hts : ∀ w ∈ gTB, w.before X.2.2.2.2.2.2.1 X.2.2.2.2.1 = true) : k_CJ X RX10 gCJ10 := gCJok [] rfl hts (by decide +kernel)
theorem gFLk11 (hts : ∀ w ∈ gTB, w.before X.2.2.2.2.2.2.1 X.2.2.2.2.1 = true) : k_FL X (gE g tys B0 GI) RX11 gFL11 := gFLok [((10, 11, 0, 4), 544), ((19, 11, 1, 4), 545), ((23, 11, 2, 4), 546), ((29, 11, 3, 4), 547), ((35, 11, 5, 4), 549), ((44, 11, 8, 4), 552), ((51, 11, 9, 4), 553), ((60, 11, 10, 4), 554), ((69, 11, 11, 4), 555), ((78, 11, 12, 4), 556), ((85, 11, 13, 4), 557), ((90, 7, 1, 0), 163), ((102, 7, 6, 0), 171), ((105, 10, 0, 4), 313), ((109, 9, 1, 4), 363), ((116, 10, 1, 4), 317), ((123, 10, 4, 0), 326), ((126, 11, 7, 0), 551), ((129, 8, 3, 0), 215), ((132, 11, 4, 0), 548), ((140, 10, 6, 0), 332), ((147, 6, 0, 4), 261), ((151, 6, 1, 4), 264), ((154, 6, 2, 4), 269), ((157, 8, 7, 4), 229), ((160, 6, 3, 4), 272), ((166, 8, 8, 4), 232), ((169, 8, 0, 1), 203), ((173, 6, 5, 0), 280), ((186, 1, 3, 4), 409), ((193, 6, 7, 0), 287), ((196, 6, 6, 0), 285), ((207, 11, 6, 0), 550), ((230, 3, 5, 0), 485), ((233, 3, 4, 0), 483), ((236, 3, 3, 4), 481), ((248, 0, 3, 4), 453), ((264, 10, 2, 4), 320), ((267, 10, 3, 4), 323), ((273, 2, 6, 0), 515), ((276, 2, 7, 0), 517), ((282, 2, 8, 0), 519), ((285, 2, 9, 0), 521), ((288, 10, 5, 0), 329), ((294, 8, 1, 0), 207), ((297, 8, 2, 0), 211)] rfl hts (by decide +kernel)
theorem gCIk11 (hts : ∀ w ∈ gTB, w.before X.2.2.2.2.2.2.1 X.2.2.2.2.1 = true) : k_CI X RX11 gCI11 := gCIok [] rfl hts (by decide +kernel)
theorem gCJk11 (hts : ∀ w ∈ gTB, w.before X.2.2.2.2.2.2.1 X.2.2.2.2.1 = true) : k_CJ X RX11 gCJ11 := gCJok [] rfl hts (by decide +kernel)
theorem gFLk12 (hts : ∀ w ∈ gTB, w.before X.2.2.2.2.2.2.1 X.2.2.2.2.1 = true) : k_FL X (gE g tys B0 GI) RX12 gFL12 := gFLok [((7, 12, 0, 4), 1262), ((13, 12, 3, 4), 1265), ((17, 12, 4, 4), 1266), ((20, 12, 5, 4), 1267), ((23, 12, 6, 4), 1268), ((26, 12, 7, 4), 1269), ((29, 12, 15, 4), 1277), ((32, 12, 18, 4), 1280), ((36, 12, 20, 4), 1282), ((39, 12, 21, 4), 1283), ((42, 12, 22, 0), 1284), ((46, 12, 24, 4), 1286), ((49, 12, 25, 0), 1287), ((52, 12, 30, 4), 1292), ((55, 12, 32, 4), 1294), ((58, 12, 33, 4), 1295), ((61, 12, 35, 4), 1297), ((64, 12, 36, 4), 1298), ((68, 12, 37, 4), 1299), ((71, 12, 39, 4), 1301), ((74, 12, 40, 4), 1302), ((77, 12, 41, 4), 1303), ((80, 12, 42, 4), 1304), ((83, 12, 1, 0), 1263), ((90, 12, 9, 0), 1271), ((93, 12, 8, 0), 1270), ((118, 12, 10, 0), 1272), ((147, 12, 11, 0), 1273), ((150, 12, 12, 0), 1274), ((153, 12, 13, 0), 1275), ((156, 12, 16, 0), 1278), ((223, 12, 17, 0), 1279), ((252, 12, 14, 0), 1276), ((264, 12, 2, 0), 1264), ((276, 12, 31, 0), 1293), ((279, 12, 19, 0), 1281), ((303, 12, 27, 0), 1289), ((345, 12, 26, 0), 1288), ((363, 12, 28, 0), 1290), ((375, 12, 29, 0), 1291), ((411, 12, 34, 0), 1296), ((452, 12, 23, 0), 1285), ((455, 12, 38, 2), 1300)] rfl hts (by decide +kernel)
theorem gCIk12 (hts : ∀ w ∈ gTB, w.before X.2.2.2.2.2.2.1 X.2.2.2.2.1 = true) : k_CI X RX12 gCI12 := gCIok [((167, 99999), 1501)] rfl hts (by decide +kernel)
theorem gCJk12 (hts : ∀ w ∈ gTB, w.before X.2.2.2.2.2.2.1 X.2.2.2.2.1 = true) : k_CJ X RX12 gCJ12 := gCJok [((125, 448546567013), 1434), ((127, 1935767923), 1514), ((129, 512970880104), 1515), ((131, 495757257573), 1516), ((133, 6709618), 1517), ((135, 1852137842), 1518), ((137, 439855768947), 1519), ((139, 1819243380), 1520), ((141, 1650812270), 1521), ((143, 512736126322), 1522), ((145, 1752135026), 1523), ((187, 7237492), 1537), ((207, 6385252), 1561), ((209, 28530), 1562), ((211, 26982), 1524), ((229, 130160802948473), 1425), ((237, 1919902052), 1435), ((245, 108187867505765), 1436), ((250, 26479), 1437), ((390, 20), 1725), ((392, 100), 1734), ((394, 2), 1735), ((420, 60), 1771), ((422, (-1)), 1772), ((424, 5), 1773), ((435, 9999), 1814), ((459, 1103515245), 1867), ((461, 12345), 1868), ((463, 2147483648), 1869), ((465, 65536), 1870), ((467, 10), 1862), ((475, 3), 1883)] rfl hts (by decide +kernel)
end
theorem k_nilFL {X : kX} {E : kE} {own : String} : k_FL X E own [] := fun _ h => by cases h
theorem k_nilCJ {X : kX} {own : String} : k_CJ X own [] := fun _ h => by cases h
