/-! ===== what the invariants say: the reference's fields seen as numbers ===== -/
/-- where the segment begins; what the signs ahead of it keep -/
abbrev gB : Type := Nat × ((Nat → Int) → Prop)
/-- ghosts: where the segment begins, heights at its start, credit, how much was made, a loop's own number -/
abbrev gGh : Type := gB × Nat × Nat × Nat × Nat
def vI (g : va_G) (H : Heap) (a k : Nat) : Int := match (H[a]?).bind (fun c => c.slots[g.2 12 k]?) with
  | some (.int x) => x.toInt
  | _ => 0
def vE (H : Heap) (b j : Nat) : Int := match (H[b]?).bind (fun c => c.slots[j]?) with
  | some (.int x) => x.toInt
  | _ => 0
def vA (g : va_G) (H : Heap) (a k : Nat) : Nat → Int := match (H[a]?).bind (fun c => c.slots[g.2 12 k]?) with
  | some (.ref b) => vE H b
  | _ => fun _ => 0
/-- the stack's height behind one sign -/
def hst (x : Int) (h : Nat) : Option Nat := if x % 16 = 0 then (if h < 64 then some (h + 1) else none) else if x % 16 = 1 then (if 0 ≤ x / 16 ∧ x / 16 ≤ 10 ∧ h < 64 then some (h + 1) else none) else if x % 16 = 11 then (if 1 ≤ h then some h else none) else (if 2 ≤ h then some (h - 1) else none)
def hs (f : Nat → Int) (b : Nat) : Nat → Option Nat
  | 0 => some 0
  | e + 1 => (hs f b e).bind (hst (f (b + e)))
theorem hs_eq {f f' : Nat → Int} {b : Nat} : ∀ {e : Nat}, (∀ j, b ≤ j → j < b + e → f' j = f j) → hs f' b e = hs f b e
  | 0, _ => rfl
  | e + 1, h => by
    unfold hs
    rw [hs_eq (e := e) (fun j h1 h2 => h j h1 (by omega)), h (b + e) (by omega) (by omega)]
def bSeg (sg : Nat → Int) (t : Nat) (x y : Int) : Prop := ∃ b e : Nat, x = (b : Int) ∧ y = (b : Int) + (e : Int) ∧ b + e ≤ 400 ∧ hs sg (400 * t + b) e = some 1
def bGood (sg cl cs : Nat → Int) : Prop := ∀ t : Nat, t < 6 → ∀ i : Nat, (i : Int) < cs t → bSeg sg t (cl (48 * t + 4 * i)) (cl (48 * t + 4 * i + 1)) ∧ (cl (48 * t + 4 * i + 2) < 0 ∨ bSeg sg t (cl (48 * t + 4 * i + 2)) (cl (48 * t + 4 * i + 3)))
def bEnds (t : Nat) (lg cl cs : Nat → Int) : Prop := ∀ i : Nat, (i : Int) < cs t → cl (48 * t + 4 * i + 1) ≤ lg t ∧ cl (48 * t + 4 * i + 3) ≤ lg t
def bBody (b : gB) (n k m : Nat) (text made : Int) (sg lg cl cs : Nat → Int) : Prop := 0 ≤ text ∧ text ≤ 5 ∧ made ≤ 60 ∧ (m : Int) ≤ made ∧ (n : Int) ≤ made ∧ (∃ e : Nat, lg text.toNat = (b.1 : Int) + (e : Int) ∧ hs sg (400 * text.toNat + b.1) e = some n) ∧ (k : Int) + 3 * lg text.toNat ≤ 16 * made ∧ bEnds text.toNat lg cl cs ∧ ∀ f : Nat → Int, (∀ j, j < 400 * text.toNat + b.1 → f j = sg j) → b.2 f
def isAO (x : Int) : Bool := decide (x = 12 ∨ x = 13)
def isDP (x : Int) : Bool := decide (x = 11 ∨ x = 91)
def cq (p : Int → Bool) (f : Nat → Int) : Nat → Nat
  | 0 => 0
  | j + 1 => cq p f j + (if p (f j) = true then 1 else 0)
theorem cq_eq {p : Int → Bool} {f f' : Nat → Int} : ∀ {n : Nat}, (∀ j, j < n → f' j = f j) → cq p f' n = cq p f n
  | 0, _ => rfl
  | n + 1, h => by
    unfold cq
    rw [cq_eq (n := n) (fun j hj => h j (by omega)), h n (by omega)]
def bOpen (opened deep : Int) (op : Nat → Int) : Prop := 0 ≤ opened ∧ opened ≤ 400 ∧ (∀ j : Nat, (j : Int) < opened → op j = 11 ∨ op j = 12 ∨ op j = 13 ∨ op j = 91) ∧ deep = (cq isDP op opened.toNat : Int) ∧ deep ≤ 10
def bP (b : gB) (n k m : Nat) (I : Nat → Int) (A : Nat → Nat → Int) : Prop := bGood (A 3) (A 5) (A 6) ∧ bBody b n k m (I 11) (I 12) (A 3) (A 4) (A 5) (A 6)
def bAO (I : Nat → Int) (A : Nat → Nat → Int) : Nat := cq isAO (A 15) (I 16).toNat
def bF0 (b : gB) (n m : Nat) (I : Nat → Int) (A : Nat → Nat → Int) : Prop := bOpen (I 16) (I 13) (A 15) ∧ bP b (n + bAO I A) (3 * bAO I A) m I A
def bF1 (b : gB) (n m : Nat) (I : Nat → Int) (A : Nat → Nat → Int) : Prop := bOpen (I 16) (I 13) (A 15) ∧ bP b (n + bAO I A + 1) (3 * (I 16).toNat + 9) m I A
def bD1 (b : gB) (n m : Nat) (I : Nat → Int) (A : Nat → Nat → Int) : Prop := bOpen (I 16) (I 13 - 1) (A 15) ∧ I 13 ≤ 10 ∧ bP b (n + bAO I A) (3 * bAO I A) m I A
def bZ1 (b : gB) (n m : Nat) (I : Nat → Int) (A : Nat → Nat → Int) : Prop := bOpen (I 16) (I 13 - 1) (A 15) ∧ bP b (n + bAO I A + 1) (3 * (I 16).toNat + 9) m I A
def bR (I : Nat → Int) (A : Nat → Nat → Int) (x : Int) : Prop := 0 ≤ I 11 ∧ I 11 ≤ 5 ∧ 0 ≤ I 14 ∧ A 6 (I 11).toNat + x ≤ I 14 ∧ 0 ≤ A 4 (I 11).toNat ∧ 3 * A 4 (I 11).toNat ≤ 16 * I 12 ∧ I 12 ≤ 60 ∧ bEnds (I 11).toNat (A 4) (A 5) (A 6)
def k_lkV : List (Nat × ((Nat → Int) → (Nat → Nat → Int) → Prop)) → Nat → (Nat → Int) → (Nat → Nat → Int) → Prop
  | [], _ => fun _ _ => True
  | q :: r, i => cond (Nat.beq q.1 i) q.2 (k_lkV r i)
def ivT (c : gGh) : List (Nat × ((Nat → Int) → (Nat → Nat → Int) → Prop)) := [
  (1, fun I A => bGood (A 3) (A 5) (A 6)),
  (10, fun I A => bP c.1 c.2.1 c.2.2.1 c.2.2.2.1 I A),
  (11, fun I A => bP c.1 (c.2.1 + 1) (c.2.2.1 + 13) (c.2.2.2.1 + 1) I A),
  (12, fun I A => bP c.1 c.2.1 (c.2.2.1 + 16) (c.2.2.2.1 + 1) I A ∧ (c.2.1 : Int) + 1 ≤ I 12),
  (13, fun I A => bP c.1 (c.2.1 + 1) (c.2.2.1 + 29) (c.2.2.2.1 + 2) I A),
  (14, fun I A => bP c.1 (c.2.1 + 2) (c.2.2.1 + 42) (c.2.2.2.1 + 3) I A),
  (15, fun I A => bP c.1 (c.2.1 + 1) (c.2.2.1 + 39) (c.2.2.2.1 + 3) I A),
  (20, fun I A => bP c.1 (c.2.1 + 1) (c.2.2.1 + 13) c.2.2.2.2 I A),
  (21, fun I A => bP c.1 (c.2.1 + 2) (c.2.2.1 + 16) (c.2.2.2.2 + 1) I A),
  (22, fun I A => bP c.1 (c.2.1 + 1) (c.2.2.1 + 13) (c.2.2.2.2 + 1) I A),
  (30, fun I A => bF0 c.1 c.2.1 c.2.2.2.1 I A),
  (31, fun I A => bF1 c.1 c.2.1 (c.2.2.2.1 + 1) I A),
  (32, fun I A => bD1 c.1 c.2.1 c.2.2.2.1 I A),
  (33, fun I A => bD1 c.1 c.2.1 c.2.2.2.1 I A ∧ (A 15 (I 16).toNat = 11 ∨ A 15 (I 16).toNat = 91)),
  (34, fun I A => ∃ j : Nat, (j : Int) < I 16 ∧ A 15 j = 91),
  (35, fun I A => ∀ j : Nat, (j : Int) < I 16 → A 15 j ≠ 91),
  (36, fun I A => bF1 c.1 c.2.1 (c.2.2.2.1 + 1) I A ∧ 1 ≤ I 16 ∧ A 15 ((I 16).toNat - 1) = 91),
  (37, fun I A => bZ1 c.1 c.2.1 (c.2.2.2.1 + 1) I A),
  (40, fun I A => (c.2.2.2.2 : Int) ≤ I 13),
  (41, fun I A => (c.2.2.2.2 : Int) + 1 ≤ I 13),
  (42, fun I A => I 16 + (c.2.2.2.2 : Int) ≤ 400),
  (43, fun I A => I 16 + (c.2.2.2.2 : Int) + 1 ≤ 400),
  (50, fun I A => bF0 c.1 c.2.1 c.2.2.2.2 I A),
  (51, fun I A => bF1 c.1 c.2.1 (c.2.2.2.2 + 1) I A),
  (52, fun I A => bF1 c.1 c.2.1 (c.2.2.2.2 + 1) I A ∧ (A 15 (I 16).toNat = 12 ∨ A 15 (I 16).toNat = 13)),
  (53, fun I A => bF0 c.1 c.2.1 (c.2.2.2.2 + 1) I A),
  (54, fun I A => bP c.1 (c.2.1 + 1) 0 0 I A),
  (55, fun I A => bP c.1 c.2.1 c.2.2.1 c.2.2.2.1 I A ∧ I 16 = 0),
  (60, fun I A => bR I A 0),
  (61, fun I A => bR I A 1),
  (62, fun I A => 0 ≤ I 11 ∧ I 11 ≤ 5 ∧ A 6 (I 11).toNat = 0),
  (63, fun I A => 0 ≤ I 11 ∧ I 11 ≤ 5 ∧ A 6 (I 11).toNat = 0 ∧ A 4 (I 11).toNat = 0),
  (64, fun I A => 0 ≤ I 11 ∧ I 11 ≤ 5 ∧ A 6 (I 11).toNat = 0 ∧ A 4 (I 11).toNat = 0 ∧ I 14 = 0),
  (65, fun I A => (c.2.2.2.2 : Int) ≤ I 14),
  (66, fun I A => (c.2.2.2.2 : Int) + 1 ≤ I 14),
  (71, fun I A => I 8 < I 1 ∧ A 0 (I 8).toNat ≠ 32)]
def iv (c : gGh) (I : Nat → Int) (A : Nat → Nat → Int) (i : Nat) : Prop := k_lkV (ivT c) i I A
/-- the tape has an end: a place of no kind, not behind it what is next -/
def gTape (g : va_G) (τ : kTau) (H : Heap) : Prop := ∀ a b : Nat, τ a = some 1 → (H[a]?).bind (fun c => c.slots[g.2 7 2]?) = some (.ref b) → ∃ (T : Nat) (x : Int32), T ≤ 400 ∧ (H[a]?).bind (fun c => c.slots[g.2 7 5]?) = some (.int x) ∧ x.toInt ≤ (T : Int) ∧ vE H b T = -1
def gGI (g : va_G) (c : gGh) : kGI := fun i τ H => (i = 0 → gTape g τ H) ∧ (i = 0 ∨ ∃ a, τ a = some 11) ∧ ∀ a, τ a = some 11 → (∀ a', τ a' = some 11 → a' = a) ∧ iv c (vI g H a) (vA g H a) i
theorem k_lkV_c {i : Nat} {I I' : Nat → Int} {A A' : Nat → Nat → Int} : ∀ {L : List (Nat × ((Nat → Int) → (Nat → Nat → Int) → Prop))}, (∀ q ∈ L, q.1 = i → q.2 I A → q.2 I' A') → k_lkV L i I A → k_lkV L i I' A'
  | [], _, _ => trivial
  | q :: r, h, hp => by
    unfold k_lkV at hp ⊢
    cases hb : Nat.beq q.1 i with
    | true =>
      rw [hb] at hp
      exact h q List.mem_cons_self (Nat.eq_of_beq_eq_true hb) hp
    | false =>
      rw [hb] at hp
      exact k_lkV_c (fun z hz => h z (List.mem_cons_of_mem _ hz)) hp
/-- an invariant speaks of the fields and arrays alone that its row of gGS names -/
theorem iv_congr {c : gGh} {i : Nat} {I I' : Nat → Int} {A A' : Nat → Nat → Int} (hI : ∀ k, (11, k) ∈ gGS i → I' k = I k) (hA : ∀ k t, (k, t) ∈ [(0, 32), (3, 33), (4, 34), (5, 35), (6, 36), (15, 38)] → (11, k) ∈ gGS i → (t, 0) ∈ gGS i → A' k = A k) (h : iv c I A i) : iv c I' A' i := by
  refine k_lkV_c ?_ h
  refine List.forall_mem_cons.mpr ⟨?_, ?_⟩
  · intro hz hp
    have hz : 1 = i := hz
    subst hz
    have a3 := hA 3 33 (by decide) (by decide +kernel) (by decide +kernel)
    have a5 := hA 5 35 (by decide) (by decide +kernel) (by decide +kernel)
    have a6 := hA 6 36 (by decide) (by decide +kernel) (by decide +kernel)
    dsimp only at hp ⊢
    rw [a3, a5, a6]
    exact hp
  refine List.forall_mem_cons.mpr ⟨?_, ?_⟩
  · intro hz hp
    have hz : 10 = i := hz
    subst hz
    have e11 := hI 11 (by decide +kernel)
    have e12 := hI 12 (by decide +kernel)
    have a3 := hA 3 33 (by decide) (by decide +kernel) (by decide +kernel)
    have a4 := hA 4 34 (by decide) (by decide +kernel) (by decide +kernel)
    have a5 := hA 5 35 (by decide) (by decide +kernel) (by decide +kernel)
    have a6 := hA 6 36 (by decide) (by decide +kernel) (by decide +kernel)
    dsimp only at hp ⊢
    unfold bP at hp ⊢
    rw [e11, e12, a3, a4, a5, a6]
    exact hp
  refine List.forall_mem_cons.mpr ⟨?_, ?_⟩
  · intro hz hp
    have hz : 11 = i := hz
    subst hz
    have e11 := hI 11 (by decide +kernel)
    have e12 := hI 12 (by decide +kernel)
    have a3 := hA 3 33 (by decide) (by decide +kernel) (by decide +kernel)
    have a4 := hA 4 34 (by decide) (by decide +kernel) (by decide +kernel)
    have a5 := hA 5 35 (by decide) (by decide +kernel) (by decide +kernel)
    have a6 := hA 6 36 (by decide) (by decide +kernel) (by decide +kernel)
    dsimp only at hp ⊢
    unfold bP at hp ⊢
    rw [e11, e12, a3, a4, a5, a6]
    exact hp
  refine List.forall_mem_cons.mpr ⟨?_, ?_⟩
  · intro hz hp
    have hz : 12 = i := hz
    subst hz
    have e11 := hI 11 (by decide +kernel)
    have e12 := hI 12 (by decide +kernel)
    have a3 := hA 3 33 (by decide) (by decide +kernel) (by decide +kernel)
    have a4 := hA 4 34 (by decide) (by decide +kernel) (by decide +kernel)
    have a5 := hA 5 35 (by decide) (by decide +kernel) (by decide +kernel)
    have a6 := hA 6 36 (by decide) (by decide +kernel) (by decide +kernel)
    dsimp only at hp ⊢
    unfold bP at hp ⊢
    rw [e11, e12, a3, a4, a5, a6]
    exact hp
  refine List.forall_mem_cons.mpr ⟨?_, ?_⟩
  · intro hz hp
    have hz : 13 = i := hz
    subst hz
    have e11 := hI 11 (by decide +kernel)
    have e12 := hI 12 (by decide +kernel)
    have a3 := hA 3 33 (by decide) (by decide +kernel) (by decide +kernel)
    have a4 := hA 4 34 (by decide) (by decide +kernel) (by decide +kernel)
    have a5 := hA 5 35 (by decide) (by decide +kernel) (by decide +kernel)
    have a6 := hA 6 36 (by decide) (by decide +kernel) (by decide +kernel)
    dsimp only at hp ⊢
    unfold bP at hp ⊢
    rw [e11, e12, a3, a4, a5, a6]
    exact hp
  refine List.forall_mem_cons.mpr ⟨?_, ?_⟩
  · intro hz hp
    have hz : 14 = i := hz
    subst hz
    have e11 := hI 11 (by decide +kernel)
    have e12 := hI 12 (by decide +kernel)
    have a3 := hA 3 33 (by decide) (by decide +kernel) (by decide +kernel)
    have a4 := hA 4 34 (by decide) (by decide +kernel) (by decide +kernel)
    have a5 := hA 5 35 (by decide) (by decide +kernel) (by decide +kernel)
    have a6 := hA 6 36 (by decide) (by decide +kernel) (by decide +kernel)
    dsimp only at hp ⊢
    unfold bP at hp ⊢
    rw [e11, e12, a3, a4, a5, a6]
    exact hp
  refine List.forall_mem_cons.mpr ⟨?_, ?_⟩
  · intro hz hp
    have hz : 15 = i := hz
    subst hz
    have e11 := hI 11 (by decide +kernel)
    have e12 := hI 12 (by decide +kernel)
    have a3 := hA 3 33 (by decide) (by decide +kernel) (by decide +kernel)
    have a4 := hA 4 34 (by decide) (by decide +kernel) (by decide +kernel)
    have a5 := hA 5 35 (by decide) (by decide +kernel) (by decide +kernel)
    have a6 := hA 6 36 (by decide) (by decide +kernel) (by decide +kernel)
    dsimp only at hp ⊢
    unfold bP at hp ⊢
    rw [e11, e12, a3, a4, a5, a6]
    exact hp
  refine List.forall_mem_cons.mpr ⟨?_, ?_⟩
  · intro hz hp
    have hz : 20 = i := hz
    subst hz
    have e11 := hI 11 (by decide +kernel)
    have e12 := hI 12 (by decide +kernel)
    have a3 := hA 3 33 (by decide) (by decide +kernel) (by decide +kernel)
    have a4 := hA 4 34 (by decide) (by decide +kernel) (by decide +kernel)
    have a5 := hA 5 35 (by decide) (by decide +kernel) (by decide +kernel)
    have a6 := hA 6 36 (by decide) (by decide +kernel) (by decide +kernel)
    dsimp only at hp ⊢
    unfold bP at hp ⊢
    rw [e11, e12, a3, a4, a5, a6]
    exact hp
  refine List.forall_mem_cons.mpr ⟨?_, ?_⟩
  · intro hz hp
    have hz : 21 = i := hz
    subst hz
    have e11 := hI 11 (by decide +kernel)
    have e12 := hI 12 (by decide +kernel)
    have a3 := hA 3 33 (by decide) (by decide +kernel) (by decide +kernel)
    have a4 := hA 4 34 (by decide) (by decide +kernel) (by decide +kernel)
    have a5 := hA 5 35 (by decide) (by decide +kernel) (by decide +kernel)
    have a6 := hA 6 36 (by decide) (by decide +kernel) (by decide +kernel)
    dsimp only at hp ⊢
    unfold bP at hp ⊢
    rw [e11, e12, a3, a4, a5, a6]
    exact hp
  refine List.forall_mem_cons.mpr ⟨?_, ?_⟩
  · intro hz hp
    have hz : 22 = i := hz
    subst hz
    have e11 := hI 11 (by decide +kernel)
    have e12 := hI 12 (by decide +kernel)
    have a3 := hA 3 33 (by decide) (by decide +kernel) (by decide +kernel)
    have a4 := hA 4 34 (by decide) (by decide +kernel) (by decide +kernel)
    have a5 := hA 5 35 (by decide) (by decide +kernel) (by decide +kernel)
    have a6 := hA 6 36 (by decide) (by decide +kernel) (by decide +kernel)
    dsimp only at hp ⊢
    unfold bP at hp ⊢
    rw [e11, e12, a3, a4, a5, a6]
    exact hp
  refine List.forall_mem_cons.mpr ⟨?_, ?_⟩
  · intro hz hp
    have hz : 30 = i := hz
    subst hz
    have e11 := hI 11 (by decide +kernel)
    have e12 := hI 12 (by decide +kernel)
    have e13 := hI 13 (by decide +kernel)
    have e16 := hI 16 (by decide +kernel)
    have a3 := hA 3 33 (by decide) (by decide +kernel) (by decide +kernel)
    have a4 := hA 4 34 (by decide) (by decide +kernel) (by decide +kernel)
    have a5 := hA 5 35 (by decide) (by decide +kernel) (by decide +kernel)
    have a6 := hA 6 36 (by decide) (by decide +kernel) (by decide +kernel)
    have a15 := hA 15 38 (by decide) (by decide +kernel) (by decide +kernel)
    dsimp only at hp ⊢
    unfold bF0 bP bAO at hp ⊢
    rw [e11, e12, e13, e16, a3, a4, a5, a6, a15]
    exact hp
  refine List.forall_mem_cons.mpr ⟨?_, ?_⟩
  · intro hz hp
    have hz : 31 = i := hz
    subst hz
    have e11 := hI 11 (by decide +kernel)
    have e12 := hI 12 (by decide +kernel)
    have e13 := hI 13 (by decide +kernel)
    have e16 := hI 16 (by decide +kernel)
    have a3 := hA 3 33 (by decide) (by decide +kernel) (by decide +kernel)
    have a4 := hA 4 34 (by decide) (by decide +kernel) (by decide +kernel)
    have a5 := hA 5 35 (by decide) (by decide +kernel) (by decide +kernel)
    have a6 := hA 6 36 (by decide) (by decide +kernel) (by decide +kernel)
    have a15 := hA 15 38 (by decide) (by decide +kernel) (by decide +kernel)
    dsimp only at hp ⊢
    unfold bF1 bP bAO at hp ⊢
    rw [e11, e12, e13, e16, a3, a4, a5, a6, a15]
    exact hp
  refine List.forall_mem_cons.mpr ⟨?_, ?_⟩
  · intro hz hp
    have hz : 32 = i := hz
    subst hz
    have e11 := hI 11 (by decide +kernel)
    have e12 := hI 12 (by decide +kernel)
    have e13 := hI 13 (by decide +kernel)
    have e16 := hI 16 (by decide +kernel)
    have a3 := hA 3 33 (by decide) (by decide +kernel) (by decide +kernel)
    have a4 := hA 4 34 (by decide) (by decide +kernel) (by decide +kernel)
    have a5 := hA 5 35 (by decide) (by decide +kernel) (by decide +kernel)
    have a6 := hA 6 36 (by decide) (by decide +kernel) (by decide +kernel)
    have a15 := hA 15 38 (by decide) (by decide +kernel) (by decide +kernel)
    dsimp only at hp ⊢
    unfold bD1 bP bAO at hp ⊢
    rw [e11, e12, e13, e16, a3, a4, a5, a6, a15]
    exact hp
  refine List.forall_mem_cons.mpr ⟨?_, ?_⟩
  · intro hz hp
    have hz : 33 = i := hz
    subst hz
    have e11 := hI 11 (by decide +kernel)
    have e12 := hI 12 (by decide +kernel)
    have e13 := hI 13 (by decide +kernel)
    have e16 := hI 16 (by decide +kernel)
    have a3 := hA 3 33 (by decide) (by decide +kernel) (by decide +kernel)
    have a4 := hA 4 34 (by decide) (by decide +kernel) (by decide +kernel)
    have a5 := hA 5 35 (by decide) (by decide +kernel) (by decide +kernel)
    have a6 := hA 6 36 (by decide) (by decide +kernel) (by decide +kernel)
    have a15 := hA 15 38 (by decide) (by decide +kernel) (by decide +kernel)
    dsimp only at hp ⊢
    unfold bD1 bP bAO at hp ⊢
    rw [e11, e12, e13, e16, a3, a4, a5, a6, a15]
    exact hp
  refine List.forall_mem_cons.mpr ⟨?_, ?_⟩
  · intro hz hp
    have hz : 34 = i := hz
    subst hz
    have e16 := hI 16 (by decide +kernel)
    have a15 := hA 15 38 (by decide) (by decide +kernel) (by decide +kernel)
    dsimp only at hp ⊢
    rw [e16, a15]
    exact hp
  refine List.forall_mem_cons.mpr ⟨?_, ?_⟩
  · intro hz hp
    have hz : 35 = i := hz
    subst hz
    have e16 := hI 16 (by decide +kernel)
    have a15 := hA 15 38 (by decide) (by decide +kernel) (by decide +kernel)
    dsimp only at hp ⊢
    rw [e16, a15]
    exact hp
  refine List.forall_mem_cons.mpr ⟨?_, ?_⟩
  · intro hz hp
    have hz : 36 = i := hz
    subst hz
    have e11 := hI 11 (by decide +kernel)
    have e12 := hI 12 (by decide +kernel)
    have e13 := hI 13 (by decide +kernel)
    have e16 := hI 16 (by decide +kernel)
    have a3 := hA 3 33 (by decide) (by decide +kernel) (by decide +kernel)
    have a4 := hA 4 34 (by decide) (by decide +kernel) (by decide +kernel)
    have a5 := hA 5 35 (by decide) (by decide +kernel) (by decide +kernel)
    have a6 := hA 6 36 (by decide) (by decide +kernel) (by decide +kernel)
    have a15 := hA 15 38 (by decide) (by decide +kernel) (by decide +kernel)
    dsimp only at hp ⊢
    unfold bF1 bP bAO at hp ⊢
    rw [e11, e12, e13, e16, a3, a4, a5, a6, a15]
    exact hp
  refine List.forall_mem_cons.mpr ⟨?_, ?_⟩
  · intro hz hp
    have hz : 37 = i := hz
    subst hz
    have e11 := hI 11 (by decide +kernel)
    have e12 := hI 12 (by decide +kernel)
    have e13 := hI 13 (by decide +kernel)
    have e16 := hI 16 (by decide +kernel)
    have a3 := hA 3 33 (by decide) (by decide +kernel) (by decide +kernel)
    have a4 := hA 4 34 (by decide) (by decide +kernel) (by decide +kernel)
    have a5 := hA 5 35 (by decide) (by decide +kernel) (by decide +kernel)
    have a6 := hA 6 36 (by decide) (by decide +kernel) (by decide +kernel)
    have a15 := hA 15 38 (by decide) (by decide +kernel) (by decide +kernel)
    dsimp only at hp ⊢
    unfold bZ1 bP bAO at hp ⊢
    rw [e11, e12, e13, e16, a3, a4, a5, a6, a15]
    exact hp
  refine List.forall_mem_cons.mpr ⟨?_, ?_⟩
  · intro hz hp
    have hz : 40 = i := hz
    subst hz
    have e13 := hI 13 (by decide +kernel)
    dsimp only at hp ⊢
    rw [e13]
    exact hp
  refine List.forall_mem_cons.mpr ⟨?_, ?_⟩
  · intro hz hp
    have hz : 41 = i := hz
    subst hz
    have e13 := hI 13 (by decide +kernel)
    dsimp only at hp ⊢
    rw [e13]
    exact hp
  refine List.forall_mem_cons.mpr ⟨?_, ?_⟩
  · intro hz hp
    have hz : 42 = i := hz
    subst hz
    have e16 := hI 16 (by decide +kernel)
    dsimp only at hp ⊢
    rw [e16]
    exact hp
  refine List.forall_mem_cons.mpr ⟨?_, ?_⟩
  · intro hz hp
    have hz : 43 = i := hz
    subst hz
    have e16 := hI 16 (by decide +kernel)
    dsimp only at hp ⊢
    rw [e16]
    exact hp
  refine List.forall_mem_cons.mpr ⟨?_, ?_⟩
  · intro hz hp
    have hz : 50 = i := hz
    subst hz
    have e11 := hI 11 (by decide +kernel)
    have e12 := hI 12 (by decide +kernel)
    have e13 := hI 13 (by decide +kernel)
    have e16 := hI 16 (by decide +kernel)
    have a3 := hA 3 33 (by decide) (by decide +kernel) (by decide +kernel)
    have a4 := hA 4 34 (by decide) (by decide +kernel) (by decide +kernel)
    have a5 := hA 5 35 (by decide) (by decide +kernel) (by decide +kernel)
    have a6 := hA 6 36 (by decide) (by decide +kernel) (by decide +kernel)
    have a15 := hA 15 38 (by decide) (by decide +kernel) (by decide +kernel)
    dsimp only at hp ⊢
    unfold bF0 bP bAO at hp ⊢
    rw [e11, e12, e13, e16, a3, a4, a5, a6, a15]
    exact hp
  refine List.forall_mem_cons.mpr ⟨?_, ?_⟩
  · intro hz hp
    have hz : 51 = i := hz
    subst hz
    have e11 := hI 11 (by decide +kernel)
    have e12 := hI 12 (by decide +kernel)
    have e13 := hI 13 (by decide +kernel)
    have e16 := hI 16 (by decide +kernel)
    have a3 := hA 3 33 (by decide) (by decide +kernel) (by decide +kernel)
    have a4 := hA 4 34 (by decide) (by decide +kernel) (by decide +kernel)
    have a5 := hA 5 35 (by decide) (by decide +kernel) (by decide +kernel)
    have a6 := hA 6 36 (by decide) (by decide +kernel) (by decide +kernel)
    have a15 := hA 15 38 (by decide) (by decide +kernel) (by decide +kernel)
    dsimp only at hp ⊢
    unfold bF1 bP bAO at hp ⊢
    rw [e11, e12, e13, e16, a3, a4, a5, a6, a15]
    exact hp
  refine List.forall_mem_cons.mpr ⟨?_, ?_⟩
  · intro hz hp
    have hz : 52 = i := hz
    subst hz
    have e11 := hI 11 (by decide +kernel)
    have e12 := hI 12 (by decide +kernel)
    have e13 := hI 13 (by decide +kernel)
    have e16 := hI 16 (by decide +kernel)
    have a3 := hA 3 33 (by decide) (by decide +kernel) (by decide +kernel)
    have a4 := hA 4 34 (by decide) (by decide +kernel) (by decide +kernel)
    have a5 := hA 5 35 (by decide) (by decide +kernel) (by decide +kernel)
    have a6 := hA 6 36 (by decide) (by decide +kernel) (by decide +kernel)
    have a15 := hA 15 38 (by decide) (by decide +kernel) (by decide +kernel)
    dsimp only at hp ⊢
    unfold bF1 bP bAO at hp ⊢
    rw [e11, e12, e13, e16, a3, a4, a5, a6, a15]
    exact hp
  refine List.forall_mem_cons.mpr ⟨?_, ?_⟩
  · intro hz hp
    have hz : 53 = i := hz
    subst hz
    have e11 := hI 11 (by decide +kernel)
    have e12 := hI 12 (by decide +kernel)
    have e13 := hI 13 (by decide +kernel)
    have e16 := hI 16 (by decide +kernel)
    have a3 := hA 3 33 (by decide) (by decide +kernel) (by decide +kernel)
    have a4 := hA 4 34 (by decide) (by decide +kernel) (by decide +kernel)
    have a5 := hA 5 35 (by decide) (by decide +kernel) (by decide +kernel)
    have a6 := hA 6 36 (by decide) (by decide +kernel) (by decide +kernel)
    have a15 := hA 15 38 (by decide) (by decide +kernel) (by decide +kernel)
    dsimp only at hp ⊢
    unfold bF0 bP bAO at hp ⊢
    rw [e11, e12, e13, e16, a3, a4, a5, a6, a15]
    exact hp
  refine List.forall_mem_cons.mpr ⟨?_, ?_⟩
  · intro hz hp
    have hz : 54 = i := hz
    subst hz
    have e11 := hI 11 (by decide +kernel)
    have e12 := hI 12 (by decide +kernel)
    have a3 := hA 3 33 (by decide) (by decide +kernel) (by decide +kernel)
    have a4 := hA 4 34 (by decide) (by decide +kernel) (by decide +kernel)
    have a5 := hA 5 35 (by decide) (by decide +kernel) (by decide +kernel)
    have a6 := hA 6 36 (by decide) (by decide +kernel) (by decide +kernel)
    dsimp only at hp ⊢
    unfold bP at hp ⊢
    rw [e11, e12, a3, a4, a5, a6]
    exact hp
  refine List.forall_mem_cons.mpr ⟨?_, ?_⟩
  · intro hz hp
    have hz : 55 = i := hz
    subst hz
    have e11 := hI 11 (by decide +kernel)
    have e12 := hI 12 (by decide +kernel)
    have e16 := hI 16 (by decide +kernel)
    have a3 := hA 3 33 (by decide) (by decide +kernel) (by decide +kernel)
    have a4 := hA 4 34 (by decide) (by decide +kernel) (by decide +kernel)
    have a5 := hA 5 35 (by decide) (by decide +kernel) (by decide +kernel)
    have a6 := hA 6 36 (by decide) (by decide +kernel) (by decide +kernel)
    dsimp only at hp ⊢
    unfold bP at hp ⊢
    rw [e11, e12, e16, a3, a4, a5, a6]
    exact hp
  refine List.forall_mem_cons.mpr ⟨?_, ?_⟩
  · intro hz hp
    have hz : 60 = i := hz
    subst hz
    have e11 := hI 11 (by decide +kernel)
    have e12 := hI 12 (by decide +kernel)
    have e14 := hI 14 (by decide +kernel)
    have a4 := hA 4 34 (by decide) (by decide +kernel) (by decide +kernel)
    have a5 := hA 5 35 (by decide) (by decide +kernel) (by decide +kernel)
    have a6 := hA 6 36 (by decide) (by decide +kernel) (by decide +kernel)
    dsimp only at hp ⊢
    unfold bR at hp ⊢
    rw [e11, e12, e14, a4, a5, a6]
    exact hp
  refine List.forall_mem_cons.mpr ⟨?_, ?_⟩
  · intro hz hp
    have hz : 61 = i := hz
    subst hz
    have e11 := hI 11 (by decide +kernel)
    have e12 := hI 12 (by decide +kernel)
    have e14 := hI 14 (by decide +kernel)
    have a4 := hA 4 34 (by decide) (by decide +kernel) (by decide +kernel)
    have a5 := hA 5 35 (by decide) (by decide +kernel) (by decide +kernel)
    have a6 := hA 6 36 (by decide) (by decide +kernel) (by decide +kernel)
    dsimp only at hp ⊢
    unfold bR at hp ⊢
    rw [e11, e12, e14, a4, a5, a6]
    exact hp
  refine List.forall_mem_cons.mpr ⟨?_, ?_⟩
  · intro hz hp
    have hz : 62 = i := hz
    subst hz
    have e11 := hI 11 (by decide +kernel)
    have a6 := hA 6 36 (by decide) (by decide +kernel) (by decide +kernel)
    dsimp only at hp ⊢
    rw [e11, a6]
    exact hp
  refine List.forall_mem_cons.mpr ⟨?_, ?_⟩
  · intro hz hp
    have hz : 63 = i := hz
    subst hz
    have e11 := hI 11 (by decide +kernel)
    have a4 := hA 4 34 (by decide) (by decide +kernel) (by decide +kernel)
    have a6 := hA 6 36 (by decide) (by decide +kernel) (by decide +kernel)
    dsimp only at hp ⊢
    rw [e11, a4, a6]
    exact hp
  refine List.forall_mem_cons.mpr ⟨?_, ?_⟩
  · intro hz hp
    have hz : 64 = i := hz
    subst hz
    have e11 := hI 11 (by decide +kernel)
    have e14 := hI 14 (by decide +kernel)
    have a4 := hA 4 34 (by decide) (by decide +kernel) (by decide +kernel)
    have a6 := hA 6 36 (by decide) (by decide +kernel) (by decide +kernel)
    dsimp only at hp ⊢
    rw [e11, e14, a4, a6]
    exact hp
  refine List.forall_mem_cons.mpr ⟨?_, ?_⟩
  · intro hz hp
    have hz : 65 = i := hz
    subst hz
    have e14 := hI 14 (by decide +kernel)
    dsimp only at hp ⊢
    rw [e14]
    exact hp
  refine List.forall_mem_cons.mpr ⟨?_, ?_⟩
  · intro hz hp
    have hz : 66 = i := hz
    subst hz
    have e14 := hI 14 (by decide +kernel)
    dsimp only at hp ⊢
    rw [e14]
    exact hp
  refine List.forall_mem_cons.mpr ⟨?_, ?_⟩
  · intro hz hp
    have hz : 71 = i := hz
    subst hz
    have e8 := hI 8 (by decide +kernel)
    have e1 := hI 1 (by decide +kernel)
    have a0 := hA 0 32 (by decide) (by decide +kernel) (by decide +kernel)
    dsimp only at hp ⊢
    rw [e8, e1, a0]
    exact hp
  exact List.forall_mem_nil _
