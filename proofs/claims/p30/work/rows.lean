section
/-! ===== numbers between bounds: what the kernel reckons, and why it is so ===== -/
def k_le (a b : Int) : Bool := match b - a with
  | .ofNat _ => true
  | .negSucc _ => false
theorem k_le_iff {a b : Int} : k_le a b = true ↔ a ≤ b := by
  unfold k_le
  constructor
  · intro h
    split at h
    · rename_i n e
      have : (0 : Int) ≤ b - a := by rw [e]; exact Int.natCast_nonneg n
      omega
    · cases h
  · intro h
    split
    · rfl
    · rename_i n e
      have h2 : b - a < 0 := by rw [e]; exact Int.negSucc_lt_zero n
      omega
def k_eqi (a b : Int) : Bool := k_le a b && k_le b a
theorem k_eqi_iff {a b : Int} : k_eqi a b = true ↔ a = b := by
  unfold k_eqi
  rw [Bool.and_eq_true, k_le_iff, k_le_iff]
  omega
def k_min (a b : Int) : Int := if k_le a b = true then a else b
def k_max (a b : Int) : Int := if k_le a b = true then b else a
theorem k_min_le {a b z : Int} (h1 : z ≤ a) (h2 : z ≤ b) : z ≤ k_min a b := by
  unfold k_min; split <;> assumption
theorem k_max_le {a b z : Int} (h1 : a ≤ z) (h2 : b ≤ z) : k_max a b ≤ z := by
  unfold k_max; split <;> assumption
abbrev kB : Type := Int × Int
def k_top : kB := (-2147483648, 2147483647)
def k_topL : kB := (-9223372036854775808, 9223372036854775807)
def k_fit (q : kB) : kB := if (k_le (-2147483648) q.1 && k_le q.2 2147483647) = true then q else k_top
def k_fitL (q : kB) : kB := if (k_le (-9223372036854775808) q.1 && k_le q.2 9223372036854775807) = true then q else k_topL
def k_in (q : kB) (z : Int) : Prop := q.1 ≤ z ∧ z ≤ q.2
theorem k_in_top (x : Int32) : k_in k_top x.toInt := by
  have h1 := x.le_toInt
  have h2 := x.toInt_lt
  unfold k_in k_top
  constructor
  · show (-2147483648 : Int) ≤ _; omega
  · show _ ≤ (2147483647 : Int); omega
theorem k_in_topL (x : Int64) : k_in k_topL x.toInt := by
  have h1 := x.le_toInt
  have h2 := x.toInt_lt
  unfold k_in k_topL
  constructor
  · show (-9223372036854775808 : Int) ≤ _; omega
  · show _ ≤ (9223372036854775807 : Int); omega
theorem k_fit_ok {x : Int32} {z : Int} {q : kB} (hx : x.toInt = z.bmod (2 ^ 32)) (h : k_in q z) : k_in (k_fit q) x.toInt := by
  unfold k_fit
  split
  · rename_i e
    rw [Bool.and_eq_true, k_le_iff, k_le_iff] at e
    obtain ⟨h1, h2⟩ := h
    have : z.bmod (2 ^ 32) = z := Int.bmod_eq_of_le (by omega) (by omega)
    rw [hx, this]
    exact ⟨h1, h2⟩
  · exact k_in_top x
theorem k_fitL_ok {x : Int64} {z : Int} {q : kB} (hx : x.toInt = z.bmod (2 ^ 64)) (h : k_in q z) : k_in (k_fitL q) x.toInt := by
  unfold k_fitL
  split
  · rename_i e
    rw [Bool.and_eq_true, k_le_iff, k_le_iff] at e
    obtain ⟨h1, h2⟩ := h
    have : z.bmod (2 ^ 64) = z := Int.bmod_eq_of_le (by omega) (by omega)
    rw [hx, this]
    exact ⟨h1, h2⟩
  · exact k_in_topL x
def k_addB (p q : kB) : kB := (p.1 + q.1, p.2 + q.2)
def k_subB (p q : kB) : kB := (p.1 - q.2, p.2 - q.1)
theorem k_addB_ok {p q : kB} {x y : Int} (h : k_in p x) (h' : k_in q y) : k_in (k_addB p q) (x + y) := by
  obtain ⟨a, b⟩ := h; obtain ⟨a', b'⟩ := h'
  exact ⟨by show p.1 + q.1 ≤ _; omega, by show _ ≤ p.2 + q.2; omega⟩
theorem k_subB_ok {p q : kB} {x y : Int} (h : k_in p x) (h' : k_in q y) : k_in (k_subB p q) (x - y) := by
  obtain ⟨a, b⟩ := h; obtain ⟨a', b'⟩ := h'
  exact ⟨by show p.1 - q.2 ≤ _; omega, by show _ ≤ p.2 - q.1; omega⟩
/-- a product, where one side is one number, not below 0 -/
def k_mulB (p q : kB) : Option kB :=
  if (k_eqi q.1 q.2 && k_le 0 q.1) = true then some (p.1 * q.1, p.2 * q.1)
  else if (k_eqi p.1 p.2 && k_le 0 p.1) = true then some (p.1 * q.1, p.1 * q.2)
  else none
theorem k_mulB_ok {p q r : kB} {x y : Int} (e : k_mulB p q = some r) (h : k_in p x) (h' : k_in q y) : k_in r (x * y) := by
  obtain ⟨a, b⟩ := h; obtain ⟨a', b'⟩ := h'
  unfold k_mulB at e
  split at e
  · rename_i c
    rw [Bool.and_eq_true, k_eqi_iff, k_le_iff] at c
    cases e
    have hy : y = q.1 := by omega
    subst hy
    exact ⟨Int.mul_le_mul_of_nonneg_right a c.2, Int.mul_le_mul_of_nonneg_right b c.2⟩
  · split at e
    · rename_i c
      rw [Bool.and_eq_true, k_eqi_iff, k_le_iff] at c
      cases e
      have hx : x = p.1 := by omega
      subst hx
      exact ⟨Int.mul_le_mul_of_nonneg_left a' c.2, Int.mul_le_mul_of_nonneg_left b' c.2⟩
    · cases e
def k_mulI (p q : kB) : kB := match k_mulB p q with
  | some r => k_fit r
  | none => k_top
def k_mulJ (p q : kB) : kB := match k_mulB p q with
  | some r => k_fitL r
  | none => k_topL
theorem k_mulI_ok {p q : kB} {x y : Int32} (h : k_in p x.toInt) (h' : k_in q y.toInt) : k_in (k_mulI p q) (x * y).toInt := by
  unfold k_mulI
  split
  · rename_i r e
    exact k_fit_ok (Int32.toInt_mul x y) (k_mulB_ok e h h')
  · exact k_in_top _
theorem k_mulJ_ok {p q : kB} {x y : Int64} (h : k_in p x.toInt) (h' : k_in q y.toInt) : k_in (k_mulJ p q) (x * y).toInt := by
  unfold k_mulJ
  split
  · rename_i r e
    exact k_fitL_ok (Int64.toInt_mul x y) (k_mulB_ok e h h')
  · exact k_in_topL _
theorem k_addI_ok {p q : kB} {x y : Int32} (h : k_in p x.toInt) (h' : k_in q y.toInt) : k_in (k_fit (k_addB p q)) (x + y).toInt := k_fit_ok (Int32.toInt_add x y) (k_addB_ok h h')
theorem k_subI_ok {p q : kB} {x y : Int32} (h : k_in p x.toInt) (h' : k_in q y.toInt) : k_in (k_fit (k_subB p q)) (x - y).toInt := k_fit_ok (Int32.toInt_sub x y) (k_subB_ok h h')
theorem k_addJ_ok {p q : kB} {x y : Int64} (h : k_in p x.toInt) (h' : k_in q y.toInt) : k_in (k_fitL (k_addB p q)) (x + y).toInt := k_fitL_ok (Int64.toInt_add x y) (k_addB_ok h h')
theorem k_subJ_ok {p q : kB} {x y : Int64} (h : k_in p x.toInt) (h' : k_in q y.toInt) : k_in (k_fitL (k_subB p q)) (x - y).toInt := k_fitL_ok (Int64.toInt_sub x y) (k_subB_ok h h')
/-- a division by one number above 0, of what is not below 0 -/
def k_divB (p q : kB) : Option kB := if ((k_eqi q.1 q.2 && k_le 1 q.1) && k_le 0 p.1) = true then some (p.1 / q.1, p.2 / q.1) else none
theorem k_divB_ok {p q r : kB} {x y : Int} (e : k_divB p q = some r) (h : k_in p x) (h' : k_in q y) : k_in r (x.tdiv y) := by
  obtain ⟨a, b⟩ := h; obtain ⟨a', b'⟩ := h'
  unfold k_divB at e
  split at e
  · rename_i c
    rw [Bool.and_eq_true, Bool.and_eq_true, k_eqi_iff, k_le_iff, k_le_iff] at c
    cases e
    have hy : y = q.1 := by omega
    subst hy
    have hx0 : 0 ≤ x := by omega
    rw [Int.tdiv_eq_ediv_of_nonneg hx0]
    exact ⟨Int.ediv_le_ediv (by omega) a, Int.ediv_le_ediv (by omega) b⟩
  · cases e
def k_divI (p q : kB) : kB := match k_divB p q with
  | some r => k_fit r
  | none => k_top
def k_divJ (p q : kB) : kB := match k_divB p q with
  | some r => k_fitL r
  | none => k_topL
theorem k_divI_ok {p q : kB} {x y : Int32} (h : k_in p x.toInt) (h' : k_in q y.toInt) : k_in (k_divI p q) (x / y).toInt := by
  unfold k_divI
  split
  · rename_i r e
    exact k_fit_ok (Int32.toInt_div x y) (k_divB_ok e h h')
  · exact k_in_top _
theorem k_divJ_ok {p q : kB} {x y : Int64} (h : k_in p x.toInt) (h' : k_in q y.toInt) : k_in (k_divJ p q) (x / y).toInt := by
  unfold k_divJ
  split
  · rename_i r e
    exact k_fitL_ok (Int64.toInt_div x y) (k_divB_ok e h h')
  · exact k_in_topL _
/-- a rest, by what is above 0 -/
def k_remB (p q : kB) : Option kB := if k_le 1 q.1 = true then (if k_le 0 p.1 = true then some (0, k_min p.2 (q.2 - 1)) else some (1 - q.2, q.2 - 1)) else none
theorem k_remB_ok {p q r : kB} {x y : Int} (e : k_remB p q = some r) (h : k_in p x) (h' : k_in q y) : k_in r (x.tmod y) := by
  obtain ⟨a, b⟩ := h; obtain ⟨a', b'⟩ := h'
  unfold k_remB at e
  split at e
  · rename_i c
    rw [k_le_iff] at c
    have hy : 0 < y := by omega
    split at e
    · rename_i c2
      rw [k_le_iff] at c2
      cases e
      have hx0 : 0 ≤ x := by omega
      rw [Int.tmod_eq_emod_of_nonneg hx0]
      have h1 := Int.emod_nonneg x (show y ≠ 0 by omega)
      have h2 := Int.emod_lt_of_pos x hy
      have h4 := Int.mul_nonneg (Int.le_of_lt hy) (Int.ediv_nonneg hx0 (Int.le_of_lt hy))
      have h5 := Int.mul_ediv_add_emod x y
      have h3 : x % y ≤ x := by omega
      exact ⟨h1, k_min_le (by omega) (by omega)⟩
    · cases e
      have h2 := Int.tmod_lt_of_pos x hy
      have h1 := Int.lt_tmod_of_pos x hy
      exact ⟨by show 1 - q.2 ≤ _; omega, by show _ ≤ q.2 - 1; omega⟩
  · cases e
theorem k_rem32 (x y : Int32) : (x - x / y * y).toInt = (x.toInt.tmod y.toInt).bmod (2 ^ 32) := by
  rw [Int32.toInt_sub, Int32.toInt_mul, Int32.toInt_div]
  have h : x.toInt.tmod y.toInt = x.toInt - x.toInt.tdiv y.toInt * y.toInt := by
    have := Int.tmod_def x.toInt y.toInt
    rw [this, Int.mul_comm]
  rw [h, Int.bmod_mul_bmod, Int.sub_bmod_bmod]
theorem k_rem64 (x y : Int64) : (x - x / y * y).toInt = (x.toInt.tmod y.toInt).bmod (2 ^ 64) := by
  rw [Int64.toInt_sub, Int64.toInt_mul, Int64.toInt_div]
  have h : x.toInt.tmod y.toInt = x.toInt - x.toInt.tdiv y.toInt * y.toInt := by
    have := Int.tmod_def x.toInt y.toInt
    rw [this, Int.mul_comm]
  rw [h, Int.bmod_mul_bmod, Int.sub_bmod_bmod]
def k_remI (p q : kB) : kB := match k_remB p q with
  | some r => k_fit r
  | none => k_top
def k_remJ (p q : kB) : kB := match k_remB p q with
  | some r => k_fitL r
  | none => k_topL
theorem k_remI_ok {p q : kB} {x y : Int32} (h : k_in p x.toInt) (h' : k_in q y.toInt) : k_in (k_remI p q) (x - x / y * y).toInt := by
  unfold k_remI
  split
  · rename_i r e
    exact k_fit_ok (k_rem32 x y) (k_remB_ok e h h')
  · exact k_in_top _
theorem k_remJ_ok {p q : kB} {x y : Int64} (h : k_in p x.toInt) (h' : k_in q y.toInt) : k_in (k_remJ p q) (x - x / y * y).toInt := by
  unfold k_remJ
  split
  · rename_i r e
    exact k_fitL_ok (k_rem64 x y) (k_remB_ok e h h')
  · exact k_in_topL _
/-- bits: of what is not below 0 the number is that of its bits -/
theorem k_nat32 {x : Int32} (h : 0 ≤ x.toInt) : x.toInt = (x.toBitVec.toNat : Int) ∧ x.toBitVec.toNat < 2 ^ 31 := by
  have h1 : x.toInt = x.toBitVec.toInt := rfl
  have h2 := BitVec.toInt_eq_toNat_cond x.toBitVec
  have h3 := x.toBitVec.isLt
  rw [h1] at h ⊢
  rw [h2] at h ⊢
  split at h
  · rename_i c
    rw [if_pos c]
    exact ⟨rfl, by omega⟩
  · omega
theorem k_nat32' {x : Int32} (h : x.toBitVec.toNat < 2 ^ 31) : x.toInt = (x.toBitVec.toNat : Int) := by
  have h1 : x.toInt = x.toBitVec.toInt := rfl
  rw [h1, BitVec.toInt_eq_toNat_cond x.toBitVec, if_pos (by omega)]
theorem k_nat64 {x : Int64} (h : 0 ≤ x.toInt) : x.toInt = (x.toBitVec.toNat : Int) ∧ x.toBitVec.toNat < 2 ^ 63 := by
  have h1 : x.toInt = x.toBitVec.toInt := rfl
  have h2 := BitVec.toInt_eq_toNat_cond x.toBitVec
  have h3 := x.toBitVec.isLt
  rw [h1] at h ⊢
  rw [h2] at h ⊢
  split at h
  · rename_i c
    rw [if_pos c]
    exact ⟨rfl, by omega⟩
  · omega
theorem k_nat64' {x : Int64} (h : x.toBitVec.toNat < 2 ^ 63) : x.toInt = (x.toBitVec.toNat : Int) := by
  have h1 : x.toInt = x.toBitVec.toInt := rfl
  rw [h1, BitVec.toInt_eq_toNat_cond x.toBitVec, if_pos (by omega)]
/-- and: one number each: reckoned; else within what is not below 0 -/
def k_andB (p q : kB) : Option kB :=
  if ((k_eqi p.1 p.2 && k_eqi q.1 q.2) && (k_le 0 p.1 && k_le 0 q.1)) = true then some ((Nat.land p.1.toNat q.1.toNat : Nat), (Nat.land p.1.toNat q.1.toNat : Nat))
  else if k_le 0 q.1 = true then (if k_le 0 p.1 = true then some (0, k_min p.2 q.2) else some (0, q.2))
  else if k_le 0 p.1 = true then some (0, p.2) else none
theorem k_and_nat (x y : Int32) : (x &&& y).toBitVec.toNat = Nat.land x.toBitVec.toNat y.toBitVec.toNat := by
  rw [Int32.toBitVec_and, BitVec.toNat_and]; rfl
theorem k_and_natJ (x y : Int64) : (x &&& y).toBitVec.toNat = Nat.land x.toBitVec.toNat y.toBitVec.toNat := by
  rw [Int64.toBitVec_and, BitVec.toNat_and]; rfl
theorem k_land_l (a b : Nat) : Nat.land a b ≤ a := Nat.and_le_left
theorem k_land_r (a b : Nat) : Nat.land a b ≤ b := Nat.and_le_right
theorem k_andB_ok {p q r : kB} {x y : Int32} (e : k_andB p q = some r) (h : k_in p x.toInt) (h' : k_in q y.toInt) : k_in r (x &&& y).toInt := by
  obtain ⟨a, b⟩ := h; obtain ⟨a', b'⟩ := h'
  have hn := k_and_nat x y
  have hl := k_land_l x.toBitVec.toNat y.toBitVec.toNat
  have hr := k_land_r x.toBitVec.toNat y.toBitVec.toNat
  unfold k_andB at e
  split at e
  · rename_i c
    rw [Bool.and_eq_true, Bool.and_eq_true, Bool.and_eq_true, k_eqi_iff, k_eqi_iff, k_le_iff, k_le_iff] at c
    cases e
    obtain ⟨e1, l1⟩ := k_nat32 (x := x) (by omega)
    obtain ⟨e2, l2⟩ := k_nat32 (x := y) (by omega)
    have hx : p.1.toNat = x.toBitVec.toNat := by omega
    have hy : q.1.toNat = y.toBitVec.toNat := by omega
    rw [hx, hy, k_nat32' (x := x &&& y) (by rw [hn]; omega), hn]
    exact ⟨Int.le_refl _, Int.le_refl _⟩
  · split at e
    · rename_i c
      rw [k_le_iff] at c
      obtain ⟨e2, l2⟩ := k_nat32 (x := y) (by omega)
      have e3 := k_nat32' (x := x &&& y) (by rw [hn]; omega)
      split at e
      · rename_i c2
        rw [k_le_iff] at c2
        cases e
        obtain ⟨e1, l1⟩ := k_nat32 (x := x) (by omega)
        rw [e3, hn]
        exact ⟨Int.natCast_nonneg _, k_min_le (by omega) (by omega)⟩
      · cases e
        rw [e3, hn]
        exact ⟨Int.natCast_nonneg _, by show _ ≤ q.2; omega⟩
    · split at e
      · rename_i c
        rw [k_le_iff] at c
        cases e
        obtain ⟨e1, l1⟩ := k_nat32 (x := x) (by omega)
        have e3 := k_nat32' (x := x &&& y) (by rw [hn]; omega)
        rw [e3, hn]
        exact ⟨Int.natCast_nonneg _, by show _ ≤ p.2; omega⟩
      · cases e
theorem k_andB_okJ {p q r : kB} {x y : Int64} (e : k_andB p q = some r) (h : k_in p x.toInt) (h' : k_in q y.toInt) : k_in r (x &&& y).toInt := by
  obtain ⟨a, b⟩ := h; obtain ⟨a', b'⟩ := h'
  have hn := k_and_natJ x y
  have hl := k_land_l x.toBitVec.toNat y.toBitVec.toNat
  have hr := k_land_r x.toBitVec.toNat y.toBitVec.toNat
  unfold k_andB at e
  split at e
  · rename_i c
    rw [Bool.and_eq_true, Bool.and_eq_true, Bool.and_eq_true, k_eqi_iff, k_eqi_iff, k_le_iff, k_le_iff] at c
    cases e
    obtain ⟨e1, l1⟩ := k_nat64 (x := x) (by omega)
    obtain ⟨e2, l2⟩ := k_nat64 (x := y) (by omega)
    have hx : p.1.toNat = x.toBitVec.toNat := by omega
    have hy : q.1.toNat = y.toBitVec.toNat := by omega
    rw [hx, hy, k_nat64' (x := x &&& y) (by rw [hn]; omega), hn]
    exact ⟨Int.le_refl _, Int.le_refl _⟩
  · split at e
    · rename_i c
      rw [k_le_iff] at c
      obtain ⟨e2, l2⟩ := k_nat64 (x := y) (by omega)
      have e3 := k_nat64' (x := x &&& y) (by rw [hn]; omega)
      split at e
      · rename_i c2
        rw [k_le_iff] at c2
        cases e
        obtain ⟨e1, l1⟩ := k_nat64 (x := x) (by omega)
        rw [e3, hn]
        exact ⟨Int.natCast_nonneg _, k_min_le (by omega) (by omega)⟩
      · cases e
        rw [e3, hn]
        exact ⟨Int.natCast_nonneg _, by show _ ≤ q.2; omega⟩
    · split at e
      · rename_i c
        rw [k_le_iff] at c
        cases e
        obtain ⟨e1, l1⟩ := k_nat64 (x := x) (by omega)
        have e3 := k_nat64' (x := x &&& y) (by rw [hn]; omega)
        rw [e3, hn]
        exact ⟨Int.natCast_nonneg _, by show _ ≤ p.2; omega⟩
      · cases e
def k_andI (p q : kB) : kB := (k_andB p q).getD k_top
def k_andJ (p q : kB) : kB := (k_andB p q).getD k_topL
theorem k_andI_ok {p q : kB} {x y : Int32} (h : k_in p x.toInt) (h' : k_in q y.toInt) : k_in (k_andI p q) (x &&& y).toInt := by
  unfold k_andI
  cases e : k_andB p q with
  | none => exact k_in_top _
  | some r => exact k_andB_ok e h h'
theorem k_andJ_ok {p q : kB} {x y : Int64} (h : k_in p x.toInt) (h' : k_in q y.toInt) : k_in (k_andJ p q) (x &&& y).toInt := by
  unfold k_andJ
  cases e : k_andB p q with
  | none => exact k_in_topL _
  | some r => exact k_andB_okJ e h h'
/-- or: of what is not below 0: within the next power of two; one number each: reckoned -/
def k_orB (p q : kB) : Option kB :=
  if ((k_le 0 p.1 && k_le 0 q.1) && (k_le p.2 2147483647 && k_le q.2 2147483647)) = true then
    (if (k_eqi p.1 p.2 && k_eqi q.1 q.2) = true then some ((Nat.lor p.1.toNat q.1.toNat : Nat), (Nat.lor p.1.toNat q.1.toNat : Nat))
    else some (0, ((2 ^ (Nat.log2 (Nat.max p.2.toNat q.2.toNat) + 1) - 1 : Nat) : Int)))
  else none
theorem k_or_nat (x y : Int32) : (x ||| y).toBitVec.toNat = Nat.lor x.toBitVec.toNat y.toBitVec.toNat := by
  rw [Int32.toBitVec_or, BitVec.toNat_or]; rfl
theorem k_orB_ok {p q r : kB} {x y : Int32} (e : k_orB p q = some r) (h : k_in p x.toInt) (h' : k_in q y.toInt) : k_in r (x ||| y).toInt := by
  obtain ⟨a, b⟩ := h; obtain ⟨a', b'⟩ := h'
  have hn := k_or_nat x y
  unfold k_orB at e
  split at e
  · rename_i c
    rw [Bool.and_eq_true, Bool.and_eq_true, Bool.and_eq_true, k_le_iff, k_le_iff, k_le_iff, k_le_iff] at c
    obtain ⟨e1, l1⟩ := k_nat32 (x := x) (by omega)
    obtain ⟨e2, l2⟩ := k_nat32 (x := y) (by omega)
    have hlt : Nat.lor x.toBitVec.toNat y.toBitVec.toNat < 2 ^ 31 := Nat.or_lt_two_pow l1 l2
    have e3 := k_nat32' (x := x ||| y) (by rw [hn]; exact hlt)
    split at e
    · rename_i c2
      rw [Bool.and_eq_true, k_eqi_iff, k_eqi_iff] at c2
      cases e
      have hx : p.1.toNat = x.toBitVec.toNat := by omega
      have hy : q.1.toNat = y.toBitVec.toNat := by omega
      rw [hx, hy, e3, hn]
      exact ⟨Int.le_refl _, Int.le_refl _⟩
    · cases e
      have hm : ∀ z : Nat, z ≤ Nat.max p.2.toNat q.2.toNat → z < 2 ^ (Nat.log2 (Nat.max p.2.toNat q.2.toNat) + 1) := fun z hz => Nat.lt_of_le_of_lt hz Nat.lt_log2_self
      have g1 := hm x.toBitVec.toNat (Nat.le_trans (by omega) (Nat.le_max_left p.2.toNat q.2.toNat))
      have g2 := hm y.toBitVec.toNat (Nat.le_trans (by omega) (Nat.le_max_right p.2.toNat q.2.toNat))
      have g3 : Nat.lor x.toBitVec.toNat y.toBitVec.toNat < 2 ^ (Nat.log2 (Nat.max p.2.toNat q.2.toNat) + 1) := Nat.or_lt_two_pow g1 g2
      rw [e3, hn]
      exact ⟨Int.natCast_nonneg _, Int.ofNat_le.mpr (Nat.le_sub_one_of_lt g3)⟩
  · cases e
def k_orI (p q : kB) : kB := (k_orB p q).getD k_top
theorem k_orI_ok {p q : kB} {x y : Int32} (h : k_in p x.toInt) (h' : k_in q y.toInt) : k_in (k_orI p q) (x ||| y).toInt := by
  unfold k_orI
  cases e : k_orB p q with
  | none => exact k_in_top _
  | some r => exact k_orB_ok e h h'
/-- shifts by 0 to 31 -/
theorem k_and31 {y : Int32} (h1 : 0 ≤ y.toInt) (h2 : y.toInt ≤ 31) : (y &&& 31) = y := by
  apply Int32.toInt_inj.mp
  obtain ⟨e1, l1⟩ := k_nat32 h1
  have hn := k_and_nat y 31
  have h31 : (31 : Int32).toBitVec.toNat = 31 := rfl
  have hl : y.toBitVec.toNat < 2 ^ 5 := by omega
  have hz : Nat.land y.toBitVec.toNat 31 = y.toBitVec.toNat := by
    have := Nat.and_two_pow_sub_one_eq_mod y.toBitVec.toNat 5
    exact this.trans (Nat.mod_eq_of_lt hl)
  rw [h31, hz] at hn
  rw [k_nat32' (x := y &&& 31) (by omega), hn, e1]
theorem k_smod {y : Int32} (h1 : 0 ≤ y.toInt) (h2 : y.toInt ≤ 31) : y.toBitVec.smod 32 = y.toBitVec := by
  apply BitVec.eq_of_toInt_eq
  rw [BitVec.toInt_smod]
  have h32 : (32 : BitVec 32).toInt = 32 := by decide
  rw [h32]
  show y.toInt.fmod 32 = y.toInt
  rw [Int.fmod_eq_emod_of_nonneg _ (by decide)]
  omega
theorem k_shl_to {x y : Int32} (h1 : 0 ≤ y.toInt) (h2 : y.toInt ≤ 31) : (x <<< y).toInt = ((x.toBitVec.toNat * 2 ^ y.toBitVec.toNat : Nat) : Int).bmod (2 ^ 32) := by
  have e : (x <<< y).toInt = (x.toBitVec <<< (y.toBitVec.smod 32)).toInt := rfl
  rw [e, k_smod h1 h2]
  have e2 : x.toBitVec <<< y.toBitVec = x.toBitVec <<< y.toBitVec.toNat := rfl
  rw [e2, BitVec.toInt_shiftLeft, Nat.shiftLeft_eq]
theorem k_shr_to {x y : Int32} (h1 : 0 ≤ y.toInt) (h2 : y.toInt ≤ 31) : (x >>> y).toInt = x.toInt / ((2 ^ y.toBitVec.toNat : Nat) : Int) := by
  have e : (x >>> y).toInt = (BitVec.sshiftRight' x.toBitVec (y.toBitVec.smod 32)).toInt := rfl
  rw [e, k_smod h1 h2]
  have e2 : BitVec.sshiftRight' x.toBitVec y.toBitVec = x.toBitVec.sshiftRight y.toBitVec.toNat := rfl
  rw [e2, BitVec.toInt_sshiftRight, Int.shiftRight_eq_div_pow]
  rfl
def k_shlI (p q : kB) : kB := if ((k_le 0 p.1 && k_le 0 q.1) && k_le q.2 30) = true then k_fit (p.1 * ((2 ^ q.1.toNat : Nat) : Int), p.2 * ((2 ^ q.2.toNat : Nat) : Int)) else k_top
def k_shrI (p q : kB) : kB := if ((k_eqi q.1 q.2 && k_le 0 q.1) && k_le q.2 31) = true then (p.1 / ((2 ^ q.1.toNat : Nat) : Int), p.2 / ((2 ^ q.1.toNat : Nat) : Int)) else k_top
theorem k_shlI_ok {p q : kB} {x y : Int32} (h : k_in p x.toInt) (h' : k_in q y.toInt) : k_in (k_shlI p q) (x <<< (y &&& 31)).toInt := by
  obtain ⟨a, b⟩ := h; obtain ⟨a', b'⟩ := h'
  unfold k_shlI
  split
  · rename_i c
    rw [Bool.and_eq_true, Bool.and_eq_true, k_le_iff, k_le_iff, k_le_iff] at c
    rw [k_and31 (by omega) (by omega)]
    obtain ⟨e1, l1⟩ := k_nat32 (x := x) (by omega)
    obtain ⟨e2, l2⟩ := k_nat32 (x := y) (by omega)
    refine k_fit_ok (k_shl_to (by omega) (by omega)) ⟨?_, ?_⟩
    · show p.1 * _ ≤ _
      have h1 : p.1 = ((p.1.toNat : Nat) : Int) := by omega
      rw [h1, ← Int.natCast_mul]
      exact Int.ofNat_le.mpr (Nat.mul_le_mul (by omega) (Nat.pow_le_pow_right (by decide) (by omega)))
    · show _ ≤ p.2 * _
      have h1 : p.2 = ((p.2.toNat : Nat) : Int) := by omega
      rw [h1, ← Int.natCast_mul]
      exact Int.ofNat_le.mpr (Nat.mul_le_mul (by omega) (Nat.pow_le_pow_right (by decide) (by omega)))
  · exact k_in_top _
theorem k_shrI_ok {p q : kB} {x y : Int32} (h : k_in p x.toInt) (h' : k_in q y.toInt) : k_in (k_shrI p q) (x >>> (y &&& 31)).toInt := by
  obtain ⟨a, b⟩ := h; obtain ⟨a', b'⟩ := h'
  unfold k_shrI
  split
  · rename_i c
    rw [Bool.and_eq_true, Bool.and_eq_true, k_eqi_iff, k_le_iff, k_le_iff] at c
    rw [k_and31 (by omega) (by omega)]
    obtain ⟨e2, l2⟩ := k_nat32 (x := y) (by omega)
    have hy : q.1.toNat = y.toBitVec.toNat := by omega
    rw [k_shr_to (by omega) (by omega), hy]
    have hpos : (0 : Int) < ((2 ^ y.toBitVec.toNat : Nat) : Int) := Int.ofNat_lt.mpr (Nat.pow_pos (by decide))
    exact ⟨Int.ediv_le_ediv hpos a, Int.ediv_le_ediv hpos b⟩
  · exact k_in_top _
end
section
/-! ===== the checker's words: operands, infos, states; what they say of a machine's state ===== -/
abbrev kOp : Type := Nat ⊕ Int
/-- an int between bounds | a long between bounds | a reference (may it be null; to cells of which tags) | one word of any kind -/
abbrev kInfo : Type := kB ⊕ (kB ⊕ ((Bool × List Nat) ⊕ Unit))
/-- a kind of cell: an object (class, infos of its fields) | an array (class of arrays, least and greatest length, infos of some places, of the others) -/
abbrev kDesc : Type := (Nat × List kInfo) ⊕ (Nat × Nat × Nat × List (Nat × Nat × kInfo) × kInfo)
abbrev kTau : Type := Nat → Option Nat
/-- classes' numbers; classes; classes of arrays; kinds of cells; where the world begins; invariants; what these look at -/
abbrev kE : Type := va_G × List vw_C × List (ClassId × FieldType) × List kDesc × Nat × (Nat → kTau → Heap → Prop) × (Nat → List (Nat × Nat))
def k_v (ρ : Nat → Option Value) : kOp → Option Value
  | .inl s => ρ s
  | .inr c => some (.int (Int32.ofInt c))
def k_ok (τ : kTau) : kInfo → Value → Prop
  | .inl q, v => ∃ x : Int32, v = .int x ∧ k_in q x.toInt
  | .inr (.inl q), v => ∃ x : Int64, v = .long x ∧ k_in q x.toInt
  | .inr (.inr (.inl q)), v => (q.1 = true ∧ v = .null) ∨ ∃ a t : Nat, v = .ref a ∧ t ∈ q.2 ∧ τ a = some t
  | .inr (.inr (.inr _)), v => v.category = 1
def k_get : List (Nat × kInfo) → Nat → Option kInfo
  | [], _ => none
  | q :: r, s => if Nat.beq q.1 s = true then some q.2 else k_get r s
def k_loc : List (Nat × kOp) → Nat → Option kOp
  | [], _ => none
  | q :: r, s => if Nat.beq q.1 s = true then some q.2 else k_loc r s
def k_fct : List (Nat × Nat × kOp) → Nat → Nat → Option kOp
  | [], _, _ => none
  | q :: r, s, k => if (Nat.beq q.1 s && Nat.beq q.2.1 k) = true then some q.2.2 else k_fct r s k
def k_ivl (env : List (Nat × kInfo)) : kOp → Option kB
  | .inr c => if (k_le (-2147483648) c && k_le c 2147483647) = true then some (c, c) else none
  | .inl s => match k_get env s with
    | some (.inl q) => some q
    | _ => none
def k_lvl (env : List (Nat × kInfo)) : kOp → Option kB
  | .inr _ => none
  | .inl s => match k_get env s with
    | some (.inr (.inl q)) => some q
    | _ => none
def k_rf (env : List (Nat × kInfo)) : kOp → Option (Bool × List Nat)
  | .inr _ => none
  | .inl s => match k_get env s with
    | some (.inr (.inr (.inl q))) => some q
    | _ => none
/-- a reference to a cell of one tag, not null: the symbol and the tag -/
def k_obj (env : List (Nat × kInfo)) : kOp → Option (Nat × Nat)
  | .inr _ => none
  | .inl s => match k_get env s with
    | some (.inr (.inr (.inl (false, [t])))) => some (s, t)
    | _ => none
abbrev kSt : Type := Nat × List (Nat × kInfo) × List (Nat × kOp) × List kOp × List (Nat × Nat × kOp) × List (Nat × Nat × Nat × Nat × Int) × List (Nat × Nat × kOp) × List Nat × List kOp
/-- which info a place of an array has -/
def k_el : List (Nat × Nat × kInfo) → kInfo → Nat → kInfo
  | [], d, _ => d
  | q :: r, d, j => if (Nat.ble q.1 j && Nat.ble j q.2.1) = true then q.2.2 else k_el r d j
def k_fld (E : kE) (H : Heap) (a ci k : Nat) : Option Value := (H[a]?).bind (fun c => c.slots[E.1.2 ci k]?)
def k_cell (E : kE) (τ : kTau) (a : Nat) (H : Heap) : kDesc → Prop
  | .inl q => ∃ vs : List Value, va_at E.1 E.2.1 (a, .inr (q.1, vs)) H ∧ vs.length = q.2.length ∧ ∀ (k : Nat) (x : kInfo), q.2[k]? = some x → ∃ v, vs[k]? = some v ∧ k_ok τ x v
  | .inr q => ∃ (cA : ClassId) (ty : FieldType) (n : Nat) (f : Nat → Value), E.2.2.1[q.1]? = some (cA, ty) ∧ H[a]? = some (arrV cA n f) ∧ q.2.1 ≤ n ∧ n ≤ q.2.2.1 ∧ ∀ j, j < n → k_ok τ (k_el q.2.2.2.1 q.2.2.2.2 j) (f j)
def k_HT (E : kE) (τ : kTau) (H : Heap) : Prop := ∀ a t : Nat, τ a = some t → E.2.2.2.2.1 ≤ a ∧ ∃ d, E.2.2.2.1[t]? = some d ∧ k_cell E τ a H d
/-- what stays: cells of no tag, fields and arrays that aren't among mods -/
def k_fr (E : kE) (τ : kTau) (mods : List (Nat × Nat)) (H H' : Heap) : Prop :=
  H.size ≤ H'.size ∧ (∀ a, a < H.size → τ a = none → H'[a]? = H[a]?) ∧ ∀ a t, τ a = some t →
    (∀ q, E.2.2.2.1[t]? = some (.inl q) → ∀ k, k < q.2.length → (t, k) ∉ mods → k_fld E H' a q.1 k = k_fld E H a q.1 k) ∧
    (∀ q, E.2.2.2.1[t]? = some (.inr q) → (t, 0) ∉ mods → H'[a]? = H[a]?)
def k_wk (E : kE) (τ : kTau) (mods : List (Nat × Nat)) (H0 H : Heap) (locs : List Loc) : Prop := k_fr E τ mods H0 H ∧ ∀ l ∈ locs, E.2.2.2.2.1 ≤ l.base
def k_fact (E : kE) (τ : kTau) (ρ : Nat → Option Value) (H : Heap) (q : Nat × Nat × kOp) : Prop :=
  ∃ (a t : Nat) (d : Nat × List kInfo) (v : Value), ρ q.1 = some (.ref a) ∧ τ a = some t ∧ E.2.2.2.1[t]? = some (.inl d) ∧ q.2.1 < d.2.length ∧ k_v ρ q.2.2 = some v ∧ k_fld E H a d.1 q.2.1 = some v
/-- (0, a, b, _, c): a = b + c; (1, a, b, ..): a < b; (4, a, b, b', _): a is the comparing of the longs b, b'; (5, a, b, ..): the long a is the int b; (6, a, b, b', _): a is the ints' sum b + b'; (7, a, ..): the long a is not 0 -/
def k_rel (ρ : Nat → Option Value) (q : Nat × Nat × Nat × Nat × Int) : Prop :=
  (q.1 = 0 → ∃ x y : Int32, ρ q.2.1 = some (.int x) ∧ ρ q.2.2.1 = some (.int y) ∧ x.toInt = y.toInt + q.2.2.2.2) ∧
  (q.1 = 1 → ∃ x y : Int32, ρ q.2.1 = some (.int x) ∧ ρ q.2.2.1 = some (.int y) ∧ x.toInt < y.toInt) ∧
  (q.1 = 4 → ∃ (z : Int32) (x y : Int64), ρ q.2.1 = some (.int z) ∧ ρ q.2.2.1 = some (.long x) ∧ ρ q.2.2.2.1 = some (.long y) ∧ z = lg_cmp x y) ∧
  (q.1 = 5 → ∃ (x : Int64) (y : Int32), ρ q.2.1 = some (.long x) ∧ ρ q.2.2.1 = some (.int y) ∧ x.toInt = y.toInt) ∧
  (q.1 = 6 → ∃ x y : Int32, ρ q.2.2.1 = some (.int x) ∧ ρ q.2.2.2.1 = some (.int y) ∧ ρ q.2.1 = some (.int (x + y))) ∧
  (q.1 = 7 → ∃ x : Int64, ρ q.2.1 = some (.long x) ∧ ¬ x = 0)
/-- of an array: (symbol, 0, its length), (symbol, j + 1, what stands in place j) -/
def k_len (E : kE) (τ : kTau) (ρ : Nat → Option Value) (H : Heap) (q : Nat × Nat × kOp) : Prop :=
  ∃ (a t : Nat) (d : Nat × Nat × Nat × List (Nat × Nat × kInfo) × kInfo) (cA : ClassId) (n : Nat) (f : Nat → Value) (v : Value), ρ q.1 = some (.ref a) ∧ τ a = some t ∧ E.2.2.2.1[t]? = some (.inr d) ∧ H[a]? = some (arrV cA n f) ∧ k_v ρ q.2.2 = some v ∧ (q.2.1 = 0 → ∃ y : Int32, v = .int y ∧ y.toInt = (n : Int)) ∧ ∀ j, q.2.1 = j + 1 → j < n ∧ f j = v
def k_env (τ : kTau) (ρ : Nat → Option Value) (env : List (Nat × kInfo)) : Prop := ∀ q ∈ env, ∃ v, ρ q.1 = some v ∧ k_ok τ q.2 v
/-- the state σ says this of a heap, locals and operand stack, under ρ -/
def k_R (E : kE) (nL : Nat) (τ : kTau) (vs : List Value) (ρ : Nat → Option Value) (H : Heap) (ls : Array Slot) (st : List Value) : kSt → Prop
  | (n, env, loc, stk, ff, rel, len, g, par) =>
    (∀ i, n ≤ i → ρ i = none) ∧ k_env τ ρ env ∧ (ls.size = nL ∧ lv_wf ls ∧ ∀ q ∈ loc, ∃ v, k_v ρ q.2 = some v ∧ ls[q.1]? = some (.val v)) ∧ stk.map (k_v ρ) = st.map some ∧
    (∀ q ∈ ff, k_fact E τ ρ H q) ∧ (∀ q ∈ rel, k_rel ρ q) ∧ (∀ q ∈ len, k_len E τ ρ H q) ∧ (∀ i ∈ g, E.2.2.2.2.2.1 i τ H) ∧ par.map (k_v ρ) = vs.map some
def k_le' (ρ ρ' : Nat → Option Value) : Prop := ∀ i v, ρ i = some v → ρ' i = some v
theorem k_v_up {ρ ρ' : Nat → Option Value} (h : k_le' ρ ρ') {o : kOp} {v : Value} (e : k_v ρ o = some v) : k_v ρ' o = some v := by
  cases o with
  | inl s => exact h s v e
  | inr c => exact e
theorem k_map_up {ρ ρ' : Nat → Option Value} (h : k_le' ρ ρ') : ∀ {l : List kOp} {vs : List Value}, l.map (k_v ρ) = vs.map some → l.map (k_v ρ') = vs.map some
  | [], vs, e => by simpa using e
  | o :: l, [], e => by simp at e
  | o :: l, v :: vs, e => by
    simp only [List.map_cons, List.cons.injEq] at e ⊢
    exact ⟨k_v_up h e.1, k_map_up h e.2⟩
theorem k_env_up {τ : kTau} {ρ ρ' : Nat → Option Value} (h : k_le' ρ ρ') {env : List (Nat × kInfo)} (e : k_env τ ρ env) : k_env τ ρ' env := fun q hq => by
  obtain ⟨v, h1, h2⟩ := e q hq
  exact ⟨v, h _ _ h1, h2⟩
theorem k_fact_up {E : kE} {τ : kTau} {ρ ρ' : Nat → Option Value} (h : k_le' ρ ρ') {H : Heap} {q : Nat × Nat × kOp} (e : k_fact E τ ρ H q) : k_fact E τ ρ' H q := by
  obtain ⟨a, t, d, v, h1, h2, h3, h4, h5, h6⟩ := e
  exact ⟨a, t, d, v, h _ _ h1, h2, h3, h4, k_v_up h h5, h6⟩
theorem k_rel_up {ρ ρ' : Nat → Option Value} (h : k_le' ρ ρ') {q : Nat × Nat × Nat × Nat × Int} (e : k_rel ρ q) : k_rel ρ' q := by
  obtain ⟨e0, e1, e4, e5, e6, e7⟩ := e
  refine ⟨fun z => ?_, fun z => ?_, fun z => ?_, fun z => ?_, fun z => ?_, fun z => ?_⟩
  · obtain ⟨x, y, h1, h2, h3⟩ := e0 z
    exact ⟨x, y, h _ _ h1, h _ _ h2, h3⟩
  · obtain ⟨x, y, h1, h2, h3⟩ := e1 z
    exact ⟨x, y, h _ _ h1, h _ _ h2, h3⟩
  · obtain ⟨w, x, y, h1, h2, h3, h4⟩ := e4 z
    exact ⟨w, x, y, h _ _ h1, h _ _ h2, h _ _ h3, h4⟩
  · obtain ⟨x, y, h1, h2, h3⟩ := e5 z
    exact ⟨x, y, h _ _ h1, h _ _ h2, h3⟩
  · obtain ⟨x, y, h1, h2, h3⟩ := e6 z
    exact ⟨x, y, h _ _ h1, h _ _ h2, h _ _ h3⟩
  · obtain ⟨x, h1, h2⟩ := e7 z
    exact ⟨x, h _ _ h1, h2⟩
theorem k_r0 {ρ : Nat → Option Value} {a b c : Nat} {k : Int} (h : ∃ x y : Int32, ρ a = some (.int x) ∧ ρ b = some (.int y) ∧ x.toInt = y.toInt + k) : k_rel ρ (0, a, b, c, k) := by
  refine ⟨fun _ => h, ?_, ?_, ?_, ?_, ?_⟩ <;> intro z <;> cases z
theorem k_r1 {ρ : Nat → Option Value} {a b c : Nat} {k : Int} (h : ∃ x y : Int32, ρ a = some (.int x) ∧ ρ b = some (.int y) ∧ x.toInt < y.toInt) : k_rel ρ (1, a, b, c, k) := by
  refine ⟨?_, fun _ => h, ?_, ?_, ?_, ?_⟩ <;> intro z <;> cases z
theorem k_r4 {ρ : Nat → Option Value} {a b c : Nat} {k : Int} (h : ∃ (z : Int32) (x y : Int64), ρ a = some (.int z) ∧ ρ b = some (.long x) ∧ ρ c = some (.long y) ∧ z = lg_cmp x y) : k_rel ρ (4, a, b, c, k) := by
  refine ⟨?_, ?_, fun _ => h, ?_, ?_, ?_⟩ <;> intro z <;> cases z
theorem k_r5 {ρ : Nat → Option Value} {a b c : Nat} {k : Int} (h : ∃ (x : Int64) (y : Int32), ρ a = some (.long x) ∧ ρ b = some (.int y) ∧ x.toInt = y.toInt) : k_rel ρ (5, a, b, c, k) := by
  refine ⟨?_, ?_, ?_, fun _ => h, ?_, ?_⟩ <;> intro z <;> cases z
theorem k_r6 {ρ : Nat → Option Value} {a b c : Nat} {k : Int} (h : ∃ x y : Int32, ρ b = some (.int x) ∧ ρ c = some (.int y) ∧ ρ a = some (.int (x + y))) : k_rel ρ (6, a, b, c, k) := by
  refine ⟨?_, ?_, ?_, ?_, fun _ => h, ?_⟩ <;> intro z <;> cases z
theorem k_r7 {ρ : Nat → Option Value} {a b c : Nat} {k : Int} (h : ∃ x : Int64, ρ a = some (.long x) ∧ ¬ x = 0) : k_rel ρ (7, a, b, c, k) := by
  refine ⟨?_, ?_, ?_, ?_, ?_, fun _ => h⟩ <;> intro z <;> cases z
theorem k_len_up {E : kE} {τ : kTau} {ρ ρ' : Nat → Option Value} (h : k_le' ρ ρ') {H : Heap} {q : Nat × Nat × kOp} (e : k_len E τ ρ H q) : k_len E τ ρ' H q := by
  obtain ⟨a, t, d, cA, n, f, y, h1, h2, h3, h4, h5, h6⟩ := e
  exact ⟨a, t, d, cA, n, f, y, h _ _ h1, h2, h3, h4, k_v_up h h5, h6⟩
/-- a new symbol -/
def k_ext (ρ : Nat → Option Value) (n : Nat) (v : Value) : Nat → Option Value := fun i => if i = n then some v else ρ i
theorem k_ext_le {ρ : Nat → Option Value} {n : Nat} {v : Value} (h : ∀ i, n ≤ i → ρ i = none) : k_le' ρ (k_ext ρ n v) := by
  intro i w hi
  unfold k_ext
  by_cases e : i = n
  · subst e
    rw [h i (Nat.le_refl _)] at hi
    cases hi
  · rw [if_neg e]; exact hi
theorem k_ext_at {ρ : Nat → Option Value} {n : Nat} {v : Value} : k_ext ρ n v n = some v := if_pos rfl
theorem k_ext_dom {ρ : Nat → Option Value} {n : Nat} {v : Value} (h : ∀ i, n ≤ i → ρ i = none) : ∀ i, n + 1 ≤ i → k_ext ρ n v i = none := by
  intro i hi
  unfold k_ext
  rw [if_neg (by omega)]
  exact h i (by omega)
theorem k_R_new {E : kE} {nL : Nat} {τ : kTau} {vs : List Value} {ρ : Nat → Option Value} {H : Heap} {ls : Array Slot} {st : List Value} {n : Nat} {env : List (Nat × kInfo)} {loc : List (Nat × kOp)} {stk : List kOp} {ff : List (Nat × Nat × kOp)} {rel : List (Nat × Nat × Nat × Nat × Int)} {len : List (Nat × Nat × kOp)} {g : List Nat} {par : List kOp}
    (h : k_R E nL τ vs ρ H ls st (n, env, loc, stk, ff, rel, len, g, par)) {x : kInfo} {v : Value} (hv : k_ok τ x v) :
    k_R E nL τ vs (k_ext ρ n v) H ls (v :: st) (n + 1, (n, x) :: env, loc, .inl n :: stk, ff, rel, len, g, par) := by
  obtain ⟨h1, h2, ⟨h3, h3', h3''⟩, h4, h5, h6, h7, h8, h9⟩ := h
  have hu := k_ext_le (v := v) h1
  refine ⟨k_ext_dom h1, ?_, ⟨h3, h3', fun q hq => by obtain ⟨w, w1, w2⟩ := h3'' q hq; exact ⟨w, k_v_up hu w1, w2⟩⟩, ?_, fun q hq => k_fact_up hu (h5 q hq), fun q hq => k_rel_up hu (h6 q hq), fun q hq => k_len_up hu (h7 q hq), h8, k_map_up hu h9⟩
  · intro q hq
    rcases List.mem_cons.mp hq with e | e
    · subst e
      exact ⟨v, k_ext_at, hv⟩
    · exact k_env_up hu h2 q e
  · simp only [List.map_cons, List.cons.injEq]
    exact ⟨k_ext_at, k_map_up hu h4⟩
theorem k_get_ok {τ : kTau} {ρ : Nat → Option Value} : ∀ {env : List (Nat × kInfo)} {s : Nat} {x : kInfo}, k_env τ ρ env → k_get env s = some x → ∃ v, ρ s = some v ∧ k_ok τ x v
  | [], s, x, _, e => by cases e
  | q :: r, s, x, h, e => by
    unfold k_get at e
    split at e
    · rename_i c
      cases e
      have : q.1 = s := Nat.eq_of_beq_eq_true c
      subst this
      exact h q List.mem_cons_self
    · exact k_get_ok (fun z hz => h z (List.mem_cons_of_mem _ hz)) e
theorem k_ivl_ok {τ : kTau} {ρ : Nat → Option Value} {env : List (Nat × kInfo)} {o : kOp} {q : kB} (h : k_env τ ρ env) (e : k_ivl env o = some q) : ∃ x : Int32, k_v ρ o = some (.int x) ∧ k_in q x.toInt := by
  cases o with
  | inr c =>
    unfold k_ivl at e
    dsimp only at e
    split at e
    · rename_i z
      rw [Bool.and_eq_true, k_le_iff, k_le_iff] at z
      cases e
      refine ⟨Int32.ofInt c, rfl, ?_⟩
      have : (Int32.ofInt c).toInt = c := by
        rw [Int32.toInt_ofInt]
        exact Int.bmod_eq_of_le (by show -(_ : Int) ≤ _; have : (Int32.size : Int) = 4294967296 := rfl; omega) (by have : (Int32.size : Int) = 4294967296 := rfl; omega)
      rw [this]
      exact ⟨Int.le_refl _, Int.le_refl _⟩
    · cases e
  | inl s =>
    unfold k_ivl at e
    dsimp only at e
    split at e
    · rename_i q' e'
      cases e
      obtain ⟨v, h1, x, h2, h3⟩ := k_get_ok h e'
      subst h2
      exact ⟨x, h1, h3⟩
    · cases e
theorem k_lvl_ok {τ : kTau} {ρ : Nat → Option Value} {env : List (Nat × kInfo)} {o : kOp} {q : kB} (h : k_env τ ρ env) (e : k_lvl env o = some q) : ∃ x : Int64, k_v ρ o = some (.long x) ∧ k_in q x.toInt := by
  cases o with
  | inr c => cases e
  | inl s =>
    unfold k_lvl at e
    dsimp only at e
    split at e
    · rename_i q' e'
      cases e
      obtain ⟨v, h1, x, h2, h3⟩ := k_get_ok h e'
      subst h2
      exact ⟨x, h1, h3⟩
    · cases e
theorem k_obj_ok {τ : kTau} {ρ : Nat → Option Value} {env : List (Nat × kInfo)} {o : kOp} {s t : Nat} (h : k_env τ ρ env) (e : k_obj env o = some (s, t)) : o = .inl s ∧ ∃ a : Nat, ρ s = some (.ref a) ∧ τ a = some t := by
  cases o with
  | inr c => cases e
  | inl s' =>
    unfold k_obj at e
    dsimp only at e
    split at e
    · rename_i t' e'
      cases e
      obtain ⟨v, h1, h2⟩ := k_get_ok h e'
      refine ⟨rfl, ?_⟩
      rcases h2 with ⟨h2, -⟩ | ⟨a, t2, h2, h3, h4⟩
      · cases h2
      · subst h2
        rw [List.mem_singleton.mp h3] at h4
        exact ⟨a, h1, h4⟩
    · cases e
end
section
/-! ===== the typed heap: reading, writing, what stays ===== -/
def k_m2 (t k : Nat) : List (Nat × Nat) → Bool
  | [] => false
  | q :: r => (Nat.beq q.1 t && Nat.beq q.2 k) || k_m2 t k r
theorem k_m2_iff {t k : Nat} : ∀ {l : List (Nat × Nat)}, k_m2 t k l = true ↔ (t, k) ∈ l
  | [] => by simp [k_m2]
  | q :: r => by
    unfold k_m2
    rw [Bool.or_eq_true, Bool.and_eq_true, k_m2_iff, List.mem_cons]
    constructor
    · rintro (⟨h1, h2⟩ | h)
      · left
        have e1 := Nat.eq_of_beq_eq_true h1
        have e2 := Nat.eq_of_beq_eq_true h2
        subst e1; subst e2; rfl
      · exact Or.inr h
    · rintro (h | h)
      · left
        subst h
        exact ⟨Nat.beq_refl _, Nat.beq_refl _⟩
      · exact Or.inr h
def k_sub2 (a b : List (Nat × Nat)) : Bool := a.all (fun q => k_m2 q.1 q.2 b)
theorem k_sub2_iff {a b : List (Nat × Nat)} : k_sub2 a b = true ↔ ∀ q ∈ a, q ∈ b := by
  unfold k_sub2
  rw [List.all_eq_true]
  exact ⟨fun h q hq => k_m2_iff.mp (h q hq), fun h q hq => k_m2_iff.mpr (h q hq)⟩
/-- of the kinds' table: an object's class has just its fields, their slots are apart -/
def k_Eok (E : kE) : Prop := (∀ (t : Nat) (q : Nat × List kInfo), E.2.2.2.1[t]? = some (.inl q) → ∃ r : vw_C, E.2.1[q.1]? = some r ∧ r.2.2 = q.2.length ∧ ∀ x y, x < q.2.length → y < q.2.length → x ≠ y → E.1.2 q.1 x ≠ E.1.2 q.1 y) ∧
  ∀ (i : Nat) (τ : kTau) (mods : List (Nat × Nat)) (H H' : Heap), (∀ q ∈ E.2.2.2.2.2.2 i, q ∉ mods) → k_fr E τ mods H H' → k_HT E τ H → E.2.2.2.2.2.1 i τ H → E.2.2.2.2.2.1 i τ H'
theorem k_fr_refl {E : kE} {τ : kTau} {mods : List (Nat × Nat)} {H : Heap} : k_fr E τ mods H H := ⟨Nat.le_refl _, fun _ _ _ => rfl, fun _ _ _ => ⟨fun _ _ _ _ _ => rfl, fun _ _ _ => rfl⟩⟩
theorem k_fr_trans {E : kE} {τ : kTau} {m1 m2 : List (Nat × Nat)} {H H1 H2 : Heap} (h1 : k_fr E τ m1 H H1) (h2 : k_fr E τ m2 H1 H2) (hs : ∀ q ∈ m2, q ∈ m1) : k_fr E τ m1 H H2 := by
  obtain ⟨a1, b1, c1⟩ := h1
  obtain ⟨a2, b2, c2⟩ := h2
  refine ⟨Nat.le_trans a1 a2, fun a ha hn => (b2 a (Nat.lt_of_lt_of_le ha a1) hn).trans (b1 a ha hn), fun a t ht => ⟨fun q hq k hk hm => ?_, fun q hq hm => ?_⟩⟩
  · exact ((c2 a t ht).1 q hq k hk (fun z => hm (hs _ z))).trans ((c1 a t ht).1 q hq k hk hm)
  · exact ((c2 a t ht).2 q hq (fun z => hm (hs _ z))).trans ((c1 a t ht).2 q hq hm)
theorem k_cell_kept {E : kE} {τ : kTau} {a : Nat} {H H' : Heap} {d : kDesc} (h : k_cell E τ a H d) (hq : H'[a]? = H[a]?) : k_cell E τ a H' d := by
  cases d with
  | inl q =>
    obtain ⟨vs, h1, h2⟩ := h
    exact ⟨vs, va_at.kept h1 hq, h2⟩
  | inr q =>
    obtain ⟨cA, ty, n, f, h1, h2, h3⟩ := h
    exact ⟨cA, ty, n, f, h1, by rw [hq]; exact h2, h3⟩
theorem k_HT_set {E : kE} {τ : kTau} {a t : Nat} {H H' : Heap} {d : kDesc} (h : k_HT E τ H) (ht : τ a = some t) (hd : E.2.2.2.1[t]? = some d) (hc : k_cell E τ a H' d) (oq : ∀ q : Nat, q ≠ a → H'[q]? = H[q]?) : k_HT E τ H' := by
  intro b t' hb
  by_cases e : b = a
  · subst e
    have : t' = t := Option.some.inj (hb.symm.trans ht)
    subst this
    exact ⟨(h b t' hb).1, d, hd, hc⟩
  · obtain ⟨h1, d', h2, h3⟩ := h b t' hb
    exact ⟨h1, d', h2, k_cell_kept h3 (oq b e)⟩
/-- reading a field: what stands there, and the cell as the kit's rows want it -/
theorem k_read {E : kE} {τ : kTau} {a t k : Nat} {H : Heap} {q : Nat × List kInfo} (hE : k_Eok E) (h : k_HT E τ H) (ht : τ a = some t) (hd : E.2.2.2.1[t]? = some (.inl q)) (hk : k < q.2.length) :
    ∃ (v : Value) (cell : Cell) (x : kInfo), q.2[k]? = some x ∧ k_ok τ x v ∧ H[a]? = some cell ∧ cell.cls = E.1.1 q.1 ∧ cell.vm = .none ∧ cell.slots[E.1.2 q.1 k]? = some v ∧ k_fld E H a q.1 k = some v := by
  obtain ⟨-, d, h2, h3⟩ := h a t ht
  rw [hd] at h2
  cases h2
  obtain ⟨vs, ⟨r, g1, cell, g2, g3, g4, g5⟩, g6, g7⟩ := h3
  obtain ⟨r', e1, e2, e3⟩ := hE.1 t q hd
  have er : r' = r := Option.some.inj (e1.symm.trans g1)
  subst er
  have hx : q.2[k]? = some q.2[k] := List.getElem?_eq_getElem hk
  obtain ⟨v, hv, hok⟩ := g7 k _ hx
  have hs : cell.slots[E.1.2 q.1 k]? = some v := by
    have := g5 k (by rw [e2]; exact hk)
    rw [this]
    simp [vp_V, hv]
  refine ⟨v, cell, _, hx, hok, g2, g3, g4, hs, ?_⟩
  unfold k_fld
  rw [g2]
  exact hs
/-- a field is written -/
theorem k_write {E : kE} {τ : kTau} {a t k : Nat} {H H' : Heap} {q : Nat × List kInfo} {cell : Cell} {v : Value} {x : kInfo} (hE : k_Eok E) (h : k_HT E τ H) (ht : τ a = some t) (hd : E.2.2.2.1[t]? = some (.inl q)) (hx : q.2[k]? = some x) (hv : k_ok τ x v)
    (hc : H[a]? = some cell) (e1 : H'[a]? = some (cell.setSlot (E.1.2 q.1 k) v)) (e2 : H'.size = H.size) (e3 : ∀ b : Nat, b ≠ a → H'[b]? = H[b]?) :
    k_HT E τ H' ∧ k_fr E τ [(t, k)] H H' ∧ k_fld E H' a q.1 k = some v := by
  have hk : k < q.2.length := (List.getElem?_eq_some_iff.mp hx).1
  obtain ⟨-, d, h2, h3⟩ := h a t ht
  rw [hd] at h2
  cases h2
  obtain ⟨vs, ⟨r, g1, cell', g2, g3, g4, g5⟩, g6, g7⟩ := h3
  have ec : cell' = cell := Option.some.inj (g2.symm.trans hc)
  subst ec
  obtain ⟨r', f1, f2, f3⟩ := hE.1 t q hd
  have er : r' = r := Option.some.inj (f1.symm.trans g1)
  subst er
  have hap : ∀ x y, x < r'.2.2 → y < r'.2.2 → x ≠ y → E.1.2 q.1 x ≠ E.1.2 q.1 y := by rw [f2]; exact f3
  have hsl := t_set g5 hap (k := k) (by rw [f2]; exact hk) v
  have hlen : k < vs.length := by rw [g6]; exact hk
  have hat : va_at E.1 E.2.1 (a, .inr (q.1, vs.set k v)) H' := ⟨r', g1, t_OB.to (V := updV (vp_V vs) k v) ⟨_, e1, g3, g4, hsl⟩ (fun j _ => vp_updV_set hlen v j)⟩
  have hfa : k_fld E H' a q.1 k = some v := by
    unfold k_fld
    rw [e1]
    have := hsl k (by rw [f2]; exact hk)
    simpa [updV] using this
  refine ⟨k_HT_set h ht hd ⟨vs.set k v, hat, by rw [List.length_set]; exact g6, fun j y hj => ?_⟩ e3, ⟨Nat.le_of_eq e2.symm, fun b hb hn => ?_, fun b t' hb => ⟨fun q' hq' j hj hm => ?_, fun q' hq' hm => ?_⟩⟩, hfa⟩
  · by_cases e : j = k
    · subst e
      rw [hx] at hj
      cases hj
      exact ⟨v, by rw [List.getElem?_set_self hlen], hv⟩
    · obtain ⟨w, w1, w2⟩ := g7 j y hj
      exact ⟨w, by rw [List.getElem?_set_ne (Ne.symm e)]; exact w1, w2⟩
  · exact e3 b (fun z => by rw [z, ht] at hn; cases hn)
  · by_cases e : b = a
    · subst e
      have et : t' = t := Option.some.inj (hb.symm.trans ht)
      subst et
      rw [hd] at hq'
      cases hq'
      have hjk : j ≠ k := fun z => hm (by rw [z]; exact List.mem_singleton.mpr rfl)
      unfold k_fld
      rw [e1, hc]
      have w1 := hsl j (by rw [f2]; exact hj)
      have w2 := g5 j (by rw [f2]; exact hj)
      simp only [Option.bind_some]
      rw [w1, w2]
      simp [updV, hjk]
    · unfold k_fld
      rw [e3 b e]
  · by_cases e : b = a
    · subst e
      have et : t' = t := Option.some.inj (hb.symm.trans ht)
      subst et
      rw [hd] at hq'
      cases hq'
    · exact e3 b e
theorem k_arr {E : kE} {τ : kTau} {a t : Nat} {H : Heap} {q : Nat × Nat × Nat × List (Nat × Nat × kInfo) × kInfo} (h : k_HT E τ H) (ht : τ a = some t) (hd : E.2.2.2.1[t]? = some (.inr q)) :
    ∃ (cA : ClassId) (ty : FieldType) (n : Nat) (f : Nat → Value), E.2.2.1[q.1]? = some (cA, ty) ∧ H[a]? = some (arrV cA n f) ∧ q.2.1 ≤ n ∧ n ≤ q.2.2.1 ∧ ∀ j, j < n → k_ok τ (k_el q.2.2.2.1 q.2.2.2.2 j) (f j) := by
  obtain ⟨-, d, h2, h3⟩ := h a t ht
  rw [hd] at h2
  cases h2
  exact h3
/-- a place of an array is written -/
theorem k_awrite {E : kE} {τ : kTau} {a t j : Nat} {H H' : Heap} {q : Nat × Nat × Nat × List (Nat × Nat × kInfo) × kInfo} {cA : ClassId} {ty : FieldType} {n : Nat} {f : Nat → Value} {v : Value} (h : k_HT E τ H) (ht : τ a = some t) (hd : E.2.2.2.1[t]? = some (.inr q))
    (h1 : E.2.2.1[q.1]? = some (cA, ty)) (hc : H[a]? = some (arrV cA n f)) (hl : q.2.1 ≤ n) (hu : n ≤ q.2.2.1) (hf : ∀ j, j < n → k_ok τ (k_el q.2.2.2.1 q.2.2.2.2 j) (f j)) (hv : k_ok τ (k_el q.2.2.2.1 q.2.2.2.2 j) v)
    (e1 : H'[a]? = some ((arrV cA n f).setSlot j v)) (e2 : H'.size = H.size) (e3 : ∀ b : Nat, b ≠ a → H'[b]? = H[b]?) :
    k_HT E τ H' ∧ k_fr E τ [(t, 0)] H H' := by
  rw [arrV_store] at e1
  refine ⟨k_HT_set h ht hd ⟨cA, ty, n, updV f j v, h1, e1, hl, hu, fun i hi => ?_⟩ e3, ⟨Nat.le_of_eq e2.symm, fun b hb hn => ?_, fun b t' hb => ⟨fun q' hq' i hi hm => ?_, fun q' hq' hm => ?_⟩⟩⟩
  · unfold updV
    by_cases e : i = j
    · rw [if_pos e, e]; exact hv
    · rw [if_neg e]; exact hf i hi
  · exact e3 b (fun z => by rw [z, ht] at hn; cases hn)
  · by_cases e : b = a
    · subst e
      have et : t' = t := Option.some.inj (hb.symm.trans ht)
      subst et
      rw [hd] at hq'
      cases hq'
    · unfold k_fld
      rw [e3 b e]
  · by_cases e : b = a
    · subst e
      have et : t' = t := Option.some.inj (hb.symm.trans ht)
      subst et
      exact absurd (List.mem_singleton.mpr rfl) hm
    · exact e3 b e
/-- which facts on fields are kept where mods may change -/
def k_keep (env : List (Nat × kInfo)) (mods : List (Nat × Nat)) (ff : List (Nat × Nat × kOp)) : List (Nat × Nat × kOp) := ff.filter (fun q => match k_obj env (.inl q.1) with
  | some p => !(k_m2 p.2 q.2.1 mods)
  | none => false)
theorem k_keep_ok {E : kE} {τ : kTau} {ρ : Nat → Option Value} {env : List (Nat × kInfo)} {mods : List (Nat × Nat)} {ff : List (Nat × Nat × kOp)} {H H' : Heap} (he : k_env τ ρ env) (h : ∀ q ∈ ff, k_fact E τ ρ H q) (hf : k_fr E τ mods H H') : ∀ q ∈ k_keep env mods ff, k_fact E τ ρ H' q := by
  intro q hq
  unfold k_keep at hq
  rw [List.mem_filter] at hq
  obtain ⟨h1, h2⟩ := hq
  obtain ⟨a, t, d, v, g1, g2, g3, g4, g5, g6⟩ := h q h1
  split at h2
  · rename_i p e
    obtain ⟨-, a', e1, e2⟩ := k_obj_ok (s := p.1) (t := p.2) he e
    have hs : (Sum.inl q.1 : kOp) = .inl p.1 := (k_obj_ok (s := p.1) (t := p.2) he e).1
    have hs' : q.1 = p.1 := Sum.inl.inj hs
    rw [← hs', g1] at e1
    have ea : a = a' := by
      have := Option.some.inj e1
      exact Value.ref.inj this
    subst ea
    have et : t = p.2 := Option.some.inj (g2.symm.trans e2)
    subst et
    have hm : (p.2, q.2.1) ∉ mods := fun z => by
      rw [k_m2_iff.mpr z] at h2
      cases h2
    exact ⟨a, p.2, d, v, g1, g2, g3, g4, g5, by rw [(hf.2.2 a p.2 g2).1 d g3 q.2.1 g4 hm]; exact g6⟩
  · cases h2
/-- which facts on arrays are kept -/
def k_keepA (env : List (Nat × kInfo)) (mods : List (Nat × Nat)) (len : List (Nat × Nat × kOp)) : List (Nat × Nat × kOp) := len.filter (fun q => match k_obj env (.inl q.1) with
  | some p => !(k_m2 p.2 0 mods)
  | none => false)
theorem k_keepA_ok {E : kE} {τ : kTau} {ρ : Nat → Option Value} {env : List (Nat × kInfo)} {mods : List (Nat × Nat)} {len : List (Nat × Nat × kOp)} {H H' : Heap} (he : k_env τ ρ env) (h : ∀ q ∈ len, k_len E τ ρ H q) (hf : k_fr E τ mods H H') : ∀ q ∈ k_keepA env mods len, k_len E τ ρ H' q := by
  intro q hq
  unfold k_keepA at hq
  rw [List.mem_filter] at hq
  obtain ⟨q1, q2⟩ := hq
  obtain ⟨a, t, d, cA, n, f, y, h1, h2, h3, h4, h5, h6⟩ := h q q1
  split at q2
  · rename_i p e
    obtain ⟨hs, a', e1, e2⟩ := k_obj_ok (s := p.1) (t := p.2) he e
    have hs' : q.1 = p.1 := Sum.inl.inj hs
    rw [← hs', h1] at e1
    have ea : a = a' := Value.ref.inj (Option.some.inj e1)
    subst ea
    have et : t = p.2 := Option.some.inj (h2.symm.trans e2)
    subst et
    have hm : (p.2, 0) ∉ mods := fun z => by
      rw [k_m2_iff.mpr z] at q2
      cases q2
    exact ⟨a, p.2, d, cA, n, f, y, h1, h2, h3, by rw [(hf.2.2 a p.2 h2).2 d h3 hm]; exact h4, h5, h6⟩
  · cases q2
/-- which invariants are kept -/
def k_gk (GS : Nat → List (Nat × Nat)) (mods : List (Nat × Nat)) (g : List Nat) : List Nat := g.filter (fun i => (GS i).all (fun q => !(k_m2 q.1 q.2 mods)))
theorem k_gk_ok {E : kE} {τ : kTau} {mods : List (Nat × Nat)} {g : List Nat} {H H' : Heap} (hE : k_Eok E) (hH : k_HT E τ H) (hf : k_fr E τ mods H H') (h : ∀ i ∈ g, E.2.2.2.2.2.1 i τ H) : ∀ i ∈ k_gk E.2.2.2.2.2.2 mods g, E.2.2.2.2.2.1 i τ H' := by
  intro i hi
  unfold k_gk at hi
  rw [List.mem_filter, List.all_eq_true] at hi
  refine hE.2 i τ mods H H' (fun q hq hm => ?_) hf hH (h i hi.1)
  have := hi.2 q hq
  rw [k_m2_iff.mpr hm] at this
  cases this
end
section
/-! ===== infos: one within another, both at once, what a comparing tells ===== -/
def k_mem1 (t : Nat) : List Nat → Bool
  | [] => false
  | a :: r => Nat.beq a t || k_mem1 t r
theorem k_mem1_iff {t : Nat} : ∀ {l : List Nat}, k_mem1 t l = true ↔ t ∈ l
  | [] => by simp [k_mem1]
  | a :: r => by
    unfold k_mem1
    rw [Bool.or_eq_true, k_mem1_iff, List.mem_cons]
    constructor
    · rintro (h | h)
      · exact Or.inl (Nat.eq_of_beq_eq_true h).symm
      · exact Or.inr h
    · rintro (h | h)
      · exact Or.inl (by rw [h]; exact Nat.beq_refl _)
      · exact Or.inr h
def k_sub1 (a b : List Nat) : Bool := a.all (fun t => k_mem1 t b)
theorem k_sub1_iff {a b : List Nat} : k_sub1 a b = true ↔ ∀ t ∈ a, t ∈ b := by
  unfold k_sub1
  rw [List.all_eq_true]
  exact ⟨fun h q hq => k_mem1_iff.mp (h q hq), fun h q hq => k_mem1_iff.mpr (h q hq)⟩
def k_bw (p q : kB) : Bool := k_le q.1 p.1 && k_le p.2 q.2
theorem k_bw_ok {p q : kB} {z : Int} (e : k_bw p q = true) (h : k_in p z) : k_in q z := by
  unfold k_bw at e
  rw [Bool.and_eq_true, k_le_iff, k_le_iff] at e
  exact ⟨Int.le_trans e.1 h.1, Int.le_trans h.2 e.2⟩
/-- x says no less than y -/
def k_isub : kInfo → kInfo → Bool
  | .inl p, .inl q => k_bw p q
  | .inr (.inl p), .inr (.inl q) => k_bw p q
  | .inr (.inr (.inl p)), .inr (.inr (.inl q)) => (!p.1 || q.1) && k_sub1 p.2 q.2
  | .inl _, .inr (.inr (.inr _)) => true
  | .inr (.inr _), .inr (.inr (.inr _)) => true
  | _, _ => false
theorem k_isub_ok {τ : kTau} {x y : kInfo} {v : Value} (e : k_isub x y = true) (h : k_ok τ x v) : k_ok τ y v := by
  unfold k_isub at e
  split at e
  · obtain ⟨z, h1, h2⟩ := h
    exact ⟨z, h1, k_bw_ok e h2⟩
  · obtain ⟨z, h1, h2⟩ := h
    exact ⟨z, h1, k_bw_ok e h2⟩
  · rename_i p q
    rw [Bool.and_eq_true, Bool.or_eq_true, k_sub1_iff] at e
    rcases h with ⟨h1, h2⟩ | ⟨a, t, h1, h2, h3⟩
    · left
      rcases e.1 with e1 | e1
      · rw [h1] at e1; cases e1
      · exact ⟨e1, h2⟩
    · exact Or.inr ⟨a, t, h1, e.2 t h2, h3⟩
  · obtain ⟨z, h1, h2⟩ := h
    subst h1
    rfl
  · rename_i p q
    cases p with
    | inl p =>
      rcases h with ⟨h1, h2⟩ | ⟨a, t, h1, h2, h3⟩
      · subst h2; rfl
      · subst h1; rfl
    | inr p => exact h
  · cases e
def k_opinfo (env : List (Nat × kInfo)) : kOp → Option kInfo
  | .inl s => k_get env s
  | .inr c => if (k_le (-2147483648) c && k_le c 2147483647) = true then some (.inl (c, c)) else none
theorem k_opinfo_ok {τ : kTau} {ρ : Nat → Option Value} {env : List (Nat × kInfo)} {o : kOp} {x : kInfo} (h : k_env τ ρ env) (e : k_opinfo env o = some x) : ∃ v, k_v ρ o = some v ∧ k_ok τ x v := by
  cases o with
  | inl s => exact k_get_ok h e
  | inr c =>
    unfold k_opinfo at e
    dsimp only at e
    split at e
    · rename_i z
      cases e
      obtain ⟨y, h1, h2⟩ := k_ivl_ok (o := .inr c) (q := (c, c)) h (by unfold k_ivl; dsimp only; rw [if_pos z])
      exact ⟨_, h1, y, rfl, h2⟩
    · cases e
def k_has (env : List (Nat × kInfo)) (o : kOp) (y : kInfo) : Bool := match k_opinfo env o with
  | some x => k_isub x y
  | none => false
theorem k_has_ok {τ : kTau} {ρ : Nat → Option Value} {env : List (Nat × kInfo)} {o : kOp} {y : kInfo} (h : k_env τ ρ env) (e : k_has env o y = true) : ∃ v, k_v ρ o = some v ∧ k_ok τ y v := by
  unfold k_has at e
  split at e
  · rename_i x e'
    obtain ⟨v, h1, h2⟩ := k_opinfo_ok h e'
    exact ⟨v, h1, k_isub_ok e h2⟩
  · cases e
def k_meetB (p q : kB) : Option kB := if k_le (k_max p.1 q.1) (k_min p.2 q.2) = true then some (k_max p.1 q.1, k_min p.2 q.2) else none
theorem k_meetB_ok {p q : kB} {z : Int} (h1 : k_in p z) (h2 : k_in q z) : ∃ r, k_meetB p q = some r ∧ k_in r z := by
  have a := k_max_le h1.1 h2.1
  have b := k_min_le h1.2 h2.2
  refine ⟨(k_max p.1 q.1, k_min p.2 q.2), ?_, ⟨a, b⟩⟩
  unfold k_meetB
  rw [if_pos (k_le_iff.mpr (Int.le_trans a b))]
def k_meet : kInfo → kInfo → Option kInfo
  | .inl p, .inl q => match k_meetB p q with
    | some r => some (.inl r)
    | none => none
  | .inr (.inl p), .inr (.inl q) => match k_meetB p q with
    | some r => some (.inr (.inl r))
    | none => none
  | .inr (.inr (.inl p)), .inr (.inr (.inl q)) => some (.inr (.inr (.inl (p.1 && q.1, p.2.filter (fun t => k_mem1 t q.2)))))
  | x, _ => some x
theorem k_meet_ok {τ : kTau} {x y : kInfo} {v : Value} (h1 : k_ok τ x v) (h2 : k_ok τ y v) : ∃ z, k_meet x y = some z ∧ k_ok τ z v := by
  unfold k_meet
  split
  · rename_i p q
    obtain ⟨a, e1, a1⟩ := h1
    obtain ⟨b, e2, b1⟩ := h2
    subst e1
    have : a = b := Value.int.inj e2
    subst this
    obtain ⟨r, hr, hr2⟩ := k_meetB_ok a1 b1
    rw [hr]
    exact ⟨_, rfl, a, rfl, hr2⟩
  · rename_i p q
    obtain ⟨a, e1, a1⟩ := h1
    obtain ⟨b, e2, b1⟩ := h2
    subst e1
    have : a = b := Value.long.inj e2
    subst this
    obtain ⟨r, hr, hr2⟩ := k_meetB_ok a1 b1
    rw [hr]
    exact ⟨_, rfl, a, rfl, hr2⟩
  · rename_i p q
    refine ⟨_, rfl, ?_⟩
    rcases h1 with ⟨g1, g2⟩ | ⟨a, t, g1, g2, g3⟩
    · rcases h2 with ⟨f1, f2⟩ | ⟨a', t', f1, f2, f3⟩
      · exact Or.inl ⟨by show (p.1 && q.1) = true; rw [g1, f1]; rfl, g2⟩
      · rw [g2] at f1; cases f1
    · rcases h2 with ⟨f1, f2⟩ | ⟨a', t', f1, f2, f3⟩
      · rw [g1] at f2; cases f2
      · rw [g1] at f1
        have ea : a = a' := Value.ref.inj f1
        subst ea
        have et : t = t' := Option.some.inj (g3.symm.trans f3)
        subst et
        exact Or.inr ⟨a, t, g1, List.mem_filter.mpr ⟨g2, k_mem1_iff.mpr f2⟩, g3⟩
  · exact ⟨_, rfl, h1⟩
/-- a symbol is said to be y too; none: that can't be -/
def k_refS (env : List (Nat × kInfo)) (s : Nat) (y : kInfo) : Option (kInfo × List (Nat × kInfo)) := match k_get env s with
  | some x => match k_meet x y with
    | some z => some (z, (s, z) :: env)
    | none => none
  | none => some (y, (s, y) :: env)
theorem k_refS_ok {τ : kTau} {ρ : Nat → Option Value} {env : List (Nat × kInfo)} {s : Nat} {y : kInfo} {v : Value} (h : k_env τ ρ env) (hs : ρ s = some v) (hy : k_ok τ y v) : ∃ r, k_refS env s y = some r ∧ k_env τ ρ r.2 ∧ k_ok τ r.1 v := by
  unfold k_refS
  split
  · rename_i x e
    obtain ⟨w, h1, h2⟩ := k_get_ok h e
    have : w = v := Option.some.inj (h1.symm.trans hs)
    subst this
    obtain ⟨z, hz, hz2⟩ := k_meet_ok h2 hy
    rw [hz]
    refine ⟨_, rfl, fun q hq => ?_, hz2⟩
    rcases List.mem_cons.mp hq with e | e
    · subst e; exact ⟨w, hs, hz2⟩
    · exact h q e
  · refine ⟨_, rfl, fun q hq => ?_, hy⟩
    rcases List.mem_cons.mp hq with e | e
    · subst e; exact ⟨v, hs, hy⟩
    · exact h q e
def k_ref1 (env : List (Nat × kInfo)) (s : Nat) (y : kInfo) : List (Nat × kInfo) := match k_refS env s y with
  | some r => r.2
  | none => env
theorem k_ref1_ok {τ : kTau} {ρ : Nat → Option Value} {env : List (Nat × kInfo)} {s : Nat} {y : kInfo} {v : Value} (h : k_env τ ρ env) (hs : ρ s = some v) (hy : k_ok τ y v) : k_env τ ρ (k_ref1 env s y) := by
  obtain ⟨r, h1, h2, -⟩ := k_refS_ok h hs hy
  unfold k_ref1
  rw [h1]
  exact h2
/-- of a sum of two ints that doesn't run over: what is told of it is told of both -/
def k_psum (env : List (Nat × kInfo)) (b : kB) (x y : Nat) : List (Nat × kInfo) := match k_ivl env (.inl x), k_ivl env (.inl y) with
  | some p, some r => if (k_le (-2147483648) (p.1 + r.1) && k_le (p.2 + r.2) 2147483647) = true then k_ref1 (k_ref1 env x (.inl (b.1 - r.2, b.2 - r.1))) y (.inl (b.1 - p.2, b.2 - p.1)) else env
  | _, _ => env
theorem k_psum_ok {τ : kTau} {ρ : Nat → Option Value} {env : List (Nat × kInfo)} {b : kB} {x y : Nat} {u w : Int32} (h : k_env τ ρ env) (hx : ρ x = some (.int u)) (hy : ρ y = some (.int w)) (hb : k_in b (u + w).toInt) : k_env τ ρ (k_psum env b x y) := by
  unfold k_psum
  split
  · rename_i p r hp hr
    split
    · rename_i c
      rw [Bool.and_eq_true, k_le_iff, k_le_iff] at c
      obtain ⟨u', h1, h2⟩ := k_ivl_ok h hp
      obtain ⟨w', h3, h4⟩ := k_ivl_ok h hr
      have e1 : u' = u := by
        have := h1.symm.trans hx
        cases this
        rfl
      have e2 : w' = w := by
        have := h3.symm.trans hy
        cases this
        rfl
      subst e1; subst e2
      have p1 := h2.1
      have p2 := h2.2
      have r1 := h4.1
      have r2 := h4.2
      have hs : (u' + w').toInt = u'.toInt + w'.toInt := by
        rw [Int32.toInt_add]
        exact Int.bmod_eq_of_le (by omega) (by omega)
      rw [hs] at hb
      have b1 := hb.1
      have b2 := hb.2
      refine k_ref1_ok (k_ref1_ok h hx ⟨u', rfl, ?_, ?_⟩) hy ⟨w', rfl, ?_, ?_⟩
      · show b.1 - r.2 ≤ _; omega
      · show _ ≤ b.2 - r.1; omega
      · show b.1 - p.2 ≤ _; omega
      · show _ ≤ b.2 - p.1; omega
    · exact h
  · exact h
/-- what is told of s is told of what s was made of -/
def k_prop (s : Nat) (z : kInfo) : List (Nat × Nat × Nat × Nat × Int) → List (Nat × kInfo) → List (Nat × kInfo)
  | [], env => env
  | q :: r, env => k_prop s z r (match z with
    | .inl b => if (Nat.beq q.1 0 && Nat.beq q.2.1 s) = true then k_ref1 env q.2.2.1 (.inl (b.1 - q.2.2.2.2, b.2 - q.2.2.2.2)) else if (Nat.beq q.1 6 && Nat.beq q.2.1 s) = true then k_psum env b q.2.2.1 q.2.2.2.1 else env
    | .inr (.inl b) => if (Nat.beq q.1 5 && Nat.beq q.2.1 s) = true then k_ref1 env q.2.2.1 (.inl b) else env
    | _ => env)
theorem k_prop_ok {τ : kTau} {ρ : Nat → Option Value} {s : Nat} {z : kInfo} {v : Value} (hs : ρ s = some v) (hz : k_ok τ z v) : ∀ {rel : List (Nat × Nat × Nat × Nat × Int)} {env : List (Nat × kInfo)}, (∀ q ∈ rel, k_rel ρ q) → k_env τ ρ env → k_env τ ρ (k_prop s z rel env)
  | [], env, _, h => h
  | q :: r, env, hr, h => by
    unfold k_prop
    refine k_prop_ok hs hz (fun x hx => hr x (List.mem_cons_of_mem _ hx)) ?_
    split
    · rename_i b
      split
      · rename_i c
        rw [Bool.and_eq_true] at c
        have c1 := Nat.eq_of_beq_eq_true c.1
        have c2 := Nat.eq_of_beq_eq_true c.2
        obtain ⟨x, y, e1, e2, e3⟩ := (hr q List.mem_cons_self).1 c1
        rw [c2, hs] at e1
        cases e1
        obtain ⟨x', f1, f2⟩ := hz
        cases f1
        exact k_ref1_ok h e2 ⟨y, rfl, by show _ - _ ≤ _; have := f2.1; omega, by show _ ≤ _ - _; have := f2.2; omega⟩
      · split
        · rename_i c
          rw [Bool.and_eq_true] at c
          have c1 := Nat.eq_of_beq_eq_true c.1
          have c2 := Nat.eq_of_beq_eq_true c.2
          obtain ⟨x, y, e1, e2, e3⟩ := (hr q List.mem_cons_self).2.2.2.2.1 c1
          rw [c2, hs] at e3
          cases e3
          obtain ⟨x', f1, f2⟩ := hz
          cases f1
          exact k_psum_ok h e1 e2 f2
        · exact h
    · rename_i b
      split
      · rename_i c
        rw [Bool.and_eq_true] at c
        have c1 := Nat.eq_of_beq_eq_true c.1
        have c2 := Nat.eq_of_beq_eq_true c.2
        obtain ⟨x, y, e1, e2, e3⟩ := (hr q List.mem_cons_self).2.2.2.1 c1
        rw [c2, hs] at e1
        cases e1
        obtain ⟨x', f1, f2⟩ := hz
        cases f1
        exact k_ref1_ok h e2 ⟨y, rfl, by rw [← e3]; exact f2⟩
      · exact h
    · exact h
/-- an operand is said to be y too -/
def k_refO (rel : List (Nat × Nat × Nat × Nat × Int)) (env : List (Nat × kInfo)) (o : kOp) (y : kInfo) : Option (List (Nat × kInfo)) := match o with
  | .inl s => match k_refS env s y with
    | some r => some (k_prop s r.1 rel r.2)
    | none => none
  | .inr c => match y with
    | .inl b => if (k_le b.1 c && k_le c b.2) = true then some env else none
    | _ => some env
theorem k_refO_ok {τ : kTau} {ρ : Nat → Option Value} {rel : List (Nat × Nat × Nat × Nat × Int)} {env : List (Nat × kInfo)} {o : kOp} {y : kInfo} {v : Value} (hr : ∀ q ∈ rel, k_rel ρ q) (h : k_env τ ρ env) (ho : k_v ρ o = some v) (hy : k_ok τ y v) (hc : ∀ c, o = .inr c → (Int32.ofInt c).toInt = c) : ∃ r, k_refO rel env o y = some r ∧ k_env τ ρ r := by
  cases o with
  | inl s =>
    obtain ⟨r, h1, h2, h3⟩ := k_refS_ok h ho hy
    refine ⟨k_prop s r.1 rel r.2, ?_, k_prop_ok ho h3 hr h2⟩
    unfold k_refO
    dsimp only
    rw [h1]
  | inr c =>
    have hv : v = .int (Int32.ofInt c) := (Option.some.inj ho).symm
    subst hv
    unfold k_refO
    dsimp only
    split
    · rename_i b
      obtain ⟨x, e1, e2⟩ := hy
      cases e1
      rw [hc c rfl] at e2
      rw [if_pos (by rw [Bool.and_eq_true, k_le_iff, k_le_iff]; exact e2)]
      exact ⟨_, rfl, h⟩
    · exact ⟨_, rfl, h⟩
/-- comparing -/
def k_cond : ClassFile.Cond → Int → Int → Prop
  | .eq, x, y => x = y
  | .ne, x, y => ¬ x = y
  | .lt, x, y => x < y
  | .ge, x, y => y ≤ x
  | .gt, x, y => y < x
  | .le, x, y => x ≤ y
def k_neg : ClassFile.Cond → ClassFile.Cond
  | .eq => .ne
  | .ne => .eq
  | .lt => .ge
  | .ge => .lt
  | .gt => .le
  | .le => .gt
theorem k_neg_ok {op : ClassFile.Cond} {x y : Int} (h : ¬ k_cond op x y) : k_cond (k_neg op) x y := by
  cases op <;> simp only [k_cond, k_neg] at h ⊢ <;> omega
def k_trim (x y : kB) : kB := if k_eqi y.1 y.2 = true then (if k_eqi x.1 y.1 = true then (x.1 + 1, x.2) else if k_eqi x.2 y.1 = true then (x.1, x.2 - 1) else x) else x
theorem k_trim_ok {p q : kB} {x y : Int} (h1 : k_in p x) (h2 : k_in q y) (h : ¬ x = y) : k_in (k_trim p q) x := by
  obtain ⟨a, b⟩ := h1
  obtain ⟨c, d⟩ := h2
  unfold k_trim
  split
  · rename_i e
    rw [k_eqi_iff] at e
    split
    · rename_i e2
      rw [k_eqi_iff] at e2
      exact ⟨by show p.1 + 1 ≤ x; omega, b⟩
    · split
      · rename_i e2 e3
        rw [k_eqi_iff] at e3
        exact ⟨a, by show x ≤ p.2 - 1; omega⟩
      · exact ⟨a, b⟩
  · exact ⟨a, b⟩
def k_bnd : ClassFile.Cond → kB → kB → kB × kB
  | .lt, x, y => ((x.1, k_min x.2 (y.2 - 1)), (k_max y.1 (x.1 + 1), y.2))
  | .le, x, y => ((x.1, k_min x.2 y.2), (k_max y.1 x.1, y.2))
  | .gt, x, y => ((k_max x.1 (y.1 + 1), x.2), (y.1, k_min y.2 (x.2 - 1)))
  | .ge, x, y => ((k_max x.1 y.1, x.2), (y.1, k_min y.2 x.2))
  | .eq, x, y => ((k_max x.1 y.1, k_min x.2 y.2), (k_max x.1 y.1, k_min x.2 y.2))
  | .ne, x, y => (k_trim x y, k_trim y x)
theorem k_bnd_ok {op : ClassFile.Cond} {p q : kB} {x y : Int} (h1 : k_in p x) (h2 : k_in q y) (h : k_cond op x y) : k_in (k_bnd op p q).1 x ∧ k_in (k_bnd op p q).2 y := by
  have a := h1.1
  have b := h1.2
  have c := h2.1
  have d := h2.2
  cases op <;> simp only [k_cond] at h
  · subst h
    exact ⟨⟨k_max_le a c, k_min_le b d⟩, ⟨k_max_le a c, k_min_le b d⟩⟩
  · exact ⟨k_trim_ok h1 h2 h, k_trim_ok h2 h1 (fun z => h z.symm)⟩
  · exact ⟨⟨a, k_min_le b (by omega)⟩, ⟨k_max_le c (by omega), d⟩⟩
  · exact ⟨⟨k_max_le a (by omega), b⟩, ⟨c, k_min_le d (by omega)⟩⟩
  · exact ⟨⟨k_max_le a (by omega), b⟩, ⟨c, k_min_le d (by omega)⟩⟩
  · exact ⟨⟨a, k_min_le b (by omega)⟩, ⟨k_max_le c (by omega), d⟩⟩
def k_ltr : ClassFile.Cond → kOp → kOp → List (Nat × Nat × Nat × Nat × Int)
  | .lt, .inl a, .inl b => [(1, a, b, 0, 0)]
  | .gt, .inl a, .inl b => [(1, b, a, 0, 0)]
  | _, _, _ => []
/-- the longs behind a comparing's answer -/
def k_cmpL (op : ClassFile.Cond) (s : Nat) (all : List (Nat × Nat × Nat × Nat × Int)) : List (Nat × Nat × Nat × Nat × Int) → List (Nat × kInfo) → List (Nat × kInfo)
  | [], env => env
  | q :: r, env => k_cmpL op s all r (if (Nat.beq q.1 4 && Nat.beq q.2.1 s) = true then
      (match k_lvl env (.inl q.2.2.1), k_lvl env (.inl q.2.2.2.1) with
      | some x, some y => match k_refO all env (.inl q.2.2.1) (.inr (.inl (k_bnd op x y).1)) with
        | some e1 => (match k_refO all e1 (.inl q.2.2.2.1) (.inr (.inl (k_bnd op x y).2)) with
          | some e2 => e2
          | none => e1)
        | none => env
      | _, _ => env) else env)
theorem k_lgc {op : ClassFile.Cond} {x y : Int64} (h : k_cond op (lg_cmp x y).toInt 0) : k_cond op x.toInt y.toInt := by
  unfold lg_cmp at h
  have h0 : (0 : Int32).toInt = 0 := rfl
  have h1 : (1 : Int32).toInt = 1 := rfl
  have hm : (-1 : Int32).toInt = -1 := by decide
  split at h
  · rename_i c
    have c := Int64.lt_iff_toInt_lt.mp c
    rw [h1] at h
    cases op <;> simp only [k_cond] at h ⊢ <;> omega
  · rename_i c
    have c : ¬ y.toInt < x.toInt := fun z => c (Int64.lt_iff_toInt_lt.mpr z)
    split at h
    · rename_i c2
      subst c2
      rw [h0] at h
      cases op <;> simp only [k_cond] at h ⊢ <;> omega
    · rename_i c2
      have c2 : ¬ x.toInt = y.toInt := fun z => c2 (Int64.toInt_inj.mp z)
      rw [hm] at h
      cases op <;> simp only [k_cond] at h ⊢ <;> omega
theorem k_cmpL_ok {τ : kTau} {ρ : Nat → Option Value} {op : ClassFile.Cond} {s : Nat} {all : List (Nat × Nat × Nat × Nat × Int)} {z : Int32} (ha : ∀ q ∈ all, k_rel ρ q) (hs : ρ s = some (.int z)) (hz : k_cond op z.toInt 0) : ∀ {rel : List (Nat × Nat × Nat × Nat × Int)} {env : List (Nat × kInfo)}, (∀ q ∈ rel, k_rel ρ q) → k_env τ ρ env → k_env τ ρ (k_cmpL op s all rel env)
  | [], env, _, h => h
  | q :: r, env, hr, h => by
    unfold k_cmpL
    refine k_cmpL_ok ha hs hz (fun x hx => hr x (List.mem_cons_of_mem _ hx)) ?_
    split
    · rename_i c
      rw [Bool.and_eq_true] at c
      have c1 := Nat.eq_of_beq_eq_true c.1
      have c2 := Nat.eq_of_beq_eq_true c.2
      obtain ⟨w, x, y, e1, e2, e3, e4⟩ := (hr q List.mem_cons_self).2.2.1 c1
      rw [c2, hs] at e1
      cases e1
      subst e4
      have hxy := k_lgc hz
      split
      · rename_i px py f1 f2
        obtain ⟨x', g1, g2⟩ := k_lvl_ok h f1
        obtain ⟨y', g3, g4⟩ := k_lvl_ok h f2
        have : x' = x := Value.long.inj (Option.some.inj (g1.symm.trans e2))
        subst this
        have : y' = y := Value.long.inj (Option.some.inj (g3.symm.trans e3))
        subst this
        obtain ⟨b1, b2⟩ := k_bnd_ok g2 g4 hxy
        obtain ⟨r1, j1, j2⟩ := k_refO_ok (o := .inl q.2.2.1) ha h e2 (y := .inr (.inl (k_bnd op px py).1)) ⟨x', rfl, b1⟩ (fun c hc => by cases hc)
        rw [j1]
        dsimp only
        obtain ⟨r2, j3, j4⟩ := k_refO_ok (o := .inl q.2.2.2.1) ha j2 e3 (y := .inr (.inl (k_bnd op px py).2)) ⟨y', rfl, b2⟩ (fun c hc => by cases hc)
        rw [j3]
        exact j4
      · exact h
    · exact h
end
section
/-! ===== steps that touch no heap ===== -/
abbrev kX : Type := Program × Launch × Env × Room × State × MethodId × Array Value × List Frame × Method × Code × (State → Prop)
abbrev kw (X : kX) (H : Heap) (locs : List Loc) (pc : Nat) (ls : Array Slot) (st : List Value) : Prop :=
  W X.1 X.2.1 X.2.2.1 X.2.2.2.1 X.2.2.2.2.1 X.2.2.2.2.2.1 X.2.2.2.2.2.2.1 X.2.2.2.2.2.2.2.1 X.2.2.2.2.2.2.2.2.1 X.2.2.2.2.2.2.2.2.2.1 H locs 0 0 X.2.2.2.2.2.2.2.2.2.2 (F0 X.2.2.2.2.2.1 pc ls st)
def k_Fx (X : kX) (cc : ByteArray) (nL : Nat) (own : String) : Prop :=
  X.1.tables.exec = Jvm.exec ∧ X.2.2.2.2.2.2.2.2.2.1.code = cc ∧ X.2.2.2.2.2.2.2.2.2.1.maxLocals = nL ∧ X.2.2.2.2.1.vm.findClass own = some X.2.2.2.2.2.1.cls
def k_good (X : kX) (E : kE) (nL : Nat) (τ : kTau) (vs : List Value) (mods : List (Nat × Nat)) (H0 : Heap) (pc : Nat) (σ : kSt) : Prop :=
  ∀ (ρ : Nat → Option Value) (H : Heap) (locs : List Loc) (ls : Array Slot) (st : List Value), k_HT E τ H → k_wk E τ mods H0 H locs → k_R E nL τ vs ρ H ls st σ → kw X H locs pc ls st
section KP
variable {X : kX} {E : kE} {nL : Nat} {τ : kTau} {vs : List Value} {mods : List (Nat × Nat)} {H0 : Heap} {cc : ByteArray} {own : String} {pc : Nat}
variable {ρ : Nat → Option Value} {H : Heap} {locs : List Loc} {ls : Array Slot} {st : List Value} {n : Nat} {env : List (Nat × kInfo)} {loc : List (Nat × kOp)} {stk : List kOp} {ff : List (Nat × Nat × kOp)} {rel : List (Nat × Nat × Nat × Nat × Int)} {len : List (Nat × Nat × kOp)} {g : List Nat} {par : List kOp}
theorem k_pop {o : kOp} (h : k_R E nL τ vs ρ H ls st (n, env, loc, o :: stk, ff, rel, len, g, par)) : ∃ (v : Value) (rs : List Value), st = v :: rs ∧ k_v ρ o = some v ∧ k_R E nL τ vs ρ H ls rs (n, env, loc, stk, ff, rel, len, g, par) := by
  obtain ⟨h1, h2, h3, h4, h5⟩ := h
  cases st with
  | nil => simp at h4
  | cons v rs =>
    simp only [List.map_cons, List.cons.injEq] at h4
    exact ⟨v, rs, rfl, h4.1, h1, h2, h3, h4.2, h5⟩
theorem k_psh {o : kOp} {v : Value} (h : k_R E nL τ vs ρ H ls st (n, env, loc, stk, ff, rel, len, g, par)) (hv : k_v ρ o = some v) : k_R E nL τ vs ρ H ls (v :: st) (n, env, loc, o :: stk, ff, rel, len, g, par) := by
  obtain ⟨h1, h2, h3, h4, h5⟩ := h
  exact ⟨h1, h2, h3, by simp only [List.map_cons, List.cons.injEq]; exact ⟨hv, h4⟩, h5⟩
theorem k_envR (h : k_R E nL τ vs ρ H ls st (n, env, loc, stk, ff, rel, len, g, par)) : k_env τ ρ env := h.2.1
theorem k_relR (h : k_R E nL τ vs ρ H ls st (n, env, loc, stk, ff, rel, len, g, par)) : ∀ q ∈ rel, k_rel ρ q := h.2.2.2.2.2.1
theorem k_withEnv {env' : List (Nat × kInfo)} (h : k_R E nL τ vs ρ H ls st (n, env, loc, stk, ff, rel, len, g, par)) (he : k_env τ ρ env') : k_R E nL τ vs ρ H ls st (n, env', loc, stk, ff, rel, len, g, par) := ⟨h.1, he, h.2.2⟩
theorem k_withRel {rel' : List (Nat × Nat × Nat × Nat × Int)} (h : k_R E nL τ vs ρ H ls st (n, env, loc, stk, ff, rel, len, g, par)) (he : ∀ q ∈ rel', k_rel ρ q) : k_R E nL τ vs ρ H ls st (n, env, loc, stk, ff, rel', len, g, par) := ⟨h.1, h.2.1, h.2.2.1, h.2.2.2.1, h.2.2.2.2.1, he, h.2.2.2.2.2.2⟩
/-- the result of a reckoning of ints -/
def k_resI (q : kB) (d : List (Nat × Nat × Nat × Nat × Int)) : kSt → kSt
  | (n, env, loc, stk, ff, rel, len, g, par) => if k_eqi q.1 q.2 = true then (n, env, loc, .inr q.1 :: stk, ff, rel, len, g, par) else (n + 1, (n, .inl q) :: env, loc, .inl n :: stk, ff, d ++ rel, len, g, par)
theorem k_ofInt (x : Int32) {c : Int} (h : x.toInt = c) : Int32.ofInt c = x := by rw [← h, Int32.ofInt_toInt]
theorem k_resI_ok {q : kB} {d : List (Nat × Nat × Nat × Nat × Int)} {x : Int32} (h : k_R E nL τ vs ρ H ls st (n, env, loc, stk, ff, rel, len, g, par)) (hq : k_in q x.toInt) (hd : ∀ ρ' : Nat → Option Value, k_le' ρ ρ' → ρ' n = some (.int x) → ∀ r ∈ d, k_rel ρ' r) :
    ∃ ρ', k_R E nL τ vs ρ' H ls (.int x :: st) (k_resI q d (n, env, loc, stk, ff, rel, len, g, par)) := by
  unfold k_resI
  dsimp only
  split
  · rename_i c
    rw [k_eqi_iff] at c
    refine ⟨ρ, k_psh h ?_⟩
    show some (Value.int (Int32.ofInt q.1)) = _
    rw [k_ofInt x (show x.toInt = q.1 by have := hq.1; have := hq.2; omega)]
  · have hn := k_R_new h (x := .inl q) (v := .int x) ⟨x, rfl, hq⟩
    refine ⟨_, k_withRel hn (fun r hr => ?_)⟩
    rcases List.mem_append.mp hr with e | e
    · exact hd _ (k_ext_le h.1) k_ext_at r e
    · exact k_rel_up (k_ext_le h.1) (k_relR h r e)
def k_resJ (q : kB) (d : List (Nat × Nat × Nat × Nat × Int)) : kSt → kSt
  | (n, env, loc, stk, ff, rel, len, g, par) => (n + 1, (n, .inr (.inl q)) :: env, loc, .inl n :: stk, ff, d ++ rel, len, g, par)
theorem k_resJ_ok {q : kB} {d : List (Nat × Nat × Nat × Nat × Int)} {x : Int64} (h : k_R E nL τ vs ρ H ls st (n, env, loc, stk, ff, rel, len, g, par)) (hq : k_in q x.toInt) (hd : ∀ ρ' : Nat → Option Value, k_le' ρ ρ' → ρ' n = some (.long x) → ∀ r ∈ d, k_rel ρ' r) :
    ∃ ρ', k_R E nL τ vs ρ' H ls (.long x :: st) (k_resJ q d (n, env, loc, stk, ff, rel, len, g, par)) := by
  have hn := k_R_new h (x := .inr (.inl q)) (v := .long x) ⟨x, rfl, hq⟩
  refine ⟨_, k_withRel hn (fun r hr => ?_)⟩
  rcases List.mem_append.mp hr with e | e
  · exact hd _ (k_ext_le h.1) k_ext_at r e
  · exact k_rel_up (k_ext_le h.1) (k_relR h r e)
theorem k_nod {ρ' : Nat → Option Value} : ∀ r ∈ ([] : List (Nat × Nat × Nat × Nat × Int)), k_rel ρ' r := fun _ h => by cases h
-- 1: constants
def k_lk : List (Nat × Int) → Nat → Option Int
  | [], _ => none
  | q :: r, k => if Nat.beq q.1 k = true then some q.2 else k_lk r k
theorem k_lk_ok : ∀ {l : List (Nat × Int)} {k : Nat} {c : Int}, k_lk l k = some c → (k, c) ∈ l
  | [], _, _, e => by cases e
  | q :: r, k, c, e => by
    unfold k_lk at e
    split at e
    · rename_i z
      cases e
      rw [← Nat.eq_of_beq_eq_true z]
      exact List.mem_cons_self
    · exact List.mem_cons_of_mem _ (k_lk_ok e)
def k_cst (CI : List (Nat × Int)) : Instr → Option (Int × Nat)
  | .iconst c => some (c, 1)
  | .bipush c => if (k_le (-128) c && k_le c 127) = true then some (c, 2) else none
  | .sipush c => if (k_le (-32768) c && k_le c 32767) = true then some (c, 3) else none
  | .ldc k => match k_lk CI k with
    | some c => some (c, 2)
    | none => none
  | .ldc_w k => match k_lk CI k with
    | some c => some (c, 3)
    | none => none
  | _ => none
def k_CI (X : kX) (own : String) (CI : List (Nat × Int)) : Prop := ∀ q ∈ CI, (Jvm.Cond.constant own q.1 (Int32.ofInt q.2)).before X.2.2.2.2.2.2.1 X.2.2.2.2.1 = true
def k_CJ (X : kX) (own : String) (CJ : List (Nat × Int)) : Prop := ∀ q ∈ CJ, (Jvm.Cond.constantLong own q.1 (Int64.ofInt q.2)).before X.2.2.2.2.2.2.1 X.2.2.2.2.1 = true
theorem k_i8 {c : Int} (h1 : -128 ≤ c) (h2 : c ≤ 127) : (Int8.ofInt c).toInt32 = Int32.ofInt c := by
  apply Int32.toInt_inj.mp
  rw [Int8.toInt_toInt32, Int8.toInt_ofInt, Int32.toInt_ofInt]
  have e1 : (Int8.size : Int) = 256 := rfl
  have e2 : (Int32.size : Int) = 4294967296 := rfl
  rw [Int.bmod_eq_of_le (by omega) (by omega), Int.bmod_eq_of_le (by omega) (by omega)]
theorem k_i16 {c : Int} (h1 : -32768 ≤ c) (h2 : c ≤ 32767) : (Int16.ofInt c).toInt32 = Int32.ofInt c := by
  apply Int32.toInt_inj.mp
  rw [Int16.toInt_toInt32, Int16.toInt_ofInt, Int32.toInt_ofInt]
  have e1 : (Int16.size : Int) = 65536 := rfl
  have e2 : (Int32.size : Int) = 4294967296 := rfl
  rw [Int.bmod_eq_of_le (by omega) (by omega), Int.bmod_eq_of_le (by omega) (by omega)]
theorem k_cst_ok {CI : List (Nat × Int)} {i : Instr} {c : Int} {L : Nat} (hF : k_Fx X cc nL own) (hCI : k_CI X own CI) (e : k_cst CI i = some (c, L)) (hd : decode cc pc = .ok (i, L)) (k : kw X H locs (pc + L) ls (.int (Int32.ofInt c) :: st)) : kw X H locs pc ls st := by
  obtain ⟨hx, hb, hml, ho⟩ := hF
  unfold k_cst at e
  split at e
  · cases e
    exact lv_iconst hx hb hd rfl k
  · split at e
    · rename_i z
      rw [Bool.and_eq_true, k_le_iff, k_le_iff] at z
      cases e
      exact lv_bipush hx hb hd (k_i8 z.1 z.2) k
    · cases e
  · split at e
    · rename_i z
      rw [Bool.and_eq_true, k_le_iff, k_le_iff] at z
      cases e
      exact lv_sipush hx hb hd (k_i16 z.1 z.2) k
    · cases e
  · split at e
    · rename_i c' z
      cases e
      exact lv_ldc hx hb ho (hCI _ (k_lk_ok z)) hd k
    · cases e
  · split at e
    · rename_i c' z
      cases e
      exact lv_ldcw hx hb ho (hCI _ (k_lk_ok z)) hd k
    · cases e
  · cases e
def k_lcst (CJ : List (Nat × Int)) : Instr → Option (Int × Nat)
  | .lconst c => some ((c.val : Int), 1)
  | .ldc2_w k => match k_lk CJ k with
    | some c => if (k_le (-9223372036854775808) c && k_le c 9223372036854775807) = true then some (c, 3) else none
    | none => none
  | _ => none
theorem k_lcst_ok {CJ : List (Nat × Int)} {i : Instr} {c : Int} {L : Nat} (hF : k_Fx X cc nL own) (hCJ : k_CJ X own CJ) (e : k_lcst CJ i = some (c, L)) (hd : decode cc pc = .ok (i, L)) (k : ∀ x : Int64, x.toInt = c → kw X H locs (pc + L) ls (.long x :: st)) : kw X H locs pc ls st := by
  obtain ⟨hx, hb, hml, ho⟩ := hF
  unfold k_lcst at e
  split at e
  · rename_i c'
    cases e
    refine lv_lconst hx hb hd rfl (k _ ?_)
    match c' with
    | ⟨0, _⟩ => rfl
    | ⟨1, _⟩ => rfl
  · split at e
    · rename_i c' z
      split at e
      · rename_i y
        rw [Bool.and_eq_true, k_le_iff, k_le_iff] at y
        cases e
        refine lv_ldc2 hx hb ho (hCJ _ (k_lk_ok z)) hd (k _ ?_)
        rw [Int64.toInt_ofInt]
        have e2 : (Int64.size : Int) = 18446744073709551616 := rfl
        exact Int.bmod_eq_of_le (by omega) (by omega)
      · cases e
    · cases e
  · cases e
def k_g1 (CI CJ : List (Nat × Int)) (pc : Nat) (i : Instr) (L : Nat) : kSt → Option (List (Nat × kSt))
  | (n, env, loc, stk, ff, rel, len, g, par) => match k_cst CI i with
    | some q => if Nat.beq q.2 L = true then some [(pc + L, (n, env, loc, .inr q.1 :: stk, ff, rel, len, g, par))] else none
    | none => match k_lcst CJ i with
      | some q => if Nat.beq q.2 L = true then some [(pc + L, k_resJ (q.1, q.1) [] (n, env, loc, stk, ff, rel, len, g, par))] else none
      | none => match i with
        | .aconst_null => if Nat.beq L 1 = true then some [(pc + 1, (n + 1, (n, .inr (.inr (.inl (true, [])))) :: env, loc, .inl n :: stk, ff, rel, len, g, par))] else none
        | _ => none
theorem k_g1_ok {CI CJ : List (Nat × Int)} {i : Instr} {L : Nat} {σ : kSt} {l : List (Nat × kSt)} (hF : k_Fx X cc nL own) (hCI : k_CI X own CI) (hCJ : k_CJ X own CJ) (hd : decode cc pc = .ok (i, L)) (e : k_g1 CI CJ pc i L σ = some l) (hk : ∀ q ∈ l, k_good X E nL τ vs mods H0 q.1 q.2) : k_good X E nL τ vs mods H0 pc σ := by
  obtain ⟨n, env, loc, stk, ff, rel, len, g, par⟩ := σ
  intro ρ H locs ls st hH hW hR
  unfold k_g1 at e
  dsimp only at e
  split at e
  · rename_i q z
    split at e
    · rename_i y
      have y := Nat.eq_of_beq_eq_true y
      cases e
      subst y
      exact k_cst_ok (c := q.1) (L := q.2) hF hCI z hd (hk _ List.mem_cons_self ρ H locs ls _ hH hW (k_psh hR rfl))
    · cases e
  · split at e
    · rename_i q z
      split at e
      · rename_i y
        have y := Nat.eq_of_beq_eq_true y
        cases e
        subst y
        refine k_lcst_ok (c := q.1) (L := q.2) hF hCJ z hd (fun x hx => ?_)
        obtain ⟨ρ', hR'⟩ := k_resJ_ok (q := (q.1, q.1)) (d := []) (x := x) hR ⟨by rw [hx]; exact Int.le_refl _, by rw [hx]; exact Int.le_refl _⟩ (fun _ _ _ => k_nod)
        exact hk _ List.mem_cons_self ρ' H locs ls _ hH hW hR'
      · cases e
    · split at e
      · split at e
        · rename_i y
          have y := Nat.eq_of_beq_eq_true y
          cases e
          subst y
          exact lv_null hF.1 hF.2.1 hd (hk _ List.mem_cons_self _ H locs ls _ hH hW (k_R_new hR (x := .inr (.inr (.inl (true, [])))) (v := .null) (Or.inl ⟨rfl, rfl⟩)))
        · cases e
      · cases e
-- 2: loads
theorem k_loc_ok {o : kOp} {j : Nat} : ∀ {loc : List (Nat × kOp)}, (∀ q ∈ loc, ∃ v, k_v ρ q.2 = some v ∧ ls[q.1]? = some (.val v)) → k_loc loc j = some o → ∃ v, k_v ρ o = some v ∧ ls[j]? = some (.val v)
  | [], _, e => by cases e
  | q :: r, h, e => by
    unfold k_loc at e
    split at e
    · rename_i z
      cases e
      rw [← Nat.eq_of_beq_eq_true z]
      exact h q List.mem_cons_self
    · exact k_loc_ok (fun x hx => h x (List.mem_cons_of_mem _ hx)) e
def k_ld : Instr → Option (Nat × Nat × Nat)
  | .iload_n k => some (0, k.val, 1)
  | .iload k => some (0, k, 2)
  | .lload_n k => some (1, k.val, 1)
  | .lload k => some (1, k, 2)
  | .aload_n k => some (2, k.val, 1)
  | .aload k => some (2, k, 2)
  | _ => none
def k_isK (env : List (Nat × kInfo)) (kind : Nat) (o : kOp) : Bool := match kind with
  | 0 => (k_ivl env o).isSome
  | 1 => (k_lvl env o).isSome
  | _ => match k_rf env o with
    | some q => !q.1
    | none => false
theorem k_rf_ok {o : kOp} {q : Bool × List Nat} (h : k_env τ ρ env) (e : k_rf env o = some q) : ∃ v, k_v ρ o = some v ∧ k_ok τ (.inr (.inr (.inl q))) v := by
  cases o with
  | inr c => cases e
  | inl s =>
    unfold k_rf at e
    dsimp only at e
    split at e
    · rename_i q' e'
      cases e
      exact k_get_ok h e'
    · cases e
theorem k_isK0 {o : kOp} {v : Value} (h : k_env τ ρ env) (e : k_isK env 0 o = true) (hv : k_v ρ o = some v) : ∃ x : Int32, v = .int x := by
  obtain ⟨b, hb⟩ := Option.isSome_iff_exists.mp (show (k_ivl env o).isSome = true from e)
  obtain ⟨x, h1, -⟩ := k_ivl_ok h hb
  exact ⟨x, Option.some.inj (hv.symm.trans h1)⟩
theorem k_isK1 {o : kOp} {v : Value} (h : k_env τ ρ env) (e : k_isK env 1 o = true) (hv : k_v ρ o = some v) : ∃ x : Int64, v = .long x := by
  obtain ⟨b, hb⟩ := Option.isSome_iff_exists.mp (show (k_lvl env o).isSome = true from e)
  obtain ⟨x, h1, -⟩ := k_lvl_ok h hb
  exact ⟨x, Option.some.inj (hv.symm.trans h1)⟩
theorem k_isK2 {o : kOp} {v : Value} (h : k_env τ ρ env) (e : k_isK env 2 o = true) (hv : k_v ρ o = some v) : ∃ a : Nat, v = .ref a := by
  have e : (match k_rf env o with
    | some q => !q.1
    | none => false) = true := e
  split at e
  · rename_i q e'
    obtain ⟨w, h1, h2⟩ := k_rf_ok h e'
    cases hv.symm.trans h1
    rcases h2 with ⟨h2, -⟩ | ⟨a, t, h2, -⟩
    · rw [h2] at e; cases e
    · exact ⟨a, h2⟩
  · cases e
theorem k_beq (a b : Nat) : (a == b) = Nat.beq a b := by
  cases h : Nat.beq a b with
  | true => rw [Nat.eq_of_beq_eq_true h]; simp
  | false =>
    have := Nat.ne_of_beq_eq_false h
    simpa using this
def k_g2 (pc : Nat) (i : Instr) (L : Nat) : kSt → Option (List (Nat × kSt))
  | (n, env, loc, stk, ff, rel, len, g, par) => match k_ld i with
    | some q => if Nat.beq q.2.2 L = true then (match k_loc loc q.2.1 with
      | some o => if k_isK env q.1 o = true then some [(pc + L, (n, env, loc, o :: stk, ff, rel, len, g, par))] else none
      | none => none) else none
    | none => none
theorem k_g2_ok {i : Instr} {L : Nat} {σ : kSt} {l : List (Nat × kSt)} (hF : k_Fx X cc nL own) (hd : decode cc pc = .ok (i, L)) (e : k_g2 pc i L σ = some l) (hk : ∀ q ∈ l, k_good X E nL τ vs mods H0 q.1 q.2) : k_good X E nL τ vs mods H0 pc σ := by
  obtain ⟨n, env, loc, stk, ff, rel, len, g, par⟩ := σ
  intro ρ H locs ls st hH hW hR
  obtain ⟨hx, hb, hml, ho⟩ := hF
  unfold k_g2 at e
  dsimp only at e
  split at e
  · rename_i q z
    split at e
    · rename_i y
      have y := Nat.eq_of_beq_eq_true y
      split at e
      · rename_i o hl
        split at e
        · rename_i hK
          cases e
          obtain ⟨v, hv, hs⟩ := k_loc_ok hR.2.2.1.2.2 hl
          have hgo := hk _ List.mem_cons_self ρ H locs ls _ hH hW (k_psh hR hv)
          subst y
          unfold k_ld at z
          split at z <;> cases z
          · obtain ⟨b, hb'⟩ := Option.isSome_iff_exists.mp hK
            obtain ⟨x, h1, -⟩ := k_ivl_ok (k_envR hR) hb'
            cases hv.symm.trans h1
            exact lv_iload_n hx hb hd rfl hs hgo
          · obtain ⟨b, hb'⟩ := Option.isSome_iff_exists.mp hK
            obtain ⟨x, h1, -⟩ := k_ivl_ok (k_envR hR) hb'
            cases hv.symm.trans h1
            exact lv_iload hx hb hd hs hgo
          · obtain ⟨b, hb'⟩ := Option.isSome_iff_exists.mp hK
            obtain ⟨x, h1, -⟩ := k_lvl_ok (k_envR hR) hb'
            cases hv.symm.trans h1
            exact lv_lload_n hx hb hd rfl hs hgo
          · obtain ⟨b, hb'⟩ := Option.isSome_iff_exists.mp hK
            obtain ⟨x, h1, -⟩ := k_lvl_ok (k_envR hR) hb'
            cases hv.symm.trans h1
            exact lv_lload hx hb hd hs hgo
          · obtain ⟨x, rfl⟩ := k_isK2 (k_envR hR) hK hv
            exact lv_aload_n hx hb hd rfl hs hgo
          · obtain ⟨x, rfl⟩ := k_isK2 (k_envR hR) hK hv
            exact lv_aload hx hb hd hs hgo
        · cases e
      · cases e
    · cases e
  · cases e
-- 3: stores, iinc
/-- is it known to take one word -/
def k_is1 (env : List (Nat × kInfo)) (o : kOp) : Bool := match o with
  | .inr _ => true
  | .inl s => match k_get env s with
    | some (.inl _) => true
    | some (.inr (.inr _)) => true
    | _ => false
theorem k_is1_ok {o : kOp} {v : Value} (h : k_env τ ρ env) (e : k_is1 env o = true) (hv : k_v ρ o = some v) : v.category = 1 := by
  cases o with
  | inr c => cases hv; rfl
  | inl s =>
    unfold k_is1 at e
    dsimp only at e
    split at e
    · rename_i q e'
      obtain ⟨w, h1, x, h2, -⟩ := k_get_ok h e'
      cases hv.symm.trans h1
      subst h2; rfl
    · rename_i q e'
      obtain ⟨w, h1, h2⟩ := k_get_ok h e'
      cases hv.symm.trans h1
      cases q with
      | inl q =>
        rcases h2 with ⟨-, h2⟩ | ⟨a, t, h2, -⟩
        · subst h2; rfl
        · subst h2; rfl
      | inr q => exact h2
    · cases e
def k_setL (env : List (Nat × kInfo)) (two : Bool) (i : Nat) (o : kOp) (loc : List (Nat × kOp)) : List (Nat × kOp) := (i, o) :: loc.filter (fun q => !(Nat.beq q.1 i) && (!(two && Nat.beq q.1 (i + 1)) && (!(Nat.beq (q.1 + 1) i) || k_is1 env q.2)))
def k_lvs (ρ : Nat → Option Value) (loc : List (Nat × kOp)) : List (Nat × Value) := loc.filterMap (fun q => (k_v ρ q.2).map (fun v => (q.1, v)))
theorem k_lvs_has {nL : Nat} (h1 : ls.size = nL) (h2 : lv_wf ls) (h3 : ∀ q ∈ loc, ∃ v, k_v ρ q.2 = some v ∧ ls[q.1]? = some (.val v)) : lv_has ls nL (k_lvs ρ loc) := by
  refine ⟨h1, h2, fun w hw => ?_⟩
  unfold k_lvs at hw
  rw [List.mem_filterMap] at hw
  obtain ⟨q, hq, hq2⟩ := hw
  obtain ⟨v, g1, g2⟩ := h3 q hq
  rw [g1] at hq2
  cases hq2
  exact g2
theorem k_lvs_mem {q : Nat × kOp} {v : Value} (hq : q ∈ loc) (hv : k_v ρ q.2 = some v) : (q.1, v) ∈ k_lvs ρ loc := by
  unfold k_lvs
  rw [List.mem_filterMap]
  exact ⟨q, hq, by rw [hv]; rfl⟩
theorem k_set1 {i : Nat} {o : kOp} {v : Value} {ls' : Array Slot} (hR : k_R E nL τ vs ρ H ls st (n, env, loc, stk, ff, rel, len, g, par)) (hv : k_v ρ o = some v) (h : lv_has ls' nL ((i, v) :: (k_lvs ρ loc).filter (fun q => !(q.1 == i) && !(q.1 + 1 == i && q.2.category == 2)))) :
    k_R E nL τ vs ρ H ls' st (n, env, k_setL env false i o loc, stk, ff, rel, len, g, par) := by
  obtain ⟨h1, h2, ⟨h3, h3', h3''⟩, h4⟩ := hR
  refine ⟨h1, h2, ⟨h.1, h.2.1, fun q hq => ?_⟩, h4⟩
  unfold k_setL at hq
  rcases List.mem_cons.mp hq with e | e
  · subst e
    exact ⟨v, hv, h.2.2 _ List.mem_cons_self⟩
  · rw [List.mem_filter] at e
    obtain ⟨e1, e2⟩ := e
    obtain ⟨w, w1, w2⟩ := h3'' q e1
    refine ⟨w, w1, h.2.2 (q.1, w) (List.mem_cons_of_mem _ (List.mem_filter.mpr ⟨k_lvs_mem e1 w1, ?_⟩))⟩
    simp only [Bool.and_eq_true, Bool.not_eq_true', Bool.or_eq_true] at e2
    have g1 : (q.1 == i) = false := by rw [k_beq]; exact e2.1
    simp only [g1, Bool.not_false, Bool.true_and, Bool.not_eq_true', Bool.and_eq_false_iff]
    rcases e2.2.2 with z | z
    · exact Or.inl (by rw [k_beq]; exact z)
    · right
      rw [k_is1_ok h2 z w1]; rfl
theorem k_set2 {i : Nat} {o : kOp} {v : Value} {ls' : Array Slot} (hR : k_R E nL τ vs ρ H ls st (n, env, loc, stk, ff, rel, len, g, par)) (hv : k_v ρ o = some v) (h : lv_has ls' nL ((i, v) :: (k_lvs ρ loc).filter (fun q => !(q.1 == i) && (!(q.1 == i + 1) && !(q.1 + 1 == i && q.2.category == 2))))) :
    k_R E nL τ vs ρ H ls' st (n, env, k_setL env true i o loc, stk, ff, rel, len, g, par) := by
  obtain ⟨h1, h2, ⟨h3, h3', h3''⟩, h4⟩ := hR
  refine ⟨h1, h2, ⟨h.1, h.2.1, fun q hq => ?_⟩, h4⟩
  unfold k_setL at hq
  rcases List.mem_cons.mp hq with e | e
  · subst e
    exact ⟨v, hv, h.2.2 _ List.mem_cons_self⟩
  · rw [List.mem_filter] at e
    obtain ⟨e1, e2⟩ := e
    obtain ⟨w, w1, w2⟩ := h3'' q e1
    refine ⟨w, w1, h.2.2 (q.1, w) (List.mem_cons_of_mem _ (List.mem_filter.mpr ⟨k_lvs_mem e1 w1, ?_⟩))⟩
    simp only [Bool.and_eq_true, Bool.not_eq_true', Bool.or_eq_true, Bool.true_and] at e2
    have g1 : (q.1 == i) = false := by rw [k_beq]; exact e2.1
    have g2 : (q.1 == i + 1) = false := by rw [k_beq]; exact e2.2.1
    simp only [g1, g2, Bool.not_false, Bool.true_and, Bool.not_eq_true', Bool.and_eq_false_iff]
    rcases e2.2.2 with z | z
    · exact Or.inl (by rw [k_beq]; exact z)
    · right
      rw [k_is1_ok h2 z w1]; rfl
def k_sto : Instr → Option (Nat × Nat × Nat)
  | .istore_n k => some (0, k.val, 1)
  | .istore k => some (0, k, 2)
  | .lstore_n k => some (1, k.val, 1)
  | .lstore k => some (1, k, 2)
  | .astore_n k => some (2, k.val, 1)
  | .astore k => some (2, k, 2)
  | _ => none
def k_inr (q : kB) : Bool := k_le (-2147483648) q.1 && k_le q.2 2147483647
def k_dinc (n : Nat) (o : kOp) (q : kB) (c : Int) : List (Nat × Nat × Nat × Nat × Int) := match o with
  | .inl s => if k_inr (k_addB q (c, c)) = true then [(0, n, s, 0, c)] else []
  | .inr _ => []
def k_lim (nL : Nat) : Nat → Nat
  | 1 => nL
  | _ => nL + 1
def k_g3 (nL pc : Nat) (i : Instr) (L : Nat) : kSt → Option (List (Nat × kSt))
  | (n, env, loc, stk, ff, rel, len, g, par) => match k_sto i with
    | some q => if (Nat.beq q.2.2 L && Nat.ble (q.2.1 + 2) (k_lim nL q.1)) = true then (match stk with
      | o :: r => if k_isK env q.1 o = true then some [(pc + L, (n, env, k_setL env (Nat.beq q.1 1) q.2.1 o loc, r, ff, rel, len, g, par))] else none
      | [] => none) else none
    | none => match i with
      | .iinc j c => if (Nat.beq L 3 && Nat.ble (j + 1) nL) = true then (match k_loc loc j with
        | some o => match k_ivl env o with
          | some q => (match k_resI (k_fit (k_addB q (c, c))) (k_dinc n o q c) (n, env, loc, stk, ff, rel, len, g, par) with
            | (n', env', loc', o' :: r, ff', rel', len', g', par') => if (k_le (-2147483648) c && k_le c 2147483647) = true then some [(pc + 3, (n', env', k_setL env' false j o' loc', r, ff', rel', len', g', par'))] else none
            | _ => none)
          | none => none
        | none => none) else none
      | _ => none
theorem k_g3_ok {i : Instr} {L : Nat} {σ : kSt} {l : List (Nat × kSt)} (hF : k_Fx X cc nL own) (hd : decode cc pc = .ok (i, L)) (e : k_g3 nL pc i L σ = some l) (hk : ∀ q ∈ l, k_good X E nL τ vs mods H0 q.1 q.2) : k_good X E nL τ vs mods H0 pc σ := by
  obtain ⟨n, env, loc, stk, ff, rel, len, g, par⟩ := σ
  intro ρ H locs ls st hH hW hR
  obtain ⟨hx, hb, hml, ho⟩ := hF
  have hlv := k_lvs_has hR.2.2.1.1 hR.2.2.1.2.1 hR.2.2.1.2.2
  unfold k_g3 at e
  dsimp only at e
  split at e
  · rename_i q z
    split at e
    · rename_i y
      rw [Bool.and_eq_true] at y
      have y1 := Nat.eq_of_beq_eq_true y.1
      have y2 := Nat.le_of_ble_eq_true y.2
      split at e
      · rename_i o r
        split at e
        · rename_i hK
          cases e
          subst y1
          obtain ⟨v, rs, rfl, hv, hR2⟩ := k_pop hR
          unfold k_sto at z
          split at z <;> cases z
          · obtain ⟨x, rfl⟩ := k_isK0 (k_envR hR) hK hv
            have y2 := Nat.le_trans y2 (Nat.le_of_eq (show k_lim nL _ = nL + 1 from rfl))
            dsimp only at y2
            exact lv_istore_n hx hb hd rfl hlv (by omega) rfl (fun ls' h => hk _ List.mem_cons_self ρ H locs ls' _ hH hW (k_set1 hR2 hv h))
          · obtain ⟨x, rfl⟩ := k_isK0 (k_envR hR) hK hv
            have y2 := Nat.le_trans y2 (Nat.le_of_eq (show k_lim nL _ = nL + 1 from rfl))
            dsimp only at y2
            exact lv_istore hx hb hd hlv (by omega) rfl (fun ls' h => hk _ List.mem_cons_self ρ H locs ls' _ hH hW (k_set1 hR2 hv h))
          · obtain ⟨x, rfl⟩ := k_isK1 (k_envR hR) hK hv
            have y2 := Nat.le_trans y2 (Nat.le_of_eq (show k_lim nL _ = nL from rfl))
            dsimp only at y2
            exact lv_lstore_n hx hb hd rfl hlv (by omega) rfl (fun ls' h => hk _ List.mem_cons_self ρ H locs ls' _ hH hW (k_set2 hR2 hv h))
          · obtain ⟨x, rfl⟩ := k_isK1 (k_envR hR) hK hv
            have y2 := Nat.le_trans y2 (Nat.le_of_eq (show k_lim nL _ = nL from rfl))
            dsimp only at y2
            exact lv_lstore hx hb hd hlv (by omega) rfl (fun ls' h => hk _ List.mem_cons_self ρ H locs ls' _ hH hW (k_set2 hR2 hv h))
          · obtain ⟨x, rfl⟩ := k_isK2 (k_envR hR) hK hv
            have y2 := Nat.le_trans y2 (Nat.le_of_eq (show k_lim nL _ = nL + 1 from rfl))
            dsimp only at y2
            exact lv_astore_n hx hb hd rfl hlv (by omega) rfl (fun ls' h => hk _ List.mem_cons_self ρ H locs ls' _ hH hW (k_set1 hR2 hv h))
          · obtain ⟨x, rfl⟩ := k_isK2 (k_envR hR) hK hv
            have y2 := Nat.le_trans y2 (Nat.le_of_eq (show k_lim nL _ = nL + 1 from rfl))
            dsimp only at y2
            exact lv_astore hx hb hd hlv (by omega) rfl (fun ls' h => hk _ List.mem_cons_self ρ H locs ls' _ hH hW (k_set1 hR2 hv h))
        · cases e
      · cases e
    · cases e
  · split at e
    · rename_i j c hno
      split at e
      · rename_i y
        rw [Bool.and_eq_true] at y
        have y1 := Nat.eq_of_beq_eq_true y.1
        have y2 := Nat.le_of_ble_eq_true y.2
        split at e
        · rename_i o hl
          split at e
          · rename_i q hq
            split at e
            · rename_i n' env' loc' o' r ff' rel' len' g' par' hres
              split at e
              · rename_i hc
                rw [Bool.and_eq_true, k_le_iff, k_le_iff] at hc
                cases e
                subst y1
                obtain ⟨x, hx1, hx2⟩ := k_ivl_ok (k_envR hR) hq
                have hcI : (Int32.ofInt c).toInt = c := by
                  rw [Int32.toInt_ofInt]
                  have e2 : (Int32.size : Int) = 4294967296 := rfl
                  exact Int.bmod_eq_of_le (by omega) (by omega)
                have hsum : (x + Int32.ofInt c).toInt = (x.toInt + c).bmod (2 ^ 32) := by rw [Int32.toInt_add, hcI]
                have hin : k_in (k_addB q (c, c)) (x.toInt + c) := k_addB_ok hx2 ⟨Int.le_refl _, Int.le_refl _⟩
                obtain ⟨v0, hv0, hs0⟩ := k_loc_ok hR.2.2.1.2.2 hl
                cases hv0.symm.trans hx1
                obtain ⟨ρ', hR'⟩ := k_resI_ok (d := k_dinc n o q c) hR (k_fit_ok hsum hin) (by
                    intro ρ' hu hn r hr
                    unfold k_dinc at hr
                    cases o with
                    | inr c' => cases hr
                    | inl s =>
                      dsimp only at hr
                      split at hr
                      · rename_i hir
                        rw [List.mem_singleton] at hr
                        subst hr
                        unfold k_inr at hir
                        rw [Bool.and_eq_true, k_le_iff, k_le_iff] at hir
                        refine k_r0 ⟨x + Int32.ofInt c, x, hn, hu _ _ hx1, ?_⟩
                        rw [hsum]
                        obtain ⟨i1, i2⟩ := hin
                        exact Int.bmod_eq_of_le (by omega) (by omega)
                      · cases hr)
                rw [hres] at hR'
                obtain ⟨v, rs, e1, hv, hR2⟩ := k_pop hR'
                cases e1
                have hlv' := k_lvs_has hR2.2.2.1.1 hR2.2.2.1.2.1 hR2.2.2.1.2.2
                have hmem : (j, Value.int x) ∈ (j, Value.int x) :: k_lvs ρ' loc' := List.mem_cons_self
                have hlv2 : lv_has ls nL ((j, Value.int x) :: k_lvs ρ' loc') := ⟨hlv'.1, hlv'.2.1, fun w hw => by
                  rcases List.mem_cons.mp hw with e | e
                  · subst e; exact hs0
                  · exact hlv'.2.2 w e⟩
                refine lv_iinc (k := 0) (v := x + Int32.ofInt c) hx hb hd hlv2 rfl rfl (by omega) rfl (fun ls' h => hk _ List.mem_cons_self ρ' H locs ls' _ hH hW (k_set1 hR2 hv ⟨h.1, h.2.1, fun w hw => h.2.2 w ?_⟩))
                rcases List.mem_cons.mp hw with e | e
                · subst e; exact List.mem_cons_self
                · refine List.mem_cons_of_mem _ ?_
                  rw [List.mem_filter] at e ⊢
                  exact ⟨List.mem_cons_of_mem _ e.1, e.2⟩
              · cases e
            · cases e
          · cases e
        · cases e
      · cases e
    · cases e
-- 4: the stack
def k_g4 (pc : Nat) (i : Instr) (L : Nat) : kSt → Option (List (Nat × kSt))
  | (n, env, loc, stk, ff, rel, len, g, par) => if Nat.beq L 1 = true then (match i, stk with
    | .pop, a :: r => if k_is1 env a = true then some [(pc + 1, (n, env, loc, r, ff, rel, len, g, par))] else none
    | .dup, a :: r => if k_is1 env a = true then some [(pc + 1, (n, env, loc, a :: a :: r, ff, rel, len, g, par))] else none
    | .dup_x1, a :: b :: r => if (k_is1 env a && k_is1 env b) = true then some [(pc + 1, (n, env, loc, a :: b :: a :: r, ff, rel, len, g, par))] else none
    | .dup2, a :: b :: r => if (k_is1 env a && k_is1 env b) = true then some [(pc + 1, (n, env, loc, a :: b :: a :: b :: r, ff, rel, len, g, par))] else none
    | _, _ => none) else none
theorem k_g4_ok {i : Instr} {L : Nat} {σ : kSt} {l : List (Nat × kSt)} (hF : k_Fx X cc nL own) (hd : decode cc pc = .ok (i, L)) (e : k_g4 pc i L σ = some l) (hk : ∀ q ∈ l, k_good X E nL τ vs mods H0 q.1 q.2) : k_good X E nL τ vs mods H0 pc σ := by
  obtain ⟨n, env, loc, stk, ff, rel, len, g, par⟩ := σ
  intro ρ H locs ls st hH hW hR
  obtain ⟨hx, hb, hml, ho⟩ := hF
  have he := k_envR hR
  unfold k_g4 at e
  dsimp only at e
  split at e
  · rename_i y
    have y := Nat.eq_of_beq_eq_true y
    subst y
    split at e
    · split at e
      · rename_i c
        cases e
        obtain ⟨v, rs, rfl, hv, hR2⟩ := k_pop hR
        exact lv_pop hx hb hd (k_is1_ok he c hv) (hk _ List.mem_cons_self ρ H locs ls _ hH hW hR2)
      · cases e
    · split at e
      · rename_i c
        cases e
        obtain ⟨v, rs, rfl, hv, hR2⟩ := k_pop hR
        exact lv_dup hx hb hd (k_is1_ok he c hv) (hk _ List.mem_cons_self ρ H locs ls _ hH hW (k_psh (k_psh hR2 hv) hv))
      · cases e
    · split at e
      · rename_i c
        rw [Bool.and_eq_true] at c
        cases e
        obtain ⟨v, rs, rfl, hv, hR2⟩ := k_pop hR
        obtain ⟨v2, rs2, rfl, hv2, hR3⟩ := k_pop hR2
        exact lv_dup_x1 hx hb hd (k_is1_ok he c.1 hv) (k_is1_ok he c.2 hv2) (hk _ List.mem_cons_self ρ H locs ls _ hH hW (k_psh (k_psh (k_psh hR3 hv) hv2) hv))
      · cases e
    · split at e
      · rename_i c
        rw [Bool.and_eq_true] at c
        cases e
        obtain ⟨v, rs, rfl, hv, hR2⟩ := k_pop hR
        obtain ⟨v2, rs2, rfl, hv2, hR3⟩ := k_pop hR2
        exact lv_dup2_11 hx hb hd (k_is1_ok he c.1 hv) (k_is1_ok he c.2 hv2) (hk _ List.mem_cons_self ρ H locs ls _ hH hW (k_psh (k_psh (k_psh (k_psh hR3 hv2) hv) hv2) hv))
      · cases e
    · cases e
  · cases e
-- 5: two ints
def k_nz (q : kB) : Bool := k_le 1 q.1 || k_le q.2 (-1)
theorem k_nz_ok {q : kB} {x : Int32} (e : k_nz q = true) (h : k_in q x.toInt) : ¬ x = 0 := by
  unfold k_nz at e
  rw [Bool.or_eq_true, k_le_iff, k_le_iff] at e
  intro z
  subst z
  have h0 : (0 : Int32).toInt = 0 := rfl
  have := h.1
  have := h.2
  omega
theorem k_nz_okL {q : kB} {x : Int64} (e : k_nz q = true) (h : k_in q x.toInt) : ¬ x = 0 := by
  unfold k_nz at e
  rw [Bool.or_eq_true, k_le_iff, k_le_iff] at e
  intro z
  subst z
  have h0 : (0 : Int64).toInt = 0 := rfl
  have := h.1
  have := h.2
  omega
def k_bin : Instr → kB → kB → Option kB
  | .iadd, p, q => some (k_fit (k_addB p q))
  | .isub, p, q => some (k_fit (k_subB p q))
  | .imul, p, q => some (k_mulI p q)
  | .idiv, p, q => if k_nz q = true then some (k_divI p q) else none
  | .irem, p, q => if k_nz q = true then some (k_remI p q) else none
  | .iand, p, q => some (k_andI p q)
  | .ior, p, q => some (k_orI p q)
  | .ixor, _, _ => some k_top
  | .ishl, p, q => some (k_shlI p q)
  | .ishr, p, q => some (k_shrI p q)
  | .iushr, _, _ => some k_top
  | _, _, _ => none
def k_binV : Instr → Int32 → Int32 → Int32
  | .iadd, x, y => x + y
  | .isub, x, y => x - y
  | .imul, x, y => x * y
  | .idiv, x, y => x / y
  | .irem, x, y => x - x / y * y
  | .iand, x, y => x &&& y
  | .ior, x, y => x ||| y
  | .ixor, x, y => x ^^^ y
  | .ishl, x, y => x <<< (y &&& 31)
  | .ishr, x, y => x >>> (y &&& 31)
  | .iushr, x, y => (x.toUInt32 >>> (y.toUInt32 &&& Int32.toUInt32 31)).toInt32
  | _, x, _ => x
theorem k_bin_ok {i : Instr} {p q r : kB} {x y : Int32} (hF : k_Fx X cc nL own) (hd : decode cc pc = .ok (i, 1)) (e : k_bin i p q = some r) (hp : k_in p x.toInt) (hq : k_in q y.toInt) :
    k_in r (k_binV i x y).toInt ∧ (kw X H locs (pc + 1) ls (.int (k_binV i x y) :: st) → kw X H locs pc ls (.int y :: .int x :: st)) := by
  obtain ⟨hx, hb, hml, ho⟩ := hF
  unfold k_bin at e
  split at e
  · cases e; exact ⟨k_addI_ok hp hq, fun k => lv_iadd hx hb hd k⟩
  · cases e; exact ⟨k_subI_ok hp hq, fun k => lv_isub hx hb hd k⟩
  · cases e; exact ⟨k_mulI_ok hp hq, fun k => lv_imul hx hb hd k⟩
  · split at e
    · rename_i c; cases e; exact ⟨k_divI_ok hp hq, fun k => lv_idiv hx hb hd (k_nz_ok c hq) k⟩
    · cases e
  · split at e
    · rename_i c; cases e; exact ⟨k_remI_ok hp hq, fun k => lv_irem hx hb hd (k_nz_ok c hq) k⟩
    · cases e
  · cases e; exact ⟨k_andI_ok hp hq, fun k => lv_iand hx hb hd k⟩
  · cases e; exact ⟨k_orI_ok hp hq, fun k => lv_ior hx hb hd k⟩
  · cases e; exact ⟨k_in_top _, fun k => lv_ixor hx hb hd k⟩
  · cases e; exact ⟨k_shlI_ok hp hq, fun k => lv_ishl hx hb hd k⟩
  · cases e; exact ⟨k_shrI_ok hp hq, fun k => lv_ishr hx hb hd k⟩
  · cases e; exact ⟨k_in_top _, fun k => lv_iushr hx hb hd rfl k⟩
  · cases e
/-- what the sum or difference was made of -/
def k_dfn (i : Instr) (n : Nat) (ox oy : kOp) (p q : kB) : List (Nat × Nat × Nat × Nat × Int) := match i with
  | .iadd => if k_inr (k_addB p q) = true then (match ox, oy with
    | .inl s, .inl s' => if k_eqi q.1 q.2 = true then [(0, n, s, 0, q.1)] else if k_eqi p.1 p.2 = true then [(0, n, s', 0, p.1)] else []
    | .inl s, .inr _ => if k_eqi q.1 q.2 = true then [(0, n, s, 0, q.1)] else []
    | .inr _, .inl s' => if k_eqi p.1 p.2 = true then [(0, n, s', 0, p.1)] else []
    | _, _ => []) else []
  | .isub => if k_inr (k_subB p q) = true then (match ox with
    | .inl s => if k_eqi q.1 q.2 = true then [(0, n, s, 0, - q.1)] else []
    | .inr _ => []) else []
  | _ => []
theorem k_rel0 {a b c : Nat} {k : Int} {x y : Int32} (h1 : ρ a = some (.int x)) (h2 : ρ b = some (.int y)) (h3 : x.toInt = y.toInt + k) : k_rel ρ (0, a, b, c, k) := k_r0 ⟨x, y, h1, h2, h3⟩
theorem k_dfn_ok {i : Instr} {ox oy : kOp} {p q : kB} {x y : Int32} (hx : k_v ρ ox = some (.int x)) (hy : k_v ρ oy = some (.int y)) (hp : k_in p x.toInt) (hq : k_in q y.toInt) (hn : ρ n = some (.int (k_binV i x y))) : ∀ r ∈ k_dfn i n ox oy p q, k_rel ρ r := by
  intro r hr
  unfold k_dfn at hr
  split at hr
  · split at hr
    · rename_i c
      unfold k_inr at c
      rw [Bool.and_eq_true, k_le_iff, k_le_iff] at c
      have hs : (x + y).toInt = x.toInt + y.toInt := by
        rw [Int32.toInt_add]
        obtain ⟨i1, i2⟩ := k_addB_ok hp hq
        exact Int.bmod_eq_of_le (by omega) (by omega)
      have hn : ρ n = some (.int (x + y)) := hn
      have a1 := hp.1
      have a2 := hp.2
      have a3 := hq.1
      have a4 := hq.2
      split at hr
      · split at hr
        · rename_i z
          rw [k_eqi_iff] at z
          rw [List.mem_singleton] at hr
          subst hr
          exact k_rel0 hn hx (by omega)
        · split at hr
          · rename_i z
            rw [k_eqi_iff] at z
            rw [List.mem_singleton] at hr
            subst hr
            exact k_rel0 hn hy (by omega)
          · cases hr
      · split at hr
        · rename_i z
          rw [k_eqi_iff] at z
          rw [List.mem_singleton] at hr
          subst hr
          exact k_rel0 hn hx (by omega)
        · cases hr
      · split at hr
        · rename_i z
          rw [k_eqi_iff] at z
          rw [List.mem_singleton] at hr
          subst hr
          exact k_rel0 hn hy (by omega)
        · cases hr
      · cases hr
    · cases hr
  · split at hr
    · rename_i c
      unfold k_inr at c
      rw [Bool.and_eq_true, k_le_iff, k_le_iff] at c
      have hs : (x - y).toInt = x.toInt - y.toInt := by
        rw [Int32.toInt_sub]
        obtain ⟨i1, i2⟩ := k_subB_ok hp hq
        exact Int.bmod_eq_of_le (by omega) (by omega)
      have hn : ρ n = some (.int (x - y)) := hn
      have a3 := hq.1
      have a4 := hq.2
      split at hr
      · split at hr
        · rename_i z
          rw [k_eqi_iff] at z
          rw [List.mem_singleton] at hr
          subst hr
          exact k_rel0 hn hx (by omega)
        · cases hr
      · cases hr
    · cases hr
  · cases hr
/-- has this sum of two symbols been made before -/
def k_cse (i : Instr) (ox oy : kOp) : List (Nat × Nat × Nat × Nat × Int) → Option Nat
  | [] => none
  | q :: r => match i, ox, oy with
    | .iadd, .inl a, .inl b => if (Nat.beq q.1 6 && (Nat.beq q.2.2.1 a && Nat.beq q.2.2.2.1 b)) = true then some q.2.1 else k_cse i ox oy r
    | _, _, _ => none
theorem k_cse_ok {i : Instr} {ox oy : kOp} {m : Nat} {x y : Int32} (hx : k_v ρ ox = some (.int x)) (hy : k_v ρ oy = some (.int y)) : ∀ {rel : List (Nat × Nat × Nat × Nat × Int)}, (∀ q ∈ rel, k_rel ρ q) → k_cse i ox oy rel = some m → i = .iadd ∧ ρ m = some (.int (x + y))
  | [], _, e => by cases e
  | q :: r, h, e => by
    unfold k_cse at e
    split at e
    · rename_i a b
      split at e
      · rename_i c
        rw [Bool.and_eq_true, Bool.and_eq_true] at c
        cases e
        obtain ⟨x', y', h1, h2, h3⟩ := (h q List.mem_cons_self).2.2.2.2.1 (Nat.eq_of_beq_eq_true c.1)
        rw [Nat.eq_of_beq_eq_true c.2.1] at h1
        rw [Nat.eq_of_beq_eq_true c.2.2] at h2
        have e1 : x' = x := Value.int.inj (Option.some.inj (h1.symm.trans hx))
        have e2 : y' = y := Value.int.inj (Option.some.inj (h2.symm.trans hy))
        rw [e1, e2] at h3
        exact ⟨rfl, h3⟩
      · exact k_cse_ok hx hy (fun z hz => h z (List.mem_cons_of_mem _ hz)) e
    · cases e
def k_sum2 (i : Instr) (n : Nat) (ox oy : kOp) : List (Nat × Nat × Nat × Nat × Int) := match i, ox, oy with
  | .iadd, .inl a, .inl b => [(6, n, a, b, 0)]
  | _, _, _ => []
def k_g5 (pc : Nat) (i : Instr) (L : Nat) : kSt → Option (List (Nat × kSt))
  | (n, env, loc, oy :: ox :: r, ff, rel, len, g, par) => if Nat.beq L 1 = true then (match k_ivl env ox, k_ivl env oy with
    | some p, some q => match k_bin i p q with
      | some b => match k_cse i ox oy rel with
        | some m => some [(pc + 1, (n, env, loc, .inl m :: r, ff, rel, len, g, par))]
        | none => some [(pc + 1, k_resI b (k_sum2 i n ox oy ++ k_dfn i n ox oy p q) (n, env, loc, r, ff, rel, len, g, par))]
      | none => none
    | _, _ => none) else none
  | _ => none
theorem k_g5_ok {i : Instr} {L : Nat} {σ : kSt} {l : List (Nat × kSt)} (hF : k_Fx X cc nL own) (hd : decode cc pc = .ok (i, L)) (e : k_g5 pc i L σ = some l) (hk : ∀ q ∈ l, k_good X E nL τ vs mods H0 q.1 q.2) : k_good X E nL τ vs mods H0 pc σ := by
  unfold k_g5 at e
  split at e
  · rename_i n env loc oy ox r ff rel len g par
    intro ρ H locs ls st hH hW hR
    split at e
    · rename_i y
      have y := Nat.eq_of_beq_eq_true y
      subst y
      split at e
      · rename_i p q hp hq
        split at e
        · rename_i b hb
          obtain ⟨v, rs, rfl, hv, hR2⟩ := k_pop hR
          obtain ⟨v2, rs2, rfl, hv2, hR3⟩ := k_pop hR2
          obtain ⟨x, hx1, hx2⟩ := k_ivl_ok (k_envR hR) hp
          obtain ⟨y, hy1, hy2⟩ := k_ivl_ok (k_envR hR) hq
          cases hv.symm.trans hy1
          cases hv2.symm.trans hx1
          obtain ⟨h1, h2⟩ := k_bin_ok (H := H) (locs := locs) (ls := ls) (st := rs2) hF hd hb hx2 hy2
          split at e
          · rename_i m hm
            cases e
            obtain ⟨rfl, hm2⟩ := k_cse_ok hx1 hy1 (k_relR hR) hm
            exact h2 (hk _ List.mem_cons_self ρ H locs ls _ hH hW (k_psh hR3 hm2))
          · cases e
            obtain ⟨ρ', hR'⟩ := k_resI_ok (d := k_sum2 i n ox oy ++ k_dfn i n ox oy p q) hR3 h1 (fun ρ' hu hn z hz => by
              rcases List.mem_append.mp hz with w | w
              · unfold k_sum2 at w
                split at w
                · rw [List.mem_singleton] at w
                  subst w
                  exact k_r6 ⟨x, y, hu _ _ hx1, hu _ _ hy1, hn⟩
                · cases w
              · exact k_dfn_ok (k_v_up hu hx1) (k_v_up hu hy1) hx2 hy2 hn z w)
            exact h2 (hk _ List.mem_cons_self ρ' H locs ls _ hH hW hR')
        · cases e
      · cases e
    · cases e
  · cases e
-- 6: longs, conversions
def k_lbin (nzk : Bool) : Instr → kB → kB → Option kB
  | .ladd, p, q => some (k_fitL (k_addB p q))
  | .lsub, p, q => some (k_fitL (k_subB p q))
  | .lmul, p, q => some (k_mulJ p q)
  | .ldiv, p, q => if (nzk || k_nz q) = true then some (k_divJ p q) else none
  | .lrem, p, q => if (nzk || k_nz q) = true then some (k_remJ p q) else none
  | .land, p, q => some (k_andJ p q)
  | .lor, _, _ => some k_topL
  | _, _, _ => none
theorem k_lbin_ok {nzk : Bool} {i : Instr} {p q r : kB} {x y : Int64} (hF : k_Fx X cc nL own) (hd : decode cc pc = .ok (i, 1)) (e : k_lbin nzk i p q = some r) (hp : k_in p x.toInt) (hq : k_in q y.toInt) (hz : nzk = true → ¬ y = 0) :
    ∃ z : Int64, k_in r z.toInt ∧ (kw X H locs (pc + 1) ls (.long z :: st) → kw X H locs pc ls (.long y :: .long x :: st)) := by
  obtain ⟨hx, hb, hml, ho⟩ := hF
  unfold k_lbin at e
  split at e
  · cases e; exact ⟨_, k_addJ_ok hp hq, fun k => lv_ladd hx hb hd k⟩
  · cases e; exact ⟨_, k_subJ_ok hp hq, fun k => lv_lsub hx hb hd k⟩
  · cases e; exact ⟨_, k_mulJ_ok hp hq, fun k => lv_lmul hx hb hd k⟩
  · split at e
    · rename_i c; cases e; exact ⟨_, k_divJ_ok hp hq, fun k => lv_ldiv hx hb hd ((Bool.or_eq_true _ _ ▸ c).elim hz (fun c => k_nz_okL c hq)) k⟩
    · cases e
  · split at e
    · rename_i c; cases e; exact ⟨_, k_remJ_ok hp hq, fun k => lv_lrem hx hb hd ((Bool.or_eq_true _ _ ▸ c).elim hz (fun c => k_nz_okL c hq)) k⟩
    · cases e
  · cases e; exact ⟨_, k_andJ_ok hp hq, fun k => lv_land hx hb hd k⟩
  · cases e; exact ⟨_, k_in_topL _, fun k => lv_lor hx hb hd k⟩
  · cases e
/-- is it known that the long o isn't 0 -/
def k_isnz (rel : List (Nat × Nat × Nat × Nat × Int)) (o : kOp) : Bool := match o with
  | .inl s => rel.any (fun q => Nat.beq q.1 7 && Nat.beq q.2.1 s)
  | .inr _ => false
theorem k_isnz_ok {o : kOp} {y : Int64} (hr : ∀ q ∈ rel, k_rel ρ q) (hy : k_v ρ o = some (.long y)) (e : k_isnz rel o = true) : ¬ y = 0 := by
  unfold k_isnz at e
  split at e
  · rename_i s
    rw [List.any_eq_true] at e
    obtain ⟨q, hq, e⟩ := e
    rw [Bool.and_eq_true] at e
    obtain ⟨x, h1, h2⟩ := (hr q hq).2.2.2.2.2 (Nat.eq_of_beq_eq_true e.1)
    rw [Nat.eq_of_beq_eq_true e.2] at h1
    have : x = y := Value.long.inj (Option.some.inj (h1.symm.trans hy))
    subst this
    exact h2
  · cases e
def k_sym2 (n : Nat) (a b : kOp) : List (Nat × Nat × Nat × Nat × Int) := match a, b with
  | .inl s, .inl s' => [(4, n, s, s', 0)]
  | _, _ => []
def k_sym1 (n : Nat) (a : kOp) : List (Nat × Nat × Nat × Nat × Int) := match a with
  | .inl s => [(5, n, s, 0, 0)]
  | _ => []
def k_g6 (pc : Nat) (i : Instr) (L : Nat) : kSt → Option (List (Nat × kSt))
  | (n, env, loc, stk, ff, rel, len, g, par) => if Nat.beq L 1 = true then (match i, stk with
    | .i2l, o :: r => match k_ivl env o with
      | some q => some [(pc + 1, k_resJ q (k_sym1 n o) (n, env, loc, r, ff, rel, len, g, par))]
      | none => none
    | .l2i, o :: r => match k_lvl env o with
      | some q => some [(pc + 1, k_resI (if k_inr q = true then q else k_top) [] (n, env, loc, r, ff, rel, len, g, par))]
      | none => none
    | .i2b, o :: r => match k_ivl env o with
      | some q => some [(pc + 1, k_resI (if k_bw q (-128, 127) = true then q else (-128, 127)) [] (n, env, loc, r, ff, rel, len, g, par))]
      | none => none
    | .lcmp, oy :: ox :: r => match k_lvl env ox, k_lvl env oy with
      | some _, some _ => some [(pc + 1, k_resI (-1, 1) (k_sym2 n ox oy) (n, env, loc, r, ff, rel, len, g, par))]
      | _, _ => none
    | .lshl, oy :: ox :: r => match k_lvl env ox, k_ivl env oy with
      | some _, some _ => some [(pc + 1, k_resJ k_topL [] (n, env, loc, r, ff, rel, len, g, par))]
      | _, _ => none
    | _, oy :: ox :: r => match k_lvl env ox, k_lvl env oy with
      | some p, some q => match k_lbin (k_isnz rel oy) i p q with
        | some b => some [(pc + 1, k_resJ b [] (n, env, loc, r, ff, rel, len, g, par))]
        | none => none
      | _, _ => none
    | _, _ => none) else none
theorem k_i2b_ok {x : Int32} {q : kB} (h : k_in q x.toInt) : k_in (if k_bw q (-128, 127) = true then q else (-128, 127)) (x.toInt8.toInt32).toInt := by
  have e : (x.toInt8.toInt32).toInt = x.toInt.bmod (2 ^ 8) := by rw [Int8.toInt_toInt32, Int32.toInt_toInt8]
  split
  · rename_i c
    unfold k_bw at c
    rw [Bool.and_eq_true, k_le_iff, k_le_iff] at c
    have h1 := h.1
    have h2 := h.2
    have c1 := c.1
    have c2 := c.2
    dsimp only at c1 c2
    rw [e, Int.bmod_eq_of_le (by omega) (by omega)]
    exact h
  · have h1 := (x.toInt8).le_toInt
    have h2 := (x.toInt8).toInt_lt
    rw [Int8.toInt_toInt32]
    exact ⟨by show (-128 : Int) ≤ _; omega, by show _ ≤ (127 : Int); omega⟩
theorem k_cmp_in (x y : Int64) : k_in (-1, 1) (lg_cmp x y).toInt := by
  unfold lg_cmp
  split
  · exact ⟨by decide, by decide⟩
  · split
    · exact ⟨by decide, by decide⟩
    · exact ⟨by decide, by decide⟩
theorem k_g6_ok {i : Instr} {L : Nat} {σ : kSt} {l : List (Nat × kSt)} (hF : k_Fx X cc nL own) (hd : decode cc pc = .ok (i, L)) (e : k_g6 pc i L σ = some l) (hk : ∀ q ∈ l, k_good X E nL τ vs mods H0 q.1 q.2) : k_good X E nL τ vs mods H0 pc σ := by
  obtain ⟨n, env, loc, stk, ff, rel, len, g, par⟩ := σ
  intro ρ H locs ls st hH hW hR
  have he := k_envR hR
  unfold k_g6 at e
  dsimp only at e
  split at e
  · rename_i y
    have y := Nat.eq_of_beq_eq_true y
    subst y
    split at e
    · rename_i o r
      split at e
      · rename_i q hq
        cases e
        obtain ⟨v, rs, rfl, hv, hR2⟩ := k_pop hR
        obtain ⟨x, hx1, hx2⟩ := k_ivl_ok he hq
        cases hv.symm.trans hx1
        have ex : (x.toInt64).toInt = x.toInt := Int32.toInt_toInt64 x
        obtain ⟨ρ', hR'⟩ := k_resJ_ok (q := q) (d := k_sym1 n o) (x := x.toInt64) hR2 (by rw [ex]; exact hx2) (by
          intro ρ' hu hn r' hr
          unfold k_sym1 at hr
          split at hr
          · rw [List.mem_singleton] at hr
            subst hr
            exact k_r5 ⟨_, x, hn, hu _ _ hx1, ex⟩
          · cases hr)
        exact lv_i2l hF.1 hF.2.1 hd rfl (hk _ List.mem_cons_self ρ' H locs ls _ hH hW hR')
      · cases e
    · rename_i o r
      split at e
      · rename_i q hq
        cases e
        obtain ⟨v, rs, rfl, hv, hR2⟩ := k_pop hR
        obtain ⟨x, hx1, hx2⟩ := k_lvl_ok he hq
        cases hv.symm.trans hx1
        have hin : k_in (if k_inr q = true then q else k_top) (x.toInt32).toInt := by
          split
          · rename_i c
            unfold k_inr at c
            rw [Bool.and_eq_true, k_le_iff, k_le_iff] at c
            rw [Int64.toInt_toInt32]
            have h1 := hx2.1
            have h2 := hx2.2
            rw [Int.bmod_eq_of_le (by omega) (by omega)]
            exact hx2
          · exact k_in_top _
        obtain ⟨ρ', hR'⟩ := k_resI_ok (d := []) hR2 hin (fun _ _ _ => k_nod)
        exact lv_l2i hF.1 hF.2.1 hd rfl (hk _ List.mem_cons_self ρ' H locs ls _ hH hW hR')
      · cases e
    · rename_i o r
      split at e
      · rename_i q hq
        cases e
        obtain ⟨v, rs, rfl, hv, hR2⟩ := k_pop hR
        obtain ⟨x, hx1, hx2⟩ := k_ivl_ok he hq
        cases hv.symm.trans hx1
        obtain ⟨ρ', hR'⟩ := k_resI_ok (d := []) hR2 (k_i2b_ok hx2) (fun _ _ _ => k_nod)
        exact lv_i2b hF.1 hF.2.1 hd rfl (hk _ List.mem_cons_self ρ' H locs ls _ hH hW hR')
      · cases e
    · rename_i oy ox r
      split at e
      · rename_i p q hp hq
        cases e
        obtain ⟨v, rs, rfl, hv, hR2⟩ := k_pop hR
        obtain ⟨v2, rs2, rfl, hv2, hR3⟩ := k_pop hR2
        obtain ⟨x, hx1, hx2⟩ := k_lvl_ok he hp
        obtain ⟨y, hy1, hy2⟩ := k_lvl_ok he hq
        cases hv.symm.trans hy1
        cases hv2.symm.trans hx1
        obtain ⟨ρ', hR'⟩ := k_resI_ok (d := k_sym2 n ox oy) hR3 (k_cmp_in x y) (by
          intro ρ' hu hn r' hr
          unfold k_sym2 at hr
          split at hr
          · rw [List.mem_singleton] at hr
            subst hr
            exact k_r4 ⟨_, x, y, hn, hu _ _ hx1, hu _ _ hy1, rfl⟩
          · cases hr)
        exact W.lcmp hF.1 hF.2.1 hd (hk _ List.mem_cons_self ρ' H locs ls _ hH hW hR')
      · cases e
    · rename_i oy ox r
      split at e
      · rename_i p q hp hq
        cases e
        obtain ⟨v, rs, rfl, hv, hR2⟩ := k_pop hR
        obtain ⟨v2, rs2, rfl, hv2, hR3⟩ := k_pop hR2
        obtain ⟨x, hx1, hx2⟩ := k_lvl_ok he hp
        obtain ⟨y, hy1, hy2⟩ := k_ivl_ok he hq
        cases hv.symm.trans hy1
        cases hv2.symm.trans hx1
        obtain ⟨ρ', hR'⟩ := k_resJ_ok (q := k_topL) (d := []) (x := x <<< (y.toInt64 &&& 63)) hR3 (k_in_topL _) (fun _ _ _ => k_nod)
        exact lv_lshl hF.1 hF.2.1 hd rfl (hk _ List.mem_cons_self ρ' H locs ls _ hH hW hR')
      · cases e
    · rename_i oy ox r _ _ _ _ _
      split at e
      · rename_i p q hp hq
        split at e
        · rename_i b hb
          cases e
          obtain ⟨v, rs, rfl, hv, hR2⟩ := k_pop hR
          obtain ⟨v2, rs2, rfl, hv2, hR3⟩ := k_pop hR2
          obtain ⟨x, hx1, hx2⟩ := k_lvl_ok he hp
          obtain ⟨y, hy1, hy2⟩ := k_lvl_ok he hq
          cases hv.symm.trans hy1
          cases hv2.symm.trans hx1
          obtain ⟨z, h1, h2⟩ := k_lbin_ok (H := H) (locs := locs) (ls := ls) (st := rs2) hF hd hb hx2 hy2 (k_isnz_ok (k_relR hR) hy1)
          obtain ⟨ρ', hR'⟩ := k_resJ_ok (d := []) hR3 h1 (fun _ _ _ => k_nod)
          exact h2 (hk _ List.mem_cons_self ρ' H locs ls _ hH hW hR')
        · cases e
      · cases e
    · cases e
  · cases e
-- 7: branches
def k_tgt (pc : Nat) (off : Int) : Option Nat := match (pc : Int) + off with
  | .ofNat t => some t
  | .negSucc _ => none
theorem k_tgt_ok {off : Int} {t : Nat} (e : k_tgt pc off = some t) : (pc : Int) + off = (t : Int) := by
  unfold k_tgt at e
  split at e
  · rename_i t' h
    cases e
    exact h
  · cases e
def k_asm (op : ClassFile.Cond) (x y : kOp) (p q : kB) (rel : List (Nat × Nat × Nat × Nat × Int)) (env : List (Nat × kInfo)) : Option (List (Nat × kInfo)) := match k_refO rel env x (.inl (k_bnd op p q).1) with
  | some e1 => match k_refO rel e1 y (.inl (k_bnd op p q).2) with
    | some e2 => some (match x with
      | .inl s => if (k_eqi q.1 0 && k_eqi q.2 0) = true then k_cmpL op s rel rel e2 else e2
      | .inr _ => e2)
    | none => none
  | none => none
theorem k_ivl_c {c : Int} {p : kB} (e : k_ivl env (.inr c) = some p) : (Int32.ofInt c).toInt = c := by
  unfold k_ivl at e
  dsimp only at e
  split at e
  · rename_i z
    rw [Bool.and_eq_true, k_le_iff, k_le_iff] at z
    rw [Int32.toInt_ofInt]
    have e2 : (Int32.size : Int) = 4294967296 := rfl
    exact Int.bmod_eq_of_le (by omega) (by omega)
  · cases e
theorem k_asm_ok {op : ClassFile.Cond} {ox oy : kOp} {p q : kB} {x y : Int32} (hr : ∀ r ∈ rel, k_rel ρ r) (he : k_env τ ρ env) (ex : k_ivl env ox = some p) (ey : k_ivl env oy = some q) (hx : k_v ρ ox = some (.int x)) (hy : k_v ρ oy = some (.int y)) (hp : k_in p x.toInt) (hq : k_in q y.toInt) (hc : k_cond op x.toInt y.toInt) : ∃ e, k_asm op ox oy p q rel env = some e ∧ k_env τ ρ e := by
  obtain ⟨b1, b2⟩ := k_bnd_ok hp hq hc
  obtain ⟨e1, j1, j2⟩ := k_refO_ok hr he hx (y := .inl (k_bnd op p q).1) ⟨x, rfl, b1⟩ (fun c hc => by subst hc; exact k_ivl_c ex)
  obtain ⟨e2, j3, j4⟩ := k_refO_ok hr j2 hy (y := .inl (k_bnd op p q).2) ⟨y, rfl, b2⟩ (fun c hc => by subst hc; exact k_ivl_c ey)
  unfold k_asm
  rw [j1]
  dsimp only
  rw [j3]
  dsimp only
  refine ⟨_, rfl, ?_⟩
  split
  · rename_i s
    split
    · rename_i z
      rw [Bool.and_eq_true, k_eqi_iff, k_eqi_iff] at z
      refine k_cmpL_ok hr hx ?_ hr j4
      have h1 := hq.1
      have h2 := hq.2
      rw [show y.toInt = 0 by omega] at hc
      exact hc
    · exact j4
  · exact j4
theorem k_ltr_ok {op : ClassFile.Cond} {ox oy : kOp} {x y : Int32} (hx : k_v ρ ox = some (.int x)) (hy : k_v ρ oy = some (.int y)) (hc : k_cond op x.toInt y.toInt) : ∀ r ∈ k_ltr op ox oy, k_rel ρ r := by
  intro r hr
  unfold k_ltr at hr
  split at hr
  · rw [List.mem_singleton] at hr
    subst hr
    exact k_r1 ⟨x, y, hx, hy, hc⟩
  · rw [List.mem_singleton] at hr
    subst hr
    exact k_r1 ⟨y, x, hy, hx, hc⟩
  · cases hr
/-- a comparing of a long with 0 that is not 0 -/
def k_nzr (op : ClassFile.Cond) (x : kOp) (q : kB) (env : List (Nat × kInfo)) (rel : List (Nat × Nat × Nat × Nat × Int)) : List (Nat × Nat × Nat × Nat × Int) := match op, x with
  | .ne, .inl s => if (k_eqi q.1 0 && k_eqi q.2 0) = true then rel.filterMap (fun r => if (Nat.beq r.1 4 && Nat.beq r.2.1 s) = true then (match k_lvl env (.inl r.2.2.2.1) with
      | some z => if (k_eqi z.1 0 && k_eqi z.2 0) = true then some (7, r.2.2.1, 0, 0, 0) else none
      | none => none) else none) else []
  | _, _ => []
theorem k_nzr_ok {op : ClassFile.Cond} {ox : kOp} {q : kB} {x y : Int32} (hr : ∀ r ∈ rel, k_rel ρ r) (he : k_env τ ρ env) (hx : k_v ρ ox = some (.int x)) (hq : k_in q y.toInt) (hc : k_cond op x.toInt y.toInt) : ∀ r ∈ k_nzr op ox q env rel, k_rel ρ r := by
  intro r hm
  unfold k_nzr at hm
  split at hm
  · rename_i s
    split at hm
    · rename_i z
      rw [Bool.and_eq_true, k_eqi_iff, k_eqi_iff] at z
      rw [List.mem_filterMap] at hm
      obtain ⟨p, hp, hm⟩ := hm
      split at hm
      · rename_i c
        rw [Bool.and_eq_true] at c
        split at hm
        · rename_i w hw
          split at hm
          · rename_i c2
            rw [Bool.and_eq_true, k_eqi_iff, k_eqi_iff] at c2
            cases hm
            obtain ⟨v, a, b, h1, h2, h3, h4⟩ := (hr p hp).2.2.1 (Nat.eq_of_beq_eq_true c.1)
            rw [Nat.eq_of_beq_eq_true c.2] at h1
            have hvx : v = x := Value.int.inj (Option.some.inj (h1.symm.trans hx))
            obtain ⟨b', w1, w2⟩ := k_lvl_ok he hw
            have hbb : b' = b := Value.long.inj (Option.some.inj (w1.symm.trans h3))
            subst hbb
            have i1 := w2.1
            have i2 := w2.2
            have j1 := hq.1
            have j2 := hq.2
            refine k_r7 ⟨a, h2, fun ha => ?_⟩
            have hx0 : x.toInt ≠ y.toInt := hc
            have hb0 : b' = 0 := Int64.toInt_inj.mp (by rw [show b'.toInt = 0 by omega]; rfl)
            rw [ha, hb0] at h4
            have : v = 0 := by rw [h4]; rfl
            rw [← hvx, this] at hx0
            have h00 : (0 : Int32).toInt = 0 := rfl
            omega
          · cases hm
        · cases hm
      · cases hm
    · cases hm
  · cases hm
def k_br (op : ClassFile.Cond) (x y : kOp) (t pc' : Nat) : kSt → Option (List (Nat × kSt))
  | (n, env, loc, stk, ff, rel, len, g, par) => match k_ivl env x, k_ivl env y with
    | some p, some q => some ((match k_asm op x y p q rel env with
        | some e => [(t, (n, e, loc, stk, ff, k_nzr op x q env rel ++ (k_ltr op x y ++ rel), len, g, par))]
        | none => []) ++ (match k_asm (k_neg op) x y p q rel env with
        | some e => [(pc', (n, e, loc, stk, ff, k_nzr (k_neg op) x q env rel ++ (k_ltr (k_neg op) x y ++ rel), len, g, par))]
        | none => []))
    | _, _ => none
theorem k_br_ok {op : ClassFile.Cond} {ox oy : kOp} {t pc' : Nat} {l : List (Nat × kSt)} (hH : k_HT E τ H) (hW : k_wk E τ mods H0 H locs) (hR : k_R E nL τ vs ρ H ls st (n, env, loc, stk, ff, rel, len, g, par))
    (e : k_br op ox oy t pc' (n, env, loc, stk, ff, rel, len, g, par) = some l) (hk : ∀ q ∈ l, k_good X E nL τ vs mods H0 q.1 q.2) : ∃ x y : Int32, k_v ρ ox = some (.int x) ∧ k_v ρ oy = some (.int y) ∧ (k_cond op x.toInt y.toInt → kw X H locs t ls st) ∧ (¬ k_cond op x.toInt y.toInt → kw X H locs pc' ls st) := by
  unfold k_br at e
  dsimp only at e
  split at e
  · rename_i p q hp hq
    obtain ⟨x, hx1, hx2⟩ := k_ivl_ok (k_envR hR) hp
    obtain ⟨y, hy1, hy2⟩ := k_ivl_ok (k_envR hR) hq
    cases e
    refine ⟨x, y, hx1, hy1, fun hc => ?_, fun hc => ?_⟩
    · obtain ⟨e1, h1, h2⟩ := k_asm_ok (k_relR hR) (k_envR hR) hp hq hx1 hy1 hx2 hy2 hc
      have hR' := k_withRel (k_withEnv hR h2) (rel' := k_nzr op ox q env rel ++ (k_ltr op ox oy ++ rel)) (fun r hr => by
        rcases List.mem_append.mp hr with z | z
        · exact k_nzr_ok (k_relR hR) (k_envR hR) hx1 hy2 hc r z
        rcases List.mem_append.mp z with z | z
        · exact k_ltr_ok hx1 hy1 hc r z
        · exact k_relR hR r z)
      exact hk (t, _) (List.mem_append_left _ (by rw [h1]; exact List.mem_singleton.mpr rfl)) ρ H locs ls st hH hW hR'
    · have hc := k_neg_ok hc
      obtain ⟨e1, h1, h2⟩ := k_asm_ok (k_relR hR) (k_envR hR) hp hq hx1 hy1 hx2 hy2 hc
      have hR' := k_withRel (k_withEnv hR h2) (rel' := k_nzr (k_neg op) ox q env rel ++ (k_ltr (k_neg op) ox oy ++ rel)) (fun r hr => by
        rcases List.mem_append.mp hr with z | z
        · exact k_nzr_ok (k_relR hR) (k_envR hR) hx1 hy2 hc r z
        rcases List.mem_append.mp z with z | z
        · exact k_ltr_ok hx1 hy1 hc r z
        · exact k_relR hR r z)
      exact hk (pc', _) (List.mem_append_right _ (by rw [h1]; exact List.mem_singleton.mpr rfl)) ρ H locs ls st hH hW hR'
  · cases e
theorem k_icmpW {op : ClassFile.Cond} {off : Int} {t : Nat} {x y : Int32} (hF : k_Fx X cc nL own) (hd : decode cc pc = .ok (.if_icmp op off, 3)) (ht : (pc : Int) + off = (t : Int)) (k1 : k_cond op x.toInt y.toInt → kw X H locs t ls st) (k2 : ¬ k_cond op x.toInt y.toInt → kw X H locs (pc + 3) ls st) : kw X H locs pc ls (.int y :: .int x :: st) := by
  obtain ⟨hx, hb, -⟩ := hF
  cases op
  · exact lv_icmp_eq hx hb hd ht (fun h => k1 (Int32.toInt_inj.mpr h)) (fun h => k2 (fun z => h (Int32.toInt_inj.mp z)))
  · exact lv_icmp_ne hx hb hd ht (fun h => k1 (fun z => h (Int32.toInt_inj.mp z))) (fun h => k2 (fun z => z (Int32.toInt_inj.mpr h)))
  · exact lv_icmp_lt hx hb hd ht (fun h => k1 (Int32.lt_iff_toInt_lt.mp h)) (fun h => k2 (fun z => h (Int32.lt_iff_toInt_lt.mpr z)))
  · exact lv_icmp_ge hx hb hd ht (fun h => k1 (Int32.le_iff_toInt_le.mp h)) (fun h => k2 (fun z => h (Int32.le_iff_toInt_le.mpr z)))
  · exact lv_icmp_gt hx hb hd ht (fun h => k1 (Int32.lt_iff_toInt_lt.mp h)) (fun h => k2 (fun z => h (Int32.lt_iff_toInt_lt.mpr z)))
  · exact lv_icmp_le hx hb hd ht (fun h => k1 (Int32.le_iff_toInt_le.mp h)) (fun h => k2 (fun z => h (Int32.le_iff_toInt_le.mpr z)))
theorem k_ifW {op : ClassFile.Cond} {off : Int} {t : Nat} {x : Int32} (hF : k_Fx X cc nL own) (hd : decode cc pc = .ok (.ifCond op off, 3)) (ht : (pc : Int) + off = (t : Int)) (k1 : k_cond op x.toInt (0 : Int32).toInt → kw X H locs t ls st) (k2 : ¬ k_cond op x.toInt (0 : Int32).toInt → kw X H locs (pc + 3) ls st) : kw X H locs pc ls (.int x :: st) := by
  obtain ⟨hx, hb, -⟩ := hF
  cases op
  · exact lv_if_eq hx hb hd ht (fun h => k1 (Int32.toInt_inj.mpr h)) (fun h => k2 (fun z => h (Int32.toInt_inj.mp z)))
  · exact lv_if_ne hx hb hd ht (fun h => k1 (fun z => h (Int32.toInt_inj.mp z))) (fun h => k2 (fun z => z (Int32.toInt_inj.mpr h)))
  · exact lv_if_lt hx hb hd ht (fun h => k1 (Int32.lt_iff_toInt_lt.mp h)) (fun h => k2 (fun z => h (Int32.lt_iff_toInt_lt.mpr z)))
  · exact lv_if_ge hx hb hd ht (fun h => k1 (Int32.le_iff_toInt_le.mp h)) (fun h => k2 (fun z => h (Int32.le_iff_toInt_le.mpr z)))
  · exact lv_if_gt hx hb hd ht (fun h => k1 (Int32.lt_iff_toInt_lt.mp h)) (fun h => k2 (fun z => h (Int32.lt_iff_toInt_lt.mpr z)))
  · exact lv_if_le hx hb hd ht (fun h => k1 (Int32.le_iff_toInt_le.mp h)) (fun h => k2 (fun z => h (Int32.le_iff_toInt_le.mpr z)))
/-- the arms of a switch, by keys and offsets -/
def k_arms (pc : Nat) (o : kOp) : List (Int × Int) → kSt → Option (List (Nat × kSt))
  | [], _ => some []
  | a :: r, (n, env, loc, stk, ff, rel, len, g, par) => match k_tgt pc a.2, k_arms pc o r (n, env, loc, stk, ff, rel, len, g, par) with
    | some t, some l => some ((match k_refO rel env o (.inl (a.1, a.1)) with
      | some e => [(t, (n, e, loc, stk, ff, rel, len, g, par))]
      | none => []) ++ l)
    | _, _ => none
theorem k_arms_ok {o : kOp} {x : Int32} (hH : k_HT E τ H) (hW : k_wk E τ mods H0 H locs) (hR : k_R E nL τ vs ρ H ls st (n, env, loc, stk, ff, rel, len, g, par)) (hx : k_v ρ o = some (.int x)) (hc : ∀ c, o = .inr c → (Int32.ofInt c).toInt = c) : ∀ {as : List (Int × Int)} {l : List (Nat × kSt)}, k_arms pc o as (n, env, loc, stk, ff, rel, len, g, par) = some l → (∀ q ∈ l, k_good X E nL τ vs mods H0 q.1 q.2) → ∀ off, (x.toInt, off) ∈ as → ∃ t : Nat, (pc : Int) + off = (t : Int) ∧ kw X H locs t ls st
  | [], _, _, _, _, hm => by cases hm
  | a :: r, l, e, hk, off, hm => by
    unfold k_arms at e
    split at e
    · rename_i t l' ht hl
      cases e
      rcases List.mem_cons.mp hm with z | z
      · subst z
        refine ⟨t, k_tgt_ok ht, ?_⟩
        obtain ⟨e1, j1, j2⟩ := k_refO_ok (k_relR hR) (k_envR hR) hx (y := .inl (x.toInt, x.toInt)) ⟨x, rfl, Int.le_refl _, Int.le_refl _⟩ hc
        exact hk (t, _) (List.mem_append_left _ (by rw [j1]; exact List.mem_singleton.mpr rfl)) ρ H locs ls st hH hW (k_withEnv hR j2)
      · exact k_arms_ok hH hW hR hx hc hl (fun q hq => hk q (List.mem_append_right _ hq)) off z
    · cases e
def k_keys (lo : Int) : List Int → List (Int × Int)
  | [] => []
  | o :: r => (lo, o) :: k_keys (lo + 1) r
theorem k_keys_ok : ∀ {os : List Int} {lo : Int} {j : Nat} {off : Int}, os[j]? = some off → (lo + (j : Int), off) ∈ k_keys lo os
  | [], _, _, _, e => by simp at e
  | o :: r, lo, 0, off, e => by
    simp at e
    subst e
    unfold k_keys
    have : lo + ((0 : Nat) : Int) = lo := by omega
    rw [this]
    exact List.mem_cons_self
  | o :: r, lo, j + 1, off, e => by
    unfold k_keys
    have := k_keys_ok (os := r) (lo := lo + 1) (j := j) (off := off) (by simpa using e)
    have h2 : lo + 1 + (j : Int) = lo + ((j + 1 : Nat) : Int) := by omega
    rw [h2] at this
    exact List.mem_cons_of_mem _ this
theorem k_lkoff : ∀ (ps : List (Int × Int)) (d x : Int), (∃ off, (x, off) ∈ ps ∧ Op.lookupswitch.offset ps d x = off) ∨ Op.lookupswitch.offset ps d x = d
  | [], d, x => Or.inr rfl
  | a :: r, d, x => by
    obtain ⟨k, o⟩ := a
    by_cases h : k = x
    · subst h
      exact Or.inl ⟨o, List.mem_cons_self, by rw [Op.lookupswitch.offset_cons, if_pos rfl]⟩
    · have h' : Op.lookupswitch.offset ((k, o) :: r) d x = Op.lookupswitch.offset r d x := by
        rw [Op.lookupswitch.offset_cons, if_neg h]
      rcases k_lkoff r d x with ⟨off, h1, h2⟩ | h1
      · exact Or.inl ⟨off, List.mem_cons_of_mem _ h1, by rw [h']; exact h2⟩
      · exact Or.inr (by rw [h']; exact h1)
def k_g7 (pc : Nat) (i : Instr) (L : Nat) : kSt → Option (List (Nat × kSt))
  | (n, env, loc, stk, ff, rel, len, g, par) => match i with
    | .goto off => if Nat.beq L 3 = true then (match k_tgt pc off with
      | some t => some [(t, (n, env, loc, stk, ff, rel, len, g, par))]
      | none => none) else none
    | .if_icmp op off => if Nat.beq L 3 = true then (match k_tgt pc off, stk with
      | some t, oy :: ox :: r => k_br op ox oy t (pc + 3) (n, env, loc, r, ff, rel, len, g, par)
      | _, _ => none) else none
    | .ifCond op off => if Nat.beq L 3 = true then (match k_tgt pc off, stk with
      | some t, ox :: r => k_br op ox (.inr 0) t (pc + 3) (n, env, loc, r, ff, rel, len, g, par)
      | _, _ => none) else none
    | .ifnull off => if Nat.beq L 3 = true then (match k_tgt pc off, stk with
      | some t, .inl s :: r => match k_rf env (.inl s) with
        | some q => some ((if q.1 = true then [(t, (n, env, loc, r, ff, rel, len, g, par))] else []) ++ [(pc + 3, (n, (s, .inr (.inr (.inl (false, q.2)))) :: env, loc, r, ff, rel, len, g, par))])
        | none => none
      | _, _ => none) else none
    | .ifnonnull off => if Nat.beq L 3 = true then (match k_tgt pc off, stk with
      | some t, .inl s :: r => match k_rf env (.inl s) with
        | some q => some ((if q.1 = true then [(pc + 3, (n, env, loc, r, ff, rel, len, g, par))] else []) ++ [(t, (n, (s, .inr (.inr (.inl (false, q.2)))) :: env, loc, r, ff, rel, len, g, par))])
        | none => none
      | _, _ => none) else none
    | .tableswitch dflt lo hi offs => match stk with
      | o :: r => match k_ivl env o, k_tgt pc dflt, k_arms pc o (k_keys lo offs.toList) (n, env, loc, r, ff, rel, len, g, par) with
        | some q, some t, some l => if k_eqi (lo + (offs.toList.length : Int)) (hi + 1) = true then some (l ++ (if k_bw q (lo, hi) = true then [] else [(t, (n, env, loc, r, ff, rel, len, g, par))])) else none
        | _, _, _ => none
      | [] => none
    | .lookupswitch dflt ps => match stk with
      | o :: r => match k_ivl env o, k_tgt pc dflt, k_arms pc o ps.toList (n, env, loc, r, ff, rel, len, g, par) with
        | some _, some t, some l => if (ps.toList.zip (ps.toList.drop 1)).all (fun (a, next) => a.1 < next.1) = true then some (l ++ [(t, (n, env, loc, r, ff, rel, len, g, par))]) else none
        | _, _, _ => none
      | [] => none
    | _ => none
theorem k_g7_ok {i : Instr} {L : Nat} {σ : kSt} {l : List (Nat × kSt)} (hF : k_Fx X cc nL own) (hd : decode cc pc = .ok (i, L)) (e : k_g7 pc i L σ = some l) (hk : ∀ q ∈ l, k_good X E nL τ vs mods H0 q.1 q.2) : k_good X E nL τ vs mods H0 pc σ := by
  obtain ⟨n, env, loc, stk, ff, rel, len, g, par⟩ := σ
  intro ρ H locs ls st hH hW hR
  have he := k_envR hR
  unfold k_g7 at e
  dsimp only at e
  split at e
  · rename_i off
    split at e
    · rename_i y
      have y := Nat.eq_of_beq_eq_true y
      subst y
      split at e
      · rename_i t ht
        cases e
        exact lv_goto hF.1 hF.2.1 hd (k_tgt_ok ht) (hk _ List.mem_cons_self ρ H locs ls _ hH hW hR)
      · cases e
    · cases e
  · rename_i op off
    split at e
    · rename_i y
      have y := Nat.eq_of_beq_eq_true y
      subst y
      split at e
      · rename_i t oy ox r ht
        obtain ⟨v, rs, rfl, hv, hR2⟩ := k_pop hR
        obtain ⟨v2, rs2, rfl, hv2, hR3⟩ := k_pop hR2
        obtain ⟨x, y, hx, hy, k1, k2⟩ := k_br_ok hH hW hR3 e hk
        cases hv.symm.trans hy
        cases hv2.symm.trans hx
        exact k_icmpW hF hd (k_tgt_ok ht) k1 k2
      · cases e
    · cases e
  · rename_i op off
    split at e
    · rename_i y
      have y := Nat.eq_of_beq_eq_true y
      subst y
      split at e
      · rename_i t ox r ht
        obtain ⟨v, rs, rfl, hv, hR2⟩ := k_pop hR
        obtain ⟨x, y, hx, hy, k1, k2⟩ := k_br_ok hH hW hR2 e hk
        cases hv.symm.trans hx
        have hy0 : y = 0 := by
          have := Option.some.inj hy
          exact (Value.int.inj this).symm
        subst hy0
        exact k_ifW hF hd (k_tgt_ok ht) k1 k2
      · cases e
    · cases e
  · rename_i off
    split at e
    · rename_i y
      have y := Nat.eq_of_beq_eq_true y
      subst y
      split at e
      · rename_i t s r ht
        split at e
        · rename_i q hq
          cases e
          obtain ⟨v, rs, rfl, hv, hR2⟩ := k_pop hR
          obtain ⟨w, h1, h2⟩ := k_rf_ok he hq
          cases hv.symm.trans h1
          rcases h2 with ⟨g1, g2⟩ | ⟨a, t', g1, g2, g3⟩
          · subst g2
            exact lv_ifnullN hF.1 hF.2.1 hd (k_tgt_ok ht) (hk (t, _) (List.mem_append_left _ (by rw [if_pos g1]; exact List.mem_singleton.mpr rfl)) ρ H locs ls _ hH hW hR2)
          · subst g1
            refine lv_ifnull hF.1 hF.2.1 hd (hk (pc + 3, _) (List.mem_append_right _ (List.mem_singleton.mpr rfl)) ρ H locs ls _ hH hW (k_withEnv hR2 (fun z hz => ?_)))
            rcases List.mem_cons.mp hz with e' | e'
            · subst e'; exact ⟨_, hv, Or.inr ⟨a, t', rfl, g2, g3⟩⟩
            · exact he z e'
        · cases e
      · cases e
    · cases e
  · rename_i off
    split at e
    · rename_i y
      have y := Nat.eq_of_beq_eq_true y
      subst y
      split at e
      · rename_i t s r ht
        split at e
        · rename_i q hq
          cases e
          obtain ⟨v, rs, rfl, hv, hR2⟩ := k_pop hR
          obtain ⟨w, h1, h2⟩ := k_rf_ok he hq
          cases hv.symm.trans h1
          rcases h2 with ⟨g1, g2⟩ | ⟨a, t', g1, g2, g3⟩
          · subst g2
            exact lv_ifnonnullN hF.1 hF.2.1 hd (hk (pc + 3, _) (List.mem_append_left _ (by rw [if_pos g1]; exact List.mem_singleton.mpr rfl)) ρ H locs ls _ hH hW hR2)
          · subst g1
            refine lv_ifnonnull hF.1 hF.2.1 hd (k_tgt_ok ht) (hk (t, _) (List.mem_append_right _ (List.mem_singleton.mpr rfl)) ρ H locs ls _ hH hW (k_withEnv hR2 (fun z hz => ?_)))
            rcases List.mem_cons.mp hz with e' | e'
            · subst e'; exact ⟨_, hv, Or.inr ⟨a, t', rfl, g2, g3⟩⟩
            · exact he z e'
        · cases e
      · cases e
    · cases e
  · rename_i dflt lo hi offs
    split at e
    · rename_i o r
      split at e
      · rename_i q t l' hq ht hl
        split at e
        · rename_i hlen
          rw [k_eqi_iff] at hlen
          cases e
          obtain ⟨v, rs, rfl, hv, hR2⟩ := k_pop hR
          obtain ⟨x, hx1, hx2⟩ := k_ivl_ok he hq
          cases hv.symm.trans hx1
          by_cases hin : x.toInt < lo ∨ hi < x.toInt
          · refine lv_tableOut hF.1 hF.2.1 hd hin (k_tgt_ok ht) (hk (t, _) (List.mem_append_right _ ?_) ρ H locs ls _ hH hW hR2)
            rw [if_neg]
            · exact List.mem_singleton.mpr rfl
            · intro z
              have := k_bw_ok z hx2
              have h1 := this.1
              have h2 := this.2
              dsimp only at h1 h2
              omega
          · have h1 : ¬ x.toInt < lo := fun z => hin (Or.inl z)
            have h2 : ¬ hi < x.toInt := fun z => hin (Or.inr z)
            have hj : (x.toInt - lo).toNat < offs.toList.length := by omega
            have hof : offs.toList[(x.toInt - lo).toNat]? = some offs.toList[(x.toInt - lo).toNat] := List.getElem?_eq_getElem hj
            have hkey := k_keys_ok (lo := lo) hof
            have hxk : lo + (((x.toInt - lo).toNat : Nat) : Int) = x.toInt := by omega
            rw [hxk] at hkey
            obtain ⟨t2, ht2, hw⟩ := k_arms_ok hH hW hR2 hx1 (fun c hc => by subst hc; exact k_ivl_c hq) hl (fun z hz => hk z (List.mem_append_left _ hz)) _ hkey
            exact lv_tableIn hF.1 hF.2.1 hd h1 h2 (by rw [← Array.getElem?_toList]; exact hof) ht2 hw
        · cases e
      · cases e
    · cases e
  · rename_i dflt ps
    split at e
    · rename_i o r
      split at e
      · rename_i q t l' hq ht hl
        split at e
        · rename_i hs
          cases e
          obtain ⟨v, rs, rfl, hv, hR2⟩ := k_pop hR
          obtain ⟨x, hx1, hx2⟩ := k_ivl_ok he hq
          cases hv.symm.trans hx1
          rcases k_lkoff ps.toList dflt x.toInt with ⟨off, h1, h2⟩ | h1
          · obtain ⟨t2, ht2, hw⟩ := k_arms_ok hH hW hR2 hx1 (fun c hc => by subst hc; exact k_ivl_c hq) hl (fun z hz => hk z (List.mem_append_left _ hz)) _ h1
            exact lv_lookup hF.1 hF.2.1 hd hs h2 ht2 hw
          · exact lv_lookup hF.1 hF.2.1 hd hs h1 (k_tgt_ok ht) (hk (t, _) (List.mem_append_right _ (List.mem_singleton.mpr rfl)) ρ H locs ls _ hH hW hR2)
        · cases e
      · cases e
    · cases e
  · cases e
end KP
end
section
/-! ===== steps on the heap ===== -/
section KM
variable {X : kX} {E : kE} {nL : Nat} {τ : kTau} {vs : List Value} {mods : List (Nat × Nat)} {H0 : Heap} {cc : ByteArray} {own : String} {pc : Nat}
variable {ρ : Nat → Option Value} {H : Heap} {locs : List Loc} {ls : Array Slot} {st : List Value} {n : Nat} {env : List (Nat × kInfo)} {loc : List (Nat × kOp)} {stk : List kOp} {ff : List (Nat × Nat × kOp)} {rel : List (Nat × Nat × Nat × Nat × Int)} {len : List (Nat × Nat × kOp)} {g : List Nat} {par : List kOp}
theorem k_fct_ok {s k : Nat} {o : kOp} : ∀ {ff : List (Nat × Nat × kOp)}, k_fct ff s k = some o → (s, k, o) ∈ ff
  | [], e => by cases e
  | q :: r, e => by
    unfold k_fct at e
    split at e
    · rename_i z
      rw [Bool.and_eq_true] at z
      cases e
      rw [← Nat.eq_of_beq_eq_true z.1, ← Nat.eq_of_beq_eq_true z.2]
      exact List.mem_cons_self
    · exact List.mem_cons_of_mem _ (k_fct_ok e)
def k_join : kInfo → kInfo → Option kInfo
  | .inl p, .inl q => some (.inl (k_min p.1 q.1, k_max p.2 q.2))
  | .inr (.inl p), .inr (.inl q) => some (.inr (.inl (k_min p.1 q.1, k_max p.2 q.2)))
  | .inr (.inr (.inl p)), .inr (.inr (.inl q)) => some (.inr (.inr (.inl (p.1 || q.1, p.2 ++ q.2))))
  | _, _ => none
theorem k_min_l (a b : Int) : k_min a b ≤ a := by
  unfold k_min; split
  · exact Int.le_refl _
  · rename_i h
    have : ¬ a ≤ b := fun z => h (k_le_iff.mpr z)
    omega
theorem k_min_r (a b : Int) : k_min a b ≤ b := by
  unfold k_min; split
  · rename_i h; exact k_le_iff.mp h
  · exact Int.le_refl _
theorem k_max_l (a b : Int) : a ≤ k_max a b := by
  unfold k_max; split
  · rename_i h; exact k_le_iff.mp h
  · exact Int.le_refl _
theorem k_max_r (a b : Int) : b ≤ k_max a b := by
  unfold k_max; split
  · exact Int.le_refl _
  · rename_i h
    have : ¬ a ≤ b := fun z => h (k_le_iff.mpr z)
    omega
theorem k_join_l {x y z : kInfo} {v : Value} (e : k_join x y = some z) (h : k_ok τ x v) : k_ok τ z v := by
  unfold k_join at e
  split at e
  · rename_i p q
    cases e
    obtain ⟨w, h1, h2⟩ := h
    exact ⟨w, h1, Int.le_trans (k_min_l _ _) h2.1, Int.le_trans h2.2 (k_max_l _ _)⟩
  · rename_i p q
    cases e
    obtain ⟨w, h1, h2⟩ := h
    exact ⟨w, h1, Int.le_trans (k_min_l _ _) h2.1, Int.le_trans h2.2 (k_max_l _ _)⟩
  · rename_i p q
    cases e
    rcases h with ⟨h1, h2⟩ | ⟨a, t, h1, h2, h3⟩
    · exact Or.inl ⟨by show (p.1 || q.1) = true; rw [h1]; rfl, h2⟩
    · exact Or.inr ⟨a, t, h1, List.mem_append_left _ h2, h3⟩
  · cases e
theorem k_join_r {x y z : kInfo} {v : Value} (e : k_join x y = some z) (h : k_ok τ y v) : k_ok τ z v := by
  unfold k_join at e
  split at e
  · rename_i p q
    cases e
    obtain ⟨w, h1, h2⟩ := h
    exact ⟨w, h1, Int.le_trans (k_min_r _ _) h2.1, Int.le_trans h2.2 (k_max_r _ _)⟩
  · rename_i p q
    cases e
    obtain ⟨w, h1, h2⟩ := h
    exact ⟨w, h1, Int.le_trans (k_min_r _ _) h2.1, Int.le_trans h2.2 (k_max_r _ _)⟩
  · rename_i p q
    cases e
    rcases h with ⟨h1, h2⟩ | ⟨a, t, h1, h2, h3⟩
    · exact Or.inl ⟨by show (p.1 || q.1) = true; rw [h1]; cases p.1 <;> rfl, h2⟩
    · exact Or.inr ⟨a, t, h1, List.mem_append_right _ h2, h3⟩
  · cases e
/-- what places lo to hi of an array have in common -/
def k_elr (d : kInfo) (lo hi : Nat) : List (Nat × Nat × kInfo) → Option kInfo
  | [] => some d
  | q :: r => if (Nat.ble q.1 lo && Nat.ble hi q.2.1) = true then some q.2.2 else if (Nat.blt hi q.1 || Nat.blt q.2.1 lo) = true then k_elr d lo hi r else match k_elr d lo hi r with
    | some y => k_join q.2.2 y
    | none => none
theorem k_elr_ok {d : kInfo} {lo hi j : Nat} {v : Value} (h1 : lo ≤ j) (h2 : j ≤ hi) : ∀ {exc : List (Nat × Nat × kInfo)} {x : kInfo}, k_elr d lo hi exc = some x → k_ok τ (k_el exc d j) v → k_ok τ x v
  | [], x, e, h => by cases e; exact h
  | q :: r, x, e, h => by
    unfold k_elr at e
    unfold k_el at h
    split at e
    · rename_i c
      rw [Bool.and_eq_true] at c
      have c1 := Nat.le_of_ble_eq_true c.1
      have c2 := Nat.le_of_ble_eq_true c.2
      cases e
      rw [if_pos (by rw [Bool.and_eq_true]; exact ⟨Nat.ble_eq_true_of_le (by omega), Nat.ble_eq_true_of_le (by omega)⟩)] at h
      exact h
    · split at e
      · rename_i c
        rw [Bool.or_eq_true] at c
        rw [if_neg (by
          rw [Bool.and_eq_true]
          rintro ⟨z1, z2⟩
          have z1 := Nat.le_of_ble_eq_true z1
          have z2 := Nat.le_of_ble_eq_true z2
          rcases c with c | c
          · have := Nat.le_of_ble_eq_true (show Nat.ble (hi + 1) q.1 = true from c)
            omega
          · have := Nat.le_of_ble_eq_true (show Nat.ble (q.2.1 + 1) lo = true from c)
            omega)] at h
        exact k_elr_ok h1 h2 e h
      · split at e
        · rename_i y hy
          split at h
          · exact k_join_l e h
          · exact k_join_r e (k_elr_ok h1 h2 hy h)
        · cases e
/-- a value that each of the places lo to hi takes -/
def k_elw (d : kInfo) (lo hi : Nat) (x : kInfo) : List (Nat × Nat × kInfo) → Bool
  | [] => k_isub x d
  | q :: r => if (Nat.ble q.1 lo && Nat.ble hi q.2.1) = true then k_isub x q.2.2 else if (Nat.blt hi q.1 || Nat.blt q.2.1 lo) = true then k_elw d lo hi x r else k_isub x q.2.2 && k_elw d lo hi x r
theorem k_elw_ok {d : kInfo} {lo hi j : Nat} {v : Value} {x : kInfo} (h1 : lo ≤ j) (h2 : j ≤ hi) (h : k_ok τ x v) : ∀ {exc : List (Nat × Nat × kInfo)}, k_elw d lo hi x exc = true → k_ok τ (k_el exc d j) v
  | [], e => k_isub_ok e h
  | q :: r, e => by
    unfold k_elw at e
    unfold k_el
    split at e
    · rename_i c
      rw [Bool.and_eq_true] at c
      have c1 := Nat.le_of_ble_eq_true c.1
      have c2 := Nat.le_of_ble_eq_true c.2
      rw [if_pos (by rw [Bool.and_eq_true]; exact ⟨Nat.ble_eq_true_of_le (by omega), Nat.ble_eq_true_of_le (by omega)⟩)]
      exact k_isub_ok e h
    · split at e
      · rename_i c
        rw [Bool.or_eq_true] at c
        rw [if_neg (by
          rw [Bool.and_eq_true]
          rintro ⟨z1, z2⟩
          have z1 := Nat.le_of_ble_eq_true z1
          have z2 := Nat.le_of_ble_eq_true z2
          rcases c with c | c
          · have := Nat.le_of_ble_eq_true (show Nat.ble (hi + 1) q.1 = true from c)
            omega
          · have := Nat.le_of_ble_eq_true (show Nat.ble (q.2.1 + 1) lo = true from c)
            omega)]
        exact k_elw_ok h1 h2 h e
      · rw [Bool.and_eq_true] at e
        split
        · exact k_isub_ok e.1 h
        · exact k_elw_ok h1 h2 h e.2
def k_tys (E : kE) : Prop := ∀ (ai : Nat) (cA : ClassId) (ty : FieldType), E.2.2.1[ai]? = some (cA, ty) → (ai = 0 → ty = .int) ∧ (ai = 1 → ty = .byte) ∧ (ai = 2 → ty = .boolean) ∧ (ai = 3 → ty = .long) ∧ (4 ≤ ai → ty.isReference = true)
def k_oe0 (o : kOp) (s : Nat) : Bool := match o with
  | .inl a => Nat.beq a s
  | .inr _ => false
theorem k_oe0_ok {o : kOp} {s : Nat} (h : k_oe0 o s = true) : o = .inl s := by
  unfold k_oe0 at h
  split at h
  · rw [Nat.eq_of_beq_eq_true h]
  · cases h
/-- is the index within: by its bounds, or by a comparing with the length -/
def k_inb (l0 : Nat) (q : kB) (s : Nat) (oi : kOp) (rel : List (Nat × Nat × Nat × Nat × Int)) (len : List (Nat × Nat × kOp)) : Bool := k_le 0 q.1 && (k_le (q.2 + 1) (l0 : Int) || (match oi with
  | .inl a => len.any (fun p => (Nat.beq p.1 s && Nat.beq p.2.1 0) && rel.any (fun r => Nat.beq r.1 1 && (Nat.beq r.2.1 a && k_oe0 p.2.2 r.2.2.1)))
  | .inr _ => false))
theorem k_inb_ok {l0 m s : Nat} {q : kB} {oi : kOp} {a : Nat} {cA : ClassId} {f : Nat → Value} {x : Int32} (hR : k_R E nL τ vs ρ H ls st (n, env, loc, stk, ff, rel, len, g, par)) (e : k_inb l0 q s oi rel len = true) (hs : ρ s = some (.ref a)) (hc : H[a]? = some (arrV cA m f)) (hl : l0 ≤ m) (hx : k_v ρ oi = some (.int x)) (hq : k_in q x.toInt) : 0 ≤ x.toInt ∧ x.toInt < (m : Int) := by
  unfold k_inb at e
  rw [Bool.and_eq_true, Bool.or_eq_true, k_le_iff, k_le_iff] at e
  have h1 := hq.1
  have h2 := hq.2
  refine ⟨by omega, ?_⟩
  rcases e.2 with z | z
  · omega
  · split at z
    · rename_i b
      rw [List.any_eq_true] at z
      obtain ⟨p, hp, z⟩ := z
      rw [Bool.and_eq_true, Bool.and_eq_true, List.any_eq_true] at z
      obtain ⟨⟨z1, z0⟩, r, hr, z2⟩ := z
      rw [Bool.and_eq_true, Bool.and_eq_true] at z2
      have e1 := Nat.eq_of_beq_eq_true z1
      have e0 := Nat.eq_of_beq_eq_true z0
      have e2 := Nat.eq_of_beq_eq_true z2.1
      have e3 := Nat.eq_of_beq_eq_true z2.2.1
      have e4 := k_oe0_ok z2.2.2
      obtain ⟨a', t', d', cA', m', f', v', g1, g2, g3, g4, g5, g6, -⟩ := hR.2.2.2.2.2.2.1 p hp
      obtain ⟨y', rfl, g6⟩ := g6 e0
      obtain ⟨x1, y1, j1, j2, j3⟩ := (k_relR hR r hr).2.1 e2
      rw [e1, hs] at g1
      have ea : a = a' := Value.ref.inj (Option.some.inj g1)
      subst ea
      rw [hc] at g4
      have em : m = m' := by
        have := congrArg (fun c : Cell => c.slots.size) (Option.some.inj g4)
        simpa [arrV_size] using this
      subst em
      rw [e3] at j1
      have ex : x1 = x := Value.int.inj (Option.some.inj (j1.symm.trans hx))
      subst ex
      rw [e4] at g5
      have ey : y' = y1 := Value.int.inj (Option.some.inj (g5.symm.trans j2))
      subst ey
      omega
    · cases z
theorem k_idx {x : Int32} {m : Nat} (h : 0 ≤ x.toInt ∧ x.toInt < (m : Int)) (cA : ClassId) (f : Nat → Value) : ¬ (x < 0 ∨ (arrV cA m f).slots.size ≤ x.toNatClampNeg) := by
  rw [arrV_size]
  exact vp_in_iff.mpr h
theorem k_clamp {x : Int32} (h : 0 ≤ x.toInt) : x.toNatClampNeg = x.toInt.toNat := rfl
def k_alk : Instr → Nat → Bool
  | .iaload, 0 => true
  | .baload, 1 => true
  | .baload, 2 => true
  | .laload, 3 => true
  | .aaload, _ + 4 => true
  | _, _ => false
theorem k_aldW {i : Instr} {a m : Nat} {ai : Nat} {cA : ClassId} {ty : FieldType} {f : Nat → Value} {x : Int32} (hF : k_Fx X cc nL own) (hK : va_K E.1 E.2.1 E.2.2.1 X.2.2.2.2.1) (hT : k_tys E) (hd : decode cc pc = .ok (i, 1)) (e : k_alk i ai = true) (h1 : E.2.2.1[ai]? = some (cA, ty)) (hc : H[a]? = some (arrV cA m f)) (hx : 0 ≤ x.toInt ∧ x.toInt < (m : Int))
    (k : kw X H locs (pc + 1) ls (f x.toInt.toNat :: st)) : kw X H locs pc ls (.int x :: .ref a :: st) := by
  have harr := (hK.2 ai _ h1).1 m f
  have hty := hT ai cA ty h1
  have hin := k_idx hx cA f
  have hv : (arrV cA m f).slots[x.toNatClampNeg]? = some (f x.toInt.toNat) := arrV_read cA f (by rw [k_clamp hx.1]; omega)
  unfold k_alk at e
  split at e
  · obtain ⟨rfl⟩ := hty.1 rfl
    exact W.iald hF.1 hF.2.1 hc harr (fun z => by cases z) hin hv rfl rfl hd k
  · obtain ⟨rfl⟩ := hty.2.1 rfl
    exact W.bald hF.1 hF.2.1 hc harr (fun z => by cases z) hin hv rfl rfl hd k
  · obtain ⟨rfl⟩ := hty.2.2.1 rfl
    exact W.zald hF.1 hF.2.1 hc harr (fun z => by cases z) hin hv rfl rfl hd k
  · obtain ⟨rfl⟩ := hty.2.2.2.1 rfl
    exact W.lald hF.1 hF.2.1 hc harr (fun z => by cases z) hin hv rfl rfl hd k
  · exact W.aald hF.1 hF.2.1 hc harr (hty.2.2.2.2 (by omega)) (fun z => by cases z) hin hv rfl rfl hd k
  · cases e
def k_g8 (TT : List kDesc) (pc : Nat) (i : Instr) (L : Nat) : kSt → Option (List (Nat × kSt))
  | (n, env, loc, oi :: oa :: r, ff, rel, len, g, par) => if Nat.beq L 1 = true then (match k_ivl env oi, k_obj env oa with
    | some q, some p => match TT[p.2]? with
      | some (.inr d) => if (k_alk i d.1 && k_inb d.2.1 q p.1 oi rel len) = true then (if k_eqi q.1 q.2 = true then (match k_fct len p.1 (q.1.toNat + 1) with
          | some o => some [(pc + 1, (n, env, loc, o :: r, ff, rel, len, g, par))]
          | none => match k_elr d.2.2.2.2 q.1.toNat q.2.toNat d.2.2.2.1 with
            | some x => some [(pc + 1, (n + 1, (n, x) :: env, loc, .inl n :: r, ff, rel, (p.1, q.1.toNat + 1, .inl n) :: len, g, par))]
            | none => none)
        else match k_elr d.2.2.2.2 q.1.toNat q.2.toNat d.2.2.2.1 with
        | some (.inl b) => some [(pc + 1, k_resI b [] (n, env, loc, r, ff, rel, len, g, par))]
        | some x => some [(pc + 1, (n + 1, (n, x) :: env, loc, .inl n :: r, ff, rel, len, g, par))]
        | none => none) else none
      | _ => none
    | _, _ => none) else none
  | _ => none
theorem k_g8_ok {i : Instr} {L : Nat} {σ : kSt} {l : List (Nat × kSt)} (hF : k_Fx X cc nL own) (hK : va_K E.1 E.2.1 E.2.2.1 X.2.2.2.2.1) (hT : k_tys E) (hd : decode cc pc = .ok (i, L)) (e : k_g8 E.2.2.2.1 pc i L σ = some l) (hk : ∀ q ∈ l, k_good X E nL τ vs mods H0 q.1 q.2) : k_good X E nL τ vs mods H0 pc σ := by
  unfold k_g8 at e
  split at e
  · rename_i n env loc oi oa r ff rel len g par
    intro ρ H locs ls st hH hW hR
    have he := k_envR hR
    split at e
    · rename_i y
      have y := Nat.eq_of_beq_eq_true y
      subst y
      split at e
      · rename_i q p hq hp
        split at e
        · rename_i d hd2
          split at e
          · rename_i c
            rw [Bool.and_eq_true] at c
            obtain ⟨v, rs, rfl, hv, hR2⟩ := k_pop hR
            obtain ⟨v2, rs2, rfl, hv2, hR3⟩ := k_pop hR2
            obtain ⟨x, hx1, hx2⟩ := k_ivl_ok he hq
            obtain ⟨ho, a, ha1, ha2⟩ := k_obj_ok (s := p.1) (t := p.2) he hp
            subst ho
            cases hv.symm.trans hx1
            cases hv2.symm.trans ha1
            obtain ⟨cA, ty, m, f, h1, h2, h3, h4, h5⟩ := k_arr hH ha2 hd2
            have hin := k_inb_ok hR c.2 ha1 h2 h3 hx1 hx2
            have hok := h5 x.toInt.toNat (by omega)
            have hlo : q.1.toNat ≤ x.toInt.toNat := by have := hx2.1; omega
            have hhi : x.toInt.toNat ≤ q.2.toNat := by have := hx2.2; omega
            split at e
            · rename_i hsing
              rw [k_eqi_iff] at hsing
              have hj : x.toInt.toNat = q.1.toNat := by have := hx2.1; have := hx2.2; omega
              split at e
              · rename_i o ho
                cases e
                obtain ⟨a', t', d', cA', m', f', v', g1, g2, g3, g4, g5, -, g6⟩ := hR.2.2.2.2.2.2.1 _ (k_fct_ok ho)
                have ea : a = a' := Value.ref.inj (Option.some.inj (ha1.symm.trans g1))
                subst ea
                obtain ⟨-, gf⟩ := g6 q.1.toNat rfl
                rw [h2] at g4
                have hff : f x.toInt.toNat = v' := by
                  rw [hj, ← gf]
                  have hm2 : (arrV cA m f).slots[q.1.toNat]? = (arrV cA' m' f').slots[q.1.toNat]? := by rw [Option.some.inj g4]
                  have hmm : m = m' := by
                    have := congrArg (fun c : Cell => c.slots.size) (Option.some.inj g4)
                    simpa [arrV_size] using this
                  rw [arrV_read cA f (by omega), arrV_read cA' f' (by omega)] at hm2
                  exact Option.some.inj hm2
                refine k_aldW hF hK hT hd c.1 h1 h2 hin ?_
                rw [hff]
                exact hk _ List.mem_cons_self ρ H locs ls _ hH hW (k_psh hR3 g5)
              · split at e
                · rename_i w hb
                  cases e
                  have hn := k_R_new hR3 (k_elr_ok hlo hhi hb hok)
                  refine k_aldW hF hK hT hd c.1 h1 h2 hin (hk _ List.mem_cons_self (k_ext ρ n (f x.toInt.toNat)) H locs ls _ hH hW ?_)
                  obtain ⟨k1, k2, k3, k4, k5, k6, k7, k8⟩ := hn
                  refine ⟨k1, k2, k3, k4, k5, k6, fun z hz => ?_, k8⟩
                  rcases List.mem_cons.mp hz with e' | e'
                  · subst e'
                    refine ⟨a, p.2, d, cA, m, f, f x.toInt.toNat, k_ext_le hR3.1 _ _ ha1, ha2, hd2, h2, k_ext_at, (fun z => by cases z), fun j hj2 => ?_⟩
                    have : q.1.toNat = j := by
                      have : q.1.toNat + 1 = j + 1 := hj2
                      omega
                    subst this
                    exact ⟨by omega, by rw [hj]⟩
                  · exact k7 z e'
                · cases e
            · split at e
              · rename_i b hb
                cases e
                obtain ⟨z, hz, hz2⟩ := k_elr_ok hlo hhi hb hok
                obtain ⟨ρ', hR'⟩ := k_resI_ok (q := b) (d := []) (x := z) hR3 hz2 (fun _ _ _ => k_nod)
                refine k_aldW hF hK hT hd c.1 h1 h2 hin ?_
                rw [hz]
                exact hk _ List.mem_cons_self ρ' H locs ls _ hH hW hR'
              · rename_i w hb
                cases e
                exact k_aldW hF hK hT hd c.1 h1 h2 hin (hk _ List.mem_cons_self _ H locs ls _ hH hW (k_R_new hR3 (k_elr_ok hlo hhi hb hok)))
              · cases e
          · cases e
        · cases e
      · cases e
    · cases e
  · cases e
def k_g8b (TT : List kDesc) (pc : Nat) (i : Instr) (L : Nat) : kSt → Option (List (Nat × kSt))
  | (n, env, loc, oa :: r, ff, rel, len, g, par) => match i with
    | .arraylength => if Nat.beq L 1 = true then (match k_obj env oa with
      | some p => match TT[p.2]? with
        | some (.inr d) => if Nat.ble d.2.2.1 2147483647 = true then some [(pc + 1, (n + 1, (n, .inl ((d.2.1 : Int), (d.2.2.1 : Int))) :: env, loc, .inl n :: r, ff, rel, (p.1, 0, .inl n) :: len, g, par))] else none
        | _ => none
      | none => none) else none
    | _ => none
  | _ => none
theorem k_g8b_ok {i : Instr} {L : Nat} {σ : kSt} {l : List (Nat × kSt)} (hF : k_Fx X cc nL own) (hK : va_K E.1 E.2.1 E.2.2.1 X.2.2.2.2.1) (hd : decode cc pc = .ok (i, L)) (e : k_g8b E.2.2.2.1 pc i L σ = some l) (hk : ∀ q ∈ l, k_good X E nL τ vs mods H0 q.1 q.2) : k_good X E nL τ vs mods H0 pc σ := by
  unfold k_g8b at e
  split at e
  · rename_i n env loc oa r ff rel len g par
    intro ρ H locs ls st hH hW hR
    have he := k_envR hR
    split at e
    · split at e
      · rename_i y
        have y := Nat.eq_of_beq_eq_true y
        subst y
        split at e
        · rename_i p hp
          split at e
          · rename_i d hd2
            split at e
            · rename_i c
              have c := Nat.le_of_ble_eq_true c
              cases e
              obtain ⟨v, rs, rfl, hv, hR2⟩ := k_pop hR
              obtain ⟨ho, a, ha1, ha2⟩ := k_obj_ok (s := p.1) (t := p.2) he hp
              subst ho
              cases hv.symm.trans ha1
              obtain ⟨cA, ty, m, f, h1, h2, h3, h4, h5⟩ := k_arr hH ha2 hd2
              have hm : (Int32.ofNat m).toInt = (m : Int) := nI_toInt (n := m) (by omega)
              have hn := k_R_new hR2 (x := .inl ((d.2.1 : Int), (d.2.2.1 : Int))) (v := .int (Int32.ofNat m)) ⟨_, rfl, by rw [hm]; exact Int.ofNat_le.mpr h3, by rw [hm]; exact Int.ofNat_le.mpr h4⟩
              refine W.alen (n := Int32.ofNat m) hF.1 hF.2.1 h2 ((hK.2 d.1 _ h1).1 m f) (by rw [arrV_size]) rfl rfl hd (hk _ List.mem_cons_self (k_ext ρ n (.int (Int32.ofNat m))) H locs ls _ hH hW ?_)
              obtain ⟨k1, k2, k3, k4, k5, k6, k7, k8⟩ := hn
              refine ⟨k1, k2, k3, k4, k5, k6, fun z hz => ?_, k8⟩
              rcases List.mem_cons.mp hz with e' | e'
              · subst e'
                exact ⟨a, p.2, d, cA, m, f, .int (Int32.ofNat m), k_ext_le hR2.1 _ _ ha1, ha2, hd2, h2, k_ext_at, fun _ => ⟨_, rfl, hm⟩, (fun j z => by cases z)⟩
              · exact k7 z e'
            · cases e
          · cases e
        · cases e
      · cases e
    · cases e
  · cases e
theorem k_R_move {H' : Heap} {m : List (Nat × Nat)} (hE : k_Eok E) (hH : k_HT E τ H) (hf : k_fr E τ m H H') (hR : k_R E nL τ vs ρ H ls st (n, env, loc, stk, ff, rel, len, g, par)) : k_R E nL τ vs ρ H' ls st (n, env, loc, stk, k_keep env m ff, rel, k_keepA env m len, k_gk E.2.2.2.2.2.2 m g, par) := by
  obtain ⟨h1, h2, h3, h4, h5, h6, h7, h8, h9⟩ := hR
  exact ⟨h1, h2, h3, h4, k_keep_ok h2 h5 hf, h6, k_keepA_ok h2 h7 hf, k_gk_ok hE hH hf h8, h9⟩
-- 9: stores into arrays
def k_ask : Instr → Nat → Nat
  | .iastore, 0 => 1
  | .bastore, 1 => 2
  | .bastore, 2 => 3
  | .lastore, 3 => 4
  | _, _ => 0
def k_asv (env : List (Nat × kInfo)) (kind : Nat) (o : kOp) : Bool := match kind with
  | 1 => (k_ivl env o).isSome
  | 2 => k_has env o (.inl (-128, 127))
  | 3 => k_has env o (.inl (0, 1))
  | 4 => (k_lvl env o).isSome
  | _ => false
theorem k_nb {x : Int32} (h : k_in (-128, 127) x.toInt) : narrow .byte (.int x) = .int x := by
  have e : (x.toInt8.toInt32).toInt = x.toInt.bmod (2 ^ 8) := by rw [Int8.toInt_toInt32, Int32.toInt_toInt8]
  have h1 := h.1
  have h2 := h.2
  dsimp only at h1 h2
  have : x.toInt8.toInt32 = x := Int32.toInt_inj.mp (by rw [e, Int.bmod_eq_of_le (by omega) (by omega)])
  show Value.int x.toInt8.toInt32 = _
  rw [this]
theorem k_01 {x : Int32} (h : k_in (0, 1) x.toInt) : x = 0 ∨ x = 1 := by
  have h1 := h.1
  have h2 := h.2
  dsimp only at h1 h2
  rcases (show x.toInt = 0 ∨ x.toInt = 1 by omega) with e | e
  · exact Or.inl (Int32.toInt_inj.mp (by rw [e]; rfl))
  · exact Or.inr (Int32.toInt_inj.mp (by rw [e]; rfl))
theorem k_nz01 {x : Int32} (h : k_in (0, 1) x.toInt) : narrow .boolean (.int x) = .int x := by
  rcases k_01 h with rfl | rfl <;> rfl
theorem k_astW {i : Instr} {a m : Nat} {ai : Nat} {cA : ClassId} {ty : FieldType} {f : Nat → Value} {x : Int32} {o : kOp} {v : Value} (hF : k_Fx X cc nL own) (hK : va_K E.1 E.2.1 E.2.2.1 X.2.2.2.2.1) (hT : k_tys E) (he : k_env τ ρ env) (hd : decode cc pc = .ok (i, 1)) (e : k_asv env (k_ask i ai) o = true) (hv : k_v ρ o = some v) (h1 : E.2.2.1[ai]? = some (cA, ty)) (hc : H[a]? = some (arrV cA m f)) (hx : 0 ≤ x.toInt ∧ x.toInt < (m : Int))
    (k : ∀ H' : Heap, H'[a]? = some ((arrV cA m f).setSlot x.toInt.toNat v) → H'.size = H.size → (∀ q, q ≠ a → H'[q]? = H[q]?) → kw X H' (locs ++ [⟨a, x.toInt.toNat⟩]) (pc + 1) ls st) : kw X H locs pc ls (v :: .int x :: .ref a :: st) := by
  have harr := (hK.2 ai _ h1).1 m f
  have hty := hT ai cA ty h1
  have hin := k_idx hx cA f
  unfold k_ask at e
  split at e
  · obtain ⟨rfl⟩ := hty.1 rfl
    obtain ⟨b, hb⟩ := Option.isSome_iff_exists.mp (show (k_ivl env o).isSome = true from e)
    obtain ⟨z, hz, -⟩ := k_ivl_ok he hb
    cases hv.symm.trans hz
    exact W.iast hF.1 hF.2.1 hc harr (fun z => by cases z) hin rfl rfl hd k
  · obtain ⟨rfl⟩ := hty.2.1 rfl
    obtain ⟨w, hw, z, hz, hz2⟩ := k_has_ok he (show k_has env o (.inl (-128, 127)) = true from e)
    cases hv.symm.trans hw
    subst hz
    exact W.bast hF.1 hF.2.1 hc harr (fun z => by cases z) hin rfl rfl hd (fun H' e1 => k H' (by rw [k_nb hz2] at e1; exact e1))
  · obtain ⟨rfl⟩ := hty.2.2.1 rfl
    obtain ⟨w, hw, z, hz, hz2⟩ := k_has_ok he (show k_has env o (.inl (0, 1)) = true from e)
    cases hv.symm.trans hw
    subst hz
    exact W.zast hF.1 hF.2.1 hc harr (fun z => by cases z) hin rfl rfl hd (fun H' e1 => k H' (by rw [k_nz01 hz2] at e1; exact e1))
  · obtain ⟨rfl⟩ := hty.2.2.2.1 rfl
    obtain ⟨b, hb⟩ := Option.isSome_iff_exists.mp (show (k_lvl env o).isSome = true from e)
    obtain ⟨z, hz, -⟩ := k_lvl_ok he hb
    cases hv.symm.trans hz
    exact W.last hF.1 hF.2.1 hc harr (fun z => by cases z) hin rfl rfl hd k
  · cases e
def k_keepJ (jj : Nat) (len : List (Nat × Nat × kOp)) : List (Nat × Nat × kOp) := len.filter (fun z => !(Nat.beq z.2.1 jj))
theorem k_keepJ_ok {E : kE} {τ : kTau} {ρ : Nat → Option Value} {len : List (Nat × Nat × kOp)} {H H' : Heap} {a m j : Nat} {cA : ClassId} {f : Nat → Value} {v : Value} (h : ∀ q ∈ len, k_len E τ ρ H q) (hc : H[a]? = some (arrV cA m f)) (e1 : H'[a]? = some (arrV cA m (updV f j v))) (e3 : ∀ b : Nat, b ≠ a → H'[b]? = H[b]?) : ∀ q ∈ k_keepJ (j + 1) len, k_len E τ ρ H' q := by
  intro q hq
  obtain ⟨hq1, hq2⟩ := List.mem_filter.mp hq
  have hne : q.2.1 ≠ j + 1 := fun e => by
    rw [e] at hq2
    simp at hq2
  obtain ⟨a', t', d', cA', n', f', v', g1, g2, g3, g4, g5, g6, g7⟩ := h q hq1
  by_cases ea : a' = a
  · subst ea
    have ec : arrV cA' n' f' = arrV cA m f := Option.some.inj (g4.symm.trans hc)
    have en : n' = m := by rw [← arrV_size cA' n' f', ec, arrV_size]
    subst en
    refine ⟨a', t', d', cA, n', updV f j v, v', g1, g2, g3, e1, g5, g6, fun i hi => ?_⟩
    obtain ⟨h1, h2⟩ := g7 i hi
    refine ⟨h1, ?_⟩
    have hij : i ≠ j := fun e => hne (by rw [hi, e])
    have hf : f i = f' i := by
      have r1 := arrV_read cA f h1
      have r2 := arrV_read cA' f' h1
      rw [ec] at r2
      exact Option.some.inj (r1.symm.trans r2)
    unfold updV
    rw [if_neg hij, hf]
    exact h2
  · exact ⟨a', t', d', cA', n', f', v', g1, g2, g3, by rw [e3 a' ea]; exact g4, g5, g6, g7⟩
def k_g9 (TT : List kDesc) (GS : Nat → List (Nat × Nat)) (mods : List (Nat × Nat)) (pc : Nat) (i : Instr) (L : Nat) : kSt → Option (List (Nat × kSt))
  | (n, env, loc, ov :: oi :: oa :: r, ff, rel, len, g, par) => if Nat.beq L 1 = true then (match k_ivl env oi, k_obj env oa, k_opinfo env ov with
    | some q, some p, some x => match TT[p.2]? with
      | some (.inr d) => if ((k_asv env (k_ask i d.1) ov && k_inb d.2.1 q p.1 oi rel len) && (k_elw d.2.2.2.2 q.1.toNat q.2.toNat x d.2.2.2.1 && k_m2 p.2 0 mods)) = true then
          some [(pc + 1, (n, env, loc, r, k_keep env [(p.2, 0)] ff, rel, (if k_eqi q.1 q.2 = true then (p.1, q.1.toNat + 1, ov) :: k_keepJ (q.1.toNat + 1) len else k_keepA env [(p.2, 0)] len), k_gk GS [(p.2, 0)] g, par))] else none
      | _ => none
    | _, _, _ => none) else none
  | _ => none
theorem k_g9_ok {i : Instr} {L : Nat} {σ : kSt} {l : List (Nat × kSt)} (hF : k_Fx X cc nL own) (hE : k_Eok E) (hK : va_K E.1 E.2.1 E.2.2.1 X.2.2.2.2.1) (hT : k_tys E) (hd : decode cc pc = .ok (i, L)) (e : k_g9 E.2.2.2.1 E.2.2.2.2.2.2 mods pc i L σ = some l) (hk : ∀ q ∈ l, k_good X E nL τ vs mods H0 q.1 q.2) : k_good X E nL τ vs mods H0 pc σ := by
  unfold k_g9 at e
  split at e
  · rename_i n env loc ov oi oa r ff rel len g par
    intro ρ H locs ls st hH hW hR
    have he := k_envR hR
    split at e
    · rename_i y
      have y := Nat.eq_of_beq_eq_true y
      subst y
      split at e
      · rename_i q p x0 hq hp hx0
        split at e
        · rename_i d hd2
          split at e
          · rename_i c
            rw [Bool.and_eq_true, Bool.and_eq_true, Bool.and_eq_true, k_m2_iff] at c
            cases e
            obtain ⟨v, rs, rfl, hv, hR1⟩ := k_pop hR
            obtain ⟨v1, rs1, rfl, hv1, hR2⟩ := k_pop hR1
            obtain ⟨v2, rs2, rfl, hv2, hR3⟩ := k_pop hR2
            obtain ⟨x, hx1, hx2⟩ := k_ivl_ok he hq
            obtain ⟨w, hw1, hw2⟩ := k_opinfo_ok he hx0
            obtain ⟨ho, a, ha1, ha2⟩ := k_obj_ok (s := p.1) (t := p.2) he hp
            subst ho
            cases hv.symm.trans hw1
            cases hv1.symm.trans hx1
            cases hv2.symm.trans ha1
            obtain ⟨cA, ty, m, f, h1, h2, h3, h4, h5⟩ := k_arr hH ha2 hd2
            have hin := k_inb_ok hR c.1.2 ha1 h2 h3 hx1 hx2
            have hlo : q.1.toNat ≤ x.toInt.toNat := by have := hx2.1; omega
            have hhi : x.toInt.toNat ≤ q.2.toNat := by have := hx2.2; omega
            refine k_astW hF hK hT he hd c.1.1 hv h1 h2 hin (fun H' e1 e2 e3 => ?_)
            obtain ⟨g1, g2⟩ := k_awrite hH ha2 hd2 h1 h2 h3 h4 h5 (k_elw_ok hlo hhi hw2 c.2.1) e1 e2 e3
            have hR4 := k_R_move hE hH g2 hR3
            refine hk _ List.mem_cons_self ρ H' _ ls _ g1 ⟨k_fr_trans hW.1 g2 (fun z hz => by rw [List.mem_singleton.mp hz]; exact c.2.2), fun z hz => ?_⟩ ?_
            · rcases List.mem_append.mp hz with e' | e'
              · exact hW.2 z e'
              · rw [List.mem_singleton.mp e']; exact (hH a p.2 ha2).1
            · obtain ⟨k1, k2, k3, k4, k5, k6, k7, k8⟩ := hR4
              refine ⟨k1, k2, k3, k4, k5, k6, fun z hz => ?_, k8⟩
              split at hz
              · rename_i hsing
                rw [k_eqi_iff] at hsing
                have hj : x.toInt.toNat = q.1.toNat := by have := hx2.1; have := hx2.2; omega
                rw [arrV_store] at e1
                rcases List.mem_cons.mp hz with e' | e'
                · subst e'
                  refine ⟨a, p.2, d, cA, m, updV f x.toInt.toNat v, v, ha1, ha2, hd2, e1, hv, (fun z => by cases z), fun j hj2 => ?_⟩
                  have : q.1.toNat = j := by
                    have : q.1.toNat + 1 = j + 1 := hj2
                    omega
                  subst this
                  exact ⟨by omega, by unfold updV; rw [if_pos hj.symm]⟩
                · rw [hj] at e1
                  obtain ⟨-, -, -, -, -, -, l7, -⟩ := hR3
                  exact k_keepJ_ok l7 h2 e1 e3 z e'
              · exact k7 z hz
          · cases e
        · cases e
      · cases e
    · cases e
  · cases e
-- 10: fields
def k_f4 : List (Nat × Nat × Nat × Nat) → Nat → Option (Nat × Nat × Nat)
  | [], _ => none
  | q :: r, k => if Nat.beq q.1 k = true then some q.2 else k_f4 r k
theorem k_f4_ok : ∀ {l : List (Nat × Nat × Nat × Nat)} {k : Nat} {x : Nat × Nat × Nat}, k_f4 l k = some x → (k, x) ∈ l
  | [], _, _, e => by cases e
  | q :: r, k, x, e => by
    unfold k_f4 at e
    split at e
    · rename_i z
      cases e
      rw [← Nat.eq_of_beq_eq_true z]
      exact List.mem_cons_self
    · exact List.mem_cons_of_mem _ (k_f4_ok e)
/-- of a field's entry (pool number, class, field, kind): it links; kinds: 0 int, 1 boolean, 2 long, 3 a reference, 4 read alone -/
def k_FL (X : kX) (E : kE) (own : String) (FL : List (Nat × Nat × Nat × Nat)) : Prop := ∀ q ∈ FL, ∃ (C : String) (T : u_T) (N : Nat) (ref : String) (ty : FieldType) (Ts : List Jvm.Cond),
  E.2.1[q.2.1]? = some (C, T, N) ∧ q.2.2.1 < N ∧ (∀ w ∈ Ts, w.before X.2.2.2.2.2.2.1 X.2.2.2.2.1 = true) ∧ (∀ w ∈ u_ws C T N, w ∈ Ts) ∧ (Jvm.Cond.fieldLink own q.1 ref (T q.2.2.1).2.1 (T q.2.2.1).2.2.1).before X.2.2.2.2.2.2.1 X.2.2.2.2.1 = true ∧
  (∀ x, X.2.2.2.2.1.fieldFound? (T q.2.2.1).1 (T q.2.2.1).2.1 (T q.2.2.1).2.2.1 = some x → X.2.2.2.2.1.fieldFound? ref (T q.2.2.1).2.1 (T q.2.2.1).2.2.1 = some x) ∧ parseFieldDescriptor (T q.2.2.1).2.2.1 = some ty ∧
  (q.2.2.2 = 0 → ty = .int) ∧ (q.2.2.2 = 1 → ty = .boolean) ∧ (q.2.2.2 = 2 → ty = .long) ∧ (q.2.2.2 = 3 → ty.isReference = true) ∧ (q.2.2.2 < 4 → (T q.2.2.1).2.2.2 = false)
theorem k_getW {FL : List (Nat × Nat × Nat × Nat)} {idx ci k fk a : Nat} {cell : Cell} {v : Value} (hF : k_Fx X cc nL own) (hFL : k_FL X E own FL) (hK : va_K E.1 E.2.1 E.2.2.1 X.2.2.2.2.1) (hq : (idx, ci, k, fk) ∈ FL) (hd : decode cc pc = .ok (.getfield idx, 3)) (h1 : H[a]? = some cell) (h2 : cell.vm = .none) (h3 : cell.slots[E.1.2 ci k]? = some v)
    (kk : kw X H locs (pc + 3) ls (v :: st)) : kw X H locs pc ls (.ref a :: st) := by
  obtain ⟨C, T, N, ref, ty, Ts, f1, f2, f3, f4, f5, f6, -⟩ := hFL _ hq
  obtain ⟨hS, hfc, kC, hkC, hkind⟩ := hK.1 ci _ f1
  obtain ⟨cf, kf, fi, f, hi, hsl⟩ := hS k f2
  refine W.getf hF.1 hF.2.1 hF.2.2.2 f5 (f6 _ hi) (u_facts hfc hkC (u_lays f3 f4 f2) hi).1 h1 (by rw [h2]; exact fun z => by cases z) (v := v) ?_ rfl rfl hd kk
  rw [hsl]
  exact h3
def k_fkv (env : List (Nat × kInfo)) (fk : Nat) (o : kOp) : Bool := match fk with
  | 0 => (k_ivl env o).isSome
  | 1 => k_has env o (.inl (0, 1))
  | 2 => (k_lvl env o).isSome
  | 3 => (k_rf env o).isSome
  | _ => false
theorem k_fkv_ok {fk : Nat} {o : kOp} {v : Value} {ty : FieldType} (he : k_env τ ρ env) (e : k_fkv env fk o = true) (hv : k_v ρ o = some v) (h0 : fk = 0 → ty = .int) (h1 : fk = 1 → ty = .boolean) (h2 : fk = 2 → ty = .long) (h3 : fk = 3 → ty.isReference = true) : narrow ty v = v ∧ fits ty v = true ∧ fk < 4 := by
  unfold k_fkv at e
  split at e
  · obtain ⟨rfl⟩ := h0 rfl
    obtain ⟨b, hb⟩ := Option.isSome_iff_exists.mp e
    obtain ⟨z, hz, -⟩ := k_ivl_ok he hb
    cases hv.symm.trans hz
    exact ⟨rfl, rfl, by decide⟩
  · obtain ⟨rfl⟩ := h1 rfl
    obtain ⟨w, hw, z, hz, hz2⟩ := k_has_ok he e
    cases hv.symm.trans hw
    subst hz
    refine ⟨k_nz01 hz2, ?_, by decide⟩
    rcases k_01 hz2 with rfl | rfl <;> rfl
  · obtain ⟨rfl⟩ := h2 rfl
    obtain ⟨b, hb⟩ := Option.isSome_iff_exists.mp e
    obtain ⟨z, hz, -⟩ := k_lvl_ok he hb
    cases hv.symm.trans hz
    exact ⟨rfl, rfl, by decide⟩
  · have hr := h3 rfl
    obtain ⟨b, hb⟩ := Option.isSome_iff_exists.mp e
    obtain ⟨w, hw, hw2⟩ := k_rf_ok he hb
    cases hv.symm.trans hw
    cases ty <;> first | (exact absurd hr (by decide)) | skip
    · rcases hw2 with ⟨-, z⟩ | ⟨a, t, z, -⟩ <;> subst z <;> exact ⟨rfl, rfl, by decide⟩
    · rcases hw2 with ⟨-, z⟩ | ⟨a, t, z, -⟩ <;> subst z <;> exact ⟨rfl, rfl, by decide⟩
  · cases e
theorem k_putW {FL : List (Nat × Nat × Nat × Nat)} {idx ci k fk a : Nat} {cell : Cell} {v : Value} (hF : k_Fx X cc nL own) (hFL : k_FL X E own FL) (hK : va_K E.1 E.2.1 E.2.2.1 X.2.2.2.2.1) (hq : (idx, ci, k, fk) ∈ FL) (hd : decode cc pc = .ok (.putfield idx, 3)) (h1 : H[a]? = some cell) (h0 : cell.cls = E.1.1 ci) (h2 : cell.vm = .none) (h3 : (cell.slots[E.1.2 ci k]?).isSome = true)
    (hty : ∀ ty, (fk = 0 → ty = FieldType.int) → (fk = 1 → ty = .boolean) → (fk = 2 → ty = .long) → (fk = 3 → ty.isReference = true) → narrow ty v = v ∧ fits ty v = true ∧ fk < 4)
    (kk : ∀ H' : Heap, H'[a]? = some (cell.setSlot (E.1.2 ci k) v) → H'.size = H.size → (∀ q, q ≠ a → H'[q]? = H[q]?) → kw X H' (locs ++ [⟨a, E.1.2 ci k⟩]) (pc + 3) ls st) : kw X H locs pc ls (v :: .ref a :: st) := by
  obtain ⟨C, T, N, ref, ty, Ts, f1, f2, f3, f4, f5, f6, f7, t0, t1, t2, t3, t4⟩ := hFL _ hq
  obtain ⟨hn, hfit, h4⟩ := hty ty t0 t1 t2 t3
  have hfin := t4 h4
  obtain ⟨hS, hfc, kC, hkC, hkind⟩ := hK.1 ci _ f1
  obtain ⟨cf, kf, fi, f, hi, hsl⟩ := hS k f2
  have hlay := f3 _ (f4 _ (u_in_lay f2))
  unfold u_lay at hlay
  rw [if_neg (by rw [hfin]; decide)] at hlay
  have hst := (u_facts hfc hkC (u_lays f3 f4 f2) hi).1
  have h6 := u_store hfc hkC hkind hlay hi f7 hn hfit
  obtain ⟨v0, hv0⟩ := Option.isSome_iff_exists.mp h3
  refine W.putK hF.1 hF.2.1 (f := f) ⟨hF.2.2.2, f5, ⟨_, _, _, f6 _ hi⟩, hst⟩ (by rw [h0]; exact h6) h1 h2 (by rw [hsl]; exact k2_hasslot hv0) rfl rfl hd fun H' e1 e2 e3 => ?_
  rw [hsl] at e1 ⊢
  exact kk H' e1 e2 e3
/-- reading field k of the object s of a tag with these infos: the operand; where no fact is there a new symbol -/
def k_rd (s k : Nat) (fs : List kInfo) : kSt → Option (kOp × kSt)
  | (n, env, loc, stk, ff, rel, len, g, par) => match k_fct ff s k with
    | some o => some (o, (n, env, loc, stk, ff, rel, len, g, par))
    | none => match fs[k]? with
      | some x => some (.inl n, (n + 1, (n, x) :: env, loc, stk, (s, k, .inl n) :: ff, rel, len, g, par))
      | none => none
theorem k_R_new0 (h : k_R E nL τ vs ρ H ls st (n, env, loc, stk, ff, rel, len, g, par)) {x : kInfo} {v : Value} (hv : k_ok τ x v) : k_R E nL τ vs (k_ext ρ n v) H ls st (n + 1, (n, x) :: env, loc, stk, ff, rel, len, g, par) := by
  obtain ⟨w, rs, e, -, h2⟩ := k_pop (k_R_new h hv)
  cases e
  exact h2
theorem k_rd_ok {s k a t : Nat} {d : Nat × List kInfo} {o : kOp} {σ : kSt} (hE : k_Eok E) (hH : k_HT E τ H) (hs : ρ s = some (.ref a)) (ht : τ a = some t) (hd : E.2.2.2.1[t]? = some (.inl d)) (hR : k_R E nL τ vs ρ H ls st (n, env, loc, stk, ff, rel, len, g, par)) (e : k_rd s k d.2 (n, env, loc, stk, ff, rel, len, g, par) = some (o, σ)) :
    ∃ (ρ' : Nat → Option Value) (v : Value), k_le' ρ ρ' ∧ k_R E nL τ vs ρ' H ls st σ ∧ k_v ρ' o = some v ∧ k < d.2.length ∧ k_fld E H a d.1 k = some v := by
  unfold k_rd at e
  dsimp only at e
  split at e
  · rename_i o' hf
    cases e
    obtain ⟨a', t', d', v, g1, g2, g3, g4, g5, g6⟩ := hR.2.2.2.2.1 _ (k_fct_ok hf)
    have ea : a = a' := Value.ref.inj (Option.some.inj (hs.symm.trans g1))
    subst ea
    have et : t = t' := Option.some.inj (ht.symm.trans g2)
    subst et
    rw [hd] at g3
    cases g3
    exact ⟨ρ, v, fun _ _ h => h, hR, g5, g4, g6⟩
  · split at e
    · rename_i x hx
      cases e
      have hk : k < d.2.length := (List.getElem?_eq_some_iff.mp hx).1
      obtain ⟨v, cell, y, j1, j2, j3, j4, j5, j6, j7⟩ := k_read hE hH ht hd hk
      rw [hx] at j1
      cases j1
      have hn := k_R_new0 hR j2
      have hu := k_ext_le (v := v) hR.1
      refine ⟨_, v, hu, ?_, k_ext_at, hk, j7⟩
      obtain ⟨k1, k2, k3, k4, k5, k6⟩ := hn
      refine ⟨k1, k2, k3, k4, fun z hz => ?_, k6⟩
      rcases List.mem_cons.mp hz with e' | e'
      · subst e'
        exact ⟨a, t, d, v, hu _ _ hs, ht, hd, hk, k_ext_at, j7⟩
      · exact k5 z e'
    · cases e
def k_g10 (TT : List kDesc) (GS : Nat → List (Nat × Nat)) (FL : List (Nat × Nat × Nat × Nat)) (mods : List (Nat × Nat)) (pc : Nat) (i : Instr) (L : Nat) : kSt → Option (List (Nat × kSt))
  | (n, env, loc, stk, ff, rel, len, g, par) => if Nat.beq L 3 = true then (match i, stk with
    | .getfield idx, oa :: r => match k_f4 FL idx, k_obj env oa with
      | some q, some p => match TT[p.2]? with
        | some (.inl d) => if Nat.beq d.1 q.1 = true then (match k_rd p.1 q.2.1 d.2 (n, env, loc, r, ff, rel, len, g, par) with
          | some (o, (n', env', loc', stk', ff', rel', len', g', par')) => some [(pc + 3, (n', env', loc', o :: stk', ff', rel', len', g', par'))]
          | none => none) else none
        | _ => none
      | _, _ => none
    | .putfield idx, ov :: oa :: r => match k_f4 FL idx, k_obj env oa with
      | some q, some p => match TT[p.2]? with
        | some (.inl d) => match d.2[q.2.1]? with
          | some x => if ((Nat.beq d.1 q.1 && k_has env ov x) && (k_fkv env q.2.2 ov && k_m2 p.2 q.2.1 mods)) = true then
              some [(pc + 3, (n, env, loc, r, (p.1, q.2.1, ov) :: k_keep env [(p.2, q.2.1)] ff, rel, k_keepA env [(p.2, q.2.1)] len, k_gk GS [(p.2, q.2.1)] g, par))] else none
          | none => none
        | _ => none
      | _, _ => none
    | _, _ => none) else none
theorem k_g10_ok {FL : List (Nat × Nat × Nat × Nat)} {i : Instr} {L : Nat} {σ : kSt} {l : List (Nat × kSt)} (hF : k_Fx X cc nL own) (hE : k_Eok E) (hK : va_K E.1 E.2.1 E.2.2.1 X.2.2.2.2.1) (hFL : k_FL X E own FL) (hd : decode cc pc = .ok (i, L)) (e : k_g10 E.2.2.2.1 E.2.2.2.2.2.2 FL mods pc i L σ = some l) (hk : ∀ q ∈ l, k_good X E nL τ vs mods H0 q.1 q.2) : k_good X E nL τ vs mods H0 pc σ := by
  obtain ⟨n, env, loc, stk, ff, rel, len, g, par⟩ := σ
  intro ρ H locs ls st hH hW hR
  have he := k_envR hR
  unfold k_g10 at e
  dsimp only at e
  split at e
  · rename_i y
    have y := Nat.eq_of_beq_eq_true y
    subst y
    split at e
    · rename_i idx oa r
      split at e
      · rename_i q p hq hp
        split at e
        · rename_i d hd2
          split at e
          · rename_i c
            have c := Nat.eq_of_beq_eq_true c
            split at e
            · rename_i o n' env' loc' stk' ff' rel' len' g' par' hrd
              cases e
              obtain ⟨v, rs, rfl, hv, hR2⟩ := k_pop hR
              obtain ⟨ho, a, ha1, ha2⟩ := k_obj_ok (s := p.1) (t := p.2) he hp
              subst ho
              cases hv.symm.trans ha1
              obtain ⟨ρ', w, hu, hR3, hw, hkl, hfl⟩ := k_rd_ok hE hH ha1 ha2 hd2 hR2 hrd
              obtain ⟨w', cell, y, j1, j2, j3, j4, j5, j6, j7⟩ := k_read hE hH ha2 hd2 hkl
              have : w' = w := Option.some.inj (j7.symm.trans hfl)
              subst this
              have hmem := k_f4_ok hq
              exact k_getW (ci := q.1) (k := q.2.1) (fk := q.2.2) hF hFL hK hmem hd j3 j5 (by rw [← c]; exact j6) (hk _ List.mem_cons_self ρ' H locs ls _ hH hW (k_psh hR3 hw))
            · cases e
          · cases e
        · cases e
      · cases e
    · rename_i idx ov oa r
      split at e
      · rename_i q p hq hp
        split at e
        · rename_i d hd2
          split at e
          · rename_i x hx
            split at e
            · rename_i c
              rw [Bool.and_eq_true, Bool.and_eq_true, Bool.and_eq_true, k_m2_iff] at c
              cases e
              have c1 := Nat.eq_of_beq_eq_true c.1.1
              obtain ⟨v, rs, rfl, hv, hR1⟩ := k_pop hR
              obtain ⟨v2, rs2, rfl, hv2, hR2⟩ := k_pop hR1
              obtain ⟨ho, a, ha1, ha2⟩ := k_obj_ok (s := p.1) (t := p.2) he hp
              subst ho
              cases hv2.symm.trans ha1
              obtain ⟨w, hw1, hw2⟩ := k_has_ok he c.1.2
              cases hv.symm.trans hw1
              have hkl : q.2.1 < d.2.length := (List.getElem?_eq_some_iff.mp hx).1
              obtain ⟨w', cell, y, j1, j2, j3, j4, j5, j6, j7⟩ := k_read hE hH ha2 hd2 hkl
              have hmem := k_f4_ok hq
              refine k_putW (ci := q.1) (k := q.2.1) (fk := q.2.2) hF hFL hK hmem hd j3 (by rw [← c1]; exact j4) j5 (by rw [← c1, j6]; rfl) (fun ty t0 t1 t2 t3 => k_fkv_ok he c.2.1 hv t0 t1 t2 t3) (fun H' e1 e2 e3 => ?_)
              obtain ⟨g1, g2, g3⟩ := k_write hE hH ha2 hd2 hx hw2 j3 (by rw [c1]; exact e1) e2 e3
              have hR3 := k_R_move hE hH g2 hR2
              refine hk _ List.mem_cons_self ρ H' _ ls _ g1 ⟨k_fr_trans hW.1 g2 (fun z hz => by rw [List.mem_singleton.mp hz]; exact c.2.2), fun z hz => ?_⟩ ?_
              · rcases List.mem_append.mp hz with e' | e'
                · exact hW.2 z e'
                · rw [List.mem_singleton.mp e']; exact (hH a p.2 ha2).1
              · obtain ⟨k1, k2, k3, k4, k5, k6⟩ := hR3
                refine ⟨k1, k2, k3, k4, fun z hz => ?_, k6⟩
                rcases List.mem_cons.mp hz with e' | e'
                · subst e'
                  exact ⟨a, p.2, d, v, ha1, ha2, hd2, hkl, hv, g3⟩
                · exact k5 z e'
            · cases e
          · cases e
        · cases e
      · cases e
    · cases e
  · cases e
-- 11: calls by contract
end KM
abbrev kAlt : Type := Option kInfo × List (Nat × kInfo) × List (Nat × Nat × kInfo)
/-- a contract: infos of the arguments; facts on fields of arguments before; how it may end; what it may change; invariants before, behind -/
abbrev kCtr : Type := List kInfo × List (Nat × Nat × kInfo) × List kAlt × List (Nat × Nat) × List Nat × List Nat
def k_fo (E : kE) (τ : kTau) (H : Heap) (v : Value) (k : Nat) (x : kInfo) : Prop := ∃ (a t : Nat) (d : Nat × List kInfo) (w : Value), v = .ref a ∧ τ a = some t ∧ E.2.2.2.1[t]? = some (.inl d) ∧ k < d.2.length ∧ k_fld E H a d.1 k = some w ∧ k_ok τ x w
def k_fw (E : kE) (τ : kTau) (H : Heap) (v : Value) (k : Nat) (w : Value) : Prop := ∃ (a t : Nat) (d : Nat × List kInfo), v = .ref a ∧ τ a = some t ∧ E.2.2.2.1[t]? = some (.inl d) ∧ k < d.2.length ∧ k_fld E H a d.1 k = some w
/-- facts on fields before a call: of an argument, or of what an earlier fact has named -/
def k_prF (E : kE) (τ : kTau) (H : Heap) : List (Nat × Nat × kInfo) → List Value → Prop
  | [], _ => True
  | q :: r, as => ∃ v w : Value, as[q.1]? = some v ∧ k_fw E τ H v q.2.1 w ∧ k_ok τ q.2.2 w ∧ k_prF E τ H r (as ++ [w])
def k_pre (E : kE) (τ : kTau) (H : Heap) (K : kCtr) (as : List Value) : Prop := as.length = K.1.length ∧ (∀ (i : Nat) (x : kInfo), K.1[i]? = some x → ∃ v, as[i]? = some v ∧ k_ok τ x v) ∧ k_prF E τ H K.2.1 as ∧ ∀ i ∈ K.2.2.2.2.1, E.2.2.2.2.2.1 i τ H
def k_alt (E : kE) (τ : kTau) (H' : Heap) (as : List Value) (v : Option Value) (A : kAlt) : Prop := (match A.1 with
  | none => v = none
  | some x => ∃ w, v = some w ∧ k_ok τ x w) ∧ (∀ q ∈ A.2.1, ∃ w, as[q.1]? = some w ∧ k_ok τ q.2 w) ∧ ∀ q ∈ A.2.2, ∃ w, as[q.1]? = some w ∧ k_fo E τ H' w q.2.1 q.2.2
def k_post (E : kE) (τ : kTau) (H H' : Heap) (K : kCtr) (as : List Value) (v : Option Value) : Prop := k_HT E τ H' ∧ k_fr E τ K.2.2.2.1 H H' ∧ (∀ i ∈ K.2.2.2.2.2, E.2.2.2.2.2.1 i τ H') ∧ ∃ A ∈ K.2.2.1, k_alt E τ H' as v A
def k_call (X : kX) (E : kE) (nL : Nat) (τ : kTau) (K : kCtr) (pc : Nat) : Prop := ∀ (H : Heap) (locs : List Loc) (ls : Array Slot) (as rest : List Value), k_HT E τ H → k_pre E τ H K as → (rest.map fun v => v.category).sum ≤ 8 → ls.size = nL →
  (∀ (H' : Heap) (L : List Loc) (v : Option Value), k_post E τ H H' K as v → (∀ q ∈ L, E.2.2.2.2.1 ≤ q.base) → kw X H' (locs ++ L) (pc + 3) ls (v.toList ++ rest)) → kw X H locs pc ls (as.reverse ++ rest)
section KC
variable {X : kX} {E : kE} {nL : Nat} {τ : kTau} {vs : List Value} {mods : List (Nat × Nat)} {H0 : Heap} {cc : ByteArray} {own : String} {pc : Nat}
variable {ρ : Nat → Option Value} {H : Heap} {locs : List Loc} {ls : Array Slot} {st : List Value} {n : Nat} {env : List (Nat × kInfo)} {loc : List (Nat × kOp)} {stk : List kOp} {ff : List (Nat × Nat × kOp)} {rel : List (Nat × Nat × Nat × Nat × Int)} {len : List (Nat × Nat × kOp)} {g : List Nat} {par : List kOp}
def k_args (env : List (Nat × kInfo)) : List kOp → List kInfo → Bool
  | [], [] => true
  | o :: r, x :: s => k_has env o x && k_args env r s
  | _, _ => false
theorem k_args_ok (he : k_env τ ρ env) : ∀ {ops : List kOp} {xs : List kInfo} {as : List Value}, k_args env ops xs = true → ops.map (k_v ρ) = as.map some → as.length = xs.length ∧ (∀ (i : Nat) (x : kInfo), xs[i]? = some x → ∃ v, as[i]? = some v ∧ k_ok τ x v) ∧ ∀ o ∈ ops, ∀ c, o = .inr c → (Int32.ofInt c).toInt = c
  | [], [], as, _, e => by
    cases as with
    | nil => exact ⟨rfl, fun i x h => by simp at h, fun o h => by cases h⟩
    | cons a r => simp at e
  | o :: r, x :: s, as, h, e => by
    cases as with
    | nil => simp at e
    | cons a as' =>
      simp only [List.map_cons, List.cons.injEq] at e
      unfold k_args at h
      rw [Bool.and_eq_true] at h
      obtain ⟨h1, h2, h3⟩ := k_args_ok he h.2 e.2
      obtain ⟨v, hv, hok⟩ := k_has_ok he h.1
      have : v = a := Option.some.inj (hv.symm.trans e.1)
      subst this
      refine ⟨by simp [h1], fun i y hi => ?_, fun o' ho' c hc => ?_⟩
      · cases i with
        | zero =>
          simp at hi
          subst hi
          exact ⟨v, by simp, hok⟩
        | succ i =>
          obtain ⟨w, w1, w2⟩ := h2 i y (by simpa using hi)
          exact ⟨w, by simpa using w1, w2⟩
      · rcases List.mem_cons.mp ho' with z | z
        · subst z
          subst hc
          have hh := h.1
          unfold k_has at hh
          split at hh
          · rename_i y hy
            unfold k_opinfo at hy
            dsimp only at hy
            split at hy
            · rename_i z
              rw [Bool.and_eq_true, k_le_iff, k_le_iff] at z
              rw [Int32.toInt_ofInt]
              have e2 : (Int32.size : Int) = 4294967296 := rfl
              exact Int.bmod_eq_of_le (by omega) (by omega)
            · cases hy
          · cases hh
        · exact h3 o' z c hc
  | [], x :: s, as, h, _ => by cases h
  | o :: r, [], as, h, _ => by cases h
/-- field k of the object o is x, by a fact or by its kind -/
def k_fhas (TT : List kDesc) (env : List (Nat × kInfo)) (ff : List (Nat × Nat × kOp)) (o : kOp) (k : Nat) (x : kInfo) : Bool := match k_obj env o with
  | some p => match TT[p.2]? with
    | some (.inl d) => match k_fct ff p.1 k with
      | some o' => k_has env o' x
      | none => match d.2[k]? with
        | some y => k_isub y x
        | none => false
    | _ => false
  | none => false
theorem k_fhas_ok {o : kOp} {k : Nat} {x : kInfo} (hE : k_Eok E) (hH : k_HT E τ H) (he : k_env τ ρ env) (hf : ∀ q ∈ ff, k_fact E τ ρ H q) (e : k_fhas E.2.2.2.1 env ff o k x = true) : ∃ v, k_v ρ o = some v ∧ k_fo E τ H v k x := by
  unfold k_fhas at e
  split at e
  · rename_i p hp
    obtain ⟨ho, a, ha1, ha2⟩ := k_obj_ok (s := p.1) (t := p.2) he hp
    subst ho
    split at e
    · rename_i d hd
      refine ⟨.ref a, ha1, ?_⟩
      split at e
      · rename_i o' ho'
        obtain ⟨a', t', d', v, g1, g2, g3, g4, g5, g6⟩ := hf _ (k_fct_ok ho')
        have ea : a = a' := Value.ref.inj (Option.some.inj (ha1.symm.trans g1))
        subst ea
        have et : p.2 = t' := Option.some.inj (ha2.symm.trans g2)
        rw [← et, hd] at g3
        cases g3
        obtain ⟨w, w1, w2⟩ := k_has_ok he e
        have : w = v := Option.some.inj (w1.symm.trans g5)
        subst this
        exact ⟨a, p.2, d, w, rfl, ha2, hd, g4, g6, w2⟩
      · split at e
        · rename_i y hy
          have hk : k < d.2.length := (List.getElem?_eq_some_iff.mp hy).1
          obtain ⟨v, cell, y', j1, j2, j3, j4, j5, j6, j7⟩ := k_read hE hH ha2 hd hk
          rw [hy] at j1
          cases j1
          exact ⟨a, p.2, d, v, rfl, ha2, hd, hk, j7, k_isub_ok e j2⟩
        · cases e
    · cases e
  · cases e
def k_cats (env : List (Nat × kInfo)) : List kOp → Option Nat
  | [] => some 0
  | o :: r => match k_cats env r with
    | some c => if k_is1 env o = true then some (c + 1) else if (k_lvl env o).isSome = true then some (c + 2) else none
    | none => none
theorem k_cats_ok (he : k_env τ ρ env) : ∀ {ops : List kOp} {as : List Value} {c : Nat}, k_cats env ops = some c → ops.map (k_v ρ) = as.map some → (as.map fun v => v.category).sum = c
  | [], [], c, e, _ => by cases e; rfl
  | [], a :: r, _, _, h => by simp at h
  | o :: r, [], _, _, h => by simp at h
  | o :: r, a :: as, c, e, h => by
    simp only [List.map_cons, List.cons.injEq] at h
    unfold k_cats at e
    split at e
    · rename_i c' hc'
      have ih := k_cats_ok he hc' h.2
      split at e
      · rename_i z
        cases e
        simp only [List.map_cons, List.sum_cons, ih, k_is1_ok he z h.1]
        omega
      · split at e
        · rename_i z
          cases e
          obtain ⟨b, hb⟩ := Option.isSome_iff_exists.mp z
          obtain ⟨x, hx, -⟩ := k_lvl_ok he hb
          have : a = .long x := Option.some.inj (h.1.symm.trans hx)
          subst this
          have h2 : (Value.long x).category = 2 := rfl
          simp only [List.map_cons, List.sum_cons, ih, h2]
          omega
        · cases e
    · cases e
def k_rfs (rel : List (Nat × Nat × Nat × Nat × Int)) (ops : List kOp) : List (Nat × kInfo) → List (Nat × kInfo) → Option (List (Nat × kInfo))
  | [], env => some env
  | q :: r, env => match ops[q.1]? with
    | some o => match k_refO rel env o q.2 with
      | some e => k_rfs rel ops r e
      | none => none
    | none => k_rfs rel ops r env
theorem k_map_get {ops : List kOp} {as : List Value} (h : ops.map (k_v ρ) = as.map some) {i : Nat} {o : kOp} {w : Value} (ho : ops[i]? = some o) (hw : as[i]? = some w) : k_v ρ o = some w := by
  have h1 : (ops.map (k_v ρ))[i]? = (as.map some)[i]? := by rw [h]
  rw [List.getElem?_map, List.getElem?_map, ho, hw] at h1
  exact Option.some.inj h1
theorem k_rfs_ok {ops : List kOp} {as : List Value} (hr : ∀ q ∈ rel, k_rel ρ q) (hm : ops.map (k_v ρ) = as.map some) (hc : ∀ o ∈ ops, ∀ c, o = .inr c → (Int32.ofInt c).toInt = c) : ∀ {ps : List (Nat × kInfo)} {env : List (Nat × kInfo)}, k_env τ ρ env → (∀ q ∈ ps, ∃ w, as[q.1]? = some w ∧ k_ok τ q.2 w) → ∃ e, k_rfs rel ops ps env = some e ∧ k_env τ ρ e
  | [], env, he, _ => ⟨env, rfl, he⟩
  | q :: r, env, he, hp => by
    obtain ⟨w, w1, w2⟩ := hp q List.mem_cons_self
    have hp' := fun z hz => hp z (List.mem_cons_of_mem _ hz)
    unfold k_rfs
    split
    · rename_i o ho
      obtain ⟨e, e1, e2⟩ := k_refO_ok hr he (k_map_get hm ho w1) w2 (hc o (List.mem_of_getElem? ho))
      rw [e1]
      exact k_rfs_ok hr hm hc e2 hp'
    · exact k_rfs_ok hr hm hc he hp'
def k_pfs (ops : List kOp) : List (Nat × Nat × kInfo) → kSt → Option kSt
  | [], σ => some σ
  | q :: r, (n, env, loc, stk, ff, rel, len, g, par) => match ops[q.1]? with
    | some o => match k_obj env o with
      | some p => k_pfs ops r (n + 1, (n, q.2.2) :: env, loc, stk, (p.1, q.2.1, .inl n) :: ff, rel, len, g, par)
      | none => none
    | none => none
theorem k_pfs_ok {ops : List kOp} {as : List Value} : ∀ {ps : List (Nat × Nat × kInfo)} {ρ : Nat → Option Value} {σ σ' : kSt}, ops.map (k_v ρ) = as.map some → k_R E nL τ vs ρ H ls st σ → (∀ q ∈ ps, ∃ w, as[q.1]? = some w ∧ k_fo E τ H w q.2.1 q.2.2) → k_pfs ops ps σ = some σ' → ∃ ρ', k_R E nL τ vs ρ' H ls st σ'
  | [], ρ, σ, σ', _, hR, _, e => by cases e; exact ⟨ρ, hR⟩
  | q :: r, ρ, (n, env, loc, stk, ff, rel, len, g, par), σ', hm, hR, hp, e => by
    unfold k_pfs at e
    split at e
    · rename_i o ho
      split at e
      · rename_i p hp2
        obtain ⟨w, w1, a, t, d, v, g1, g2, g3, g4, g5, g6⟩ := hp q List.mem_cons_self
        obtain ⟨ho2, a', ha1, ha2⟩ := k_obj_ok (s := p.1) (t := p.2) (k_envR hR) hp2
        have hv := k_map_get hm ho w1
        subst ho2
        subst g1
        have ea : a' = a := Value.ref.inj (Option.some.inj (ha1.symm.trans hv))
        subst ea
        have hn := k_R_new0 hR g6
        have hu := k_ext_le (v := v) hR.1
        refine k_pfs_ok (k_map_up hu hm) ?_ (fun z hz => hp z (List.mem_cons_of_mem _ hz)) e
        obtain ⟨k1, k2, k3, k4, k5, k6⟩ := hn
        refine ⟨k1, k2, k3, k4, fun z hz => ?_, k6⟩
        rcases List.mem_cons.mp hz with e' | e'
        · subst e'
          exact ⟨a', t, d, v, hu _ _ hv, g2, g3, g4, k_ext_at, g5⟩
        · exact k5 z e'
      · cases e
    · cases e
/-- the state behind a call, by one of its ends; some none: that end can't be -/
def k_aft (A : kAlt) (ops rest : List kOp) : kSt → Option (Option kSt)
  | (n, env, loc, _, ff, rel, len, g, par) => match k_rfs rel ops A.2.1 env with
    | none => some none
    | some env' => match k_pfs ops A.2.2 (n, env', loc, rest, ff, rel, len, g, par) with
      | some σ => match A.1, σ with
        | none, _ => some (some σ)
        | some (.inl b), _ => some (some (k_resI b [] σ))
        | some x, (n', env2, loc', stk', ff', rel', len', g', par') => some (some (n' + 1, (n', x) :: env2, loc', .inl n' :: stk', ff', rel', len', g', par'))
      | none => none
theorem k_aft_ok {A : kAlt} {ops rest : List kOp} {as rs : List Value} {v : Option Value} {r : Option kSt} (hm : ops.map (k_v ρ) = as.map some) (hc : ∀ o ∈ ops, ∀ c, o = .inr c → (Int32.ofInt c).toInt = c) (hR : k_R E nL τ vs ρ H ls rs (n, env, loc, rest, ff, rel, len, g, par)) (hA : k_alt E τ H as v A) (e : k_aft A ops rest (n, env, loc, stk, ff, rel, len, g, par) = some r) : ∃ σ' ρ', r = some σ' ∧ k_R E nL τ vs ρ' H ls (v.toList ++ rs) σ' := by
  obtain ⟨a1, a2, a3⟩ := hA
  unfold k_aft at e
  dsimp only at e
  obtain ⟨env', h1, h2⟩ := k_rfs_ok (k_relR hR) hm hc (k_envR hR) a2
  rw [h1] at e
  dsimp only at e
  split at e
  · rename_i σ hσ
    obtain ⟨ρ', hR'⟩ := k_pfs_ok hm (k_withEnv hR h2) a3 hσ
    obtain ⟨n', env2, loc', stk', ff', rel', len', g', par'⟩ := σ
    split at e
    · rename_i hA1
      cases e
      rw [hA1] at a1
      subst a1
      exact ⟨_, ρ', rfl, hR'⟩
    · rename_i b hA1
      cases e
      rw [hA1] at a1
      obtain ⟨w, w1, x, x1, x2⟩ := a1
      subst w1
      subst x1
      obtain ⟨ρ2, hR2⟩ := k_resI_ok (q := b) (d := []) hR' x2 (fun _ _ _ => k_nod)
      exact ⟨_, ρ2, rfl, hR2⟩
    · rename_i x _ _ _ _ _ _ _ _ _ hA1 he2
      cases e
      cases he2
      rw [hA1] at a1
      obtain ⟨w, w1, w2⟩ := a1
      subst w1
      exact ⟨_, _, rfl, k_R_new hR' w2⟩
  · cases e
def k_afts (t : Nat) (ops rest : List kOp) (σ : kSt) : List kAlt → Option (List (Nat × kSt))
  | [] => some []
  | A :: r => match k_aft A ops rest σ, k_afts t ops rest σ r with
    | some (some s), some l => some ((t, s) :: l)
    | some none, some l => some l
    | _, _ => none
theorem k_afts_mem {t : Nat} {ops rest : List kOp} {σ : kSt} : ∀ {As : List kAlt} {l : List (Nat × kSt)}, k_afts t ops rest σ As = some l → ∀ A ∈ As, ∃ r, k_aft A ops rest σ = some r ∧ ∀ s, r = some s → (t, s) ∈ l
  | [], l, _, A, h => by cases h
  | B :: r, l, e, A, h => by
    unfold k_afts at e
    split at e
    · rename_i s l' h1 h2
      cases e
      rcases List.mem_cons.mp h with z | z
      · subst z
        exact ⟨some s, h1, fun s' hs => by cases hs; exact List.mem_cons_self⟩
      · obtain ⟨r', g1, g2⟩ := k_afts_mem h2 A z
        exact ⟨r', g1, fun s' hs => List.mem_cons_of_mem _ (g2 s' hs)⟩
    · rename_i l' h1 h2
      cases e
      rcases List.mem_cons.mp h with z | z
      · subst z
        exact ⟨none, h1, fun s' hs => by cases hs⟩
      · exact k_afts_mem h2 A z
    · cases e
theorem k_map_get2 {ops : List kOp} {as : List Value} (h : ops.map (k_v ρ) = as.map some) {i : Nat} {o : kOp} (ho : ops[i]? = some o) : ∃ w, as[i]? = some w ∧ k_v ρ o = some w := by
  have h1 : (ops.map (k_v ρ))[i]? = (as.map some)[i]? := by rw [h]
  rw [List.getElem?_map, List.getElem?_map, ho] at h1
  cases hz : as[i]? with
  | none => rw [hz] at h1; cases h1
  | some w =>
    rw [hz] at h1
    exact ⟨w, rfl, Option.some.inj h1⟩
/-- the facts that a contract asks for ahead of the call -/
def k_prc (TT : List kDesc) : List (Nat × Nat × kInfo) → List kOp → kSt → Option kSt
  | [], _, σ => some σ
  | q :: r, ops, (n, env, loc, stk, ff, rel, len, g, par) => match ops[q.1]? with
    | some o => match k_obj env o with
      | some p => match TT[p.2]? with
        | some (.inl d) => match k_rd p.1 q.2.1 d.2 (n, env, loc, stk, ff, rel, len, g, par) with
          | some x => if k_has x.2.2.1 x.1 q.2.2 = true then k_prc TT r (ops ++ [x.1]) x.2 else none
          | none => none
        | _ => none
      | none => none
    | none => none
theorem k_prc_ok (hE : k_Eok E) (hH : k_HT E τ H) : ∀ {fs : List (Nat × Nat × kInfo)} {ops : List kOp} {as : List Value} {ρ : Nat → Option Value} {σ σ' : kSt}, ops.map (k_v ρ) = as.map some → k_R E nL τ vs ρ H ls st σ → k_prc E.2.2.2.1 fs ops σ = some σ' → ∃ ρ', k_le' ρ ρ' ∧ k_R E nL τ vs ρ' H ls st σ' ∧ k_prF E τ H fs as
  | [], ops, as, ρ, σ, σ', _, hR, e => by cases e; exact ⟨ρ, fun _ _ h => h, hR, trivial⟩
  | q :: r, ops, as, ρ, (n, env, loc, stk, ff, rel, len, g, par), σ', hm, hR, e => by
    unfold k_prc at e
    split at e
    · rename_i o ho
      split at e
      · rename_i p hp
        split at e
        · rename_i d hd
          split at e
          · rename_i x hx
            split at e
            · rename_i hh
              obtain ⟨o', n', env', loc', stk', ff', rel', len', g', par'⟩ := x
              obtain ⟨ho2, a, ha1, ha2⟩ := k_obj_ok (s := p.1) (t := p.2) (k_envR hR) hp
              obtain ⟨ρ1, w, hu, hR1, hw, hkl, hfl⟩ := k_rd_ok (o := o') hE hH ha1 ha2 hd hR hx
              obtain ⟨u, u1, u2⟩ := k_has_ok (k_envR hR1) hh
              have : u = w := Option.some.inj (u1.symm.trans hw)
              subst this
              obtain ⟨v, v1, v2⟩ := k_map_get2 hm ho
              subst ho2
              have hva : v = .ref a := Option.some.inj (v2.symm.trans ha1)
              subst hva
              have hm2 : (ops ++ [o']).map (k_v ρ1) = (as ++ [u]).map some := by
                rw [List.map_append, List.map_append, k_map_up hu hm]
                simp only [List.map_cons, List.map_nil]
                rw [hw]
              obtain ⟨ρ2, hu2, hR2, hpr⟩ := k_prc_ok hE hH hm2 hR1 e
              exact ⟨ρ2, fun i w h => hu2 i w (hu i w h), hR2, .ref a, u, v1, ⟨a, p.2, d, rfl, ha2, hd, hkl, hfl⟩, u2, hpr⟩
            · cases e
          · cases e
        · cases e
      · cases e
    · cases e
/-- a call by the contract K -/
def k_cl1 (TT : List kDesc) (GS : Nat → List (Nat × Nat)) (mods : List (Nat × Nat)) (pc : Nat) (K : kCtr) : kSt → Option (List (Nat × kSt))
  | (n0, env0, loc0, stk0, ff0, rel0, len0, g0, par0) => if k_args env0 (stk0.take K.1.length).reverse K.1 = true then (match k_prc TT K.2.1 (stk0.take K.1.length).reverse (n0, env0, loc0, stk0, ff0, rel0, len0, g0, par0) with
    | some (n, env, loc, stk, ff, rel, len, g, par) => match k_cats env (stk.drop K.1.length) with
      | some c => if ((k_args env (stk.take K.1.length).reverse K.1 && Nat.ble c 8) && (k_sub1 K.2.2.2.2.1 g && k_sub2 K.2.2.2.1 mods)) = true then
          k_afts (pc + 3) (stk.take K.1.length).reverse (stk.drop K.1.length) (n, env, loc, [], k_keep env K.2.2.2.1 ff, rel, k_keepA env K.2.2.2.1 len, K.2.2.2.2.2 ++ k_gk GS K.2.2.2.1 g, par) K.2.2.1 else none
      | none => none
    | none => none) else none
def k_g11 (TT : List kDesc) (GS : Nat → List (Nat × Nat)) (mods : List (Nat × Nat)) (pc : Nat) (σ : kSt) : List (Nat × kCtr) → Option (List (Nat × kSt))
  | [] => none
  | q :: r => if Nat.beq q.1 pc = true then (match k_cl1 TT GS mods pc q.2 σ with
    | some l => some l
    | none => k_g11 TT GS mods pc σ r) else k_g11 TT GS mods pc σ r
theorem k_cl1_ok {K : kCtr} {σ : kSt} {l : List (Nat × kSt)} (hE : k_Eok E) (hcall : k_call X E nL τ K pc) (e : k_cl1 E.2.2.2.1 E.2.2.2.2.2.2 mods pc K σ = some l) (hk : ∀ q ∈ l, k_good X E nL τ vs mods H0 q.1 q.2) : k_good X E nL τ vs mods H0 pc σ := by
  obtain ⟨n0, env0, loc0, stk0, ff0, rel0, len0, g0, par0⟩ := σ
  intro ρ0 H locs ls st hH hW hR0
  unfold k_cl1 at e
  dsimp only at e
  split at e
  · split at e
    · rename_i n env loc stk ff rel len g par hprc
      have hops0 : ((stk0.take K.1.length).reverse).map (k_v ρ0) = ((st.take K.1.length).reverse).map some := by
        have hst0 : stk0.map (k_v ρ0) = st.map some := hR0.2.2.2.1
        rw [List.map_reverse, List.map_reverse, List.map_take, List.map_take, hst0]
      obtain ⟨ρ, hu, hR, hprF⟩ := k_prc_ok hE hH hops0 hR0 hprc
      have he := k_envR hR
      split at e
      · rename_i c hc
        split at e
        · rename_i hb
          rw [Bool.and_eq_true, Bool.and_eq_true, Bool.and_eq_true, k_sub1_iff, k_sub2_iff] at hb
          obtain ⟨⟨b1, b2⟩, b4, b5⟩ := hb
          have hst : stk.map (k_v ρ) = st.map some := hR.2.2.2.1
          have hops : ((stk.take K.1.length).reverse).map (k_v ρ) = ((st.take K.1.length).reverse).map some := by
            rw [List.map_reverse, List.map_reverse, List.map_take, List.map_take, hst]
          have hrest : (stk.drop K.1.length).map (k_v ρ) = (st.drop K.1.length).map some := by
            rw [List.map_drop, List.map_drop, hst]
          obtain ⟨l1, l2, l3⟩ := k_args_ok he b1 hops
          have hpre : k_pre E τ H K (st.take K.1.length).reverse := ⟨l1, l2, hprF, fun i hi => hR.2.2.2.2.2.2.2.1 i (b4 i hi)⟩
          have hsplit : st = (st.take K.1.length).reverse.reverse ++ st.drop K.1.length := by rw [List.reverse_reverse, List.take_append_drop]
          rw [hsplit]
          refine hcall H locs ls _ _ hH hpre (by rw [k_cats_ok he hc hrest]; exact Nat.le_of_ble_eq_true b2) hR.2.2.1.1 (fun H' L v hpost hL => ?_)
          obtain ⟨p1, p2, p3, A, hA, hA2⟩ := hpost
          have hR1' : k_R E nL τ vs ρ H ls (st.drop K.1.length) (n, env, loc, stk.drop K.1.length, ff, rel, len, g, par) := ⟨hR.1, hR.2.1, hR.2.2.1, hrest, hR.2.2.2.2⟩
          have hR1 := k_R_move hE hH p2 hR1'
          have hR2 : k_R E nL τ vs ρ H' ls (st.drop K.1.length) (n, env, loc, stk.drop K.1.length, k_keep env K.2.2.2.1 ff, rel, k_keepA env K.2.2.2.1 len, K.2.2.2.2.2 ++ k_gk E.2.2.2.2.2.2 K.2.2.2.1 g, par) := by
            obtain ⟨k1, k2, k3, k4, k5, k6, k7, k8, k9⟩ := hR1
            refine ⟨k1, k2, k3, k4, k5, k6, k7, fun i hi => ?_, k9⟩
            rcases List.mem_append.mp hi with z | z
            · exact p3 i z
            · exact k8 i z
          obtain ⟨r, r1, r2⟩ := k_afts_mem e A hA
          obtain ⟨σ', ρ', s1, s2⟩ := k_aft_ok hops l3 hR2 hA2 r1
          refine hk _ (r2 σ' s1) ρ' H' _ ls _ p1 ⟨k_fr_trans hW.1 p2 b5, fun z hz => ?_⟩ s2
          rcases List.mem_append.mp hz with e' | e'
          · exact hW.2 z e'
          · exact hL z e'
        · cases e
      · cases e
    · cases e
  · cases e
theorem k_g11_ok {σ : kSt} {l : List (Nat × kSt)} (hE : k_Eok E) : ∀ {CT : List (Nat × kCtr)}, (∀ q ∈ CT, k_call X E nL τ q.2 q.1) → k_g11 E.2.2.2.1 E.2.2.2.2.2.2 mods pc σ CT = some l → (∀ q ∈ l, k_good X E nL τ vs mods H0 q.1 q.2) → k_good X E nL τ vs mods H0 pc σ
  | [], _, e, _ => by cases e
  | q :: r, hCT, e, hk => by
    unfold k_g11 at e
    have hr := fun z hz => hCT z (List.mem_cons_of_mem _ hz)
    split at e
    · rename_i c
      have c := Nat.eq_of_beq_eq_true c
      split at e
      · rename_i l' h
        cases e
        have hq := hCT q List.mem_cons_self
        rw [c] at hq
        exact k_cl1_ok hE hq h hk
      · exact k_g11_ok hE hr e hk
    · exact k_g11_ok hE hr e hk
-- 12: returns
def k_rty : Nat → Option FieldType
  | 0 => none
  | 1 => some .int
  | 2 => some .boolean
  | _ => some .long
def k_Qc (E : kE) (τ : kTau) (K : kCtr) (ps : List Value) : Array Value → State → Outcome → State → Prop := fun _ st o t => ∃ v, o = .returned v ∧ k_post E τ st.heap t.heap K ps v
def k_ra (TT : List kDesc) (env : List (Nat × kInfo)) (ff : List (Nat × Nat × kOp)) (par : List kOp) (o : Option kOp) (A : kAlt) : Bool := (match A.1, o with
  | none, none => true
  | some x, some o => k_has env o x
  | _, _ => false) && ((A.2.1.all (fun q => match par[q.1]? with
    | some o => k_has env o q.2
    | none => false)) && (A.2.2.all (fun q => match par[q.1]? with
    | some o => k_fhas TT env ff o q.2.1 q.2.2
    | none => false)))
theorem k_ra_ok {o : Option kOp} {v : Option Value} {A : kAlt} {ps : List Value} (hE : k_Eok E) (hH : k_HT E τ H) (hR : k_R E nL τ vs ρ H ls st (n, env, loc, stk, ff, rel, len, g, par)) (hps : ∀ (i : Nat) (w : Value), vs[i]? = some w → i < ps.length → ps[i]? = some w) (hA : ∀ q ∈ A.2.1, q.1 < ps.length) (hA2 : ∀ q ∈ A.2.2, q.1 < ps.length) (ho : ∀ o', o = some o' → ∃ w, v = some w ∧ k_v ρ o' = some w) (hn : o = none → v = none) (e : k_ra E.2.2.2.1 env ff par o A = true) : k_alt E τ H ps v A := by
  have he := k_envR hR
  have hpar : par.map (k_v ρ) = vs.map some := hR.2.2.2.2.2.2.2.2
  unfold k_ra at e
  rw [Bool.and_eq_true, Bool.and_eq_true, List.all_eq_true, List.all_eq_true] at e
  obtain ⟨e1, e2, e3⟩ := e
  refine ⟨?_, fun q hq => ?_, fun q hq => ?_⟩
  · split at e1
    · rename_i h1
      rw [h1]
      exact hn rfl
    · rename_i x o' h1
      rw [h1]
      obtain ⟨w, w1, w2⟩ := ho o' rfl
      obtain ⟨u, u1, u2⟩ := k_has_ok he e1
      have : u = w := Option.some.inj (u1.symm.trans w2)
      subst this
      exact ⟨u, w1, u2⟩
    · cases e1
  · have := e2 q hq
    split at this
    · rename_i o' h1
      obtain ⟨w, w1, w2⟩ := k_map_get2 hpar h1
      obtain ⟨u, u1, u2⟩ := k_has_ok he this
      have : u = w := Option.some.inj (u1.symm.trans w2)
      subst this
      exact ⟨u, hps _ _ w1 (hA q hq), u2⟩
    · cases this
  · have := e3 q hq
    split at this
    · rename_i o' h1
      obtain ⟨w, w1, w2⟩ := k_map_get2 hpar h1
      obtain ⟨u, u1, u2⟩ := k_fhas_ok hE hH he hR.2.2.2.2.1 this
      have : u = w := Option.some.inj (u1.symm.trans w2)
      subst this
      exact ⟨u, hps _ _ w1 (hA2 q hq), u2⟩
    · cases this
def k_g12 (TT : List kDesc) (K : kCtr) (rk : Nat) (i : Instr) (L : Nat) : kSt → Option (List (Nat × kSt))
  | (_, env, _, stk, ff, _, _, g, par) => if (Nat.beq L 1 && (k_sub1 K.2.2.2.2.2 g && K.2.2.1.all (fun A => A.2.1.all (fun q => Nat.blt q.1 K.1.length) && A.2.2.all (fun q => Nat.blt q.1 K.1.length)))) = true then (match i, stk, rk with
    | .return_, [], 0 => if K.2.2.1.any (k_ra TT env ff par none) = true then some [] else none
    | .ireturn, [o], 1 => if ((k_ivl env o).isSome && K.2.2.1.any (k_ra TT env ff par (some o))) = true then some [] else none
    | .ireturn, [o], 2 => if (k_has env o (.inl (0, 1)) && K.2.2.1.any (k_ra TT env ff par (some o))) = true then some [] else none
    | .lreturn, [o], 3 => if ((k_lvl env o).isSome && K.2.2.1.any (k_ra TT env ff par (some o))) = true then some [] else none
    | _, _, _ => none) else none
theorem k_g12_ok {K : kCtr} {rk : Nat} {i : Instr} {L : Nat} {σ : kSt} {l : List (Nat × kSt)} {ps : List Value} (hF : k_Fx X cc nL own) (hE : k_Eok E) (hr : X.2.2.2.2.2.2.2.2.1.sig.returnType = k_rty rk) (hlk : X.2.2.2.2.2.2.2.2.1.locks = false) (hQ : X.2.2.2.2.2.2.2.2.2.2 = MQ X.2.2.2.2.2.2.2.1 (k_Qc E τ K ps) X.2.2.2.2.2.2.1 X.2.2.2.2.1 0 0 (fun q => E.2.2.2.2.1 ≤ q)) (hm : mods = K.2.2.2.1) (h0 : H0 = X.2.2.2.2.1.heap)
    (hl : ps.length = K.1.length) (hps : ∀ (i : Nat) (w : Value), vs[i]? = some w → i < ps.length → ps[i]? = some w) (hd : decode cc pc = .ok (i, L)) (e : k_g12 E.2.2.2.1 K rk i L σ = some l) : k_good X E nL τ vs mods H0 pc σ := by
  obtain ⟨n, env, loc, stk, ff, rel, len, g, par⟩ := σ
  intro ρ H locs ls st hH hW hR
  have he := k_envR hR
  unfold k_g12 at e
  dsimp only at e
  split at e
  · rename_i c
    rw [Bool.and_eq_true, Bool.and_eq_true, k_sub1_iff, List.all_eq_true] at c
    obtain ⟨c1, c2, c3⟩ := c
    have c1 := Nat.eq_of_beq_eq_true c1
    subst c1
    have key : ∀ (o : Option kOp) (v : Option Value), K.2.2.1.any (k_ra E.2.2.2.1 env ff par o) = true → (∀ o', o = some o' → ∃ w, v = some w ∧ k_v ρ o' = some w) → (o = none → v = none) → ∀ t : State, t.heap = H → k_Qc E τ K ps X.2.2.2.2.2.2.1 X.2.2.2.2.1 (.returned v) t := by
      intro o v ha ho hn t ht
      rw [List.any_eq_true] at ha
      obtain ⟨A, hA, hA2⟩ := ha
      have hA3 := c3 A hA
      rw [Bool.and_eq_true, List.all_eq_true, List.all_eq_true] at hA3
      refine ⟨v, rfl, ?_, ?_, ?_, A, hA, ?_⟩
      · rw [ht]; exact hH
      · rw [ht, ← hm, ← h0]; exact hW.1
      · intro j hj
        rw [ht]
        exact hR.2.2.2.2.2.2.2.1 j (c2 j hj)
      · rw [ht]
        exact k_ra_ok hE hH hR hps (fun q hq => by rw [hl]; exact Nat.le_of_ble_eq_true (hA3.1 q hq)) (fun q hq => by rw [hl]; exact Nat.le_of_ble_eq_true (hA3.2 q hq)) ho hn hA2
    unfold kw
    rw [hQ]
    split at e
    · split at e
      · rename_i ha
        have hst : st = [] := by
          have : ([] : List kOp).map (k_v ρ) = st.map some := hR.2.2.2.1
          simpa using this.symm
        subst hst
        exact W.vret hF.1 hF.2.1 hr (fun t ht _ => key none none ha (fun _ h => by cases h) (fun _ => rfl) t ht) hW.2 hd hlk
      · cases e
    · split at e
      · rename_i ha
        rw [Bool.and_eq_true] at ha
        obtain ⟨v, rs, rfl, hv, hR2⟩ := k_pop hR
        have hrs : rs = [] := by
          have : ([] : List kOp).map (k_v ρ) = rs.map some := hR2.2.2.2.1
          simpa using this.symm
        subst hrs
        obtain ⟨b, hb⟩ := Option.isSome_iff_exists.mp ha.1
        obtain ⟨x, hx, -⟩ := k_ivl_ok he hb
        cases hv.symm.trans hx
        exact W.iret hF.1 hF.2.1 hr (fun t ht _ => key _ _ ha.2 (fun o' h => by cases h; exact ⟨_, rfl, hv⟩) (fun h => by cases h) t ht) hW.2 hd hlk
      · cases e
    · split at e
      · rename_i ha
        rw [Bool.and_eq_true] at ha
        obtain ⟨v, rs, rfl, hv, hR2⟩ := k_pop hR
        have hrs : rs = [] := by
          have : ([] : List kOp).map (k_v ρ) = rs.map some := hR2.2.2.2.1
          simpa using this.symm
        subst hrs
        obtain ⟨w, hw, x, hx, hx2⟩ := k_has_ok he ha.1
        cases hv.symm.trans hw
        subst hx
        exact W.zret hF.1 hF.2.1 hr (k_nz01 hx2) (fun t ht _ => key _ _ ha.2 (fun o' h => by cases h; exact ⟨_, rfl, hv⟩) (fun h => by cases h) t ht) hW.2 hd hlk
      · cases e
    · split at e
      · rename_i ha
        rw [Bool.and_eq_true] at ha
        obtain ⟨v, rs, rfl, hv, hR2⟩ := k_pop hR
        have hrs : rs = [] := by
          have : ([] : List kOp).map (k_v ρ) = rs.map some := hR2.2.2.2.1
          simpa using this.symm
        subst hrs
        obtain ⟨b, hb⟩ := Option.isSome_iff_exists.mp ha.1
        obtain ⟨x, hx, -⟩ := k_lvl_ok he hb
        cases hv.symm.trans hx
        exact W.lret hF.1 hF.2.1 hr (fun t ht _ => key _ _ ha.2 (fun o' h => by cases h; exact ⟨_, rfl, hv⟩) (fun h => by cases h) t ht) hW.2 hd hlk
      · cases e
    · cases e
  · cases e
end KC
end
section
/-! ===== walking a method: steps, loops' heads, measures ===== -/
/-- a loop's head: where its symbols come from (0, local) | (1, symbol, field) | (2, parameter); their infos; locals; facts; invariants; parameters; measure (c + k * symbol each) -/
abbrev kAnn : Type := List (Nat × Nat × Nat) × List kInfo × List (Nat × kOp) × List (Nat × Nat × kOp) × List Nat × List kOp × List (Int × Int × Nat)
/-- a method: code; fields' entries; int constants; long constants; contracts of the calls by their places; its own contract; kind of its result; number of its locals; heads; places where the top is split -/
abbrev kM : Type := List (Nat × Instr × Nat) × List (Nat × Nat × Nat × Nat) × List (Nat × Int) × List (Nat × Int) × List (Nat × kCtr) × kCtr × Nat × Nat × List (Nat × kAnn) × List Nat
def k_cd : List (Nat × Instr × Nat) → Nat → Option (Instr × Nat)
  | [], _ => none
  | q :: r, k => if Nat.beq q.1 k = true then some q.2 else k_cd r k
theorem k_cd_ok : ∀ {l : List (Nat × Instr × Nat)} {k : Nat} {x : Instr × Nat}, k_cd l k = some x → (k, x) ∈ l
  | [], _, _, e => by cases e
  | q :: r, k, x, e => by
    unfold k_cd at e
    split at e
    · rename_i z
      cases e
      rw [← Nat.eq_of_beq_eq_true z]
      exact List.mem_cons_self
    · exact List.mem_cons_of_mem _ (k_cd_ok e)
def k_step (TT : List kDesc) (GS : Nat → List (Nat × Nat)) (M : kM) (pc : Nat) (σ : kSt) : Option (List (Nat × kSt)) := match k_cd M.1 pc with
  | none => none
  | some q => match k_g2 pc q.1 q.2 σ with
    | some l => some l
    | none => match k_g10 TT GS M.2.1 M.2.2.2.2.2.1.2.2.2.1 pc q.1 q.2 σ with
      | some l => some l
      | none => match k_g1 M.2.2.1 M.2.2.2.1 pc q.1 q.2 σ with
        | some l => some l
        | none => match k_g7 pc q.1 q.2 σ with
          | some l => some l
          | none => match k_g3 M.2.2.2.2.2.2.2.1 pc q.1 q.2 σ with
            | some l => some l
            | none => match k_g4 pc q.1 q.2 σ with
              | some l => some l
              | none => match k_g5 pc q.1 q.2 σ with
                | some l => some l
                | none => match k_g8 TT pc q.1 q.2 σ with
                  | some l => some l
                  | none => match k_g9 TT GS M.2.2.2.2.2.1.2.2.2.1 pc q.1 q.2 σ with
                    | some l => some l
                    | none => match k_g8b TT pc q.1 q.2 σ with
                      | some l => some l
                      | none => match k_g6 pc q.1 q.2 σ with
                        | some l => some l
                        | none => match k_g11 TT GS M.2.2.2.2.2.1.2.2.2.1 pc σ M.2.2.2.2.1 with
                          | some l => some l
                          | none => k_g12 TT M.2.2.2.2.2.1 M.2.2.2.2.2.2.1 q.1 q.2 σ
/-- what a method's tables must be -/
def k_Hy (X : kX) (E : kE) (τ : kTau) (M : kM) (ps : List Value) (cc : ByteArray) (own : String) : Prop :=
  k_Fx X cc M.2.2.2.2.2.2.2.1 own ∧ (∀ q ∈ M.1, decode cc q.1 = .ok q.2) ∧ k_FL X E own M.2.1 ∧ k_CI X own M.2.2.1 ∧ k_CJ X own M.2.2.2.1 ∧ (∀ q ∈ M.2.2.2.2.1, k_call X E M.2.2.2.2.2.2.2.1 τ q.2 q.1) ∧
  k_Eok E ∧ k_tys E ∧ va_K E.1 E.2.1 E.2.2.1 X.2.2.2.2.1 ∧ X.2.2.2.2.2.2.2.2.1.sig.returnType = k_rty M.2.2.2.2.2.2.1 ∧ X.2.2.2.2.2.2.2.2.1.locks = false ∧
  X.2.2.2.2.2.2.2.2.2.2 = MQ X.2.2.2.2.2.2.2.1 (k_Qc E τ M.2.2.2.2.2.1 ps) X.2.2.2.2.2.2.1 X.2.2.2.2.1 0 0 (fun q => E.2.2.2.2.1 ≤ q) ∧ ps.length = M.2.2.2.2.2.1.1.length
theorem k_step_ok {X : kX} {E : kE} {τ : kTau} {M : kM} {ps vs : List Value} {cc : ByteArray} {own : String} {pc : Nat} {σ : kSt} {l : List (Nat × kSt)} (hy : k_Hy X E τ M ps cc own) (hps : ∀ (i : Nat) (w : Value), vs[i]? = some w → i < ps.length → ps[i]? = some w)
    (e : k_step E.2.2.2.1 E.2.2.2.2.2.2 M pc σ = some l) (hk : ∀ q ∈ l, k_good X E M.2.2.2.2.2.2.2.1 τ vs M.2.2.2.2.2.1.2.2.2.1 X.2.2.2.2.1.heap q.1 q.2) : k_good X E M.2.2.2.2.2.2.2.1 τ vs M.2.2.2.2.2.1.2.2.2.1 X.2.2.2.2.1.heap pc σ := by
  obtain ⟨hF, hc, hFL, hCI, hCJ, hCT, hE, hT, hK, hr, hlk, hQ, hl⟩ := hy
  unfold k_step at e
  split at e
  · cases e
  · rename_i q hq
    have hd := hc _ (k_cd_ok hq)
    split at e
    · rename_i l' h; cases e; exact k_g2_ok hF hd h hk
    · split at e
      · rename_i l' h; cases e; exact k_g10_ok hF hE hK hFL hd h hk
      · split at e
        · rename_i l' h; cases e; exact k_g1_ok hF hCI hCJ hd h hk
        · split at e
          · rename_i l' h; cases e; exact k_g7_ok hF hd h hk
          · split at e
            · rename_i l' h; cases e; exact k_g3_ok hF hd h hk
            · split at e
              · rename_i l' h; cases e; exact k_g4_ok hF hd h hk
              · split at e
                · rename_i l' h; cases e; exact k_g5_ok hF hd h hk
                · split at e
                  · rename_i l' h; cases e; exact k_g8_ok hF hK hT hd h hk
                  · split at e
                    · rename_i l' h; cases e; exact k_g9_ok hF hE hK hT hd h hk
                    · split at e
                      · rename_i l' h; cases e; exact k_g8b_ok hF hK hd h hk
                      · split at e
                        · rename_i l' h; cases e; exact k_g6_ok hF hd h hk
                        · split at e
                          · rename_i l' h; cases e; exact k_g11_ok hE hCT h hk
                          · exact k_g12_ok hF hE hr hlk hQ rfl rfl hl hps hd e
/-- the top of the stack, an int of several values: each for itself -/
def k_split : kSt → Option (List kSt)
  | (n, env, loc, .inl s :: stk, ff, rel, len, g, par) => match k_get env s with
    | some (.inl q) => if (k_le (q.1 + 1) q.2 && k_le (q.2 - q.1) 600) = true then some ((List.range ((q.2 - q.1).toNat + 1)).map (fun (i : Nat) => (n, k_prop s (.inl (q.1 + (i : Int), q.1 + (i : Int))) rel ((s, .inl (q.1 + (i : Int), q.1 + (i : Int))) :: env), loc, .inl s :: stk, ff, rel, len, g, par))) else none
    | _ => none
  | _ => none
theorem k_split_ok {X : kX} {E : kE} {nL : Nat} {τ : kTau} {vs : List Value} {mods : List (Nat × Nat)} {H0 : Heap} {pc : Nat} {σ : kSt} {l : List kSt} (e : k_split σ = some l) (hk : ∀ q ∈ l, k_good X E nL τ vs mods H0 pc q) : k_good X E nL τ vs mods H0 pc σ := by
  unfold k_split at e
  split at e
  · rename_i n env loc s stk ff rel len g par
    intro ρ H locs ls st hH hW hR
    split at e
    · rename_i q hq
      split at e
      · cases e
        obtain ⟨v, h1, x, h2, h3⟩ := k_get_ok (k_envR hR) hq
        subst h2
        have hx1 := h3.1
        have hx2 := h3.2
        have hi : q.1 + (((x.toInt - q.1).toNat : Nat) : Int) = x.toInt := by omega
        have hz : k_ok τ (.inl (q.1 + (((x.toInt - q.1).toNat : Nat) : Int), q.1 + (((x.toInt - q.1).toNat : Nat) : Int))) (.int x) := ⟨x, rfl, by rw [hi]; exact ⟨Int.le_refl _, Int.le_refl _⟩⟩
        refine hk _ (List.mem_map.mpr ⟨(x.toInt - q.1).toNat, List.mem_range.mpr (by omega), rfl⟩) ρ H locs ls st hH hW (k_withEnv hR (k_prop_ok h1 hz (k_relR hR) (fun z hz' => ?_)))
        rcases List.mem_cons.mp hz' with e' | e'
        · subst e'; exact ⟨_, h1, hz⟩
        · exact k_envR hR z e'
      · cases e
    · cases e
  · cases e
def k_an : List (Nat × kAnn) → Nat → Option kAnn
  | [], _ => none
  | q :: r, k => if Nat.beq q.1 k = true then some q.2 else k_an r k
theorem k_an_ok : ∀ {l : List (Nat × kAnn)} {k : Nat} {x : kAnn}, k_an l k = some x → (k, x) ∈ l
  | [], _, _, e => by cases e
  | q :: r, k, x, e => by
    unfold k_an at e
    split at e
    · rename_i z
      cases e
      rw [← Nat.eq_of_beq_eq_true z]
      exact List.mem_cons_self
    · exact List.mem_cons_of_mem _ (k_an_ok e)
/-- all that is reached from here is well, up to heads -/
def k_run (TT : List kDesc) (GS : Nat → List (Nat × Nat)) (M : kM) (ent : kAnn → kSt → Bool) : Nat → Nat → kSt → Bool
  | 0, _, _ => false
  | f + 1, pc, σ => match k_an M.2.2.2.2.2.2.2.2.1 pc with
    | some A => ent A σ
    | none => match (if k_mem1 pc M.2.2.2.2.2.2.2.2.2 = true then k_split σ else none) with
      | some l => l.all (fun q => k_run TT GS M ent f pc q)
      | none => match k_step TT GS M pc σ with
        | some l => l.all (fun q => k_run TT GS M ent f q.1 q.2)
        | none => false
theorem k_run_ok {X : kX} {E : kE} {τ : kTau} {M : kM} {ps vs : List Value} {cc : ByteArray} {own : String} {ent : kAnn → kSt → Bool} (hy : k_Hy X E τ M ps cc own) (hps : ∀ (i : Nat) (w : Value), vs[i]? = some w → i < ps.length → ps[i]? = some w)
    (hent : ∀ (pc : Nat) (A : kAnn) (σ : kSt), (pc, A) ∈ M.2.2.2.2.2.2.2.2.1 → ent A σ = true → k_good X E M.2.2.2.2.2.2.2.1 τ vs M.2.2.2.2.2.1.2.2.2.1 X.2.2.2.2.1.heap pc σ) :
    ∀ (f pc : Nat) (σ : kSt), k_run E.2.2.2.1 E.2.2.2.2.2.2 M ent f pc σ = true → k_good X E M.2.2.2.2.2.2.2.1 τ vs M.2.2.2.2.2.1.2.2.2.1 X.2.2.2.2.1.heap pc σ := by
  intro f
  induction f with
  | zero => intro pc σ e; cases e
  | succ f ih =>
    intro pc σ e
    unfold k_run at e
    split at e
    · rename_i A hA
      exact hent pc A σ (k_an_ok hA) e
    · split at e
      · rename_i l hl
        rw [List.all_eq_true] at e
        split at hl
        · exact k_split_ok hl (fun q hq => ih pc q (e q hq))
        · cases hl
      · split at e
        · rename_i l hl
          rw [List.all_eq_true] at e
          exact k_step_ok hy hps hl (fun q hq => ih q.1 q.2 (e q hq))
        · cases e
-- heads
def k_zip : Nat → List kInfo → List (Nat × kInfo)
  | _, [] => []
  | i, x :: r => (i, x) :: k_zip (i + 1) r
theorem k_zip_mem : ∀ {xs : List kInfo} {b : Nat} {q : Nat × kInfo}, q ∈ k_zip b xs → b ≤ q.1 ∧ xs[q.1 - b]? = some q.2
  | [], _, _, h => by cases h
  | x :: r, b, q, h => by
    unfold k_zip at h
    rcases List.mem_cons.mp h with e | e
    · subst e
      exact ⟨Nat.le_refl _, by simp⟩
    · obtain ⟨h1, h2⟩ := k_zip_mem e
      refine ⟨by omega, ?_⟩
      have : q.1 - b = (q.1 - (b + 1)) + 1 := by omega
      rw [this]
      simpa using h2
def k_seq : Nat → Nat → List kOp
  | _, 0 => []
  | i, m + 1 => .inl i :: k_seq (i + 1) m
theorem k_seq_map {ρ : Nat → Option Value} : ∀ {m b : Nat} {hv : List Value}, hv.length = m → (∀ i w, hv[i]? = some w → ρ (b + i) = some w) → (k_seq b m).map (k_v ρ) = hv.map some
  | 0, b, hv, h, _ => by
    cases hv with
    | nil => rfl
    | cons a r => simp at h
  | m + 1, b, hv, h, hh => by
    cases hv with
    | nil => simp at h
    | cons a r =>
      unfold k_seq
      simp only [List.map_cons, List.cons.injEq]
      refine ⟨?_, k_seq_map (by simpa using h) (fun i w hi => ?_)⟩
      · have := hh 0 a (by simp)
        show ρ b = some a
        simpa using this
      · have := hh (i + 1) w (by simpa using hi)
        rw [show b + 1 + i = b + (i + 1) by omega]
        exact this
def k_hst0 (A : kAnn) : kSt := (A.2.1.length, k_zip 0 A.2.1, A.2.2.1, [], A.2.2.2.1, [], [], A.2.2.2.2.1, A.2.2.2.2.2.1)
def k_hst (A : kAnn) : kSt := (A.2.1.length, k_zip 0 A.2.1, A.2.2.1, [], A.2.2.2.1, [], [], A.2.2.2.2.1, A.2.2.2.2.2.1 ++ k_seq 0 A.2.1.length)
def k_oe : kOp → kOp → Bool
  | .inl a, .inl b => Nat.beq a b
  | .inr a, .inr b => k_eqi a b
  | _, _ => false
theorem k_oe_ok {a b : kOp} (h : k_oe a b = true) : a = b := by
  unfold k_oe at h
  split at h
  · rw [Nat.eq_of_beq_eq_true h]
  · rw [k_eqi_iff.mp h]
  · cases h
/-- an operand of a head, as it stands where the head is come to -/
def k_sb (θ : List kOp) : kOp → Option kOp
  | .inl i => θ[i]?
  | .inr c => some (.inr c)
def k_hv (ρ : Nat → Option Value) (θ : List kOp) : Nat → Option Value := fun i => (θ[i]?).bind (k_v ρ)
theorem k_sb_v {ρ : Nat → Option Value} {θ : List kOp} {o o' : kOp} (h : k_sb θ o = some o') : k_v (k_hv ρ θ) o = k_v ρ o' := by
  cases o with
  | inl i =>
    have h : θ[i]? = some o' := h
    show (θ[i]?).bind (k_v ρ) = _
    rw [h]; rfl
  | inr c => cases h; rfl
def k_bind (TT : List kDesc) : List (Nat × Nat × Nat) → List kOp → kSt → Option (List kOp × kSt)
  | [], θ, σ => some (θ, σ)
  | q :: r, θ, (n, env, loc, stk, ff, rel, len, g, par) => match q.1 with
    | 0 => match k_loc loc q.2.1 with
      | some o => k_bind TT r (θ ++ [o]) (n, env, loc, stk, ff, rel, len, g, par)
      | none => none
    | 1 => match θ[q.2.1]? with
      | some o => match k_obj env o with
        | some p => match TT[p.2]? with
          | some (.inl d) => match k_rd p.1 q.2.2 d.2 (n, env, loc, stk, ff, rel, len, g, par) with
            | some x => k_bind TT r (θ ++ [x.1]) x.2
            | none => none
          | _ => none
        | none => none
      | none => none
    | _ => match par[q.2.1]? with
      | some o => k_bind TT r (θ ++ [o]) (n, env, loc, stk, ff, rel, len, g, par)
      | none => none
theorem k_bind_ok {E : kE} {nL : Nat} {τ : kTau} {vs : List Value} {H : Heap} {ls : Array Slot} {st : List Value} (hE : k_Eok E) (hH : k_HT E τ H) : ∀ {src : List (Nat × Nat × Nat)} {θ θ' : List kOp} {σ σ' : kSt} {ρ : Nat → Option Value}, k_R E nL τ vs ρ H ls st σ → k_bind E.2.2.2.1 src θ σ = some (θ', σ') → ∃ ρ', k_R E nL τ vs ρ' H ls st σ'
  | [], θ, θ', σ, σ', ρ, hR, e => by cases e; exact ⟨ρ, hR⟩
  | q :: r, θ, θ', (n, env, loc, stk, ff, rel, len, g, par), σ', ρ, hR, e => by
    unfold k_bind at e
    split at e
    · split at e
      · exact k_bind_ok hE hH hR e
      · cases e
    · split at e
      · rename_i o ho
        split at e
        · rename_i p hp
          split at e
          · rename_i d hd
            split at e
            · rename_i x hx
              obtain ⟨ho2, a, ha1, ha2⟩ := k_obj_ok (s := p.1) (t := p.2) (k_envR hR) hp
              obtain ⟨ρ', v, -, hR', -⟩ := k_rd_ok (o := x.1) (σ := x.2) hE hH ha1 ha2 hd hR hx
              exact k_bind_ok hE hH hR' e
            · cases e
          · cases e
        · cases e
      · cases e
    · split at e
      · exact k_bind_ok hE hH hR e
      · cases e
def k_pq (θ : List kOp) : List kOp → List kOp → Bool
  | [], _ => true
  | a :: r, b :: s => (match k_sb θ a with
    | some o => k_oe o b
    | none => false) && k_pq θ r s
  | _ :: _, [] => false
theorem k_pq_ok {ρ : Nat → Option Value} {θ : List kOp} : ∀ {as bs : List kOp} {ps vs : List Value}, k_pq θ as bs = true → bs.map (k_v ρ) = vs.map some → ps.length = as.length → (∀ (i : Nat) (w : Value), vs[i]? = some w → i < ps.length → ps[i]? = some w) → as.map (k_v (k_hv ρ θ)) = ps.map some
  | [], bs, ps, vs, _, _, h, _ => by
    cases ps with
    | nil => rfl
    | cons a r => simp at h
  | a :: r, [], ps, vs, e, _, _, _ => by cases e
  | a :: r, b :: s, ps, vs, e, hm, h, hh => by
    cases ps with
    | nil => simp at h
    | cons p pr =>
      cases vs with
      | nil => simp at hm
      | cons v vr =>
        simp only [List.map_cons, List.cons.injEq] at hm
        unfold k_pq at e
        rw [Bool.and_eq_true] at e
        have hpv : p = v := by
          have := hh 0 v (by simp) (by simp)
          simpa using this
        subst hpv
        simp only [List.map_cons, List.cons.injEq]
        refine ⟨?_, k_pq_ok e.2 hm.2 (by simpa using h) (fun i w hi hl => ?_)⟩
        · have e1 := e.1
          split at e1
          · rename_i o ho
            rw [k_sb_v ho, k_oe_ok e1]
            exact hm.1
          · cases e1
        · have := hh (i + 1) w (by simpa using hi) (by simpa using hl)
          simpa using this
-- measures
def k_big : Nat := 17179869184
def k_num : List Nat → Nat
  | [] => 0
  | d :: r => d * k_big ^ r.length + k_num r
theorem k_num_lt : ∀ {l : List Nat}, (∀ d ∈ l, d < k_big) → k_num l < k_big ^ l.length
  | [], _ => by unfold k_num; exact Nat.one_pos
  | d :: r, h => by
    unfold k_num
    have h1 := k_num_lt (fun z hz => h z (List.mem_cons_of_mem _ hz))
    have h2 := h d List.mem_cons_self
    calc d * k_big ^ r.length + k_num r < d * k_big ^ r.length + k_big ^ r.length := by omega
      _ = (d + 1) * k_big ^ r.length := by rw [Nat.add_mul, Nat.one_mul]
      _ ≤ k_big * k_big ^ r.length := Nat.mul_le_mul_right _ h2
      _ = k_big ^ (d :: r).length := by rw [List.length_cons, Nat.pow_succ, Nat.mul_comm]
def k_lexP : List Nat → List Nat → Prop
  | a :: as, b :: bs => a < b ∨ (a = b ∧ k_lexP as bs)
  | _, _ => False
theorem k_lexP_num : ∀ {as bs : List Nat}, as.length = bs.length → (∀ d ∈ as, d < k_big) → k_lexP as bs → k_num as < k_num bs
  | [], _, _, _, h => by cases h
  | a :: as, [], _, _, h => by cases h
  | a :: as, b :: bs, hl, hd, h => by
    have hl' : as.length = bs.length := by simpa using hl
    unfold k_num
    rcases h with h | ⟨h1, h2⟩
    · have h3 := k_num_lt (fun z hz => hd z (List.mem_cons_of_mem _ hz))
      rw [← hl']
      calc a * k_big ^ as.length + k_num as < a * k_big ^ as.length + k_big ^ as.length := by omega
        _ = (a + 1) * k_big ^ as.length := by rw [Nat.add_mul, Nat.one_mul]
        _ ≤ b * k_big ^ as.length := Nat.mul_le_mul_right _ h
        _ ≤ b * k_big ^ as.length + k_num bs := Nat.le_add_right _ _
    · subst h1
      have := k_lexP_num hl' (fun z hz => hd z (List.mem_cons_of_mem _ hz)) h2
      rw [← hl']
      omega
def k_iv (v : Option Value) : Int := match v with
  | some (.int x) => x.toInt
  | _ => 0
def k_mval (hv : List Value) (m : Int × Int × Nat) : Nat := (m.1 + m.2.1 * k_iv hv[m.2.2]?).toNat
/-- a measure's number: between 0 and k_big by the infos -/
def k_mr (xs : List kInfo) (m : Int × Int × Nat) : Bool := if k_eqi m.2.1 0 = true then (k_le 0 m.1 && k_le m.1 17179869183) else match xs[m.2.2]? with
  | some (.inl q) => (k_eqi m.2.1 1 && (k_le 0 (m.1 + q.1) && k_le (m.1 + q.2) 17179869183)) || (k_eqi m.2.1 (-1) && (k_le 0 (m.1 - q.2) && k_le (m.1 - q.1) 17179869183))
  | _ => false
theorem k_mr_ok {τ : kTau} {xs : List kInfo} {m : Int × Int × Nat} {hv : List Value} (e : k_mr xs m = true) (h : ∀ (i : Nat) (x : kInfo), xs[i]? = some x → ∃ v, hv[i]? = some v ∧ k_ok τ x v) : 0 ≤ m.1 + m.2.1 * k_iv hv[m.2.2]? ∧ m.1 + m.2.1 * k_iv hv[m.2.2]? ≤ 17179869183 := by
  unfold k_mr at e
  split at e
  · rename_i z
    rw [k_eqi_iff] at z
    rw [Bool.and_eq_true, k_le_iff, k_le_iff] at e
    rw [z, Int.zero_mul]
    omega
  · split at e
    · rename_i q hq
      obtain ⟨v, h1, x, h2, h3⟩ := h _ _ hq
      subst h2
      rw [h1]
      show 0 ≤ m.1 + m.2.1 * x.toInt ∧ m.1 + m.2.1 * x.toInt ≤ 17179869183
      have a := h3.1
      have b := h3.2
      rw [Bool.or_eq_true, Bool.and_eq_true, Bool.and_eq_true, Bool.and_eq_true, Bool.and_eq_true, k_eqi_iff, k_eqi_iff, k_le_iff, k_le_iff, k_le_iff, k_le_iff] at e
      rcases e with ⟨e1, e2, e3⟩ | ⟨e1, e2, e3⟩
      · rw [e1]; omega
      · rw [e1]; omega
    · cases e
/-- what an operand was made of -/
def k_nrm (o : kOp) : List (Nat × Nat × Nat × Nat × Int) → kOp × Int
  | [] => (o, 0)
  | q :: r => match o with
    | .inl s => if (Nat.beq q.1 0 && Nat.beq q.2.1 s) = true then (.inl q.2.2.1, q.2.2.2.2) else k_nrm o r
    | .inr _ => (o, 0)
theorem k_nrm_ok {ρ : Nat → Option Value} {o : kOp} {x : Int32} (ho : k_v ρ o = some (.int x)) : ∀ {rel : List (Nat × Nat × Nat × Nat × Int)}, (∀ q ∈ rel, k_rel ρ q) → ∃ y : Int32, k_v ρ (k_nrm o rel).1 = some (.int y) ∧ x.toInt = y.toInt + (k_nrm o rel).2
  | [], _ => ⟨x, ho, by show _ = _ + (0 : Int); omega⟩
  | q :: r, h => by
    unfold k_nrm
    split
    · rename_i s
      split
      · rename_i c
        rw [Bool.and_eq_true] at c
        obtain ⟨x', y, h1, h2, h3⟩ := (h q List.mem_cons_self).1 (Nat.eq_of_beq_eq_true c.1)
        rw [Nat.eq_of_beq_eq_true c.2] at h1
        have : x' = x := Value.int.inj (Option.some.inj (h1.symm.trans ho))
        subst this
        exact ⟨y, h2, h3⟩
      · exact k_nrm_ok ho (fun z hz => h z (List.mem_cons_of_mem _ hz))
    · exact ⟨x, ho, by show _ = _ + (0 : Int); omega⟩
/-- one number of a head's measure against that of the head where one set out: 2 less, 1 the same, 0 not known -/
def k_mc (env : List (Nat × kInfo)) (rel : List (Nat × Nat × Nat × Nat × Int)) (θ par : List kOp) (np : Nat) (a b : Int × Int × Nat) : Nat := if (k_eqi a.2.1 0 && k_eqi b.2.1 0) = true then (if k_le (a.1 + 1) b.1 = true then 2 else if k_eqi a.1 b.1 = true then 1 else 0) else match θ[a.2.2]?, par[np + b.2.2]? with
  | some oa, some ob => match k_ivl env oa, k_ivl env ob with
    | some p, some q => if k_eqi a.2.1 b.2.1 = true then
        (if (k_oe (k_nrm oa rel).1 (k_nrm ob rel).1 && k_le (a.1 + a.2.1 * (k_nrm oa rel).2 + 1) (b.1 + b.2.1 * (k_nrm ob rel).2)) = true then 2
        else if (k_oe (k_nrm oa rel).1 (k_nrm ob rel).1 && k_eqi (a.1 + a.2.1 * (k_nrm oa rel).2) (b.1 + b.2.1 * (k_nrm ob rel).2)) = true then 1
        else if (k_eqi a.2.1 1 && k_le (a.1 + p.2 + 1) (b.1 + q.1)) = true then 2
        else if (k_eqi a.2.1 (-1) && k_le (a.1 - p.1 + 1) (b.1 - q.2)) = true then 2 else 0) else 0
    | _, _ => 0
  | _, _ => 0
theorem k_mc_ok {τ : kTau} {ρ : Nat → Option Value} {env : List (Nat × kInfo)} {rel : List (Nat × Nat × Nat × Nat × Int)} {θ par : List kOp} {np : Nat} {a b : Int × Int × Nat} {va vb : Option Value} (he : k_env τ ρ env) (hr : ∀ q ∈ rel, k_rel ρ q) (hva : ∀ o, θ[a.2.2]? = some o → k_v ρ o = va) (hvb : ∀ o, par[np + b.2.2]? = some o → k_v ρ o = vb) :
    (k_mc env rel θ par np a b = 2 → a.1 + a.2.1 * k_iv va < b.1 + b.2.1 * k_iv vb) ∧ (k_mc env rel θ par np a b = 1 → a.1 + a.2.1 * k_iv va = b.1 + b.2.1 * k_iv vb) := by
  unfold k_mc
  split
  · rename_i z
    rw [Bool.and_eq_true, k_eqi_iff, k_eqi_iff] at z
    rw [z.1, z.2, Int.zero_mul, Int.zero_mul]
    split
    · rename_i c
      rw [k_le_iff] at c
      exact ⟨fun _ => by omega, (fun z => by cases z)⟩
    · split
      · rename_i c
        rw [k_eqi_iff] at c
        exact ⟨(fun z => by cases z), fun _ => by omega⟩
      · exact ⟨(fun z => by cases z), (fun z => by cases z)⟩
  split
  · rename_i oa ob h1 h2
    split
    · rename_i p q hp hq
      obtain ⟨x, x1, x2⟩ := k_ivl_ok he hp
      obtain ⟨y, y1, y2⟩ := k_ivl_ok he hq
      have ea : va = some (.int x) := (hva oa h1).symm.trans x1
      have eb : vb = some (.int y) := (hvb ob h2).symm.trans y1
      subst ea
      subst eb
      show (_ → a.1 + a.2.1 * x.toInt < b.1 + b.2.1 * y.toInt) ∧ (_ → a.1 + a.2.1 * x.toInt = b.1 + b.2.1 * y.toInt)
      obtain ⟨x', nx1, nx2⟩ := k_nrm_ok x1 hr
      obtain ⟨y', ny1, ny2⟩ := k_nrm_ok y1 hr
      split
      · rename_i c
        rw [k_eqi_iff] at c
        have same : k_oe (k_nrm oa rel).1 (k_nrm ob rel).1 = true → x' = y' := fun z => by
          rw [k_oe_ok z, ny1] at nx1
          exact (Value.int.inj (Option.some.inj nx1)).symm
        split
        · rename_i d
          rw [Bool.and_eq_true, k_le_iff] at d
          refine ⟨fun _ => ?_, (fun z => by cases z)⟩
          have hxy := same d.1
          rw [nx2, ny2, hxy, c, Int.mul_add, Int.mul_add]
          rw [c] at d
          omega
        · split
          · rename_i d
            rw [Bool.and_eq_true, k_eqi_iff] at d
            refine ⟨(fun z => by cases z), fun _ => ?_⟩
            have hxy := same d.1
            rw [nx2, ny2, hxy, c, Int.mul_add, Int.mul_add]
            rw [c] at d
            omega
          · split
            · rename_i d
              rw [Bool.and_eq_true, k_eqi_iff, k_le_iff] at d
              refine ⟨fun _ => ?_, (fun z => by cases z)⟩
              have i1 := x2.2
              have i2 := y2.1
              rw [← c, d.1]
              omega
            · split
              · rename_i d
                rw [Bool.and_eq_true, k_eqi_iff, k_le_iff] at d
                refine ⟨fun _ => ?_, (fun z => by cases z)⟩
                have i1 := x2.1
                have i2 := y2.2
                rw [← c, d.1]
                omega
              · exact ⟨(fun z => by cases z), (fun z => by cases z)⟩
      · exact ⟨(fun z => by cases z), (fun z => by cases z)⟩
    · exact ⟨(fun z => by cases z), (fun z => by cases z)⟩
  · exact ⟨(fun z => by cases z), (fun z => by cases z)⟩
def k_ml (env : List (Nat × kInfo)) (rel : List (Nat × Nat × Nat × Nat × Int)) (θ par : List kOp) (np : Nat) : List (Int × Int × Nat) → List (Int × Int × Nat) → Bool
  | a :: as, b :: bs => match k_mc env rel θ par np a b with
    | 2 => true
    | 1 => k_ml env rel θ par np as bs
    | _ => false
  | _, _ => false
/-- does the state come to the head A: by the head's own words; with a measure below that where one set out -/
def k_ent (TT : List kDesc) (np : Nat) (ms : Option (List (Int × Int × Nat))) (A : kAnn) (σ : kSt) : Bool := match k_bind TT A.1 [] σ with
  | some (θ, (_, env, loc, [], ff, rel, _, g, par)) => ((Nat.beq θ.length A.2.1.length && k_args env θ A.2.1) && (A.2.2.1.all (fun q => match k_loc loc q.1, k_sb θ q.2 with
      | some o, some o' => k_oe o o'
      | _, _ => false) && A.2.2.2.1.all (fun q => match θ[q.1]?, k_sb θ q.2.2 with
      | some (.inl s), some o' => match k_fct ff s q.2.1 with
        | some o => k_oe o o'
        | none => false
      | _, _ => false))) && ((k_sub1 A.2.2.2.2.1 g && (k_pq θ A.2.2.2.2.2.1 par && Nat.beq A.2.2.2.2.2.1.length np)) && (match ms with
      | none => true
      | some ms => k_ml env rel θ par np A.2.2.2.2.2.2 ms && Nat.beq A.2.2.2.2.2.2.length ms.length))
  | _ => false
theorem k_args_at {τ : kTau} {ρ : Nat → Option Value} {env : List (Nat × kInfo)} (he : k_env τ ρ env) : ∀ {ops : List kOp} {xs : List kInfo}, k_args env ops xs = true → ∀ (i : Nat) (x : kInfo), xs[i]? = some x → ∃ (o : kOp) (v : Value), ops[i]? = some o ∧ k_v ρ o = some v ∧ k_ok τ x v
  | [], [], _, i, x, h => by simp at h
  | o :: r, x :: s, e, i, y, h => by
    unfold k_args at e
    rw [Bool.and_eq_true] at e
    cases i with
    | zero =>
      simp at h
      subst h
      obtain ⟨v, v1, v2⟩ := k_has_ok he e.1
      exact ⟨o, v, by simp, v1, v2⟩
    | succ i =>
      obtain ⟨o', v, h1, h2, h3⟩ := k_args_at he e.2 i y (by simpa using h)
      exact ⟨o', v, by simpa using h1, h2, h3⟩
  | [], x :: s, e, _, _, _ => by cases e
  | o :: r, [], e, _, _, _ => by cases e
/-- a head is come to: its own state holds, its symbols' values are those of θ; the measure is below -/
theorem k_ent_ok {E : kE} {nL : Nat} {τ : kTau} {ps vs : List Value} {ρ : Nat → Option Value} {H : Heap} {ls : Array Slot} {st : List Value} {A : kAnn} {σ : kSt} {ms : Option (List (Int × Int × Nat))} (hE : k_Eok E) (hH : k_HT E τ H) (hps : ∀ (i : Nat) (w : Value), vs[i]? = some w → i < ps.length → ps[i]? = some w) (hR : k_R E nL τ vs ρ H ls st σ) (e : k_ent E.2.2.2.1 ps.length ms A σ = true) (hmr : A.2.2.2.2.2.2.all (k_mr A.2.1) = true) :
    st = [] ∧ ∃ ρ', k_R E nL τ ps ρ' H ls [] (k_hst0 A) ∧ ∀ hv : List Value, hv.length = A.2.1.length → (∀ i w, hv[i]? = some w → ρ' i = some w) → ∀ m, ms = some m → k_lexP (A.2.2.2.2.2.2.map (k_mval hv)) (m.map (k_mval (vs.drop ps.length))) ∧ A.2.2.2.2.2.2.length = m.length := by
  unfold k_ent at e
  split at e
  · rename_i θ n env loc ff rel len g par hb
    obtain ⟨ρ', hR'⟩ := k_bind_ok hE hH hR hb
    rw [Bool.and_eq_true, Bool.and_eq_true, Bool.and_eq_true, Bool.and_eq_true, Bool.and_eq_true, Bool.and_eq_true, Bool.and_eq_true, List.all_eq_true, List.all_eq_true, k_sub1_iff] at e
    obtain ⟨⟨⟨e1, e2⟩, e3, e4⟩, ⟨e5, e6, e6'⟩, e7⟩ := e
    have e1 := Nat.eq_of_beq_eq_true e1
    have e6' := Nat.eq_of_beq_eq_true e6'
    have he := k_envR hR'
    have hst : st = [] := by
      have : ([] : List kOp).map (k_v ρ') = st.map some := hR'.2.2.2.1
      simpa using this.symm
    have hinf := k_args_at he e2
    have hpar : par.map (k_v ρ') = vs.map some := hR'.2.2.2.2.2.2.2.2
    refine ⟨hst, k_hv ρ' θ, ?_, ?_⟩
    · refine ⟨fun i hi => ?_, fun q hq => ?_, ⟨hR'.2.2.1.1, hR'.2.2.1.2.1, fun q hq => ?_⟩, rfl, fun q hq => ?_, (fun q hq => by cases hq), (fun q hq => by cases hq), fun i hi => hR'.2.2.2.2.2.2.2.1 i (e5 i hi), k_pq_ok e6 hpar (by rw [e6']) hps⟩
      · show (θ[i]?).bind _ = none
        rw [List.getElem?_eq_none (by omega)]
        rfl
      · obtain ⟨-, h2⟩ := k_zip_mem hq
        rw [Nat.sub_zero] at h2
        obtain ⟨o, v, h3, h4, h5⟩ := hinf _ _ h2
        exact ⟨v, by show (θ[q.1]?).bind _ = _; rw [h3]; exact h4, h5⟩
      · have := e3 q hq
        split at this
        · rename_i o o' h1 h2
          obtain ⟨v, v1, v2⟩ := k_loc_ok hR'.2.2.1.2.2 h1
          exact ⟨v, by rw [k_sb_v h2, ← k_oe_ok this]; exact v1, v2⟩
        · cases this
      · have := e4 q hq
        split at this
        · rename_i s o' h1 h2
          split at this
          · rename_i o h3
            obtain ⟨a, t, d, v, g1, g2, g3, g4, g5, g6⟩ := hR'.2.2.2.2.1 _ (k_fct_ok h3)
            refine ⟨a, t, d, v, ?_, g2, g3, g4, ?_, g6⟩
            · show (θ[q.1]?).bind _ = _
              rw [h1]
              exact g1
            · rw [k_sb_v h2, ← k_oe_ok this]
              exact g5
          · cases this
        · cases this
    · intro hv hl hh m hm
      subst hm
      dsimp only at e7
      rw [Bool.and_eq_true] at e7
      have e8 := Nat.eq_of_beq_eq_true e7.2
      refine ⟨?_, e8⟩
      have hhv : ∀ (i : Nat) (x : kInfo), A.2.1[i]? = some x → ∃ v, hv[i]? = some v ∧ k_ok τ x v := by
        intro i x hi
        have hil : i < A.2.1.length := (List.getElem?_eq_some_iff.mp hi).1
        obtain ⟨o, v, h3, h4, h5⟩ := hinf i x hi
        have hw : hv[i]? = some hv[i] := List.getElem?_eq_getElem (by omega)
        have := hh i _ hw
        have h6 : k_hv ρ' θ i = some v := by show (θ[i]?).bind _ = _; rw [h3]; exact h4
        rw [h6] at this
        have : v = hv[i] := Option.some.inj this
        subst this
        exact ⟨_, hw, h5⟩
      have hva : ∀ (a : Int × Int × Nat) o, θ[a.2.2]? = some o → k_v ρ' o = hv[a.2.2]? := by
        intro a o ho
        have hil : a.2.2 < θ.length := (List.getElem?_eq_some_iff.mp ho).1
        have hw : hv[a.2.2]? = some hv[a.2.2] := List.getElem?_eq_getElem (by omega)
        have := hh _ _ hw
        have h6 : k_hv ρ' θ a.2.2 = k_v ρ' o := by show (θ[a.2.2]?).bind _ = _; rw [ho]; rfl
        rw [hw, ← this, h6]
      have hvb : ∀ (b : Int × Int × Nat) o, par[ps.length + b.2.2]? = some o → k_v ρ' o = (vs.drop ps.length)[b.2.2]? := by
        intro b o ho
        obtain ⟨w, w1, w2⟩ := k_map_get2 hpar ho
        rw [List.getElem?_drop, w1, w2]
      have hmr' := List.all_eq_true.mp hmr
      have gen : ∀ (as bs : List (Int × Int × Nat)), (∀ a ∈ as, k_mr A.2.1 a = true) → k_ml env rel θ par ps.length as bs = true → k_lexP (as.map (k_mval hv)) (bs.map (k_mval (vs.drop ps.length))) := by
        intro as
        induction as with
        | nil => intro bs _ h; cases bs <;> cases h
        | cons a as ih =>
          intro bs hma h
          cases bs with
          | nil => cases h
          | cons b bs =>
            unfold k_ml at h
            have hc := k_mc_ok (a := a) (b := b) (np := ps.length) (va := hv[a.2.2]?) (vb := (vs.drop ps.length)[b.2.2]?) he (k_relR hR') (hva a) (hvb b)
            have hge := k_mr_ok (hma a List.mem_cons_self) hhv
            simp only [List.map_cons]
            split at h
            · rename_i z
              left
              have := hc.1 z
              unfold k_mval
              omega
            · rename_i z
              right
              have := hc.2 z
              refine ⟨?_, ih bs (fun x hx => hma x (List.mem_cons_of_mem _ hx)) h⟩
              unfold k_mval
              rw [this]
            · cases h
      exact gen _ _ hmr' e7.1
  · cases e
/-- a head's own walk -/
def k_hd (TT : List kDesc) (GS : Nat → List (Nat × Nat)) (M : kM) (f : Nat) (q : Nat × kAnn) : Bool := (q.2.2.2.2.2.2.2.all (k_mr q.2.2.1) && Nat.beq q.2.2.2.2.2.2.1.length M.2.2.2.2.2.1.1.length) && (match k_step TT GS M q.1 (k_hst q.2) with
  | some l => l.all (fun p => k_run TT GS M (k_ent TT M.2.2.2.2.2.1.1.length (some q.2.2.2.2.2.2.2)) f p.1 p.2)
  | none => false)
theorem k_heads {X : kX} {E : kE} {τ : kTau} {M : kM} {ps : List Value} {cc : ByteArray} {own : String} {f : Nat} (hy : k_Hy X E τ M ps cc own) (hh : ∀ q ∈ M.2.2.2.2.2.2.2.2.1, k_hd E.2.2.2.1 E.2.2.2.2.2.2 M f q = true) :
    ∀ (N : Nat) (q : Nat × kAnn), q ∈ M.2.2.2.2.2.2.2.2.1 → ∀ (ρ : Nat → Option Value) (H : Heap) (locs : List Loc) (ls : Array Slot) (hv : List Value), k_HT E τ H → k_wk E τ M.2.2.2.2.2.1.2.2.2.1 X.2.2.2.2.1.heap H locs → k_R E M.2.2.2.2.2.2.2.1 τ ps ρ H ls [] (k_hst0 q.2) → hv.length = q.2.2.1.length → (∀ i w, hv[i]? = some w → ρ i = some w) → k_num (q.2.2.2.2.2.2.2.map (k_mval hv)) < N → kw X H locs q.1 ls [] := by
  have hE := hy.2.2.2.2.2.2.1
  have hl : ps.length = M.2.2.2.2.2.1.1.length := hy.2.2.2.2.2.2.2.2.2.2.2.2
  intro N
  induction N with
  | zero => intro q _ ρ H locs ls hv _ _ _ _ _ h; exact absurd h (Nat.not_lt_zero _)
  | succ N ih =>
    intro q hq ρ H locs ls hv hH hW hR hvl hvv hN
    have hb := hh q hq
    unfold k_hd at hb
    rw [Bool.and_eq_true, Bool.and_eq_true] at hb
    obtain ⟨⟨b1, b1'⟩, b2⟩ := hb
    have b1' := Nat.eq_of_beq_eq_true b1'
    split at b2
    · rename_i l hst
      rw [List.all_eq_true] at b2
      have hR2 : k_R E M.2.2.2.2.2.2.2.1 τ (ps ++ hv) ρ H ls [] (k_hst q.2) := by
        obtain ⟨k1, k2, k3, k4, k5, k6, k7, k8, k9⟩ := hR
        refine ⟨k1, k2, k3, k4, k5, k6, k7, k8, ?_⟩
        rw [List.map_append, List.map_append, k9, k_seq_map (b := 0) hvl (fun i w hi => by rw [Nat.zero_add]; exact hvv i w hi)]
      have hps : ∀ (i : Nat) (w : Value), (ps ++ hv)[i]? = some w → i < ps.length → ps[i]? = some w := fun i w h1 h2 => by rw [List.getElem?_append_left h2] at h1; exact h1
      refine k_step_ok hy hps hst (fun p hp => k_run_ok hy hps (fun pc A σ hA hent => ?_) f p.1 p.2 (b2 p hp)) ρ H locs ls [] hH hW hR2
      intro ρ2 H2 locs2 ls2 st2 hH2 hW2 hR3
      have hA2 := hh _ hA
      unfold k_hd at hA2
      rw [Bool.and_eq_true, Bool.and_eq_true] at hA2
      have hmr := hA2.1.1
      obtain ⟨h1, ρ', h2, h3⟩ := k_ent_ok (ps := ps) hE hH2 hps hR3 (by rw [hl]; exact hent) hmr
      subst h1
      have hdom : ∀ i, i < A.2.1.length → ∃ w, ρ' i = some w := by
        intro i hi
        have hz : (i, A.2.1[i]) ∈ k_zip 0 A.2.1 := by
          have gen : ∀ (xs : List kInfo) (b j : Nat) (hj : j < xs.length), (b + j, xs[j]) ∈ k_zip b xs := by
            intro xs
            induction xs with
            | nil => intro b j hj; simp at hj
            | cons x r ihx =>
              intro b j hj
              unfold k_zip
              cases j with
              | zero => simp
              | succ j =>
                refine List.mem_cons_of_mem _ ?_
                have := ihx (b + 1) j (by simpa using hj)
                rw [show b + 1 + j = b + (j + 1) by omega] at this
                simpa using this
          have := gen A.2.1 0 i hi
          rwa [Nat.zero_add] at this
        obtain ⟨v, hv1, -⟩ := h2.2.1 _ hz
        exact ⟨v, hv1⟩
      obtain ⟨hv', hv1, hv2⟩ : ∃ hv' : List Value, hv'.length = A.2.1.length ∧ ∀ i w, hv'[i]? = some w → ρ' i = some w := by
        refine ⟨(List.range A.2.1.length).map (fun i => (ρ' i).getD .null), by simp, fun i w hi => ?_⟩
        rw [List.getElem?_map] at hi
        cases hr : (List.range A.2.1.length)[i]? with
        | none => rw [hr] at hi; cases hi
        | some j =>
          rw [hr] at hi
          have hij := List.getElem?_eq_some_iff.mp hr
          obtain ⟨hlt, hji⟩ := hij
          rw [List.getElem_range] at hji
          subst hji
          have hlt' : i < A.2.1.length := by simpa using hlt
          obtain ⟨v, hv⟩ := hdom i hlt'
          have : (ρ' i).getD .null = w := Option.some.inj hi
          rw [hv] at this ⊢
          exact congrArg some this
      obtain ⟨hlex, hlen⟩ := h3 hv' hv1 hv2 _ rfl
      have hdig : ∀ d ∈ A.2.2.2.2.2.2.map (k_mval hv'), d < k_big := by
        intro d hd
        obtain ⟨m, hm, rfl⟩ := List.mem_map.mp hd
        have hh2 : ∀ (i : Nat) (x : kInfo), A.2.1[i]? = some x → ∃ v, hv'[i]? = some v ∧ k_ok τ x v := by
          intro i x hi
          have hil : i < A.2.1.length := (List.getElem?_eq_some_iff.mp hi).1
          have hw : hv'[i]? = some hv'[i] := List.getElem?_eq_getElem (by omega)
          have hz : (i, x) ∈ k_zip 0 A.2.1 := by
            have gen : ∀ (xs : List kInfo) (b j : Nat) (y : kInfo), xs[j]? = some y → (b + j, y) ∈ k_zip b xs := by
              intro xs
              induction xs with
              | nil => intro b j y hj; simp at hj
              | cons x r ihx =>
                intro b j y hj
                unfold k_zip
                cases j with
                | zero => simp at hj; subst hj; simp
                | succ j =>
                  refine List.mem_cons_of_mem _ ?_
                  have := ihx (b + 1) j y (by simpa using hj)
                  rwa [show b + 1 + j = b + (j + 1) by omega] at this
            have := gen A.2.1 0 i x hi
            rwa [Nat.zero_add] at this
          obtain ⟨v, g1, g2⟩ := h2.2.1 _ hz
          have := hv2 i _ hw
          have hvv : v = hv'[i] := Option.some.inj (g1.symm.trans this)
          subst hvv
          exact ⟨_, hw, g2⟩
        have := k_mr_ok (List.all_eq_true.mp hmr m hm) hh2
        unfold k_mval k_big
        omega
      have hdrop : (ps ++ hv).drop ps.length = hv := by simp
      rw [hdrop] at hlex
      have hlt := k_lexP_num (by simp [hlen]) hdig hlex
      exact ih (pc, A) hA ρ' H2 locs2 ls2 hv' hH2 hW2 h2 hv1 hv2 (by show k_num (A.2.2.2.2.2.2.map (k_mval hv')) < N; omega)
    · cases b2
/-- where the parameters lie at the entry -/
def k_cat : kInfo → Nat
  | .inl _ => 1
  | .inr (.inl _) => 2
  | .inr (.inr _) => 1
def k_eloc : Nat → Nat → List kInfo → List (Nat × kOp)
  | _, _, [] => []
  | j, i, x :: r => (j, .inl i) :: k_eloc (j + k_cat x) (i + 1) r
def k_words : List kInfo → Nat
  | [] => 0
  | x :: r => k_cat x + k_words r
/-- the facts that the contract gives at the entry -/
def k_pfe : List (Nat × Nat × kInfo) → List kOp → kSt → Option kSt
  | [], _, σ => some σ
  | q :: r, ops, (n, env, loc, stk, ff, rel, len, g, par) => match ops[q.1]? with
    | some o => match k_obj env o with
      | some p => k_pfe r (ops ++ [.inl n]) (n + 1, (n, q.2.2) :: env, loc, stk, (p.1, q.2.1, .inl n) :: ff, rel, len, g, par)
      | none => none
    | none => none
theorem k_pfe_ok {E : kE} {nL : Nat} {τ : kTau} {vs : List Value} {H : Heap} {ls : Array Slot} {st : List Value} : ∀ {fs : List (Nat × Nat × kInfo)} {ops : List kOp} {as : List Value} {ρ : Nat → Option Value} {σ σ' : kSt}, ops.map (k_v ρ) = as.map some → k_R E nL τ vs ρ H ls st σ → k_prF E τ H fs as → k_pfe fs ops σ = some σ' → ∃ ρ', k_R E nL τ vs ρ' H ls st σ'
  | [], ops, as, ρ, σ, σ', _, hR, _, e => by cases e; exact ⟨ρ, hR⟩
  | q :: r, ops, as, ρ, (n, env, loc, stk, ff, rel, len, g, par), σ', hm, hR, hp, e => by
    unfold k_pfe at e
    split at e
    · rename_i o ho
      split at e
      · rename_i p hp2
        obtain ⟨v, w, w1, ⟨a, t, d, g1, g2, g3, g4, g5⟩, g6, hr⟩ := hp
        obtain ⟨ho2, a', ha1, ha2⟩ := k_obj_ok (s := p.1) (t := p.2) (k_envR hR) hp2
        have hv := k_map_get hm ho w1
        subst ho2
        subst g1
        have ea : a' = a := Value.ref.inj (Option.some.inj (ha1.symm.trans hv))
        subst ea
        have hn := k_R_new0 hR g6
        have hu := k_ext_le (v := w) hR.1
        have hm2 : (ops ++ [(Sum.inl n : kOp)]).map (k_v (k_ext ρ n w)) = (as ++ [w]).map some := by
          rw [List.map_append, List.map_append, k_map_up hu hm]
          simp only [List.map_cons, List.map_nil]
          rw [show k_v (k_ext ρ n w) (.inl n) = some w from k_ext_at]
        refine k_pfe_ok hm2 ?_ hr e
        obtain ⟨k1, k2, k3, k4, k5, k6⟩ := hn
        refine ⟨k1, k2, k3, k4, fun z hz => ?_, k6⟩
        rcases List.mem_cons.mp hz with e' | e'
        · subst e'
          exact ⟨a', t, d, w, hu _ _ hv, g2, g3, g4, k_ext_at, g5⟩
        · exact k5 z e'
      · cases e
    · cases e
def k_est (K : kCtr) : Option kSt := k_pfe K.2.1 (k_seq 0 K.1.length) (K.1.length, k_zip 0 K.1, k_eloc 0 0 K.1, [], [], [], [], K.2.2.2.2.1, k_seq 0 K.1.length)
def k_check (TT : List kDesc) (GS : Nat → List (Nat × Nat)) (M : kM) (f : Nat) : Bool := Nat.ble (k_words M.2.2.2.2.2.1.1) M.2.2.2.2.2.2.2.1 && (M.2.2.2.2.2.2.2.2.1.all (k_hd TT GS M f) && (match k_est M.2.2.2.2.2.1 with
  | some σ => k_run TT GS M (k_ent TT M.2.2.2.2.2.1.1.length none) f 0 σ
  | none => false))
theorem k_cat_ok {τ : kTau} {x : kInfo} {v : Value} (h : k_ok τ x v) : k_cat x = v.category := by
  cases x with
  | inl q => obtain ⟨z, h1, -⟩ := h; subst h1; rfl
  | inr x =>
    cases x with
    | inl q => obtain ⟨z, h1, -⟩ := h; subst h1; rfl
    | inr x =>
      cases x with
      | inl q => rcases h with ⟨-, h1⟩ | ⟨a, t, h1, -⟩ <;> subst h1 <;> rfl
      | inr q => exact (show v.category = 1 from h).symm
theorem k_eloc_ok {τ : kTau} {ls : Array Slot} {ρ : Nat → Option Value} : ∀ {xs : List kInfo} {vs : List Value} {j i : Nat}, vs.length = xs.length → (∀ (k : Nat) (x : kInfo), xs[k]? = some x → ∃ v, vs[k]? = some v ∧ k_ok τ x v) → (∀ q ∈ lv_args j vs, ls[q.1]? = some (.val q.2)) → (∀ k w, vs[k]? = some w → ρ (i + k) = some w) → ∀ q ∈ k_eloc j i xs, ∃ v, k_v ρ q.2 = some v ∧ ls[q.1]? = some (.val v)
  | [], vs, j, i, _, _, _, _, q, hq => by cases hq
  | x :: xs, [], j, i, h, _, _, _, _, _ => by simp at h
  | x :: xs, v :: vs, j, i, hl, hx, hls, hρ, q, hq => by
    unfold k_eloc at hq
    unfold lv_args at hls
    rcases List.mem_cons.mp hq with e | e
    · subst e
      refine ⟨v, ?_, hls (j, v) List.mem_cons_self⟩
      have := hρ 0 v (by simp)
      show ρ i = some v
      simpa using this
    · obtain ⟨w, w1, w2⟩ := hx 0 x (by simp)
      have : w = v := by simpa using w1.symm
      subst this
      have hcat := k_cat_ok w2
      have hj : j + k_cat x = (if w.category = 2 then j + 2 else j + 1) := by
        rw [hcat]
        rcases lv_cat w with z | z
        · rw [z]; rfl
        · rw [z]; rfl
      rw [hj] at e
      refine k_eloc_ok (τ := τ) (by simpa using hl) (fun k y hk => ?_) (fun z hz => hls z (List.mem_cons_of_mem _ hz)) (fun k w' hk => ?_) q e
      · obtain ⟨u, u1, u2⟩ := hx (k + 1) y (by simpa using hk)
        exact ⟨u, by simpa using u1, u2⟩
      · have := hρ (k + 1) w' (by simpa using hk)
        rw [show i + 1 + k = i + (k + 1) by omega]
        exact this
theorem k_words_ok {τ : kTau} : ∀ {xs : List kInfo} {vs : List Value}, vs.length = xs.length → (∀ (k : Nat) (x : kInfo), xs[k]? = some x → ∃ v, vs[k]? = some v ∧ k_ok τ x v) → (lg_sl vs).length = k_words xs
  | [], vs, h, _ => by
    cases vs with
    | nil => rfl
    | cons a r => simp at h
  | x :: xs, [], h, _ => by simp at h
  | x :: xs, v :: vs, hl, hx => by
    obtain ⟨w, w1, w2⟩ := hx 0 x (by simp)
    have : w = v := by simpa using w1.symm
    subst this
    have hcat := k_cat_ok w2
    have ih := k_words_ok (xs := xs) (vs := vs) (by simpa using hl) (fun k y hk => by
      obtain ⟨u, u1, u2⟩ := hx (k + 1) y (by simpa using hk)
      exact ⟨u, by simpa using u1, u2⟩)
    unfold k_words
    rw [hcat, ← ih]
    have : lg_sl (w :: vs) = (if w.category = 2 then [.val w, .second] else [.val w]) ++ lg_sl vs := by simp [lg_sl]
    rw [this, List.length_append]
    rcases lv_cat w with z | z
    · rw [z]; simp
    · rw [z]; simp
/-- the walk of a whole method from its entry -/
theorem k_entry {X : kX} {E : kE} {τ : kTau} {M : kM} {ps : List Value} {cc : ByteArray} {own : String} {f : Nat} (hy : k_Hy X E τ M ps cc own) (hc : k_check E.2.2.2.1 E.2.2.2.2.2.2 M f = true) (hH : k_HT E τ X.2.2.2.2.1.heap) (hpre : k_pre E τ X.2.2.2.2.1.heap M.2.2.2.2.2.1 ps) :
    W X.1 X.2.1 X.2.2.1 X.2.2.2.1 X.2.2.2.2.1 X.2.2.2.2.2.1 X.2.2.2.2.2.2.1 X.2.2.2.2.2.2.2.1 X.2.2.2.2.2.2.2.2.1 X.2.2.2.2.2.2.2.2.2.1 X.2.2.2.2.1.heap [] 0 0 X.2.2.2.2.2.2.2.2.2.2 (entryFrame X.2.2.2.2.2.1 ps.toArray M.2.2.2.2.2.2.2.1) := by
  unfold k_check at hc
  rw [Bool.and_eq_true, Bool.and_eq_true, List.all_eq_true] at hc
  obtain ⟨c1, c2, c3⟩ := hc
  have c1 := Nat.le_of_ble_eq_true c1
  obtain ⟨p1, p2, p3, p4⟩ := hpre
  have hE := hy.2.2.2.2.2.2.1
  have hw := k_words_ok p1 p2
  have hl := lv_entry ps (n := M.2.2.2.2.2.2.2.1) (by rw [hw]; exact c1)
  rw [lg_entry_eq]
  generalize (lg_sl ps ++ List.replicate (M.2.2.2.2.2.2.2.1 - (lg_sl ps).length) Slot.unset).toArray = ls at hl ⊢
  split at c3
  · rename_i σ hσ
    have hbase : k_R E M.2.2.2.2.2.2.2.1 τ ps (fun i => ps[i]?) X.2.2.2.2.1.heap ls [] (M.2.2.2.2.2.1.1.length, k_zip 0 M.2.2.2.2.2.1.1, k_eloc 0 0 M.2.2.2.2.2.1.1, [], [], [], [], M.2.2.2.2.2.1.2.2.2.2.1, k_seq 0 M.2.2.2.2.2.1.1.length) := by
      refine ⟨fun i hi => List.getElem?_eq_none (by omega), fun q hq => ?_, ⟨hl.1, hl.2.1, k_eloc_ok (i := 0) p1 p2 hl.2.2 (fun k w hk => by rw [Nat.zero_add]; exact hk)⟩, rfl, (fun q hq => by cases hq), (fun q hq => by cases hq), (fun q hq => by cases hq), p4, k_seq_map p1 (fun i w hi => by rw [Nat.zero_add]; exact hi)⟩
      obtain ⟨-, h2⟩ := k_zip_mem hq
      rw [Nat.sub_zero] at h2
      exact p2 _ _ h2
    obtain ⟨ρ, hR⟩ := k_pfe_ok (as := ps) (k_seq_map p1 (fun i w hi => by rw [Nat.zero_add]; exact hi)) hbase p3 hσ
    have hps : ∀ (i : Nat) (w : Value), ps[i]? = some w → i < ps.length → ps[i]? = some w := fun _ _ h _ => h
    refine k_run_ok hy hps (fun pc A σ' hA hent => ?_) f 0 σ c3 ρ _ [] ls [] hH ⟨k_fr_refl, fun _ h => by cases h⟩ hR
    intro ρ2 H2 locs2 ls2 st2 hH2 hW2 hR3
    have hA2 := c2 _ hA
    unfold k_hd at hA2
    rw [Bool.and_eq_true, Bool.and_eq_true] at hA2
    have hlen : ps.length = M.2.2.2.2.2.1.1.length := p1
    obtain ⟨h1, ρ', h2, -⟩ := k_ent_ok (ps := ps) hE hH2 hps hR3 (by rw [hlen]; exact hent) hA2.1.1
    subst h1
    have hdom : ∀ i, i < A.2.1.length → ∃ w, ρ' i = some w := by
      intro i hi
      have gen : ∀ (xs : List kInfo) (b j : Nat) (hj : j < xs.length), (b + j, xs[j]) ∈ k_zip b xs := by
        intro xs
        induction xs with
        | nil => intro b j hj; simp at hj
        | cons x r ihx =>
          intro b j hj
          unfold k_zip
          cases j with
          | zero => simp
          | succ j =>
            refine List.mem_cons_of_mem _ ?_
            have := ihx (b + 1) j (by simpa using hj)
            rw [show b + 1 + j = b + (j + 1) by omega] at this
            simpa using this
      have hz := gen A.2.1 0 i hi
      rw [Nat.zero_add] at hz
      obtain ⟨v, hv1, -⟩ := h2.2.1 _ hz
      exact ⟨v, hv1⟩
    refine k_heads hy c2 _ (pc, A) hA ρ' H2 locs2 ls2 ((List.range A.2.1.length).map (fun i => (ρ' i).getD .null)) hH2 hW2 h2 (by simp) (fun i w hi => ?_) (Nat.lt_succ_self _)
    rw [List.getElem?_map] at hi
    cases hr : (List.range A.2.1.length)[i]? with
    | none => rw [hr] at hi; cases hi
    | some j =>
      rw [hr] at hi
      obtain ⟨hlt, hji⟩ := List.getElem?_eq_some_iff.mp hr
      rw [List.getElem_range] at hji
      subst hji
      obtain ⟨v, hv⟩ := hdom i (by simpa using hlt)
      have : (ρ' i).getD .null = w := Option.some.inj hi
      rw [hv] at this ⊢
      exact congrArg some this
  · cases c3
end
section
/-! ===== from a check to a contract, from a contract to a call ===== -/
def k_Pc (E : kE) (τ : kTau) (K : kCtr) (ps : List Value) : Array Value → State → Prop := fun a U => a = ps.toArray ∧ va_K E.1 E.2.1 E.2.2.1 U ∧ k_HT E τ U.heap ∧ k_pre E τ U.heap K ps
/-- a method's contract over the machine, for all arguments -/
def k_Met (l : Launch) (E : kE) (τ : kTau) (tb : List Jvm.Cond) (y : MethodName) (cc : ByteArray) (nL rk : Nat) (K : kCtr) (rm : Room) : Prop :=
  ∀ ps : List Value, Met l y (Jvm.Cond.code y cc nL (k_rty rk) :: tb) rm (k_Pc E τ K ps) (k_Qc E τ K ps) 0 0 (fun q => E.2.2.2.2.1 ≤ q)
theorem k_Pc_blind {E : kE} {τ : kTau} {K : kCtr} {ps : List Value} : FrameBlind (k_Pc E τ K ps) := by
  intro a U g mk h
  obtain ⟨h1, h2, h3, h4⟩ := h
  exact ⟨h1, va_K.moved (u := U) (U := U.calling g mk a) (Vm.Alike.refl U.vm) h2, h3, h4⟩
theorem k_met {l : Launch} {E : kE} {τ : kTau} {tb : List Jvm.Cond} {y : MethodName} {cc : ByteArray} {M : kM} {rm : Room} {f : Nat} (hpl : plainName y.cls = true)
    (hT : ∀ X : kX, X.2.1 = l → X.2.2.2.1 = rm → k_Fx X cc M.2.2.2.2.2.2.2.1 y.cls → (∀ w ∈ tb, w.before X.2.2.2.2.2.2.1 X.2.2.2.2.1 = true) → va_K E.1 E.2.1 E.2.2.1 X.2.2.2.2.1 →
      k_FL X E y.cls M.2.1 ∧ k_CI X y.cls M.2.2.1 ∧ k_CJ X y.cls M.2.2.2.1 ∧ (∀ q ∈ M.2.2.2.2.1, k_call X E M.2.2.2.2.2.2.2.1 τ q.2 q.1) ∧ k_Eok E ∧ k_tys E)
    (hdec : ∀ q ∈ M.1, decode cc q.1 = .ok q.2) (hchk : k_check E.2.2.2.1 E.2.2.2.2.2.2 M f = true) :
    k_Met l E τ tb y cc M.2.2.2.2.2.2.2.1 M.2.2.2.2.2.2.1 M.2.2.2.2.2.1 rm := by
  intro ps
  refine Met.ofW (cc := cc) (maxL := M.2.2.2.2.2.2.2.1) (ret := k_rty M.2.2.2.2.2.2.1) hpl rfl ?_
  intro p e s m args below meth c s₁ B hml hv
  obtain ⟨rfl, hK, hH, hpre⟩ := hv
  have hts0 := atoms_spec (ws := Jvm.Cond.code y cc M.2.2.2.2.2.2.2.1 (k_rty M.2.2.2.2.2.2.1) :: tb) B.pre
  have hts : ∀ w ∈ tb, w.before ps.toArray s = true := fun w hw => hts0 w (List.mem_cons_of_mem _ hw)
  have hown : s.vm.findClass y.cls = some m.cls := findClass_of_methodNamed B.named
  have hF : k_Fx (p, l, e, rm, s, m, ps.toArray, below, meth, c, MQ below (k_Qc E τ M.2.2.2.2.2.1 ps) ps.toArray s 0 0 (fun q => E.2.2.2.2.1 ≤ q)) cc M.2.2.2.2.2.2.2.1 y.cls := ⟨B.exec, B.bytes, hml, hown⟩
  obtain ⟨t1, t2, t3, t4, t5, t6⟩ := hT _ rfl rfl hF hts hK
  exact k_entry (X := (p, l, e, rm, s, m, ps.toArray, below, meth, c, MQ below (k_Qc E τ M.2.2.2.2.2.1 ps) ps.toArray s 0 0 (fun q => E.2.2.2.2.1 ≤ q))) (own := y.cls) (cc := cc) ⟨hF, hdec, t1, t2, t3, t4, t5, t6, hK, B.returns, B.notSynchronized, rfl, hpre.1⟩ hchk hH hpre
section KCS
variable {X : kX} {E : kE} {nL : Nat} {τ : kTau} {tb : List Jvm.Cond} {cc cc' : ByteArray} {own : String} {pc idx nL' rk' : Nat} {y : MethodName} {K : kCtr} {rm : Room}
theorem k_ofRun {H : Heap} {locs : List Loc} {ls : Array Slot} {as rest : List Value} (hr : CallRun X.1 X.2.1 X.2.2.1 X.2.2.2.1 X.2.2.2.2.1 X.2.2.2.2.2.1 X.2.2.2.2.2.2.1 X.2.2.2.2.2.2.2.1 X.2.2.2.2.2.2.2.2.1 X.2.2.2.2.2.2.2.2.2.1 H locs 0 0 0 0 (F0 X.2.2.2.2.2.1 pc ls (as.reverse ++ rest)) rest (k_Qc E τ K as as.toArray) (fun q => E.2.2.2.2.1 ≤ q))
    (kk : ∀ (H' : Heap) (L : List Loc) (v : Option Value), k_post E τ H H' K as v → (∀ q ∈ L, E.2.2.2.2.1 ≤ q.base) → kw X H' (locs ++ L) (pc + 3) ls (v.toList ++ rest)) : kw X H locs pc ls (as.reverse ++ rest) := by
  intro T hT Y
  obtain ⟨v, st₀, t, T', L, h0, Y', hL, e1, ⟨v', hv, hpost⟩, st⟩ := hr T hT Y
  cases hv
  rw [h0] at hpost
  obtain ⟨t2, a1, b1⟩ := kk t.heap L v hpost hL T' e1 Y'
  exact ⟨t2, st t2 a1, b1⟩
/-- the words of a call -/
theorem k_cb (hts : ∀ w ∈ tb, w.before X.2.2.2.2.2.2.1 X.2.2.2.2.1 = true) (hg : ∀ w ∈ tb, goodWord w = true) (hcode : Jvm.Cond.code y cc' nL' (k_rty rk') ∈ tb) (hini : Jvm.Cond.initialized y.cls ∈ tb) (hl : Jvm.Cond.methodLink own idx y ∈ tb)
    (hrc : rm.cells = 0) (hrs : rm.slots = 0) {n : Nat} (hd : y.cls ≠ "java/lang/invoke/MethodHandle" ∧ y.cls ≠ "java/lang/invoke/VarHandle" ∧ (parseMethodDescriptor y.desc).map (fun d => d.parameters.length) = some n) (hR : rm.frames + 1 ≤ X.2.2.2.1.frames ∧ 8 + (nL' + 11) + rm.locals ≤ X.2.2.2.1.locals) :
    CallB X.2.2.2.1 X.2.2.2.2.1 X.2.2.2.2.2.2.1 own idx y cc' nL' (k_rty rk') (Jvm.Cond.code y cc' nL' (k_rty rk') :: tb) rm 0 0 n :=
  callB_of (Ts := tb) n hts (fun w hw => by
    rcases List.mem_cons.mp hw with e | e
    · subst e; exact ⟨hcode, good_of_word (hg _ hcode)⟩
    · exact ⟨e, good_of_word (hg w e)⟩) rfl hrc hrs (hts _ hini) (hts _ hl) hd hR
theorem k_callS (hF : k_Fx X cc nL own) (hK : va_K E.1 E.2.1 E.2.2.1 X.2.2.2.2.1) (hts : ∀ w ∈ tb, w.before X.2.2.2.2.2.2.1 X.2.2.2.2.1 = true) (hg : ∀ w ∈ tb, goodWord w = true) (hM : k_Met X.2.1 E τ tb y cc' nL' rk' K rm) (hcode : Jvm.Cond.code y cc' nL' (k_rty rk') ∈ tb) (hini : Jvm.Cond.initialized y.cls ∈ tb) (hl : Jvm.Cond.methodLink own idx y ∈ tb) (hst : Jvm.Cond.static y ∈ tb)
    (hrc : rm.cells = 0) (hrs : rm.slots = 0) (hd : y.cls ≠ "java/lang/invoke/MethodHandle" ∧ y.cls ≠ "java/lang/invoke/VarHandle" ∧ (parseMethodDescriptor y.desc).map (fun d => d.parameters.length) = some K.1.length) (hR : rm.frames + 1 ≤ X.2.2.2.1.frames ∧ 8 + (nL' + 11) + rm.locals ≤ X.2.2.2.1.locals)
    (hdg : decode cc pc = .ok (.invokestatic idx, 3)) : k_call X E nL τ K pc := by
  intro H locs ls as rest hH hpre hsum hls kk
  refine k_ofRun (W.runS (Ts := tb) (cc := cc) (nL := nL) (own := own) (As := as) ⟨hF.1, hF.2.1, hF.2.2.1, hF.2.2.2, hts⟩ (hM as) ⟨k_cb hts hg hcode hini hl hrc hrs hd hR, hts _ hst⟩ ⟨k_Pc_blind, fun U hU hW => ⟨rfl, va_K.moved hW.alike hK, by rw [hU]; exact hH, by rw [hU]; exact hpre⟩⟩ rfl hpre.1 hls rfl (lv_room hsum) hdg ⟨Nat.zero_le _, Nat.zero_le _⟩) kk
theorem k_callV {C : String} {T : u_T} {N ci t : Nat} {fs : List kInfo} (hF : k_Fx X cc nL own) (hK : va_K E.1 E.2.1 E.2.2.1 X.2.2.2.2.1) (hts : ∀ w ∈ tb, w.before X.2.2.2.2.2.2.1 X.2.2.2.2.1 = true) (hg : ∀ w ∈ tb, goodWord w = true) (hM : k_Met X.2.1 E τ tb y cc' nL' rk' K rm) (hcode : Jvm.Cond.code y cc' nL' (k_rty rk') ∈ tb) (hini : Jvm.Cond.initialized y.cls ∈ tb) (hl : Jvm.Cond.methodLink own idx y ∈ tb) (him : Jvm.Cond.instanceMethod y ∈ tb) (hsel : Jvm.Cond.selects C y y ∈ tb)
    (hcl : E.2.1[ci]? = some (C, T, N)) (htt : E.2.2.2.1[t]? = some (.inl (ci, fs))) {r : List kInfo} (hK1 : K.1 = .inr (.inr (.inl (false, [t]))) :: r)
    (hrc : rm.cells = 0) (hrs : rm.slots = 0) (hd : y.cls ≠ "java/lang/invoke/MethodHandle" ∧ y.cls ≠ "java/lang/invoke/VarHandle" ∧ (parseMethodDescriptor y.desc).map (fun d => d.parameters.length) = some r.length) (hR : rm.frames + 1 ≤ X.2.2.2.1.frames ∧ 8 + (nL' + 11) + rm.locals ≤ X.2.2.2.1.locals)
    (hdg : decode cc pc = .ok (.invokevirtual idx, 3)) : k_call X E nL τ K pc := by
  intro H locs ls as rest hH hpre hsum hls kk
  obtain ⟨v, hv, hok⟩ := hpre.2.1 0 (.inr (.inr (.inl (false, [t])))) (by rw [hK1]; rfl)
  rcases hok with ⟨z, -⟩ | ⟨a, t', z1, z2, z3⟩
  · cases z
  subst z1
  have et : t' = t := List.mem_singleton.mp z2
  subst et
  cases as with
  | nil => simp at hv
  | cons a0 As =>
    have : a0 = .ref a := by simpa using hv
    subst this
    obtain ⟨-, d, g2, g3⟩ := hH a t' z3
    rw [htt] at g2
    cases g2
    obtain ⟨ws, ⟨q, q1, cell, q2, q3, q4, -⟩, -⟩ := g3
    have hlen : As.length = r.length := by
      have := hpre.1
      rw [hK1] at this
      simpa using this
    have hrev : (Value.ref a :: As).reverse ++ rest = As.reverse ++ .ref a :: rest := by simp
    have hrun := W.runV (e := X.2.2.1) (below := X.2.2.2.2.2.2.2.1) (meth := X.2.2.2.2.2.2.2.2.1) (g := F0 X.2.2.2.2.2.1 pc ls (As.reverse ++ .ref a :: rest)) (Ts := tb) (cc := cc) (nL := nL) (own := own) (C := C) (As := As) (b := a) (rest := rest) (H := H) (locs := locs) (cells := 0) (slots := 0) ⟨hF.1, hF.2.1, hF.2.2.1, hF.2.2.2, hts⟩ (hM (.ref a :: As)) ⟨k_cb (n := r.length) hts hg hcode hini hl hrc hrs hd hR, hts _ him, hts _ hsel⟩
      ⟨k_Pc_blind, ⟨cell, q2, by rw [q4]; rfl, by rw [q3]; exact (hK.1 ci _ hcl).2.1⟩, fun U hU hW => ⟨rfl, va_K.moved hW.alike hK, by rw [hU]; exact hH, by rw [hU]; exact hpre⟩⟩ rfl hlen hls rfl (lv_room hsum) hdg ⟨Nat.zero_le _, Nat.zero_le _⟩
    rw [← hrev] at hrun
    exact k_ofRun hrun kk
end KCS
/-- Math.max, Math.min as contracts -/
def k_Kmm : kCtr := ([.inl k_top, .inl k_top], [], [(some (.inl k_top), [], [])], [], [], [])
theorem k_post_same {E : kE} {τ : kTau} {H : Heap} {K : kCtr} {as : List Value} {v : Option Value} (hH : k_HT E τ H) (hg : K.2.2.2.2.2 = []) (hA : ∃ A ∈ K.2.2.1, k_alt E τ H as v A) : k_post E τ H H K as v := ⟨hH, k_fr_refl, by rw [hg]; exact fun _ h => (by cases h), hA⟩
theorem k_mmax {X : kX} {E : kE} {nL : Nat} {τ : kTau} {cc : ByteArray} {own : String} {pc idx : Nat} (hF : k_Fx X cc nL own) (hlink : (Jvm.Cond.methodLink own idx Lib.Math.max.name).before X.2.2.2.2.2.2.1 X.2.2.2.2.1 = true) (hstat : (Jvm.Cond.static Lib.Math.max.name).before X.2.2.2.2.2.2.1 X.2.2.2.2.1 = true) (hini : (Jvm.Cond.initialized "java/lang/Math").before X.2.2.2.2.2.2.1 X.2.2.2.2.1 = true) (hcode : (Jvm.Cond.code Lib.Math.max.name Lib.Math.max.code 2 (some .int)).before X.2.2.2.2.2.2.1 X.2.2.2.2.1 = true)
    (hfr : 1 ≤ X.2.2.2.1.frames) (hlo : 21 ≤ X.2.2.2.1.locals) (hdg : decode cc pc = .ok (.invokestatic idx, 3)) : k_call X E nL τ k_Kmm pc := by
  intro H locs ls as rest hH hpre hsum hls kk
  obtain ⟨h1, h2, -⟩ := hpre
  match as, h1 with
  | [a, b], _ =>
    obtain ⟨v, v1, x, v2, -⟩ := h2 0 (.inl k_top) rfl
    obtain ⟨w, w1, y, w2, -⟩ := h2 1 (.inl k_top) rfl
    have ea : a = .int x := by simpa [v2] using v1
    have eb : b = .int y := by simpa [w2] using w1
    subst ea; subst eb
    show kw X H locs pc ls (.int y :: .int x :: rest)
    refine va_mmax hF.1 hF.2.1 (by rw [hF.2.2.1]; exact hls.symm) hF.2.2.2 hlink hstat hini hcode hfr (by omega) (Nat.zero_le _) (Nat.zero_le _) hdg ?_
    have := kk H [] (some (.int (if x < y then y else x))) (k_post_same hH rfl ⟨_, List.mem_cons_self, ⟨_, rfl, _, rfl, k_in_top _⟩, fun _ h => (by cases h), fun _ h => (by cases h)⟩) (fun _ h => by cases h)
    rw [List.append_nil] at this
    exact this
theorem k_mmin {X : kX} {E : kE} {nL : Nat} {τ : kTau} {cc : ByteArray} {own : String} {pc idx : Nat} (hF : k_Fx X cc nL own) (hlink : (Jvm.Cond.methodLink own idx Lib.Math.min.name).before X.2.2.2.2.2.2.1 X.2.2.2.2.1 = true) (hstat : (Jvm.Cond.static Lib.Math.min.name).before X.2.2.2.2.2.2.1 X.2.2.2.2.1 = true) (hini : (Jvm.Cond.initialized "java/lang/Math").before X.2.2.2.2.2.2.1 X.2.2.2.2.1 = true) (hcode : (Jvm.Cond.code Lib.Math.min.name Lib.Math.min.code 2 (some .int)).before X.2.2.2.2.2.2.1 X.2.2.2.2.1 = true)
    (hfr : 1 ≤ X.2.2.2.1.frames) (hlo : 21 ≤ X.2.2.2.1.locals) (hdg : decode cc pc = .ok (.invokestatic idx, 3)) : k_call X E nL τ k_Kmm pc := by
  intro H locs ls as rest hH hpre hsum hls kk
  obtain ⟨h1, h2, -⟩ := hpre
  match as, h1 with
  | [a, b], _ =>
    obtain ⟨v, v1, x, v2, -⟩ := h2 0 (.inl k_top) rfl
    obtain ⟨w, w1, y, w2, -⟩ := h2 1 (.inl k_top) rfl
    have ea : a = .int x := by simpa [v2] using v1
    have eb : b = .int y := by simpa [w2] using w1
    subst ea; subst eb
    show kw X H locs pc ls (.int y :: .int x :: rest)
    refine va_mmin hF.1 hF.2.1 (by rw [hF.2.2.1]; exact hls.symm) hF.2.2.2 hlink hstat hini hcode hfr (by omega) (Nat.zero_le _) (Nat.zero_le _) hdg ?_
    have := kk H [] (some (.int (if y < x then y else x))) (k_post_same hH rfl ⟨_, List.mem_cons_self, ⟨_, rfl, _, rfl, k_in_top _⟩, fun _ h => (by cases h), fun _ h => (by cases h)⟩) (fun _ h => by cases h)
    rw [List.append_nil] at this
    exact this
end
section
-- ===== PART A: goes FIRST, ahead of the names: the tables' words, and 'selects' of the private methods out of them =====
/-- a private method of a class that the tables say can be made, by its rows of tables_1 -/
def lw_okq (q : MethodName × Nat) : Prop := (q.1.cls ≠ "java/lang/invoke/MethodHandle" ∧ q.1.cls ≠ "java/lang/invoke/VarHandle") ∧ Cond.instantiable q.1.cls q.2 ∈ tables_1 ∧ Cond.privateMethod q.1 ∈ tables_1 ∧ Cond.instanceMethod q.1 ∈ tables_1
theorem lw_p0 : lw_okq (⟨"SmokeWord$Tape", "scanToken", "(II)I"⟩, 7) := ⟨⟨by decide +kernel, by decide +kernel⟩, List.mem_of_getElem? (i := 31) (by decide +kernel), List.mem_of_getElem? (i := 487) (by decide +kernel), List.mem_of_getElem? (i := 488) (by decide +kernel)⟩
theorem lw_p1 : lw_okq (⟨"SmokeWord$Tape", "byteAt", "(I)I"⟩, 7) := ⟨⟨by decide +kernel, by decide +kernel⟩, List.mem_of_getElem? (i := 31) (by decide +kernel), List.mem_of_getElem? (i := 491) (by decide +kernel), List.mem_of_getElem? (i := 492) (by decide +kernel)⟩
theorem lw_p2 : lw_okq (⟨"SmokeWord$Tape", "scanNumber", "(II)I"⟩, 7) := ⟨⟨by decide +kernel, by decide +kernel⟩, List.mem_of_getElem? (i := 31) (by decide +kernel), List.mem_of_getElem? (i := 498) (by decide +kernel), List.mem_of_getElem? (i := 499) (by decide +kernel)⟩
theorem lw_p3 : lw_okq (⟨"SmokeWord$Tape", "wordFrom", "(II)I"⟩, 7) := ⟨⟨by decide +kernel, by decide +kernel⟩, List.mem_of_getElem? (i := 31) (by decide +kernel), List.mem_of_getElem? (i := 506) (by decide +kernel), List.mem_of_getElem? (i := 507) (by decide +kernel)⟩
theorem lw_p4 : lw_okq (⟨"SmokeWord$Tape", "is", "(IILjava/lang/String;)Z"⟩, 7) := ⟨⟨by decide +kernel, by decide +kernel⟩, List.mem_of_getElem? (i := 31) (by decide +kernel), List.mem_of_getElem? (i := 511) (by decide +kernel), List.mem_of_getElem? (i := 512) (by decide +kernel)⟩
theorem lw_p5 : lw_okq (⟨"SmokeWord$Tape", "otherWordFrom", "(II)I"⟩, 7) := ⟨⟨by decide +kernel, by decide +kernel⟩, List.mem_of_getElem? (i := 31) (by decide +kernel), List.mem_of_getElem? (i := 573) (by decide +kernel), List.mem_of_getElem? (i := 574) (by decide +kernel)⟩
theorem lw_p6 : lw_okq (⟨"SmokeWord$ValleyReader", "readClause", "(I)Z"⟩, 2) := ⟨⟨by decide +kernel, by decide +kernel⟩, List.mem_of_getElem? (i := 229) (by decide +kernel), List.mem_of_getElem? (i := 589) (by decide +kernel), List.mem_of_getElem? (i := 590) (by decide +kernel)⟩
theorem lw_p7 : lw_okq (⟨"SmokeWord$ValleyReader", "readHouse", "()Z"⟩, 2) := ⟨⟨by decide +kernel, by decide +kernel⟩, List.mem_of_getElem? (i := 229) (by decide +kernel), List.mem_of_getElem? (i := 605) (by decide +kernel), List.mem_of_getElem? (i := 606) (by decide +kernel)⟩
theorem lw_p8 : lw_okq (⟨"SmokeWord$ValleyReader", "readHead", "()Z"⟩, 2) := ⟨⟨by decide +kernel, by decide +kernel⟩, List.mem_of_getElem? (i := 229) (by decide +kernel), List.mem_of_getElem? (i := 614) (by decide +kernel), List.mem_of_getElem? (i := 615) (by decide +kernel)⟩
theorem lw_p9 : lw_okq (⟨"SmokeWord$ValleyReader", "readRoad", "()Z"⟩, 2) := ⟨⟨by decide +kernel, by decide +kernel⟩, List.mem_of_getElem? (i := 229) (by decide +kernel), List.mem_of_getElem? (i := 618) (by decide +kernel), List.mem_of_getElem? (i := 619) (by decide +kernel)⟩
theorem lw_p10 : lw_okq (⟨"SmokeWord$ValleyReader", "readBeside", "()Z"⟩, 2) := ⟨⟨by decide +kernel, by decide +kernel⟩, List.mem_of_getElem? (i := 229) (by decide +kernel), List.mem_of_getElem? (i := 626) (by decide +kernel), List.mem_of_getElem? (i := 627) (by decide +kernel)⟩
theorem lw_p11 : lw_okq (⟨"SmokeWord$Valley", "shorten", "(III)V"⟩, 9) := ⟨⟨by decide +kernel, by decide +kernel⟩, List.mem_of_getElem? (i := 71) (by decide +kernel), List.mem_of_getElem? (i := 638) (by decide +kernel), List.mem_of_getElem? (i := 639) (by decide +kernel)⟩
theorem lw_p12 : lw_okq (⟨"SmokeWord$RuleReader", "readGo", "(I)Z"⟩, 6) := ⟨⟨by decide +kernel, by decide +kernel⟩, List.mem_of_getElem? (i := 245) (by decide +kernel), List.mem_of_getElem? (i := 663) (by decide +kernel), List.mem_of_getElem? (i := 664) (by decide +kernel)⟩
theorem lw_p13 : lw_okq (⟨"SmokeWord$RuleReader", "readSum", "()Z"⟩, 6) := ⟨⟨by decide +kernel, by decide +kernel⟩, List.mem_of_getElem? (i := 245) (by decide +kernel), List.mem_of_getElem? (i := 670) (by decide +kernel), List.mem_of_getElem? (i := 671) (by decide +kernel)⟩
theorem lw_p14 : lw_okq (⟨"SmokeWord$RuleReader", "readValue", "()Z"⟩, 6) := ⟨⟨by decide +kernel, by decide +kernel⟩, List.mem_of_getElem? (i := 245) (by decide +kernel), List.mem_of_getElem? (i := 674) (by decide +kernel), List.mem_of_getElem? (i := 675) (by decide +kernel)⟩
theorem lw_p15 : lw_okq (⟨"SmokeWord$RuleReader", "emit", "(I)V"⟩, 6) := ⟨⟨by decide +kernel, by decide +kernel⟩, List.mem_of_getElem? (i := 245) (by decide +kernel), List.mem_of_getElem? (i := 679) (by decide +kernel), List.mem_of_getElem? (i := 680) (by decide +kernel)⟩
def lw_privs_1 : List (MethodName × Nat) := [(⟨"SmokeWord$Tape", "scanToken", "(II)I"⟩, 7), (⟨"SmokeWord$Tape", "byteAt", "(I)I"⟩, 7), (⟨"SmokeWord$Tape", "scanNumber", "(II)I"⟩, 7), (⟨"SmokeWord$Tape", "wordFrom", "(II)I"⟩, 7), (⟨"SmokeWord$Tape", "is", "(IILjava/lang/String;)Z"⟩, 7), (⟨"SmokeWord$Tape", "otherWordFrom", "(II)I"⟩, 7), (⟨"SmokeWord$ValleyReader", "readClause", "(I)Z"⟩, 2), (⟨"SmokeWord$ValleyReader", "readHouse", "()Z"⟩, 2), (⟨"SmokeWord$ValleyReader", "readHead", "()Z"⟩, 2), (⟨"SmokeWord$ValleyReader", "readRoad", "()Z"⟩, 2), (⟨"SmokeWord$ValleyReader", "readBeside", "()Z"⟩, 2), (⟨"SmokeWord$Valley", "shorten", "(III)V"⟩, 9), (⟨"SmokeWord$RuleReader", "readGo", "(I)Z"⟩, 6), (⟨"SmokeWord$RuleReader", "readSum", "()Z"⟩, 6), (⟨"SmokeWord$RuleReader", "readValue", "()Z"⟩, 6), (⟨"SmokeWord$RuleReader", "emit", "(I)V"⟩, 6)]
theorem lw_r1 : ∀ q ∈ lw_privs_1, lw_okq q := List.forall_mem_cons.mpr ⟨lw_p0, List.forall_mem_cons.mpr ⟨lw_p1, List.forall_mem_cons.mpr ⟨lw_p2, List.forall_mem_cons.mpr ⟨lw_p3, List.forall_mem_cons.mpr ⟨lw_p4, List.forall_mem_cons.mpr ⟨lw_p5, List.forall_mem_cons.mpr ⟨lw_p6, List.forall_mem_cons.mpr ⟨lw_p7, List.forall_mem_cons.mpr ⟨lw_p8, List.forall_mem_cons.mpr ⟨lw_p9, List.forall_mem_cons.mpr ⟨lw_p10, List.forall_mem_cons.mpr ⟨lw_p11, List.forall_mem_cons.mpr ⟨lw_p12, List.forall_mem_cons.mpr ⟨lw_p13, List.forall_mem_cons.mpr ⟨lw_p14, List.forall_mem_cons.mpr ⟨lw_p15, fun _ h => absurd h List.not_mem_nil⟩⟩⟩⟩⟩⟩⟩⟩⟩⟩⟩⟩⟩⟩⟩⟩
theorem lw_p16 : lw_okq (⟨"SmokeWord$RuleReader", "passIf", "()Z"⟩, 6) := ⟨⟨by decide +kernel, by decide +kernel⟩, List.mem_of_getElem? (i := 245) (by decide +kernel), List.mem_of_getElem? (i := 686) (by decide +kernel), List.mem_of_getElem? (i := 687) (by decide +kernel)⟩
theorem lw_p17 : lw_okq (⟨"SmokeWord$RuleReader", "readTest", "(I)Z"⟩, 6) := ⟨⟨by decide +kernel, by decide +kernel⟩, List.mem_of_getElem? (i := 245) (by decide +kernel), List.mem_of_getElem? (i := 690) (by decide +kernel), List.mem_of_getElem? (i := 691) (by decide +kernel)⟩
theorem lw_p18 : lw_okq (⟨"SmokeWord$RuleReader", "readFact", "(I)Z"⟩, 6) := ⟨⟨by decide +kernel, by decide +kernel⟩, List.mem_of_getElem? (i := 245) (by decide +kernel), List.mem_of_getElem? (i := 694) (by decide +kernel), List.mem_of_getElem? (i := 695) (by decide +kernel)⟩
theorem lw_p19 : lw_okq (⟨"SmokeWord$RuleReader", "readComparison", "()Z"⟩, 6) := ⟨⟨by decide +kernel, by decide +kernel⟩, List.mem_of_getElem? (i := 245) (by decide +kernel), List.mem_of_getElem? (i := 698) (by decide +kernel), List.mem_of_getElem? (i := 699) (by decide +kernel)⟩
theorem lw_p20 : lw_okq (⟨"SmokeWord", "isHouse", "(I)Z"⟩, 14) := ⟨⟨by decide +kernel, by decide +kernel⟩, List.mem_of_getElem? (i := 23) (by decide +kernel), List.mem_of_getElem? (i := 750) (by decide +kernel), List.mem_of_getElem? (i := 751) (by decide +kernel)⟩
theorem lw_p21 : lw_okq (⟨"SmokeWord", "isPlace", "(I)Z"⟩, 14) := ⟨⟨by decide +kernel, by decide +kernel⟩, List.mem_of_getElem? (i := 23) (by decide +kernel), List.mem_of_getElem? (i := 758) (by decide +kernel), List.mem_of_getElem? (i := 759) (by decide +kernel)⟩
theorem lw_p22 : lw_okq (⟨"SmokeWord", "keepAct", "()V"⟩, 14) := ⟨⟨by decide +kernel, by decide +kernel⟩, List.mem_of_getElem? (i := 23) (by decide +kernel), List.mem_of_getElem? (i := 766) (by decide +kernel), List.mem_of_getElem? (i := 767) (by decide +kernel)⟩
theorem lw_p23 : lw_okq (⟨"SmokeWord$Course", "chooseRule", "(I)V"⟩, 11) := ⟨⟨by decide +kernel, by decide +kernel⟩, List.mem_of_getElem? (i := 270) (by decide +kernel), List.mem_of_getElem? (i := 779) (by decide +kernel), List.mem_of_getElem? (i := 780) (by decide +kernel)⟩
theorem lw_p24 : lw_okq (⟨"SmokeWord$Course", "choose", "()V"⟩, 11) := ⟨⟨by decide +kernel, by decide +kernel⟩, List.mem_of_getElem? (i := 270) (by decide +kernel), List.mem_of_getElem? (i := 791) (by decide +kernel), List.mem_of_getElem? (i := 792) (by decide +kernel)⟩
theorem lw_p25 : lw_okq (⟨"SmokeWord$Course", "smokeOf", "(I)I"⟩, 11) := ⟨⟨by decide +kernel, by decide +kernel⟩, List.mem_of_getElem? (i := 270) (by decide +kernel), List.mem_of_getElem? (i := 809) (by decide +kernel), List.mem_of_getElem? (i := 810) (by decide +kernel)⟩
theorem lw_p26 : lw_okq (⟨"SmokeWord$Course", "weigh", "(I)J"⟩, 11) := ⟨⟨by decide +kernel, by decide +kernel⟩, List.mem_of_getElem? (i := 270) (by decide +kernel), List.mem_of_getElem? (i := 813) (by decide +kernel), List.mem_of_getElem? (i := 814) (by decide +kernel)⟩
theorem lw_p27 : lw_okq (⟨"SmokeWord$Course", "work", "(III)J"⟩, 11) := ⟨⟨by decide +kernel, by decide +kernel⟩, List.mem_of_getElem? (i := 270) (by decide +kernel), List.mem_of_getElem? (i := 817) (by decide +kernel), List.mem_of_getElem? (i := 818) (by decide +kernel)⟩
theorem lw_p28 : lw_okq (⟨"SmokeWord$Course", "wordOf", "(II)I"⟩, 11) := ⟨⟨by decide +kernel, by decide +kernel⟩, List.mem_of_getElem? (i := 270) (by decide +kernel), List.mem_of_getElem? (i := 821) (by decide +kernel), List.mem_of_getElem? (i := 822) (by decide +kernel)⟩
theorem lw_p29 : lw_okq (⟨"SmokeWord$Course", "travel", "()V"⟩, 11) := ⟨⟨by decide +kernel, by decide +kernel⟩, List.mem_of_getElem? (i := 270) (by decide +kernel), List.mem_of_getElem? (i := 840) (by decide +kernel), List.mem_of_getElem? (i := 841) (by decide +kernel)⟩
theorem lw_p30 : lw_okq (⟨"SmokeWord$Course", "pour", "()V"⟩, 11) := ⟨⟨by decide +kernel, by decide +kernel⟩, List.mem_of_getElem? (i := 270) (by decide +kernel), List.mem_of_getElem? (i := 844) (by decide +kernel), List.mem_of_getElem? (i := 845) (by decide +kernel)⟩
theorem lw_p31 : lw_okq (⟨"SmokeWord$Course", "burn", "()I"⟩, 11) := ⟨⟨by decide +kernel, by decide +kernel⟩, List.mem_of_getElem? (i := 270) (by decide +kernel), List.mem_of_getElem? (i := 851) (by decide +kernel), List.mem_of_getElem? (i := 852) (by decide +kernel)⟩
def lw_privs_2 : List (MethodName × Nat) := [(⟨"SmokeWord$RuleReader", "passIf", "()Z"⟩, 6), (⟨"SmokeWord$RuleReader", "readTest", "(I)Z"⟩, 6), (⟨"SmokeWord$RuleReader", "readFact", "(I)Z"⟩, 6), (⟨"SmokeWord$RuleReader", "readComparison", "()Z"⟩, 6), (⟨"SmokeWord", "isHouse", "(I)Z"⟩, 14), (⟨"SmokeWord", "isPlace", "(I)Z"⟩, 14), (⟨"SmokeWord", "keepAct", "()V"⟩, 14), (⟨"SmokeWord$Course", "chooseRule", "(I)V"⟩, 11), (⟨"SmokeWord$Course", "choose", "()V"⟩, 11), (⟨"SmokeWord$Course", "smokeOf", "(I)I"⟩, 11), (⟨"SmokeWord$Course", "weigh", "(I)J"⟩, 11), (⟨"SmokeWord$Course", "work", "(III)J"⟩, 11), (⟨"SmokeWord$Course", "wordOf", "(II)I"⟩, 11), (⟨"SmokeWord$Course", "travel", "()V"⟩, 11), (⟨"SmokeWord$Course", "pour", "()V"⟩, 11), (⟨"SmokeWord$Course", "burn", "()I"⟩, 11)]
theorem lw_r2 : ∀ q ∈ lw_privs_2, lw_okq q := List.forall_mem_cons.mpr ⟨lw_p16, List.forall_mem_cons.mpr ⟨lw_p17, List.forall_mem_cons.mpr ⟨lw_p18, List.forall_mem_cons.mpr ⟨lw_p19, List.forall_mem_cons.mpr ⟨lw_p20, List.forall_mem_cons.mpr ⟨lw_p21, List.forall_mem_cons.mpr ⟨lw_p22, List.forall_mem_cons.mpr ⟨lw_p23, List.forall_mem_cons.mpr ⟨lw_p24, List.forall_mem_cons.mpr ⟨lw_p25, List.forall_mem_cons.mpr ⟨lw_p26, List.forall_mem_cons.mpr ⟨lw_p27, List.forall_mem_cons.mpr ⟨lw_p28, List.forall_mem_cons.mpr ⟨lw_p29, List.forall_mem_cons.mpr ⟨lw_p30, List.forall_mem_cons.mpr ⟨lw_p31, fun _ h => absurd h List.not_mem_nil⟩⟩⟩⟩⟩⟩⟩⟩⟩⟩⟩⟩⟩⟩⟩⟩
theorem lw_p32 : lw_okq (⟨"SmokeWord$Course", "spread", "()V"⟩, 11) := ⟨⟨by decide +kernel, by decide +kernel⟩, List.mem_of_getElem? (i := 270) (by decide +kernel), List.mem_of_getElem? (i := 856) (by decide +kernel), List.mem_of_getElem? (i := 857) (by decide +kernel)⟩
theorem lw_p33 : lw_okq (⟨"SmokeWord", "isAsked", "(III)Z"⟩, 14) := ⟨⟨by decide +kernel, by decide +kernel⟩, List.mem_of_getElem? (i := 23) (by decide +kernel), List.mem_of_getElem? (i := 890) (by decide +kernel), List.mem_of_getElem? (i := 891) (by decide +kernel)⟩
theorem lw_p34 : lw_okq (⟨"SmokeWord$Orders", "passUntilFree", "()V"⟩, 7) := ⟨⟨by decide +kernel, by decide +kernel⟩, List.mem_of_getElem? (i := 345) (by decide +kernel), List.mem_of_getElem? (i := 941) (by decide +kernel), List.mem_of_getElem? (i := 942) (by decide +kernel)⟩
theorem lw_p35 : lw_okq (⟨"SmokeWord$Orders", "tryRows", "(II)V"⟩, 7) := ⟨⟨by decide +kernel, by decide +kernel⟩, List.mem_of_getElem? (i := 345) (by decide +kernel), List.mem_of_getElem? (i := 948) (by decide +kernel), List.mem_of_getElem? (i := 949) (by decide +kernel)⟩
theorem lw_p36 : lw_okq (⟨"SmokeWord$Orders", "passAll", "()V"⟩, 7) := ⟨⟨by decide +kernel, by decide +kernel⟩, List.mem_of_getElem? (i := 345) (by decide +kernel), List.mem_of_getElem? (i := 953) (by decide +kernel), List.mem_of_getElem? (i := 954) (by decide +kernel)⟩
theorem lw_p37 : lw_okq (⟨"SmokeWord$Orders", "keep", "(II)V"⟩, 7) := ⟨⟨by decide +kernel, by decide +kernel⟩, List.mem_of_getElem? (i := 345) (by decide +kernel), List.mem_of_getElem? (i := 957) (by decide +kernel), List.mem_of_getElem? (i := 958) (by decide +kernel)⟩
theorem lw_p38 : lw_okq (⟨"SmokeWord$Asker", "comesTo", "(I)Z"⟩, 6) := ⟨⟨by decide +kernel, by decide +kernel⟩, List.mem_of_getElem? (i := 319) (by decide +kernel), List.mem_of_getElem? (i := 973) (by decide +kernel), List.mem_of_getElem? (i := 974) (by decide +kernel)⟩
theorem lw_p39 : lw_okq (⟨"SmokeWord$Asker", "allKeepWorth", "()Z"⟩, 6) := ⟨⟨by decide +kernel, by decide +kernel⟩, List.mem_of_getElem? (i := 319) (by decide +kernel), List.mem_of_getElem? (i := 986) (by decide +kernel), List.mem_of_getElem? (i := 987) (by decide +kernel)⟩
theorem lw_p40 : lw_okq (⟨"SmokeWord$Asker", "hush", "(I)Z"⟩, 6) := ⟨⟨by decide +kernel, by decide +kernel⟩, List.mem_of_getElem? (i := 319) (by decide +kernel), List.mem_of_getElem? (i := 1006) (by decide +kernel), List.mem_of_getElem? (i := 1007) (by decide +kernel)⟩
theorem lw_p41 : lw_okq (⟨"SmokeWord$Asker", "lostOf", "(I)I"⟩, 6) := ⟨⟨by decide +kernel, by decide +kernel⟩, List.mem_of_getElem? (i := 319) (by decide +kernel), List.mem_of_getElem? (i := 1019) (by decide +kernel), List.mem_of_getElem? (i := 1020) (by decide +kernel)⟩
theorem lw_p42 : lw_okq (⟨"SmokeWord$Asker", "isRest", "(I)Z"⟩, 6) := ⟨⟨by decide +kernel, by decide +kernel⟩, List.mem_of_getElem? (i := 319) (by decide +kernel), List.mem_of_getElem? (i := 1031) (by decide +kernel), List.mem_of_getElem? (i := 1032) (by decide +kernel)⟩
theorem lw_p43 : lw_okq (⟨"SmokeWord$Looker", "trace", "(I)V"⟩, 10) := ⟨⟨by decide +kernel, by decide +kernel⟩, List.mem_of_getElem? (i := 378) (by decide +kernel), List.mem_of_getElem? (i := 1055) (by decide +kernel), List.mem_of_getElem? (i := 1056) (by decide +kernel)⟩
theorem lw_p44 : lw_okq (⟨"SmokeWord$Looker", "agrees", "(I)Z"⟩, 10) := ⟨⟨by decide +kernel, by decide +kernel⟩, List.mem_of_getElem? (i := 378) (by decide +kernel), List.mem_of_getElem? (i := 1065) (by decide +kernel), List.mem_of_getElem? (i := 1066) (by decide +kernel)⟩
theorem lw_p45 : lw_okq (⟨"SmokeWord$Looker", "mostAlike", "(I)I"⟩, 10) := ⟨⟨by decide +kernel, by decide +kernel⟩, List.mem_of_getElem? (i := 378) (by decide +kernel), List.mem_of_getElem? (i := 1077) (by decide +kernel), List.mem_of_getElem? (i := 1078) (by decide +kernel)⟩
theorem lw_p46 : lw_okq (⟨"SmokeWord$Asker", "spark", "(I)V"⟩, 6) := ⟨⟨by decide +kernel, by decide +kernel⟩, List.mem_of_getElem? (i := 319) (by decide +kernel), List.mem_of_getElem? (i := 1101) (by decide +kernel), List.mem_of_getElem? (i := 1102) (by decide +kernel)⟩
theorem lw_p47 : lw_okq (⟨"SmokeWordModel", "four", "(I)V"⟩, 43) := ⟨⟨by decide +kernel, by decide +kernel⟩, List.mem_of_getElem? (i := 1132) (by decide +kernel), List.mem_of_getElem? (i := 1273) (by decide +kernel), List.mem_of_getElem? (i := 1274) (by decide +kernel)⟩
def lw_privs_3 : List (MethodName × Nat) := [(⟨"SmokeWord$Course", "spread", "()V"⟩, 11), (⟨"SmokeWord", "isAsked", "(III)Z"⟩, 14), (⟨"SmokeWord$Orders", "passUntilFree", "()V"⟩, 7), (⟨"SmokeWord$Orders", "tryRows", "(II)V"⟩, 7), (⟨"SmokeWord$Orders", "passAll", "()V"⟩, 7), (⟨"SmokeWord$Orders", "keep", "(II)V"⟩, 7), (⟨"SmokeWord$Asker", "comesTo", "(I)Z"⟩, 6), (⟨"SmokeWord$Asker", "allKeepWorth", "()Z"⟩, 6), (⟨"SmokeWord$Asker", "hush", "(I)Z"⟩, 6), (⟨"SmokeWord$Asker", "lostOf", "(I)I"⟩, 6), (⟨"SmokeWord$Asker", "isRest", "(I)Z"⟩, 6), (⟨"SmokeWord$Looker", "trace", "(I)V"⟩, 10), (⟨"SmokeWord$Looker", "agrees", "(I)Z"⟩, 10), (⟨"SmokeWord$Looker", "mostAlike", "(I)I"⟩, 10), (⟨"SmokeWord$Asker", "spark", "(I)V"⟩, 6), (⟨"SmokeWordModel", "four", "(I)V"⟩, 43)]
theorem lw_r3 : ∀ q ∈ lw_privs_3, lw_okq q := List.forall_mem_cons.mpr ⟨lw_p32, List.forall_mem_cons.mpr ⟨lw_p33, List.forall_mem_cons.mpr ⟨lw_p34, List.forall_mem_cons.mpr ⟨lw_p35, List.forall_mem_cons.mpr ⟨lw_p36, List.forall_mem_cons.mpr ⟨lw_p37, List.forall_mem_cons.mpr ⟨lw_p38, List.forall_mem_cons.mpr ⟨lw_p39, List.forall_mem_cons.mpr ⟨lw_p40, List.forall_mem_cons.mpr ⟨lw_p41, List.forall_mem_cons.mpr ⟨lw_p42, List.forall_mem_cons.mpr ⟨lw_p43, List.forall_mem_cons.mpr ⟨lw_p44, List.forall_mem_cons.mpr ⟨lw_p45, List.forall_mem_cons.mpr ⟨lw_p46, List.forall_mem_cons.mpr ⟨lw_p47, fun _ h => absurd h List.not_mem_nil⟩⟩⟩⟩⟩⟩⟩⟩⟩⟩⟩⟩⟩⟩⟩⟩
theorem lw_p48 : lw_okq (⟨"SmokeWordModel", "readsAll", "()Z"⟩, 43) := ⟨⟨by decide +kernel, by decide +kernel⟩, List.mem_of_getElem? (i := 1132) (by decide +kernel), List.mem_of_getElem? (i := 1285) (by decide +kernel), List.mem_of_getElem? (i := 1286) (by decide +kernel)⟩
theorem lw_p49 : lw_okq (⟨"SmokeWordModel", "clauseHere", "()Z"⟩, 43) := ⟨⟨by decide +kernel, by decide +kernel⟩, List.mem_of_getElem? (i := 1132) (by decide +kernel), List.mem_of_getElem? (i := 1289) (by decide +kernel), List.mem_of_getElem? (i := 1290) (by decide +kernel)⟩
theorem lw_p50 : lw_okq (⟨"SmokeWordModel", "see", "()I"⟩, 43) := ⟨⟨by decide +kernel, by decide +kernel⟩, List.mem_of_getElem? (i := 1132) (by decide +kernel), List.mem_of_getElem? (i := 1293) (by decide +kernel), List.mem_of_getElem? (i := 1294) (by decide +kernel)⟩
theorem lw_p51 : lw_okq (⟨"SmokeWordModel", "isValleyWord", "()Z"⟩, 43) := ⟨⟨by decide +kernel, by decide +kernel⟩, List.mem_of_getElem? (i := 1132) (by decide +kernel), List.mem_of_getElem? (i := 1297) (by decide +kernel), List.mem_of_getElem? (i := 1298) (by decide +kernel)⟩
theorem lw_p52 : lw_okq (⟨"SmokeWordModel", "isWord", "(J)Z"⟩, 43) := ⟨⟨by decide +kernel, by decide +kernel⟩, List.mem_of_getElem? (i := 1132) (by decide +kernel), List.mem_of_getElem? (i := 1302) (by decide +kernel), List.mem_of_getElem? (i := 1303) (by decide +kernel)⟩
theorem lw_p53 : lw_okq (⟨"SmokeWordModel", "isLetter", "(I)Z"⟩, 43) := ⟨⟨by decide +kernel, by decide +kernel⟩, List.mem_of_getElem? (i := 1132) (by decide +kernel), List.mem_of_getElem? (i := 1306) (by decide +kernel), List.mem_of_getElem? (i := 1307) (by decide +kernel)⟩
theorem lw_p54 : lw_okq (⟨"SmokeWordModel", "fails", "(II)Z"⟩, 43) := ⟨⟨by decide +kernel, by decide +kernel⟩, List.mem_of_getElem? (i := 1132) (by decide +kernel), List.mem_of_getElem? (i := 1314) (by decide +kernel), List.mem_of_getElem? (i := 1315) (by decide +kernel)⟩
theorem lw_p55 : lw_okq (⟨"SmokeWordModel", "valleyLineHere", "(I)Z"⟩, 43) := ⟨⟨by decide +kernel, by decide +kernel⟩, List.mem_of_getElem? (i := 1132) (by decide +kernel), List.mem_of_getElem? (i := 1318) (by decide +kernel), List.mem_of_getElem? (i := 1319) (by decide +kernel)⟩
theorem lw_p56 : lw_okq (⟨"SmokeWordModel", "isValleyHere", "(I)Z"⟩, 43) := ⟨⟨by decide +kernel, by decide +kernel⟩, List.mem_of_getElem? (i := 1132) (by decide +kernel), List.mem_of_getElem? (i := 1322) (by decide +kernel), List.mem_of_getElem? (i := 1323) (by decide +kernel)⟩
theorem lw_p57 : lw_okq (⟨"SmokeWordModel", "passWord", "()V"⟩, 43) := ⟨⟨by decide +kernel, by decide +kernel⟩, List.mem_of_getElem? (i := 1132) (by decide +kernel), List.mem_of_getElem? (i := 1326) (by decide +kernel), List.mem_of_getElem? (i := 1327) (by decide +kernel)⟩
theorem lw_p58 : lw_okq (⟨"SmokeWordModel", "cellHere", "(III)Z"⟩, 43) := ⟨⟨by decide +kernel, by decide +kernel⟩, List.mem_of_getElem? (i := 1132) (by decide +kernel), List.mem_of_getElem? (i := 1330) (by decide +kernel), List.mem_of_getElem? (i := 1331) (by decide +kernel)⟩
theorem lw_p59 : lw_okq (⟨"SmokeWordModel", "numberHere", "(II)Z"⟩, 43) := ⟨⟨by decide +kernel, by decide +kernel⟩, List.mem_of_getElem? (i := 1132) (by decide +kernel), List.mem_of_getElem? (i := 1334) (by decide +kernel), List.mem_of_getElem? (i := 1335) (by decide +kernel)⟩
theorem lw_p60 : lw_okq (⟨"SmokeWordModel", "isDigit", "(I)Z"⟩, 43) := ⟨⟨by decide +kernel, by decide +kernel⟩, List.mem_of_getElem? (i := 1132) (by decide +kernel), List.mem_of_getElem? (i := 1338) (by decide +kernel), List.mem_of_getElem? (i := 1339) (by decide +kernel)⟩
theorem lw_p61 : lw_okq (⟨"SmokeWordModel", "isHouseHere", "(I)Z"⟩, 43) := ⟨⟨by decide +kernel, by decide +kernel⟩, List.mem_of_getElem? (i := 1132) (by decide +kernel), List.mem_of_getElem? (i := 1345) (by decide +kernel), List.mem_of_getElem? (i := 1346) (by decide +kernel)⟩
theorem lw_p62 : lw_okq (⟨"SmokeWordModel", "isRoadHere", "()Z"⟩, 43) := ⟨⟨by decide +kernel, by decide +kernel⟩, List.mem_of_getElem? (i := 1132) (by decide +kernel), List.mem_of_getElem? (i := 1349) (by decide +kernel), List.mem_of_getElem? (i := 1350) (by decide +kernel)⟩
theorem lw_p63 : lw_okq (⟨"SmokeWordModel", "areTwoHere", "(I)Z"⟩, 43) := ⟨⟨by decide +kernel, by decide +kernel⟩, List.mem_of_getElem? (i := 1132) (by decide +kernel), List.mem_of_getElem? (i := 1353) (by decide +kernel), List.mem_of_getElem? (i := 1354) (by decide +kernel)⟩
def lw_privs_4 : List (MethodName × Nat) := [(⟨"SmokeWordModel", "readsAll", "()Z"⟩, 43), (⟨"SmokeWordModel", "clauseHere", "()Z"⟩, 43), (⟨"SmokeWordModel", "see", "()I"⟩, 43), (⟨"SmokeWordModel", "isValleyWord", "()Z"⟩, 43), (⟨"SmokeWordModel", "isWord", "(J)Z"⟩, 43), (⟨"SmokeWordModel", "isLetter", "(I)Z"⟩, 43), (⟨"SmokeWordModel", "fails", "(II)Z"⟩, 43), (⟨"SmokeWordModel", "valleyLineHere", "(I)Z"⟩, 43), (⟨"SmokeWordModel", "isValleyHere", "(I)Z"⟩, 43), (⟨"SmokeWordModel", "passWord", "()V"⟩, 43), (⟨"SmokeWordModel", "cellHere", "(III)Z"⟩, 43), (⟨"SmokeWordModel", "numberHere", "(II)Z"⟩, 43), (⟨"SmokeWordModel", "isDigit", "(I)Z"⟩, 43), (⟨"SmokeWordModel", "isHouseHere", "(I)Z"⟩, 43), (⟨"SmokeWordModel", "isRoadHere", "()Z"⟩, 43), (⟨"SmokeWordModel", "areTwoHere", "(I)Z"⟩, 43)]
theorem lw_r4 : ∀ q ∈ lw_privs_4, lw_okq q := List.forall_mem_cons.mpr ⟨lw_p48, List.forall_mem_cons.mpr ⟨lw_p49, List.forall_mem_cons.mpr ⟨lw_p50, List.forall_mem_cons.mpr ⟨lw_p51, List.forall_mem_cons.mpr ⟨lw_p52, List.forall_mem_cons.mpr ⟨lw_p53, List.forall_mem_cons.mpr ⟨lw_p54, List.forall_mem_cons.mpr ⟨lw_p55, List.forall_mem_cons.mpr ⟨lw_p56, List.forall_mem_cons.mpr ⟨lw_p57, List.forall_mem_cons.mpr ⟨lw_p58, List.forall_mem_cons.mpr ⟨lw_p59, List.forall_mem_cons.mpr ⟨lw_p60, List.forall_mem_cons.mpr ⟨lw_p61, List.forall_mem_cons.mpr ⟨lw_p62, List.forall_mem_cons.mpr ⟨lw_p63, fun _ h => absurd h List.not_mem_nil⟩⟩⟩⟩⟩⟩⟩⟩⟩⟩⟩⟩⟩⟩⟩⟩
theorem lw_p64 : lw_okq (⟨"SmokeWordModel", "isBesideHere", "()Z"⟩, 43) := ⟨⟨by decide +kernel, by decide +kernel⟩, List.mem_of_getElem? (i := 1132) (by decide +kernel), List.mem_of_getElem? (i := 1357) (by decide +kernel), List.mem_of_getElem? (i := 1358) (by decide +kernel)⟩
theorem lw_p65 : lw_okq (⟨"SmokeWordModel", "isGoHere", "()Z"⟩, 43) := ⟨⟨by decide +kernel, by decide +kernel⟩, List.mem_of_getElem? (i := 1132) (by decide +kernel), List.mem_of_getElem? (i := 1361) (by decide +kernel), List.mem_of_getElem? (i := 1362) (by decide +kernel)⟩
theorem lw_p66 : lw_okq (⟨"SmokeWordModel", "sum", "()Z"⟩, 43) := ⟨⟨by decide +kernel, by decide +kernel⟩, List.mem_of_getElem? (i := 1132) (by decide +kernel), List.mem_of_getElem? (i := 1365) (by decide +kernel), List.mem_of_getElem? (i := 1366) (by decide +kernel)⟩
theorem lw_p67 : lw_okq (⟨"SmokeWordModel", "term", "()Z"⟩, 43) := ⟨⟨by decide +kernel, by decide +kernel⟩, List.mem_of_getElem? (i := 1132) (by decide +kernel), List.mem_of_getElem? (i := 1369) (by decide +kernel), List.mem_of_getElem? (i := 1370) (by decide +kernel)⟩
theorem lw_p68 : lw_okq (⟨"SmokeWordModel", "value", "()Z"⟩, 43) := ⟨⟨by decide +kernel, by decide +kernel⟩, List.mem_of_getElem? (i := 1132) (by decide +kernel), List.mem_of_getElem? (i := 1373) (by decide +kernel), List.mem_of_getElem? (i := 1374) (by decide +kernel)⟩
theorem lw_p69 : lw_okq (⟨"SmokeWordModel", "makes", "(I)Z"⟩, 43) := ⟨⟨by decide +kernel, by decide +kernel⟩, List.mem_of_getElem? (i := 1132) (by decide +kernel), List.mem_of_getElem? (i := 1378) (by decide +kernel), List.mem_of_getElem? (i := 1379) (by decide +kernel)⟩
theorem lw_p70 : lw_okq (⟨"SmokeWordModel", "puts", "(II)V"⟩, 43) := ⟨⟨by decide +kernel, by decide +kernel⟩, List.mem_of_getElem? (i := 1132) (by decide +kernel), List.mem_of_getElem? (i := 1382) (by decide +kernel), List.mem_of_getElem? (i := 1383) (by decide +kernel)⟩
theorem lw_p71 : lw_okq (⟨"SmokeWordModel", "wordHere", "()I"⟩, 43) := ⟨⟨by decide +kernel, by decide +kernel⟩, List.mem_of_getElem? (i := 1132) (by decide +kernel), List.mem_of_getElem? (i := 1386) (by decide +kernel), List.mem_of_getElem? (i := 1387) (by decide +kernel)⟩
theorem lw_p72 : lw_okq (⟨"SmokeWordModel", "takesWord", "(J)Z"⟩, 43) := ⟨⟨by decide +kernel, by decide +kernel⟩, List.mem_of_getElem? (i := 1132) (by decide +kernel), List.mem_of_getElem? (i := 1401) (by decide +kernel), List.mem_of_getElem? (i := 1402) (by decide +kernel)⟩
theorem lw_p73 : lw_okq (⟨"SmokeWordModel", "tested", "()Z"⟩, 43) := ⟨⟨by decide +kernel, by decide +kernel⟩, List.mem_of_getElem? (i := 1132) (by decide +kernel), List.mem_of_getElem? (i := 1405) (by decide +kernel), List.mem_of_getElem? (i := 1406) (by decide +kernel)⟩
theorem lw_p74 : lw_okq (⟨"SmokeWordModel", "fact", "()Z"⟩, 43) := ⟨⟨by decide +kernel, by decide +kernel⟩, List.mem_of_getElem? (i := 1132) (by decide +kernel), List.mem_of_getElem? (i := 1409) (by decide +kernel), List.mem_of_getElem? (i := 1410) (by decide +kernel)⟩
theorem lw_p75 : lw_okq (⟨"SmokeWordModel", "opens", "(I)Z"⟩, 43) := ⟨⟨by decide +kernel, by decide +kernel⟩, List.mem_of_getElem? (i := 1132) (by decide +kernel), List.mem_of_getElem? (i := 1414) (by decide +kernel), List.mem_of_getElem? (i := 1415) (by decide +kernel)⟩
theorem lw_p76 : lw_okq (⟨"SmokeWordModel", "compare", "()Z"⟩, 43) := ⟨⟨by decide +kernel, by decide +kernel⟩, List.mem_of_getElem? (i := 1132) (by decide +kernel), List.mem_of_getElem? (i := 1418) (by decide +kernel), List.mem_of_getElem? (i := 1419) (by decide +kernel)⟩
theorem lw_p77 : lw_okq (⟨"SmokeWordModel", "closes", "()V"⟩, 43) := ⟨⟨by decide +kernel, by decide +kernel⟩, List.mem_of_getElem? (i := 1132) (by decide +kernel), List.mem_of_getElem? (i := 1422) (by decide +kernel), List.mem_of_getElem? (i := 1423) (by decide +kernel)⟩
theorem lw_p78 : lw_okq (⟨"SmokeWordModel", "layDown", "(I)V"⟩, 43) := ⟨⟨by decide +kernel, by decide +kernel⟩, List.mem_of_getElem? (i := 1132) (by decide +kernel), List.mem_of_getElem? (i := 1426) (by decide +kernel), List.mem_of_getElem? (i := 1427) (by decide +kernel)⟩
theorem lw_p79 : lw_okq (⟨"SmokeWordModel", "isInside", "()Z"⟩, 43) := ⟨⟨by decide +kernel, by decide +kernel⟩, List.mem_of_getElem? (i := 1132) (by decide +kernel), List.mem_of_getElem? (i := 1433) (by decide +kernel), List.mem_of_getElem? (i := 1434) (by decide +kernel)⟩
def lw_privs_5 : List (MethodName × Nat) := [(⟨"SmokeWordModel", "isBesideHere", "()Z"⟩, 43), (⟨"SmokeWordModel", "isGoHere", "()Z"⟩, 43), (⟨"SmokeWordModel", "sum", "()Z"⟩, 43), (⟨"SmokeWordModel", "term", "()Z"⟩, 43), (⟨"SmokeWordModel", "value", "()Z"⟩, 43), (⟨"SmokeWordModel", "makes", "(I)Z"⟩, 43), (⟨"SmokeWordModel", "puts", "(II)V"⟩, 43), (⟨"SmokeWordModel", "wordHere", "()I"⟩, 43), (⟨"SmokeWordModel", "takesWord", "(J)Z"⟩, 43), (⟨"SmokeWordModel", "tested", "()Z"⟩, 43), (⟨"SmokeWordModel", "fact", "()Z"⟩, 43), (⟨"SmokeWordModel", "opens", "(I)Z"⟩, 43), (⟨"SmokeWordModel", "compare", "()Z"⟩, 43), (⟨"SmokeWordModel", "closes", "()V"⟩, 43), (⟨"SmokeWordModel", "layDown", "(I)V"⟩, 43), (⟨"SmokeWordModel", "isInside", "()Z"⟩, 43)]
theorem lw_r5 : ∀ q ∈ lw_privs_5, lw_okq q := List.forall_mem_cons.mpr ⟨lw_p64, List.forall_mem_cons.mpr ⟨lw_p65, List.forall_mem_cons.mpr ⟨lw_p66, List.forall_mem_cons.mpr ⟨lw_p67, List.forall_mem_cons.mpr ⟨lw_p68, List.forall_mem_cons.mpr ⟨lw_p69, List.forall_mem_cons.mpr ⟨lw_p70, List.forall_mem_cons.mpr ⟨lw_p71, List.forall_mem_cons.mpr ⟨lw_p72, List.forall_mem_cons.mpr ⟨lw_p73, List.forall_mem_cons.mpr ⟨lw_p74, List.forall_mem_cons.mpr ⟨lw_p75, List.forall_mem_cons.mpr ⟨lw_p76, List.forall_mem_cons.mpr ⟨lw_p77, List.forall_mem_cons.mpr ⟨lw_p78, List.forall_mem_cons.mpr ⟨lw_p79, fun _ h => absurd h List.not_mem_nil⟩⟩⟩⟩⟩⟩⟩⟩⟩⟩⟩⟩⟩⟩⟩⟩
theorem lw_p80 : lw_okq (⟨"SmokeWordModel", "measures", "()V"⟩, 43) := ⟨⟨by decide +kernel, by decide +kernel⟩, List.mem_of_getElem? (i := 1132) (by decide +kernel), List.mem_of_getElem? (i := 1443) (by decide +kernel), List.mem_of_getElem? (i := 1444) (by decide +kernel)⟩
theorem lw_p81 : lw_okq (⟨"SmokeWordModel", "farOf", "(II)I"⟩, 43) := ⟨⟨by decide +kernel, by decide +kernel⟩, List.mem_of_getElem? (i := 1132) (by decide +kernel), List.mem_of_getElem? (i := 1447) (by decide +kernel), List.mem_of_getElem? (i := 1448) (by decide +kernel)⟩
theorem lw_p82 : lw_okq (⟨"SmokeWordModel", "begins", "()V"⟩, 43) := ⟨⟨by decide +kernel, by decide +kernel⟩, List.mem_of_getElem? (i := 1132) (by decide +kernel), List.mem_of_getElem? (i := 1451) (by decide +kernel), List.mem_of_getElem? (i := 1452) (by decide +kernel)⟩
theorem lw_p83 : lw_okq (⟨"SmokeWordModel", "isRule", "(I)Z"⟩, 43) := ⟨⟨by decide +kernel, by decide +kernel⟩, List.mem_of_getElem? (i := 1132) (by decide +kernel), List.mem_of_getElem? (i := 1459) (by decide +kernel), List.mem_of_getElem? (i := 1460) (by decide +kernel)⟩
theorem lw_p84 : lw_okq (⟨"SmokeWordModel", "isHouse", "(I)Z"⟩, 43) := ⟨⟨by decide +kernel, by decide +kernel⟩, List.mem_of_getElem? (i := 1132) (by decide +kernel), List.mem_of_getElem? (i := 1467) (by decide +kernel), List.mem_of_getElem? (i := 1468) (by decide +kernel)⟩
theorem lw_p85 : lw_okq (⟨"SmokeWordModel", "isPlace", "(I)Z"⟩, 43) := ⟨⟨by decide +kernel, by decide +kernel⟩, List.mem_of_getElem? (i := 1132) (by decide +kernel), List.mem_of_getElem? (i := 1475) (by decide +kernel), List.mem_of_getElem? (i := 1476) (by decide +kernel)⟩
theorem lw_p86 : lw_okq (⟨"SmokeWordModel", "isValley", "()Z"⟩, 43) := ⟨⟨by decide +kernel, by decide +kernel⟩, List.mem_of_getElem? (i := 1132) (by decide +kernel), List.mem_of_getElem? (i := 1479) (by decide +kernel), List.mem_of_getElem? (i := 1480) (by decide +kernel)⟩
theorem lw_p87 : lw_okq (⟨"SmokeWordModel", "keepsAct", "()V"⟩, 43) := ⟨⟨by decide +kernel, by decide +kernel⟩, List.mem_of_getElem? (i := 1132) (by decide +kernel), List.mem_of_getElem? (i := 1491) (by decide +kernel), List.mem_of_getElem? (i := 1492) (by decide +kernel)⟩
theorem lw_p88 : lw_okq (⟨"SmokeWordModel", "passes", "()I"⟩, 43) := ⟨⟨by decide +kernel, by decide +kernel⟩, List.mem_of_getElem? (i := 1132) (by decide +kernel), List.mem_of_getElem? (i := 1495) (by decide +kernel), List.mem_of_getElem? (i := 1496) (by decide +kernel)⟩
theorem lw_p89 : lw_okq (⟨"SmokeWordModel", "worthAll", "()I"⟩, 43) := ⟨⟨by decide +kernel, by decide +kernel⟩, List.mem_of_getElem? (i := 1132) (by decide +kernel), List.mem_of_getElem? (i := 1499) (by decide +kernel), List.mem_of_getElem? (i := 1500) (by decide +kernel)⟩
theorem lw_p90 : lw_okq (⟨"SmokeWordModel", "worthOf", "(I)I"⟩, 43) := ⟨⟨by decide +kernel, by decide +kernel⟩, List.mem_of_getElem? (i := 1132) (by decide +kernel), List.mem_of_getElem? (i := 1503) (by decide +kernel), List.mem_of_getElem? (i := 1504) (by decide +kernel)⟩
theorem lw_p91 : lw_okq (⟨"SmokeWordModel", "goes", "()V"⟩, 43) := ⟨⟨by decide +kernel, by decide +kernel⟩, List.mem_of_getElem? (i := 1132) (by decide +kernel), List.mem_of_getElem? (i := 1507) (by decide +kernel), List.mem_of_getElem? (i := 1508) (by decide +kernel)⟩
theorem lw_p92 : lw_okq (⟨"SmokeWordModel", "isOnItsWay", "()Z"⟩, 43) := ⟨⟨by decide +kernel, by decide +kernel⟩, List.mem_of_getElem? (i := 1132) (by decide +kernel), List.mem_of_getElem? (i := 1511) (by decide +kernel), List.mem_of_getElem? (i := 1512) (by decide +kernel)⟩
theorem lw_p93 : lw_okq (⟨"SmokeWordModel", "whereItIs", "()I"⟩, 43) := ⟨⟨by decide +kernel, by decide +kernel⟩, List.mem_of_getElem? (i := 1132) (by decide +kernel), List.mem_of_getElem? (i := 1515) (by decide +kernel), List.mem_of_getElem? (i := 1516) (by decide +kernel)⟩
theorem lw_p94 : lw_okq (⟨"SmokeWordModel", "heatOf", "(I)I"⟩, 43) := ⟨⟨by decide +kernel, by decide +kernel⟩, List.mem_of_getElem? (i := 1132) (by decide +kernel), List.mem_of_getElem? (i := 1519) (by decide +kernel), List.mem_of_getElem? (i := 1520) (by decide +kernel)⟩
theorem lw_p95 : lw_okq (⟨"SmokeWordModel", "choice", "()I"⟩, 43) := ⟨⟨by decide +kernel, by decide +kernel⟩, List.mem_of_getElem? (i := 1132) (by decide +kernel), List.mem_of_getElem? (i := 1523) (by decide +kernel), List.mem_of_getElem? (i := 1524) (by decide +kernel)⟩
def lw_privs_6 : List (MethodName × Nat) := [(⟨"SmokeWordModel", "measures", "()V"⟩, 43), (⟨"SmokeWordModel", "farOf", "(II)I"⟩, 43), (⟨"SmokeWordModel", "begins", "()V"⟩, 43), (⟨"SmokeWordModel", "isRule", "(I)Z"⟩, 43), (⟨"SmokeWordModel", "isHouse", "(I)Z"⟩, 43), (⟨"SmokeWordModel", "isPlace", "(I)Z"⟩, 43), (⟨"SmokeWordModel", "isValley", "()Z"⟩, 43), (⟨"SmokeWordModel", "keepsAct", "()V"⟩, 43), (⟨"SmokeWordModel", "passes", "()I"⟩, 43), (⟨"SmokeWordModel", "worthAll", "()I"⟩, 43), (⟨"SmokeWordModel", "worthOf", "(I)I"⟩, 43), (⟨"SmokeWordModel", "goes", "()V"⟩, 43), (⟨"SmokeWordModel", "isOnItsWay", "()Z"⟩, 43), (⟨"SmokeWordModel", "whereItIs", "()I"⟩, 43), (⟨"SmokeWordModel", "heatOf", "(I)I"⟩, 43), (⟨"SmokeWordModel", "choice", "()I"⟩, 43)]
theorem lw_r6 : ∀ q ∈ lw_privs_6, lw_okq q := List.forall_mem_cons.mpr ⟨lw_p80, List.forall_mem_cons.mpr ⟨lw_p81, List.forall_mem_cons.mpr ⟨lw_p82, List.forall_mem_cons.mpr ⟨lw_p83, List.forall_mem_cons.mpr ⟨lw_p84, List.forall_mem_cons.mpr ⟨lw_p85, List.forall_mem_cons.mpr ⟨lw_p86, List.forall_mem_cons.mpr ⟨lw_p87, List.forall_mem_cons.mpr ⟨lw_p88, List.forall_mem_cons.mpr ⟨lw_p89, List.forall_mem_cons.mpr ⟨lw_p90, List.forall_mem_cons.mpr ⟨lw_p91, List.forall_mem_cons.mpr ⟨lw_p92, List.forall_mem_cons.mpr ⟨lw_p93, List.forall_mem_cons.mpr ⟨lw_p94, List.forall_mem_cons.mpr ⟨lw_p95, fun _ h => absurd h List.not_mem_nil⟩⟩⟩⟩⟩⟩⟩⟩⟩⟩⟩⟩⟩⟩⟩⟩
theorem lw_p96 : lw_okq (⟨"SmokeWordModel", "sumOf", "(I)J"⟩, 43) := ⟨⟨by decide +kernel, by decide +kernel⟩, List.mem_of_getElem? (i := 1132) (by decide +kernel), List.mem_of_getElem? (i := 1527) (by decide +kernel), List.mem_of_getElem? (i := 1528) (by decide +kernel)⟩
theorem lw_p97 : lw_okq (⟨"SmokeWordModel", "saysOf", "(I)I"⟩, 43) := ⟨⟨by decide +kernel, by decide +kernel⟩, List.mem_of_getElem? (i := 1132) (by decide +kernel), List.mem_of_getElem? (i := 1531) (by decide +kernel), List.mem_of_getElem? (i := 1532) (by decide +kernel)⟩
theorem lw_p98 : lw_okq (⟨"SmokeWordModel", "fires", "()I"⟩, 43) := ⟨⟨by decide +kernel, by decide +kernel⟩, List.mem_of_getElem? (i := 1132) (by decide +kernel), List.mem_of_getElem? (i := 1535) (by decide +kernel), List.mem_of_getElem? (i := 1536) (by decide +kernel)⟩
theorem lw_p99 : lw_okq (⟨"SmokeWordModel", "lostAll", "()I"⟩, 43) := ⟨⟨by decide +kernel, by decide +kernel⟩, List.mem_of_getElem? (i := 1132) (by decide +kernel), List.mem_of_getElem? (i := 1542) (by decide +kernel), List.mem_of_getElem? (i := 1543) (by decide +kernel)⟩
theorem lw_p100 : lw_okq (⟨"SmokeWordModel", "lostOf", "(I)I"⟩, 43) := ⟨⟨by decide +kernel, by decide +kernel⟩, List.mem_of_getElem? (i := 1132) (by decide +kernel), List.mem_of_getElem? (i := 1546) (by decide +kernel), List.mem_of_getElem? (i := 1547) (by decide +kernel)⟩
theorem lw_p101 : lw_okq (⟨"SmokeWordModel", "summedBy", "(I)J"⟩, 43) := ⟨⟨by decide +kernel, by decide +kernel⟩, List.mem_of_getElem? (i := 1132) (by decide +kernel), List.mem_of_getElem? (i := 1550) (by decide +kernel), List.mem_of_getElem? (i := 1551) (by decide +kernel)⟩
theorem lw_p102 : lw_okq (⟨"SmokeWordModel", "reckons", "(III)J"⟩, 43) := ⟨⟨by decide +kernel, by decide +kernel⟩, List.mem_of_getElem? (i := 1132) (by decide +kernel), List.mem_of_getElem? (i := 1554) (by decide +kernel), List.mem_of_getElem? (i := 1555) (by decide +kernel)⟩
theorem lw_p103 : lw_okq (⟨"SmokeWordModel", "push", "(J)V"⟩, 43) := ⟨⟨by decide +kernel, by decide +kernel⟩, List.mem_of_getElem? (i := 1132) (by decide +kernel), List.mem_of_getElem? (i := 1558) (by decide +kernel), List.mem_of_getElem? (i := 1559) (by decide +kernel)⟩
theorem lw_p104 : lw_okq (⟨"SmokeWordModel", "pop", "()J"⟩, 43) := ⟨⟨by decide +kernel, by decide +kernel⟩, List.mem_of_getElem? (i := 1132) (by decide +kernel), List.mem_of_getElem? (i := 1562) (by decide +kernel), List.mem_of_getElem? (i := 1563) (by decide +kernel)⟩
theorem lw_p105 : lw_okq (⟨"SmokeWordModel", "nextOfRow", "()I"⟩, 43) := ⟨⟨by decide +kernel, by decide +kernel⟩, List.mem_of_getElem? (i := 1132) (by decide +kernel), List.mem_of_getElem? (i := 1569) (by decide +kernel), List.mem_of_getElem? (i := 1570) (by decide +kernel)⟩
theorem lw_p106 : lw_okq (⟨"SmokeWordModel", "sends", "(I)V"⟩, 43) := ⟨⟨by decide +kernel, by decide +kernel⟩, List.mem_of_getElem? (i := 1132) (by decide +kernel), List.mem_of_getElem? (i := 1573) (by decide +kernel), List.mem_of_getElem? (i := 1574) (by decide +kernel)⟩
theorem lw_p107 : lw_okq (⟨"SmokeWordModel", "comes", "()I"⟩, 43) := ⟨⟨by decide +kernel, by decide +kernel⟩, List.mem_of_getElem? (i := 1132) (by decide +kernel), List.mem_of_getElem? (i := 1577) (by decide +kernel), List.mem_of_getElem? (i := 1578) (by decide +kernel)⟩
theorem lw_p108 : lw_okq (⟨"SmokeWordModel", "burns", "()V"⟩, 43) := ⟨⟨by decide +kernel, by decide +kernel⟩, List.mem_of_getElem? (i := 1132) (by decide +kernel), List.mem_of_getElem? (i := 1581) (by decide +kernel), List.mem_of_getElem? (i := 1582) (by decide +kernel)⟩
theorem lw_p109 : lw_okq (⟨"SmokeWordModel", "canLight", "(I)Z"⟩, 43) := ⟨⟨by decide +kernel, by decide +kernel⟩, List.mem_of_getElem? (i := 1132) (by decide +kernel), List.mem_of_getElem? (i := 1589) (by decide +kernel), List.mem_of_getElem? (i := 1590) (by decide +kernel)⟩
theorem lw_p110 : lw_okq (⟨"SmokeWordModel", "keeps", "()V"⟩, 43) := ⟨⟨by decide +kernel, by decide +kernel⟩, List.mem_of_getElem? (i := 1132) (by decide +kernel), List.mem_of_getElem? (i := 1612) (by decide +kernel), List.mem_of_getElem? (i := 1613) (by decide +kernel)⟩
theorem lw_p111 : lw_okq (⟨"SmokeWordModel", "passesAll", "(I)V"⟩, 43) := ⟨⟨by decide +kernel, by decide +kernel⟩, List.mem_of_getElem? (i := 1132) (by decide +kernel), List.mem_of_getElem? (i := 1616) (by decide +kernel), List.mem_of_getElem? (i := 1617) (by decide +kernel)⟩
def lw_privs_7 : List (MethodName × Nat) := [(⟨"SmokeWordModel", "sumOf", "(I)J"⟩, 43), (⟨"SmokeWordModel", "saysOf", "(I)I"⟩, 43), (⟨"SmokeWordModel", "fires", "()I"⟩, 43), (⟨"SmokeWordModel", "lostAll", "()I"⟩, 43), (⟨"SmokeWordModel", "lostOf", "(I)I"⟩, 43), (⟨"SmokeWordModel", "summedBy", "(I)J"⟩, 43), (⟨"SmokeWordModel", "reckons", "(III)J"⟩, 43), (⟨"SmokeWordModel", "push", "(J)V"⟩, 43), (⟨"SmokeWordModel", "pop", "()J"⟩, 43), (⟨"SmokeWordModel", "nextOfRow", "()I"⟩, 43), (⟨"SmokeWordModel", "sends", "(I)V"⟩, 43), (⟨"SmokeWordModel", "comes", "()I"⟩, 43), (⟨"SmokeWordModel", "burns", "()V"⟩, 43), (⟨"SmokeWordModel", "canLight", "(I)Z"⟩, 43), (⟨"SmokeWordModel", "keeps", "()V"⟩, 43), (⟨"SmokeWordModel", "passesAll", "(I)V"⟩, 43)]
theorem lw_r7 : ∀ q ∈ lw_privs_7, lw_okq q := List.forall_mem_cons.mpr ⟨lw_p96, List.forall_mem_cons.mpr ⟨lw_p97, List.forall_mem_cons.mpr ⟨lw_p98, List.forall_mem_cons.mpr ⟨lw_p99, List.forall_mem_cons.mpr ⟨lw_p100, List.forall_mem_cons.mpr ⟨lw_p101, List.forall_mem_cons.mpr ⟨lw_p102, List.forall_mem_cons.mpr ⟨lw_p103, List.forall_mem_cons.mpr ⟨lw_p104, List.forall_mem_cons.mpr ⟨lw_p105, List.forall_mem_cons.mpr ⟨lw_p106, List.forall_mem_cons.mpr ⟨lw_p107, List.forall_mem_cons.mpr ⟨lw_p108, List.forall_mem_cons.mpr ⟨lw_p109, List.forall_mem_cons.mpr ⟨lw_p110, List.forall_mem_cons.mpr ⟨lw_p111, fun _ h => absurd h List.not_mem_nil⟩⟩⟩⟩⟩⟩⟩⟩⟩⟩⟩⟩⟩⟩⟩⟩
theorem lw_p112 : lw_okq (⟨"SmokeWordModel", "laysBack", "()V"⟩, 43) := ⟨⟨by decide +kernel, by decide +kernel⟩, List.mem_of_getElem? (i := 1132) (by decide +kernel), List.mem_of_getElem? (i := 1620) (by decide +kernel), List.mem_of_getElem? (i := 1621) (by decide +kernel)⟩
theorem lw_p113 : lw_okq (⟨"SmokeWordModel", "worthIn", "(I)I"⟩, 43) := ⟨⟨by decide +kernel, by decide +kernel⟩, List.mem_of_getElem? (i := 1132) (by decide +kernel), List.mem_of_getElem? (i := 1628) (by decide +kernel), List.mem_of_getElem? (i := 1629) (by decide +kernel)⟩
theorem lw_p114 : lw_okq (⟨"SmokeWordModel", "findsOrder", "(II)V"⟩, 43) := ⟨⟨by decide +kernel, by decide +kernel⟩, List.mem_of_getElem? (i := 1132) (by decide +kernel), List.mem_of_getElem? (i := 1650) (by decide +kernel), List.mem_of_getElem? (i := 1651) (by decide +kernel)⟩
theorem lw_p115 : lw_okq (⟨"SmokeWordModel", "weighsRow", "(II)V"⟩, 43) := ⟨⟨by decide +kernel, by decide +kernel⟩, List.mem_of_getElem? (i := 1132) (by decide +kernel), List.mem_of_getElem? (i := 1654) (by decide +kernel), List.mem_of_getElem? (i := 1655) (by decide +kernel)⟩
theorem lw_p116 : lw_okq (⟨"SmokeWordModel", "isInRow", "(II)Z"⟩, 43) := ⟨⟨by decide +kernel, by decide +kernel⟩, List.mem_of_getElem? (i := 1132) (by decide +kernel), List.mem_of_getElem? (i := 1658) (by decide +kernel), List.mem_of_getElem? (i := 1659) (by decide +kernel)⟩
theorem lw_p117 : lw_okq (⟨"SmokeWordModel", "comesTo", "(II)Z"⟩, 43) := ⟨⟨by decide +kernel, by decide +kernel⟩, List.mem_of_getElem? (i := 1132) (by decide +kernel), List.mem_of_getElem? (i := 1666) (by decide +kernel), List.mem_of_getElem? (i := 1667) (by decide +kernel)⟩
theorem lw_p118 : lw_okq (⟨"SmokeWordModel", "withWorth", "()I"⟩, 43) := ⟨⟨by decide +kernel, by decide +kernel⟩, List.mem_of_getElem? (i := 1132) (by decide +kernel), List.mem_of_getElem? (i := 1674) (by decide +kernel), List.mem_of_getElem? (i := 1675) (by decide +kernel)⟩
theorem lw_p119 : lw_okq (⟨"SmokeWordModel", "isRest", "(II)Z"⟩, 43) := ⟨⟨by decide +kernel, by decide +kernel⟩, List.mem_of_getElem? (i := 1132) (by decide +kernel), List.mem_of_getElem? (i := 1695) (by decide +kernel), List.mem_of_getElem? (i := 1696) (by decide +kernel)⟩
theorem lw_p120 : lw_okq (⟨"SmokeWordModel", "fillsFits", "()V"⟩, 43) := ⟨⟨by decide +kernel, by decide +kernel⟩, List.mem_of_getElem? (i := 1132) (by decide +kernel), List.mem_of_getElem? (i := 1711) (by decide +kernel), List.mem_of_getElem? (i := 1712) (by decide +kernel)⟩
theorem lw_p121 : lw_okq (⟨"SmokeWordModel", "areNotesSo", "(I)Z"⟩, 43) := ⟨⟨by decide +kernel, by decide +kernel⟩, List.mem_of_getElem? (i := 1132) (by decide +kernel), List.mem_of_getElem? (i := 1718) (by decide +kernel), List.mem_of_getElem? (i := 1719) (by decide +kernel)⟩
theorem lw_p122 : lw_okq (⟨"SmokeWordModel", "alikeAt", "(I)I"⟩, 43) := ⟨⟨by decide +kernel, by decide +kernel⟩, List.mem_of_getElem? (i := 1132) (by decide +kernel), List.mem_of_getElem? (i := 1726) (by decide +kernel), List.mem_of_getElem? (i := 1727) (by decide +kernel)⟩
theorem lw_p123 : lw_okq (⟨"SmokeWordModel", "draw", "(I)I"⟩, 43) := ⟨⟨by decide +kernel, by decide +kernel⟩, List.mem_of_getElem? (i := 1132) (by decide +kernel), List.mem_of_getElem? (i := 1739) (by decide +kernel), List.mem_of_getElem? (i := 1740) (by decide +kernel)⟩
theorem lw_p124 : lw_okq (⟨"SmokeWordModel", "sparksOn", "(I)V"⟩, 43) := ⟨⟨by decide +kernel, by decide +kernel⟩, List.mem_of_getElem? (i := 1132) (by decide +kernel), List.mem_of_getElem? (i := 1747) (by decide +kernel), List.mem_of_getElem? (i := 1748) (by decide +kernel)⟩
def lw_privs_8 : List (MethodName × Nat) := [(⟨"SmokeWordModel", "laysBack", "()V"⟩, 43), (⟨"SmokeWordModel", "worthIn", "(I)I"⟩, 43), (⟨"SmokeWordModel", "findsOrder", "(II)V"⟩, 43), (⟨"SmokeWordModel", "weighsRow", "(II)V"⟩, 43), (⟨"SmokeWordModel", "isInRow", "(II)Z"⟩, 43), (⟨"SmokeWordModel", "comesTo", "(II)Z"⟩, 43), (⟨"SmokeWordModel", "withWorth", "()I"⟩, 43), (⟨"SmokeWordModel", "isRest", "(II)Z"⟩, 43), (⟨"SmokeWordModel", "fillsFits", "()V"⟩, 43), (⟨"SmokeWordModel", "areNotesSo", "(I)Z"⟩, 43), (⟨"SmokeWordModel", "alikeAt", "(I)I"⟩, 43), (⟨"SmokeWordModel", "draw", "(I)I"⟩, 43), (⟨"SmokeWordModel", "sparksOn", "(I)V"⟩, 43)]
theorem lw_r8 : ∀ q ∈ lw_privs_8, lw_okq q := List.forall_mem_cons.mpr ⟨lw_p112, List.forall_mem_cons.mpr ⟨lw_p113, List.forall_mem_cons.mpr ⟨lw_p114, List.forall_mem_cons.mpr ⟨lw_p115, List.forall_mem_cons.mpr ⟨lw_p116, List.forall_mem_cons.mpr ⟨lw_p117, List.forall_mem_cons.mpr ⟨lw_p118, List.forall_mem_cons.mpr ⟨lw_p119, List.forall_mem_cons.mpr ⟨lw_p120, List.forall_mem_cons.mpr ⟨lw_p121, List.forall_mem_cons.mpr ⟨lw_p122, List.forall_mem_cons.mpr ⟨lw_p123, List.forall_mem_cons.mpr ⟨lw_p124, fun _ h => absurd h List.not_mem_nil⟩⟩⟩⟩⟩⟩⟩⟩⟩⟩⟩⟩⟩
def lw_privs : List (MethodName × Nat) := lw_privs_1 ++ (lw_privs_2 ++ (lw_privs_3 ++ (lw_privs_4 ++ (lw_privs_5 ++ (lw_privs_6 ++ (lw_privs_7 ++ (lw_privs_8)))))))
def lw_tbl : List Cond := k2_sels lw_privs ++ tables_1
theorem lw_privs_ok : ∀ q ∈ lw_privs, lw_okq q := by
  show ∀ q ∈ lw_privs_1 ++ (lw_privs_2 ++ (lw_privs_3 ++ (lw_privs_4 ++ (lw_privs_5 ++ (lw_privs_6 ++ (lw_privs_7 ++ (lw_privs_8))))))), lw_okq q
  exact List.forall_mem_append.mpr ⟨lw_r1, List.forall_mem_append.mpr ⟨lw_r2, List.forall_mem_append.mpr ⟨lw_r3, List.forall_mem_append.mpr ⟨lw_r4, List.forall_mem_append.mpr ⟨lw_r5, List.forall_mem_append.mpr ⟨lw_r6, List.forall_mem_append.mpr ⟨lw_r7, lw_r8⟩⟩⟩⟩⟩⟩⟩
-- ===== end of PART A; then your names; then what follows =====
end
section
/-! ===== names of the program, as printed ===== -/
def RX0 : String := "SmokeWord$Asker"
def TX0 : u_T := fun k => match k with
  | 0 => ("SmokeWord$Asker", "world", "LSmokeWord$World;", true)
  | 1 => ("SmokeWord$Asker", "valley", "LSmokeWord$Valley;", true)
  | 2 => ("SmokeWord$Asker", "course", "LSmokeWord$Course;", true)
  | 3 => ("SmokeWord$Asker", "found", "[I", true)
  | 4 => ("SmokeWord$Asker", "ofOne", "[I", true)
  | _ => ("SmokeWord$Asker", "ofOther", "[I", true)
def tyX0 : Nat → FieldType := fun k => match k with
  | 0 => .object "SmokeWord$World"
  | 1 => .object "SmokeWord$Valley"
  | 2 => .object "SmokeWord$Course"
  | 3 => .array .int
  | 4 => .array .int
  | _ => .array .int
theorem nmX0 : ∀ a, a < 6 → ∀ b, b < 6 → a ≠ b → (TX0 a).2.1 ≠ (TX0 b).2.1 := by decide +kernel
theorem tyX0_ok : ∀ k, k < 6 → parseFieldDescriptor (TX0 k).2.2.1 = some (tyX0 k) := by decide +kernel
abbrev cX0_init : ByteArray := prog_2_method_1_code
def yX0_init : MethodName := ⟨RX0, "<init>", "(LSmokeWord$World;LSmokeWord$Course;)V"⟩
abbrev cX0_hourOut : ByteArray := prog_2_method_2_code
def yX0_hourOut : MethodName := ⟨RX0, "hourOut", "()I"⟩
abbrev cX0_housesThatCanBurn : ByteArray := prog_2_method_3_code
def yX0_housesThatCanBurn : MethodName := ⟨RX0, "housesThatCanBurn", "()I"⟩
abbrev cX0_leastHeard : ByteArray := prog_2_method_4_code
def yX0_leastHeard : MethodName := ⟨RX0, "leastHeard", "(I)I"⟩
abbrev cX0_comesTo : ByteArray := prog_2_method_5_code
def yX0_comesTo : MethodName := ⟨RX0, "comesTo", "(I)Z"⟩
abbrev cX0_leastWater : ByteArray := prog_2_method_6_code
def yX0_leastWater : MethodName := ⟨RX0, "leastWater", "(I)I"⟩
abbrev cX0_allKeepWorth : ByteArray := prog_2_method_7_code
def yX0_allKeepWorth : MethodName := ⟨RX0, "allKeepWorth", "()Z"⟩
abbrev cX0_findCleared : ByteArray := prog_2_method_8_code
def yX0_findCleared : MethodName := ⟨RX0, "findCleared", "(I)V"⟩
abbrev cX0_findSilent : ByteArray := prog_2_method_9_code
def yX0_findSilent : MethodName := ⟨RX0, "findSilent", "(I)V"⟩
abbrev cX0_hush : ByteArray := prog_2_method_10_code
def yX0_hush : MethodName := ⟨RX0, "hush", "(I)Z"⟩
abbrev cX0_penceOf : ByteArray := prog_2_method_11_code
def yX0_penceOf : MethodName := ⟨RX0, "penceOf", "(II)I"⟩
abbrev cX0_lostOf : ByteArray := prog_2_method_12_code
def yX0_lostOf : MethodName := ⟨RX0, "lostOf", "(I)I"⟩
abbrev cX0_findRests : ByteArray := prog_2_method_13_code
def yX0_findRests : MethodName := ⟨RX0, "findRests", "(III)V"⟩
abbrev cX0_isRest : ByteArray := prog_2_method_14_code
def yX0_isRest : MethodName := ⟨RX0, "isRest", "(I)Z"⟩
abbrev cX0_findFirst : ByteArray := prog_2_method_15_code
def yX0_findFirst : MethodName := ⟨RX0, "findFirst", "()V"⟩
abbrev cX0_findSparks : ByteArray := prog_2_method_16_code
def yX0_findSparks : MethodName := ⟨RX0, "findSparks", "(III)V"⟩
abbrev cX0_drawAfter : ByteArray := prog_2_method_17_code
def yX0_drawAfter : MethodName := ⟨RX0, "drawAfter", "(I)I"⟩
abbrev cX0_spark : ByteArray := prog_2_method_18_code
def yX0_spark : MethodName := ⟨RX0, "spark", "(I)V"⟩
def RX1 : String := "SmokeWord$Course"
def TX1 : u_T := fun k => match k with
  | 0 => ("SmokeWord$Course", "world", "LSmokeWord$World;", true)
  | 1 => ("SmokeWord$Course", "valley", "LSmokeWord$Valley;", true)
  | 2 => ("SmokeWord$Course", "rules", "[LSmokeWord$Rule;", true)
  | 3 => ("SmokeWord$Course", "scene", "LSmokeWord$Scene;", true)
  | 4 => ("SmokeWord$Course", "stack", "[J", true)
  | 5 => ("SmokeWord$Course", "rule", "LSmokeWord$Rule;", false)
  | 6 => ("SmokeWord$Course", "fires", "I", false)
  | 7 => ("SmokeWord$Course", "burning", "I", false)
  | 8 => ("SmokeWord$Course", "near", "I", false)
  | 9 => ("SmokeWord$Course", "water", "I", false)
  | _ => ("SmokeWord$Course", "came", "I", false)
def tyX1 : Nat → FieldType := fun k => match k with
  | 0 => .object "SmokeWord$World"
  | 1 => .object "SmokeWord$Valley"
  | 2 => .array (.object "SmokeWord$Rule")
  | 3 => .object "SmokeWord$Scene"
  | 4 => .array .long
  | 5 => .object "SmokeWord$Rule"
  | 6 => .int
  | 7 => .int
  | 8 => .int
  | 9 => .int
  | _ => .int
theorem nmX1 : ∀ a, a < 11 → ∀ b, b < 11 → a ≠ b → (TX1 a).2.1 ≠ (TX1 b).2.1 := by decide +kernel
theorem tyX1_ok : ∀ k, k < 11 → parseFieldDescriptor (TX1 k).2.2.1 = some (tyX1 k) := by decide +kernel
abbrev cX1_init : ByteArray := prog_3_method_1_code
def yX1_init : MethodName := ⟨RX1, "<init>", "(LSmokeWord$World;[LSmokeWord$Rule;)V"⟩
abbrev cX1_beginNow : ByteArray := prog_3_method_2_code
def yX1_beginNow : MethodName := ⟨RX1, "beginNow", "()V"⟩
abbrev cX1_beginAsTold : ByteArray := prog_3_method_3_code
def yX1_beginAsTold : MethodName := ⟨RX1, "beginAsTold", "(I)V"⟩
abbrev cX1_chooseRule : ByteArray := prog_3_method_4_code
def yX1_chooseRule : MethodName := ⟨RX1, "chooseRule", "(I)V"⟩
abbrev cX1_goHours : ByteArray := prog_3_method_5_code
def yX1_goHours : MethodName := ⟨RX1, "goHours", "(I)V"⟩
abbrev cX1_worthAfter : ByteArray := prog_3_method_6_code
def yX1_worthAfter : MethodName := ⟨RX1, "worthAfter", "(I)I"⟩
abbrev cX1_goOneHour : ByteArray := prog_3_method_7_code
def yX1_goOneHour : MethodName := ⟨RX1, "goOneHour", "()I"⟩
abbrev cX1_choose : ByteArray := prog_3_method_8_code
def yX1_choose : MethodName := ⟨RX1, "choose", "()V"⟩
abbrev cX1_wayTo : ByteArray := prog_3_method_9_code
def yX1_wayTo : MethodName := ⟨RX1, "wayTo", "(I)I"⟩
abbrev cX1_sendTo : ByteArray := prog_3_method_10_code
def yX1_sendTo : MethodName := ⟨RX1, "sendTo", "(I)V"⟩
abbrev cX1_smokeOf : ByteArray := prog_3_method_11_code
def yX1_smokeOf : MethodName := ⟨RX1, "smokeOf", "(I)I"⟩
abbrev cX1_weigh : ByteArray := prog_3_method_12_code
def yX1_weigh : MethodName := ⟨RX1, "weigh", "(I)J"⟩
abbrev cX1_work : ByteArray := prog_3_method_13_code
def yX1_work : MethodName := ⟨RX1, "work", "(III)J"⟩
abbrev cX1_wordOf : ByteArray := prog_3_method_14_code
def yX1_wordOf : MethodName := ⟨RX1, "wordOf", "(II)I"⟩
abbrev cX1_join : ByteArray := prog_3_method_15_code
def yX1_join : MethodName := ⟨RX1, "join", "(IJJ)J"⟩
abbrev cX1_passHour : ByteArray := prog_3_method_16_code
def yX1_passHour : MethodName := ⟨RX1, "passHour", "()I"⟩
abbrev cX1_travel : ByteArray := prog_3_method_17_code
def yX1_travel : MethodName := ⟨RX1, "travel", "()V"⟩
abbrev cX1_pour : ByteArray := prog_3_method_18_code
def yX1_pour : MethodName := ⟨RX1, "pour", "()V"⟩
abbrev cX1_burn : ByteArray := prog_3_method_19_code
def yX1_burn : MethodName := ⟨RX1, "burn", "()I"⟩
abbrev cX1_spread : ByteArray := prog_3_method_20_code
def yX1_spread : MethodName := ⟨RX1, "spread", "()V"⟩
def RX2 : String := "SmokeWord$Looker"
def TX2 : u_T := fun k => match k with
  | 0 => ("SmokeWord$Looker", "world", "LSmokeWord$World;", true)
  | 1 => ("SmokeWord$Looker", "course", "LSmokeWord$Course;", true)
  | 2 => ("SmokeWord$Looker", "places", "[I", true)
  | 3 => ("SmokeWord$Looker", "alike", "[I", true)
  | 4 => ("SmokeWord$Looker", "candidates", "I", false)
  | 5 => ("SmokeWord$Looker", "ruledBits", "I", false)
  | 6 => ("SmokeWord$Looker", "ruledCount", "I", false)
  | 7 => ("SmokeWord$Looker", "ruledFirst", "I", false)
  | 8 => ("SmokeWord$Looker", "partingHour", "I", false)
  | _ => ("SmokeWord$Looker", "partingMost", "I", false)
def tyX2 : Nat → FieldType := fun k => match k with
  | 0 => .object "SmokeWord$World"
  | 1 => .object "SmokeWord$Course"
  | 2 => .array .int
  | 3 => .array .int
  | 4 => .int
  | 5 => .int
  | 6 => .int
  | 7 => .int
  | 8 => .int
  | _ => .int
theorem nmX2 : ∀ a, a < 10 → ∀ b, b < 10 → a ≠ b → (TX2 a).2.1 ≠ (TX2 b).2.1 := by decide +kernel
theorem tyX2_ok : ∀ k, k < 10 → parseFieldDescriptor (TX2 k).2.2.1 = some (tyX2 k) := by decide +kernel
abbrev cX2_init : ByteArray := prog_4_method_1_code
def yX2_init : MethodName := ⟨RX2, "<init>", "(LSmokeWord$World;LSmokeWord$Course;)V"⟩
abbrev cX2_findRuled : ByteArray := prog_4_method_2_code
def yX2_findRuled : MethodName := ⟨RX2, "findRuled", "(I)V"⟩
abbrev cX2_trace : ByteArray := prog_4_method_3_code
def yX2_trace : MethodName := ⟨RX2, "trace", "(I)V"⟩
abbrev cX2_agrees : ByteArray := prog_4_method_4_code
def yX2_agrees : MethodName := ⟨RX2, "agrees", "(I)Z"⟩
abbrev cX2_findParting : ByteArray := prog_4_method_5_code
def yX2_findParting : MethodName := ⟨RX2, "findParting", "()V"⟩
abbrev cX2_mostAlike : ByteArray := prog_4_method_6_code
def yX2_mostAlike : MethodName := ⟨RX2, "mostAlike", "(I)I"⟩
def RX3 : String := "SmokeWord$Orders"
def TX3 : u_T := fun k => match k with
  | 0 => ("SmokeWord$Orders", "course", "LSmokeWord$Course;", true)
  | 1 => ("SmokeWord$Orders", "levels", "[LSmokeWord$Scene;", true)
  | 2 => ("SmokeWord$Orders", "row", "[I", true)
  | 3 => ("SmokeWord$Orders", "best", "[I", true)
  | 4 => ("SmokeWord$Orders", "rowLength", "I", false)
  | 5 => ("SmokeWord$Orders", "most", "I", false)
  | _ => ("SmokeWord$Orders", "lastHour", "I", false)
def tyX3 : Nat → FieldType := fun k => match k with
  | 0 => .object "SmokeWord$Course"
  | 1 => .array (.object "SmokeWord$Scene")
  | 2 => .array .int
  | 3 => .array .int
  | 4 => .int
  | 5 => .int
  | _ => .int
theorem nmX3 : ∀ a, a < 7 → ∀ b, b < 7 → a ≠ b → (TX3 a).2.1 ≠ (TX3 b).2.1 := by decide +kernel
theorem tyX3_ok : ∀ k, k < 7 → parseFieldDescriptor (TX3 k).2.2.1 = some (tyX3 k) := by decide +kernel
abbrev cX3_init : ByteArray := prog_5_method_1_code
def yX3_init : MethodName := ⟨RX3, "<init>", "(LSmokeWord$Course;)V"⟩
abbrev cX3_findBest : ByteArray := prog_5_method_2_code
def yX3_findBest : MethodName := ⟨RX3, "findBest", "(I)V"⟩
abbrev cX3_tryRows : ByteArray := prog_5_method_3_code
def yX3_tryRows : MethodName := ⟨RX3, "tryRows", "(II)V"⟩
abbrev cX3_passUntilFree : ByteArray := prog_5_method_4_code
def yX3_passUntilFree : MethodName := ⟨RX3, "passUntilFree", "()V"⟩
abbrev cX3_passAll : ByteArray := prog_5_method_5_code
def yX3_passAll : MethodName := ⟨RX3, "passAll", "()V"⟩
abbrev cX3_keep : ByteArray := prog_5_method_6_code
def yX3_keep : MethodName := ⟨RX3, "keep", "(II)V"⟩
def RX4 : String := "SmokeWord$Rule"
def TX4 : u_T := fun k => match k with
  | 0 => ("SmokeWord$Rule", "code", "[I", true)
  | 1 => ("SmokeWord$Rule", "starts", "[I", true)
  | _ => ("SmokeWord$Rule", "clauses", "I", true)
def tyX4 : Nat → FieldType := fun k => match k with
  | 0 => .array .int
  | 1 => .array .int
  | _ => .int
theorem nmX4 : ∀ a, a < 3 → ∀ b, b < 3 → a ≠ b → (TX4 a).2.1 ≠ (TX4 b).2.1 := by decide +kernel
theorem tyX4_ok : ∀ k, k < 3 → parseFieldDescriptor (TX4 k).2.2.1 = some (tyX4 k) := by decide +kernel
abbrev cX4_init : ByteArray := prog_6_method_1_code
def yX4_init : MethodName := ⟨RX4, "<init>", "([I[II)V"⟩
def RX5 : String := "SmokeWord$RuleReader"
def TX5 : u_T := fun k => match k with
  | 0 => ("SmokeWord$RuleReader", "tape", "LSmokeWord$Tape;", true)
  | 1 => ("SmokeWord$RuleReader", "code", "[I", true)
  | 2 => ("SmokeWord$RuleReader", "codeLength", "I", false)
  | 3 => ("SmokeWord$RuleReader", "starts", "[I", true)
  | 4 => ("SmokeWord$RuleReader", "clauses", "I", false)
  | _ => ("SmokeWord$RuleReader", "parts", "I", false)
def tyX5 : Nat → FieldType := fun k => match k with
  | 0 => .object "SmokeWord$Tape"
  | 1 => .array .int
  | 2 => .int
  | 3 => .array .int
  | 4 => .int
  | _ => .int
theorem nmX5 : ∀ a, a < 6 → ∀ b, b < 6 → a ≠ b → (TX5 a).2.1 ≠ (TX5 b).2.1 := by decide +kernel
theorem tyX5_ok : ∀ k, k < 6 → parseFieldDescriptor (TX5 k).2.2.1 = some (tyX5 k) := by decide +kernel
abbrev cX5_init : ByteArray := prog_7_method_1_code
def yX5_init : MethodName := ⟨RX5, "<init>", "(LSmokeWord$Tape;)V"⟩
abbrev cX5_read : ByteArray := prog_7_method_2_code
def yX5_read : MethodName := ⟨RX5, "read", "()Z"⟩
abbrev cX5_compiled : ByteArray := prog_7_method_3_code
def yX5_compiled : MethodName := ⟨RX5, "compiled", "()LSmokeWord$Rule;"⟩
abbrev cX5_readGo : ByteArray := prog_7_method_4_code
def yX5_readGo : MethodName := ⟨RX5, "readGo", "(I)Z"⟩
abbrev cX5_passIf : ByteArray := prog_7_method_5_code
def yX5_passIf : MethodName := ⟨RX5, "passIf", "()Z"⟩
abbrev cX5_readTest : ByteArray := prog_7_method_6_code
def yX5_readTest : MethodName := ⟨RX5, "readTest", "(I)Z"⟩
abbrev cX5_readFact : ByteArray := prog_7_method_7_code
def yX5_readFact : MethodName := ⟨RX5, "readFact", "(I)Z"⟩
abbrev cX5_readComparison : ByteArray := prog_7_method_8_code
def yX5_readComparison : MethodName := ⟨RX5, "readComparison", "()Z"⟩
abbrev cX5_signOf : ByteArray := prog_7_method_9_code
def yX5_signOf : MethodName := ⟨RX5, "signOf", "(I)I"⟩
abbrev cX5_readSum : ByteArray := prog_7_method_10_code
def yX5_readSum : MethodName := ⟨RX5, "readSum", "()Z"⟩
abbrev cX5_joinOf : ByteArray := prog_7_method_11_code
def yX5_joinOf : MethodName := ⟨RX5, "joinOf", "(I)I"⟩
abbrev cX5_readValue : ByteArray := prog_7_method_12_code
def yX5_readValue : MethodName := ⟨RX5, "readValue", "()Z"⟩
abbrev cX5_emit : ByteArray := prog_7_method_13_code
def yX5_emit : MethodName := ⟨RX5, "emit", "(I)V"⟩
def RX6 : String := "SmokeWord$Scene"
def TX6 : u_T := fun k => match k with
  | 0 => ("SmokeWord$Scene", "worth", "[I", true)
  | 1 => ("SmokeWord$Scene", "heat", "[I", true)
  | 2 => ("SmokeWord$Scene", "says", "[I", true)
  | 3 => ("SmokeWord$Scene", "been", "[I", true)
  | 4 => ("SmokeWord$Scene", "lost", "I", false)
  | 5 => ("SmokeWord$Scene", "hour", "I", false)
  | 6 => ("SmokeWord$Scene", "at", "I", false)
  | 7 => ("SmokeWord$Scene", "to", "I", false)
  | _ => ("SmokeWord$Scene", "toGo", "I", false)
def tyX6 : Nat → FieldType := fun k => match k with
  | 0 => .array .int
  | 1 => .array .int
  | 2 => .array .int
  | 3 => .array .int
  | 4 => .int
  | 5 => .int
  | 6 => .int
  | 7 => .int
  | _ => .int
theorem nmX6 : ∀ a, a < 9 → ∀ b, b < 9 → a ≠ b → (TX6 a).2.1 ≠ (TX6 b).2.1 := by decide +kernel
theorem tyX6_ok : ∀ k, k < 9 → parseFieldDescriptor (TX6 k).2.2.1 = some (tyX6 k) := by decide +kernel
abbrev cX6_init : ByteArray := prog_8_method_1_code
def yX6_init : MethodName := ⟨RX6, "<init>", "()V"⟩
abbrev cX6_copyFrom : ByteArray := prog_8_method_2_code
def yX6_copyFrom : MethodName := ⟨RX6, "copyFrom", "(LSmokeWord$Scene;)V"⟩
abbrev cX6_startOf : ByteArray := prog_8_method_3_code
def yX6_startOf : MethodName := ⟨RX6, "startOf", "(LSmokeWord$Valley;)V"⟩
abbrev cX6_fires : ByteArray := prog_8_method_4_code
def yX6_fires : MethodName := ⟨RX6, "fires", "()I"⟩
abbrev cX6_allWorth : ByteArray := prog_8_method_5_code
def yX6_allWorth : MethodName := ⟨RX6, "allWorth", "()I"⟩
abbrev cX6_canCatch : ByteArray := prog_8_method_6_code
def yX6_canCatch : MethodName := ⟨RX6, "canCatch", "(I)Z"⟩
abbrev cX6_isFree : ByteArray := prog_8_method_7_code
def yX6_isFree : MethodName := ⟨RX6, "isFree", "()Z"⟩
abbrev cX6_setOut : ByteArray := prog_8_method_8_code
def yX6_setOut : MethodName := ⟨RX6, "setOut", "(II)V"⟩
abbrev cX6_counted : ByteArray := prog_8_method_9_code
def yX6_counted : MethodName := ⟨RX6, "counted", "(I)I"⟩
def RX7 : String := "SmokeWord$Tape"
def TX7 : u_T := fun k => match k with
  | 0 => ("SmokeWord$Tape", "bytes", "[B", true)
  | 1 => ("SmokeWord$Tape", "length", "I", false)
  | 2 => ("SmokeWord$Tape", "kinds", "[I", true)
  | 3 => ("SmokeWord$Tape", "places", "[I", true)
  | 4 => ("SmokeWord$Tape", "values", "[I", true)
  | 5 => ("SmokeWord$Tape", "next", "I", false)
  | _ => ("SmokeWord$Tape", "fault", "I", false)
def tyX7 : Nat → FieldType := fun k => match k with
  | 0 => .array .byte
  | 1 => .int
  | 2 => .array .int
  | 3 => .array .int
  | 4 => .array .int
  | 5 => .int
  | _ => .int
theorem nmX7 : ∀ a, a < 7 → ∀ b, b < 7 → a ≠ b → (TX7 a).2.1 ≠ (TX7 b).2.1 := by decide +kernel
theorem tyX7_ok : ∀ k, k < 7 → parseFieldDescriptor (TX7 k).2.2.1 = some (tyX7 k) := by decide +kernel
abbrev cX7_init : ByteArray := prog_9_method_1_code
def yX7_init : MethodName := ⟨RX7, "<init>", "()V"⟩
abbrev cX7_append : ByteArray := prog_9_method_2_code
def yX7_append : MethodName := ⟨RX7, "append", "(I)V"⟩
abbrev cX7_scan : ByteArray := prog_9_method_3_code
def yX7_scan : MethodName := ⟨RX7, "scan", "()V"⟩
abbrev cX7_scanToken : ByteArray := prog_9_method_4_code
def yX7_scanToken : MethodName := ⟨RX7, "scanToken", "(II)I"⟩
abbrev cX7_scanNumber : ByteArray := prog_9_method_5_code
def yX7_scanNumber : MethodName := ⟨RX7, "scanNumber", "(II)I"⟩
abbrev cX7_wordFrom : ByteArray := prog_9_method_6_code
def yX7_wordFrom : MethodName := ⟨RX7, "wordFrom", "(II)I"⟩
abbrev cX7_otherWordFrom : ByteArray := prog_9_method_7_code
def yX7_otherWordFrom : MethodName := ⟨RX7, "otherWordFrom", "(II)I"⟩
abbrev cX7_is : ByteArray := prog_9_method_8_code
def yX7_is : MethodName := ⟨RX7, "is", "(IILjava/lang/String;)Z"⟩
abbrev cX7_byteAt : ByteArray := prog_9_method_9_code
def yX7_byteAt : MethodName := ⟨RX7, "byteAt", "(I)I"⟩
abbrev cX7_kind : ByteArray := prog_9_method_10_code
def yX7_kind : MethodName := ⟨RX7, "kind", "()I"⟩
abbrev cX7_pass : ByteArray := prog_9_method_11_code
def yX7_pass : MethodName := ⟨RX7, "pass", "()V"⟩
abbrev cX7_refuse : ByteArray := prog_9_method_12_code
def yX7_refuse : MethodName := ⟨RX7, "refuse", "(I)Z"⟩
abbrev cX7_number : ByteArray := prog_9_method_13_code
def yX7_number : MethodName := ⟨RX7, "number", "(III)I"⟩
abbrev cX7_isDigit : ByteArray := prog_9_method_14_code
def yX7_isDigit : MethodName := ⟨RX7, "isDigit", "(I)Z"⟩
abbrev cX7_isSmall : ByteArray := prog_9_method_15_code
def yX7_isSmall : MethodName := ⟨RX7, "isSmall", "(I)Z"⟩
def RX8 : String := "SmokeWord$Valley"
def TX8 : u_T := fun k => match k with
  | 0 => ("SmokeWord$Valley", "told", "Z", false)
  | 1 => ("SmokeWord$Valley", "water", "I", false)
  | 2 => ("SmokeWord$Valley", "leap", "I", false)
  | 3 => ("SmokeWord$Valley", "houses", "I", false)
  | 4 => ("SmokeWord$Valley", "worth", "[I", true)
  | 5 => ("SmokeWord$Valley", "heat", "[I", true)
  | 6 => ("SmokeWord$Valley", "says", "[I", true)
  | 7 => ("SmokeWord$Valley", "beside", "[I", true)
  | _ => ("SmokeWord$Valley", "ways", "[I", true)
def tyX8 : Nat → FieldType := fun k => match k with
  | 0 => .boolean
  | 1 => .int
  | 2 => .int
  | 3 => .int
  | 4 => .array .int
  | 5 => .array .int
  | 6 => .array .int
  | 7 => .array .int
  | _ => .array .int
theorem nmX8 : ∀ a, a < 9 → ∀ b, b < 9 → a ≠ b → (TX8 a).2.1 ≠ (TX8 b).2.1 := by decide +kernel
theorem tyX8_ok : ∀ k, k < 9 → parseFieldDescriptor (TX8 k).2.2.1 = some (tyX8 k) := by decide +kernel
abbrev cX8_init : ByteArray := prog_10_method_1_code
def yX8_init : MethodName := ⟨RX8, "<init>", "()V"⟩
abbrev cX8_wipe : ByteArray := prog_10_method_2_code
def yX8_wipe : MethodName := ⟨RX8, "wipe", "()V"⟩
abbrev cX8_copyFrom : ByteArray := prog_10_method_3_code
def yX8_copyFrom : MethodName := ⟨RX8, "copyFrom", "(LSmokeWord$Valley;)V"⟩
abbrev cX8_addRoad : ByteArray := prog_10_method_4_code
def yX8_addRoad : MethodName := ⟨RX8, "addRoad", "(III)V"⟩
abbrev cX8_addBeside : ByteArray := prog_10_method_5_code
def yX8_addBeside : MethodName := ⟨RX8, "addBeside", "(II)V"⟩
abbrev cX8_findWays : ByteArray := prog_10_method_6_code
def yX8_findWays : MethodName := ⟨RX8, "findWays", "()V"⟩
abbrev cX8_shorten : ByteArray := prog_10_method_7_code
def yX8_shorten : MethodName := ⟨RX8, "shorten", "(III)V"⟩
def RX9 : String := "SmokeWord$ValleyReader"
def TX9 : u_T := fun k => match k with
  | 0 => ("SmokeWord$ValleyReader", "tape", "LSmokeWord$Tape;", true)
  | _ => ("SmokeWord$ValleyReader", "valley", "LSmokeWord$Valley;", true)
def tyX9 : Nat → FieldType := fun k => match k with
  | 0 => .object "SmokeWord$Tape"
  | _ => .object "SmokeWord$Valley"
theorem nmX9 : ∀ a, a < 2 → ∀ b, b < 2 → a ≠ b → (TX9 a).2.1 ≠ (TX9 b).2.1 := by decide +kernel
theorem tyX9_ok : ∀ k, k < 2 → parseFieldDescriptor (TX9 k).2.2.1 = some (tyX9 k) := by decide +kernel
abbrev cX9_init : ByteArray := prog_11_method_1_code
def yX9_init : MethodName := ⟨RX9, "<init>", "(LSmokeWord$Tape;)V"⟩
abbrev cX9_read : ByteArray := prog_11_method_2_code
def yX9_read : MethodName := ⟨RX9, "read", "()Z"⟩
abbrev cX9_readClause : ByteArray := prog_11_method_3_code
def yX9_readClause : MethodName := ⟨RX9, "readClause", "(I)Z"⟩
abbrev cX9_readHead : ByteArray := prog_11_method_4_code
def yX9_readHead : MethodName := ⟨RX9, "readHead", "()Z"⟩
abbrev cX9_readHouse : ByteArray := prog_11_method_5_code
def yX9_readHouse : MethodName := ⟨RX9, "readHouse", "()Z"⟩
abbrev cX9_readRoad : ByteArray := prog_11_method_6_code
def yX9_readRoad : MethodName := ⟨RX9, "readRoad", "()Z"⟩
abbrev cX9_readBeside : ByteArray := prog_11_method_7_code
def yX9_readBeside : MethodName := ⟨RX9, "readBeside", "()Z"⟩
def RX10 : String := "SmokeWord$World"
def TX10 : u_T := fun k => match k with
  | 0 => ("SmokeWord$World", "valley", "LSmokeWord$Valley;", true)
  | 1 => ("SmokeWord$World", "scene", "LSmokeWord$Scene;", true)
  | 2 => ("SmokeWord$World", "noteHours", "[I", true)
  | 3 => ("SmokeWord$World", "notePlaces", "[I", true)
  | 4 => ("SmokeWord$World", "notes", "I", false)
  | 5 => ("SmokeWord$World", "drawn", "I", false)
  | _ => ("SmokeWord$World", "inForce", "I", false)
def tyX10 : Nat → FieldType := fun k => match k with
  | 0 => .object "SmokeWord$Valley"
  | 1 => .object "SmokeWord$Scene"
  | 2 => .array .int
  | 3 => .array .int
  | 4 => .int
  | 5 => .int
  | _ => .int
theorem nmX10 : ∀ a, a < 7 → ∀ b, b < 7 → a ≠ b → (TX10 a).2.1 ≠ (TX10 b).2.1 := by decide +kernel
theorem tyX10_ok : ∀ k, k < 7 → parseFieldDescriptor (TX10 k).2.2.1 = some (tyX10 k) := by decide +kernel
abbrev cX10_init : ByteArray := prog_12_method_1_code
def yX10_init : MethodName := ⟨RX10, "<init>", "()V"⟩
abbrev cX10_copyFrom : ByteArray := prog_12_method_2_code
def yX10_copyFrom : MethodName := ⟨RX10, "copyFrom", "(LSmokeWord$World;)V"⟩
def RX11 : String := "SmokeWord"
def TX11 : u_T := fun k => match k with
  | 0 => ("SmokeWord", "tape", "LSmokeWord$Tape;", true)
  | 1 => ("SmokeWord", "world", "LSmokeWord$World;", true)
  | 2 => ("SmokeWord", "images", "[LSmokeWord$World;", true)
  | 3 => ("SmokeWord", "rules", "[LSmokeWord$Rule;", true)
  | 4 => ("SmokeWord", "ruleCount", "I", false)
  | 5 => ("SmokeWord", "acts", "[LSmokeWord$Scene;", true)
  | 6 => ("SmokeWord", "actEnd", "I", false)
  | 7 => ("SmokeWord", "actCount", "I", false)
  | 8 => ("SmokeWord", "valleyReader", "LSmokeWord$ValleyReader;", true)
  | 9 => ("SmokeWord", "ruleReader", "LSmokeWord$RuleReader;", true)
  | 10 => ("SmokeWord", "course", "LSmokeWord$Course;", true)
  | 11 => ("SmokeWord", "asker", "LSmokeWord$Asker;", true)
  | 12 => ("SmokeWord", "orders", "LSmokeWord$Orders;", true)
  | _ => ("SmokeWord", "looker", "LSmokeWord$Looker;", true)
def tyX11 : Nat → FieldType := fun k => match k with
  | 0 => .object "SmokeWord$Tape"
  | 1 => .object "SmokeWord$World"
  | 2 => .array (.object "SmokeWord$World")
  | 3 => .array (.object "SmokeWord$Rule")
  | 4 => .int
  | 5 => .array (.object "SmokeWord$Scene")
  | 6 => .int
  | 7 => .int
  | 8 => .object "SmokeWord$ValleyReader"
  | 9 => .object "SmokeWord$RuleReader"
  | 10 => .object "SmokeWord$Course"
  | 11 => .object "SmokeWord$Asker"
  | 12 => .object "SmokeWord$Orders"
  | _ => .object "SmokeWord$Looker"
theorem nmX11 : ∀ a, a < 14 → ∀ b, b < 14 → a ≠ b → (TX11 a).2.1 ≠ (TX11 b).2.1 := by decide +kernel
theorem tyX11_ok : ∀ k, k < 14 → parseFieldDescriptor (TX11 k).2.2.1 = some (tyX11 k) := by decide +kernel
abbrev cX11_init : ByteArray := prog_1_method_1_code
def yX11_init : MethodName := ⟨RX11, "<init>", "()V"⟩
abbrev cX11_feed : ByteArray := prog_1_method_2_code
def yX11_feed : MethodName := ⟨RX11, "feed", "(IIIII)I"⟩
abbrev cX11_end : ByteArray := prog_1_method_3_code
def yX11_end : MethodName := ⟨RX11, "end", "(I)I"⟩
abbrev cX11_valley : ByteArray := prog_1_method_4_code
def yX11_valley : MethodName := ⟨RX11, "valley", "()I"⟩
abbrev cX11_rule : ByteArray := prog_1_method_5_code
def yX11_rule : MethodName := ⟨RX11, "rule", "()I"⟩
abbrev cX11_force : ByteArray := prog_1_method_6_code
def yX11_force : MethodName := ⟨RX11, "force", "(I)I"⟩
abbrev cX11_house : ByteArray := prog_1_method_7_code
def yX11_house : MethodName := ⟨RX11, "house", "(II)I"⟩
abbrev cX11_far : ByteArray := prog_1_method_8_code
def yX11_far : MethodName := ⟨RX11, "far", "(II)I"⟩
abbrev cX11_hour : ByteArray := prog_1_method_9_code
def yX11_hour : MethodName := ⟨RX11, "hour", "()I"⟩
abbrev cX11_light : ByteArray := prog_1_method_10_code
def yX11_light : MethodName := ⟨RX11, "light", "(I)I"⟩
abbrev cX11_douse : ByteArray := prog_1_method_11_code
def yX11_douse : MethodName := ⟨RX11, "douse", "(I)I"⟩
abbrev cX11_say : ByteArray := prog_1_method_12_code
def yX11_say : MethodName := ⟨RX11, "say", "(II)I"⟩
abbrev cX11_send : ByteArray := prog_1_method_13_code
def yX11_send : MethodName := ⟨RX11, "send", "(I)I"⟩
abbrev cX11_undo : ByteArray := prog_1_method_14_code
def yX11_undo : MethodName := ⟨RX11, "undo", "()I"⟩
abbrev cX11_ahead : ByteArray := prog_1_method_15_code
def yX11_ahead : MethodName := ⟨RX11, "ahead", "(III)I"⟩
abbrev cX11_left : ByteArray := prog_1_method_16_code
def yX11_left : MethodName := ⟨RX11, "left", "(I)I"⟩
abbrev cX11_out : ByteArray := prog_1_method_17_code
def yX11_out : MethodName := ⟨RX11, "out", "()I"⟩
abbrev cX11_canBurn : ByteArray := prog_1_method_18_code
def yX11_canBurn : MethodName := ⟨RX11, "canBurn", "()I"⟩
abbrev cX11_order : ByteArray := prog_1_method_19_code
def yX11_order : MethodName := ⟨RX11, "order", "(II)I"⟩
abbrev cX11_heard : ByteArray := prog_1_method_20_code
def yX11_heard : MethodName := ⟨RX11, "heard", "(I)I"⟩
abbrev cX11_water : ByteArray := prog_1_method_21_code
def yX11_water : MethodName := ⟨RX11, "water", "(I)I"⟩
abbrev cX11_clear : ByteArray := prog_1_method_22_code
def yX11_clear : MethodName := ⟨RX11, "clear", "(II)I"⟩
abbrev cX11_silent : ByteArray := prog_1_method_23_code
def yX11_silent : MethodName := ⟨RX11, "silent", "(II)I"⟩
abbrev cX11_pence : ByteArray := prog_1_method_24_code
def yX11_pence : MethodName := ⟨RX11, "pence", "(II)I"⟩
abbrev cX11_rests : ByteArray := prog_1_method_25_code
def yX11_rests : MethodName := ⟨RX11, "rests", "(IIII)I"⟩
abbrev cX11_first : ByteArray := prog_1_method_26_code
def yX11_first : MethodName := ⟨RX11, "first", "(I)I"⟩
abbrev cX11_note : ByteArray := prog_1_method_27_code
def yX11_note : MethodName := ⟨RX11, "note", "(II)I"⟩
abbrev cX11_ruled : ByteArray := prog_1_method_28_code
def yX11_ruled : MethodName := ⟨RX11, "ruled", "(I)I"⟩
abbrev cX11_look : ByteArray := prog_1_method_29_code
def yX11_look : MethodName := ⟨RX11, "look", "(I)I"⟩
abbrev cX11_seed : ByteArray := prog_1_method_30_code
def yX11_seed : MethodName := ⟨RX11, "seed", "(I)I"⟩
abbrev cX11_sparks : ByteArray := prog_1_method_31_code
def yX11_sparks : MethodName := ⟨RX11, "sparks", "(IIII)I"⟩
abbrev cX11_count : ByteArray := prog_1_method_32_code
def yX11_count : MethodName := ⟨RX11, "count", "(I)I"⟩
abbrev cX11_image : ByteArray := prog_1_method_33_code
def yX11_image : MethodName := ⟨RX11, "image", "(I)I"⟩
abbrev cX11_back : ByteArray := prog_1_method_34_code
def yX11_back : MethodName := ⟨RX11, "back", "(I)I"⟩
abbrev cX11_isHouse : ByteArray := prog_1_method_35_code
def yX11_isHouse : MethodName := ⟨RX11, "isHouse", "(I)Z"⟩
abbrev cX11_isPlace : ByteArray := prog_1_method_36_code
def yX11_isPlace : MethodName := ⟨RX11, "isPlace", "(I)Z"⟩
abbrev cX11_isAsked : ByteArray := prog_1_method_37_code
def yX11_isAsked : MethodName := ⟨RX11, "isAsked", "(III)Z"⟩
abbrev cX11_keepAct : ByteArray := prog_1_method_38_code
def yX11_keepAct : MethodName := ⟨RX11, "keepAct", "()V"⟩
def RX12 : String := "SmokeWordModel"
def TX12 : u_T := fun k => match k with
  | 0 => ("SmokeWordModel", "tape", "[B", true)
  | 1 => ("SmokeWordModel", "taped", "I", false)
  | 2 => ("SmokeWordModel", "rules", "I", false)
  | 3 => ("SmokeWordModel", "sign", "[I", true)
  | 4 => ("SmokeWordModel", "length", "[I", true)
  | 5 => ("SmokeWordModel", "clause", "[I", true)
  | 6 => ("SmokeWordModel", "clauses", "[I", true)
  | 7 => ("SmokeWordModel", "read", "[I", true)
  | 8 => ("SmokeWordModel", "next", "I", false)
  | 9 => ("SmokeWordModel", "wrong", "I", false)
  | 10 => ("SmokeWordModel", "number", "I", false)
  | 11 => ("SmokeWordModel", "text", "I", false)
  | 12 => ("SmokeWordModel", "made", "I", false)
  | 13 => ("SmokeWordModel", "deep", "I", false)
  | 14 => ("SmokeWordModel", "lines", "I", false)
  | 15 => ("SmokeWordModel", "open", "[I", true)
  | 16 => ("SmokeWordModel", "opened", "I", false)
  | 17 => ("SmokeWordModel", "one1", "I", false)
  | 18 => ("SmokeWordModel", "stack", "[J", true)
  | 19 => ("SmokeWordModel", "top", "I", false)
  | 20 => ("SmokeWordModel", "word", "[J", true)
  | 21 => ("SmokeWordModel", "said", "[I", true)
  | 22 => ("SmokeWordModel", "force", "I", false)
  | 23 => ("SmokeWordModel", "x", "I", false)
  | 24 => ("SmokeWordModel", "row", "[I", true)
  | 25 => ("SmokeWordModel", "rowMany", "I", false)
  | 26 => ("SmokeWordModel", "rowAt", "I", false)
  | 27 => ("SmokeWordModel", "savedThen", "I", false)
  | 28 => ("SmokeWordModel", "leapers", "I", false)
  | 29 => ("SmokeWordModel", "came", "I", false)
  | 30 => ("SmokeWordModel", "wasSaid", "[I", true)
  | 31 => ("SmokeWordModel", "undone", "I", false)
  | 32 => ("SmokeWordModel", "kept", "[I", true)
  | 33 => ("SmokeWordModel", "bestRow", "[I", true)
  | 34 => ("SmokeWordModel", "orderMost", "I", false)
  | 35 => ("SmokeWordModel", "hasBy", "[I", true)
  | 36 => ("SmokeWordModel", "isFit", "[Z", true)
  | 37 => ("SmokeWordModel", "placeBy", "[I", true)
  | 38 => ("SmokeWordModel", "drawX", "J", false)
  | 39 => ("SmokeWordModel", "images", "[I", true)
  | 40 => ("SmokeWordModel", "imageForce", "[I", true)
  | 41 => ("SmokeWordModel", "imageX", "[I", true)
  | _ => ("SmokeWordModel", "isMade", "[Z", true)
def tyX12 : Nat → FieldType := fun k => match k with
  | 0 => .array .byte
  | 1 => .int
  | 2 => .int
  | 3 => .array .int
  | 4 => .array .int
  | 5 => .array .int
  | 6 => .array .int
  | 7 => .array .int
  | 8 => .int
  | 9 => .int
  | 10 => .int
  | 11 => .int
  | 12 => .int
  | 13 => .int
  | 14 => .int
  | 15 => .array .int
  | 16 => .int
  | 17 => .int
  | 18 => .array .long
  | 19 => .int
  | 20 => .array .long
  | 21 => .array .int
  | 22 => .int
  | 23 => .int
  | 24 => .array .int
  | 25 => .int
  | 26 => .int
  | 27 => .int
  | 28 => .int
  | 29 => .int
  | 30 => .array .int
  | 31 => .int
  | 32 => .array .int
  | 33 => .array .int
  | 34 => .int
  | 35 => .array .int
  | 36 => .array .boolean
  | 37 => .array .int
  | 38 => .long
  | 39 => .array .int
  | 40 => .array .int
  | 41 => .array .int
  | _ => .array .boolean
theorem nmX12 : ∀ a, a < 43 → ∀ b, b < 43 → a ≠ b → (TX12 a).2.1 ≠ (TX12 b).2.1 := by decide +kernel
theorem tyX12_ok : ∀ k, k < 43 → parseFieldDescriptor (TX12 k).2.2.1 = some (tyX12 k) := by decide +kernel
abbrev cX12_init : ByteArray := prog_14_method_1_code
def yX12_init : MethodName := ⟨RX12, "<init>", "()V"⟩
abbrev cX12_in : ByteArray := prog_14_method_2_code
def yX12_in : MethodName := ⟨RX12, "in", "(JJJ)Z"⟩
abbrev cX12_isOf : ByteArray := prog_14_method_3_code
def yX12_isOf : MethodName := ⟨RX12, "isOf", "(II)Z"⟩
abbrev cX12_bits : ByteArray := prog_14_method_4_code
def yX12_bits : MethodName := ⟨RX12, "bits", "(I)I"⟩
abbrev cX12_four : ByteArray := prog_14_method_5_code
def yX12_four : MethodName := ⟨RX12, "four", "(I)V"⟩
abbrev cX12_feed : ByteArray := prog_14_method_6_code
def yX12_feed : MethodName := ⟨RX12, "feed", "(IIIII)I"⟩
abbrev cX12_end : ByteArray := prog_14_method_7_code
def yX12_end : MethodName := ⟨RX12, "end", "(I)I"⟩
abbrev cX12_fails : ByteArray := prog_14_method_8_code
def yX12_fails : MethodName := ⟨RX12, "fails", "(II)Z"⟩
abbrev cX12_see : ByteArray := prog_14_method_9_code
def yX12_see : MethodName := ⟨RX12, "see", "()I"⟩
abbrev cX12_isDigit : ByteArray := prog_14_method_10_code
def yX12_isDigit : MethodName := ⟨RX12, "isDigit", "(I)Z"⟩
abbrev cX12_isLetter : ByteArray := prog_14_method_11_code
def yX12_isLetter : MethodName := ⟨RX12, "isLetter", "(I)Z"⟩
abbrev cX12_isWord : ByteArray := prog_14_method_12_code
def yX12_isWord : MethodName := ⟨RX12, "isWord", "(J)Z"⟩
abbrev cX12_passWord : ByteArray := prog_14_method_13_code
def yX12_passWord : MethodName := ⟨RX12, "passWord", "()V"⟩
abbrev cX12_takesWord : ByteArray := prog_14_method_14_code
def yX12_takesWord : MethodName := ⟨RX12, "takesWord", "(J)Z"⟩
abbrev cX12_numberHere : ByteArray := prog_14_method_15_code
def yX12_numberHere : MethodName := ⟨RX12, "numberHere", "(II)Z"⟩
abbrev cX12_wordHere : ByteArray := prog_14_method_16_code
def yX12_wordHere : MethodName := ⟨RX12, "wordHere", "()I"⟩
abbrev cX12_puts : ByteArray := prog_14_method_17_code
def yX12_puts : MethodName := ⟨RX12, "puts", "(II)V"⟩
abbrev cX12_makes : ByteArray := prog_14_method_18_code
def yX12_makes : MethodName := ⟨RX12, "makes", "(I)Z"⟩
abbrev cX12_opens : ByteArray := prog_14_method_19_code
def yX12_opens : MethodName := ⟨RX12, "opens", "(I)Z"⟩
abbrev cX12_strength : ByteArray := prog_14_method_20_code
def yX12_strength : MethodName := ⟨RX12, "strength", "(I)I"⟩
abbrev cX12_layDown : ByteArray := prog_14_method_21_code
def yX12_layDown : MethodName := ⟨RX12, "layDown", "(I)V"⟩
abbrev cX12_value : ByteArray := prog_14_method_22_code
def yX12_value : MethodName := ⟨RX12, "value", "()Z"⟩
abbrev cX12_term : ByteArray := prog_14_method_23_code
def yX12_term : MethodName := ⟨RX12, "term", "()Z"⟩
abbrev cX12_sum : ByteArray := prog_14_method_24_code
def yX12_sum : MethodName := ⟨RX12, "sum", "()Z"⟩
abbrev cX12_compare : ByteArray := prog_14_method_25_code
def yX12_compare : MethodName := ⟨RX12, "compare", "()Z"⟩
abbrev cX12_fact : ByteArray := prog_14_method_26_code
def yX12_fact : MethodName := ⟨RX12, "fact", "()Z"⟩
abbrev cX12_isInside : ByteArray := prog_14_method_27_code
def yX12_isInside : MethodName := ⟨RX12, "isInside", "()Z"⟩
abbrev cX12_closes : ByteArray := prog_14_method_28_code
def yX12_closes : MethodName := ⟨RX12, "closes", "()V"⟩
abbrev cX12_tested : ByteArray := prog_14_method_29_code
def yX12_tested : MethodName := ⟨RX12, "tested", "()Z"⟩
abbrev cX12_isGoHere : ByteArray := prog_14_method_30_code
def yX12_isGoHere : MethodName := ⟨RX12, "isGoHere", "()Z"⟩
abbrev cX12_cellHere : ByteArray := prog_14_method_31_code
def yX12_cellHere : MethodName := ⟨RX12, "cellHere", "(III)Z"⟩
abbrev cX12_isValleyHere : ByteArray := prog_14_method_32_code
def yX12_isValleyHere : MethodName := ⟨RX12, "isValleyHere", "(I)Z"⟩
abbrev cX12_isHouseHere : ByteArray := prog_14_method_33_code
def yX12_isHouseHere : MethodName := ⟨RX12, "isHouseHere", "(I)Z"⟩
abbrev cX12_areTwoHere : ByteArray := prog_14_method_34_code
def yX12_areTwoHere : MethodName := ⟨RX12, "areTwoHere", "(I)Z"⟩
abbrev cX12_isRoadHere : ByteArray := prog_14_method_35_code
def yX12_isRoadHere : MethodName := ⟨RX12, "isRoadHere", "()Z"⟩
abbrev cX12_isBesideHere : ByteArray := prog_14_method_36_code
def yX12_isBesideHere : MethodName := ⟨RX12, "isBesideHere", "()Z"⟩
abbrev cX12_valleyLineHere : ByteArray := prog_14_method_37_code
def yX12_valleyLineHere : MethodName := ⟨RX12, "valleyLineHere", "(I)Z"⟩
abbrev cX12_isValleyWord : ByteArray := prog_14_method_38_code
def yX12_isValleyWord : MethodName := ⟨RX12, "isValleyWord", "()Z"⟩
abbrev cX12_clauseHere : ByteArray := prog_14_method_39_code
def yX12_clauseHere : MethodName := ⟨RX12, "clauseHere", "()Z"⟩
abbrev cX12_readsAll : ByteArray := prog_14_method_40_code
def yX12_readsAll : MethodName := ⟨RX12, "readsAll", "()Z"⟩
abbrev cX12_rule : ByteArray := prog_14_method_41_code
def yX12_rule : MethodName := ⟨RX12, "rule", "()I"⟩
abbrev cX12_valley : ByteArray := prog_14_method_42_code
def yX12_valley : MethodName := ⟨RX12, "valley", "()I"⟩
abbrev cX12_isRule : ByteArray := prog_14_method_43_code
def yX12_isRule : MethodName := ⟨RX12, "isRule", "(I)Z"⟩
abbrev cX12_push : ByteArray := prog_14_method_44_code
def yX12_push : MethodName := ⟨RX12, "push", "(J)V"⟩
abbrev cX12_pop : ByteArray := prog_14_method_45_code
def yX12_pop : MethodName := ⟨RX12, "pop", "()J"⟩
abbrev cX12_one : ByteArray := prog_14_method_46_code
def yX12_one : MethodName := ⟨RX12, "one", "(IJJ)J"⟩
abbrev cX12_reckons : ByteArray := prog_14_method_47_code
def yX12_reckons : MethodName := ⟨RX12, "reckons", "(III)J"⟩
abbrev cX12_isValley : ByteArray := prog_14_method_48_code
def yX12_isValley : MethodName := ⟨RX12, "isValley", "()Z"⟩
abbrev cX12_isHouse : ByteArray := prog_14_method_49_code
def yX12_isHouse : MethodName := ⟨RX12, "isHouse", "(I)Z"⟩
abbrev cX12_worthOf : ByteArray := prog_14_method_50_code
def yX12_worthOf : MethodName := ⟨RX12, "worthOf", "(I)I"⟩
abbrev cX12_heatOf : ByteArray := prog_14_method_51_code
def yX12_heatOf : MethodName := ⟨RX12, "heatOf", "(I)I"⟩
abbrev cX12_saysOf : ByteArray := prog_14_method_52_code
def yX12_saysOf : MethodName := ⟨RX12, "saysOf", "(I)I"⟩
abbrev cX12_farOf : ByteArray := prog_14_method_53_code
def yX12_farOf : MethodName := ⟨RX12, "farOf", "(II)I"⟩
abbrev cX12_fires : ByteArray := prog_14_method_54_code
def yX12_fires : MethodName := ⟨RX12, "fires", "()I"⟩
abbrev cX12_worthAll : ByteArray := prog_14_method_55_code
def yX12_worthAll : MethodName := ⟨RX12, "worthAll", "()I"⟩
abbrev cX12_lostOf : ByteArray := prog_14_method_56_code
def yX12_lostOf : MethodName := ⟨RX12, "lostOf", "(I)I"⟩
abbrev cX12_lostAll : ByteArray := prog_14_method_57_code
def yX12_lostAll : MethodName := ⟨RX12, "lostAll", "()I"⟩
abbrev cX12_measures : ByteArray := prog_14_method_58_code
def yX12_measures : MethodName := ⟨RX12, "measures", "()V"⟩
abbrev cX12_begins : ByteArray := prog_14_method_59_code
def yX12_begins : MethodName := ⟨RX12, "begins", "()V"⟩
abbrev cX12_force : ByteArray := prog_14_method_60_code
def yX12_force : MethodName := ⟨RX12, "force", "(I)I"⟩
abbrev cX12_house : ByteArray := prog_14_method_61_code
def yX12_house : MethodName := ⟨RX12, "house", "(II)I"⟩
abbrev cX12_isPlace : ByteArray := prog_14_method_62_code
def yX12_isPlace : MethodName := ⟨RX12, "isPlace", "(I)Z"⟩
abbrev cX12_far : ByteArray := prog_14_method_63_code
def yX12_far : MethodName := ⟨RX12, "far", "(II)I"⟩
abbrev cX12_summedBy : ByteArray := prog_14_method_64_code
def yX12_summedBy : MethodName := ⟨RX12, "summedBy", "(I)J"⟩
abbrev cX12_sumOf : ByteArray := prog_14_method_65_code
def yX12_sumOf : MethodName := ⟨RX12, "sumOf", "(I)J"⟩
abbrev cX12_choice : ByteArray := prog_14_method_66_code
def yX12_choice : MethodName := ⟨RX12, "choice", "()I"⟩
abbrev cX12_nextOfRow : ByteArray := prog_14_method_67_code
def yX12_nextOfRow : MethodName := ⟨RX12, "nextOfRow", "()I"⟩
abbrev cX12_isOnItsWay : ByteArray := prog_14_method_68_code
def yX12_isOnItsWay : MethodName := ⟨RX12, "isOnItsWay", "()Z"⟩
abbrev cX12_whereItIs : ByteArray := prog_14_method_69_code
def yX12_whereItIs : MethodName := ⟨RX12, "whereItIs", "()I"⟩
abbrev cX12_sends : ByteArray := prog_14_method_70_code
def yX12_sends : MethodName := ⟨RX12, "sends", "(I)V"⟩
abbrev cX12_goes : ByteArray := prog_14_method_71_code
def yX12_goes : MethodName := ⟨RX12, "goes", "()V"⟩
abbrev cX12_comes : ByteArray := prog_14_method_72_code
def yX12_comes : MethodName := ⟨RX12, "comes", "()I"⟩
abbrev cX12_burns : ByteArray := prog_14_method_73_code
def yX12_burns : MethodName := ⟨RX12, "burns", "()V"⟩
abbrev cX12_passes : ByteArray := prog_14_method_74_code
def yX12_passes : MethodName := ⟨RX12, "passes", "()I"⟩
abbrev cX12_passesAll : ByteArray := prog_14_method_75_code
def yX12_passesAll : MethodName := ⟨RX12, "passesAll", "(I)V"⟩
abbrev cX12_keepsAct : ByteArray := prog_14_method_76_code
def yX12_keepsAct : MethodName := ⟨RX12, "keepsAct", "()V"⟩
abbrev cX12_undo : ByteArray := prog_14_method_77_code
def yX12_undo : MethodName := ⟨RX12, "undo", "()I"⟩
abbrev cX12_hour : ByteArray := prog_14_method_78_code
def yX12_hour : MethodName := ⟨RX12, "hour", "()I"⟩
abbrev cX12_canLight : ByteArray := prog_14_method_79_code
def yX12_canLight : MethodName := ⟨RX12, "canLight", "(I)Z"⟩
abbrev cX12_light : ByteArray := prog_14_method_80_code
def yX12_light : MethodName := ⟨RX12, "light", "(I)I"⟩
abbrev cX12_douse : ByteArray := prog_14_method_81_code
def yX12_douse : MethodName := ⟨RX12, "douse", "(I)I"⟩
abbrev cX12_say : ByteArray := prog_14_method_82_code
def yX12_say : MethodName := ⟨RX12, "say", "(II)I"⟩
abbrev cX12_send : ByteArray := prog_14_method_83_code
def yX12_send : MethodName := ⟨RX12, "send", "(I)I"⟩
abbrev cX12_keeps : ByteArray := prog_14_method_84_code
def yX12_keeps : MethodName := ⟨RX12, "keeps", "()V"⟩
abbrev cX12_laysBack : ByteArray := prog_14_method_85_code
def yX12_laysBack : MethodName := ⟨RX12, "laysBack", "()V"⟩
abbrev cX12_ahead : ByteArray := prog_14_method_86_code
def yX12_ahead : MethodName := ⟨RX12, "ahead", "(III)I"⟩
abbrev cX12_worthIn : ByteArray := prog_14_method_87_code
def yX12_worthIn : MethodName := ⟨RX12, "worthIn", "(I)I"⟩
abbrev cX12_left : ByteArray := prog_14_method_88_code
def yX12_left : MethodName := ⟨RX12, "left", "(I)I"⟩
abbrev cX12_out : ByteArray := prog_14_method_89_code
def yX12_out : MethodName := ⟨RX12, "out", "()I"⟩
abbrev cX12_canBurn : ByteArray := prog_14_method_90_code
def yX12_canBurn : MethodName := ⟨RX12, "canBurn", "()I"⟩
abbrev cX12_isInRow : ByteArray := prog_14_method_91_code
def yX12_isInRow : MethodName := ⟨RX12, "isInRow", "(II)Z"⟩
abbrev cX12_weighsRow : ByteArray := prog_14_method_92_code
def yX12_weighsRow : MethodName := ⟨RX12, "weighsRow", "(II)V"⟩
abbrev cX12_findsOrder : ByteArray := prog_14_method_93_code
def yX12_findsOrder : MethodName := ⟨RX12, "findsOrder", "(II)V"⟩
abbrev cX12_order : ByteArray := prog_14_method_94_code
def yX12_order : MethodName := ⟨RX12, "order", "(II)I"⟩
abbrev cX12_comesTo : ByteArray := prog_14_method_95_code
def yX12_comesTo : MethodName := ⟨RX12, "comesTo", "(II)Z"⟩
abbrev cX12_heard : ByteArray := prog_14_method_96_code
def yX12_heard : MethodName := ⟨RX12, "heard", "(I)I"⟩
abbrev cX12_withWorth : ByteArray := prog_14_method_97_code
def yX12_withWorth : MethodName := ⟨RX12, "withWorth", "()I"⟩
abbrev cX12_water : ByteArray := prog_14_method_98_code
def yX12_water : MethodName := ⟨RX12, "water", "(I)I"⟩
abbrev cX12_clear : ByteArray := prog_14_method_99_code
def yX12_clear : MethodName := ⟨RX12, "clear", "(II)I"⟩
abbrev cX12_silent : ByteArray := prog_14_method_100_code
def yX12_silent : MethodName := ⟨RX12, "silent", "(II)I"⟩
abbrev cX12_pence : ByteArray := prog_14_method_101_code
def yX12_pence : MethodName := ⟨RX12, "pence", "(II)I"⟩
abbrev cX12_isRest : ByteArray := prog_14_method_102_code
def yX12_isRest : MethodName := ⟨RX12, "isRest", "(II)Z"⟩
abbrev cX12_rests : ByteArray := prog_14_method_103_code
def yX12_rests : MethodName := ⟨RX12, "rests", "(IIII)I"⟩
abbrev cX12_first : ByteArray := prog_14_method_104_code
def yX12_first : MethodName := ⟨RX12, "first", "(I)I"⟩
abbrev cX12_note : ByteArray := prog_14_method_105_code
def yX12_note : MethodName := ⟨RX12, "note", "(II)I"⟩
abbrev cX12_spot : ByteArray := prog_14_method_106_code
def yX12_spot : MethodName := ⟨RX12, "spot", "(II)I"⟩
abbrev cX12_areNotesSo : ByteArray := prog_14_method_107_code
def yX12_areNotesSo : MethodName := ⟨RX12, "areNotesSo", "(I)Z"⟩
abbrev cX12_fillsFits : ByteArray := prog_14_method_108_code
def yX12_fillsFits : MethodName := ⟨RX12, "fillsFits", "()V"⟩
abbrev cX12_ruled : ByteArray := prog_14_method_109_code
def yX12_ruled : MethodName := ⟨RX12, "ruled", "(I)I"⟩
abbrev cX12_alikeAt : ByteArray := prog_14_method_110_code
def yX12_alikeAt : MethodName := ⟨RX12, "alikeAt", "(I)I"⟩
abbrev cX12_look : ByteArray := prog_14_method_111_code
def yX12_look : MethodName := ⟨RX12, "look", "(I)I"⟩
abbrev cX12_seed : ByteArray := prog_14_method_112_code
def yX12_seed : MethodName := ⟨RX12, "seed", "(I)I"⟩
abbrev cX12_draw : ByteArray := prog_14_method_113_code
def yX12_draw : MethodName := ⟨RX12, "draw", "(I)I"⟩
abbrev cX12_sparksOn : ByteArray := prog_14_method_114_code
def yX12_sparksOn : MethodName := ⟨RX12, "sparksOn", "(I)V"⟩
abbrev cX12_sparks : ByteArray := prog_14_method_115_code
def yX12_sparks : MethodName := ⟨RX12, "sparks", "(IIII)I"⟩
abbrev cX12_count : ByteArray := prog_14_method_116_code
def yX12_count : MethodName := ⟨RX12, "count", "(I)I"⟩
abbrev cX12_image : ByteArray := prog_14_method_117_code
def yX12_image : MethodName := ⟨RX12, "image", "(I)I"⟩
abbrev cX12_back : ByteArray := prog_14_method_118_code
def yX12_back : MethodName := ⟨RX12, "back", "(I)I"⟩
def RJx145de : String := "java/io/Serializable"
def RJx9f9b0 : String := "java/lang/CharSequence"
def RJx8e188 : String := "java/lang/Cloneable"
def RJxb160c : String := "java/lang/Comparable"
def RJ6 : String := "java/lang/Integer"
abbrev cJ6_bitCount_0f7a4 : ByteArray := prog_16_method_49_code
def yJ6_bitCount_0f7a4 : MethodName := ⟨RJ6, "bitCount", "(I)I"⟩
def RJ9 : String := "java/lang/Math"
abbrev cJ9_max_7cf53 : ByteArray := prog_17_method_65_code
def yJ9_max_7cf53 : MethodName := ⟨RJ9, "max", "(II)I"⟩
abbrev cJ9_min_7cf53 : ByteArray := prog_17_method_69_code
def yJ9_min_7cf53 : MethodName := ⟨RJ9, "min", "(II)I"⟩
def RJ0 : String := "java/lang/String"
abbrev cJ0_length_8abf5 : ByteArray := prog_18_method_54_code
def yJ0_length_8abf5 : MethodName := ⟨RJ0, "length", "()I"⟩
abbrev cJ0_charAt_5068e : ByteArray := prog_18_method_56_code
def yJ0_charAt_5068e : MethodName := ⟨RJ0, "charAt", "(I)C"⟩
abbrev cJ0_coder_7d493 : ByteArray := prog_18_method_152_code
def yJ0_coder_7d493 : MethodName := ⟨RJ0, "coder", "()B"⟩
abbrev cJ0_isLatin1_aae02 : ByteArray := prog_18_method_154_code
def yJ0_isLatin1_aae02 : MethodName := ⟨RJ0, "isLatin1", "()Z"⟩
abbrev cJ0_checkIndex_df160 : ByteArray := prog_18_method_155_code
def yJ0_checkIndex_df160 : MethodName := ⟨RJ0, "checkIndex", "(II)V"⟩
def RJ1 : String := "java/lang/StringLatin1"
abbrev cJ1_charAt_3b067 : ByteArray := prog_19_method_2_code
def yJ1_charAt_3b067 : MethodName := ⟨RJ1, "charAt", "([BI)C"⟩
def RJ2 : String := "java/lang/StringUTF16"
abbrev cJ2_getChar_3b067 : ByteArray := prog_20_method_5_code
def yJ2_getChar_3b067 : MethodName := ⟨RJ2, "getChar", "([BI)C"⟩
abbrev cJ2_length_9d52b : ByteArray := prog_20_method_6_code
def yJ2_length_9d52b : MethodName := ⟨RJ2, "length", "([B)I"⟩
abbrev cJ2_charAt_3b067 : ByteArray := prog_20_method_83_code
def yJ2_charAt_3b067 : MethodName := ⟨RJ2, "charAt", "([BI)C"⟩
abbrev cJ2_checkIndex_2214a : ByteArray := prog_20_method_91_code
def yJ2_checkIndex_2214a : MethodName := ⟨RJ2, "checkIndex", "(I[B)V"⟩
def RJ10 : String := "java/lang/System"
def RJxfd54e : String := "java/lang/constant/Constable"
def RJx3cf43 : String := "java/lang/constant/ConstantDesc"
def RJ7 : String := "java/util/Arrays"
abbrev cJ7_copyOf_59c91 : ByteArray := prog_22_method_123_code
def yJ7_copyOf_59c91 : MethodName := ⟨RJ7, "copyOf", "([II)[I"⟩
def RJ3 : String := "jdk/internal/util/Preconditions"
abbrev cJ3_checkIndex_8e157 : ByteArray := prog_23_method_11_code
def yJ3_checkIndex_8e157 : MethodName := ⟨RJ3, "checkIndex", "(IILjava/util/function/BiFunction;)I"⟩
def RL : String := "SmokeWordLaw"
abbrev cL_law : ByteArray := code
def yL_law : MethodName := ⟨RL, "law", "([I)Z"⟩
end
section
/-! ===== the kinds of cells ===== -/
def kA : kInfo := .inl ((-2147483648), 2147483647)
def kL : kInfo := .inr (.inl ((-9223372036854775808), 9223372036854775807))
def gTT : List kDesc := [.inl (11, [.inr (.inr (.inl (false, [1]))), .inr (.inr (.inl (false, [2]))), .inr (.inr (.inl (false, [20]))), .inr (.inr (.inl (false, [21]))), .inl (0, 6), .inr (.inr (.inl (false, [22]))), .inl (0, 19), .inl (0, 20), .inr (.inr (.inl (false, [5]))), .inr (.inr (.inl (false, [6]))), .inr (.inr (.inl (false, [7]))), .inr (.inr (.inl (false, [8]))), .inr (.inr (.inl (false, [9]))), .inr (.inr (.inl (false, [10])))]),
  .inl (7, [.inr (.inr (.inl (false, [12]))), .inl (0, 400), .inr (.inr (.inl (false, [13]))), .inr (.inr (.inl (false, [14]))), .inr (.inr (.inl (false, [15]))), .inl (0, 400), kA]),
  .inl (10, [.inr (.inr (.inl (false, [3]))), .inr (.inr (.inl (false, [4]))), .inr (.inr (.inl (false, [18]))), .inr (.inr (.inl (false, [19]))), .inl (0, 10), .inl (0, 2147483647), .inl ((-1), 5)]),
  .inl (8, [.inl (0, 1), kA, kA, .inl (0, 6), .inr (.inr (.inl (false, [16]))), .inr (.inr (.inl (false, [16]))), .inr (.inr (.inl (false, [16]))), .inr (.inr (.inl (false, [16]))), .inr (.inr (.inl (false, [17])))]),
  .inl (6, [.inr (.inr (.inl (false, [16]))), .inr (.inr (.inl (false, [16]))), .inr (.inr (.inl (false, [16]))), .inr (.inr (.inl (false, [16]))), kA, kA, .inl (0, 6), .inl ((-1), 6), kA]),
  .inl (9, [.inr (.inr (.inl (false, [1]))), .inr (.inr (.inl (false, [3])))]),
  .inl (5, [.inr (.inr (.inl (false, [1]))), .inr (.inr (.inl (false, [23]))), .inl (0, 400), .inr (.inr (.inl (false, [24]))), .inl (0, 12), kA]),
  .inl (1, [.inr (.inr (.inl (false, [2]))), .inr (.inr (.inl (false, [3]))), .inr (.inr (.inl (false, [21]))), .inr (.inr (.inl (false, [4]))), .inr (.inr (.inl (false, [25]))), .inr (.inr (.inl (true, [53, 54, 55, 56, 57, 58, 59, 60, 61, 62, 63, 64, 65]))), kA, kA, kA, kA, kA]),
  .inl (0, [.inr (.inr (.inl (false, [2]))), .inr (.inr (.inl (false, [3]))), .inr (.inr (.inl (false, [7]))), .inr (.inr (.inl (false, [27]))), .inr (.inr (.inl (false, [28]))), .inr (.inr (.inl (false, [28])))]),
  .inl (3, [.inr (.inr (.inl (false, [7]))), .inr (.inr (.inl (false, [26]))), .inr (.inr (.inl (false, [16]))), .inr (.inr (.inl (false, [16]))), kA, kA, kA]),
  .inl (2, [.inr (.inr (.inl (false, [2]))), .inr (.inr (.inl (false, [7]))), .inr (.inr (.inl (false, [29]))), .inr (.inr (.inl (false, [30]))), .inl (0, 7), kA, kA, kA, kA, kA]),
  .inl (12, [.inr (.inr (.inl (false, [32]))), .inl (0, 400), .inl (0, 6), .inr (.inr (.inl (false, [33]))), .inr (.inr (.inl (false, [34]))), .inr (.inr (.inl (false, [35]))), .inr (.inr (.inl (false, [36]))), .inr (.inr (.inl (false, [37]))), .inl (0, 400), kA, kA, .inl (0, 6), kA, kA, kA, .inr (.inr (.inl (false, [38]))), .inl (0, 400), kA, .inr (.inr (.inl (false, [39]))), .inl (0, 64), .inr (.inr (.inl (false, [40]))), .inr (.inr (.inl (false, [41]))), .inl ((-1), 5), .inl (0, 2147483647), .inr (.inr (.inl (false, [42]))), .inl ((-1), 6), .inl (0, 6), kA, kA, kA, .inr (.inr (.inl (false, [43]))), .inl (0, 20), .inr (.inr (.inl (false, [44]))), .inr (.inr (.inl (false, [45]))), kA, .inr (.inr (.inl (false, [46]))), .inr (.inr (.inl (false, [47]))), .inr (.inr (.inl (false, [48]))), .inr (.inl (0, 2147483647)), .inr (.inr (.inl (false, [49]))), .inr (.inr (.inl (false, [50]))), .inr (.inr (.inl (false, [51]))), .inr (.inr (.inl (false, [52])))]),
  .inr (1, 400, 400, [], .inl ((-128), 127)),
  .inr (0, 401, 401, [], kA),
  .inr (0, 401, 401, [], .inl (0, 400)),
  .inr (0, 401, 401, [], kA),
  .inr (0, 6, 6, [], kA),
  .inr (0, 49, 49, [], kA),
  .inr (0, 10, 10, [], .inl (0, 60)),
  .inr (0, 10, 10, [], kA),
  .inr (5, 4, 4, [], .inr (.inr (.inl (true, [2])))),
  .inr (6, 6, 6, [], .inr (.inr (.inl (true, [53, 54, 55, 56, 57, 58, 59, 60, 61, 62, 63, 64, 65])))),
  .inr (4, 20, 20, [], .inr (.inr (.inl (false, [4])))),
  .inr (0, 400, 400, [], kA),
  .inr (0, 25, 25, [], .inl (0, 400)),
  .inr (3, 64, 64, [], kL),
  .inr (4, 7, 7, [], .inr (.inr (.inl (false, [4])))),
  .inr (0, 3, 3, [], kA),
  .inr (0, 25, 25, [], kA),
  .inr (0, 427, 427, [], .inl (0, 6)),
  .inr (0, 7, 7, [], kA),
  .inr (0, 0, 400, [], kA),
  .inr (1, 400, 400, [], .inl ((-128), 127)),
  .inr (0, 2400, 2400, [], kA),
  .inr (0, 7, 7, [], .inl (0, 400)),
  .inr (0, 288, 288, [], kA),
  .inr (0, 6, 6, [], .inl (0, 12)),
  .inr (0, 111, 111, [(3, 3, .inl (0, 6)), (11, 12, .inl (0, 0))], kA),
  .inr (0, 400, 400, [], kA),
  .inr (3, 64, 64, [], kL),
  .inr (3, 11, 11, [], kL),
  .inr (0, 132, 132, [(3, 3, .inl (0, 6)), (11, 12, .inl ((-1), 7)), (111, 130, .inl (0, 60)), (131, 131, .inl (0, 10))], kA),
  .inr (0, 6, 6, [], .inl ((-1), 6)),
  .inr (0, 560, 560, [(1, 2, .inl ((-1), 7)), (29, 30, .inl ((-1), 7)), (57, 58, .inl ((-1), 7)), (85, 86, .inl ((-1), 7)), (113, 114, .inl ((-1), 7)), (141, 142, .inl ((-1), 7)), (169, 170, .inl ((-1), 7)), (197, 198, .inl ((-1), 7)), (225, 226, .inl ((-1), 7)), (253, 254, .inl ((-1), 7)), (281, 282, .inl ((-1), 7)), (309, 310, .inl ((-1), 7)), (337, 338, .inl ((-1), 7)), (365, 366, .inl ((-1), 7)), (393, 394, .inl ((-1), 7)), (421, 422, .inl ((-1), 7)), (449, 450, .inl ((-1), 7)), (477, 478, .inl ((-1), 7)), (505, 506, .inl ((-1), 7)), (533, 534, .inl ((-1), 7))], kA),
  .inr (0, 28, 28, [(1, 2, .inl ((-1), 7))], kA),
  .inr (0, 6, 6, [], kA),
  .inr (0, 50, 50, [], kA),
  .inr (2, 7, 7, [], .inl (0, 1)),
  .inr (0, 427, 427, [], kA),
  .inr (0, 528, 528, [(3, 3, .inl (0, 6)), (11, 12, .inl ((-1), 7)), (111, 130, .inl (0, 60)), (131, 131, .inl (0, 10)), (135, 135, .inl (0, 6)), (143, 144, .inl ((-1), 7)), (243, 262, .inl (0, 60)), (263, 263, .inl (0, 10)), (267, 267, .inl (0, 6)), (275, 276, .inl ((-1), 7)), (375, 394, .inl (0, 60)), (395, 395, .inl (0, 10)), (399, 399, .inl (0, 6)), (407, 408, .inl ((-1), 7)), (507, 526, .inl (0, 60)), (527, 527, .inl (0, 10))], kA),
  .inr (0, 4, 4, [], .inl ((-1), 5)),
  .inr (0, 4, 4, [], .inl (0, 2147483647)),
  .inr (2, 4, 4, [], .inl (0, 1)),
  .inl (4, [.inr (.inr (.inl (false, [31]))), .inr (.inr (.inl (false, [66]))), .inl (0, 0)]),
  .inl (4, [.inr (.inr (.inl (false, [31]))), .inr (.inr (.inl (false, [67]))), .inl (1, 1)]),
  .inl (4, [.inr (.inr (.inl (false, [31]))), .inr (.inr (.inl (false, [68]))), .inl (2, 2)]),
  .inl (4, [.inr (.inr (.inl (false, [31]))), .inr (.inr (.inl (false, [69]))), .inl (3, 3)]),
  .inl (4, [.inr (.inr (.inl (false, [31]))), .inr (.inr (.inl (false, [70]))), .inl (4, 4)]),
  .inl (4, [.inr (.inr (.inl (false, [31]))), .inr (.inr (.inl (false, [71]))), .inl (5, 5)]),
  .inl (4, [.inr (.inr (.inl (false, [31]))), .inr (.inr (.inl (false, [72]))), .inl (6, 6)]),
  .inl (4, [.inr (.inr (.inl (false, [31]))), .inr (.inr (.inl (false, [73]))), .inl (7, 7)]),
  .inl (4, [.inr (.inr (.inl (false, [31]))), .inr (.inr (.inl (false, [74]))), .inl (8, 8)]),
  .inl (4, [.inr (.inr (.inl (false, [31]))), .inr (.inr (.inl (false, [75]))), .inl (9, 9)]),
  .inl (4, [.inr (.inr (.inl (false, [31]))), .inr (.inr (.inl (false, [76]))), .inl (10, 10)]),
  .inl (4, [.inr (.inr (.inl (false, [31]))), .inr (.inr (.inl (false, [77]))), .inl (11, 11)]),
  .inl (4, [.inr (.inr (.inl (false, [31]))), .inr (.inr (.inl (false, [78]))), .inl (12, 12)]),
  .inr (0, 1, 1, [], .inl (0, 400)),
  .inr (0, 3, 3, [], .inl (0, 400)),
  .inr (0, 5, 5, [], .inl (0, 400)),
  .inr (0, 7, 7, [], .inl (0, 400)),
  .inr (0, 9, 9, [], .inl (0, 400)),
  .inr (0, 11, 11, [], .inl (0, 400)),
  .inr (0, 13, 13, [], .inl (0, 400)),
  .inr (0, 15, 15, [], .inl (0, 400)),
  .inr (0, 17, 17, [], .inl (0, 400)),
  .inr (0, 19, 19, [], .inl (0, 400)),
  .inr (0, 21, 21, [], .inl (0, 400)),
  .inr (0, 23, 23, [], .inl (0, 400)),
  .inr (0, 25, 25, [], .inl (0, 400))]
def gGS : Nat → List (Nat × Nat)
  | 0 => [(1, 2), (1, 5), (13, 0)]
  | 1 => [(11, 2), (11, 3), (11, 5), (11, 6), (33, 0), (35, 0), (36, 0)]
  | _ => []
def gFL11 : List (Nat × Nat × Nat × Nat) := [(10, 11, 0, 4), (19, 11, 1, 4), (23, 11, 2, 4), (29, 11, 3, 4), (35, 11, 5, 4), (44, 11, 8, 4), (51, 11, 9, 4), (60, 11, 10, 4), (69, 11, 11, 4), (78, 11, 12, 4), (85, 11, 13, 4), (90, 7, 1, 0), (102, 7, 6, 0), (105, 10, 0, 4), (109, 9, 1, 4), (116, 10, 1, 4), (123, 10, 4, 0), (126, 11, 7, 0), (129, 8, 3, 0), (132, 11, 4, 0), (140, 10, 6, 0), (147, 6, 0, 4), (151, 6, 1, 4), (154, 6, 2, 4), (157, 8, 7, 4), (160, 6, 3, 4), (166, 8, 8, 4), (169, 8, 0, 1), (173, 6, 5, 0), (186, 1, 3, 4), (193, 6, 7, 0), (196, 6, 6, 0), (207, 11, 6, 0), (230, 3, 5, 0), (233, 3, 4, 0), (236, 3, 3, 4), (248, 0, 3, 4), (264, 10, 2, 4), (267, 10, 3, 4), (273, 2, 6, 0), (276, 2, 7, 0), (282, 2, 8, 0), (285, 2, 9, 0), (288, 10, 5, 0), (294, 8, 1, 0), (297, 8, 2, 0)]
def gFL0 : List (Nat × Nat × Nat × Nat) := [(9, 0, 3, 4), (15, 0, 4, 4), (18, 0, 5, 4), (21, 0, 0, 4), (25, 10, 0, 4), (31, 0, 1, 4), (32, 0, 2, 4), (41, 1, 3, 4), (51, 6, 5, 0), (58, 10, 1, 4), (59, 8, 3, 0), (64, 6, 0, 4), (67, 8, 7, 4), (70, 6, 2, 4), (77, 1, 10, 0), (80, 1, 9, 0), (91, 6, 1, 4), (102, 6, 4, 0), (108, 8, 4, 4), (112, 10, 5, 0)]
def gFL1 : List (Nat × Nat × Nat × Nat) := [(12, 1, 3, 4), (18, 1, 4, 4), (22, 1, 10, 0), (26, 1, 0, 4), (30, 10, 0, 4), (36, 1, 1, 4), (37, 1, 2, 4), (41, 10, 1, 4), (46, 8, 1, 0), (51, 1, 9, 0), (52, 10, 6, 0), (63, 1, 5, 3), (87, 1, 6, 0), (95, 1, 7, 0), (98, 8, 3, 0), (114, 8, 8, 4), (118, 6, 6, 0), (125, 6, 1, 4), (128, 6, 2, 4), (131, 8, 7, 4), (134, 1, 8, 0), (137, 4, 2, 4), (142, 4, 1, 4), (149, 4, 0, 4), (160, 6, 0, 4), (163, 6, 4, 0), (166, 6, 3, 4), (169, 6, 5, 0), (184, 6, 7, 0), (187, 6, 8, 0), (198, 8, 2, 0)]
def gFL2 : List (Nat × Nat × Nat × Nat) := [(11, 2, 2, 4), (15, 2, 3, 4), (18, 2, 0, 4), (22, 2, 1, 4), (26, 2, 4, 0), (30, 2, 5, 0), (33, 2, 6, 0), (36, 2, 7, 0), (52, 1, 3, 4), (56, 6, 6, 0), (65, 10, 4, 0), (70, 10, 2, 4), (73, 10, 3, 4), (76, 2, 8, 0), (79, 2, 9, 0)]
def gFL3 : List (Nat × Nat × Nat × Nat) := [(11, 3, 1, 4), (17, 3, 2, 4), (21, 3, 3, 4), (24, 3, 0, 4), (34, 1, 3, 4), (48, 3, 4, 0), (52, 6, 5, 0), (55, 3, 6, 0), (58, 3, 5, 0)]
def gFL4 : List (Nat × Nat × Nat × Nat) := [(7, 4, 0, 4), (13, 4, 1, 4), (16, 4, 2, 4)]
def gFL5 : List (Nat × Nat × Nat × Nat) := [(9, 5, 1, 4), (15, 5, 3, 4), (18, 5, 0, 4), (27, 5, 2, 0), (31, 5, 5, 0), (45, 5, 4, 0), (92, 7, 4, 4), (95, 7, 5, 0)]
def gFL6 : List (Nat × Nat × Nat × Nat) := [(9, 6, 0, 4), (15, 6, 1, 4), (18, 6, 2, 4), (21, 6, 3, 4), (24, 6, 7, 0), (34, 6, 4, 0), (37, 6, 5, 0), (40, 6, 6, 0), (43, 6, 8, 0), (46, 8, 4, 4), (49, 8, 5, 4), (50, 8, 6, 4)]
def gFL7 : List (Nat × Nat × Nat × Nat) := [(9, 7, 0, 4), (15, 7, 2, 4), (19, 7, 3, 4), (22, 7, 4, 4), (25, 7, 1, 0), (33, 7, 5, 0), (36, 7, 6, 0)]
def gFL8 : List (Nat × Nat × Nat × Nat) := [(9, 8, 4, 4), (15, 8, 5, 4), (18, 8, 6, 4), (21, 8, 7, 4), (24, 8, 8, 4), (27, 8, 0, 1), (31, 8, 1, 0), (35, 8, 2, 0), (38, 8, 3, 0)]
def gFL9 : List (Nat × Nat × Nat × Nat) := [(12, 9, 1, 4), (18, 9, 0, 4), (38, 8, 0, 1), (51, 8, 3, 0), (72, 8, 1, 0), (75, 8, 2, 0), (78, 8, 4, 4), (82, 8, 5, 4), (85, 8, 6, 4)]
def gFL10 : List (Nat × Nat × Nat × Nat) := [(12, 10, 0, 4), (21, 10, 1, 4), (25, 10, 2, 4), (29, 10, 3, 4), (32, 10, 6, 0), (49, 10, 4, 0), (52, 10, 5, 0)]
def gFL12 : List (Nat × Nat × Nat × Nat) := [(7, 12, 0, 4), (13, 12, 3, 4), (17, 12, 4, 4), (20, 12, 5, 4), (23, 12, 6, 4), (26, 12, 7, 4), (29, 12, 15, 4), (32, 12, 18, 4), (36, 12, 20, 4), (39, 12, 21, 4), (42, 12, 22, 0), (46, 12, 24, 4), (49, 12, 25, 0), (52, 12, 30, 4), (55, 12, 32, 4), (58, 12, 33, 4), (61, 12, 35, 4), (64, 12, 36, 4), (68, 12, 37, 4), (71, 12, 39, 4), (74, 12, 40, 4), (77, 12, 41, 4), (80, 12, 42, 4), (83, 12, 1, 0), (90, 12, 9, 0), (93, 12, 8, 0), (118, 12, 10, 0), (147, 12, 11, 0), (150, 12, 12, 0), (153, 12, 13, 0), (156, 12, 16, 0), (223, 12, 17, 0), (252, 12, 14, 0), (264, 12, 2, 0), (276, 12, 31, 0), (279, 12, 19, 0), (303, 12, 27, 0), (345, 12, 26, 0), (363, 12, 28, 0), (375, 12, 29, 0), (411, 12, 34, 0), (452, 12, 23, 0), (455, 12, 38, 2)]
def gCI0 : List (Nat × Int) := [(118, 65536)]
def gCJ0 : List (Nat × Int) := [(126, 1103515245), (128, 12345), (130, 2147483647)]
def gCI1 : List (Nat × Int) := []
def gCJ1 : List (Nat × Int) := []
def gCI2 : List (Nat × Int) := []
def gCJ2 : List (Nat × Int) := []
def gCI3 : List (Nat × Int) := []
def gCJ3 : List (Nat × Int) := []
def gCI4 : List (Nat × Int) := []
def gCJ4 : List (Nat × Int) := []
def gCI5 : List (Nat × Int) := [(98, 100000)]
def gCJ5 : List (Nat × Int) := []
def gCI6 : List (Nat × Int) := []
def gCJ6 : List (Nat × Int) := []
def gCI7 : List (Nat × Int) := [(56, 100000)]
def gCJ7 : List (Nat × Int) := []
def gCI8 : List (Nat × Int) := []
def gCJ8 : List (Nat × Int) := []
def gCI9 : List (Nat × Int) := []
def gCJ9 : List (Nat × Int) := []
def gCI10 : List (Nat × Int) := []
def gCJ10 : List (Nat × Int) := []
def gCI11 : List (Nat × Int) := []
def gCJ11 : List (Nat × Int) := []
def gCI12 : List (Nat × Int) := [(167, 99999)]
def gCJ12 : List (Nat × Int) := [(125, 448546567013), (127, 1935767923), (129, 512970880104), (131, 495757257573), (133, 6709618), (135, 1852137842), (137, 439855768947), (139, 1819243380), (141, 1650812270), (143, 512736126322), (145, 1752135026), (187, 7237492), (207, 6385252), (209, 28530), (211, 26982), (229, 130160802948473), (237, 1919902052), (245, 108187867505765), (250, 26479), (390, 20), (392, 100), (394, 2), (420, 60), (422, (-1)), (424, 5), (435, 9999), (459, 1103515245), (461, 12345), (463, 2147483648), (465, 65536), (467, 10), (475, 3)]
end
section
/-! ===== methods ===== -/
def K_arraycopy_A6_6 : kCtr := ([.inr (.inr (.inl (false, [16]))), .inl (0, 0), .inr (.inr (.inl (false, [16]))), .inl (0, 0), .inl (0, 6)], [], [(none, [], [])], [(16, 0)], [], [])

def K_arraycopy_ways_49 : kCtr := ([.inr (.inr (.inl (false, [17]))), .inl (0, 0), .inr (.inr (.inl (false, [17]))), .inl (0, 0), .inl (0, 49)], [], [(none, [], [])], [(17, 0)], [], [])

def K_arraycopy_noteH_10 : kCtr := ([.inr (.inr (.inl (false, [18]))), .inl (0, 0), .inr (.inr (.inl (false, [18]))), .inl (0, 0), .inl (0, 10)], [], [(none, [], [])], [(18, 0)], [], [])

def K_arraycopy_noteP_10 : kCtr := ([.inr (.inr (.inl (false, [19]))), .inl (0, 0), .inr (.inr (.inl (false, [19]))), .inl (0, 0), .inl (0, 10)], [], [(none, [], [])], [(19, 0)], [], [])

def K_J6_bitCount_0f7a4 : kCtr := ([kA], [], [(some (kA), [], [])], [], [], [])
def I_J6_bitCount_0f7a4 : List (Nat × Instr × Nat) := [(0, .iload_n 0, 1), (1, .iload_n 0, 1), (2, .iconst 1, 1), (3, .iushr, 1), (4, .ldc_w 265, 3), (7, .iand, 1), (8, .isub, 1), (9, .istore_n 0, 1), (10, .iload_n 0, 1), (11, .ldc_w 266, 3), (14, .iand, 1), (15, .iload_n 0, 1), (16, .iconst 2, 1), (17, .iushr, 1), (18, .ldc_w 266, 3), (21, .iand, 1), (22, .iadd, 1), (23, .istore_n 0, 1), (24, .iload_n 0, 1), (25, .iload_n 0, 1), (26, .iconst 4, 1), (27, .iushr, 1), (28, .iadd, 1), (29, .ldc_w 267, 3), (32, .iand, 1), (33, .istore_n 0, 1), (34, .iload_n 0, 1), (35, .iload_n 0, 1), (36, .bipush 8, 2), (38, .iushr, 1), (39, .iadd, 1), (40, .istore_n 0, 1), (41, .iload_n 0, 1), (42, .iload_n 0, 1), (43, .bipush 16, 2), (45, .iushr, 1), (46, .iadd, 1), (47, .istore_n 0, 1), (48, .iload_n 0, 1), (49, .bipush 63, 2), (51, .iand, 1), (52, .ireturn, 1)]
theorem dec_J6_bitCount_0f7a4 : ∀ q ∈ I_J6_bitCount_0f7a4, decode cJ6_bitCount_0f7a4 q.1 = .ok q.2 := by decide +kernel
def M_J6_bitCount_0f7a4 : kM := (I_J6_bitCount_0f7a4, [], [(265, 1431655765), (266, 858993459), (267, 252645135)], [], [], K_J6_bitCount_0f7a4, 1, 1, [], [])
theorem chk_J6_bitCount_0f7a4 : k_check gTT gGS M_J6_bitCount_0f7a4 4000 = true := by decide +kernel

def K_J9_max_7cf53 : kCtr := ([kA, kA], [], [(some (kA), [], [])], [], [], [])

def K_J9_min_0_6 : kCtr := ([.inl (0, 2147483647), .inl (0, 6)], [], [(some (.inl (0, 6)), [], [])], [], [], [])

def K_J9_min_7cf53 : kCtr := ([kA, kA], [], [(some (kA), [], [])], [], [], [])

def K_X7_isDigit : kCtr := ([kA], [], [(some (.inl (0, 1)), [], [])], [], [], [])
def I_X7_isDigit : List (Nat × Instr × Nat) := [(0, .iload_n 0, 1), (1, .bipush 48, 2), (3, .if_icmp .lt 13, 3), (6, .iload_n 0, 1), (7, .bipush 57, 2), (9, .if_icmp .gt 7, 3), (12, .iconst 1, 1), (13, .goto 4, 3), (16, .iconst 0, 1), (17, .ireturn, 1)]
theorem dec_X7_isDigit : ∀ q ∈ I_X7_isDigit, decode cX7_isDigit q.1 = .ok q.2 := by decide +kernel
def M_X7_isDigit : kM := (I_X7_isDigit, gFL7, gCI7, gCJ7, [], K_X7_isDigit, 2, 1, [], [])
theorem chk_X7_isDigit : k_check gTT gGS M_X7_isDigit 4000 = true := by decide +kernel

def K_X7_isSmall : kCtr := ([kA], [], [(some (.inl (0, 1)), [], [])], [], [], [])
def I_X7_isSmall : List (Nat × Instr × Nat) := [(0, .iload_n 0, 1), (1, .bipush 97, 2), (3, .if_icmp .lt 13, 3), (6, .iload_n 0, 1), (7, .bipush 122, 2), (9, .if_icmp .gt 7, 3), (12, .iconst 1, 1), (13, .goto 4, 3), (16, .iconst 0, 1), (17, .ireturn, 1)]
theorem dec_X7_isSmall : ∀ q ∈ I_X7_isSmall, decode cX7_isSmall q.1 = .ok q.2 := by decide +kernel
def M_X7_isSmall : kM := (I_X7_isSmall, gFL7, gCI7, gCJ7, [], K_X7_isSmall, 2, 1, [], [])
theorem chk_X7_isSmall : k_check gTT gGS M_X7_isSmall 4000 = true := by decide +kernel

def K_X7_append : kCtr := ([.inr (.inr (.inl (false, [1]))), kA], [], [(none, [], [])], [(1, 1), (12, 0)], [], [])
def I_X7_append : List (Nat × Instr × Nat) := [(0, .aload_n 0, 1), (1, .getfield 25, 3), (4, .sipush 396, 3), (7, .if_icmp .le 4, 3), (10, .return_, 1), (11, .aload_n 0, 1), (12, .getfield 9, 3), (15, .aload_n 0, 1), (16, .getfield 25, 3), (19, .iload_n 1, 1), (20, .bipush 24, 2), (22, .ishr, 1), (23, .i2b, 1), (24, .bastore, 1), (25, .aload_n 0, 1), (26, .getfield 9, 3), (29, .aload_n 0, 1), (30, .getfield 25, 3), (33, .iconst 1, 1), (34, .iadd, 1), (35, .iload_n 1, 1), (36, .bipush 16, 2), (38, .ishr, 1), (39, .i2b, 1), (40, .bastore, 1), (41, .aload_n 0, 1), (42, .getfield 9, 3), (45, .aload_n 0, 1), (46, .getfield 25, 3), (49, .iconst 2, 1), (50, .iadd, 1), (51, .iload_n 1, 1), (52, .bipush 8, 2), (54, .ishr, 1), (55, .i2b, 1), (56, .bastore, 1), (57, .aload_n 0, 1), (58, .getfield 9, 3), (61, .aload_n 0, 1), (62, .getfield 25, 3), (65, .iconst 3, 1), (66, .iadd, 1), (67, .iload_n 1, 1), (68, .i2b, 1), (69, .bastore, 1), (70, .aload_n 0, 1), (71, .dup, 1), (72, .getfield 25, 3), (75, .iconst 4, 1), (76, .iadd, 1), (77, .putfield 25, 3), (80, .return_, 1)]
theorem dec_X7_append : ∀ q ∈ I_X7_append, decode cX7_append q.1 = .ok q.2 := by decide +kernel
def M_X7_append : kM := (I_X7_append, gFL7, gCI7, gCJ7, [], K_X7_append, 0, 2, [], [])
theorem chk_X7_append : k_check gTT gGS M_X7_append 4000 = true := by decide +kernel

def K_X7_byteAt : kCtr := ([.inr (.inr (.inl (false, [1]))), kA], [], [(some (.inl ((-1), 255)), [], [])], [], [], [])
def I_X7_byteAt : List (Nat × Instr × Nat) := [(0, .iload_n 1, 1), (1, .ifCond .lt 24, 3), (4, .iload_n 1, 1), (5, .aload_n 0, 1), (6, .getfield 25, 3), (9, .if_icmp .ge 16, 3), (12, .aload_n 0, 1), (13, .getfield 9, 3), (16, .iload_n 1, 1), (17, .baload, 1), (18, .sipush 255, 3), (21, .iand, 1), (22, .goto 4, 3), (25, .iconst (-1), 1), (26, .ireturn, 1)]
theorem dec_X7_byteAt : ∀ q ∈ I_X7_byteAt, decode cX7_byteAt q.1 = .ok q.2 := by decide +kernel
def M_X7_byteAt : kM := (I_X7_byteAt, gFL7, gCI7, gCJ7, [], K_X7_byteAt, 1, 2, [], [])
theorem chk_X7_byteAt : k_check gTT gGS M_X7_byteAt 4000 = true := by decide +kernel

def K_X7_is : kCtr := ([.inr (.inr (.inl (false, [1]))), kA, kA, .inr (.inr (.inr ()))], [], [(some (.inl (0, 1)), [], [])], [], [], [])

def K_X7_otherWordFrom : kCtr := ([.inr (.inr (.inl (false, [1]))), kA, kA], [], [(some (kA), [], [])], [], [], [])

def K_X7_wordFrom : kCtr := ([.inr (.inr (.inl (false, [1]))), kA, kA], [], [(some (kA), [], [])], [], [], [])

def K_X7_scanNumber : kCtr := ([.inr (.inr (.inl (false, [1]))), .inl (0, 399), .inl (0, 399)], [], [(some (.inl (0, 400)), [], [])], [(13, 0), (15, 0)], [], [])
def I_X7_scanNumber : List (Nat × Instr × Nat) := [(0, .iconst 0, 1), (1, .istore_n 3, 1), (2, .iload_n 1, 1), (3, .istore 4, 2), (5, .iload 4, 2), (7, .aload_n 0, 1), (8, .getfield 25, 3), (11, .if_icmp .ge 51, 3), (14, .aload_n 0, 1), (15, .getfield 9, 3), (18, .iload 4, 2), (20, .baload, 1), (21, .invokestatic 43, 3), (24, .ifCond .eq 38, 3), (27, .iload 4, 2), (29, .iload_n 1, 1), (30, .isub, 1), (31, .iconst 5, 1), (32, .if_icmp .ge 21, 3), (35, .iload_n 3, 1), (36, .bipush 10, 2), (38, .imul, 1), (39, .aload_n 0, 1), (40, .getfield 9, 3), (43, .iload 4, 2), (45, .baload, 1), (46, .iadd, 1), (47, .bipush 48, 2), (49, .isub, 1), (50, .goto 5, 3), (53, .ldc 56, 2), (55, .istore_n 3, 1), (56, .iinc 4 1, 3), (59, .goto (-54), 3), (62, .aload_n 0, 1), (63, .getfield 15, 3), (66, .iload_n 2, 1), (67, .sipush 256, 3), (70, .iastore, 1), (71, .aload_n 0, 1), (72, .getfield 22, 3), (75, .iload_n 2, 1), (76, .iload_n 3, 1), (77, .iastore, 1), (78, .iload 4, 2), (80, .ireturn, 1)]
theorem dec_X7_scanNumber : ∀ q ∈ I_X7_scanNumber, decode cX7_scanNumber q.1 = .ok q.2 := by decide +kernel
def M_X7_scanNumber : kM := (I_X7_scanNumber, gFL7, gCI7, gCJ7, [(21, K_X7_isDigit)], K_X7_scanNumber, 1, 5, [(5, ([(2, 0, 0), (2, 1, 0), (2, 2, 0), (0, 3, 0), (0, 4, 0)], [.inr (.inr (.inl (false, [1]))), .inl (0, 399), .inl (0, 399), kA, .inl (0, 400)], [(0, .inl 0), (1, .inl 1), (2, .inl 2), (3, .inl 3), (4, .inl 4)], [], [], [.inl 0, .inl 1, .inl 2], [(1, 0, 0), (400, (-1), 4)]))], [])
theorem chk_X7_scanNumber : k_check gTT gGS M_X7_scanNumber 4000 = true := by decide +kernel

def K_X7_scanToken : kCtr := ([.inr (.inr (.inl (false, [1]))), .inl (0, 399), .inl (0, 399)], [], [(some (.inl (0, 402)), [], [])], [(13, 0), (15, 0)], [], [])
def I_X7_scanToken : List (Nat × Instr × Nat) := [(0, .aload_n 0, 1), (1, .iload_n 1, 1), (2, .invokevirtual 39, 3), (5, .istore_n 3, 1), (6, .iload_n 3, 1), (7, .invokestatic 43, 3), (10, .ifCond .eq 10, 3), (13, .aload_n 0, 1), (14, .iload_n 1, 1), (15, .iload_n 2, 1), (16, .invokevirtual 47, 3), (19, .ireturn, 1), (20, .iload_n 3, 1), (21, .invokestatic 50, 3), (24, .ifCond .eq 50, 3), (27, .iload_n 1, 1), (28, .istore 4, 2), (30, .iload 4, 2), (32, .aload_n 0, 1), (33, .getfield 25, 3), (36, .if_icmp .ge 22, 3), (39, .aload_n 0, 1), (40, .getfield 9, 3), (43, .iload 4, 2), (45, .baload, 1), (46, .invokestatic 50, 3), (49, .ifCond .eq 9, 3), (52, .iinc 4 1, 3), (55, .goto (-25), 3), (58, .aload_n 0, 1), (59, .getfield 15, 3), (62, .iload_n 2, 1), (63, .aload_n 0, 1), (64, .iload_n 1, 1), (65, .iload 4, 2), (67, .invokevirtual 53, 3), (70, .iastore, 1), (71, .iload 4, 2), (73, .ireturn, 1), (74, .iload_n 3, 1), (75, .bipush 60, 2), (77, .if_icmp .eq 9, 3), (80, .iload_n 3, 1), (81, .bipush 62, 2), (83, .if_icmp .ne 40, 3), (86, .aload_n 0, 1), (87, .iload_n 1, 1), (88, .iconst 1, 1), (89, .iadd, 1), (90, .invokevirtual 39, 3), (93, .bipush 61, 2), (95, .if_icmp .ne 28, 3), (98, .aload_n 0, 1), (99, .getfield 15, 3), (102, .iload_n 2, 1), (103, .iload_n 3, 1), (104, .bipush 60, 2), (106, .if_icmp .ne 9, 3), (109, .sipush 257, 3), (112, .goto 6, 3), (115, .sipush 258, 3), (118, .iastore, 1), (119, .iload_n 1, 1), (120, .iconst 2, 1), (121, .iadd, 1), (122, .ireturn, 1), (123, .aload_n 0, 1), (124, .getfield 15, 3), (127, .iload_n 2, 1), (128, .iload_n 3, 1), (129, .iastore, 1), (130, .iload_n 1, 1), (131, .iconst 1, 1), (132, .iadd, 1), (133, .ireturn, 1)]
theorem dec_X7_scanToken : ∀ q ∈ I_X7_scanToken, decode cX7_scanToken q.1 = .ok q.2 := by decide +kernel
def M_X7_scanToken : kM := (I_X7_scanToken, gFL7, gCI7, gCJ7, [(2, K_X7_byteAt), (7, K_X7_isDigit), (16, K_X7_scanNumber), (21, K_X7_isSmall), (46, K_X7_isSmall), (67, K_X7_wordFrom), (90, K_X7_byteAt)], K_X7_scanToken, 1, 5, [(30, ([(2, 0, 0), (2, 1, 0), (2, 2, 0), (0, 3, 0), (0, 4, 0)], [.inr (.inr (.inl (false, [1]))), .inl (0, 399), .inl (0, 399), .inl ((-1), 255), .inl (0, 400)], [(0, .inl 0), (1, .inl 1), (2, .inl 2), (3, .inl 3), (4, .inl 4)], [], [], [.inl 0, .inl 1, .inl 2], [(1, 0, 0), (400, (-1), 4)]))], [])
theorem chk_X7_scanToken : k_check gTT gGS M_X7_scanToken 4000 = true := by decide +kernel

def K_X7_scan : kCtr := ([.inr (.inr (.inl (false, [1])))], [], [(none, [], [])], [(1, 5), (1, 6), (13, 0), (14, 0), (15, 0)], [], [0])

def K_X7_kind : kCtr := ([.inr (.inr (.inl (false, [1])))], [], [(some (kA), [], [])], [], [], [])
def I_X7_kind : List (Nat × Instr × Nat) := [(0, .aload_n 0, 1), (1, .getfield 15, 3), (4, .aload_n 0, 1), (5, .getfield 33, 3), (8, .iaload, 1), (9, .ireturn, 1)]
theorem dec_X7_kind : ∀ q ∈ I_X7_kind, decode cX7_kind q.1 = .ok q.2 := by decide +kernel
def M_X7_kind : kM := (I_X7_kind, gFL7, gCI7, gCJ7, [], K_X7_kind, 1, 1, [], [])
theorem chk_X7_kind : k_check gTT gGS M_X7_kind 4000 = true := by decide +kernel

def K_X7_pass : kCtr := ([.inr (.inr (.inl (false, [1])))], [], [(none, [], [])], [(1, 5)], [0], [0])

def K_X7_refuse : kCtr := ([.inr (.inr (.inl (false, [1]))), kA], [], [(some (.inl (0, 0)), [], [])], [(1, 6)], [], [])
def I_X7_refuse : List (Nat × Instr × Nat) := [(0, .aload_n 0, 1), (1, .iconst 1, 1), (2, .bipush 8, 2), (4, .aload_n 0, 1), (5, .getfield 19, 3), (8, .aload_n 0, 1), (9, .getfield 33, 3), (12, .iaload, 1), (13, .imul, 1), (14, .iadd, 1), (15, .iload_n 1, 1), (16, .iadd, 1), (17, .putfield 36, 3), (20, .iconst 0, 1), (21, .ireturn, 1)]
theorem dec_X7_refuse : ∀ q ∈ I_X7_refuse, decode cX7_refuse q.1 = .ok q.2 := by decide +kernel
def M_X7_refuse : kM := (I_X7_refuse, gFL7, gCI7, gCJ7, [], K_X7_refuse, 2, 2, [], [])
theorem chk_X7_refuse : k_check gTT gGS M_X7_refuse 4000 = true := by decide +kernel

def K_X7_number_0_5 : kCtr := ([.inr (.inr (.inl (false, [1]))), .inl (0, 2147483647), .inl ((-2147483648), 5), kA], [], [(some (.inl ((-1), (-1))), [], []), (some (.inl (0, 5)), [], [])], [(1, 5), (1, 6)], [0], [0])

def K_X7_number_0_6 : kCtr := ([.inr (.inr (.inl (false, [1]))), .inl (0, 2147483647), .inl ((-2147483648), 6), kA], [], [(some (.inl ((-1), (-1))), [], []), (some (.inl (0, 6)), [], [])], [(1, 5), (1, 6)], [0], [0])

def K_X7_number_0_9 : kCtr := ([.inr (.inr (.inl (false, [1]))), .inl (0, 2147483647), .inl ((-2147483648), 9), kA], [], [(some (.inl ((-1), (-1))), [], []), (some (.inl (0, 9)), [], [])], [(1, 5), (1, 6)], [0], [0])

def K_X7_number_1_9 : kCtr := ([.inr (.inr (.inl (false, [1]))), .inl (1, 2147483647), .inl ((-2147483648), 9), kA], [], [(some (.inl ((-1), (-1))), [], []), (some (.inl (1, 9)), [], [])], [(1, 5), (1, 6)], [0], [0])

def K_X7_number_0_20 : kCtr := ([.inr (.inr (.inl (false, [1]))), .inl (0, 2147483647), .inl ((-2147483648), 20), kA], [], [(some (.inl ((-1), (-1))), [], []), (some (.inl (0, 20)), [], [])], [(1, 5), (1, 6)], [0], [0])

def K_X7_number_0_99 : kCtr := ([.inr (.inr (.inl (false, [1]))), .inl (0, 2147483647), .inl ((-2147483648), 99), kA], [], [(some (.inl ((-1), (-1))), [], []), (some (.inl (0, 99)), [], [])], [(1, 5), (1, 6)], [0], [0])

def K_X8_wipe : kCtr := ([.inr (.inr (.inl (false, [3])))], [], [(none, [], [])], [(3, 0), (3, 1), (3, 2), (3, 3), (16, 0), (17, 0)], [], [])
def I_X8_wipe : List (Nat × Instr × Nat) := [(0, .aload_n 0, 1), (1, .iconst 0, 1), (2, .putfield 27, 3), (5, .aload_n 0, 1), (6, .iconst 0, 1), (7, .putfield 31, 3), (10, .aload_n 0, 1), (11, .iconst 0, 1), (12, .putfield 35, 3), (15, .aload_n 0, 1), (16, .iconst 0, 1), (17, .putfield 38, 3), (20, .iconst 0, 1), (21, .istore_n 1, 1), (22, .iload_n 1, 1), (23, .bipush 6, 2), (25, .if_icmp .ge 37, 3), (28, .aload_n 0, 1), (29, .getfield 9, 3), (32, .iload_n 1, 1), (33, .iconst 0, 1), (34, .iastore, 1), (35, .aload_n 0, 1), (36, .getfield 15, 3), (39, .iload_n 1, 1), (40, .iconst 0, 1), (41, .iastore, 1), (42, .aload_n 0, 1), (43, .getfield 18, 3), (46, .iload_n 1, 1), (47, .iconst 0, 1), (48, .iastore, 1), (49, .aload_n 0, 1), (50, .getfield 21, 3), (53, .iload_n 1, 1), (54, .iconst 0, 1), (55, .iastore, 1), (56, .iinc 1 1, 3), (59, .goto (-37), 3), (62, .iconst 0, 1), (63, .istore_n 1, 1), (64, .iload_n 1, 1), (65, .aload_n 0, 1), (66, .getfield 24, 3), (69, .arraylength, 1), (70, .if_icmp .ge 17, 3), (73, .aload_n 0, 1), (74, .getfield 24, 3), (77, .iload_n 1, 1), (78, .bipush (-2), 2), (80, .iastore, 1), (81, .iinc 1 1, 3), (84, .goto (-20), 3), (87, .return_, 1)]
theorem dec_X8_wipe : ∀ q ∈ I_X8_wipe, decode cX8_wipe q.1 = .ok q.2 := by decide +kernel
def M_X8_wipe : kM := (I_X8_wipe, gFL8, gCI8, gCJ8, [], K_X8_wipe, 0, 2, [(22, ([(2, 0, 0), (0, 1, 0)], [.inr (.inr (.inl (false, [3]))), .inl (0, 6)], [(0, .inl 0), (1, .inl 1)], [], [], [.inl 0], [(2, 0, 0), (6, (-1), 1)])), (64, ([(2, 0, 0), (0, 1, 0)], [.inr (.inr (.inl (false, [3]))), .inl (0, 60)], [(0, .inl 0), (1, .inl 1)], [], [], [.inl 0], [(1, 0, 0), (60, (-1), 1)]))], [])
theorem chk_X8_wipe : k_check gTT gGS M_X8_wipe 4000 = true := by decide +kernel

def K_X8_copyFrom : kCtr := ([.inr (.inr (.inl (false, [3]))), .inr (.inr (.inl (false, [3])))], [], [(none, [], [])], [(3, 0), (3, 1), (3, 2), (3, 3), (16, 0), (17, 0)], [], [])
def I_X8_copyFrom : List (Nat × Instr × Nat) := [(0, .aload_n 0, 1), (1, .aload_n 1, 1), (2, .getfield 27, 3), (5, .putfield 27, 3), (8, .aload_n 0, 1), (9, .aload_n 1, 1), (10, .getfield 31, 3), (13, .putfield 31, 3), (16, .aload_n 0, 1), (17, .aload_n 1, 1), (18, .getfield 35, 3), (21, .putfield 35, 3), (24, .aload_n 0, 1), (25, .aload_n 1, 1), (26, .getfield 38, 3), (29, .putfield 38, 3), (32, .aload_n 1, 1), (33, .getfield 9, 3), (36, .iconst 0, 1), (37, .aload_n 0, 1), (38, .getfield 9, 3), (41, .iconst 0, 1), (42, .bipush 6, 2), (44, .invokestatic 41, 3), (47, .aload_n 1, 1), (48, .getfield 15, 3), (51, .iconst 0, 1), (52, .aload_n 0, 1), (53, .getfield 15, 3), (56, .iconst 0, 1), (57, .bipush 6, 2), (59, .invokestatic 41, 3), (62, .aload_n 1, 1), (63, .getfield 18, 3), (66, .iconst 0, 1), (67, .aload_n 0, 1), (68, .getfield 18, 3), (71, .iconst 0, 1), (72, .bipush 6, 2), (74, .invokestatic 41, 3), (77, .aload_n 1, 1), (78, .getfield 21, 3), (81, .iconst 0, 1), (82, .aload_n 0, 1), (83, .getfield 21, 3), (86, .iconst 0, 1), (87, .bipush 6, 2), (89, .invokestatic 41, 3), (92, .aload_n 1, 1), (93, .getfield 24, 3), (96, .iconst 0, 1), (97, .aload_n 0, 1), (98, .getfield 24, 3), (101, .iconst 0, 1), (102, .aload_n 0, 1), (103, .getfield 24, 3), (106, .arraylength, 1), (107, .invokestatic 41, 3), (110, .return_, 1)]
theorem dec_X8_copyFrom : ∀ q ∈ I_X8_copyFrom, decode cX8_copyFrom q.1 = .ok q.2 := by decide +kernel
def M_X8_copyFrom : kM := (I_X8_copyFrom, gFL8, gCI8, gCJ8, [(44, K_arraycopy_A6_6), (59, K_arraycopy_A6_6), (74, K_arraycopy_A6_6), (89, K_arraycopy_A6_6), (107, K_arraycopy_ways_49)], K_X8_copyFrom, 0, 2, [], [])
theorem chk_X8_copyFrom : k_check gTT gGS M_X8_copyFrom 4000 = true := by decide +kernel

def K_X8_addRoad : kCtr := ([.inr (.inr (.inl (false, [3]))), .inl (0, 6), .inl (0, 6), kA], [], [(none, [], [])], [(17, 0)], [], [])
def I_X8_addRoad : List (Nat × Instr × Nat) := [(0, .aload_n 0, 1), (1, .getfield 24, 3), (4, .iload_n 1, 1), (5, .bipush 7, 2), (7, .imul, 1), (8, .iload_n 2, 1), (9, .iadd, 1), (10, .iload_n 3, 1), (11, .iastore, 1), (12, .aload_n 0, 1), (13, .getfield 24, 3), (16, .iload_n 2, 1), (17, .bipush 7, 2), (19, .imul, 1), (20, .iload_n 1, 1), (21, .iadd, 1), (22, .iload_n 3, 1), (23, .iastore, 1), (24, .return_, 1)]
theorem dec_X8_addRoad : ∀ q ∈ I_X8_addRoad, decode cX8_addRoad q.1 = .ok q.2 := by decide +kernel
def M_X8_addRoad : kM := (I_X8_addRoad, gFL8, gCI8, gCJ8, [], K_X8_addRoad, 0, 4, [], [])
theorem chk_X8_addRoad : k_check gTT gGS M_X8_addRoad 4000 = true := by decide +kernel

def K_X8_addBeside : kCtr := ([.inr (.inr (.inl (false, [3]))), .inl (0, 5), .inl (0, 5)], [], [(none, [], [])], [(16, 0)], [], [])
def I_X8_addBeside : List (Nat × Instr × Nat) := [(0, .aload_n 0, 1), (1, .getfield 21, 3), (4, .iload_n 1, 1), (5, .dup2, 1), (6, .iaload, 1), (7, .iconst 1, 1), (8, .iload_n 2, 1), (9, .ishl, 1), (10, .ior, 1), (11, .iastore, 1), (12, .aload_n 0, 1), (13, .getfield 21, 3), (16, .iload_n 2, 1), (17, .dup2, 1), (18, .iaload, 1), (19, .iconst 1, 1), (20, .iload_n 1, 1), (21, .ishl, 1), (22, .ior, 1), (23, .iastore, 1), (24, .return_, 1)]
theorem dec_X8_addBeside : ∀ q ∈ I_X8_addBeside, decode cX8_addBeside q.1 = .ok q.2 := by decide +kernel
def M_X8_addBeside : kM := (I_X8_addBeside, gFL8, gCI8, gCJ8, [], K_X8_addBeside, 0, 3, [], [])
theorem chk_X8_addBeside : k_check gTT gGS M_X8_addBeside 4000 = true := by decide +kernel

def K_X8_shorten : kCtr := ([.inr (.inr (.inl (false, [3]))), .inl (0, 6), .inl (0, 6), .inl (0, 6)], [], [(none, [], [])], [(17, 0)], [], [])
def I_X8_shorten : List (Nat × Instr × Nat) := [(0, .aload_n 0, 1), (1, .getfield 24, 3), (4, .iload_n 1, 1), (5, .bipush 7, 2), (7, .imul, 1), (8, .iload_n 2, 1), (9, .iadd, 1), (10, .iaload, 1), (11, .istore 4, 2), (13, .aload_n 0, 1), (14, .getfield 24, 3), (17, .iload_n 2, 1), (18, .bipush 7, 2), (20, .imul, 1), (21, .iload_n 3, 1), (22, .iadd, 1), (23, .iaload, 1), (24, .istore 5, 2), (26, .aload_n 0, 1), (27, .getfield 24, 3), (30, .iload_n 1, 1), (31, .bipush 7, 2), (33, .imul, 1), (34, .iload_n 3, 1), (35, .iadd, 1), (36, .iaload, 1), (37, .istore 6, 2), (39, .iload 4, 2), (41, .bipush (-2), 2), (43, .if_icmp .eq 10, 3), (46, .iload 5, 2), (48, .bipush (-2), 2), (50, .if_icmp .ne 4, 3), (53, .return_, 1), (54, .iload 6, 2), (56, .bipush (-2), 2), (58, .if_icmp .eq 13, 3), (61, .iload 4, 2), (63, .iload 5, 2), (65, .iadd, 1), (66, .iload 6, 2), (68, .if_icmp .ge 19, 3), (71, .aload_n 0, 1), (72, .getfield 24, 3), (75, .iload_n 1, 1), (76, .bipush 7, 2), (78, .imul, 1), (79, .iload_n 3, 1), (80, .iadd, 1), (81, .iload 4, 2), (83, .iload 5, 2), (85, .iadd, 1), (86, .iastore, 1), (87, .return_, 1)]
theorem dec_X8_shorten : ∀ q ∈ I_X8_shorten, decode cX8_shorten q.1 = .ok q.2 := by decide +kernel
def M_X8_shorten : kM := (I_X8_shorten, gFL8, gCI8, gCJ8, [], K_X8_shorten, 0, 7, [], [])
theorem chk_X8_shorten : k_check gTT gGS M_X8_shorten 4000 = true := by decide +kernel

def K_X8_findWays : kCtr := ([.inr (.inr (.inl (false, [3])))], [], [(none, [], [])], [(17, 0)], [], [])
def I_X8_findWays : List (Nat × Instr × Nat) := [(0, .iconst 0, 1), (1, .istore_n 1, 1), (2, .iload_n 1, 1), (3, .bipush 7, 2), (5, .if_icmp .ge 21, 3), (8, .aload_n 0, 1), (9, .getfield 24, 3), (12, .iload_n 1, 1), (13, .bipush 7, 2), (15, .imul, 1), (16, .iload_n 1, 1), (17, .iadd, 1), (18, .iconst 0, 1), (19, .iastore, 1), (20, .iinc 1 1, 3), (23, .goto (-21), 3), (26, .iconst 0, 1), (27, .istore_n 1, 1), (28, .iload_n 1, 1), (29, .bipush 7, 2), (31, .if_icmp .ge 44, 3), (34, .iconst 0, 1), (35, .istore_n 2, 1), (36, .iload_n 2, 1), (37, .bipush 7, 2), (39, .if_icmp .ge 30, 3), (42, .iconst 0, 1), (43, .istore_n 3, 1), (44, .iload_n 3, 1), (45, .bipush 7, 2), (47, .if_icmp .ge 16, 3), (50, .aload_n 0, 1), (51, .iload_n 2, 1), (52, .iload_n 1, 1), (53, .iload_n 3, 1), (54, .invokevirtual 47, 3), (57, .iinc 3 1, 3), (60, .goto (-16), 3), (63, .iinc 2 1, 3), (66, .goto (-30), 3), (69, .iinc 1 1, 3), (72, .goto (-44), 3), (75, .return_, 1)]
theorem dec_X8_findWays : ∀ q ∈ I_X8_findWays, decode cX8_findWays q.1 = .ok q.2 := by decide +kernel
def M_X8_findWays : kM := (I_X8_findWays, gFL8, gCI8, gCJ8, [(54, K_X8_shorten)], K_X8_findWays, 0, 4, [(2, ([(2, 0, 0), (0, 1, 0)], [.inr (.inr (.inl (false, [3]))), .inl (0, 7)], [(0, .inl 0), (1, .inl 1)], [], [], [.inl 0], [(2, 0, 0), (7, (-1), 1), (99, 0, 0), (0, 0, 0), (0, 0, 0), (0, 0, 0)])), (28, ([(2, 0, 0), (0, 1, 0)], [.inr (.inr (.inl (false, [3]))), .inl (0, 7)], [(0, .inl 0), (1, .inl 1)], [], [], [.inl 0], [(1, 0, 0), (7, (-1), 1), (99, 0, 0), (0, 0, 0), (0, 0, 0), (0, 0, 0)])), (36, ([(2, 0, 0), (0, 1, 0), (0, 2, 0)], [.inr (.inr (.inl (false, [3]))), .inl (0, 6), .inl (0, 7)], [(0, .inl 0), (1, .inl 1), (2, .inl 2)], [], [], [.inl 0], [(1, 0, 0), (7, (-1), 1), (1, 0, 0), (7, (-1), 2), (99, 0, 0), (0, 0, 0)])), (44, ([(2, 0, 0), (0, 1, 0), (0, 2, 0), (0, 3, 0)], [.inr (.inr (.inl (false, [3]))), .inl (0, 6), .inl (0, 6), .inl (0, 7)], [(0, .inl 0), (1, .inl 1), (2, .inl 2), (3, .inl 3)], [], [], [.inl 0], [(1, 0, 0), (7, (-1), 1), (1, 0, 0), (7, (-1), 2), (1, 0, 0), (7, (-1), 3)]))], [])
theorem chk_X8_findWays : k_check gTT gGS M_X8_findWays 4000 = true := by decide +kernel

def K_X6_copyFrom : kCtr := ([.inr (.inr (.inl (false, [4]))), .inr (.inr (.inl (false, [4])))], [], [(none, [], [])], [(4, 4), (4, 5), (4, 6), (4, 7), (4, 8), (16, 0)], [], [])
def I_X6_copyFrom : List (Nat × Instr × Nat) := [(0, .aload_n 1, 1), (1, .getfield 9, 3), (4, .iconst 0, 1), (5, .aload_n 0, 1), (6, .getfield 9, 3), (9, .iconst 0, 1), (10, .bipush 6, 2), (12, .invokestatic 28, 3), (15, .aload_n 1, 1), (16, .getfield 15, 3), (19, .iconst 0, 1), (20, .aload_n 0, 1), (21, .getfield 15, 3), (24, .iconst 0, 1), (25, .bipush 6, 2), (27, .invokestatic 28, 3), (30, .aload_n 1, 1), (31, .getfield 18, 3), (34, .iconst 0, 1), (35, .aload_n 0, 1), (36, .getfield 18, 3), (39, .iconst 0, 1), (40, .bipush 6, 2), (42, .invokestatic 28, 3), (45, .aload_n 1, 1), (46, .getfield 21, 3), (49, .iconst 0, 1), (50, .aload_n 0, 1), (51, .getfield 21, 3), (54, .iconst 0, 1), (55, .bipush 6, 2), (57, .invokestatic 28, 3), (60, .aload_n 0, 1), (61, .aload_n 1, 1), (62, .getfield 34, 3), (65, .putfield 34, 3), (68, .aload_n 0, 1), (69, .aload_n 1, 1), (70, .getfield 37, 3), (73, .putfield 37, 3), (76, .aload_n 0, 1), (77, .aload_n 1, 1), (78, .getfield 40, 3), (81, .putfield 40, 3), (84, .aload_n 0, 1), (85, .aload_n 1, 1), (86, .getfield 24, 3), (89, .putfield 24, 3), (92, .aload_n 0, 1), (93, .aload_n 1, 1), (94, .getfield 43, 3), (97, .putfield 43, 3), (100, .return_, 1)]
theorem dec_X6_copyFrom : ∀ q ∈ I_X6_copyFrom, decode cX6_copyFrom q.1 = .ok q.2 := by decide +kernel
def M_X6_copyFrom : kM := (I_X6_copyFrom, gFL6, gCI6, gCJ6, [(12, K_arraycopy_A6_6), (27, K_arraycopy_A6_6), (42, K_arraycopy_A6_6), (57, K_arraycopy_A6_6)], K_X6_copyFrom, 0, 2, [], [])
theorem chk_X6_copyFrom : k_check gTT gGS M_X6_copyFrom 4000 = true := by decide +kernel

def K_X6_startOf : kCtr := ([.inr (.inr (.inl (false, [4]))), .inr (.inr (.inl (false, [3])))], [], [(none, [], [])], [(4, 4), (4, 5), (4, 6), (4, 7), (4, 8), (16, 0)], [], [])
def I_X6_startOf : List (Nat × Instr × Nat) := [(0, .aload_n 1, 1), (1, .getfield 46, 3), (4, .iconst 0, 1), (5, .aload_n 0, 1), (6, .getfield 9, 3), (9, .iconst 0, 1), (10, .bipush 6, 2), (12, .invokestatic 28, 3), (15, .aload_n 1, 1), (16, .getfield 49, 3), (19, .iconst 0, 1), (20, .aload_n 0, 1), (21, .getfield 15, 3), (24, .iconst 0, 1), (25, .bipush 6, 2), (27, .invokestatic 28, 3), (30, .aload_n 1, 1), (31, .getfield 50, 3), (34, .iconst 0, 1), (35, .aload_n 0, 1), (36, .getfield 18, 3), (39, .iconst 0, 1), (40, .bipush 6, 2), (42, .invokestatic 28, 3), (45, .iconst 0, 1), (46, .istore_n 2, 1), (47, .iload_n 2, 1), (48, .bipush 6, 2), (50, .if_icmp .ge 16, 3), (53, .aload_n 0, 1), (54, .getfield 21, 3), (57, .iload_n 2, 1), (58, .iconst 0, 1), (59, .iastore, 1), (60, .iinc 2 1, 3), (63, .goto (-16), 3), (66, .aload_n 0, 1), (67, .iconst 0, 1), (68, .putfield 34, 3), (71, .aload_n 0, 1), (72, .iconst 0, 1), (73, .putfield 37, 3), (76, .aload_n 0, 1), (77, .iconst 0, 1), (78, .putfield 40, 3), (81, .aload_n 0, 1), (82, .iconst (-1), 1), (83, .putfield 24, 3), (86, .aload_n 0, 1), (87, .iconst 0, 1), (88, .putfield 43, 3), (91, .return_, 1)]
theorem dec_X6_startOf : ∀ q ∈ I_X6_startOf, decode cX6_startOf q.1 = .ok q.2 := by decide +kernel
def M_X6_startOf : kM := (I_X6_startOf, gFL6, gCI6, gCJ6, [(12, K_arraycopy_A6_6), (27, K_arraycopy_A6_6), (42, K_arraycopy_A6_6)], K_X6_startOf, 0, 3, [(47, ([(2, 0, 0), (2, 1, 0), (0, 2, 0)], [.inr (.inr (.inl (false, [4]))), .inr (.inr (.inl (false, [3]))), .inl (0, 6)], [(0, .inl 0), (1, .inl 1), (2, .inl 2)], [], [], [.inl 0, .inl 1], [(1, 0, 0), (6, (-1), 2)]))], [])
theorem chk_X6_startOf : k_check gTT gGS M_X6_startOf 4000 = true := by decide +kernel

def K_X6_fires : kCtr := ([.inr (.inr (.inl (false, [4])))], [], [(some (.inl (0, 63)), [], [])], [], [], [])
def I_X6_fires : List (Nat × Instr × Nat) := [(0, .iconst 0, 1), (1, .istore_n 1, 1), (2, .iconst 0, 1), (3, .istore_n 2, 1), (4, .iload_n 2, 1), (5, .bipush 6, 2), (7, .if_icmp .ge 24, 3), (10, .aload_n 0, 1), (11, .getfield 15, 3), (14, .iload_n 2, 1), (15, .iaload, 1), (16, .ifCond .le 9, 3), (19, .iload_n 1, 1), (20, .iconst 1, 1), (21, .iload_n 2, 1), (22, .ishl, 1), (23, .ior, 1), (24, .istore_n 1, 1), (25, .iinc 2 1, 3), (28, .goto (-24), 3), (31, .iload_n 1, 1), (32, .ireturn, 1)]
theorem dec_X6_fires : ∀ q ∈ I_X6_fires, decode cX6_fires q.1 = .ok q.2 := by decide +kernel
def M_X6_fires : kM := (I_X6_fires, gFL6, gCI6, gCJ6, [], K_X6_fires, 1, 3, [(4, ([(2, 0, 0), (0, 1, 0), (0, 2, 0)], [.inr (.inr (.inl (false, [4]))), .inl (0, 63), .inl (0, 6)], [(0, .inl 0), (1, .inl 1), (2, .inl 2)], [], [], [.inl 0], [(1, 0, 0), (6, (-1), 2)]))], [])
theorem chk_X6_fires : k_check gTT gGS M_X6_fires 4000 = true := by decide +kernel

def K_X6_allWorth : kCtr := ([.inr (.inr (.inl (false, [4])))], [], [(some (kA), [], [])], [], [], [])
def I_X6_allWorth : List (Nat × Instr × Nat) := [(0, .iconst 0, 1), (1, .istore_n 1, 1), (2, .iconst 0, 1), (3, .istore_n 2, 1), (4, .iload_n 2, 1), (5, .bipush 6, 2), (7, .if_icmp .ge 18, 3), (10, .iload_n 1, 1), (11, .aload_n 0, 1), (12, .getfield 9, 3), (15, .iload_n 2, 1), (16, .iaload, 1), (17, .iadd, 1), (18, .istore_n 1, 1), (19, .iinc 2 1, 3), (22, .goto (-18), 3), (25, .iload_n 1, 1), (26, .ireturn, 1)]
theorem dec_X6_allWorth : ∀ q ∈ I_X6_allWorth, decode cX6_allWorth q.1 = .ok q.2 := by decide +kernel
def M_X6_allWorth : kM := (I_X6_allWorth, gFL6, gCI6, gCJ6, [], K_X6_allWorth, 1, 3, [(4, ([(2, 0, 0), (0, 1, 0), (0, 2, 0)], [.inr (.inr (.inl (false, [4]))), kA, .inl (0, 6)], [(0, .inl 0), (1, .inl 1), (2, .inl 2)], [], [], [.inl 0], [(1, 0, 0), (6, (-1), 2)]))], [])
theorem chk_X6_allWorth : k_check gTT gGS M_X6_allWorth 4000 = true := by decide +kernel

def K_X6_canCatch : kCtr := ([.inr (.inr (.inl (false, [4]))), .inl (0, 5)], [], [(some (.inl (0, 1)), [], [])], [], [], [])
def I_X6_canCatch : List (Nat × Instr × Nat) := [(0, .aload_n 0, 1), (1, .getfield 9, 3), (4, .iload_n 1, 1), (5, .iaload, 1), (6, .ifCond .le 16, 3), (9, .aload_n 0, 1), (10, .getfield 15, 3), (13, .iload_n 1, 1), (14, .iaload, 1), (15, .ifCond .ne 7, 3), (18, .iconst 1, 1), (19, .goto 4, 3), (22, .iconst 0, 1), (23, .ireturn, 1)]
theorem dec_X6_canCatch : ∀ q ∈ I_X6_canCatch, decode cX6_canCatch q.1 = .ok q.2 := by decide +kernel
def M_X6_canCatch : kM := (I_X6_canCatch, gFL6, gCI6, gCJ6, [], K_X6_canCatch, 2, 2, [], [])
theorem chk_X6_canCatch : k_check gTT gGS M_X6_canCatch 4000 = true := by decide +kernel

def K_X6_isFree : kCtr := ([.inr (.inr (.inl (false, [4])))], [], [(some (.inl (0, 1)), [], [])], [], [], [])
def I_X6_isFree : List (Nat × Instr × Nat) := [(0, .aload_n 0, 1), (1, .getfield 24, 3), (4, .iconst (-1), 1), (5, .if_icmp .ne 37, 3), (8, .aload_n 0, 1), (9, .getfield 40, 3), (12, .ifCond .le 26, 3), (15, .aload_n 0, 1), (16, .getfield 40, 3), (19, .bipush 6, 2), (21, .if_icmp .gt 17, 3), (24, .aload_n 0, 1), (25, .getfield 15, 3), (28, .aload_n 0, 1), (29, .getfield 40, 3), (32, .iconst 1, 1), (33, .isub, 1), (34, .iaload, 1), (35, .ifCond .ne 7, 3), (38, .iconst 1, 1), (39, .goto 4, 3), (42, .iconst 0, 1), (43, .ireturn, 1)]
theorem dec_X6_isFree : ∀ q ∈ I_X6_isFree, decode cX6_isFree q.1 = .ok q.2 := by decide +kernel
def M_X6_isFree : kM := (I_X6_isFree, gFL6, gCI6, gCJ6, [], K_X6_isFree, 2, 1, [], [])
theorem chk_X6_isFree : k_check gTT gGS M_X6_isFree 4000 = true := by decide +kernel

def K_X6_setOut : kCtr := ([.inr (.inr (.inl (false, [4]))), .inl ((-1), 6), kA], [], [(none, [], [])], [(4, 7), (4, 8)], [], [])
def I_X6_setOut : List (Nat × Instr × Nat) := [(0, .aload_n 0, 1), (1, .iload_n 1, 1), (2, .putfield 24, 3), (5, .aload_n 0, 1), (6, .iload_n 2, 1), (7, .putfield 43, 3), (10, .return_, 1)]
theorem dec_X6_setOut : ∀ q ∈ I_X6_setOut, decode cX6_setOut q.1 = .ok q.2 := by decide +kernel
def M_X6_setOut : kM := (I_X6_setOut, gFL6, gCI6, gCJ6, [], K_X6_setOut, 0, 3, [], [])
theorem chk_X6_setOut : k_check gTT gGS M_X6_setOut 4000 = true := by decide +kernel

def K_X6_counted : kCtr := ([.inr (.inr (.inl (false, [4]))), kA], [], [(some (kA), [], [])], [], [], [])
def I_X6_counted : List (Nat × Instr × Nat) := [(0, .iload_n 1, 1), (1, .tableswitch 78 5 11 #[43, 48, 53, 58, 63, 68, 73], 43), (44, .aload_n 0, 1), (45, .getfield 37, 3), (48, .ireturn, 1), (49, .aload_n 0, 1), (50, .getfield 40, 3), (53, .ireturn, 1), (54, .aload_n 0, 1), (55, .getfield 24, 3), (58, .ireturn, 1), (59, .aload_n 0, 1), (60, .getfield 43, 3), (63, .ireturn, 1), (64, .aload_n 0, 1), (65, .invokevirtual 51, 3), (68, .ireturn, 1), (69, .aload_n 0, 1), (70, .invokevirtual 55, 3), (73, .ireturn, 1), (74, .aload_n 0, 1), (75, .getfield 34, 3), (78, .ireturn, 1), (79, .iconst (-1), 1), (80, .ireturn, 1)]
theorem dec_X6_counted : ∀ q ∈ I_X6_counted, decode cX6_counted q.1 = .ok q.2 := by decide +kernel
def M_X6_counted : kM := (I_X6_counted, gFL6, gCI6, gCJ6, [(65, K_X6_fires), (70, K_X6_allWorth)], K_X6_counted, 1, 2, [], [])
theorem chk_X6_counted : k_check gTT gGS M_X6_counted 4000 = true := by decide +kernel

def K_X10_copyFrom : kCtr := ([.inr (.inr (.inl (false, [2]))), .inr (.inr (.inl (false, [2])))], [], [(none, [], [])], [(2, 4), (2, 5), (2, 6), (3, 0), (3, 1), (3, 2), (3, 3), (4, 4), (4, 5), (4, 6), (4, 7), (4, 8), (16, 0), (17, 0), (18, 0), (19, 0)], [], [])
def I_X10_copyFrom : List (Nat × Instr × Nat) := [(0, .aload_n 0, 1), (1, .getfield 12, 3), (4, .aload_n 1, 1), (5, .getfield 12, 3), (8, .invokevirtual 36, 3), (11, .aload_n 0, 1), (12, .getfield 21, 3), (15, .aload_n 1, 1), (16, .getfield 21, 3), (19, .invokevirtual 40, 3), (22, .aload_n 1, 1), (23, .getfield 25, 3), (26, .iconst 0, 1), (27, .aload_n 0, 1), (28, .getfield 25, 3), (31, .iconst 0, 1), (32, .bipush 10, 2), (34, .invokestatic 43, 3), (37, .aload_n 1, 1), (38, .getfield 29, 3), (41, .iconst 0, 1), (42, .aload_n 0, 1), (43, .getfield 29, 3), (46, .iconst 0, 1), (47, .bipush 10, 2), (49, .invokestatic 43, 3), (52, .aload_n 0, 1), (53, .aload_n 1, 1), (54, .getfield 49, 3), (57, .putfield 49, 3), (60, .aload_n 0, 1), (61, .aload_n 1, 1), (62, .getfield 52, 3), (65, .putfield 52, 3), (68, .aload_n 0, 1), (69, .aload_n 1, 1), (70, .getfield 32, 3), (73, .putfield 32, 3), (76, .return_, 1)]
theorem dec_X10_copyFrom : ∀ q ∈ I_X10_copyFrom, decode cX10_copyFrom q.1 = .ok q.2 := by decide +kernel
def M_X10_copyFrom : kM := (I_X10_copyFrom, gFL10, gCI10, gCJ10, [(8, K_X8_copyFrom), (19, K_X6_copyFrom), (34, K_arraycopy_noteH_10), (49, K_arraycopy_noteP_10)], K_X10_copyFrom, 0, 2, [], [])
theorem chk_X10_copyFrom : k_check gTT gGS M_X10_copyFrom 4000 = true := by decide +kernel

def K_X1_chooseRule : kCtr := ([.inr (.inr (.inl (false, [7]))), kA], [], [(none, [], [])], [(7, 5)], [], [])
def I_X1_chooseRule : List (Nat × Instr × Nat) := [(0, .aload_n 0, 1), (1, .iload_n 1, 1), (2, .ifCond .lt 21, 3), (5, .iload_n 1, 1), (6, .aload_n 0, 1), (7, .getfield 37, 3), (10, .arraylength, 1), (11, .if_icmp .ge 12, 3), (14, .aload_n 0, 1), (15, .getfield 37, 3), (18, .iload_n 1, 1), (19, .aaload, 1), (20, .goto 4, 3), (23, .aconst_null, 1), (24, .putfield 63, 3), (27, .return_, 1)]
theorem dec_X1_chooseRule : ∀ q ∈ I_X1_chooseRule, decode cX1_chooseRule q.1 = .ok q.2 := by decide +kernel
def M_X1_chooseRule : kM := (I_X1_chooseRule, gFL1, gCI1, gCJ1, [], K_X1_chooseRule, 0, 2, [], [])
theorem chk_X1_chooseRule : k_check gTT gGS M_X1_chooseRule 4000 = true := by decide +kernel

def K_X1_beginNow : kCtr := ([.inr (.inr (.inl (false, [7])))], [], [(none, [], [])], [(4, 4), (4, 5), (4, 6), (4, 7), (4, 8), (7, 5), (7, 9), (16, 0)], [], [])
def I_X1_beginNow : List (Nat × Instr × Nat) := [(0, .aload_n 0, 1), (1, .getfield 12, 3), (4, .aload_n 0, 1), (5, .getfield 26, 3), (8, .getfield 41, 3), (11, .invokevirtual 42, 3), (14, .aload_n 0, 1), (15, .aload_n 0, 1), (16, .getfield 36, 3), (19, .getfield 46, 3), (22, .putfield 51, 3), (25, .aload_n 0, 1), (26, .aload_n 0, 1), (27, .getfield 26, 3), (30, .getfield 52, 3), (33, .invokevirtual 55, 3), (36, .return_, 1)]
theorem dec_X1_beginNow : ∀ q ∈ I_X1_beginNow, decode cX1_beginNow q.1 = .ok q.2 := by decide +kernel
def M_X1_beginNow : kM := (I_X1_beginNow, gFL1, gCI1, gCJ1, [(11, K_X6_copyFrom), (33, K_X1_chooseRule)], K_X1_beginNow, 0, 1, [], [])
theorem chk_X1_beginNow : k_check gTT gGS M_X1_beginNow 4000 = true := by decide +kernel

def K_X1_beginAsTold : kCtr := ([.inr (.inr (.inl (false, [7]))), kA], [], [(none, [], [])], [(4, 4), (4, 5), (4, 6), (4, 7), (4, 8), (7, 5), (7, 9), (16, 0)], [], [])
def I_X1_beginAsTold : List (Nat × Instr × Nat) := [(0, .aload_n 0, 1), (1, .getfield 12, 3), (4, .aload_n 0, 1), (5, .getfield 36, 3), (8, .invokevirtual 59, 3), (11, .aload_n 0, 1), (12, .aload_n 0, 1), (13, .getfield 36, 3), (16, .getfield 46, 3), (19, .putfield 51, 3), (22, .aload_n 0, 1), (23, .iload_n 1, 1), (24, .invokevirtual 55, 3), (27, .return_, 1)]
theorem dec_X1_beginAsTold : ∀ q ∈ I_X1_beginAsTold, decode cX1_beginAsTold q.1 = .ok q.2 := by decide +kernel
def M_X1_beginAsTold : kM := (I_X1_beginAsTold, gFL1, gCI1, gCJ1, [(8, K_X6_startOf), (24, K_X1_chooseRule)], K_X1_beginAsTold, 0, 2, [], [])
theorem chk_X1_beginAsTold : k_check gTT gGS M_X1_beginAsTold 4000 = true := by decide +kernel

def K_X1_wayTo : kCtr := ([.inr (.inr (.inl (false, [7]))), .inl (0, 5)], [], [(some (kA), [], [])], [], [], [])
def I_X1_wayTo : List (Nat × Instr × Nat) := [(0, .aload_n 0, 1), (1, .getfield 36, 3), (4, .getfield 114, 3), (7, .aload_n 0, 1), (8, .getfield 12, 3), (11, .getfield 118, 3), (14, .bipush 7, 2), (16, .imul, 1), (17, .iload_n 1, 1), (18, .iadd, 1), (19, .iconst 1, 1), (20, .iadd, 1), (21, .iaload, 1), (22, .ireturn, 1)]
theorem dec_X1_wayTo : ∀ q ∈ I_X1_wayTo, decode cX1_wayTo q.1 = .ok q.2 := by decide +kernel
def M_X1_wayTo : kM := (I_X1_wayTo, gFL1, gCI1, gCJ1, [], K_X1_wayTo, 1, 2, [], [])
theorem chk_X1_wayTo : k_check gTT gGS M_X1_wayTo 4000 = true := by decide +kernel

def K_X1_sendTo : kCtr := ([.inr (.inr (.inl (false, [7]))), .inl (0, 5)], [], [(none, [], [])], [(4, 7), (4, 8)], [], [])
def I_X1_sendTo : List (Nat × Instr × Nat) := [(0, .aload_n 0, 1), (1, .iload_n 1, 1), (2, .invokevirtual 101, 3), (5, .istore_n 2, 1), (6, .iload_n 2, 1), (7, .ifCond .le 14, 3), (10, .aload_n 0, 1), (11, .getfield 12, 3), (14, .iload_n 1, 1), (15, .iconst 1, 1), (16, .iadd, 1), (17, .iload_n 2, 1), (18, .invokevirtual 121, 3), (21, .return_, 1)]
theorem dec_X1_sendTo : ∀ q ∈ I_X1_sendTo, decode cX1_sendTo q.1 = .ok q.2 := by decide +kernel
def M_X1_sendTo : kM := (I_X1_sendTo, gFL1, gCI1, gCJ1, [(2, K_X1_wayTo), (18, K_X6_setOut)], K_X1_sendTo, 0, 3, [], [])
theorem chk_X1_sendTo : k_check gTT gGS M_X1_sendTo 4000 = true := by decide +kernel

def K_X1_smokeOf : kCtr := ([.inr (.inr (.inl (false, [7]))), .inl (0, 5)], [], [(some (kA), [], [])], [], [], [])
def I_X1_smokeOf : List (Nat × Instr × Nat) := [(0, .aload_n 0, 1), (1, .getfield 12, 3), (4, .getfield 125, 3), (7, .iload_n 1, 1), (8, .iaload, 1), (9, .ifCond .le 15, 3), (12, .aload_n 0, 1), (13, .getfield 12, 3), (16, .getfield 128, 3), (19, .iload_n 1, 1), (20, .iaload, 1), (21, .goto 4, 3), (24, .iconst 0, 1), (25, .ireturn, 1)]
theorem dec_X1_smokeOf : ∀ q ∈ I_X1_smokeOf, decode cX1_smokeOf q.1 = .ok q.2 := by decide +kernel
def M_X1_smokeOf : kM := (I_X1_smokeOf, gFL1, gCI1, gCJ1, [], K_X1_smokeOf, 1, 2, [], [])
theorem chk_X1_smokeOf : k_check gTT gGS M_X1_smokeOf 4000 = true := by decide +kernel

def K_X1_wordOf : kCtr := ([.inr (.inr (.inl (false, [7]))), kA, .inl (0, 5)], [], [(some (kA), [], [])], [], [], [])
def I_X1_wordOf : List (Nat × Instr × Nat) := [(0, .iload_n 1, 1), (1, .tableswitch 142 0 9 #[55, 57, 67, 77, 86, 109, 114, 119, 127, 137], 55), (56, .iload_n 2, 1), (57, .ireturn, 1), (58, .aload_n 0, 1), (59, .getfield 12, 3), (62, .getfield 128, 3), (65, .iload_n 2, 1), (66, .iaload, 1), (67, .ireturn, 1), (68, .aload_n 0, 1), (69, .getfield 12, 3), (72, .getfield 160, 3), (75, .iload_n 2, 1), (76, .iaload, 1), (77, .ireturn, 1), (78, .aload_n 0, 1), (79, .getfield 87, 3), (82, .iload_n 2, 1), (83, .ishr, 1), (84, .iconst 1, 1), (85, .iand, 1), (86, .ireturn, 1), (87, .aload_n 0, 1), (88, .getfield 36, 3), (91, .getfield 114, 3), (94, .aload_n 0, 1), (95, .getfield 12, 3), (98, .getfield 118, 3), (101, .bipush 7, 2), (103, .imul, 1), (104, .iload_n 2, 1), (105, .iadd, 1), (106, .iconst 1, 1), (107, .iadd, 1), (108, .iaload, 1), (109, .ireturn, 1), (110, .aload_n 0, 1), (111, .getfield 134, 3), (114, .ireturn, 1), (115, .aload_n 0, 1), (116, .getfield 95, 3), (119, .ireturn, 1), (120, .aload_n 0, 1), (121, .getfield 12, 3), (124, .getfield 163, 3), (127, .ireturn, 1), (128, .aload_n 0, 1), (129, .getfield 12, 3), (132, .getfield 166, 3), (135, .iload_n 2, 1), (136, .iaload, 1), (137, .ireturn, 1), (138, .aload_n 0, 1), (139, .getfield 51, 3), (142, .ireturn, 1), (143, .aload_n 0, 1), (144, .getfield 12, 3), (147, .getfield 169, 3), (150, .ireturn, 1)]
theorem dec_X1_wordOf : ∀ q ∈ I_X1_wordOf, decode cX1_wordOf q.1 = .ok q.2 := by decide +kernel
def M_X1_wordOf : kM := (I_X1_wordOf, gFL1, gCI1, gCJ1, [], K_X1_wordOf, 1, 3, [], [])
theorem chk_X1_wordOf : k_check gTT gGS M_X1_wordOf 4000 = true := by decide +kernel

def K_X1_join : kCtr := ([kA, kL, kL], [], [(some (kL), [], [])], [], [], [])
def I_X1_join : List (Nat × Instr × Nat) := [(0, .iload_n 0, 1), (1, .tableswitch 163 13 23 #[59, 63, 67, 71, 85, 99, 111, 123, 135, 147, 159], 59), (60, .lload_n 1, 1), (61, .lload_n 3, 1), (62, .ladd, 1), (63, .lreturn, 1), (64, .lload_n 1, 1), (65, .lload_n 3, 1), (66, .lsub, 1), (67, .lreturn, 1), (68, .lload_n 1, 1), (69, .lload_n 3, 1), (70, .lmul, 1), (71, .lreturn, 1), (72, .lload_n 3, 1), (73, .lconst 0, 1), (74, .lcmp, 1), (75, .ifCond .ne 7, 3), (78, .lconst 0, 1), (79, .goto 6, 3), (82, .lload_n 1, 1), (83, .lload_n 3, 1), (84, .ldiv, 1), (85, .lreturn, 1), (86, .lload_n 3, 1), (87, .lconst 0, 1), (88, .lcmp, 1), (89, .ifCond .ne 7, 3), (92, .lconst 0, 1), (93, .goto 6, 3), (96, .lload_n 1, 1), (97, .lload_n 3, 1), (98, .lrem, 1), (99, .lreturn, 1), (100, .lload_n 1, 1), (101, .lload_n 3, 1), (102, .lcmp, 1), (103, .ifCond .ge 7, 3), (106, .lconst 1, 1), (107, .goto 4, 3), (110, .lconst 0, 1), (111, .lreturn, 1), (112, .lload_n 1, 1), (113, .lload_n 3, 1), (114, .lcmp, 1), (115, .ifCond .gt 7, 3), (118, .lconst 1, 1), (119, .goto 4, 3), (122, .lconst 0, 1), (123, .lreturn, 1), (124, .lload_n 1, 1), (125, .lload_n 3, 1), (126, .lcmp, 1), (127, .ifCond .ne 7, 3), (130, .lconst 1, 1), (131, .goto 4, 3), (134, .lconst 0, 1), (135, .lreturn, 1), (136, .lload_n 1, 1), (137, .lload_n 3, 1), (138, .lcmp, 1), (139, .ifCond .lt 7, 3), (142, .lconst 1, 1), (143, .goto 4, 3), (146, .lconst 0, 1), (147, .lreturn, 1), (148, .lload_n 1, 1), (149, .lload_n 3, 1), (150, .lcmp, 1), (151, .ifCond .le 7, 3), (154, .lconst 1, 1), (155, .goto 4, 3), (158, .lconst 0, 1), (159, .lreturn, 1), (160, .lload_n 1, 1), (161, .lload_n 3, 1), (162, .land, 1), (163, .lreturn, 1), (164, .lload_n 1, 1), (165, .lload_n 3, 1), (166, .lor, 1), (167, .lreturn, 1)]
theorem dec_X1_join : ∀ q ∈ I_X1_join, decode cX1_join q.1 = .ok q.2 := by decide +kernel
def M_X1_join : kM := (I_X1_join, gFL1, gCI1, gCJ1, [], K_X1_join, 3, 5, [], [])
theorem chk_X1_join : k_check gTT gGS M_X1_join 4000 = true := by decide +kernel

def K_X1_work_0 : kCtr := ([.inr (.inr (.inl (false, [7]))), .inl (0, 400), kA, .inl (0, 5)], [(0, 5, .inr (.inr (.inl (false, [53]))))], [(some (kL), [], [])], [(25, 0)], [], [])
def I_X1_work : List (Nat × Instr × Nat) := [(0, .iconst 0, 1), (1, .istore 4, 2), (3, .iload_n 1, 1), (4, .istore 5, 2), (6, .iload 5, 2), (8, .iload_n 2, 1), (9, .if_icmp .ge 169, 3), (12, .iload 5, 2), (14, .aload_n 0, 1), (15, .getfield 63, 3), (18, .getfield 149, 3), (21, .arraylength, 1), (22, .if_icmp .ge 156, 3), (25, .aload_n 0, 1), (26, .getfield 63, 3), (29, .getfield 149, 3), (32, .iload 5, 2), (34, .iaload, 1), (35, .bipush 31, 2), (37, .iand, 1), (38, .istore 6, 2), (40, .iload 6, 2), (42, .bipush 12, 2), (44, .if_icmp .ge 54, 3), (47, .iload 4, 2), (49, .bipush 64, 2), (51, .if_icmp .ge 121, 3), (54, .aload_n 0, 1), (55, .getfield 18, 3), (58, .iload 4, 2), (60, .iload 6, 2), (62, .bipush 11, 2), (64, .if_icmp .ne 19, 3), (67, .aload_n 0, 1), (68, .getfield 63, 3), (71, .getfield 149, 3), (74, .iload 5, 2), (76, .iaload, 1), (77, .iconst 5, 1), (78, .ishr, 1), (79, .i2l, 1), (80, .goto 11, 3), (83, .aload_n 0, 1), (84, .iload 6, 2), (86, .iload_n 3, 1), (87, .invokevirtual 152, 3), (90, .i2l, 1), (91, .lastore, 1), (92, .iinc 4 1, 3), (95, .goto 77, 3), (98, .iload 6, 2), (100, .bipush 12, 2), (102, .if_icmp .ne 31, 3), (105, .iload 4, 2), (107, .ifCond .le 65, 3), (110, .aload_n 0, 1), (111, .getfield 18, 3), (114, .iload 4, 2), (116, .iconst 1, 1), (117, .isub, 1), (118, .lconst 1, 1), (119, .aload_n 0, 1), (120, .getfield 18, 3), (123, .iload 4, 2), (125, .iconst 1, 1), (126, .isub, 1), (127, .laload, 1), (128, .lsub, 1), (129, .lastore, 1), (130, .goto 42, 3), (133, .iload 4, 2), (135, .iconst 1, 1), (136, .if_icmp .le 36, 3), (139, .iinc 4 (-1), 3), (142, .aload_n 0, 1), (143, .getfield 18, 3), (146, .iload 4, 2), (148, .iconst 1, 1), (149, .isub, 1), (150, .iload 6, 2), (152, .aload_n 0, 1), (153, .getfield 18, 3), (156, .iload 4, 2), (158, .iconst 1, 1), (159, .isub, 1), (160, .laload, 1), (161, .aload_n 0, 1), (162, .getfield 18, 3), (165, .iload 4, 2), (167, .laload, 1), (168, .invokestatic 156, 3), (171, .lastore, 1), (172, .iinc 5 1, 3), (175, .goto (-169), 3), (178, .iload 4, 2), (180, .ifCond .le 12, 3), (183, .aload_n 0, 1), (184, .getfield 18, 3), (187, .iconst 0, 1), (188, .laload, 1), (189, .goto 4, 3), (192, .lconst 0, 1), (193, .lreturn, 1)]
theorem dec_X1_work : ∀ q ∈ I_X1_work, decode cX1_work q.1 = .ok q.2 := by decide +kernel
def M_X1_work_0 : kM := (I_X1_work, gFL1, gCI1, gCJ1, [(87, K_X1_wordOf), (168, K_X1_join)], K_X1_work_0, 3, 7, [(6, ([(2, 0, 0), (2, 1, 0), (2, 2, 0), (2, 3, 0), (0, 4, 0), (0, 5, 0), (1, 0, 5)], [.inr (.inr (.inl (false, [7]))), .inl (0, 400), kA, .inl (0, 5), .inl (0, 64), .inl (0, 400), .inr (.inr (.inl (false, [53])))], [(0, .inl 0), (1, .inl 1), (2, .inl 2), (3, .inl 3), (4, .inl 4), (5, .inl 5)], [(0, 5, .inl 6)], [], [.inl 0, .inl 1, .inl 2, .inl 3], [(1, 0, 0), (400, (-1), 5)]))], [])
theorem chk_X1_work_0 : k_check gTT gGS M_X1_work_0 4000 = true := by decide +kernel

def K_X1_weigh_0 : kCtr := ([.inr (.inr (.inl (false, [7]))), .inl (0, 5)], [(0, 5, .inr (.inr (.inl (false, [53]))))], [(some (kL), [], [])], [(7, 8)], [], [])
def I_X1_weigh : List (Nat × Instr × Nat) := [(0, .aload_n 0, 1), (1, .aload_n 0, 1), (2, .getfield 36, 3), (5, .getfield 131, 3), (8, .iload_n 1, 1), (9, .iaload, 1), (10, .aload_n 0, 1), (11, .getfield 87, 3), (14, .iand, 1), (15, .invokestatic 89, 3), (18, .putfield 134, 3), (21, .iconst 0, 1), (22, .istore_n 2, 1), (23, .iload_n 2, 1), (24, .aload_n 0, 1), (25, .getfield 63, 3), (28, .getfield 137, 3), (31, .if_icmp .ge 81, 3), (34, .aload_n 0, 1), (35, .getfield 63, 3), (38, .getfield 142, 3), (41, .iconst 2, 1), (42, .iload_n 2, 1), (43, .imul, 1), (44, .iaload, 1), (45, .istore_n 3, 1), (46, .aload_n 0, 1), (47, .getfield 63, 3), (50, .getfield 142, 3), (53, .iconst 2, 1), (54, .iload_n 2, 1), (55, .imul, 1), (56, .iconst 1, 1), (57, .iadd, 1), (58, .iaload, 1), (59, .istore 4, 2), (61, .aload_n 0, 1), (62, .getfield 63, 3), (65, .getfield 142, 3), (68, .iconst 2, 1), (69, .iload_n 2, 1), (70, .imul, 1), (71, .iconst 2, 1), (72, .iadd, 1), (73, .iaload, 1), (74, .istore 5, 2), (76, .iload 4, 2), (78, .iload 5, 2), (80, .if_icmp .eq 17, 3), (83, .aload_n 0, 1), (84, .iload 4, 2), (86, .iload 5, 2), (88, .iload_n 1, 1), (89, .invokevirtual 145, 3), (92, .lconst 0, 1), (93, .lcmp, 1), (94, .ifCond .eq 12, 3), (97, .aload_n 0, 1), (98, .iload_n 3, 1), (99, .iload 4, 2), (101, .iload_n 1, 1), (102, .invokevirtual 145, 3), (105, .lreturn, 1), (106, .iinc 2 1, 3), (109, .goto (-86), 3), (112, .lconst 0, 1), (113, .lreturn, 1)]
theorem dec_X1_weigh : ∀ q ∈ I_X1_weigh, decode cX1_weigh q.1 = .ok q.2 := by decide +kernel
def M_X1_weigh_0 : kM := (I_X1_weigh, gFL1, gCI1, gCJ1, [(15, K_J6_bitCount_0f7a4)], K_X1_weigh_0, 3, 6, [(23, ([(2, 0, 0), (2, 1, 0), (0, 2, 0), (1, 0, 5)], [.inr (.inr (.inl (false, [7]))), .inl (0, 5), .inl (0, 0), .inr (.inr (.inl (false, [53])))], [(0, .inl 0), (1, .inl 1), (2, .inl 2)], [(0, 5, .inl 3)], [], [.inl 0, .inl 1], [(1, 0, 0), (5, (-1), 1)]))], [])
theorem chk_X1_weigh_0 : k_check gTT gGS M_X1_weigh_0 4000 = true := by decide +kernel

def K_X1_work_1 : kCtr := ([.inr (.inr (.inl (false, [7]))), .inl (0, 400), kA, .inl (0, 5)], [(0, 5, .inr (.inr (.inl (false, [54]))))], [(some (kL), [], [])], [(25, 0)], [], [])
def M_X1_work_1 : kM := (I_X1_work, gFL1, gCI1, gCJ1, [(87, K_X1_wordOf), (168, K_X1_join)], K_X1_work_1, 3, 7, [(6, ([(2, 0, 0), (2, 1, 0), (2, 2, 0), (2, 3, 0), (0, 4, 0), (0, 5, 0), (1, 0, 5)], [.inr (.inr (.inl (false, [7]))), .inl (0, 400), kA, .inl (0, 5), .inl (0, 64), .inl (0, 400), .inr (.inr (.inl (false, [54])))], [(0, .inl 0), (1, .inl 1), (2, .inl 2), (3, .inl 3), (4, .inl 4), (5, .inl 5)], [(0, 5, .inl 6)], [], [.inl 0, .inl 1, .inl 2, .inl 3], [(1, 0, 0), (400, (-1), 5)]))], [])
theorem chk_X1_work_1 : k_check gTT gGS M_X1_work_1 4000 = true := by decide +kernel

def K_X1_weigh_1 : kCtr := ([.inr (.inr (.inl (false, [7]))), .inl (0, 5)], [(0, 5, .inr (.inr (.inl (false, [54]))))], [(some (kL), [], [])], [(7, 8), (25, 0)], [], [])
def M_X1_weigh_1 : kM := (I_X1_weigh, gFL1, gCI1, gCJ1, [(15, K_J6_bitCount_0f7a4), (89, K_X1_work_1), (102, K_X1_work_1)], K_X1_weigh_1, 3, 6, [(23, ([(2, 0, 0), (2, 1, 0), (0, 2, 0), (1, 0, 5)], [.inr (.inr (.inl (false, [7]))), .inl (0, 5), .inl (0, 1), .inr (.inr (.inl (false, [54])))], [(0, .inl 0), (1, .inl 1), (2, .inl 2)], [(0, 5, .inl 3)], [], [.inl 0, .inl 1], [(1, 0, 0), (1, (-1), 2)]))], [])
theorem chk_X1_weigh_1 : k_check gTT gGS M_X1_weigh_1 4000 = true := by decide +kernel

def K_X1_work_2 : kCtr := ([.inr (.inr (.inl (false, [7]))), .inl (0, 400), kA, .inl (0, 5)], [(0, 5, .inr (.inr (.inl (false, [55]))))], [(some (kL), [], [])], [(25, 0)], [], [])
def M_X1_work_2 : kM := (I_X1_work, gFL1, gCI1, gCJ1, [(87, K_X1_wordOf), (168, K_X1_join)], K_X1_work_2, 3, 7, [(6, ([(2, 0, 0), (2, 1, 0), (2, 2, 0), (2, 3, 0), (0, 4, 0), (0, 5, 0), (1, 0, 5)], [.inr (.inr (.inl (false, [7]))), .inl (0, 400), kA, .inl (0, 5), .inl (0, 64), .inl (0, 400), .inr (.inr (.inl (false, [55])))], [(0, .inl 0), (1, .inl 1), (2, .inl 2), (3, .inl 3), (4, .inl 4), (5, .inl 5)], [(0, 5, .inl 6)], [], [.inl 0, .inl 1, .inl 2, .inl 3], [(1, 0, 0), (400, (-1), 5)]))], [])
theorem chk_X1_work_2 : k_check gTT gGS M_X1_work_2 4000 = true := by decide +kernel

def K_X1_weigh_2 : kCtr := ([.inr (.inr (.inl (false, [7]))), .inl (0, 5)], [(0, 5, .inr (.inr (.inl (false, [55]))))], [(some (kL), [], [])], [(7, 8), (25, 0)], [], [])
def M_X1_weigh_2 : kM := (I_X1_weigh, gFL1, gCI1, gCJ1, [(15, K_J6_bitCount_0f7a4), (89, K_X1_work_2), (102, K_X1_work_2)], K_X1_weigh_2, 3, 6, [(23, ([(2, 0, 0), (2, 1, 0), (0, 2, 0), (1, 0, 5)], [.inr (.inr (.inl (false, [7]))), .inl (0, 5), .inl (0, 2), .inr (.inr (.inl (false, [55])))], [(0, .inl 0), (1, .inl 1), (2, .inl 2)], [(0, 5, .inl 3)], [], [.inl 0, .inl 1], [(1, 0, 0), (2, (-1), 2)]))], [])
theorem chk_X1_weigh_2 : k_check gTT gGS M_X1_weigh_2 4000 = true := by decide +kernel

def K_X1_work_3 : kCtr := ([.inr (.inr (.inl (false, [7]))), .inl (0, 400), kA, .inl (0, 5)], [(0, 5, .inr (.inr (.inl (false, [56]))))], [(some (kL), [], [])], [(25, 0)], [], [])
def M_X1_work_3 : kM := (I_X1_work, gFL1, gCI1, gCJ1, [(87, K_X1_wordOf), (168, K_X1_join)], K_X1_work_3, 3, 7, [(6, ([(2, 0, 0), (2, 1, 0), (2, 2, 0), (2, 3, 0), (0, 4, 0), (0, 5, 0), (1, 0, 5)], [.inr (.inr (.inl (false, [7]))), .inl (0, 400), kA, .inl (0, 5), .inl (0, 64), .inl (0, 400), .inr (.inr (.inl (false, [56])))], [(0, .inl 0), (1, .inl 1), (2, .inl 2), (3, .inl 3), (4, .inl 4), (5, .inl 5)], [(0, 5, .inl 6)], [], [.inl 0, .inl 1, .inl 2, .inl 3], [(1, 0, 0), (400, (-1), 5)]))], [])
theorem chk_X1_work_3 : k_check gTT gGS M_X1_work_3 4000 = true := by decide +kernel

def K_X1_weigh_3 : kCtr := ([.inr (.inr (.inl (false, [7]))), .inl (0, 5)], [(0, 5, .inr (.inr (.inl (false, [56]))))], [(some (kL), [], [])], [(7, 8), (25, 0)], [], [])
def M_X1_weigh_3 : kM := (I_X1_weigh, gFL1, gCI1, gCJ1, [(15, K_J6_bitCount_0f7a4), (89, K_X1_work_3), (102, K_X1_work_3)], K_X1_weigh_3, 3, 6, [(23, ([(2, 0, 0), (2, 1, 0), (0, 2, 0), (1, 0, 5)], [.inr (.inr (.inl (false, [7]))), .inl (0, 5), .inl (0, 3), .inr (.inr (.inl (false, [56])))], [(0, .inl 0), (1, .inl 1), (2, .inl 2)], [(0, 5, .inl 3)], [], [.inl 0, .inl 1], [(1, 0, 0), (3, (-1), 2)]))], [])
theorem chk_X1_weigh_3 : k_check gTT gGS M_X1_weigh_3 4000 = true := by decide +kernel

def K_X1_work_4 : kCtr := ([.inr (.inr (.inl (false, [7]))), .inl (0, 400), kA, .inl (0, 5)], [(0, 5, .inr (.inr (.inl (false, [57]))))], [(some (kL), [], [])], [(25, 0)], [], [])
def M_X1_work_4 : kM := (I_X1_work, gFL1, gCI1, gCJ1, [(87, K_X1_wordOf), (168, K_X1_join)], K_X1_work_4, 3, 7, [(6, ([(2, 0, 0), (2, 1, 0), (2, 2, 0), (2, 3, 0), (0, 4, 0), (0, 5, 0), (1, 0, 5)], [.inr (.inr (.inl (false, [7]))), .inl (0, 400), kA, .inl (0, 5), .inl (0, 64), .inl (0, 400), .inr (.inr (.inl (false, [57])))], [(0, .inl 0), (1, .inl 1), (2, .inl 2), (3, .inl 3), (4, .inl 4), (5, .inl 5)], [(0, 5, .inl 6)], [], [.inl 0, .inl 1, .inl 2, .inl 3], [(1, 0, 0), (400, (-1), 5)]))], [])
theorem chk_X1_work_4 : k_check gTT gGS M_X1_work_4 4000 = true := by decide +kernel

def K_X1_weigh_4 : kCtr := ([.inr (.inr (.inl (false, [7]))), .inl (0, 5)], [(0, 5, .inr (.inr (.inl (false, [57]))))], [(some (kL), [], [])], [(7, 8), (25, 0)], [], [])
def M_X1_weigh_4 : kM := (I_X1_weigh, gFL1, gCI1, gCJ1, [(15, K_J6_bitCount_0f7a4), (89, K_X1_work_4), (102, K_X1_work_4)], K_X1_weigh_4, 3, 6, [(23, ([(2, 0, 0), (2, 1, 0), (0, 2, 0), (1, 0, 5)], [.inr (.inr (.inl (false, [7]))), .inl (0, 5), .inl (0, 5), .inr (.inr (.inl (false, [57])))], [(0, .inl 0), (1, .inl 1), (2, .inl 2)], [(0, 5, .inl 3)], [], [.inl 0, .inl 1], [(1, 0, 0), (5, (-1), 2)]))], [])
theorem chk_X1_weigh_4 : k_check gTT gGS M_X1_weigh_4 4000 = true := by decide +kernel

def K_X1_work_5 : kCtr := ([.inr (.inr (.inl (false, [7]))), .inl (0, 400), kA, .inl (0, 5)], [(0, 5, .inr (.inr (.inl (false, [58]))))], [(some (kL), [], [])], [(25, 0)], [], [])
def M_X1_work_5 : kM := (I_X1_work, gFL1, gCI1, gCJ1, [(87, K_X1_wordOf), (168, K_X1_join)], K_X1_work_5, 3, 7, [(6, ([(2, 0, 0), (2, 1, 0), (2, 2, 0), (2, 3, 0), (0, 4, 0), (0, 5, 0), (1, 0, 5)], [.inr (.inr (.inl (false, [7]))), .inl (0, 400), kA, .inl (0, 5), .inl (0, 64), .inl (0, 400), .inr (.inr (.inl (false, [58])))], [(0, .inl 0), (1, .inl 1), (2, .inl 2), (3, .inl 3), (4, .inl 4), (5, .inl 5)], [(0, 5, .inl 6)], [], [.inl 0, .inl 1, .inl 2, .inl 3], [(1, 0, 0), (400, (-1), 5)]))], [])
theorem chk_X1_work_5 : k_check gTT gGS M_X1_work_5 4000 = true := by decide +kernel

def K_X1_weigh_5 : kCtr := ([.inr (.inr (.inl (false, [7]))), .inl (0, 5)], [(0, 5, .inr (.inr (.inl (false, [58]))))], [(some (kL), [], [])], [(7, 8), (25, 0)], [], [])
def M_X1_weigh_5 : kM := (I_X1_weigh, gFL1, gCI1, gCJ1, [(15, K_J6_bitCount_0f7a4), (89, K_X1_work_5), (102, K_X1_work_5)], K_X1_weigh_5, 3, 6, [(23, ([(2, 0, 0), (2, 1, 0), (0, 2, 0), (1, 0, 5)], [.inr (.inr (.inl (false, [7]))), .inl (0, 5), .inl (0, 5), .inr (.inr (.inl (false, [58])))], [(0, .inl 0), (1, .inl 1), (2, .inl 2)], [(0, 5, .inl 3)], [], [.inl 0, .inl 1], [(1, 0, 0), (5, (-1), 2)]))], [])
theorem chk_X1_weigh_5 : k_check gTT gGS M_X1_weigh_5 4000 = true := by decide +kernel

def K_X1_work_6 : kCtr := ([.inr (.inr (.inl (false, [7]))), .inl (0, 400), kA, .inl (0, 5)], [(0, 5, .inr (.inr (.inl (false, [59]))))], [(some (kL), [], [])], [(25, 0)], [], [])
def M_X1_work_6 : kM := (I_X1_work, gFL1, gCI1, gCJ1, [(87, K_X1_wordOf), (168, K_X1_join)], K_X1_work_6, 3, 7, [(6, ([(2, 0, 0), (2, 1, 0), (2, 2, 0), (2, 3, 0), (0, 4, 0), (0, 5, 0), (1, 0, 5)], [.inr (.inr (.inl (false, [7]))), .inl (0, 400), kA, .inl (0, 5), .inl (0, 64), .inl (0, 400), .inr (.inr (.inl (false, [59])))], [(0, .inl 0), (1, .inl 1), (2, .inl 2), (3, .inl 3), (4, .inl 4), (5, .inl 5)], [(0, 5, .inl 6)], [], [.inl 0, .inl 1, .inl 2, .inl 3], [(1, 0, 0), (400, (-1), 5)]))], [])
theorem chk_X1_work_6 : k_check gTT gGS M_X1_work_6 4000 = true := by decide +kernel

def K_X1_weigh_6 : kCtr := ([.inr (.inr (.inl (false, [7]))), .inl (0, 5)], [(0, 5, .inr (.inr (.inl (false, [59]))))], [(some (kL), [], [])], [(7, 8), (25, 0)], [], [])
def M_X1_weigh_6 : kM := (I_X1_weigh, gFL1, gCI1, gCJ1, [(15, K_J6_bitCount_0f7a4), (89, K_X1_work_6), (102, K_X1_work_6)], K_X1_weigh_6, 3, 6, [(23, ([(2, 0, 0), (2, 1, 0), (0, 2, 0), (1, 0, 5)], [.inr (.inr (.inl (false, [7]))), .inl (0, 5), .inl (0, 6), .inr (.inr (.inl (false, [59])))], [(0, .inl 0), (1, .inl 1), (2, .inl 2)], [(0, 5, .inl 3)], [], [.inl 0, .inl 1], [(1, 0, 0), (6, (-1), 2)]))], [])
theorem chk_X1_weigh_6 : k_check gTT gGS M_X1_weigh_6 4000 = true := by decide +kernel

def K_X1_work_7 : kCtr := ([.inr (.inr (.inl (false, [7]))), .inl (0, 400), kA, .inl (0, 5)], [(0, 5, .inr (.inr (.inl (false, [60]))))], [(some (kL), [], [])], [(25, 0)], [], [])
def M_X1_work_7 : kM := (I_X1_work, gFL1, gCI1, gCJ1, [(87, K_X1_wordOf), (168, K_X1_join)], K_X1_work_7, 3, 7, [(6, ([(2, 0, 0), (2, 1, 0), (2, 2, 0), (2, 3, 0), (0, 4, 0), (0, 5, 0), (1, 0, 5)], [.inr (.inr (.inl (false, [7]))), .inl (0, 400), kA, .inl (0, 5), .inl (0, 64), .inl (0, 400), .inr (.inr (.inl (false, [60])))], [(0, .inl 0), (1, .inl 1), (2, .inl 2), (3, .inl 3), (4, .inl 4), (5, .inl 5)], [(0, 5, .inl 6)], [], [.inl 0, .inl 1, .inl 2, .inl 3], [(1, 0, 0), (400, (-1), 5)]))], [])
theorem chk_X1_work_7 : k_check gTT gGS M_X1_work_7 4000 = true := by decide +kernel

def K_X1_weigh_7 : kCtr := ([.inr (.inr (.inl (false, [7]))), .inl (0, 5)], [(0, 5, .inr (.inr (.inl (false, [60]))))], [(some (kL), [], [])], [(7, 8), (25, 0)], [], [])
def M_X1_weigh_7 : kM := (I_X1_weigh, gFL1, gCI1, gCJ1, [(15, K_J6_bitCount_0f7a4), (89, K_X1_work_7), (102, K_X1_work_7)], K_X1_weigh_7, 3, 6, [(23, ([(2, 0, 0), (2, 1, 0), (0, 2, 0), (1, 0, 5)], [.inr (.inr (.inl (false, [7]))), .inl (0, 5), .inl (0, 7), .inr (.inr (.inl (false, [60])))], [(0, .inl 0), (1, .inl 1), (2, .inl 2)], [(0, 5, .inl 3)], [], [.inl 0, .inl 1], [(1, 0, 0), (7, (-1), 2)]))], [])
theorem chk_X1_weigh_7 : k_check gTT gGS M_X1_weigh_7 4000 = true := by decide +kernel

def K_X1_work_8 : kCtr := ([.inr (.inr (.inl (false, [7]))), .inl (0, 400), kA, .inl (0, 5)], [(0, 5, .inr (.inr (.inl (false, [61]))))], [(some (kL), [], [])], [(25, 0)], [], [])
def M_X1_work_8 : kM := (I_X1_work, gFL1, gCI1, gCJ1, [(87, K_X1_wordOf), (168, K_X1_join)], K_X1_work_8, 3, 7, [(6, ([(2, 0, 0), (2, 1, 0), (2, 2, 0), (2, 3, 0), (0, 4, 0), (0, 5, 0), (1, 0, 5)], [.inr (.inr (.inl (false, [7]))), .inl (0, 400), kA, .inl (0, 5), .inl (0, 64), .inl (0, 400), .inr (.inr (.inl (false, [61])))], [(0, .inl 0), (1, .inl 1), (2, .inl 2), (3, .inl 3), (4, .inl 4), (5, .inl 5)], [(0, 5, .inl 6)], [], [.inl 0, .inl 1, .inl 2, .inl 3], [(1, 0, 0), (400, (-1), 5)]))], [])
theorem chk_X1_work_8 : k_check gTT gGS M_X1_work_8 4000 = true := by decide +kernel

def K_X1_weigh_8 : kCtr := ([.inr (.inr (.inl (false, [7]))), .inl (0, 5)], [(0, 5, .inr (.inr (.inl (false, [61]))))], [(some (kL), [], [])], [(7, 8), (25, 0)], [], [])
def M_X1_weigh_8 : kM := (I_X1_weigh, gFL1, gCI1, gCJ1, [(15, K_J6_bitCount_0f7a4), (89, K_X1_work_8), (102, K_X1_work_8)], K_X1_weigh_8, 3, 6, [(23, ([(2, 0, 0), (2, 1, 0), (0, 2, 0), (1, 0, 5)], [.inr (.inr (.inl (false, [7]))), .inl (0, 5), .inl (0, 10), .inr (.inr (.inl (false, [61])))], [(0, .inl 0), (1, .inl 1), (2, .inl 2)], [(0, 5, .inl 3)], [], [.inl 0, .inl 1], [(1, 0, 0), (10, (-1), 2)]))], [])
theorem chk_X1_weigh_8 : k_check gTT gGS M_X1_weigh_8 4000 = true := by decide +kernel

def K_X1_work_9 : kCtr := ([.inr (.inr (.inl (false, [7]))), .inl (0, 400), kA, .inl (0, 5)], [(0, 5, .inr (.inr (.inl (false, [62]))))], [(some (kL), [], [])], [(25, 0)], [], [])
def M_X1_work_9 : kM := (I_X1_work, gFL1, gCI1, gCJ1, [(87, K_X1_wordOf), (168, K_X1_join)], K_X1_work_9, 3, 7, [(6, ([(2, 0, 0), (2, 1, 0), (2, 2, 0), (2, 3, 0), (0, 4, 0), (0, 5, 0), (1, 0, 5)], [.inr (.inr (.inl (false, [7]))), .inl (0, 400), kA, .inl (0, 5), .inl (0, 64), .inl (0, 400), .inr (.inr (.inl (false, [62])))], [(0, .inl 0), (1, .inl 1), (2, .inl 2), (3, .inl 3), (4, .inl 4), (5, .inl 5)], [(0, 5, .inl 6)], [], [.inl 0, .inl 1, .inl 2, .inl 3], [(1, 0, 0), (400, (-1), 5)]))], [])
theorem chk_X1_work_9 : k_check gTT gGS M_X1_work_9 4000 = true := by decide +kernel

def K_X1_weigh_9 : kCtr := ([.inr (.inr (.inl (false, [7]))), .inl (0, 5)], [(0, 5, .inr (.inr (.inl (false, [62]))))], [(some (kL), [], [])], [(7, 8), (25, 0)], [], [])
def M_X1_weigh_9 : kM := (I_X1_weigh, gFL1, gCI1, gCJ1, [(15, K_J6_bitCount_0f7a4), (89, K_X1_work_9), (102, K_X1_work_9)], K_X1_weigh_9, 3, 6, [(23, ([(2, 0, 0), (2, 1, 0), (0, 2, 0), (1, 0, 5)], [.inr (.inr (.inl (false, [7]))), .inl (0, 5), .inl (0, 10), .inr (.inr (.inl (false, [62])))], [(0, .inl 0), (1, .inl 1), (2, .inl 2)], [(0, 5, .inl 3)], [], [.inl 0, .inl 1], [(1, 0, 0), (10, (-1), 2)]))], [])
theorem chk_X1_weigh_9 : k_check gTT gGS M_X1_weigh_9 4000 = true := by decide +kernel

def K_X1_work_10 : kCtr := ([.inr (.inr (.inl (false, [7]))), .inl (0, 400), kA, .inl (0, 5)], [(0, 5, .inr (.inr (.inl (false, [63]))))], [(some (kL), [], [])], [(25, 0)], [], [])
def M_X1_work_10 : kM := (I_X1_work, gFL1, gCI1, gCJ1, [(87, K_X1_wordOf), (168, K_X1_join)], K_X1_work_10, 3, 7, [(6, ([(2, 0, 0), (2, 1, 0), (2, 2, 0), (2, 3, 0), (0, 4, 0), (0, 5, 0), (1, 0, 5)], [.inr (.inr (.inl (false, [7]))), .inl (0, 400), kA, .inl (0, 5), .inl (0, 64), .inl (0, 400), .inr (.inr (.inl (false, [63])))], [(0, .inl 0), (1, .inl 1), (2, .inl 2), (3, .inl 3), (4, .inl 4), (5, .inl 5)], [(0, 5, .inl 6)], [], [.inl 0, .inl 1, .inl 2, .inl 3], [(1, 0, 0), (400, (-1), 5)]))], [])
theorem chk_X1_work_10 : k_check gTT gGS M_X1_work_10 4000 = true := by decide +kernel

def K_X1_weigh_10 : kCtr := ([.inr (.inr (.inl (false, [7]))), .inl (0, 5)], [(0, 5, .inr (.inr (.inl (false, [63]))))], [(some (kL), [], [])], [(7, 8), (25, 0)], [], [])
def M_X1_weigh_10 : kM := (I_X1_weigh, gFL1, gCI1, gCJ1, [(15, K_J6_bitCount_0f7a4), (89, K_X1_work_10), (102, K_X1_work_10)], K_X1_weigh_10, 3, 6, [(23, ([(2, 0, 0), (2, 1, 0), (0, 2, 0), (1, 0, 5)], [.inr (.inr (.inl (false, [7]))), .inl (0, 5), .inl (0, 10), .inr (.inr (.inl (false, [63])))], [(0, .inl 0), (1, .inl 1), (2, .inl 2)], [(0, 5, .inl 3)], [], [.inl 0, .inl 1], [(1, 0, 0), (10, (-1), 2)]))], [])
theorem chk_X1_weigh_10 : k_check gTT gGS M_X1_weigh_10 4000 = true := by decide +kernel

def K_X1_work_11 : kCtr := ([.inr (.inr (.inl (false, [7]))), .inl (0, 400), kA, .inl (0, 5)], [(0, 5, .inr (.inr (.inl (false, [64]))))], [(some (kL), [], [])], [(25, 0)], [], [])
def M_X1_work_11 : kM := (I_X1_work, gFL1, gCI1, gCJ1, [(87, K_X1_wordOf), (168, K_X1_join)], K_X1_work_11, 3, 7, [(6, ([(2, 0, 0), (2, 1, 0), (2, 2, 0), (2, 3, 0), (0, 4, 0), (0, 5, 0), (1, 0, 5)], [.inr (.inr (.inl (false, [7]))), .inl (0, 400), kA, .inl (0, 5), .inl (0, 64), .inl (0, 400), .inr (.inr (.inl (false, [64])))], [(0, .inl 0), (1, .inl 1), (2, .inl 2), (3, .inl 3), (4, .inl 4), (5, .inl 5)], [(0, 5, .inl 6)], [], [.inl 0, .inl 1, .inl 2, .inl 3], [(1, 0, 0), (400, (-1), 5)]))], [])
theorem chk_X1_work_11 : k_check gTT gGS M_X1_work_11 4000 = true := by decide +kernel

def K_X1_weigh_11 : kCtr := ([.inr (.inr (.inl (false, [7]))), .inl (0, 5)], [(0, 5, .inr (.inr (.inl (false, [64]))))], [(some (kL), [], [])], [(7, 8), (25, 0)], [], [])
def M_X1_weigh_11 : kM := (I_X1_weigh, gFL1, gCI1, gCJ1, [(15, K_J6_bitCount_0f7a4), (89, K_X1_work_11), (102, K_X1_work_11)], K_X1_weigh_11, 3, 6, [(23, ([(2, 0, 0), (2, 1, 0), (0, 2, 0), (1, 0, 5)], [.inr (.inr (.inl (false, [7]))), .inl (0, 5), .inl (0, 20), .inr (.inr (.inl (false, [64])))], [(0, .inl 0), (1, .inl 1), (2, .inl 2)], [(0, 5, .inl 3)], [], [.inl 0, .inl 1], [(1, 0, 0), (20, (-1), 2)]))], [])
theorem chk_X1_weigh_11 : k_check gTT gGS M_X1_weigh_11 4000 = true := by decide +kernel

def K_X1_work_12 : kCtr := ([.inr (.inr (.inl (false, [7]))), .inl (0, 400), kA, .inl (0, 5)], [(0, 5, .inr (.inr (.inl (false, [65]))))], [(some (kL), [], [])], [(25, 0)], [], [])
def M_X1_work_12 : kM := (I_X1_work, gFL1, gCI1, gCJ1, [(87, K_X1_wordOf), (168, K_X1_join)], K_X1_work_12, 3, 7, [(6, ([(2, 0, 0), (2, 1, 0), (2, 2, 0), (2, 3, 0), (0, 4, 0), (0, 5, 0), (1, 0, 5)], [.inr (.inr (.inl (false, [7]))), .inl (0, 400), kA, .inl (0, 5), .inl (0, 64), .inl (0, 400), .inr (.inr (.inl (false, [65])))], [(0, .inl 0), (1, .inl 1), (2, .inl 2), (3, .inl 3), (4, .inl 4), (5, .inl 5)], [(0, 5, .inl 6)], [], [.inl 0, .inl 1, .inl 2, .inl 3], [(1, 0, 0), (400, (-1), 5)]))], [])
theorem chk_X1_work_12 : k_check gTT gGS M_X1_work_12 4000 = true := by decide +kernel

def K_X1_weigh_12 : kCtr := ([.inr (.inr (.inl (false, [7]))), .inl (0, 5)], [(0, 5, .inr (.inr (.inl (false, [65]))))], [(some (kL), [], [])], [(7, 8), (25, 0)], [], [])
def M_X1_weigh_12 : kM := (I_X1_weigh, gFL1, gCI1, gCJ1, [(15, K_J6_bitCount_0f7a4), (89, K_X1_work_12), (102, K_X1_work_12)], K_X1_weigh_12, 3, 6, [(23, ([(2, 0, 0), (2, 1, 0), (0, 2, 0), (1, 0, 5)], [.inr (.inr (.inl (false, [7]))), .inl (0, 5), .inl (0, 20), .inr (.inr (.inl (false, [65])))], [(0, .inl 0), (1, .inl 1), (2, .inl 2)], [(0, 5, .inl 3)], [], [.inl 0, .inl 1], [(1, 0, 0), (20, (-1), 2)]))], [])
theorem chk_X1_weigh_12 : k_check gTT gGS M_X1_weigh_12 4000 = true := by decide +kernel

def K_X1_weigh_any : kCtr := ([.inr (.inr (.inl (false, [7]))), .inl (0, 5)], [(0, 5, .inr (.inr (.inl (false, [53, 54, 55, 56, 57, 58, 59, 60, 61, 62, 63, 64, 65]))))], [(some (kL), [], [])], [(7, 8), (25, 0)], [], [])

def K_X1_choose : kCtr := ([.inr (.inr (.inl (false, [7])))], [], [(none, [], [])], [(4, 7), (4, 8), (7, 6), (7, 7), (7, 8), (25, 0)], [], [])
def I_X1_choose : List (Nat × Instr × Nat) := [(0, .iconst (-1), 1), (1, .istore_n 1, 1), (2, .lconst 0, 1), (3, .lstore_n 2, 1), (4, .aload_n 0, 1), (5, .aload_n 0, 1), (6, .getfield 12, 3), (9, .invokevirtual 71, 3), (12, .putfield 87, 3), (15, .aload_n 0, 1), (16, .aload_n 0, 1), (17, .getfield 87, 3), (20, .invokestatic 89, 3), (23, .putfield 95, 3), (26, .iconst 0, 1), (27, .istore 4, 2), (29, .iload 4, 2), (31, .aload_n 0, 1), (32, .getfield 36, 3), (35, .getfield 98, 3), (38, .if_icmp .ge 61, 3), (41, .aload_n 0, 1), (42, .iload 4, 2), (44, .invokevirtual 101, 3), (47, .bipush (-2), 2), (49, .if_icmp .ne 6, 3), (52, .goto 41, 3), (55, .aload_n 0, 1), (56, .getfield 63, 3), (59, .ifnonnull 13, 3), (62, .aload_n 0, 1), (63, .iload 4, 2), (65, .invokevirtual 104, 3), (68, .i2l, 1), (69, .goto 9, 3), (72, .aload_n 0, 1), (73, .iload 4, 2), (75, .invokevirtual 107, 3), (78, .lstore 5, 2), (80, .lload 5, 2), (82, .lload_n 2, 1), (83, .lcmp, 1), (84, .ifCond .le 9, 3), (87, .lload 5, 2), (89, .lstore_n 2, 1), (90, .iload 4, 2), (92, .istore_n 1, 1), (93, .iinc 4 1, 3), (96, .goto (-67), 3), (99, .iload_n 1, 1), (100, .iconst (-1), 1), (101, .if_icmp .eq 8, 3), (104, .aload_n 0, 1), (105, .iload_n 1, 1), (106, .invokevirtual 111, 3), (109, .return_, 1)]
theorem dec_X1_choose : ∀ q ∈ I_X1_choose, decode cX1_choose q.1 = .ok q.2 := by decide +kernel
def M_X1_choose : kM := (I_X1_choose, gFL1, gCI1, gCJ1, [(9, K_X6_fires), (20, K_J6_bitCount_0f7a4), (44, K_X1_wayTo), (65, K_X1_smokeOf), (75, K_X1_weigh_any), (106, K_X1_sendTo)], K_X1_choose, 0, 7, [(29, ([(2, 0, 0), (0, 1, 0), (0, 2, 0), (0, 4, 0)], [.inr (.inr (.inl (false, [7]))), .inl ((-1), 5), .inr (.inl (0, 9223372036854775807)), .inl (0, 6)], [(0, .inl 0), (1, .inl 1), (2, .inl 2), (4, .inl 3)], [], [], [.inl 0], [(1, 0, 0), (6, (-1), 3)]))], [])
theorem chk_X1_choose : k_check gTT gGS M_X1_choose 4000 = true := by decide +kernel

def K_X1_travel : kCtr := ([.inr (.inr (.inl (false, [7])))], [], [(none, [], [])], [(4, 6), (4, 7), (4, 8)], [], [])
def I_X1_travel : List (Nat × Instr × Nat) := [(0, .aload_n 0, 1), (1, .getfield 12, 3), (4, .getfield 184, 3), (7, .iconst (-1), 1), (8, .if_icmp .ne 4, 3), (11, .return_, 1), (12, .aload_n 0, 1), (13, .getfield 12, 3), (16, .dup, 1), (17, .getfield 187, 3), (20, .iconst 1, 1), (21, .isub, 1), (22, .putfield 187, 3), (25, .aload_n 0, 1), (26, .getfield 12, 3), (29, .getfield 187, 3), (32, .ifCond .gt 26, 3), (35, .aload_n 0, 1), (36, .getfield 12, 3), (39, .aload_n 0, 1), (40, .getfield 12, 3), (43, .getfield 184, 3), (46, .putfield 118, 3), (49, .aload_n 0, 1), (50, .getfield 12, 3), (53, .iconst (-1), 1), (54, .iconst 0, 1), (55, .invokevirtual 121, 3), (58, .return_, 1)]
theorem dec_X1_travel : ∀ q ∈ I_X1_travel, decode cX1_travel q.1 = .ok q.2 := by decide +kernel
def M_X1_travel : kM := (I_X1_travel, gFL1, gCI1, gCJ1, [(55, K_X6_setOut)], K_X1_travel, 0, 1, [], [])
theorem chk_X1_travel : k_check gTT gGS M_X1_travel 4000 = true := by decide +kernel

def K_X1_pour : kCtr := ([.inr (.inr (.inl (false, [7])))], [], [(none, [], [])], [(7, 10), (16, 0)], [], [])
def I_X1_pour : List (Nat × Instr × Nat) := [(0, .aload_n 0, 1), (1, .iconst (-1), 1), (2, .putfield 22, 3), (5, .aload_n 0, 1), (6, .getfield 12, 3), (9, .getfield 184, 3), (12, .iconst (-1), 1), (13, .if_icmp .ne 25, 3), (16, .aload_n 0, 1), (17, .getfield 12, 3), (20, .getfield 118, 3), (23, .ifCond .le 15, 3), (26, .aload_n 0, 1), (27, .getfield 12, 3), (30, .getfield 118, 3), (33, .bipush 6, 2), (35, .if_icmp .le 4, 3), (38, .return_, 1), (39, .aload_n 0, 1), (40, .getfield 12, 3), (43, .getfield 118, 3), (46, .iconst 1, 1), (47, .isub, 1), (48, .istore_n 1, 1), (49, .aload_n 0, 1), (50, .getfield 12, 3), (53, .getfield 166, 3), (56, .iload_n 1, 1), (57, .dup2, 1), (58, .iaload, 1), (59, .iconst 1, 1), (60, .iadd, 1), (61, .iastore, 1), (62, .aload_n 0, 1), (63, .getfield 12, 3), (66, .getfield 125, 3), (69, .iload_n 1, 1), (70, .iaload, 1), (71, .ifCond .le 35, 3), (74, .aload_n 0, 1), (75, .iload_n 1, 1), (76, .putfield 22, 3), (79, .aload_n 0, 1), (80, .getfield 12, 3), (83, .getfield 125, 3), (86, .iload_n 1, 1), (87, .iconst 0, 1), (88, .aload_n 0, 1), (89, .getfield 12, 3), (92, .getfield 125, 3), (95, .iload_n 1, 1), (96, .iaload, 1), (97, .aload_n 0, 1), (98, .getfield 51, 3), (101, .isub, 1), (102, .invokestatic 190, 3), (105, .iastore, 1), (106, .return_, 1)]
theorem dec_X1_pour : ∀ q ∈ I_X1_pour, decode cX1_pour q.1 = .ok q.2 := by decide +kernel
def M_X1_pour : kM := (I_X1_pour, gFL1, gCI1, gCJ1, [(102, K_J9_max_7cf53)], K_X1_pour, 0, 2, [], [])
theorem chk_X1_pour : k_check gTT gGS M_X1_pour 4000 = true := by decide +kernel

def K_X1_burn : kCtr := ([.inr (.inr (.inl (false, [7])))], [], [(some (kA), [], [])], [(16, 0)], [], [])
def I_X1_burn : List (Nat × Instr × Nat) := [(0, .iconst 0, 1), (1, .istore_n 1, 1), (2, .iconst 0, 1), (3, .istore_n 2, 1), (4, .iload_n 2, 1), (5, .aload_n 0, 1), (6, .getfield 36, 3), (9, .getfield 98, 3), (12, .if_icmp .ge 48, 3), (15, .aload_n 0, 1), (16, .getfield 12, 3), (19, .getfield 125, 3), (22, .iload_n 2, 1), (23, .iaload, 1), (24, .aload_n 0, 1), (25, .getfield 12, 3), (28, .getfield 160, 3), (31, .iload_n 2, 1), (32, .iaload, 1), (33, .invokestatic 195, 3), (36, .istore_n 3, 1), (37, .aload_n 0, 1), (38, .getfield 12, 3), (41, .getfield 160, 3), (44, .iload_n 2, 1), (45, .dup2, 1), (46, .iaload, 1), (47, .iload_n 3, 1), (48, .isub, 1), (49, .iastore, 1), (50, .iload_n 1, 1), (51, .iload_n 3, 1), (52, .iadd, 1), (53, .istore_n 1, 1), (54, .iinc 2 1, 3), (57, .goto (-53), 3), (60, .iload_n 1, 1), (61, .ireturn, 1)]
theorem dec_X1_burn : ∀ q ∈ I_X1_burn, decode cX1_burn q.1 = .ok q.2 := by decide +kernel
def M_X1_burn : kM := (I_X1_burn, gFL1, gCI1, gCJ1, [(33, K_J9_min_7cf53)], K_X1_burn, 1, 4, [(4, ([(2, 0, 0), (0, 1, 0), (0, 2, 0)], [.inr (.inr (.inl (false, [7]))), kA, .inl (0, 6)], [(0, .inl 0), (1, .inl 1), (2, .inl 2)], [], [], [.inl 0], [(1, 0, 0), (6, (-1), 2)]))], [])
theorem chk_X1_burn : k_check gTT gGS M_X1_burn 4000 = true := by decide +kernel

def K_X1_spread : kCtr := ([.inr (.inr (.inl (false, [7])))], [], [(none, [], [])], [(16, 0)], [], [])
def I_X1_spread : List (Nat × Instr × Nat) := [(0, .iconst 0, 1), (1, .istore_n 1, 1), (2, .iconst 0, 1), (3, .istore_n 2, 1), (4, .iload_n 2, 1), (5, .aload_n 0, 1), (6, .getfield 36, 3), (9, .getfield 98, 3), (12, .if_icmp .ge 46, 3), (15, .aload_n 0, 1), (16, .getfield 12, 3), (19, .getfield 125, 3), (22, .iload_n 2, 1), (23, .iaload, 1), (24, .aload_n 0, 1), (25, .getfield 36, 3), (28, .getfield 198, 3), (31, .if_icmp .lt 21, 3), (34, .aload_n 0, 1), (35, .getfield 12, 3), (38, .getfield 160, 3), (41, .iload_n 2, 1), (42, .iaload, 1), (43, .ifCond .le 9, 3), (46, .iload_n 1, 1), (47, .iconst 1, 1), (48, .iload_n 2, 1), (49, .ishl, 1), (50, .ior, 1), (51, .istore_n 1, 1), (52, .iinc 2 1, 3), (55, .goto (-51), 3), (58, .iconst 0, 1), (59, .istore_n 2, 1), (60, .iload_n 2, 1), (61, .aload_n 0, 1), (62, .getfield 36, 3), (65, .getfield 98, 3), (68, .if_icmp .ge 92, 3), (71, .aload_n 0, 1), (72, .getfield 12, 3), (75, .getfield 125, 3), (78, .iload_n 2, 1), (79, .iaload, 1), (80, .istore_n 3, 1), (81, .aload_n 0, 1), (82, .getfield 12, 3), (85, .getfield 160, 3), (88, .iload_n 2, 1), (89, .iaload, 1), (90, .ifCond .ne 16, 3), (93, .aload_n 0, 1), (94, .getfield 12, 3), (97, .getfield 125, 3), (100, .iload_n 2, 1), (101, .iconst 0, 1), (102, .iastore, 1), (103, .goto 51, 3), (106, .iload_n 3, 1), (107, .ifCond .le 23, 3), (110, .aload_n 0, 1), (111, .getfield 12, 3), (114, .getfield 125, 3), (117, .iload_n 2, 1), (118, .bipush 9, 2), (120, .iload_n 3, 1), (121, .iconst 1, 1), (122, .iadd, 1), (123, .invokestatic 195, 3), (126, .iastore, 1), (127, .goto 27, 3), (130, .aload_n 0, 1), (131, .getfield 36, 3), (134, .getfield 131, 3), (137, .iload_n 2, 1), (138, .iaload, 1), (139, .iload_n 1, 1), (140, .iand, 1), (141, .ifCond .eq 13, 3), (144, .aload_n 0, 1), (145, .getfield 12, 3), (148, .getfield 125, 3), (151, .iload_n 2, 1), (152, .iconst 1, 1), (153, .iastore, 1), (154, .iinc 2 1, 3), (157, .goto (-97), 3), (160, .return_, 1)]
theorem dec_X1_spread : ∀ q ∈ I_X1_spread, decode cX1_spread q.1 = .ok q.2 := by decide +kernel
def M_X1_spread : kM := (I_X1_spread, gFL1, gCI1, gCJ1, [(123, K_J9_min_7cf53)], K_X1_spread, 0, 4, [(4, ([(2, 0, 0), (0, 1, 0), (0, 2, 0)], [.inr (.inr (.inl (false, [7]))), .inl (0, 63), .inl (0, 6)], [(0, .inl 0), (1, .inl 1), (2, .inl 2)], [], [], [.inl 0], [(2, 0, 0), (6, (-1), 2)])), (60, ([(2, 0, 0), (0, 1, 0), (0, 2, 0)], [.inr (.inr (.inl (false, [7]))), .inl (0, 63), .inl (0, 6)], [(0, .inl 0), (1, .inl 1), (2, .inl 2)], [], [], [.inl 0], [(1, 0, 0), (6, (-1), 2)]))], [])
theorem chk_X1_spread : k_check gTT gGS M_X1_spread 4000 = true := by decide +kernel

def K_X1_passHour : kCtr := ([.inr (.inr (.inl (false, [7])))], [], [(some (kA), [], [])], [(4, 4), (4, 5), (4, 6), (4, 7), (4, 8), (7, 10), (16, 0)], [], [])
def I_X1_passHour : List (Nat × Instr × Nat) := [(0, .aload_n 0, 1), (1, .invokevirtual 172, 3), (4, .aload_n 0, 1), (5, .invokevirtual 175, 3), (8, .aload_n 0, 1), (9, .invokevirtual 178, 3), (12, .istore_n 1, 1), (13, .aload_n 0, 1), (14, .invokevirtual 181, 3), (17, .aload_n 0, 1), (18, .getfield 12, 3), (21, .dup, 1), (22, .getfield 163, 3), (25, .iload_n 1, 1), (26, .iadd, 1), (27, .putfield 163, 3), (30, .aload_n 0, 1), (31, .getfield 12, 3), (34, .dup, 1), (35, .getfield 169, 3), (38, .iconst 1, 1), (39, .iadd, 1), (40, .putfield 169, 3), (43, .iload_n 1, 1), (44, .ireturn, 1)]
theorem dec_X1_passHour : ∀ q ∈ I_X1_passHour, decode cX1_passHour q.1 = .ok q.2 := by decide +kernel
def M_X1_passHour : kM := (I_X1_passHour, gFL1, gCI1, gCJ1, [(1, K_X1_travel), (5, K_X1_pour), (9, K_X1_burn), (14, K_X1_spread)], K_X1_passHour, 1, 2, [], [])
theorem chk_X1_passHour : k_check gTT gGS M_X1_passHour 4000 = true := by decide +kernel

def K_X1_goOneHour : kCtr := ([.inr (.inr (.inl (false, [7])))], [], [(some (kA), [], [])], [(4, 4), (4, 5), (4, 6), (4, 7), (4, 8), (7, 6), (7, 7), (7, 8), (7, 10), (16, 0), (25, 0)], [], [])
def I_X1_goOneHour : List (Nat × Instr × Nat) := [(0, .aload_n 0, 1), (1, .getfield 12, 3), (4, .invokevirtual 77, 3), (7, .ifCond .eq 7, 3), (10, .aload_n 0, 1), (11, .invokevirtual 81, 3), (14, .aload_n 0, 1), (15, .invokevirtual 84, 3), (18, .ireturn, 1)]
theorem dec_X1_goOneHour : ∀ q ∈ I_X1_goOneHour, decode cX1_goOneHour q.1 = .ok q.2 := by decide +kernel
def M_X1_goOneHour : kM := (I_X1_goOneHour, gFL1, gCI1, gCJ1, [(4, K_X6_isFree), (11, K_X1_choose), (15, K_X1_passHour)], K_X1_goOneHour, 1, 1, [], [])
theorem chk_X1_goOneHour : k_check gTT gGS M_X1_goOneHour 4000 = true := by decide +kernel

def K_X1_goHours : kCtr := ([.inr (.inr (.inl (false, [7]))), kA], [], [(none, [], [])], [(4, 4), (4, 5), (4, 6), (4, 7), (4, 8), (7, 6), (7, 7), (7, 8), (7, 10), (16, 0), (25, 0)], [], [])
def I_X1_goHours : List (Nat × Instr × Nat) := [(0, .iconst 0, 1), (1, .istore_n 2, 1), (2, .iload_n 2, 1), (3, .iload_n 1, 1), (4, .if_icmp .ge 14, 3), (7, .aload_n 0, 1), (8, .invokevirtual 67, 3), (11, .pop, 1), (12, .iinc 2 1, 3), (15, .goto (-13), 3), (18, .return_, 1)]
theorem dec_X1_goHours : ∀ q ∈ I_X1_goHours, decode cX1_goHours q.1 = .ok q.2 := by decide +kernel
def M_X1_goHours : kM := (I_X1_goHours, gFL1, gCI1, gCJ1, [(8, K_X1_goOneHour)], K_X1_goHours, 0, 3, [(2, ([(2, 0, 0), (2, 1, 0), (0, 2, 0)], [.inr (.inr (.inl (false, [7]))), kA, .inl (0, 2147483647)], [(0, .inl 0), (1, .inl 1), (2, .inl 2)], [], [], [.inl 0, .inl 1], [(1, 0, 0), (2147483647, (-1), 2)]))], [])
theorem chk_X1_goHours : k_check gTT gGS M_X1_goHours 4000 = true := by decide +kernel

def K_X1_worthAfter : kCtr := ([.inr (.inr (.inl (false, [7]))), kA], [], [(some (kA), [], [])], [(4, 4), (4, 5), (4, 6), (4, 7), (4, 8), (7, 6), (7, 7), (7, 8), (7, 10), (16, 0), (25, 0)], [], [])
def I_X1_worthAfter : List (Nat × Instr × Nat) := [(0, .iconst 0, 1), (1, .istore_n 2, 1), (2, .iload_n 2, 1), (3, .iload_n 1, 1), (4, .if_icmp .ge 24, 3), (7, .aload_n 0, 1), (8, .getfield 12, 3), (11, .invokevirtual 71, 3), (14, .ifCond .eq 14, 3), (17, .aload_n 0, 1), (18, .invokevirtual 67, 3), (21, .pop, 1), (22, .iinc 2 1, 3), (25, .goto (-23), 3), (28, .aload_n 0, 1), (29, .getfield 12, 3), (32, .invokevirtual 74, 3), (35, .ireturn, 1)]
theorem dec_X1_worthAfter : ∀ q ∈ I_X1_worthAfter, decode cX1_worthAfter q.1 = .ok q.2 := by decide +kernel
def M_X1_worthAfter : kM := (I_X1_worthAfter, gFL1, gCI1, gCJ1, [(11, K_X6_fires), (18, K_X1_goOneHour), (32, K_X6_allWorth)], K_X1_worthAfter, 1, 3, [(2, ([(2, 0, 0), (2, 1, 0), (0, 2, 0)], [.inr (.inr (.inl (false, [7]))), kA, .inl (0, 2147483647)], [(0, .inl 0), (1, .inl 1), (2, .inl 2)], [], [], [.inl 0, .inl 1], [(1, 0, 0), (2147483647, (-1), 2)]))], [])
theorem chk_X1_worthAfter : k_check gTT gGS M_X1_worthAfter 4000 = true := by decide +kernel

def K_X3_passUntilFree : kCtr := ([.inr (.inr (.inl (false, [9])))], [], [(none, [], [])], [(4, 4), (4, 5), (4, 6), (4, 7), (4, 8), (7, 10), (16, 0)], [], [])
def I_X3_passUntilFree : List (Nat × Instr × Nat) := [(0, .aload_n 0, 1), (1, .getfield 24, 3), (4, .getfield 34, 3), (7, .getfield 52, 3), (10, .istore_n 1, 1), (11, .iload_n 1, 1), (12, .aload_n 0, 1), (13, .getfield 55, 3), (16, .if_icmp .ge 30, 3), (19, .aload_n 0, 1), (20, .getfield 24, 3), (23, .getfield 34, 3), (26, .invokevirtual 91, 3), (29, .ifCond .ne 17, 3), (32, .aload_n 0, 1), (33, .getfield 24, 3), (36, .invokevirtual 88, 3), (39, .pop, 1), (40, .iinc 1 1, 3), (43, .goto (-32), 3), (46, .return_, 1)]
theorem dec_X3_passUntilFree : ∀ q ∈ I_X3_passUntilFree, decode cX3_passUntilFree q.1 = .ok q.2 := by decide +kernel
def M_X3_passUntilFree : kM := (I_X3_passUntilFree, gFL3, gCI3, gCJ3, [(26, K_X6_isFree), (36, K_X1_passHour)], K_X3_passUntilFree, 0, 2, [(11, ([(2, 0, 0), (0, 1, 0)], [.inr (.inr (.inl (false, [9]))), kA], [(0, .inl 0), (1, .inl 1)], [], [], [.inl 0], [(1, 0, 0), (2147483647, (-1), 1)]))], [])
theorem chk_X3_passUntilFree : k_check gTT gGS M_X3_passUntilFree 4000 = true := by decide +kernel

def K_X3_passAll : kCtr := ([.inr (.inr (.inl (false, [9])))], [], [(none, [], [])], [(4, 4), (4, 5), (4, 6), (4, 7), (4, 8), (7, 10), (16, 0)], [], [])
def I_X3_passAll : List (Nat × Instr × Nat) := [(0, .aload_n 0, 1), (1, .getfield 24, 3), (4, .getfield 34, 3), (7, .getfield 52, 3), (10, .istore_n 1, 1), (11, .iload_n 1, 1), (12, .aload_n 0, 1), (13, .getfield 55, 3), (16, .if_icmp .ge 30, 3), (19, .aload_n 0, 1), (20, .getfield 24, 3), (23, .getfield 34, 3), (26, .invokevirtual 38, 3), (29, .ifCond .eq 17, 3), (32, .aload_n 0, 1), (33, .getfield 24, 3), (36, .invokevirtual 88, 3), (39, .pop, 1), (40, .iinc 1 1, 3), (43, .goto (-32), 3), (46, .return_, 1)]
theorem dec_X3_passAll : ∀ q ∈ I_X3_passAll, decode cX3_passAll q.1 = .ok q.2 := by decide +kernel
def M_X3_passAll : kM := (I_X3_passAll, gFL3, gCI3, gCJ3, [(26, K_X6_fires), (36, K_X1_passHour)], K_X3_passAll, 0, 2, [(11, ([(2, 0, 0), (0, 1, 0)], [.inr (.inr (.inl (false, [9]))), kA], [(0, .inl 0), (1, .inl 1)], [], [], [.inl 0], [(1, 0, 0), (2147483647, (-1), 1)]))], [])
theorem chk_X3_passAll : k_check gTT gGS M_X3_passAll 4000 = true := by decide +kernel

def K_X3_keep : kCtr := ([.inr (.inr (.inl (false, [9]))), .inl (0, 6), kA], [], [(none, [], [])], [(9, 5), (16, 0)], [], [])
def I_X3_keep : List (Nat × Instr × Nat) := [(0, .aload_n 0, 1), (1, .getfield 24, 3), (4, .getfield 34, 3), (7, .invokevirtual 72, 3), (10, .istore_n 3, 1), (11, .iload_n 3, 1), (12, .aload_n 0, 1), (13, .getfield 58, 3), (16, .if_icmp .gt 4, 3), (19, .return_, 1), (20, .aload_n 0, 1), (21, .iload_n 3, 1), (22, .putfield 58, 3), (25, .iload_n 1, 1), (26, .bipush 6, 2), (28, .invokestatic 95, 3), (31, .istore 4, 2), (33, .aload_n 0, 1), (34, .getfield 17, 3), (37, .iconst 0, 1), (38, .aload_n 0, 1), (39, .getfield 21, 3), (42, .iconst 0, 1), (43, .iload 4, 2), (45, .invokestatic 101, 3), (48, .iconst 0, 1), (49, .istore 5, 2), (51, .iload 5, 2), (53, .bipush 6, 2), (55, .if_icmp .ge 37, 3), (58, .iload_n 2, 1), (59, .iload 5, 2), (61, .ishr, 1), (62, .iconst 1, 1), (63, .iand, 1), (64, .ifCond .eq 22, 3), (67, .iload 4, 2), (69, .bipush 6, 2), (71, .if_icmp .ge 15, 3), (74, .aload_n 0, 1), (75, .getfield 21, 3), (78, .iload 4, 2), (80, .iload 5, 2), (82, .iastore, 1), (83, .iinc 4 1, 3), (86, .iinc 5 1, 3), (89, .goto (-38), 3), (92, .return_, 1)]
theorem dec_X3_keep : ∀ q ∈ I_X3_keep, decode cX3_keep q.1 = .ok q.2 := by decide +kernel
def M_X3_keep : kM := (I_X3_keep, gFL3, gCI3, gCJ3, [(7, K_X6_allWorth), (28, K_J9_min_0_6), (45, K_arraycopy_A6_6)], K_X3_keep, 0, 6, [(51, ([(2, 0, 0), (2, 1, 0), (2, 2, 0), (0, 3, 0), (0, 4, 0), (0, 5, 0)], [.inr (.inr (.inl (false, [9]))), .inl (0, 6), kA, .inl ((-2147483647), 2147483647), .inl (0, 6), .inl (0, 6)], [(0, .inl 0), (1, .inl 1), (2, .inl 2), (3, .inl 3), (4, .inl 4), (5, .inl 5)], [], [], [.inl 0, .inl 1, .inl 2], [(1, 0, 0), (6, (-1), 5)]))], [])
theorem chk_X3_keep : k_check gTT gGS M_X3_keep 4000 = true := by decide +kernel

def K_X3_tryRows_6 : kCtr := ([.inr (.inr (.inl (false, [9]))), .inl (6, 6), kA], [], [(none, [], [])], [(4, 4), (4, 5), (4, 6), (4, 7), (4, 8), (7, 10), (9, 5), (16, 0)], [], [])
def I_X3_tryRows : List (Nat × Instr × Nat) := [(0, .aload_n 0, 1), (1, .getfield 11, 3), (4, .iload_n 1, 1), (5, .aaload, 1), (6, .astore_n 3, 1), (7, .aload_n 3, 1), (8, .invokevirtual 72, 3), (11, .aload_n 0, 1), (12, .getfield 58, 3), (15, .if_icmp .gt 4, 3), (18, .return_, 1), (19, .iload_n 2, 1), (20, .ifCond .eq 27, 3), (23, .iload_n 1, 1), (24, .bipush 6, 2), (26, .if_icmp .ge 21, 3), (29, .aload_n 3, 1), (30, .getfield 52, 3), (33, .aload_n 0, 1), (34, .getfield 55, 3), (37, .if_icmp .ge 10, 3), (40, .aload_n 3, 1), (41, .invokevirtual 38, 3), (44, .ifCond .ne 25, 3), (47, .aload_n 0, 1), (48, .getfield 24, 3), (51, .getfield 34, 3), (54, .aload_n 3, 1), (55, .invokevirtual 64, 3), (58, .aload_n 0, 1), (59, .invokevirtual 75, 3), (62, .aload_n 0, 1), (63, .iload_n 1, 1), (64, .iload_n 2, 1), (65, .invokevirtual 78, 3), (68, .return_, 1), (69, .iconst 0, 1), (70, .istore 4, 2), (72, .iload 4, 2), (74, .bipush 6, 2), (76, .if_icmp .ge 108, 3), (79, .iload_n 2, 1), (80, .iload 4, 2), (82, .ishr, 1), (83, .iconst 1, 1), (84, .iand, 1), (85, .ifCond .ne 6, 3), (88, .goto 90, 3), (91, .aload_n 0, 1), (92, .getfield 17, 3), (95, .iload_n 1, 1), (96, .iload 4, 2), (98, .iastore, 1), (99, .aload_n 0, 1), (100, .getfield 24, 3), (103, .getfield 34, 3), (106, .aload_n 3, 1), (107, .invokevirtual 64, 3), (110, .aload_n 0, 1), (111, .getfield 24, 3), (114, .iload 4, 2), (116, .invokevirtual 81, 3), (119, .bipush (-2), 2), (121, .if_icmp .eq 24, 3), (124, .aload_n 0, 1), (125, .getfield 24, 3), (128, .iload 4, 2), (130, .invokevirtual 84, 3), (133, .aload_n 0, 1), (134, .getfield 24, 3), (137, .invokevirtual 88, 3), (140, .pop, 1), (141, .aload_n 0, 1), (142, .invokevirtual 61, 3), (145, .aload_n 0, 1), (146, .getfield 11, 3), (149, .iload_n 1, 1), (150, .iconst 1, 1), (151, .iadd, 1), (152, .aaload, 1), (153, .aload_n 0, 1), (154, .getfield 24, 3), (157, .getfield 34, 3), (160, .invokevirtual 64, 3), (163, .aload_n 0, 1), (164, .iload_n 1, 1), (165, .iconst 1, 1), (166, .iadd, 1), (167, .iload_n 2, 1), (168, .iconst 1, 1), (169, .iload 4, 2), (171, .ishl, 1), (172, .iconst (-1), 1), (173, .ixor, 1), (174, .iand, 1), (175, .invokevirtual 68, 3), (178, .iinc 4 1, 3), (181, .goto (-109), 3), (184, .return_, 1)]
theorem dec_X3_tryRows : ∀ q ∈ I_X3_tryRows, decode cX3_tryRows q.1 = .ok q.2 := by decide +kernel
def M_X3_tryRows_6 : kM := (I_X3_tryRows, gFL3, gCI3, gCJ3, [(8, K_X6_allWorth), (55, K_X6_copyFrom), (59, K_X3_passAll), (65, K_X3_keep)], K_X3_tryRows_6, 0, 5, [], [])
theorem chk_X3_tryRows_6 : k_check gTT gGS M_X3_tryRows_6 4000 = true := by decide +kernel

def K_X3_tryRows_5 : kCtr := ([.inr (.inr (.inl (false, [9]))), .inl (5, 5), kA], [], [(none, [], [])], [(4, 4), (4, 5), (4, 6), (4, 7), (4, 8), (7, 10), (9, 5), (16, 0)], [], [])
def M_X3_tryRows_5 : kM := (I_X3_tryRows, gFL3, gCI3, gCJ3, [(8, K_X6_allWorth), (41, K_X6_fires), (55, K_X6_copyFrom), (59, K_X3_passAll), (65, K_X3_keep), (107, K_X6_copyFrom), (116, K_X1_wayTo), (130, K_X1_sendTo), (137, K_X1_passHour), (142, K_X3_passUntilFree), (160, K_X6_copyFrom), (175, K_X3_tryRows_6)], K_X3_tryRows_5, 0, 5, [(72, ([(2, 0, 0), (2, 1, 0), (2, 2, 0), (0, 3, 0), (0, 4, 0)], [.inr (.inr (.inl (false, [9]))), .inl (5, 5), kA, .inr (.inr (.inl (false, [4]))), .inl (0, 6)], [(0, .inl 0), (1, .inl 1), (2, .inl 2), (3, .inl 3), (4, .inl 4)], [], [], [.inl 0, .inl 1, .inl 2], [(1, 0, 0), (6, (-1), 4)]))], [])
theorem chk_X3_tryRows_5 : k_check gTT gGS M_X3_tryRows_5 4000 = true := by decide +kernel

def K_X3_tryRows_4 : kCtr := ([.inr (.inr (.inl (false, [9]))), .inl (4, 4), kA], [], [(none, [], [])], [(4, 4), (4, 5), (4, 6), (4, 7), (4, 8), (7, 10), (9, 5), (16, 0)], [], [])
def M_X3_tryRows_4 : kM := (I_X3_tryRows, gFL3, gCI3, gCJ3, [(8, K_X6_allWorth), (41, K_X6_fires), (55, K_X6_copyFrom), (59, K_X3_passAll), (65, K_X3_keep), (107, K_X6_copyFrom), (116, K_X1_wayTo), (130, K_X1_sendTo), (137, K_X1_passHour), (142, K_X3_passUntilFree), (160, K_X6_copyFrom), (175, K_X3_tryRows_5)], K_X3_tryRows_4, 0, 5, [(72, ([(2, 0, 0), (2, 1, 0), (2, 2, 0), (0, 3, 0), (0, 4, 0)], [.inr (.inr (.inl (false, [9]))), .inl (4, 4), kA, .inr (.inr (.inl (false, [4]))), .inl (0, 6)], [(0, .inl 0), (1, .inl 1), (2, .inl 2), (3, .inl 3), (4, .inl 4)], [], [], [.inl 0, .inl 1, .inl 2], [(1, 0, 0), (6, (-1), 4)]))], [])
theorem chk_X3_tryRows_4 : k_check gTT gGS M_X3_tryRows_4 4000 = true := by decide +kernel

def K_X3_tryRows_3 : kCtr := ([.inr (.inr (.inl (false, [9]))), .inl (3, 3), kA], [], [(none, [], [])], [(4, 4), (4, 5), (4, 6), (4, 7), (4, 8), (7, 10), (9, 5), (16, 0)], [], [])
def M_X3_tryRows_3 : kM := (I_X3_tryRows, gFL3, gCI3, gCJ3, [(8, K_X6_allWorth), (41, K_X6_fires), (55, K_X6_copyFrom), (59, K_X3_passAll), (65, K_X3_keep), (107, K_X6_copyFrom), (116, K_X1_wayTo), (130, K_X1_sendTo), (137, K_X1_passHour), (142, K_X3_passUntilFree), (160, K_X6_copyFrom), (175, K_X3_tryRows_4)], K_X3_tryRows_3, 0, 5, [(72, ([(2, 0, 0), (2, 1, 0), (2, 2, 0), (0, 3, 0), (0, 4, 0)], [.inr (.inr (.inl (false, [9]))), .inl (3, 3), kA, .inr (.inr (.inl (false, [4]))), .inl (0, 6)], [(0, .inl 0), (1, .inl 1), (2, .inl 2), (3, .inl 3), (4, .inl 4)], [], [], [.inl 0, .inl 1, .inl 2], [(1, 0, 0), (6, (-1), 4)]))], [])
theorem chk_X3_tryRows_3 : k_check gTT gGS M_X3_tryRows_3 4000 = true := by decide +kernel

def K_X3_tryRows_2 : kCtr := ([.inr (.inr (.inl (false, [9]))), .inl (2, 2), kA], [], [(none, [], [])], [(4, 4), (4, 5), (4, 6), (4, 7), (4, 8), (7, 10), (9, 5), (16, 0)], [], [])
def M_X3_tryRows_2 : kM := (I_X3_tryRows, gFL3, gCI3, gCJ3, [(8, K_X6_allWorth), (41, K_X6_fires), (55, K_X6_copyFrom), (59, K_X3_passAll), (65, K_X3_keep), (107, K_X6_copyFrom), (116, K_X1_wayTo), (130, K_X1_sendTo), (137, K_X1_passHour), (142, K_X3_passUntilFree), (160, K_X6_copyFrom), (175, K_X3_tryRows_3)], K_X3_tryRows_2, 0, 5, [(72, ([(2, 0, 0), (2, 1, 0), (2, 2, 0), (0, 3, 0), (0, 4, 0)], [.inr (.inr (.inl (false, [9]))), .inl (2, 2), kA, .inr (.inr (.inl (false, [4]))), .inl (0, 6)], [(0, .inl 0), (1, .inl 1), (2, .inl 2), (3, .inl 3), (4, .inl 4)], [], [], [.inl 0, .inl 1, .inl 2], [(1, 0, 0), (6, (-1), 4)]))], [])
theorem chk_X3_tryRows_2 : k_check gTT gGS M_X3_tryRows_2 4000 = true := by decide +kernel

def K_X3_tryRows_1 : kCtr := ([.inr (.inr (.inl (false, [9]))), .inl (1, 1), kA], [], [(none, [], [])], [(4, 4), (4, 5), (4, 6), (4, 7), (4, 8), (7, 10), (9, 5), (16, 0)], [], [])
def M_X3_tryRows_1 : kM := (I_X3_tryRows, gFL3, gCI3, gCJ3, [(8, K_X6_allWorth), (41, K_X6_fires), (55, K_X6_copyFrom), (59, K_X3_passAll), (65, K_X3_keep), (107, K_X6_copyFrom), (116, K_X1_wayTo), (130, K_X1_sendTo), (137, K_X1_passHour), (142, K_X3_passUntilFree), (160, K_X6_copyFrom), (175, K_X3_tryRows_2)], K_X3_tryRows_1, 0, 5, [(72, ([(2, 0, 0), (2, 1, 0), (2, 2, 0), (0, 3, 0), (0, 4, 0)], [.inr (.inr (.inl (false, [9]))), .inl (1, 1), kA, .inr (.inr (.inl (false, [4]))), .inl (0, 6)], [(0, .inl 0), (1, .inl 1), (2, .inl 2), (3, .inl 3), (4, .inl 4)], [], [], [.inl 0, .inl 1, .inl 2], [(1, 0, 0), (6, (-1), 4)]))], [])
theorem chk_X3_tryRows_1 : k_check gTT gGS M_X3_tryRows_1 4000 = true := by decide +kernel

def K_X3_tryRows_0 : kCtr := ([.inr (.inr (.inl (false, [9]))), .inl (0, 0), kA], [], [(none, [], [])], [(4, 4), (4, 5), (4, 6), (4, 7), (4, 8), (7, 10), (9, 5), (16, 0)], [], [])
def M_X3_tryRows_0 : kM := (I_X3_tryRows, gFL3, gCI3, gCJ3, [(8, K_X6_allWorth), (41, K_X6_fires), (55, K_X6_copyFrom), (59, K_X3_passAll), (65, K_X3_keep), (107, K_X6_copyFrom), (116, K_X1_wayTo), (130, K_X1_sendTo), (137, K_X1_passHour), (142, K_X3_passUntilFree), (160, K_X6_copyFrom), (175, K_X3_tryRows_1)], K_X3_tryRows_0, 0, 5, [(72, ([(2, 0, 0), (2, 1, 0), (2, 2, 0), (0, 3, 0), (0, 4, 0)], [.inr (.inr (.inl (false, [9]))), .inl (0, 0), kA, .inr (.inr (.inl (false, [4]))), .inl (0, 6)], [(0, .inl 0), (1, .inl 1), (2, .inl 2), (3, .inl 3), (4, .inl 4)], [], [], [.inl 0, .inl 1, .inl 2], [(1, 0, 0), (6, (-1), 4)]))], [])
theorem chk_X3_tryRows_0 : k_check gTT gGS M_X3_tryRows_0 4000 = true := by decide +kernel

def K_X3_findBest : kCtr := ([.inr (.inr (.inl (false, [9]))), kA], [], [(none, [], [])], [(4, 4), (4, 5), (4, 6), (4, 7), (4, 8), (7, 5), (7, 9), (7, 10), (9, 4), (9, 5), (9, 6), (16, 0)], [], [])
def I_X3_findBest : List (Nat × Instr × Nat) := [(0, .aload_n 0, 1), (1, .getfield 24, 3), (4, .invokevirtual 29, 3), (7, .aload_n 0, 1), (8, .getfield 24, 3), (11, .getfield 34, 3), (14, .invokevirtual 38, 3), (17, .istore_n 2, 1), (18, .aload_n 0, 1), (19, .iload_n 2, 1), (20, .invokestatic 42, 3), (23, .putfield 48, 3), (26, .aload_n 0, 1), (27, .aload_n 0, 1), (28, .getfield 24, 3), (31, .getfield 34, 3), (34, .getfield 52, 3), (37, .iload_n 1, 1), (38, .iadd, 1), (39, .putfield 55, 3), (42, .aload_n 0, 1), (43, .iconst (-1), 1), (44, .putfield 58, 3), (47, .aload_n 0, 1), (48, .invokevirtual 61, 3), (51, .aload_n 0, 1), (52, .getfield 11, 3), (55, .iconst 0, 1), (56, .aaload, 1), (57, .aload_n 0, 1), (58, .getfield 24, 3), (61, .getfield 34, 3), (64, .invokevirtual 64, 3), (67, .aload_n 0, 1), (68, .iconst 0, 1), (69, .iload_n 2, 1), (70, .invokevirtual 68, 3), (73, .return_, 1)]
theorem dec_X3_findBest : ∀ q ∈ I_X3_findBest, decode cX3_findBest q.1 = .ok q.2 := by decide +kernel
def M_X3_findBest : kM := (I_X3_findBest, gFL3, gCI3, gCJ3, [(4, K_X1_beginNow), (14, K_X6_fires), (20, K_J6_bitCount_0f7a4), (48, K_X3_passUntilFree), (64, K_X6_copyFrom), (70, K_X3_tryRows_0)], K_X3_findBest, 0, 3, [], [])
theorem chk_X3_findBest : k_check gTT gGS M_X3_findBest 4000 = true := by decide +kernel

def K_X0_hourOut : kCtr := ([.inr (.inr (.inl (false, [8])))], [], [(some (kA), [], [])], [(4, 4), (4, 5), (4, 6), (4, 7), (4, 8), (7, 5), (7, 6), (7, 7), (7, 8), (7, 9), (7, 10), (16, 0), (25, 0)], [], [])
def I_X0_hourOut : List (Nat × Instr × Nat) := [(0, .aload_n 0, 1), (1, .getfield 32, 3), (4, .invokevirtual 36, 3), (7, .iconst 0, 1), (8, .istore_n 1, 1), (9, .iload_n 1, 1), (10, .sipush 200, 3), (13, .if_icmp .ge 41, 3), (16, .aload_n 0, 1), (17, .getfield 32, 3), (20, .getfield 41, 3), (23, .invokevirtual 45, 3), (26, .ifCond .ne 14, 3), (29, .aload_n 0, 1), (30, .getfield 32, 3), (33, .getfield 41, 3), (36, .getfield 51, 3), (39, .ireturn, 1), (40, .aload_n 0, 1), (41, .getfield 32, 3), (44, .invokevirtual 55, 3), (47, .pop, 1), (48, .iinc 1 1, 3), (51, .goto (-42), 3), (54, .bipush (-2), 2), (56, .ireturn, 1)]
theorem dec_X0_hourOut : ∀ q ∈ I_X0_hourOut, decode cX0_hourOut q.1 = .ok q.2 := by decide +kernel
def M_X0_hourOut : kM := (I_X0_hourOut, gFL0, gCI0, gCJ0, [(4, K_X1_beginNow), (23, K_X6_fires), (44, K_X1_goOneHour)], K_X0_hourOut, 1, 2, [(9, ([(2, 0, 0), (0, 1, 0)], [.inr (.inr (.inl (false, [8]))), .inl (0, 200)], [(0, .inl 0), (1, .inl 1)], [], [], [.inl 0], [(1, 0, 0), (200, (-1), 1)]))], [])
theorem chk_X0_hourOut : k_check gTT gGS M_X0_hourOut 4000 = true := by decide +kernel

def K_X0_housesThatCanBurn : kCtr := ([.inr (.inr (.inl (false, [8])))], [], [(some (kA), [], [])], [], [], [])
def I_X0_housesThatCanBurn : List (Nat × Instr × Nat) := [(0, .aload_n 0, 1), (1, .getfield 21, 3), (4, .getfield 58, 3), (7, .invokevirtual 45, 3), (10, .istore_n 1, 1), (11, .iconst 0, 1), (12, .istore_n 2, 1), (13, .iload_n 2, 1), (14, .bipush 6, 2), (16, .if_icmp .ge 63, 3), (19, .iconst 0, 1), (20, .istore_n 3, 1), (21, .iload_n 3, 1), (22, .aload_n 0, 1), (23, .getfield 31, 3), (26, .getfield 59, 3), (29, .if_icmp .ge 44, 3), (32, .aload_n 0, 1), (33, .getfield 21, 3), (36, .getfield 58, 3), (39, .getfield 64, 3), (42, .iload_n 3, 1), (43, .iaload, 1), (44, .ifCond .le 23, 3), (47, .aload_n 0, 1), (48, .getfield 31, 3), (51, .getfield 67, 3), (54, .iload_n 3, 1), (55, .iaload, 1), (56, .iload_n 1, 1), (57, .iand, 1), (58, .ifCond .eq 9, 3), (61, .iload_n 1, 1), (62, .iconst 1, 1), (63, .iload_n 3, 1), (64, .ishl, 1), (65, .ior, 1), (66, .istore_n 1, 1), (67, .iinc 3 1, 3), (70, .goto (-49), 3), (73, .iinc 2 1, 3), (76, .goto (-63), 3), (79, .iload_n 1, 1), (80, .ireturn, 1)]
theorem dec_X0_housesThatCanBurn : ∀ q ∈ I_X0_housesThatCanBurn, decode cX0_housesThatCanBurn q.1 = .ok q.2 := by decide +kernel
def M_X0_housesThatCanBurn : kM := (I_X0_housesThatCanBurn, gFL0, gCI0, gCJ0, [(7, K_X6_fires)], K_X0_housesThatCanBurn, 1, 4, [(13, ([(2, 0, 0), (0, 1, 0), (0, 2, 0)], [.inr (.inr (.inl (false, [8]))), .inl (0, 63), .inl (0, 6)], [(0, .inl 0), (1, .inl 1), (2, .inl 2)], [], [], [.inl 0], [(1, 0, 0), (6, (-1), 2), (99, 0, 0), (0, 0, 0)])), (21, ([(2, 0, 0), (0, 1, 0), (0, 2, 0), (0, 3, 0)], [.inr (.inr (.inl (false, [8]))), .inl (0, 63), .inl (0, 5), .inl (0, 6)], [(0, .inl 0), (1, .inl 1), (2, .inl 2), (3, .inl 3)], [], [], [.inl 0], [(1, 0, 0), (6, (-1), 2), (1, 0, 0), (6, (-1), 3)]))], [])
theorem chk_X0_housesThatCanBurn : k_check gTT gGS M_X0_housesThatCanBurn 4000 = true := by decide +kernel

def K_X0_comesTo : kCtr := ([.inr (.inr (.inl (false, [8]))), kA], [], [(some (.inl (0, 1)), [], [])], [(4, 4), (4, 5), (4, 6), (4, 7), (4, 8), (7, 6), (7, 7), (7, 8), (7, 10), (16, 0), (25, 0)], [], [])
def I_X0_comesTo : List (Nat × Instr × Nat) := [(0, .iconst 0, 1), (1, .istore_n 2, 1), (2, .iload_n 2, 1), (3, .bipush 20, 2), (5, .if_icmp .ge 30, 3), (8, .aload_n 0, 1), (9, .getfield 32, 3), (12, .invokevirtual 55, 3), (15, .pop, 1), (16, .aload_n 0, 1), (17, .getfield 32, 3), (20, .getfield 77, 3), (23, .iload_n 1, 1), (24, .if_icmp .ne 5, 3), (27, .iconst 1, 1), (28, .ireturn, 1), (29, .iinc 2 1, 3), (32, .goto (-30), 3), (35, .iconst 0, 1), (36, .ireturn, 1)]
theorem dec_X0_comesTo : ∀ q ∈ I_X0_comesTo, decode cX0_comesTo q.1 = .ok q.2 := by decide +kernel
def M_X0_comesTo : kM := (I_X0_comesTo, gFL0, gCI0, gCJ0, [(12, K_X1_goOneHour)], K_X0_comesTo, 2, 3, [(2, ([(2, 0, 0), (2, 1, 0), (0, 2, 0)], [.inr (.inr (.inl (false, [8]))), kA, .inl (0, 20)], [(0, .inl 0), (1, .inl 1), (2, .inl 2)], [], [], [.inl 0, .inl 1], [(1, 0, 0), (20, (-1), 2)]))], [])
theorem chk_X0_comesTo : k_check gTT gGS M_X0_comesTo 4000 = true := by decide +kernel

def K_X0_leastHeard : kCtr := ([.inr (.inr (.inl (false, [8]))), .inl (0, 5)], [], [(some (kA), [], [])], [(4, 4), (4, 5), (4, 6), (4, 7), (4, 8), (7, 5), (7, 6), (7, 7), (7, 8), (7, 9), (7, 10), (16, 0), (25, 0)], [], [])
def I_X0_leastHeard : List (Nat × Instr × Nat) := [(0, .iconst 0, 1), (1, .istore_n 2, 1), (2, .iload_n 2, 1), (3, .bipush 20, 2), (5, .if_icmp .gt 39, 3), (8, .aload_n 0, 1), (9, .getfield 32, 3), (12, .invokevirtual 36, 3), (15, .aload_n 0, 1), (16, .getfield 32, 3), (19, .getfield 41, 3), (22, .getfield 70, 3), (25, .iload_n 1, 1), (26, .iload_n 2, 1), (27, .iastore, 1), (28, .aload_n 0, 1), (29, .iload_n 1, 1), (30, .invokevirtual 73, 3), (33, .ifCond .eq 5, 3), (36, .iload_n 2, 1), (37, .ireturn, 1), (38, .iinc 2 1, 3), (41, .goto (-39), 3), (44, .bipush (-2), 2), (46, .ireturn, 1)]
theorem dec_X0_leastHeard : ∀ q ∈ I_X0_leastHeard, decode cX0_leastHeard q.1 = .ok q.2 := by decide +kernel
def M_X0_leastHeard : kM := (I_X0_leastHeard, gFL0, gCI0, gCJ0, [(12, K_X1_beginNow), (30, K_X0_comesTo)], K_X0_leastHeard, 1, 3, [(2, ([(2, 0, 0), (2, 1, 0), (0, 2, 0)], [.inr (.inr (.inl (false, [8]))), .inl (0, 5), .inl (0, 21)], [(0, .inl 0), (1, .inl 1), (2, .inl 2)], [], [], [.inl 0, .inl 1], [(1, 0, 0), (21, (-1), 2)]))], [])
theorem chk_X0_leastHeard : k_check gTT gGS M_X0_leastHeard 4000 = true := by decide +kernel

def K_X0_allKeepWorth : kCtr := ([.inr (.inr (.inl (false, [8])))], [], [(some (.inl (0, 1)), [], [])], [], [], [])
def I_X0_allKeepWorth : List (Nat × Instr × Nat) := [(0, .iconst 0, 1), (1, .istore_n 1, 1), (2, .iload_n 1, 1), (3, .aload_n 0, 1), (4, .getfield 31, 3), (7, .getfield 59, 3), (10, .if_icmp .ge 41, 3), (13, .aload_n 0, 1), (14, .getfield 21, 3), (17, .getfield 58, 3), (20, .getfield 64, 3), (23, .iload_n 1, 1), (24, .iaload, 1), (25, .ifCond .le 20, 3), (28, .aload_n 0, 1), (29, .getfield 32, 3), (32, .getfield 41, 3), (35, .getfield 64, 3), (38, .iload_n 1, 1), (39, .iaload, 1), (40, .ifCond .ne 5, 3), (43, .iconst 0, 1), (44, .ireturn, 1), (45, .iinc 1 1, 3), (48, .goto (-46), 3), (51, .iconst 1, 1), (52, .ireturn, 1)]
theorem dec_X0_allKeepWorth : ∀ q ∈ I_X0_allKeepWorth, decode cX0_allKeepWorth q.1 = .ok q.2 := by decide +kernel
def M_X0_allKeepWorth : kM := (I_X0_allKeepWorth, gFL0, gCI0, gCJ0, [], K_X0_allKeepWorth, 2, 2, [(2, ([(2, 0, 0), (0, 1, 0)], [.inr (.inr (.inl (false, [8]))), .inl (0, 6)], [(0, .inl 0), (1, .inl 1)], [], [], [.inl 0], [(1, 0, 0), (6, (-1), 1)]))], [])
theorem chk_X0_allKeepWorth : k_check gTT gGS M_X0_allKeepWorth 4000 = true := by decide +kernel

def K_X0_leastWater : kCtr := ([.inr (.inr (.inl (false, [8]))), kA], [], [(some (kA), [], [])], [(4, 4), (4, 5), (4, 6), (4, 7), (4, 8), (7, 5), (7, 6), (7, 7), (7, 8), (7, 9), (7, 10), (16, 0), (25, 0)], [], [])
def I_X0_leastWater : List (Nat × Instr × Nat) := [(0, .iconst 0, 1), (1, .istore_n 2, 1), (2, .iload_n 2, 1), (3, .bipush 9, 2), (5, .if_icmp .gt 42, 3), (8, .aload_n 0, 1), (9, .getfield 32, 3), (12, .invokevirtual 36, 3), (15, .aload_n 0, 1), (16, .getfield 32, 3), (19, .iload_n 2, 1), (20, .putfield 80, 3), (23, .aload_n 0, 1), (24, .getfield 32, 3), (27, .iload_n 1, 1), (28, .invokevirtual 83, 3), (31, .pop, 1), (32, .aload_n 0, 1), (33, .invokevirtual 87, 3), (36, .ifCond .eq 5, 3), (39, .iload_n 2, 1), (40, .ireturn, 1), (41, .iinc 2 1, 3), (44, .goto (-42), 3), (47, .bipush (-2), 2), (49, .ireturn, 1)]
theorem dec_X0_leastWater : ∀ q ∈ I_X0_leastWater, decode cX0_leastWater q.1 = .ok q.2 := by decide +kernel
def M_X0_leastWater : kM := (I_X0_leastWater, gFL0, gCI0, gCJ0, [(12, K_X1_beginNow), (28, K_X1_worthAfter), (33, K_X0_allKeepWorth)], K_X0_leastWater, 1, 3, [(2, ([(2, 0, 0), (2, 1, 0), (0, 2, 0)], [.inr (.inr (.inl (false, [8]))), kA, .inl (0, 10)], [(0, .inl 0), (1, .inl 1), (2, .inl 2)], [], [], [.inl 0, .inl 1], [(1, 0, 0), (10, (-1), 2)]))], [])
theorem chk_X0_leastWater : k_check gTT gGS M_X0_leastWater 4000 = true := by decide +kernel

def K_X0_findCleared : kCtr := ([.inr (.inr (.inl (false, [8]))), kA], [], [(none, [], [])], [(4, 4), (4, 5), (4, 6), (4, 7), (4, 8), (7, 5), (7, 6), (7, 7), (7, 8), (7, 9), (7, 10), (16, 0), (25, 0), (27, 0)], [], [])
def I_X0_findCleared : List (Nat × Instr × Nat) := [(0, .aload_n 0, 1), (1, .getfield 9, 3), (4, .iconst 0, 1), (5, .iconst (-1), 1), (6, .iastore, 1), (7, .aload_n 0, 1), (8, .getfield 32, 3), (11, .invokevirtual 36, 3), (14, .aload_n 0, 1), (15, .getfield 9, 3), (18, .iconst 1, 1), (19, .aload_n 0, 1), (20, .getfield 32, 3), (23, .iload_n 1, 1), (24, .invokevirtual 83, 3), (27, .iastore, 1), (28, .iconst 0, 1), (29, .istore_n 2, 1), (30, .iload_n 2, 1), (31, .aload_n 0, 1), (32, .getfield 31, 3), (35, .getfield 59, 3), (38, .if_icmp .ge 93, 3), (41, .aload_n 0, 1), (42, .getfield 32, 3), (45, .invokevirtual 36, 3), (48, .aload_n 0, 1), (49, .getfield 32, 3), (52, .getfield 41, 3), (55, .getfield 64, 3), (58, .iload_n 2, 1), (59, .iaload, 1), (60, .istore_n 3, 1), (61, .aload_n 0, 1), (62, .getfield 32, 3), (65, .getfield 41, 3), (68, .getfield 64, 3), (71, .iload_n 2, 1), (72, .iconst 0, 1), (73, .iastore, 1), (74, .aload_n 0, 1), (75, .getfield 32, 3), (78, .getfield 41, 3), (81, .getfield 91, 3), (84, .iload_n 2, 1), (85, .iconst 0, 1), (86, .iastore, 1), (87, .iload_n 3, 1), (88, .aload_n 0, 1), (89, .getfield 32, 3), (92, .iload_n 1, 1), (93, .invokevirtual 83, 3), (96, .iadd, 1), (97, .istore 4, 2), (99, .iload 4, 2), (101, .aload_n 0, 1), (102, .getfield 9, 3), (105, .iconst 1, 1), (106, .iaload, 1), (107, .if_icmp .le 18, 3), (110, .aload_n 0, 1), (111, .getfield 9, 3), (114, .iconst 0, 1), (115, .iload_n 2, 1), (116, .iastore, 1), (117, .aload_n 0, 1), (118, .getfield 9, 3), (121, .iconst 1, 1), (122, .iload 4, 2), (124, .iastore, 1), (125, .iinc 2 1, 3), (128, .goto (-98), 3), (131, .return_, 1)]
theorem dec_X0_findCleared : ∀ q ∈ I_X0_findCleared, decode cX0_findCleared q.1 = .ok q.2 := by decide +kernel
def M_X0_findCleared : kM := (I_X0_findCleared, gFL0, gCI0, gCJ0, [(11, K_X1_beginNow), (24, K_X1_worthAfter), (45, K_X1_beginNow), (93, K_X1_worthAfter)], K_X0_findCleared, 0, 5, [(30, ([(2, 0, 0), (2, 1, 0), (0, 2, 0)], [.inr (.inr (.inl (false, [8]))), kA, .inl (0, 6)], [(0, .inl 0), (1, .inl 1), (2, .inl 2)], [], [], [.inl 0, .inl 1], [(1, 0, 0), (6, (-1), 2)]))], [])
theorem chk_X0_findCleared : k_check gTT gGS M_X0_findCleared 4000 = true := by decide +kernel

def K_X0_hush : kCtr := ([.inr (.inr (.inl (false, [8]))), kA], [], [(some (.inl (0, 1)), [], [])], [(16, 0)], [], [])
def I_X0_hush : List (Nat × Instr × Nat) := [(0, .iconst 0, 1), (1, .istore_n 2, 1), (2, .iload_n 2, 1), (3, .aload_n 0, 1), (4, .getfield 31, 3), (7, .getfield 59, 3), (10, .if_icmp .ge 47, 3), (13, .iload_n 1, 1), (14, .iload_n 2, 1), (15, .ishr, 1), (16, .iconst 1, 1), (17, .iand, 1), (18, .ifCond .eq 33, 3), (21, .aload_n 0, 1), (22, .getfield 32, 3), (25, .getfield 41, 3), (28, .getfield 70, 3), (31, .iload_n 2, 1), (32, .iaload, 1), (33, .ifCond .ne 5, 3), (36, .iconst 0, 1), (37, .ireturn, 1), (38, .aload_n 0, 1), (39, .getfield 32, 3), (42, .getfield 41, 3), (45, .getfield 70, 3), (48, .iload_n 2, 1), (49, .iconst 0, 1), (50, .iastore, 1), (51, .iinc 2 1, 3), (54, .goto (-52), 3), (57, .iconst 1, 1), (58, .ireturn, 1)]
theorem dec_X0_hush : ∀ q ∈ I_X0_hush, decode cX0_hush q.1 = .ok q.2 := by decide +kernel
def M_X0_hush : kM := (I_X0_hush, gFL0, gCI0, gCJ0, [], K_X0_hush, 2, 3, [(2, ([(2, 0, 0), (2, 1, 0), (0, 2, 0)], [.inr (.inr (.inl (false, [8]))), kA, .inl (0, 6)], [(0, .inl 0), (1, .inl 1), (2, .inl 2)], [], [], [.inl 0, .inl 1], [(1, 0, 0), (6, (-1), 2)]))], [])
theorem chk_X0_hush : k_check gTT gGS M_X0_hush 4000 = true := by decide +kernel

def K_X0_findSilent : kCtr := ([.inr (.inr (.inl (false, [8]))), kA], [], [(none, [], [])], [(4, 4), (4, 5), (4, 6), (4, 7), (4, 8), (7, 5), (7, 6), (7, 7), (7, 8), (7, 9), (7, 10), (16, 0), (25, 0), (27, 0)], [], [])
def I_X0_findSilent : List (Nat × Instr × Nat) := [(0, .iconst 1, 1), (1, .aload_n 0, 1), (2, .getfield 31, 3), (5, .getfield 59, 3), (8, .ishl, 1), (9, .istore_n 2, 1), (10, .aload_n 0, 1), (11, .getfield 9, 3), (14, .iconst 0, 1), (15, .iconst 0, 1), (16, .iastore, 1), (17, .aload_n 0, 1), (18, .getfield 9, 3), (21, .iconst 1, 1), (22, .iconst 0, 1), (23, .iastore, 1), (24, .aload_n 0, 1), (25, .getfield 9, 3), (28, .iconst 2, 1), (29, .iconst (-1), 1), (30, .iastore, 1), (31, .iconst 0, 1), (32, .istore_n 3, 1), (33, .iload_n 3, 1), (34, .iload_n 2, 1), (35, .if_icmp .ge 99, 3), (38, .aload_n 0, 1), (39, .getfield 32, 3), (42, .invokevirtual 36, 3), (45, .aload_n 0, 1), (46, .iload_n 3, 1), (47, .invokevirtual 94, 3), (50, .ifCond .ne 6, 3), (53, .goto 75, 3), (56, .aload_n 0, 1), (57, .getfield 32, 3), (60, .iload_n 1, 1), (61, .invokevirtual 83, 3), (64, .istore 4, 2), (66, .iload_n 3, 1), (67, .invokestatic 97, 3), (70, .istore 5, 2), (72, .iload 4, 2), (74, .aload_n 0, 1), (75, .getfield 9, 3), (78, .iconst 2, 1), (79, .iaload, 1), (80, .if_icmp .gt 25, 3), (83, .iload 4, 2), (85, .aload_n 0, 1), (86, .getfield 9, 3), (89, .iconst 2, 1), (90, .iaload, 1), (91, .if_icmp .ne 37, 3), (94, .iload 5, 2), (96, .aload_n 0, 1), (97, .getfield 9, 3), (100, .iconst 0, 1), (101, .iaload, 1), (102, .if_icmp .ge 26, 3), (105, .aload_n 0, 1), (106, .getfield 9, 3), (109, .iconst 0, 1), (110, .iload 5, 2), (112, .iastore, 1), (113, .aload_n 0, 1), (114, .getfield 9, 3), (117, .iconst 1, 1), (118, .iload_n 3, 1), (119, .iastore, 1), (120, .aload_n 0, 1), (121, .getfield 9, 3), (124, .iconst 2, 1), (125, .iload 4, 2), (127, .iastore, 1), (128, .iinc 3 1, 3), (131, .goto (-98), 3), (134, .return_, 1)]
theorem dec_X0_findSilent : ∀ q ∈ I_X0_findSilent, decode cX0_findSilent q.1 = .ok q.2 := by decide +kernel
def M_X0_findSilent : kM := (I_X0_findSilent, gFL0, gCI0, gCJ0, [(42, K_X1_beginNow), (47, K_X0_hush), (61, K_X1_worthAfter), (67, K_J6_bitCount_0f7a4)], K_X0_findSilent, 0, 6, [(33, ([(2, 0, 0), (2, 1, 0), (0, 2, 0), (0, 3, 0)], [.inr (.inr (.inl (false, [8]))), kA, .inl (1, 64), .inl (0, 64)], [(0, .inl 0), (1, .inl 1), (2, .inl 2), (3, .inl 3)], [], [], [.inl 0, .inl 1], [(1, 0, 0), (64, (-1), 3)]))], [])
theorem chk_X0_findSilent : k_check gTT gGS M_X0_findSilent 4000 = true := by decide +kernel

def K_X0_lostOf : kCtr := ([.inr (.inr (.inl (false, [8]))), .inl (0, 5)], [], [(some (kA), [], [])], [], [], [])
def I_X0_lostOf : List (Nat × Instr × Nat) := [(0, .aload_n 0, 1), (1, .getfield 31, 3), (4, .getfield 108, 3), (7, .iload_n 1, 1), (8, .iaload, 1), (9, .aload_n 0, 1), (10, .getfield 21, 3), (13, .getfield 58, 3), (16, .getfield 64, 3), (19, .iload_n 1, 1), (20, .iaload, 1), (21, .isub, 1), (22, .ireturn, 1)]
theorem dec_X0_lostOf : ∀ q ∈ I_X0_lostOf, decode cX0_lostOf q.1 = .ok q.2 := by decide +kernel
def M_X0_lostOf : kM := (I_X0_lostOf, gFL0, gCI0, gCJ0, [], K_X0_lostOf, 1, 2, [], [])
theorem chk_X0_lostOf : k_check gTT gGS M_X0_lostOf 4000 = true := by decide +kernel

def K_X0_penceOf : kCtr := ([.inr (.inr (.inl (false, [8]))), kA, .inl (0, 5)], [], [(some (kA), [], [])], [], [], [])
def I_X0_penceOf : List (Nat × Instr × Nat) := [(0, .aload_n 0, 1), (1, .getfield 21, 3), (4, .getfield 58, 3), (7, .getfield 102, 3), (10, .istore_n 3, 1), (11, .iload_n 3, 1), (12, .ifCond .gt 5, 3), (15, .iconst 0, 1), (16, .ireturn, 1), (17, .iload_n 1, 1), (18, .istore 4, 2), (20, .iconst 0, 1), (21, .istore 5, 2), (23, .iload_n 1, 1), (24, .aload_n 0, 1), (25, .iload_n 2, 1), (26, .invokevirtual 105, 3), (29, .imul, 1), (30, .iload_n 3, 1), (31, .irem, 1), (32, .istore 6, 2), (34, .iconst 0, 1), (35, .istore 7, 2), (37, .iload 7, 2), (39, .aload_n 0, 1), (40, .getfield 31, 3), (43, .getfield 59, 3), (46, .if_icmp .ge 55, 3), (49, .iload_n 1, 1), (50, .aload_n 0, 1), (51, .iload 7, 2), (53, .invokevirtual 105, 3), (56, .imul, 1), (57, .istore 8, 2), (59, .iload 4, 2), (61, .iload 8, 2), (63, .iload_n 3, 1), (64, .idiv, 1), (65, .isub, 1), (66, .istore 4, 2), (68, .iload 8, 2), (70, .iload_n 3, 1), (71, .irem, 1), (72, .iload 6, 2), (74, .if_icmp .gt 18, 3), (77, .iload 8, 2), (79, .iload_n 3, 1), (80, .irem, 1), (81, .iload 6, 2), (83, .if_icmp .ne 12, 3), (86, .iload 7, 2), (88, .iload_n 2, 1), (89, .if_icmp .ge 6, 3), (92, .iinc 5 1, 3), (95, .iinc 7 1, 3), (98, .goto (-61), 3), (101, .iload_n 1, 1), (102, .aload_n 0, 1), (103, .iload_n 2, 1), (104, .invokevirtual 105, 3), (107, .imul, 1), (108, .iload_n 3, 1), (109, .idiv, 1), (110, .iload 5, 2), (112, .iload 4, 2), (114, .if_icmp .ge 7, 3), (117, .iconst 1, 1), (118, .goto 4, 3), (121, .iconst 0, 1), (122, .iadd, 1), (123, .ireturn, 1)]
theorem dec_X0_penceOf : ∀ q ∈ I_X0_penceOf, decode cX0_penceOf q.1 = .ok q.2 := by decide +kernel
def M_X0_penceOf : kM := (I_X0_penceOf, gFL0, gCI0, gCJ0, [(26, K_X0_lostOf), (53, K_X0_lostOf), (104, K_X0_lostOf)], K_X0_penceOf, 1, 9, [(37, ([(2, 0, 0), (2, 1, 0), (2, 2, 0), (0, 3, 0), (0, 4, 0), (0, 5, 0), (0, 6, 0), (0, 7, 0)], [.inr (.inr (.inl (false, [8]))), kA, .inl (0, 5), .inl (1, 2147483647), kA, kA, .inl ((-2147483646), 2147483646), .inl (0, 6)], [(0, .inl 0), (1, .inl 1), (2, .inl 2), (3, .inl 3), (4, .inl 4), (5, .inl 5), (6, .inl 6), (7, .inl 7)], [], [], [.inl 0, .inl 1, .inl 2], [(1, 0, 0), (6, (-1), 7)]))], [])
theorem chk_X0_penceOf : k_check gTT gGS M_X0_penceOf 4000 = true := by decide +kernel

def K_X0_isRest : kCtr := ([.inr (.inr (.inl (false, [8]))), .inl (0, 24)], [], [(some (.inl (0, 1)), [], [])], [], [], [])
def I_X0_isRest : List (Nat × Instr × Nat) := [(0, .iload_n 1, 1), (1, .iconst 5, 1), (2, .idiv, 1), (3, .iconst 5, 1), (4, .imul, 1), (5, .istore_n 2, 1), (6, .iload_n 1, 1), (7, .iconst 5, 1), (8, .irem, 1), (9, .istore_n 3, 1), (10, .iconst 0, 1), (11, .istore 4, 2), (13, .iload 4, 2), (15, .iconst 5, 1), (16, .if_icmp .ge 49, 3), (19, .aload_n 0, 1), (20, .getfield 15, 3), (23, .iload 4, 2), (25, .iconst 5, 1), (26, .imul, 1), (27, .iload_n 3, 1), (28, .iadd, 1), (29, .iaload, 1), (30, .aload_n 0, 1), (31, .getfield 15, 3), (34, .iload_n 1, 1), (35, .iaload, 1), (36, .if_icmp .gt 21, 3), (39, .aload_n 0, 1), (40, .getfield 18, 3), (43, .iload_n 2, 1), (44, .iload 4, 2), (46, .iadd, 1), (47, .iaload, 1), (48, .aload_n 0, 1), (49, .getfield 18, 3), (52, .iload_n 1, 1), (53, .iaload, 1), (54, .if_icmp .le 5, 3), (57, .iconst 0, 1), (58, .ireturn, 1), (59, .iinc 4 1, 3), (62, .goto (-49), 3), (65, .iconst 1, 1), (66, .ireturn, 1)]
theorem dec_X0_isRest : ∀ q ∈ I_X0_isRest, decode cX0_isRest q.1 = .ok q.2 := by decide +kernel
def M_X0_isRest : kM := (I_X0_isRest, gFL0, gCI0, gCJ0, [], K_X0_isRest, 2, 5, [(13, ([(2, 0, 0), (2, 1, 0), (0, 2, 0), (0, 3, 0), (0, 4, 0)], [.inr (.inr (.inl (false, [8]))), .inl (0, 24), .inl (0, 20), .inl (0, 4), .inl (0, 5)], [(0, .inl 0), (1, .inl 1), (2, .inl 2), (3, .inl 3), (4, .inl 4)], [], [], [.inl 0, .inl 1], [(1, 0, 0), (5, (-1), 4)]))], [])
theorem chk_X0_isRest : k_check gTT gGS M_X0_isRest 4000 = true := by decide +kernel

def K_X0_findRests : kCtr := ([.inr (.inr (.inl (false, [8]))), .inl (0, 5), .inl (0, 5), kA], [], [(none, [], [])], [(4, 4), (4, 5), (4, 6), (4, 7), (4, 8), (7, 5), (7, 6), (7, 7), (7, 8), (7, 9), (7, 10), (16, 0), (25, 0), (27, 0), (28, 0)], [], [])
def I_X0_findRests : List (Nat × Instr × Nat) := [(0, .iconst 0, 1), (1, .istore 4, 2), (3, .iload 4, 2), (5, .aload_n 0, 1), (6, .getfield 15, 3), (9, .arraylength, 1), (10, .if_icmp .ge 109, 3), (13, .aload_n 0, 1), (14, .getfield 32, 3), (17, .invokevirtual 36, 3), (20, .aload_n 0, 1), (21, .getfield 32, 3), (24, .getfield 41, 3), (27, .getfield 70, 3), (30, .iload_n 1, 1), (31, .iload 4, 2), (33, .iconst 5, 1), (34, .idiv, 1), (35, .iconst 5, 1), (36, .imul, 1), (37, .iastore, 1), (38, .aload_n 0, 1), (39, .getfield 32, 3), (42, .getfield 41, 3), (45, .getfield 70, 3), (48, .iload_n 2, 1), (49, .iload 4, 2), (51, .iconst 5, 1), (52, .irem, 1), (53, .iconst 5, 1), (54, .imul, 1), (55, .iastore, 1), (56, .aload_n 0, 1), (57, .getfield 32, 3), (60, .iload_n 3, 1), (61, .invokevirtual 83, 3), (64, .pop, 1), (65, .aload_n 0, 1), (66, .getfield 15, 3), (69, .iload 4, 2), (71, .aload_n 0, 1), (72, .getfield 32, 3), (75, .getfield 41, 3), (78, .getfield 64, 3), (81, .iload_n 1, 1), (82, .iaload, 1), (83, .iload 4, 2), (85, .iconst 5, 1), (86, .idiv, 1), (87, .isub, 1), (88, .iastore, 1), (89, .aload_n 0, 1), (90, .getfield 18, 3), (93, .iload 4, 2), (95, .aload_n 0, 1), (96, .getfield 32, 3), (99, .getfield 41, 3), (102, .getfield 64, 3), (105, .iload_n 2, 1), (106, .iaload, 1), (107, .iload 4, 2), (109, .iconst 5, 1), (110, .irem, 1), (111, .isub, 1), (112, .iastore, 1), (113, .iinc 4 1, 3), (116, .goto (-113), 3), (119, .aload_n 0, 1), (120, .getfield 9, 3), (123, .iconst 0, 1), (124, .iconst 0, 1), (125, .iastore, 1), (126, .aload_n 0, 1), (127, .getfield 9, 3), (130, .iconst 1, 1), (131, .bipush (-2), 2), (133, .iastore, 1), (134, .aload_n 0, 1), (135, .getfield 9, 3), (138, .iconst 2, 1), (139, .bipush (-2), 2), (141, .iastore, 1), (142, .iconst 0, 1), (143, .istore 4, 2), (145, .iload 4, 2), (147, .aload_n 0, 1), (148, .getfield 15, 3), (151, .arraylength, 1), (152, .if_icmp .ge 64, 3), (155, .aload_n 0, 1), (156, .iload 4, 2), (158, .invokevirtual 109, 3), (161, .ifCond .ne 6, 3), (164, .goto 46, 3), (167, .aload_n 0, 1), (168, .getfield 9, 3), (171, .iconst 0, 1), (172, .iaload, 1), (173, .ifCond .ne 27, 3), (176, .aload_n 0, 1), (177, .getfield 9, 3), (180, .iconst 1, 1), (181, .iload 4, 2), (183, .iconst 5, 1), (184, .idiv, 1), (185, .iconst 5, 1), (186, .imul, 1), (187, .iastore, 1), (188, .aload_n 0, 1), (189, .getfield 9, 3), (192, .iconst 2, 1), (193, .iload 4, 2), (195, .iconst 5, 1), (196, .irem, 1), (197, .iconst 5, 1), (198, .imul, 1), (199, .iastore, 1), (200, .aload_n 0, 1), (201, .getfield 9, 3), (204, .iconst 0, 1), (205, .dup2, 1), (206, .iaload, 1), (207, .iconst 1, 1), (208, .iadd, 1), (209, .iastore, 1), (210, .iinc 4 1, 3), (213, .goto (-68), 3), (216, .return_, 1)]
theorem dec_X0_findRests : ∀ q ∈ I_X0_findRests, decode cX0_findRests q.1 = .ok q.2 := by decide +kernel
def M_X0_findRests : kM := (I_X0_findRests, gFL0, gCI0, gCJ0, [(17, K_X1_beginNow), (61, K_X1_worthAfter), (158, K_X0_isRest)], K_X0_findRests, 0, 5, [(3, ([(2, 0, 0), (2, 1, 0), (2, 2, 0), (2, 3, 0), (0, 4, 0)], [.inr (.inr (.inl (false, [8]))), .inl (0, 5), .inl (0, 5), kA, .inl (0, 25)], [(0, .inl 0), (1, .inl 1), (2, .inl 2), (3, .inl 3), (4, .inl 4)], [], [], [.inl 0, .inl 1, .inl 2, .inl 3], [(2, 0, 0), (25, (-1), 4)])), (145, ([(2, 0, 0), (2, 1, 0), (2, 2, 0), (2, 3, 0), (0, 4, 0)], [.inr (.inr (.inl (false, [8]))), .inl (0, 5), .inl (0, 5), kA, .inl (0, 25)], [(0, .inl 0), (1, .inl 1), (2, .inl 2), (3, .inl 3), (4, .inl 4)], [], [], [.inl 0, .inl 1, .inl 2, .inl 3], [(1, 0, 0), (25, (-1), 4)]))], [])
theorem chk_X0_findRests : k_check gTT gGS M_X0_findRests 4000 = true := by decide +kernel

def K_X0_findFirst : kCtr := ([.inr (.inr (.inl (false, [8])))], [], [(none, [], [])], [(4, 4), (4, 5), (4, 6), (4, 7), (4, 8), (7, 5), (7, 6), (7, 7), (7, 8), (7, 9), (7, 10), (16, 0), (25, 0), (27, 0)], [], [])
def I_X0_findFirst : List (Nat × Instr × Nat) := [(0, .aload_n 0, 1), (1, .getfield 9, 3), (4, .iconst 0, 1), (5, .bipush (-2), 2), (7, .iastore, 1), (8, .aload_n 0, 1), (9, .getfield 9, 3), (12, .iconst 1, 1), (13, .bipush (-2), 2), (15, .iastore, 1), (16, .aload_n 0, 1), (17, .getfield 32, 3), (20, .invokevirtual 36, 3), (23, .iconst 0, 1), (24, .istore_n 1, 1), (25, .iload_n 1, 1), (26, .bipush 60, 2), (28, .if_icmp .ge 60, 3), (31, .aload_n 0, 1), (32, .getfield 32, 3), (35, .getfield 41, 3), (38, .getfield 51, 3), (41, .istore_n 2, 1), (42, .aload_n 0, 1), (43, .getfield 32, 3), (46, .invokevirtual 55, 3), (49, .pop, 1), (50, .aload_n 0, 1), (51, .getfield 32, 3), (54, .getfield 77, 3), (57, .iconst (-1), 1), (58, .if_icmp .eq 24, 3), (61, .aload_n 0, 1), (62, .getfield 9, 3), (65, .iconst 0, 1), (66, .aload_n 0, 1), (67, .getfield 32, 3), (70, .getfield 77, 3), (73, .iastore, 1), (74, .aload_n 0, 1), (75, .getfield 9, 3), (78, .iconst 1, 1), (79, .iload_n 2, 1), (80, .iastore, 1), (81, .return_, 1), (82, .iinc 1 1, 3), (85, .goto (-60), 3), (88, .return_, 1)]
theorem dec_X0_findFirst : ∀ q ∈ I_X0_findFirst, decode cX0_findFirst q.1 = .ok q.2 := by decide +kernel
def M_X0_findFirst : kM := (I_X0_findFirst, gFL0, gCI0, gCJ0, [(20, K_X1_beginNow), (46, K_X1_goOneHour)], K_X0_findFirst, 0, 3, [(25, ([(2, 0, 0), (0, 1, 0)], [.inr (.inr (.inl (false, [8]))), .inl (0, 60)], [(0, .inl 0), (1, .inl 1)], [], [], [.inl 0], [(1, 0, 0), (60, (-1), 1)]))], [])
theorem chk_X0_findFirst : k_check gTT gGS M_X0_findFirst 4000 = true := by decide +kernel

def K_X0_drawAfter : kCtr := ([kA], [], [(some (.inl (0, 2147483647)), [], [])], [], [], [])
def I_X0_drawAfter : List (Nat × Instr × Nat) := [(0, .iload_n 0, 1), (1, .i2l, 1), (2, .ldc2_w 126, 3), (5, .lmul, 1), (6, .ldc2_w 128, 3), (9, .ladd, 1), (10, .ldc2_w 130, 3), (13, .land, 1), (14, .l2i, 1), (15, .ireturn, 1)]
theorem dec_X0_drawAfter : ∀ q ∈ I_X0_drawAfter, decode cX0_drawAfter q.1 = .ok q.2 := by decide +kernel
def M_X0_drawAfter : kM := (I_X0_drawAfter, gFL0, gCI0, gCJ0, [], K_X0_drawAfter, 1, 1, [], [])
theorem chk_X0_drawAfter : k_check gTT gGS M_X0_drawAfter 4000 = true := by decide +kernel

def K_X0_spark : kCtr := ([.inr (.inr (.inl (false, [8]))), .inl (0, 5)], [], [(none, [], [])], [(16, 0)], [], [])
def I_X0_spark : List (Nat × Instr × Nat) := [(0, .aload_n 0, 1), (1, .getfield 32, 3), (4, .getfield 41, 3), (7, .iload_n 1, 1), (8, .invokevirtual 132, 3), (11, .ifCond .eq 16, 3), (14, .aload_n 0, 1), (15, .getfield 32, 3), (18, .getfield 41, 3), (21, .getfield 91, 3), (24, .iload_n 1, 1), (25, .iconst 1, 1), (26, .iastore, 1), (27, .return_, 1)]
theorem dec_X0_spark : ∀ q ∈ I_X0_spark, decode cX0_spark q.1 = .ok q.2 := by decide +kernel
def M_X0_spark : kM := (I_X0_spark, gFL0, gCI0, gCJ0, [(8, K_X6_canCatch)], K_X0_spark, 0, 2, [], [])
theorem chk_X0_spark : k_check gTT gGS M_X0_spark 4000 = true := by decide +kernel

def K_X0_findSparks : kCtr := ([.inr (.inr (.inl (false, [8]))), kA, kA, kA], [], [(none, [], [])], [(4, 4), (4, 5), (4, 6), (4, 7), (4, 8), (7, 5), (7, 6), (7, 7), (7, 8), (7, 9), (7, 10), (16, 0), (25, 0), (27, 0)], [], [])
def I_X0_findSparks : List (Nat × Instr × Nat) := [(0, .aload_n 0, 1), (1, .getfield 21, 3), (4, .getfield 112, 3), (7, .istore 4, 2), (9, .aload_n 0, 1), (10, .getfield 9, 3), (13, .iconst 0, 1), (14, .iconst 0, 1), (15, .iastore, 1), (16, .aload_n 0, 1), (17, .getfield 9, 3), (20, .iconst 1, 1), (21, .iconst 0, 1), (22, .iastore, 1), (23, .iconst 0, 1), (24, .istore 5, 2), (26, .iload 5, 2), (28, .iload_n 1, 1), (29, .if_icmp .ge 133, 3), (32, .aload_n 0, 1), (33, .getfield 32, 3), (36, .invokevirtual 36, 3), (39, .iconst 0, 1), (40, .istore 6, 2), (42, .iload 6, 2), (44, .iload_n 2, 1), (45, .if_icmp .ge 70, 3), (48, .iload 4, 2), (50, .invokestatic 115, 3), (53, .istore 4, 2), (55, .iload 4, 2), (57, .ldc 118, 2), (59, .idiv, 1), (60, .bipush 100, 2), (62, .irem, 1), (63, .iload_n 3, 1), (64, .if_icmp .ge 37, 3), (67, .aload_n 0, 1), (68, .getfield 31, 3), (71, .getfield 59, 3), (74, .ifCond .le 27, 3), (77, .iload 4, 2), (79, .invokestatic 115, 3), (82, .istore 4, 2), (84, .aload_n 0, 1), (85, .iload 4, 2), (87, .ldc 118, 2), (89, .idiv, 1), (90, .aload_n 0, 1), (91, .getfield 31, 3), (94, .getfield 59, 3), (97, .irem, 1), (98, .invokevirtual 119, 3), (101, .aload_n 0, 1), (102, .getfield 32, 3), (105, .invokevirtual 55, 3), (108, .pop, 1), (109, .iinc 6 1, 3), (112, .goto (-70), 3), (115, .aload_n 0, 1), (116, .getfield 9, 3), (119, .iconst 0, 1), (120, .dup2, 1), (121, .iaload, 1), (122, .aload_n 0, 1), (123, .getfield 32, 3), (126, .getfield 41, 3), (129, .invokevirtual 123, 3), (132, .iadd, 1), (133, .iastore, 1), (134, .aload_n 0, 1), (135, .getfield 9, 3), (138, .iconst 1, 1), (139, .dup2, 1), (140, .iaload, 1), (141, .aload_n 0, 1), (142, .getfield 32, 3), (145, .getfield 41, 3), (148, .invokevirtual 45, 3), (151, .invokestatic 97, 3), (154, .iadd, 1), (155, .iastore, 1), (156, .iinc 5 1, 3), (159, .goto (-133), 3), (162, .return_, 1)]
theorem dec_X0_findSparks : ∀ q ∈ I_X0_findSparks, decode cX0_findSparks q.1 = .ok q.2 := by decide +kernel
def M_X0_findSparks : kM := (I_X0_findSparks, gFL0, gCI0, gCJ0, [(36, K_X1_beginNow), (50, K_X0_drawAfter), (79, K_X0_drawAfter), (98, K_X0_spark), (105, K_X1_goOneHour), (129, K_X6_allWorth), (148, K_X6_fires), (151, K_J6_bitCount_0f7a4)], K_X0_findSparks, 0, 7, [(26, ([(2, 0, 0), (2, 1, 0), (2, 2, 0), (2, 3, 0), (0, 4, 0), (0, 5, 0)], [.inr (.inr (.inl (false, [8]))), kA, kA, kA, .inl (0, 2147483647), .inl (0, 2147483647)], [(0, .inl 0), (1, .inl 1), (2, .inl 2), (3, .inl 3), (4, .inl 4), (5, .inl 5)], [], [], [.inl 0, .inl 1, .inl 2, .inl 3], [(1, 0, 0), (2147483647, (-1), 5), (99, 0, 0), (0, 0, 0)])), (42, ([(2, 0, 0), (2, 1, 0), (2, 2, 0), (2, 3, 0), (0, 4, 0), (0, 5, 0), (0, 6, 0)], [.inr (.inr (.inl (false, [8]))), .inl (1, 2147483647), kA, kA, .inl (0, 2147483647), .inl (0, 2147483646), .inl (0, 2147483647)], [(0, .inl 0), (1, .inl 1), (2, .inl 2), (3, .inl 3), (4, .inl 4), (5, .inl 5), (6, .inl 6)], [], [], [.inl 0, .inl 1, .inl 2, .inl 3], [(1, 0, 0), (2147483647, (-1), 5), (1, 0, 0), (2147483647, (-1), 6)]))], [])
theorem chk_X0_findSparks : k_check gTT gGS M_X0_findSparks 4000 = true := by decide +kernel

def K_X2_trace : kCtr := ([.inr (.inr (.inl (false, [10]))), .inl (0, 6)], [], [(none, [], [])], [(4, 4), (4, 5), (4, 6), (4, 7), (4, 8), (7, 5), (7, 6), (7, 7), (7, 8), (7, 9), (7, 10), (16, 0), (25, 0), (29, 0)], [], [])
def I_X2_trace : List (Nat × Instr × Nat) := [(0, .aload_n 0, 1), (1, .getfield 22, 3), (4, .iload_n 1, 1), (5, .iconst 1, 1), (6, .isub, 1), (7, .invokevirtual 47, 3), (10, .iconst 0, 1), (11, .istore_n 2, 1), (12, .iload_n 2, 1), (13, .bipush 61, 2), (15, .if_icmp .ge 38, 3), (18, .aload_n 0, 1), (19, .getfield 11, 3), (22, .iload_n 1, 1), (23, .bipush 61, 2), (25, .imul, 1), (26, .iload_n 2, 1), (27, .iadd, 1), (28, .aload_n 0, 1), (29, .getfield 22, 3), (32, .getfield 52, 3), (35, .getfield 56, 3), (38, .iastore, 1), (39, .aload_n 0, 1), (40, .getfield 22, 3), (43, .invokevirtual 61, 3), (46, .pop, 1), (47, .iinc 2 1, 3), (50, .goto (-38), 3), (53, .return_, 1)]
theorem dec_X2_trace : ∀ q ∈ I_X2_trace, decode cX2_trace q.1 = .ok q.2 := by decide +kernel
def M_X2_trace : kM := (I_X2_trace, gFL2, gCI2, gCJ2, [(7, K_X1_beginAsTold), (43, K_X1_goOneHour)], K_X2_trace, 0, 3, [(12, ([(2, 0, 0), (2, 1, 0), (0, 2, 0)], [.inr (.inr (.inl (false, [10]))), .inl (0, 6), .inl (0, 61)], [(0, .inl 0), (1, .inl 1), (2, .inl 2)], [], [], [.inl 0, .inl 1], [(1, 0, 0), (61, (-1), 2)]))], [])
theorem chk_X2_trace : k_check gTT gGS M_X2_trace 4000 = true := by decide +kernel

def K_X2_agrees : kCtr := ([.inr (.inr (.inl (false, [10]))), .inl (0, 6)], [], [(some (.inl (0, 1)), [], [])], [], [], [])
def I_X2_agrees : List (Nat × Instr × Nat) := [(0, .iconst 0, 1), (1, .istore_n 2, 1), (2, .iload_n 2, 1), (3, .aload_n 0, 1), (4, .getfield 18, 3), (7, .getfield 65, 3), (10, .if_icmp .ge 42, 3), (13, .aload_n 0, 1), (14, .getfield 11, 3), (17, .iload_n 1, 1), (18, .bipush 61, 2), (20, .imul, 1), (21, .aload_n 0, 1), (22, .getfield 18, 3), (25, .getfield 70, 3), (28, .iload_n 2, 1), (29, .iaload, 1), (30, .iadd, 1), (31, .iaload, 1), (32, .aload_n 0, 1), (33, .getfield 18, 3), (36, .getfield 73, 3), (39, .iload_n 2, 1), (40, .iaload, 1), (41, .if_icmp .eq 5, 3), (44, .iconst 0, 1), (45, .ireturn, 1), (46, .iinc 2 1, 3), (49, .goto (-47), 3), (52, .iconst 1, 1), (53, .ireturn, 1)]
theorem dec_X2_agrees : ∀ q ∈ I_X2_agrees, decode cX2_agrees q.1 = .ok q.2 := by decide +kernel
def M_X2_agrees : kM := (I_X2_agrees, gFL2, gCI2, gCJ2, [], K_X2_agrees, 2, 3, [(2, ([(2, 0, 0), (2, 1, 0), (0, 2, 0)], [.inr (.inr (.inl (false, [10]))), .inl (0, 6), .inl (0, 10)], [(0, .inl 0), (1, .inl 1), (2, .inl 2)], [], [], [.inl 0, .inl 1], [(1, 0, 0), (10, (-1), 2)]))], [])
theorem chk_X2_agrees : k_check gTT gGS M_X2_agrees 4000 = true := by decide +kernel

def K_X2_mostAlike : kCtr := ([.inr (.inr (.inl (false, [10]))), .inl (0, 60)], [], [(some (kA), [], [])], [(30, 0)], [], [])
def I_X2_mostAlike : List (Nat × Instr × Nat) := [(0, .iconst 0, 1), (1, .istore_n 2, 1), (2, .iconst 0, 1), (3, .istore_n 3, 1), (4, .iload_n 3, 1), (5, .bipush 7, 2), (7, .if_icmp .ge 16, 3), (10, .aload_n 0, 1), (11, .getfield 15, 3), (14, .iload_n 3, 1), (15, .iconst 0, 1), (16, .iastore, 1), (17, .iinc 3 1, 3), (20, .goto (-16), 3), (23, .iconst 0, 1), (24, .istore_n 3, 1), (25, .iload_n 3, 1), (26, .aload_n 0, 1), (27, .getfield 26, 3), (30, .if_icmp .ge 56, 3), (33, .aload_n 0, 1), (34, .getfield 30, 3), (37, .iload_n 3, 1), (38, .ishr, 1), (39, .iconst 1, 1), (40, .iand, 1), (41, .ifCond .eq 39, 3), (44, .aload_n 0, 1), (45, .getfield 11, 3), (48, .iload_n 3, 1), (49, .bipush 61, 2), (51, .imul, 1), (52, .iload_n 1, 1), (53, .iadd, 1), (54, .iaload, 1), (55, .istore 4, 2), (57, .aload_n 0, 1), (58, .getfield 15, 3), (61, .iload 4, 2), (63, .dup2, 1), (64, .iaload, 1), (65, .iconst 1, 1), (66, .iadd, 1), (67, .iastore, 1), (68, .iload_n 2, 1), (69, .aload_n 0, 1), (70, .getfield 15, 3), (73, .iload 4, 2), (75, .iaload, 1), (76, .invokestatic 86, 3), (79, .istore_n 2, 1), (80, .iinc 3 1, 3), (83, .goto (-58), 3), (86, .iload_n 2, 1), (87, .ireturn, 1)]
theorem dec_X2_mostAlike : ∀ q ∈ I_X2_mostAlike, decode cX2_mostAlike q.1 = .ok q.2 := by decide +kernel
def M_X2_mostAlike : kM := (I_X2_mostAlike, gFL2, gCI2, gCJ2, [(76, K_J9_max_7cf53)], K_X2_mostAlike, 1, 5, [(4, ([(2, 0, 0), (2, 1, 0), (0, 2, 0), (0, 3, 0)], [.inr (.inr (.inl (false, [10]))), .inl (0, 60), .inl (0, 0), .inl (0, 7)], [(0, .inl 0), (1, .inl 1), (2, .inl 2), (3, .inl 3)], [], [], [.inl 0, .inl 1], [(2, 0, 0), (7, (-1), 3)])), (25, ([(2, 0, 0), (2, 1, 0), (0, 2, 0), (0, 3, 0)], [.inr (.inr (.inl (false, [10]))), .inl (0, 60), kA, .inl (0, 7)], [(0, .inl 0), (1, .inl 1), (2, .inl 2), (3, .inl 3)], [], [], [.inl 0, .inl 1], [(1, 0, 0), (7, (-1), 3)]))], [])
theorem chk_X2_mostAlike : k_check gTT gGS M_X2_mostAlike 4000 = true := by decide +kernel

def K_X2_findParting : kCtr := ([.inr (.inr (.inl (false, [10])))], [], [(none, [], [])], [(10, 8), (10, 9), (30, 0)], [], [])
def I_X2_findParting : List (Nat × Instr × Nat) := [(0, .aload_n 0, 1), (1, .iconst 0, 1), (2, .putfield 76, 3), (5, .aload_n 0, 1), (6, .bipush 8, 2), (8, .putfield 79, 3), (11, .iconst 0, 1), (12, .istore_n 1, 1), (13, .iload_n 1, 1), (14, .bipush 61, 2), (16, .if_icmp .ge 33, 3), (19, .aload_n 0, 1), (20, .iload_n 1, 1), (21, .invokevirtual 82, 3), (24, .istore_n 2, 1), (25, .iload_n 2, 1), (26, .aload_n 0, 1), (27, .getfield 79, 3), (30, .if_icmp .ge 13, 3), (33, .aload_n 0, 1), (34, .iload_n 2, 1), (35, .putfield 79, 3), (38, .aload_n 0, 1), (39, .iload_n 1, 1), (40, .putfield 76, 3), (43, .iinc 1 1, 3), (46, .goto (-33), 3), (49, .return_, 1)]
theorem dec_X2_findParting : ∀ q ∈ I_X2_findParting, decode cX2_findParting q.1 = .ok q.2 := by decide +kernel
def M_X2_findParting : kM := (I_X2_findParting, gFL2, gCI2, gCJ2, [(21, K_X2_mostAlike)], K_X2_findParting, 0, 3, [(13, ([(2, 0, 0), (0, 1, 0)], [.inr (.inr (.inl (false, [10]))), .inl (0, 61)], [(0, .inl 0), (1, .inl 1)], [], [], [.inl 0], [(1, 0, 0), (61, (-1), 1)]))], [])
theorem chk_X2_findParting : k_check gTT gGS M_X2_findParting 4000 = true := by decide +kernel

def K_X2_findRuled : kCtr := ([.inr (.inr (.inl (false, [10]))), .inl (0, 6)], [], [(none, [], [])], [(4, 4), (4, 5), (4, 6), (4, 7), (4, 8), (7, 5), (7, 6), (7, 7), (7, 8), (7, 9), (7, 10), (10, 4), (10, 5), (10, 6), (10, 7), (16, 0), (25, 0), (29, 0)], [], [])
def I_X2_findRuled : List (Nat × Instr × Nat) := [(0, .aload_n 0, 1), (1, .iload_n 1, 1), (2, .iconst 1, 1), (3, .iadd, 1), (4, .putfield 26, 3), (7, .aload_n 0, 1), (8, .iconst 0, 1), (9, .putfield 30, 3), (12, .aload_n 0, 1), (13, .iconst 0, 1), (14, .putfield 33, 3), (17, .aload_n 0, 1), (18, .bipush (-2), 2), (20, .putfield 36, 3), (23, .iconst 0, 1), (24, .istore_n 2, 1), (25, .iload_n 2, 1), (26, .aload_n 0, 1), (27, .getfield 26, 3), (30, .if_icmp .ge 61, 3), (33, .aload_n 0, 1), (34, .iload_n 2, 1), (35, .invokevirtual 39, 3), (38, .aload_n 0, 1), (39, .iload_n 2, 1), (40, .invokevirtual 43, 3), (43, .ifCond .ne 6, 3), (46, .goto 39, 3), (49, .aload_n 0, 1), (50, .getfield 33, 3), (53, .ifCond .ne 10, 3), (56, .aload_n 0, 1), (57, .iload_n 2, 1), (58, .iconst 1, 1), (59, .isub, 1), (60, .putfield 36, 3), (63, .aload_n 0, 1), (64, .dup, 1), (65, .getfield 30, 3), (68, .iconst 1, 1), (69, .iload_n 2, 1), (70, .ishl, 1), (71, .ior, 1), (72, .putfield 30, 3), (75, .aload_n 0, 1), (76, .dup, 1), (77, .getfield 33, 3), (80, .iconst 1, 1), (81, .iadd, 1), (82, .putfield 33, 3), (85, .iinc 2 1, 3), (88, .goto (-63), 3), (91, .return_, 1)]
theorem dec_X2_findRuled : ∀ q ∈ I_X2_findRuled, decode cX2_findRuled q.1 = .ok q.2 := by decide +kernel
def M_X2_findRuled : kM := (I_X2_findRuled, gFL2, gCI2, gCJ2, [(35, K_X2_trace), (40, K_X2_agrees)], K_X2_findRuled, 0, 3, [(25, ([(2, 0, 0), (2, 1, 0), (0, 2, 0)], [.inr (.inr (.inl (false, [10]))), .inl (0, 6), .inl (0, 7)], [(0, .inl 0), (1, .inl 1), (2, .inl 2)], [], [], [.inl 0, .inl 1], [(1, 0, 0), (7, (-1), 2)]))], [])
theorem chk_X2_findRuled : k_check gTT gGS M_X2_findRuled 4000 = true := by decide +kernel

def K_X9_readHead : kCtr := ([.inr (.inr (.inl (false, [5])))], [], [(some (.inl (0, 1)), [], [])], [(1, 5), (1, 6), (3, 1), (3, 2)], [0], [0])
def I_X9_readHead : List (Nat × Instr × Nat) := [(0, .aload_n 0, 1), (1, .getfield 12, 3), (4, .aload_n 0, 1), (5, .getfield 18, 3), (8, .iconst 0, 1), (9, .bipush 9, 2), (11, .iconst (-1), 1), (12, .invokevirtual 68, 3), (15, .putfield 72, 3), (18, .aload_n 0, 1), (19, .getfield 12, 3), (22, .getfield 72, 3), (25, .iconst (-1), 1), (26, .if_icmp .ne 5, 3), (29, .iconst 0, 1), (30, .ireturn, 1), (31, .aload_n 0, 1), (32, .getfield 12, 3), (35, .aload_n 0, 1), (36, .getfield 18, 3), (39, .iconst 1, 1), (40, .bipush 9, 2), (42, .iconst (-1), 1), (43, .invokevirtual 68, 3), (46, .putfield 75, 3), (49, .aload_n 0, 1), (50, .getfield 12, 3), (53, .getfield 75, 3), (56, .iconst (-1), 1), (57, .if_icmp .eq 7, 3), (60, .iconst 1, 1), (61, .goto 4, 3), (64, .iconst 0, 1), (65, .ireturn, 1)]
theorem dec_X9_readHead : ∀ q ∈ I_X9_readHead, decode cX9_readHead q.1 = .ok q.2 := by decide +kernel
def M_X9_readHead : kM := (I_X9_readHead, gFL9, gCI9, gCJ9, [(12, K_X7_number_0_9), (43, K_X7_number_0_9)], K_X9_readHead, 2, 1, [], [])
theorem chk_X9_readHead : k_check gTT gGS M_X9_readHead 4000 = true := by decide +kernel

def K_X9_readHouse : kCtr := ([.inr (.inr (.inl (false, [5])))], [(0, 1, .inr (.inr (.inl (false, [3])))), (1, 3, .inl (0, 5))], [(some (.inl (0, 1)), [], [])], [(1, 5), (1, 6), (3, 3), (16, 0)], [0], [0])
def I_X9_readHouse : List (Nat × Instr × Nat) := [(0, .aload_n 0, 1), (1, .getfield 18, 3), (4, .iconst 0, 1), (5, .bipush 99, 2), (7, .iconst (-1), 1), (8, .invokevirtual 68, 3), (11, .istore_n 1, 1), (12, .iload_n 1, 1), (13, .iconst (-1), 1), (14, .if_icmp .ne 7, 3), (17, .iconst (-1), 1), (18, .goto 14, 3), (21, .aload_n 0, 1), (22, .getfield 18, 3), (25, .iconst 0, 1), (26, .bipush 9, 2), (28, .iconst (-1), 1), (29, .invokevirtual 68, 3), (32, .istore_n 2, 1), (33, .iload_n 2, 1), (34, .iconst (-1), 1), (35, .if_icmp .ne 7, 3), (38, .iconst (-1), 1), (39, .goto 14, 3), (42, .aload_n 0, 1), (43, .getfield 18, 3), (46, .iconst 0, 1), (47, .bipush 20, 2), (49, .iconst (-1), 1), (50, .invokevirtual 68, 3), (53, .istore_n 3, 1), (54, .iload_n 3, 1), (55, .iconst (-1), 1), (56, .if_icmp .ne 5, 3), (59, .iconst 0, 1), (60, .ireturn, 1), (61, .aload_n 0, 1), (62, .getfield 12, 3), (65, .getfield 51, 3), (68, .istore 4, 2), (70, .aload_n 0, 1), (71, .getfield 12, 3), (74, .getfield 78, 3), (77, .iload 4, 2), (79, .iload_n 1, 1), (80, .iastore, 1), (81, .aload_n 0, 1), (82, .getfield 12, 3), (85, .getfield 82, 3), (88, .iload 4, 2), (90, .iload_n 1, 1), (91, .ifCond .ne 7, 3), (94, .iconst 0, 1), (95, .goto 4, 3), (98, .iload_n 2, 1), (99, .iastore, 1), (100, .aload_n 0, 1), (101, .getfield 12, 3), (104, .getfield 85, 3), (107, .iload 4, 2), (109, .iload_n 3, 1), (110, .iastore, 1), (111, .aload_n 0, 1), (112, .getfield 12, 3), (115, .dup, 1), (116, .getfield 51, 3), (119, .iconst 1, 1), (120, .iadd, 1), (121, .putfield 51, 3), (124, .iconst 1, 1), (125, .ireturn, 1)]
theorem dec_X9_readHouse : ∀ q ∈ I_X9_readHouse, decode cX9_readHouse q.1 = .ok q.2 := by decide +kernel
def M_X9_readHouse : kM := (I_X9_readHouse, gFL9, gCI9, gCJ9, [(8, K_X7_number_0_99), (29, K_X7_number_0_9), (50, K_X7_number_0_20)], K_X9_readHouse, 2, 5, [], [])
theorem chk_X9_readHouse : k_check gTT gGS M_X9_readHouse 4000 = true := by decide +kernel

def K_X9_readRoad : kCtr := ([.inr (.inr (.inl (false, [5])))], [], [(some (.inl (0, 1)), [], [])], [(1, 5), (1, 6), (17, 0)], [0], [0])
def I_X9_readRoad : List (Nat × Instr × Nat) := [(0, .aload_n 0, 1), (1, .getfield 18, 3), (4, .iconst 0, 1), (5, .aload_n 0, 1), (6, .getfield 12, 3), (9, .getfield 51, 3), (12, .iconst (-1), 1), (13, .invokevirtual 68, 3), (16, .istore_n 1, 1), (17, .iload_n 1, 1), (18, .iconst (-1), 1), (19, .if_icmp .ne 7, 3), (22, .iconst (-1), 1), (23, .goto 19, 3), (26, .aload_n 0, 1), (27, .getfield 18, 3), (30, .iconst 0, 1), (31, .aload_n 0, 1), (32, .getfield 12, 3), (35, .getfield 51, 3), (38, .iload_n 1, 1), (39, .invokevirtual 68, 3), (42, .istore_n 2, 1), (43, .iload_n 2, 1), (44, .iconst (-1), 1), (45, .if_icmp .ne 7, 3), (48, .iconst (-1), 1), (49, .goto 14, 3), (52, .aload_n 0, 1), (53, .getfield 18, 3), (56, .iconst 1, 1), (57, .bipush 9, 2), (59, .iconst (-1), 1), (60, .invokevirtual 68, 3), (63, .istore_n 3, 1), (64, .iload_n 3, 1), (65, .iconst (-1), 1), (66, .if_icmp .ne 5, 3), (69, .iconst 0, 1), (70, .ireturn, 1), (71, .aload_n 0, 1), (72, .getfield 12, 3), (75, .iload_n 1, 1), (76, .iload_n 2, 1), (77, .iload_n 3, 1), (78, .invokevirtual 88, 3), (81, .iconst 1, 1), (82, .ireturn, 1)]
theorem dec_X9_readRoad : ∀ q ∈ I_X9_readRoad, decode cX9_readRoad q.1 = .ok q.2 := by decide +kernel
def M_X9_readRoad : kM := (I_X9_readRoad, gFL9, gCI9, gCJ9, [(13, K_X7_number_0_6), (39, K_X7_number_0_6), (60, K_X7_number_0_9), (78, K_X8_addRoad)], K_X9_readRoad, 2, 4, [], [])
theorem chk_X9_readRoad : k_check gTT gGS M_X9_readRoad 4000 = true := by decide +kernel

def K_X9_readBeside : kCtr := ([.inr (.inr (.inl (false, [5])))], [], [(some (.inl (0, 1)), [], [])], [(1, 5), (1, 6), (16, 0)], [0], [0])
def I_X9_readBeside : List (Nat × Instr × Nat) := [(0, .aload_n 0, 1), (1, .getfield 18, 3), (4, .iconst 0, 1), (5, .aload_n 0, 1), (6, .getfield 12, 3), (9, .getfield 51, 3), (12, .iconst 1, 1), (13, .isub, 1), (14, .iconst (-1), 1), (15, .invokevirtual 68, 3), (18, .istore_n 1, 1), (19, .iload_n 1, 1), (20, .iconst (-1), 1), (21, .if_icmp .ne 7, 3), (24, .iconst (-1), 1), (25, .goto 21, 3), (28, .aload_n 0, 1), (29, .getfield 18, 3), (32, .iconst 0, 1), (33, .aload_n 0, 1), (34, .getfield 12, 3), (37, .getfield 51, 3), (40, .iconst 1, 1), (41, .isub, 1), (42, .iload_n 1, 1), (43, .invokevirtual 68, 3), (46, .istore_n 2, 1), (47, .iload_n 2, 1), (48, .iconst (-1), 1), (49, .if_icmp .ne 5, 3), (52, .iconst 0, 1), (53, .ireturn, 1), (54, .aload_n 0, 1), (55, .getfield 12, 3), (58, .iload_n 1, 1), (59, .iload_n 2, 1), (60, .invokevirtual 92, 3), (63, .iconst 1, 1), (64, .ireturn, 1)]
theorem dec_X9_readBeside : ∀ q ∈ I_X9_readBeside, decode cX9_readBeside q.1 = .ok q.2 := by decide +kernel
def M_X9_readBeside : kM := (I_X9_readBeside, gFL9, gCI9, gCJ9, [(15, K_X7_number_0_5), (43, K_X7_number_0_5), (60, K_X8_addBeside)], K_X9_readBeside, 2, 3, [], [])
theorem chk_X9_readBeside : k_check gTT gGS M_X9_readBeside 4000 = true := by decide +kernel

def K_X9_readClause : kCtr := ([.inr (.inr (.inl (false, [5]))), kA], [], [(some (.inl (0, 1)), [], [])], [(1, 5), (1, 6), (3, 1), (3, 2), (3, 3), (16, 0), (17, 0)], [0], [0])
def I_X9_readClause : List (Nat × Instr × Nat) := [(0, .aload_n 0, 1), (1, .getfield 18, 3), (4, .invokevirtual 34, 3), (7, .istore_n 2, 1), (8, .iload_n 2, 1), (9, .sipush 300, 3), (12, .if_icmp .ne 7, 3), (15, .iconst 1, 1), (16, .goto 4, 3), (19, .iconst 0, 1), (20, .istore_n 3, 1), (21, .iload_n 2, 1), (22, .sipush 260, 3), (25, .if_icmp .eq 30, 3), (28, .iload_n 3, 1), (29, .ifCond .ne 26, 3), (32, .iload_n 2, 1), (33, .sipush 261, 3), (36, .if_icmp .eq 19, 3), (39, .iload_n 2, 1), (40, .sipush 262, 3), (43, .if_icmp .eq 12, 3), (46, .aload_n 0, 1), (47, .getfield 18, 3), (50, .iconst 0, 1), (51, .invokevirtual 45, 3), (54, .ireturn, 1), (55, .iload_n 1, 1), (56, .bipush 40, 2), (58, .if_icmp .ge 27, 3), (61, .iload_n 2, 1), (62, .sipush 260, 3), (65, .if_icmp .ne 7, 3), (68, .iconst 1, 1), (69, .goto 4, 3), (72, .iconst 0, 1), (73, .iload_n 1, 1), (74, .ifCond .ne 7, 3), (77, .iconst 1, 1), (78, .goto 4, 3), (81, .iconst 0, 1), (82, .if_icmp .eq 12, 3), (85, .aload_n 0, 1), (86, .getfield 18, 3), (89, .iconst 4, 1), (90, .invokevirtual 45, 3), (93, .ireturn, 1), (94, .iload_n 3, 1), (95, .ifCond .eq 24, 3), (98, .aload_n 0, 1), (99, .getfield 12, 3), (102, .getfield 51, 3), (105, .bipush 6, 2), (107, .if_icmp .lt 12, 3), (110, .aload_n 0, 1), (111, .getfield 18, 3), (114, .iconst 4, 1), (115, .invokevirtual 45, 3), (118, .ireturn, 1), (119, .aload_n 0, 1), (120, .getfield 18, 3), (123, .invokevirtual 48, 3), (126, .iload_n 3, 1), (127, .ifCond .eq 8, 3), (130, .aload_n 0, 1), (131, .invokevirtual 55, 3), (134, .ireturn, 1), (135, .iload_n 2, 1), (136, .sipush 260, 3), (139, .if_icmp .ne 8, 3), (142, .aload_n 0, 1), (143, .invokevirtual 59, 3), (146, .ireturn, 1), (147, .iload_n 2, 1), (148, .sipush 261, 3), (151, .if_icmp .ne 10, 3), (154, .aload_n 0, 1), (155, .invokevirtual 62, 3), (158, .goto 7, 3), (161, .aload_n 0, 1), (162, .invokevirtual 65, 3), (165, .ireturn, 1)]
theorem dec_X9_readClause : ∀ q ∈ I_X9_readClause, decode cX9_readClause q.1 = .ok q.2 := by decide +kernel
def M_X9_readClause : kM := (I_X9_readClause, gFL9, gCI9, gCJ9, [(4, K_X7_kind), (51, K_X7_refuse), (90, K_X7_refuse), (115, K_X7_refuse), (123, K_X7_pass), (131, K_X9_readHouse), (143, K_X9_readHead), (155, K_X9_readRoad), (162, K_X9_readBeside)], K_X9_readClause, 2, 4, [], [])
theorem chk_X9_readClause : k_check gTT gGS M_X9_readClause 4000 = true := by decide +kernel

def K_X9_read : kCtr := ([.inr (.inr (.inl (false, [5])))], [], [(some (.inl (0, 1)), [], [])], [(1, 5), (1, 6), (3, 0), (3, 1), (3, 2), (3, 3), (13, 0), (14, 0), (15, 0), (16, 0), (17, 0)], [], [])
def I_X9_read : List (Nat × Instr × Nat) := [(0, .aload_n 0, 1), (1, .getfield 18, 3), (4, .invokevirtual 22, 3), (7, .aload_n 0, 1), (8, .getfield 12, 3), (11, .invokevirtual 27, 3), (14, .iconst 0, 1), (15, .istore_n 1, 1), (16, .iload_n 1, 1), (17, .bipush 40, 2), (19, .if_icmp .gt 75, 3), (22, .aload_n 0, 1), (23, .iload_n 1, 1), (24, .invokevirtual 30, 3), (27, .ifCond .ne 5, 3), (30, .iconst 0, 1), (31, .ireturn, 1), (32, .aload_n 0, 1), (33, .getfield 18, 3), (36, .invokevirtual 34, 3), (39, .iconst (-1), 1), (40, .if_icmp .ne 20, 3), (43, .aload_n 0, 1), (44, .getfield 12, 3), (47, .iconst 1, 1), (48, .putfield 38, 3), (51, .aload_n 0, 1), (52, .getfield 12, 3), (55, .invokevirtual 42, 3), (58, .iconst 1, 1), (59, .ireturn, 1), (60, .aload_n 0, 1), (61, .getfield 18, 3), (64, .invokevirtual 34, 3), (67, .bipush 59, 2), (69, .if_icmp .eq 12, 3), (72, .aload_n 0, 1), (73, .getfield 18, 3), (76, .iconst 0, 1), (77, .invokevirtual 45, 3), (80, .ireturn, 1), (81, .aload_n 0, 1), (82, .getfield 18, 3), (85, .invokevirtual 48, 3), (88, .iinc 1 1, 3), (91, .goto (-75), 3), (94, .aload_n 0, 1), (95, .getfield 18, 3), (98, .iconst 4, 1), (99, .invokevirtual 45, 3), (102, .ireturn, 1)]
theorem dec_X9_read : ∀ q ∈ I_X9_read, decode cX9_read q.1 = .ok q.2 := by decide +kernel
def M_X9_read : kM := (I_X9_read, gFL9, gCI9, gCJ9, [(4, K_X7_scan), (11, K_X8_wipe), (24, K_X9_readClause), (36, K_X7_kind), (55, K_X8_findWays), (64, K_X7_kind), (77, K_X7_refuse), (85, K_X7_pass), (99, K_X7_refuse)], K_X9_read, 2, 2, [(16, ([(2, 0, 0), (0, 1, 0)], [.inr (.inr (.inl (false, [5]))), .inl (0, 41)], [(0, .inl 0), (1, .inl 1)], [], [0], [.inl 0], [(1, 0, 0), (41, (-1), 1)]))], [])
theorem chk_X9_read : k_check gTT gGS M_X9_read 4000 = true := by decide +kernel

def K_X5_emit : kCtr := ([.inr (.inr (.inl (false, [6]))), kA], [], [(none, [], [])], [(6, 2), (23, 0)], [], [])
def I_X5_emit : List (Nat × Instr × Nat) := [(0, .aload_n 0, 1), (1, .getfield 27, 3), (4, .aload_n 0, 1), (5, .getfield 9, 3), (8, .arraylength, 1), (9, .if_icmp .ge 23, 3), (12, .aload_n 0, 1), (13, .getfield 9, 3), (16, .aload_n 0, 1), (17, .getfield 27, 3), (20, .iload_n 1, 1), (21, .iastore, 1), (22, .aload_n 0, 1), (23, .dup, 1), (24, .getfield 27, 3), (27, .iconst 1, 1), (28, .iadd, 1), (29, .putfield 27, 3), (32, .return_, 1)]
theorem dec_X5_emit : ∀ q ∈ I_X5_emit, decode cX5_emit q.1 = .ok q.2 := by decide +kernel
def M_X5_emit : kM := (I_X5_emit, gFL5, gCI5, gCJ5, [], K_X5_emit, 0, 2, [], [])
theorem chk_X5_emit : k_check gTT gGS M_X5_emit 4000 = true := by decide +kernel

def K_X5_signOf : kCtr := ([kA], [], [(some (kA), [], [])], [], [], [])
def I_X5_signOf : List (Nat × Instr × Nat) := [(0, .iload_n 0, 1), (1, .lookupswitch 66 #[(60, 51), (61, 57), (62, 63), (257, 54), (258, 60)], 51), (52, .bipush 18, 2), (54, .ireturn, 1), (55, .bipush 19, 2), (57, .ireturn, 1), (58, .bipush 20, 2), (60, .ireturn, 1), (61, .bipush 21, 2), (63, .ireturn, 1), (64, .bipush 22, 2), (66, .ireturn, 1), (67, .iconst (-1), 1), (68, .ireturn, 1)]
theorem dec_X5_signOf : ∀ q ∈ I_X5_signOf, decode cX5_signOf q.1 = .ok q.2 := by decide +kernel
def M_X5_signOf : kM := (I_X5_signOf, gFL5, gCI5, gCJ5, [], K_X5_signOf, 1, 1, [], [])
theorem chk_X5_signOf : k_check gTT gGS M_X5_signOf 4000 = true := by decide +kernel

def K_X5_joinOf : kCtr := ([kA], [], [(some (kA), [], [])], [], [], [])
def I_X5_joinOf : List (Nat × Instr × Nat) := [(0, .iload_n 0, 1), (1, .tableswitch 74 37 47 #[71, 74, 74, 74, 74, 65, 59, 74, 62, 74, 68], 59), (60, .bipush 13, 2), (62, .ireturn, 1), (63, .bipush 14, 2), (65, .ireturn, 1), (66, .bipush 15, 2), (68, .ireturn, 1), (69, .bipush 16, 2), (71, .ireturn, 1), (72, .bipush 17, 2), (74, .ireturn, 1), (75, .iconst (-1), 1), (76, .ireturn, 1)]
theorem dec_X5_joinOf : ∀ q ∈ I_X5_joinOf, decode cX5_joinOf q.1 = .ok q.2 := by decide +kernel
def M_X5_joinOf : kM := (I_X5_joinOf, gFL5, gCI5, gCJ5, [], K_X5_joinOf, 1, 1, [], [])
theorem chk_X5_joinOf : k_check gTT gGS M_X5_joinOf 4000 = true := by decide +kernel

def K_X5_readValue : kCtr := ([.inr (.inr (.inl (false, [6])))], [], [(some (.inl (0, 1)), [], [])], [(1, 5), (1, 6), (6, 2), (6, 5), (23, 0)], [0], [0])
def I_X5_readValue : List (Nat × Instr × Nat) := [(0, .aload_n 0, 1), (1, .getfield 18, 3), (4, .invokevirtual 48, 3), (7, .istore_n 1, 1), (8, .iload_n 1, 1), (9, .sipush 256, 3), (12, .if_icmp .ne 47, 3), (15, .aload_n 0, 1), (16, .getfield 18, 3), (19, .getfield 92, 3), (22, .aload_n 0, 1), (23, .getfield 18, 3), (26, .getfield 95, 3), (29, .iaload, 1), (30, .istore_n 2, 1), (31, .iload_n 2, 1), (32, .ldc 98, 2), (34, .if_icmp .ne 12, 3), (37, .aload_n 0, 1), (38, .getfield 18, 3), (41, .iconst 1, 1), (42, .invokevirtual 52, 3), (45, .ireturn, 1), (46, .aload_n 0, 1), (47, .iload_n 2, 1), (48, .iconst 5, 1), (49, .ishl, 1), (50, .bipush 11, 2), (52, .ior, 1), (53, .invokevirtual 75, 3), (56, .goto 38, 3), (59, .iload_n 1, 1), (60, .sipush 300, 3), (63, .if_icmp .lt 22, 3), (66, .iload_n 1, 1), (67, .sipush 310, 3), (70, .if_icmp .gt 15, 3), (73, .aload_n 0, 1), (74, .iload_n 1, 1), (75, .sipush 300, 3), (78, .isub, 1), (79, .invokevirtual 75, 3), (82, .goto 12, 3), (85, .aload_n 0, 1), (86, .getfield 18, 3), (89, .iconst 0, 1), (90, .invokevirtual 52, 3), (93, .ireturn, 1), (94, .aload_n 0, 1), (95, .getfield 31, 3), (98, .bipush 60, 2), (100, .if_icmp .lt 12, 3), (103, .aload_n 0, 1), (104, .getfield 18, 3), (107, .iconst 3, 1), (108, .invokevirtual 52, 3), (111, .ireturn, 1), (112, .aload_n 0, 1), (113, .dup, 1), (114, .getfield 31, 3), (117, .iconst 1, 1), (118, .iadd, 1), (119, .putfield 31, 3), (122, .aload_n 0, 1), (123, .getfield 18, 3), (126, .invokevirtual 55, 3), (129, .iconst 1, 1), (130, .ireturn, 1)]
theorem dec_X5_readValue : ∀ q ∈ I_X5_readValue, decode cX5_readValue q.1 = .ok q.2 := by decide +kernel
def M_X5_readValue : kM := (I_X5_readValue, gFL5, gCI5, gCJ5, [(4, K_X7_kind), (42, K_X7_refuse), (53, K_X5_emit), (79, K_X5_emit), (90, K_X7_refuse), (108, K_X7_refuse), (126, K_X7_pass)], K_X5_readValue, 2, 3, [], [])
theorem chk_X5_readValue : k_check gTT gGS M_X5_readValue 4000 = true := by decide +kernel

def K_X5_readSum : kCtr := ([.inr (.inr (.inl (false, [6])))], [], [(some (.inl (0, 1)), [], [])], [(1, 5), (1, 6), (6, 2), (6, 5), (23, 0)], [0], [0])
def I_X5_readSum : List (Nat × Instr × Nat) := [(0, .iconst (-1), 1), (1, .istore_n 1, 1), (2, .aload_n 0, 1), (3, .invokevirtual 86, 3), (6, .ifCond .ne 5, 3), (9, .iconst 0, 1), (10, .ireturn, 1), (11, .iconst 0, 1), (12, .istore_n 2, 1), (13, .iload_n 2, 1), (14, .sipush 400, 3), (17, .if_icmp .ge 100, 3), (20, .aload_n 0, 1), (21, .getfield 18, 3), (24, .invokevirtual 48, 3), (27, .invokestatic 89, 3), (30, .istore_n 3, 1), (31, .iload_n 3, 1), (32, .bipush 15, 2), (34, .if_icmp .eq 15, 3), (37, .iload_n 3, 1), (38, .bipush 16, 2), (40, .if_icmp .eq 9, 3), (43, .iload_n 3, 1), (44, .bipush 17, 2), (46, .if_icmp .ne 7, 3), (49, .iconst 1, 1), (50, .goto 4, 3), (53, .iconst 0, 1), (54, .istore 4, 2), (56, .iload 4, 2), (58, .ifCond .ne 15, 3), (61, .iload_n 1, 1), (62, .iconst (-1), 1), (63, .if_icmp .eq 10, 3), (66, .aload_n 0, 1), (67, .iload_n 1, 1), (68, .invokevirtual 75, 3), (71, .iconst (-1), 1), (72, .istore_n 1, 1), (73, .iload_n 3, 1), (74, .iconst (-1), 1), (75, .if_icmp .ne 5, 3), (78, .iconst 1, 1), (79, .ireturn, 1), (80, .aload_n 0, 1), (81, .getfield 18, 3), (84, .invokevirtual 55, 3), (87, .aload_n 0, 1), (88, .invokevirtual 86, 3), (91, .ifCond .ne 5, 3), (94, .iconst 0, 1), (95, .ireturn, 1), (96, .iload 4, 2), (98, .ifCond .eq 11, 3), (101, .aload_n 0, 1), (102, .iload_n 3, 1), (103, .invokevirtual 75, 3), (106, .goto 5, 3), (109, .iload_n 3, 1), (110, .istore_n 1, 1), (111, .iinc 2 1, 3), (114, .goto (-101), 3), (117, .iconst 1, 1), (118, .ireturn, 1)]
theorem dec_X5_readSum : ∀ q ∈ I_X5_readSum, decode cX5_readSum q.1 = .ok q.2 := by decide +kernel
def M_X5_readSum : kM := (I_X5_readSum, gFL5, gCI5, gCJ5, [(3, K_X5_readValue), (24, K_X7_kind), (27, K_X5_joinOf), (68, K_X5_emit), (84, K_X7_pass), (88, K_X5_readValue), (103, K_X5_emit)], K_X5_readSum, 2, 5, [(13, ([(2, 0, 0), (0, 1, 0), (0, 2, 0)], [.inr (.inr (.inl (false, [6]))), kA, .inl (0, 400)], [(0, .inl 0), (1, .inl 1), (2, .inl 2)], [], [0], [.inl 0], [(1, 0, 0), (400, (-1), 2)]))], [])
theorem chk_X5_readSum : k_check gTT gGS M_X5_readSum 4000 = true := by decide +kernel

def K_X5_readComparison : kCtr := ([.inr (.inr (.inl (false, [6])))], [], [(some (.inl (0, 1)), [], [])], [(1, 5), (1, 6), (6, 2), (6, 5), (23, 0)], [0], [0])
def I_X5_readComparison : List (Nat × Instr × Nat) := [(0, .aload_n 0, 1), (1, .invokevirtual 69, 3), (4, .ifCond .ne 5, 3), (7, .iconst 0, 1), (8, .ireturn, 1), (9, .aload_n 0, 1), (10, .getfield 18, 3), (13, .invokevirtual 48, 3), (16, .invokestatic 82, 3), (19, .istore_n 1, 1), (20, .iload_n 1, 1), (21, .iconst (-1), 1), (22, .if_icmp .ne 12, 3), (25, .aload_n 0, 1), (26, .getfield 18, 3), (29, .iconst 0, 1), (30, .invokevirtual 52, 3), (33, .ireturn, 1), (34, .aload_n 0, 1), (35, .getfield 31, 3), (38, .bipush 60, 2), (40, .if_icmp .lt 12, 3), (43, .aload_n 0, 1), (44, .getfield 18, 3), (47, .iconst 3, 1), (48, .invokevirtual 52, 3), (51, .ireturn, 1), (52, .aload_n 0, 1), (53, .dup, 1), (54, .getfield 31, 3), (57, .iconst 1, 1), (58, .iadd, 1), (59, .putfield 31, 3), (62, .aload_n 0, 1), (63, .getfield 18, 3), (66, .invokevirtual 55, 3), (69, .aload_n 0, 1), (70, .invokevirtual 69, 3), (73, .ifCond .ne 5, 3), (76, .iconst 0, 1), (77, .ireturn, 1), (78, .aload_n 0, 1), (79, .iload_n 1, 1), (80, .invokevirtual 75, 3), (83, .iconst 1, 1), (84, .ireturn, 1)]
theorem dec_X5_readComparison : ∀ q ∈ I_X5_readComparison, decode cX5_readComparison q.1 = .ok q.2 := by decide +kernel
def M_X5_readComparison : kM := (I_X5_readComparison, gFL5, gCI5, gCJ5, [(1, K_X5_readSum), (13, K_X7_kind), (16, K_X5_signOf), (30, K_X7_refuse), (48, K_X7_refuse), (66, K_X7_pass), (70, K_X5_readSum), (80, K_X5_emit)], K_X5_readComparison, 2, 2, [], [])
theorem chk_X5_readComparison : k_check gTT gGS M_X5_readComparison 4000 = true := by decide +kernel

def K_X5_readFact_10 : kCtr := ([.inr (.inr (.inl (false, [6]))), .inl (10, 10)], [], [(some (.inl (0, 1)), [], [])], [(1, 5), (1, 6), (6, 2), (6, 5), (23, 0)], [0], [0])
def I_X5_readFact : List (Nat × Instr × Nat) := [(0, .aload_n 0, 1), (1, .getfield 18, 3), (4, .invokevirtual 48, 3), (7, .istore_n 2, 1), (8, .iload_n 2, 1), (9, .sipush 267, 3), (12, .if_icmp .eq 14, 3), (15, .iload_n 2, 1), (16, .bipush 91, 2), (18, .if_icmp .eq 8, 3), (21, .aload_n 0, 1), (22, .invokevirtual 79, 3), (25, .ireturn, 1), (26, .iload_n 1, 1), (27, .bipush 10, 2), (29, .if_icmp .lt 12, 3), (32, .aload_n 0, 1), (33, .getfield 18, 3), (36, .iconst 2, 1), (37, .invokevirtual 52, 3), (40, .ireturn, 1), (41, .aload_n 0, 1), (42, .getfield 18, 3), (45, .invokevirtual 55, 3), (48, .iload_n 2, 1), (49, .sipush 267, 3), (52, .if_icmp .ne 23, 3), (55, .aload_n 0, 1), (56, .iload_n 1, 1), (57, .iconst 1, 1), (58, .iadd, 1), (59, .invokevirtual 72, 3), (62, .ifCond .ne 5, 3), (65, .iconst 0, 1), (66, .ireturn, 1), (67, .aload_n 0, 1), (68, .bipush 12, 2), (70, .invokevirtual 75, 3), (73, .iconst 1, 1), (74, .ireturn, 1), (75, .aload_n 0, 1), (76, .iload_n 1, 1), (77, .iconst 1, 1), (78, .iadd, 1), (79, .invokevirtual 42, 3), (82, .ifCond .ne 5, 3), (85, .iconst 0, 1), (86, .ireturn, 1), (87, .aload_n 0, 1), (88, .getfield 18, 3), (91, .invokevirtual 48, 3), (94, .bipush 93, 2), (96, .if_icmp .eq 12, 3), (99, .aload_n 0, 1), (100, .getfield 18, 3), (103, .iconst 0, 1), (104, .invokevirtual 52, 3), (107, .ireturn, 1), (108, .aload_n 0, 1), (109, .getfield 18, 3), (112, .invokevirtual 55, 3), (115, .iconst 1, 1), (116, .ireturn, 1)]
theorem dec_X5_readFact : ∀ q ∈ I_X5_readFact, decode cX5_readFact q.1 = .ok q.2 := by decide +kernel
def M_X5_readFact_10 : kM := (I_X5_readFact, gFL5, gCI5, gCJ5, [(4, K_X7_kind), (22, K_X5_readComparison), (37, K_X7_refuse)], K_X5_readFact_10, 2, 3, [], [])
theorem chk_X5_readFact_10 : k_check gTT gGS M_X5_readFact_10 4000 = true := by decide +kernel

def K_X5_readTest_10 : kCtr := ([.inr (.inr (.inl (false, [6]))), .inl (10, 10)], [], [(some (.inl (0, 1)), [], [])], [(1, 5), (1, 6), (6, 2), (6, 5), (23, 0)], [0], [0])
def I_X5_readTest : List (Nat × Instr × Nat) := [(0, .iconst 0, 1), (1, .istore_n 2, 1), (2, .aload_n 0, 1), (3, .iload_n 1, 1), (4, .invokevirtual 72, 3), (7, .ifCond .ne 5, 3), (10, .iconst 0, 1), (11, .ireturn, 1), (12, .iconst 0, 1), (13, .istore_n 3, 1), (14, .iload_n 3, 1), (15, .sipush 400, 3), (18, .if_icmp .ge 92, 3), (21, .aload_n 0, 1), (22, .getfield 18, 3), (25, .invokevirtual 48, 3), (28, .istore 4, 2), (30, .iload 4, 2), (32, .sipush 266, 3), (35, .if_icmp .eq 15, 3), (38, .iload_n 2, 1), (39, .ifCond .eq 11, 3), (42, .aload_n 0, 1), (43, .bipush 24, 2), (45, .invokevirtual 75, 3), (48, .iconst 0, 1), (49, .istore_n 2, 1), (50, .iload 4, 2), (52, .sipush 266, 3), (55, .if_icmp .eq 13, 3), (58, .iload 4, 2), (60, .sipush 265, 3), (63, .if_icmp .eq 5, 3), (66, .iconst 1, 1), (67, .ireturn, 1), (68, .aload_n 0, 1), (69, .getfield 18, 3), (72, .invokevirtual 55, 3), (75, .aload_n 0, 1), (76, .iload_n 1, 1), (77, .invokevirtual 72, 3), (80, .ifCond .ne 5, 3), (83, .iconst 0, 1), (84, .ireturn, 1), (85, .iload 4, 2), (87, .sipush 266, 3), (90, .if_icmp .ne 12, 3), (93, .aload_n 0, 1), (94, .bipush 23, 2), (96, .invokevirtual 75, 3), (99, .goto 5, 3), (102, .iconst 1, 1), (103, .istore_n 2, 1), (104, .iinc 3 1, 3), (107, .goto (-93), 3), (110, .iconst 1, 1), (111, .ireturn, 1)]
theorem dec_X5_readTest : ∀ q ∈ I_X5_readTest, decode cX5_readTest q.1 = .ok q.2 := by decide +kernel
def M_X5_readTest_10 : kM := (I_X5_readTest, gFL5, gCI5, gCJ5, [(4, K_X5_readFact_10), (25, K_X7_kind), (45, K_X5_emit), (72, K_X7_pass), (77, K_X5_readFact_10), (96, K_X5_emit)], K_X5_readTest_10, 2, 5, [(14, ([(2, 0, 0), (2, 1, 0), (0, 2, 0), (0, 3, 0)], [.inr (.inr (.inl (false, [6]))), .inl (10, 10), .inl (0, 1), .inl (0, 400)], [(0, .inl 0), (1, .inl 1), (2, .inl 2), (3, .inl 3)], [], [0], [.inl 0, .inl 1], [(1, 0, 0), (400, (-1), 3)]))], [])
theorem chk_X5_readTest_10 : k_check gTT gGS M_X5_readTest_10 4000 = true := by decide +kernel

def K_X5_readFact_9 : kCtr := ([.inr (.inr (.inl (false, [6]))), .inl (9, 9)], [], [(some (.inl (0, 1)), [], [])], [(1, 5), (1, 6), (6, 2), (6, 5), (23, 0)], [0], [0])
def M_X5_readFact_9 : kM := (I_X5_readFact, gFL5, gCI5, gCJ5, [(4, K_X7_kind), (22, K_X5_readComparison), (45, K_X7_pass), (59, K_X5_readFact_10), (70, K_X5_emit), (79, K_X5_readTest_10), (91, K_X7_kind), (104, K_X7_refuse), (112, K_X7_pass)], K_X5_readFact_9, 2, 3, [], [])
theorem chk_X5_readFact_9 : k_check gTT gGS M_X5_readFact_9 4000 = true := by decide +kernel

def K_X5_readTest_9 : kCtr := ([.inr (.inr (.inl (false, [6]))), .inl (9, 9)], [], [(some (.inl (0, 1)), [], [])], [(1, 5), (1, 6), (6, 2), (6, 5), (23, 0)], [0], [0])
def M_X5_readTest_9 : kM := (I_X5_readTest, gFL5, gCI5, gCJ5, [(4, K_X5_readFact_9), (25, K_X7_kind), (45, K_X5_emit), (72, K_X7_pass), (77, K_X5_readFact_9), (96, K_X5_emit)], K_X5_readTest_9, 2, 5, [(14, ([(2, 0, 0), (2, 1, 0), (0, 2, 0), (0, 3, 0)], [.inr (.inr (.inl (false, [6]))), .inl (9, 9), .inl (0, 1), .inl (0, 400)], [(0, .inl 0), (1, .inl 1), (2, .inl 2), (3, .inl 3)], [], [0], [.inl 0, .inl 1], [(1, 0, 0), (400, (-1), 3)]))], [])
theorem chk_X5_readTest_9 : k_check gTT gGS M_X5_readTest_9 4000 = true := by decide +kernel

def K_X5_readFact_8 : kCtr := ([.inr (.inr (.inl (false, [6]))), .inl (8, 8)], [], [(some (.inl (0, 1)), [], [])], [(1, 5), (1, 6), (6, 2), (6, 5), (23, 0)], [0], [0])
def M_X5_readFact_8 : kM := (I_X5_readFact, gFL5, gCI5, gCJ5, [(4, K_X7_kind), (22, K_X5_readComparison), (45, K_X7_pass), (59, K_X5_readFact_9), (70, K_X5_emit), (79, K_X5_readTest_9), (91, K_X7_kind), (104, K_X7_refuse), (112, K_X7_pass)], K_X5_readFact_8, 2, 3, [], [])
theorem chk_X5_readFact_8 : k_check gTT gGS M_X5_readFact_8 4000 = true := by decide +kernel

def K_X5_readTest_8 : kCtr := ([.inr (.inr (.inl (false, [6]))), .inl (8, 8)], [], [(some (.inl (0, 1)), [], [])], [(1, 5), (1, 6), (6, 2), (6, 5), (23, 0)], [0], [0])
def M_X5_readTest_8 : kM := (I_X5_readTest, gFL5, gCI5, gCJ5, [(4, K_X5_readFact_8), (25, K_X7_kind), (45, K_X5_emit), (72, K_X7_pass), (77, K_X5_readFact_8), (96, K_X5_emit)], K_X5_readTest_8, 2, 5, [(14, ([(2, 0, 0), (2, 1, 0), (0, 2, 0), (0, 3, 0)], [.inr (.inr (.inl (false, [6]))), .inl (8, 8), .inl (0, 1), .inl (0, 400)], [(0, .inl 0), (1, .inl 1), (2, .inl 2), (3, .inl 3)], [], [0], [.inl 0, .inl 1], [(1, 0, 0), (400, (-1), 3)]))], [])
theorem chk_X5_readTest_8 : k_check gTT gGS M_X5_readTest_8 4000 = true := by decide +kernel

def K_X5_readFact_7 : kCtr := ([.inr (.inr (.inl (false, [6]))), .inl (7, 7)], [], [(some (.inl (0, 1)), [], [])], [(1, 5), (1, 6), (6, 2), (6, 5), (23, 0)], [0], [0])
def M_X5_readFact_7 : kM := (I_X5_readFact, gFL5, gCI5, gCJ5, [(4, K_X7_kind), (22, K_X5_readComparison), (45, K_X7_pass), (59, K_X5_readFact_8), (70, K_X5_emit), (79, K_X5_readTest_8), (91, K_X7_kind), (104, K_X7_refuse), (112, K_X7_pass)], K_X5_readFact_7, 2, 3, [], [])
theorem chk_X5_readFact_7 : k_check gTT gGS M_X5_readFact_7 4000 = true := by decide +kernel

def K_X5_readTest_7 : kCtr := ([.inr (.inr (.inl (false, [6]))), .inl (7, 7)], [], [(some (.inl (0, 1)), [], [])], [(1, 5), (1, 6), (6, 2), (6, 5), (23, 0)], [0], [0])
def M_X5_readTest_7 : kM := (I_X5_readTest, gFL5, gCI5, gCJ5, [(4, K_X5_readFact_7), (25, K_X7_kind), (45, K_X5_emit), (72, K_X7_pass), (77, K_X5_readFact_7), (96, K_X5_emit)], K_X5_readTest_7, 2, 5, [(14, ([(2, 0, 0), (2, 1, 0), (0, 2, 0), (0, 3, 0)], [.inr (.inr (.inl (false, [6]))), .inl (7, 7), .inl (0, 1), .inl (0, 400)], [(0, .inl 0), (1, .inl 1), (2, .inl 2), (3, .inl 3)], [], [0], [.inl 0, .inl 1], [(1, 0, 0), (400, (-1), 3)]))], [])
theorem chk_X5_readTest_7 : k_check gTT gGS M_X5_readTest_7 4000 = true := by decide +kernel

def K_X5_readFact_6 : kCtr := ([.inr (.inr (.inl (false, [6]))), .inl (6, 6)], [], [(some (.inl (0, 1)), [], [])], [(1, 5), (1, 6), (6, 2), (6, 5), (23, 0)], [0], [0])
def M_X5_readFact_6 : kM := (I_X5_readFact, gFL5, gCI5, gCJ5, [(4, K_X7_kind), (22, K_X5_readComparison), (45, K_X7_pass), (59, K_X5_readFact_7), (70, K_X5_emit), (79, K_X5_readTest_7), (91, K_X7_kind), (104, K_X7_refuse), (112, K_X7_pass)], K_X5_readFact_6, 2, 3, [], [])
theorem chk_X5_readFact_6 : k_check gTT gGS M_X5_readFact_6 4000 = true := by decide +kernel

def K_X5_readTest_6 : kCtr := ([.inr (.inr (.inl (false, [6]))), .inl (6, 6)], [], [(some (.inl (0, 1)), [], [])], [(1, 5), (1, 6), (6, 2), (6, 5), (23, 0)], [0], [0])
def M_X5_readTest_6 : kM := (I_X5_readTest, gFL5, gCI5, gCJ5, [(4, K_X5_readFact_6), (25, K_X7_kind), (45, K_X5_emit), (72, K_X7_pass), (77, K_X5_readFact_6), (96, K_X5_emit)], K_X5_readTest_6, 2, 5, [(14, ([(2, 0, 0), (2, 1, 0), (0, 2, 0), (0, 3, 0)], [.inr (.inr (.inl (false, [6]))), .inl (6, 6), .inl (0, 1), .inl (0, 400)], [(0, .inl 0), (1, .inl 1), (2, .inl 2), (3, .inl 3)], [], [0], [.inl 0, .inl 1], [(1, 0, 0), (400, (-1), 3)]))], [])
theorem chk_X5_readTest_6 : k_check gTT gGS M_X5_readTest_6 4000 = true := by decide +kernel

def K_X5_readFact_5 : kCtr := ([.inr (.inr (.inl (false, [6]))), .inl (5, 5)], [], [(some (.inl (0, 1)), [], [])], [(1, 5), (1, 6), (6, 2), (6, 5), (23, 0)], [0], [0])
def M_X5_readFact_5 : kM := (I_X5_readFact, gFL5, gCI5, gCJ5, [(4, K_X7_kind), (22, K_X5_readComparison), (45, K_X7_pass), (59, K_X5_readFact_6), (70, K_X5_emit), (79, K_X5_readTest_6), (91, K_X7_kind), (104, K_X7_refuse), (112, K_X7_pass)], K_X5_readFact_5, 2, 3, [], [])
theorem chk_X5_readFact_5 : k_check gTT gGS M_X5_readFact_5 4000 = true := by decide +kernel

def K_X5_readTest_5 : kCtr := ([.inr (.inr (.inl (false, [6]))), .inl (5, 5)], [], [(some (.inl (0, 1)), [], [])], [(1, 5), (1, 6), (6, 2), (6, 5), (23, 0)], [0], [0])
def M_X5_readTest_5 : kM := (I_X5_readTest, gFL5, gCI5, gCJ5, [(4, K_X5_readFact_5), (25, K_X7_kind), (45, K_X5_emit), (72, K_X7_pass), (77, K_X5_readFact_5), (96, K_X5_emit)], K_X5_readTest_5, 2, 5, [(14, ([(2, 0, 0), (2, 1, 0), (0, 2, 0), (0, 3, 0)], [.inr (.inr (.inl (false, [6]))), .inl (5, 5), .inl (0, 1), .inl (0, 400)], [(0, .inl 0), (1, .inl 1), (2, .inl 2), (3, .inl 3)], [], [0], [.inl 0, .inl 1], [(1, 0, 0), (400, (-1), 3)]))], [])
theorem chk_X5_readTest_5 : k_check gTT gGS M_X5_readTest_5 4000 = true := by decide +kernel

def K_X5_readFact_4 : kCtr := ([.inr (.inr (.inl (false, [6]))), .inl (4, 4)], [], [(some (.inl (0, 1)), [], [])], [(1, 5), (1, 6), (6, 2), (6, 5), (23, 0)], [0], [0])
def M_X5_readFact_4 : kM := (I_X5_readFact, gFL5, gCI5, gCJ5, [(4, K_X7_kind), (22, K_X5_readComparison), (45, K_X7_pass), (59, K_X5_readFact_5), (70, K_X5_emit), (79, K_X5_readTest_5), (91, K_X7_kind), (104, K_X7_refuse), (112, K_X7_pass)], K_X5_readFact_4, 2, 3, [], [])
theorem chk_X5_readFact_4 : k_check gTT gGS M_X5_readFact_4 4000 = true := by decide +kernel

def K_X5_readTest_4 : kCtr := ([.inr (.inr (.inl (false, [6]))), .inl (4, 4)], [], [(some (.inl (0, 1)), [], [])], [(1, 5), (1, 6), (6, 2), (6, 5), (23, 0)], [0], [0])
def M_X5_readTest_4 : kM := (I_X5_readTest, gFL5, gCI5, gCJ5, [(4, K_X5_readFact_4), (25, K_X7_kind), (45, K_X5_emit), (72, K_X7_pass), (77, K_X5_readFact_4), (96, K_X5_emit)], K_X5_readTest_4, 2, 5, [(14, ([(2, 0, 0), (2, 1, 0), (0, 2, 0), (0, 3, 0)], [.inr (.inr (.inl (false, [6]))), .inl (4, 4), .inl (0, 1), .inl (0, 400)], [(0, .inl 0), (1, .inl 1), (2, .inl 2), (3, .inl 3)], [], [0], [.inl 0, .inl 1], [(1, 0, 0), (400, (-1), 3)]))], [])
theorem chk_X5_readTest_4 : k_check gTT gGS M_X5_readTest_4 4000 = true := by decide +kernel

def K_X5_readFact_3 : kCtr := ([.inr (.inr (.inl (false, [6]))), .inl (3, 3)], [], [(some (.inl (0, 1)), [], [])], [(1, 5), (1, 6), (6, 2), (6, 5), (23, 0)], [0], [0])
def M_X5_readFact_3 : kM := (I_X5_readFact, gFL5, gCI5, gCJ5, [(4, K_X7_kind), (22, K_X5_readComparison), (45, K_X7_pass), (59, K_X5_readFact_4), (70, K_X5_emit), (79, K_X5_readTest_4), (91, K_X7_kind), (104, K_X7_refuse), (112, K_X7_pass)], K_X5_readFact_3, 2, 3, [], [])
theorem chk_X5_readFact_3 : k_check gTT gGS M_X5_readFact_3 4000 = true := by decide +kernel

def K_X5_readTest_3 : kCtr := ([.inr (.inr (.inl (false, [6]))), .inl (3, 3)], [], [(some (.inl (0, 1)), [], [])], [(1, 5), (1, 6), (6, 2), (6, 5), (23, 0)], [0], [0])
def M_X5_readTest_3 : kM := (I_X5_readTest, gFL5, gCI5, gCJ5, [(4, K_X5_readFact_3), (25, K_X7_kind), (45, K_X5_emit), (72, K_X7_pass), (77, K_X5_readFact_3), (96, K_X5_emit)], K_X5_readTest_3, 2, 5, [(14, ([(2, 0, 0), (2, 1, 0), (0, 2, 0), (0, 3, 0)], [.inr (.inr (.inl (false, [6]))), .inl (3, 3), .inl (0, 1), .inl (0, 400)], [(0, .inl 0), (1, .inl 1), (2, .inl 2), (3, .inl 3)], [], [0], [.inl 0, .inl 1], [(1, 0, 0), (400, (-1), 3)]))], [])
theorem chk_X5_readTest_3 : k_check gTT gGS M_X5_readTest_3 4000 = true := by decide +kernel

def K_X5_readFact_2 : kCtr := ([.inr (.inr (.inl (false, [6]))), .inl (2, 2)], [], [(some (.inl (0, 1)), [], [])], [(1, 5), (1, 6), (6, 2), (6, 5), (23, 0)], [0], [0])
def M_X5_readFact_2 : kM := (I_X5_readFact, gFL5, gCI5, gCJ5, [(4, K_X7_kind), (22, K_X5_readComparison), (45, K_X7_pass), (59, K_X5_readFact_3), (70, K_X5_emit), (79, K_X5_readTest_3), (91, K_X7_kind), (104, K_X7_refuse), (112, K_X7_pass)], K_X5_readFact_2, 2, 3, [], [])
theorem chk_X5_readFact_2 : k_check gTT gGS M_X5_readFact_2 4000 = true := by decide +kernel

def K_X5_readTest_2 : kCtr := ([.inr (.inr (.inl (false, [6]))), .inl (2, 2)], [], [(some (.inl (0, 1)), [], [])], [(1, 5), (1, 6), (6, 2), (6, 5), (23, 0)], [0], [0])
def M_X5_readTest_2 : kM := (I_X5_readTest, gFL5, gCI5, gCJ5, [(4, K_X5_readFact_2), (25, K_X7_kind), (45, K_X5_emit), (72, K_X7_pass), (77, K_X5_readFact_2), (96, K_X5_emit)], K_X5_readTest_2, 2, 5, [(14, ([(2, 0, 0), (2, 1, 0), (0, 2, 0), (0, 3, 0)], [.inr (.inr (.inl (false, [6]))), .inl (2, 2), .inl (0, 1), .inl (0, 400)], [(0, .inl 0), (1, .inl 1), (2, .inl 2), (3, .inl 3)], [], [0], [.inl 0, .inl 1], [(1, 0, 0), (400, (-1), 3)]))], [])
theorem chk_X5_readTest_2 : k_check gTT gGS M_X5_readTest_2 4000 = true := by decide +kernel

def K_X5_readFact_1 : kCtr := ([.inr (.inr (.inl (false, [6]))), .inl (1, 1)], [], [(some (.inl (0, 1)), [], [])], [(1, 5), (1, 6), (6, 2), (6, 5), (23, 0)], [0], [0])
def M_X5_readFact_1 : kM := (I_X5_readFact, gFL5, gCI5, gCJ5, [(4, K_X7_kind), (22, K_X5_readComparison), (45, K_X7_pass), (59, K_X5_readFact_2), (70, K_X5_emit), (79, K_X5_readTest_2), (91, K_X7_kind), (104, K_X7_refuse), (112, K_X7_pass)], K_X5_readFact_1, 2, 3, [], [])
theorem chk_X5_readFact_1 : k_check gTT gGS M_X5_readFact_1 4000 = true := by decide +kernel

def K_X5_readTest_1 : kCtr := ([.inr (.inr (.inl (false, [6]))), .inl (1, 1)], [], [(some (.inl (0, 1)), [], [])], [(1, 5), (1, 6), (6, 2), (6, 5), (23, 0)], [0], [0])
def M_X5_readTest_1 : kM := (I_X5_readTest, gFL5, gCI5, gCJ5, [(4, K_X5_readFact_1), (25, K_X7_kind), (45, K_X5_emit), (72, K_X7_pass), (77, K_X5_readFact_1), (96, K_X5_emit)], K_X5_readTest_1, 2, 5, [(14, ([(2, 0, 0), (2, 1, 0), (0, 2, 0), (0, 3, 0)], [.inr (.inr (.inl (false, [6]))), .inl (1, 1), .inl (0, 1), .inl (0, 400)], [(0, .inl 0), (1, .inl 1), (2, .inl 2), (3, .inl 3)], [], [0], [.inl 0, .inl 1], [(1, 0, 0), (400, (-1), 3)]))], [])
theorem chk_X5_readTest_1 : k_check gTT gGS M_X5_readTest_1 4000 = true := by decide +kernel

def K_X5_readFact_0 : kCtr := ([.inr (.inr (.inl (false, [6]))), .inl (0, 0)], [], [(some (.inl (0, 1)), [], [])], [(1, 5), (1, 6), (6, 2), (6, 5), (23, 0)], [0], [0])
def M_X5_readFact_0 : kM := (I_X5_readFact, gFL5, gCI5, gCJ5, [(4, K_X7_kind), (22, K_X5_readComparison), (45, K_X7_pass), (59, K_X5_readFact_1), (70, K_X5_emit), (79, K_X5_readTest_1), (91, K_X7_kind), (104, K_X7_refuse), (112, K_X7_pass)], K_X5_readFact_0, 2, 3, [], [])
theorem chk_X5_readFact_0 : k_check gTT gGS M_X5_readFact_0 4000 = true := by decide +kernel

def K_X5_readTest_0 : kCtr := ([.inr (.inr (.inl (false, [6]))), .inl (0, 0)], [], [(some (.inl (0, 1)), [], [])], [(1, 5), (1, 6), (6, 2), (6, 5), (23, 0)], [0], [0])
def M_X5_readTest_0 : kM := (I_X5_readTest, gFL5, gCI5, gCJ5, [(4, K_X5_readFact_0), (25, K_X7_kind), (45, K_X5_emit), (72, K_X7_pass), (77, K_X5_readFact_0), (96, K_X5_emit)], K_X5_readTest_0, 2, 5, [(14, ([(2, 0, 0), (2, 1, 0), (0, 2, 0), (0, 3, 0)], [.inr (.inr (.inl (false, [6]))), .inl (0, 0), .inl (0, 1), .inl (0, 400)], [(0, .inl 0), (1, .inl 1), (2, .inl 2), (3, .inl 3)], [], [0], [.inl 0, .inl 1], [(1, 0, 0), (400, (-1), 3)]))], [])
theorem chk_X5_readTest_0 : k_check gTT gGS M_X5_readTest_0 4000 = true := by decide +kernel

def K_X5_passIf : kCtr := ([.inr (.inr (.inl (false, [6])))], [], [(some (.inl (0, 1)), [], [])], [(1, 5)], [0], [0])
def I_X5_passIf : List (Nat × Instr × Nat) := [(0, .aload_n 0, 1), (1, .getfield 18, 3), (4, .invokevirtual 48, 3), (7, .sipush 264, 3), (10, .if_icmp .eq 5, 3), (13, .iconst 0, 1), (14, .ireturn, 1), (15, .aload_n 0, 1), (16, .getfield 18, 3), (19, .invokevirtual 55, 3), (22, .iconst 1, 1), (23, .ireturn, 1)]
theorem dec_X5_passIf : ∀ q ∈ I_X5_passIf, decode cX5_passIf q.1 = .ok q.2 := by decide +kernel
def M_X5_passIf : kM := (I_X5_passIf, gFL5, gCI5, gCJ5, [(4, K_X7_kind), (19, K_X7_pass)], K_X5_passIf, 2, 1, [], [])
theorem chk_X5_passIf : k_check gTT gGS M_X5_passIf 4000 = true := by decide +kernel

def K_X5_readGo : kCtr := ([.inr (.inr (.inl (false, [6]))), .inl (0, 11)], [], [(some (.inl (0, 1)), [], [])], [(1, 5), (1, 6), (6, 2), (6, 5), (23, 0), (24, 0)], [0], [0])
def I_X5_readGo : List (Nat × Instr × Nat) := [(0, .aload_n 0, 1), (1, .getfield 18, 3), (4, .invokevirtual 48, 3), (7, .sipush 263, 3), (10, .if_icmp .eq 12, 3), (13, .aload_n 0, 1), (14, .getfield 18, 3), (17, .iconst 0, 1), (18, .invokevirtual 52, 3), (21, .ireturn, 1), (22, .aload_n 0, 1), (23, .getfield 18, 3), (26, .invokevirtual 55, 3), (29, .aload_n 0, 1), (30, .getfield 15, 3), (33, .iconst 2, 1), (34, .iload_n 1, 1), (35, .imul, 1), (36, .aload_n 0, 1), (37, .getfield 27, 3), (40, .iastore, 1), (41, .aload_n 0, 1), (42, .invokevirtual 69, 3), (45, .ifCond .ne 5, 3), (48, .iconst 0, 1), (49, .ireturn, 1), (50, .aload_n 0, 1), (51, .getfield 15, 3), (54, .iconst 2, 1), (55, .iload_n 1, 1), (56, .imul, 1), (57, .iconst 1, 1), (58, .iadd, 1), (59, .aload_n 0, 1), (60, .getfield 27, 3), (63, .iastore, 1), (64, .iconst 1, 1), (65, .ireturn, 1)]
theorem dec_X5_readGo : ∀ q ∈ I_X5_readGo, decode cX5_readGo q.1 = .ok q.2 := by decide +kernel
def M_X5_readGo : kM := (I_X5_readGo, gFL5, gCI5, gCJ5, [(4, K_X7_kind), (18, K_X7_refuse), (26, K_X7_pass), (42, K_X5_readSum)], K_X5_readGo, 2, 2, [], [])
theorem chk_X5_readGo : k_check gTT gGS M_X5_readGo 4000 = true := by decide +kernel

def K_X5_read : kCtr := ([.inr (.inr (.inl (false, [6])))], [], [(some (.inl (0, 1)), [], [])], [(1, 5), (1, 6), (6, 2), (6, 4), (6, 5), (13, 0), (14, 0), (15, 0), (23, 0), (24, 0)], [], [])
def I_X5_read : List (Nat × Instr × Nat) := [(0, .aload_n 0, 1), (1, .getfield 18, 3), (4, .invokevirtual 22, 3), (7, .aload_n 0, 1), (8, .iconst 0, 1), (9, .putfield 27, 3), (12, .aload_n 0, 1), (13, .iconst 0, 1), (14, .putfield 31, 3), (17, .iconst 0, 1), (18, .istore_n 1, 1), (19, .iload_n 1, 1), (20, .bipush 12, 2), (22, .if_icmp .ge 96, 3), (25, .aload_n 0, 1), (26, .iload_n 1, 1), (27, .invokevirtual 34, 3), (30, .ifCond .eq 18, 3), (33, .aload_n 0, 1), (34, .invokevirtual 38, 3), (37, .ifCond .eq 13, 3), (40, .aload_n 0, 1), (41, .iconst 0, 1), (42, .invokevirtual 42, 3), (45, .ifCond .ne 5, 3), (48, .iconst 0, 1), (49, .ireturn, 1), (50, .aload_n 0, 1), (51, .getfield 15, 3), (54, .iconst 2, 1), (55, .iload_n 1, 1), (56, .imul, 1), (57, .iconst 2, 1), (58, .iadd, 1), (59, .aload_n 0, 1), (60, .getfield 27, 3), (63, .iastore, 1), (64, .aload_n 0, 1), (65, .iload_n 1, 1), (66, .iconst 1, 1), (67, .iadd, 1), (68, .putfield 45, 3), (71, .aload_n 0, 1), (72, .getfield 18, 3), (75, .invokevirtual 48, 3), (78, .iconst (-1), 1), (79, .if_icmp .ne 5, 3), (82, .iconst 1, 1), (83, .ireturn, 1), (84, .aload_n 0, 1), (85, .getfield 18, 3), (88, .invokevirtual 48, 3), (91, .bipush 59, 2), (93, .if_icmp .eq 12, 3), (96, .aload_n 0, 1), (97, .getfield 18, 3), (100, .iconst 0, 1), (101, .invokevirtual 52, 3), (104, .ireturn, 1), (105, .aload_n 0, 1), (106, .getfield 18, 3), (109, .invokevirtual 55, 3), (112, .iinc 1 1, 3), (115, .goto (-96), 3), (118, .aload_n 0, 1), (119, .getfield 18, 3), (122, .aload_n 0, 1), (123, .getfield 18, 3), (126, .invokevirtual 48, 3), (129, .sipush 263, 3), (132, .if_icmp .ne 7, 3), (135, .iconst 4, 1), (136, .goto 4, 3), (139, .iconst 0, 1), (140, .invokevirtual 52, 3), (143, .ireturn, 1)]
theorem dec_X5_read : ∀ q ∈ I_X5_read, decode cX5_read q.1 = .ok q.2 := by decide +kernel
def M_X5_read : kM := (I_X5_read, gFL5, gCI5, gCJ5, [(4, K_X7_scan), (27, K_X5_readGo), (34, K_X5_passIf), (42, K_X5_readTest_0), (75, K_X7_kind), (88, K_X7_kind), (101, K_X7_refuse), (109, K_X7_pass), (126, K_X7_kind), (140, K_X7_refuse)], K_X5_read, 2, 2, [(19, ([(2, 0, 0), (0, 1, 0)], [.inr (.inr (.inl (false, [6]))), .inl (0, 12)], [(0, .inl 0), (1, .inl 1)], [], [0], [.inl 0], [(1, 0, 0), (12, (-1), 1)]))], [])
theorem chk_X5_read : k_check gTT gGS M_X5_read 4000 = true := by decide +kernel

def K_X11_isHouse : kCtr := ([.inr (.inr (.inl (false, [0]))), kA], [], [(some (.inl (0, 0)), [], []), (some (.inl (1, 1)), [(1, .inl (0, 5))], [])], [], [], [])
def I_X11_isHouse : List (Nat × Instr × Nat) := [(0, .iload_n 1, 1), (1, .ifCond .lt 21, 3), (4, .iload_n 1, 1), (5, .aload_n 0, 1), (6, .getfield 19, 3), (9, .getfield 105, 3), (12, .getfield 129, 3), (15, .if_icmp .ge 7, 3), (18, .iconst 1, 1), (19, .goto 4, 3), (22, .iconst 0, 1), (23, .ireturn, 1)]
theorem dec_X11_isHouse : ∀ q ∈ I_X11_isHouse, decode cX11_isHouse q.1 = .ok q.2 := by decide +kernel
def M_X11_isHouse : kM := (I_X11_isHouse, gFL11, gCI11, gCJ11, [], K_X11_isHouse, 2, 2, [], [])
theorem chk_X11_isHouse : k_check gTT gGS M_X11_isHouse 4000 = true := by decide +kernel

def K_X11_isPlace : kCtr := ([.inr (.inr (.inl (false, [0]))), kA], [], [(some (.inl (0, 0)), [], []), (some (.inl (1, 1)), [(1, .inl (0, 6))], [])], [], [], [])
def I_X11_isPlace : List (Nat × Instr × Nat) := [(0, .aload_n 0, 1), (1, .getfield 19, 3), (4, .getfield 105, 3), (7, .getfield 169, 3), (10, .ifCond .eq 25, 3), (13, .iload_n 1, 1), (14, .ifCond .lt 21, 3), (17, .iload_n 1, 1), (18, .aload_n 0, 1), (19, .getfield 19, 3), (22, .getfield 105, 3), (25, .getfield 129, 3), (28, .if_icmp .gt 7, 3), (31, .iconst 1, 1), (32, .goto 4, 3), (35, .iconst 0, 1), (36, .ireturn, 1)]
theorem dec_X11_isPlace : ∀ q ∈ I_X11_isPlace, decode cX11_isPlace q.1 = .ok q.2 := by decide +kernel
def M_X11_isPlace : kM := (I_X11_isPlace, gFL11, gCI11, gCJ11, [], K_X11_isPlace, 2, 2, [], [])
theorem chk_X11_isPlace : k_check gTT gGS M_X11_isPlace 4000 = true := by decide +kernel

def K_X11_isAsked : kCtr := ([.inr (.inr (.inl (false, [0]))), kA, kA, kA], [], [(some (.inl (0, 1)), [], [])], [], [], [])
def I_X11_isAsked : List (Nat × Instr × Nat) := [(0, .aload_n 0, 1), (1, .getfield 19, 3), (4, .getfield 105, 3), (7, .getfield 169, 3), (10, .ifCond .eq 17, 3), (13, .iload_n 1, 1), (14, .iload_n 2, 1), (15, .if_icmp .lt 12, 3), (18, .iload_n 1, 1), (19, .iload_n 3, 1), (20, .if_icmp .gt 7, 3), (23, .iconst 1, 1), (24, .goto 4, 3), (27, .iconst 0, 1), (28, .ireturn, 1)]
theorem dec_X11_isAsked : ∀ q ∈ I_X11_isAsked, decode cX11_isAsked q.1 = .ok q.2 := by decide +kernel
def M_X11_isAsked : kM := (I_X11_isAsked, gFL11, gCI11, gCJ11, [], K_X11_isAsked, 2, 4, [], [])
theorem chk_X11_isAsked : k_check gTT gGS M_X11_isAsked 4000 = true := by decide +kernel

def K_X11_keepAct : kCtr := ([.inr (.inr (.inl (false, [0])))], [], [(none, [], [])], [(0, 6), (0, 7), (4, 4), (4, 5), (4, 6), (4, 7), (4, 8), (16, 0)], [], [])
def I_X11_keepAct : List (Nat × Instr × Nat) := [(0, .aload_n 0, 1), (1, .getfield 35, 3), (4, .aload_n 0, 1), (5, .getfield 207, 3), (8, .aaload, 1), (9, .aload_n 0, 1), (10, .getfield 19, 3), (13, .getfield 116, 3), (16, .invokevirtual 187, 3), (19, .aload_n 0, 1), (20, .aload_n 0, 1), (21, .getfield 207, 3), (24, .bipush 19, 2), (26, .if_icmp .ne 7, 3), (29, .iconst 0, 1), (30, .goto 9, 3), (33, .aload_n 0, 1), (34, .getfield 207, 3), (37, .iconst 1, 1), (38, .iadd, 1), (39, .putfield 207, 3), (42, .aload_n 0, 1), (43, .getfield 126, 3), (46, .bipush 20, 2), (48, .if_icmp .ge 13, 3), (51, .aload_n 0, 1), (52, .dup, 1), (53, .getfield 126, 3), (56, .iconst 1, 1), (57, .iadd, 1), (58, .putfield 126, 3), (61, .return_, 1)]
theorem dec_X11_keepAct : ∀ q ∈ I_X11_keepAct, decode cX11_keepAct q.1 = .ok q.2 := by decide +kernel
def M_X11_keepAct : kM := (I_X11_keepAct, gFL11, gCI11, gCJ11, [(16, K_X6_copyFrom)], K_X11_keepAct, 0, 1, [], [])
theorem chk_X11_keepAct : k_check gTT gGS M_X11_keepAct 4000 = true := by decide +kernel

def K_X11_feed : kCtr := ([.inr (.inr (.inl (false, [0]))), kA, kA, kA, kA, kA], [], [(some (kA), [], [])], [(1, 1), (12, 0)], [], [])
def I_X11_feed : List (Nat × Instr × Nat) := [(0, .aload_n 0, 1), (1, .getfield 10, 3), (4, .getfield 90, 3), (7, .sipush 380, 3), (10, .if_icmp .le 5, 3), (13, .iconst (-1), 1), (14, .ireturn, 1), (15, .aload_n 0, 1), (16, .getfield 10, 3), (19, .iload_n 1, 1), (20, .invokevirtual 94, 3), (23, .aload_n 0, 1), (24, .getfield 10, 3), (27, .iload_n 2, 1), (28, .invokevirtual 94, 3), (31, .aload_n 0, 1), (32, .getfield 10, 3), (35, .iload_n 3, 1), (36, .invokevirtual 94, 3), (39, .aload_n 0, 1), (40, .getfield 10, 3), (43, .iload 4, 2), (45, .invokevirtual 94, 3), (48, .aload_n 0, 1), (49, .getfield 10, 3), (52, .iload 5, 2), (54, .invokevirtual 94, 3), (57, .aload_n 0, 1), (58, .getfield 10, 3), (61, .getfield 90, 3), (64, .ireturn, 1)]
theorem dec_X11_feed : ∀ q ∈ I_X11_feed, decode cX11_feed q.1 = .ok q.2 := by decide +kernel
def M_X11_feed : kM := (I_X11_feed, gFL11, gCI11, gCJ11, [(20, K_X7_append), (28, K_X7_append), (36, K_X7_append), (45, K_X7_append), (54, K_X7_append)], K_X11_feed, 1, 6, [], [])
theorem chk_X11_feed : k_check gTT gGS M_X11_feed 4000 = true := by decide +kernel

def K_X11_end : kCtr := ([.inr (.inr (.inl (false, [0]))), kA], [], [(some (kA), [], [])], [(1, 1)], [], [])
def I_X11_end : List (Nat × Instr × Nat) := [(0, .iload_n 1, 1), (1, .ifCond .lt 14, 3), (4, .iload_n 1, 1), (5, .aload_n 0, 1), (6, .getfield 10, 3), (9, .getfield 90, 3), (12, .if_icmp .le 5, 3), (15, .iconst (-1), 1), (16, .ireturn, 1), (17, .aload_n 0, 1), (18, .getfield 10, 3), (21, .iload_n 1, 1), (22, .putfield 90, 3), (25, .iload_n 1, 1), (26, .ireturn, 1)]
theorem dec_X11_end : ∀ q ∈ I_X11_end, decode cX11_end q.1 = .ok q.2 := by decide +kernel
def M_X11_end : kM := (I_X11_end, gFL11, gCI11, gCJ11, [], K_X11_end, 1, 2, [], [])
theorem chk_X11_end : k_check gTT gGS M_X11_end 4000 = true := by decide +kernel

def K_X11_valley : kCtr := ([.inr (.inr (.inl (false, [0])))], [], [(some (kA), [], [])], [(0, 7), (1, 1), (1, 5), (1, 6), (2, 4), (3, 0), (3, 1), (3, 2), (3, 3), (4, 4), (4, 5), (4, 6), (4, 7), (4, 8), (13, 0), (14, 0), (15, 0), (16, 0), (17, 0)], [], [])
def I_X11_valley : List (Nat × Instr × Nat) := [(0, .aload_n 0, 1), (1, .getfield 44, 3), (4, .invokevirtual 98, 3), (7, .ifCond .ne 14, 3), (10, .bipush (-2), 2), (12, .aload_n 0, 1), (13, .getfield 10, 3), (16, .getfield 102, 3), (19, .isub, 1), (20, .ireturn, 1), (21, .aload_n 0, 1), (22, .getfield 19, 3), (25, .getfield 105, 3), (28, .aload_n 0, 1), (29, .getfield 44, 3), (32, .getfield 109, 3), (35, .invokevirtual 110, 3), (38, .aload_n 0, 1), (39, .getfield 19, 3), (42, .getfield 116, 3), (45, .aload_n 0, 1), (46, .getfield 19, 3), (49, .getfield 105, 3), (52, .invokevirtual 120, 3), (55, .aload_n 0, 1), (56, .getfield 19, 3), (59, .iconst 0, 1), (60, .putfield 123, 3), (63, .aload_n 0, 1), (64, .iconst 0, 1), (65, .putfield 126, 3), (68, .aload_n 0, 1), (69, .getfield 10, 3), (72, .iconst 0, 1), (73, .putfield 90, 3), (76, .aload_n 0, 1), (77, .getfield 19, 3), (80, .getfield 105, 3), (83, .getfield 129, 3), (86, .ireturn, 1)]
theorem dec_X11_valley : ∀ q ∈ I_X11_valley, decode cX11_valley q.1 = .ok q.2 := by decide +kernel
def M_X11_valley : kM := (I_X11_valley, gFL11, gCI11, gCJ11, [(4, K_X9_read), (35, K_X8_copyFrom), (52, K_X6_startOf)], K_X11_valley, 1, 1, [], [])
theorem chk_X11_valley : k_check gTT gGS M_X11_valley 4000 = true := by decide +kernel

def K_X11_force : kCtr := ([.inr (.inr (.inl (false, [0]))), kA], [], [(some (kA), [], [])], [(2, 6)], [], [])
def I_X11_force : List (Nat × Instr × Nat) := [(0, .iload_n 1, 1), (1, .iconst (-1), 1), (2, .if_icmp .lt 11, 3), (5, .iload_n 1, 1), (6, .aload_n 0, 1), (7, .getfield 132, 3), (10, .if_icmp .lt 6, 3), (13, .bipush (-2), 2), (15, .ireturn, 1), (16, .aload_n 0, 1), (17, .getfield 19, 3), (20, .getfield 140, 3), (23, .istore_n 2, 1), (24, .aload_n 0, 1), (25, .getfield 19, 3), (28, .iload_n 1, 1), (29, .putfield 140, 3), (32, .iload_n 2, 1), (33, .ireturn, 1)]
theorem dec_X11_force : ∀ q ∈ I_X11_force, decode cX11_force q.1 = .ok q.2 := by decide +kernel
def M_X11_force : kM := (I_X11_force, gFL11, gCI11, gCJ11, [], K_X11_force, 1, 3, [], [])
theorem chk_X11_force : k_check gTT gGS M_X11_force 4000 = true := by decide +kernel

def K_X11_house : kCtr := ([.inr (.inr (.inl (false, [0]))), kA, kA], [], [(some (kA), [], [])], [], [], [])
def I_X11_house : List (Nat × Instr × Nat) := [(0, .aload_n 0, 1), (1, .iload_n 1, 1), (2, .invokevirtual 143, 3), (5, .ifCond .ne 5, 3), (8, .iconst (-1), 1), (9, .ireturn, 1), (10, .iload_n 2, 1), (11, .tableswitch 98 0 4 #[33, 46, 59, 72, 85], 33), (44, .aload_n 0, 1), (45, .getfield 19, 3), (48, .getfield 116, 3), (51, .getfield 147, 3), (54, .iload_n 1, 1), (55, .iaload, 1), (56, .ireturn, 1), (57, .aload_n 0, 1), (58, .getfield 19, 3), (61, .getfield 116, 3), (64, .getfield 151, 3), (67, .iload_n 1, 1), (68, .iaload, 1), (69, .ireturn, 1), (70, .aload_n 0, 1), (71, .getfield 19, 3), (74, .getfield 116, 3), (77, .getfield 154, 3), (80, .iload_n 1, 1), (81, .iaload, 1), (82, .ireturn, 1), (83, .aload_n 0, 1), (84, .getfield 19, 3), (87, .getfield 105, 3), (90, .getfield 157, 3), (93, .iload_n 1, 1), (94, .iaload, 1), (95, .ireturn, 1), (96, .aload_n 0, 1), (97, .getfield 19, 3), (100, .getfield 116, 3), (103, .getfield 160, 3), (106, .iload_n 1, 1), (107, .iaload, 1), (108, .ireturn, 1), (109, .iconst (-1), 1), (110, .ireturn, 1)]
theorem dec_X11_house : ∀ q ∈ I_X11_house, decode cX11_house q.1 = .ok q.2 := by decide +kernel
def M_X11_house : kM := (I_X11_house, gFL11, gCI11, gCJ11, [(2, K_X11_isHouse)], K_X11_house, 1, 3, [], [])
theorem chk_X11_house : k_check gTT gGS M_X11_house 4000 = true := by decide +kernel

def K_X11_far : kCtr := ([.inr (.inr (.inl (false, [0]))), kA, kA], [], [(some (kA), [], [])], [], [], [])
def I_X11_far : List (Nat × Instr × Nat) := [(0, .aload_n 0, 1), (1, .iload_n 1, 1), (2, .invokevirtual 163, 3), (5, .ifCond .eq 11, 3), (8, .aload_n 0, 1), (9, .iload_n 2, 1), (10, .invokevirtual 163, 3), (13, .ifCond .ne 5, 3), (16, .iconst (-1), 1), (17, .ireturn, 1), (18, .aload_n 0, 1), (19, .getfield 19, 3), (22, .getfield 105, 3), (25, .getfield 166, 3), (28, .iload_n 1, 1), (29, .bipush 7, 2), (31, .imul, 1), (32, .iload_n 2, 1), (33, .iadd, 1), (34, .iaload, 1), (35, .ireturn, 1)]
theorem dec_X11_far : ∀ q ∈ I_X11_far, decode cX11_far q.1 = .ok q.2 := by decide +kernel
def M_X11_far : kM := (I_X11_far, gFL11, gCI11, gCJ11, [(2, K_X11_isPlace), (10, K_X11_isPlace)], K_X11_far, 1, 3, [], [])
theorem chk_X11_far : k_check gTT gGS M_X11_far 4000 = true := by decide +kernel

def K_X11_hour : kCtr := ([.inr (.inr (.inl (false, [0])))], [], [(some (kA), [], [])], [(0, 6), (0, 7), (4, 4), (4, 5), (4, 6), (4, 7), (4, 8), (7, 5), (7, 6), (7, 7), (7, 8), (7, 9), (7, 10), (16, 0), (25, 0)], [], [])
def I_X11_hour : List (Nat × Instr × Nat) := [(0, .aload_n 0, 1), (1, .getfield 19, 3), (4, .getfield 105, 3), (7, .getfield 169, 3), (10, .ifCond .eq 19, 3), (13, .aload_n 0, 1), (14, .getfield 19, 3), (17, .getfield 116, 3), (20, .getfield 173, 3), (23, .sipush 999, 3), (26, .if_icmp .lt 5, 3), (29, .iconst (-1), 1), (30, .ireturn, 1), (31, .aload_n 0, 1), (32, .invokevirtual 176, 3), (35, .aload_n 0, 1), (36, .getfield 60, 3), (39, .invokevirtual 179, 3), (42, .aload_n 0, 1), (43, .getfield 60, 3), (46, .invokevirtual 182, 3), (49, .istore_n 1, 1), (50, .aload_n 0, 1), (51, .getfield 19, 3), (54, .getfield 116, 3), (57, .aload_n 0, 1), (58, .getfield 60, 3), (61, .getfield 186, 3), (64, .invokevirtual 187, 3), (67, .iload_n 1, 1), (68, .ireturn, 1)]
theorem dec_X11_hour : ∀ q ∈ I_X11_hour, decode cX11_hour q.1 = .ok q.2 := by decide +kernel
def M_X11_hour : kM := (I_X11_hour, gFL11, gCI11, gCJ11, [(32, K_X11_keepAct), (39, K_X1_beginNow), (46, K_X1_goOneHour), (64, K_X6_copyFrom)], K_X11_hour, 1, 2, [], [])
theorem chk_X11_hour : k_check gTT gGS M_X11_hour 4000 = true := by decide +kernel

def K_X11_light : kCtr := ([.inr (.inr (.inl (false, [0]))), kA], [], [(some (kA), [], [])], [(0, 6), (0, 7), (4, 4), (4, 5), (4, 6), (4, 7), (4, 8), (16, 0)], [], [])
def I_X11_light : List (Nat × Instr × Nat) := [(0, .aload_n 0, 1), (1, .iload_n 1, 1), (2, .invokevirtual 143, 3), (5, .ifCond .eq 17, 3), (8, .aload_n 0, 1), (9, .getfield 19, 3), (12, .getfield 116, 3), (15, .iload_n 1, 1), (16, .invokevirtual 190, 3), (19, .ifCond .ne 5, 3), (22, .iconst (-1), 1), (23, .ireturn, 1), (24, .aload_n 0, 1), (25, .invokevirtual 176, 3), (28, .aload_n 0, 1), (29, .getfield 19, 3), (32, .getfield 116, 3), (35, .getfield 151, 3), (38, .iload_n 1, 1), (39, .iconst 1, 1), (40, .iastore, 1), (41, .aload_n 0, 1), (42, .getfield 19, 3), (45, .getfield 116, 3), (48, .getfield 147, 3), (51, .iload_n 1, 1), (52, .iaload, 1), (53, .ireturn, 1)]
theorem dec_X11_light : ∀ q ∈ I_X11_light, decode cX11_light q.1 = .ok q.2 := by decide +kernel
def M_X11_light : kM := (I_X11_light, gFL11, gCI11, gCJ11, [(2, K_X11_isHouse), (16, K_X6_canCatch), (25, K_X11_keepAct)], K_X11_light, 1, 2, [], [])
theorem chk_X11_light : k_check gTT gGS M_X11_light 4000 = true := by decide +kernel

def K_X11_douse : kCtr := ([.inr (.inr (.inl (false, [0]))), kA], [], [(some (kA), [], [])], [(0, 6), (0, 7), (4, 4), (4, 5), (4, 6), (4, 7), (4, 8), (16, 0)], [], [])
def I_X11_douse : List (Nat × Instr × Nat) := [(0, .aload_n 0, 1), (1, .iload_n 1, 1), (2, .invokevirtual 143, 3), (5, .ifCond .eq 18, 3), (8, .aload_n 0, 1), (9, .getfield 19, 3), (12, .getfield 116, 3), (15, .getfield 151, 3), (18, .iload_n 1, 1), (19, .iaload, 1), (20, .ifCond .ne 5, 3), (23, .iconst (-1), 1), (24, .ireturn, 1), (25, .aload_n 0, 1), (26, .invokevirtual 176, 3), (29, .aload_n 0, 1), (30, .getfield 19, 3), (33, .getfield 116, 3), (36, .getfield 151, 3), (39, .iload_n 1, 1), (40, .iaload, 1), (41, .istore_n 2, 1), (42, .aload_n 0, 1), (43, .getfield 19, 3), (46, .getfield 116, 3), (49, .getfield 151, 3), (52, .iload_n 1, 1), (53, .iconst 0, 1), (54, .iastore, 1), (55, .iload_n 2, 1), (56, .ireturn, 1)]
theorem dec_X11_douse : ∀ q ∈ I_X11_douse, decode cX11_douse q.1 = .ok q.2 := by decide +kernel
def M_X11_douse : kM := (I_X11_douse, gFL11, gCI11, gCJ11, [(2, K_X11_isHouse), (26, K_X11_keepAct)], K_X11_douse, 1, 3, [], [])
theorem chk_X11_douse : k_check gTT gGS M_X11_douse 4000 = true := by decide +kernel

def K_X11_say : kCtr := ([.inr (.inr (.inl (false, [0]))), kA, kA], [], [(some (kA), [], [])], [(0, 6), (0, 7), (4, 4), (4, 5), (4, 6), (4, 7), (4, 8), (16, 0)], [], [])
def I_X11_say : List (Nat × Instr × Nat) := [(0, .aload_n 0, 1), (1, .iload_n 1, 1), (2, .invokevirtual 143, 3), (5, .ifCond .eq 29, 3), (8, .iload_n 2, 1), (9, .ifCond .lt 25, 3), (12, .iload_n 2, 1), (13, .bipush 20, 2), (15, .if_icmp .gt 19, 3), (18, .iload_n 2, 1), (19, .aload_n 0, 1), (20, .getfield 19, 3), (23, .getfield 116, 3), (26, .getfield 154, 3), (29, .iload_n 1, 1), (30, .iaload, 1), (31, .if_icmp .ne 5, 3), (34, .iconst (-1), 1), (35, .ireturn, 1), (36, .aload_n 0, 1), (37, .invokevirtual 176, 3), (40, .aload_n 0, 1), (41, .getfield 19, 3), (44, .getfield 116, 3), (47, .getfield 154, 3), (50, .iload_n 1, 1), (51, .iaload, 1), (52, .istore_n 3, 1), (53, .aload_n 0, 1), (54, .getfield 19, 3), (57, .getfield 116, 3), (60, .getfield 154, 3), (63, .iload_n 1, 1), (64, .iload_n 2, 1), (65, .iastore, 1), (66, .iload_n 3, 1), (67, .ireturn, 1)]
theorem dec_X11_say : ∀ q ∈ I_X11_say, decode cX11_say q.1 = .ok q.2 := by decide +kernel
def M_X11_say : kM := (I_X11_say, gFL11, gCI11, gCJ11, [(2, K_X11_isHouse), (37, K_X11_keepAct)], K_X11_say, 1, 4, [], [])
theorem chk_X11_say : k_check gTT gGS M_X11_say 4000 = true := by decide +kernel

def K_X11_send : kCtr := ([.inr (.inr (.inl (false, [0]))), kA], [], [(some (kA), [], [])], [(0, 6), (0, 7), (4, 4), (4, 5), (4, 6), (4, 7), (4, 8), (16, 0)], [], [])
def I_X11_send : List (Nat × Instr × Nat) := [(0, .aload_n 0, 1), (1, .iload_n 1, 1), (2, .invokevirtual 143, 3), (5, .ifCond .eq 17, 3), (8, .aload_n 0, 1), (9, .getfield 19, 3), (12, .getfield 116, 3), (15, .getfield 193, 3), (18, .iconst (-1), 1), (19, .if_icmp .eq 5, 3), (22, .iconst (-1), 1), (23, .ireturn, 1), (24, .aload_n 0, 1), (25, .aload_n 0, 1), (26, .getfield 19, 3), (29, .getfield 116, 3), (32, .getfield 196, 3), (35, .iload_n 1, 1), (36, .iconst 1, 1), (37, .iadd, 1), (38, .invokevirtual 199, 3), (41, .istore_n 2, 1), (42, .iload_n 2, 1), (43, .ifCond .gt 5, 3), (46, .iconst (-1), 1), (47, .ireturn, 1), (48, .aload_n 0, 1), (49, .invokevirtual 176, 3), (52, .aload_n 0, 1), (53, .getfield 19, 3), (56, .getfield 116, 3), (59, .iload_n 1, 1), (60, .iconst 1, 1), (61, .iadd, 1), (62, .iload_n 2, 1), (63, .invokevirtual 203, 3), (66, .iload_n 2, 1), (67, .ireturn, 1)]
theorem dec_X11_send : ∀ q ∈ I_X11_send, decode cX11_send q.1 = .ok q.2 := by decide +kernel
def M_X11_send : kM := (I_X11_send, gFL11, gCI11, gCJ11, [(2, K_X11_isHouse), (38, K_X11_far), (49, K_X11_keepAct), (63, K_X6_setOut)], K_X11_send, 1, 3, [], [])
theorem chk_X11_send : k_check gTT gGS M_X11_send 4000 = true := by decide +kernel

def K_X11_undo : kCtr := ([.inr (.inr (.inl (false, [0])))], [], [(some (kA), [], [])], [(0, 6), (0, 7), (4, 4), (4, 5), (4, 6), (4, 7), (4, 8), (16, 0)], [], [])
def I_X11_undo : List (Nat × Instr × Nat) := [(0, .aload_n 0, 1), (1, .getfield 126, 3), (4, .ifCond .ne 5, 3), (7, .iconst (-1), 1), (8, .ireturn, 1), (9, .aload_n 0, 1), (10, .aload_n 0, 1), (11, .getfield 207, 3), (14, .ifCond .ne 8, 3), (17, .bipush 19, 2), (19, .goto 9, 3), (22, .aload_n 0, 1), (23, .getfield 207, 3), (26, .iconst 1, 1), (27, .isub, 1), (28, .putfield 207, 3), (31, .aload_n 0, 1), (32, .dup, 1), (33, .getfield 126, 3), (36, .iconst 1, 1), (37, .isub, 1), (38, .putfield 126, 3), (41, .aload_n 0, 1), (42, .getfield 19, 3), (45, .getfield 116, 3), (48, .aload_n 0, 1), (49, .getfield 35, 3), (52, .aload_n 0, 1), (53, .getfield 207, 3), (56, .aaload, 1), (57, .invokevirtual 187, 3), (60, .aload_n 0, 1), (61, .getfield 126, 3), (64, .ireturn, 1)]
theorem dec_X11_undo : ∀ q ∈ I_X11_undo, decode cX11_undo q.1 = .ok q.2 := by decide +kernel
def M_X11_undo : kM := (I_X11_undo, gFL11, gCI11, gCJ11, [(57, K_X6_copyFrom)], K_X11_undo, 1, 1, [], [])
theorem chk_X11_undo : k_check gTT gGS M_X11_undo 4000 = true := by decide +kernel

def K_X11_ahead : kCtr := ([.inr (.inr (.inl (false, [0]))), kA, kA, kA], [], [(some (kA), [], [])], [(4, 4), (4, 5), (4, 6), (4, 7), (4, 8), (7, 5), (7, 6), (7, 7), (7, 8), (7, 9), (7, 10), (16, 0), (25, 0)], [], [])
def I_X11_ahead : List (Nat × Instr × Nat) := [(0, .aload_n 0, 1), (1, .iload_n 2, 1), (2, .iconst 0, 1), (3, .bipush 100, 2), (5, .invokevirtual 210, 3), (8, .ifCond .eq 25, 3), (11, .iload_n 3, 1), (12, .ifCond .lt 21, 3), (15, .iload_n 3, 1), (16, .iconst 2, 1), (17, .if_icmp .gt 16, 3), (20, .iload_n 3, 1), (21, .iconst 2, 1), (22, .if_icmp .eq 13, 3), (25, .aload_n 0, 1), (26, .iload_n 1, 1), (27, .invokevirtual 143, 3), (30, .ifCond .ne 5, 3), (33, .iconst (-1), 1), (34, .ireturn, 1), (35, .aload_n 0, 1), (36, .getfield 60, 3), (39, .invokevirtual 179, 3), (42, .aload_n 0, 1), (43, .getfield 60, 3), (46, .iload_n 2, 1), (47, .invokevirtual 214, 3), (50, .iload_n 3, 1), (51, .iconst 2, 1), (52, .if_icmp .ne 14, 3), (55, .aload_n 0, 1), (56, .getfield 60, 3), (59, .getfield 186, 3), (62, .getfield 196, 3), (65, .ireturn, 1), (66, .iload_n 3, 1), (67, .ifCond .ne 18, 3), (70, .aload_n 0, 1), (71, .getfield 60, 3), (74, .getfield 186, 3), (77, .getfield 151, 3), (80, .iload_n 1, 1), (81, .iaload, 1), (82, .goto 15, 3), (85, .aload_n 0, 1), (86, .getfield 60, 3), (89, .getfield 186, 3), (92, .getfield 147, 3), (95, .iload_n 1, 1), (96, .iaload, 1), (97, .ireturn, 1)]
theorem dec_X11_ahead : ∀ q ∈ I_X11_ahead, decode cX11_ahead q.1 = .ok q.2 := by decide +kernel
def M_X11_ahead : kM := (I_X11_ahead, gFL11, gCI11, gCJ11, [(5, K_X11_isAsked), (27, K_X11_isHouse), (39, K_X1_beginNow), (47, K_X1_goHours)], K_X11_ahead, 1, 4, [], [])
theorem chk_X11_ahead : k_check gTT gGS M_X11_ahead 4000 = true := by decide +kernel

def K_X11_left : kCtr := ([.inr (.inr (.inl (false, [0]))), kA], [], [(some (kA), [], [])], [(4, 4), (4, 5), (4, 6), (4, 7), (4, 8), (7, 5), (7, 6), (7, 7), (7, 8), (7, 9), (7, 10), (16, 0), (25, 0)], [], [])
def I_X11_left : List (Nat × Instr × Nat) := [(0, .aload_n 0, 1), (1, .iload_n 1, 1), (2, .iconst 0, 1), (3, .bipush 100, 2), (5, .invokevirtual 210, 3), (8, .ifCond .ne 5, 3), (11, .iconst (-1), 1), (12, .ireturn, 1), (13, .aload_n 0, 1), (14, .getfield 60, 3), (17, .invokevirtual 179, 3), (20, .aload_n 0, 1), (21, .getfield 60, 3), (24, .iload_n 1, 1), (25, .invokevirtual 217, 3), (28, .ireturn, 1)]
theorem dec_X11_left : ∀ q ∈ I_X11_left, decode cX11_left q.1 = .ok q.2 := by decide +kernel
def M_X11_left : kM := (I_X11_left, gFL11, gCI11, gCJ11, [(5, K_X11_isAsked), (17, K_X1_beginNow), (25, K_X1_worthAfter)], K_X11_left, 1, 2, [], [])
theorem chk_X11_left : k_check gTT gGS M_X11_left 4000 = true := by decide +kernel

def K_X11_out : kCtr := ([.inr (.inr (.inl (false, [0])))], [], [(some (kA), [], [])], [(4, 4), (4, 5), (4, 6), (4, 7), (4, 8), (7, 5), (7, 6), (7, 7), (7, 8), (7, 9), (7, 10), (16, 0), (25, 0)], [], [])
def I_X11_out : List (Nat × Instr × Nat) := [(0, .aload_n 0, 1), (1, .getfield 19, 3), (4, .getfield 105, 3), (7, .getfield 169, 3), (10, .ifCond .eq 13, 3), (13, .aload_n 0, 1), (14, .getfield 69, 3), (17, .invokevirtual 221, 3), (20, .goto 4, 3), (23, .iconst (-1), 1), (24, .ireturn, 1)]
theorem dec_X11_out : ∀ q ∈ I_X11_out, decode cX11_out q.1 = .ok q.2 := by decide +kernel
def M_X11_out : kM := (I_X11_out, gFL11, gCI11, gCJ11, [(17, K_X0_hourOut)], K_X11_out, 1, 1, [], [])
theorem chk_X11_out : k_check gTT gGS M_X11_out 4000 = true := by decide +kernel

def K_X11_canBurn : kCtr := ([.inr (.inr (.inl (false, [0])))], [], [(some (kA), [], [])], [], [], [])
def I_X11_canBurn : List (Nat × Instr × Nat) := [(0, .aload_n 0, 1), (1, .getfield 19, 3), (4, .getfield 105, 3), (7, .getfield 169, 3), (10, .ifCond .eq 13, 3), (13, .aload_n 0, 1), (14, .getfield 69, 3), (17, .invokevirtual 224, 3), (20, .goto 4, 3), (23, .iconst (-1), 1), (24, .ireturn, 1)]
theorem dec_X11_canBurn : ∀ q ∈ I_X11_canBurn, decode cX11_canBurn q.1 = .ok q.2 := by decide +kernel
def M_X11_canBurn : kM := (I_X11_canBurn, gFL11, gCI11, gCJ11, [(17, K_X0_housesThatCanBurn)], K_X11_canBurn, 1, 1, [], [])
theorem chk_X11_canBurn : k_check gTT gGS M_X11_canBurn 4000 = true := by decide +kernel

def K_X11_order : kCtr := ([.inr (.inr (.inl (false, [0]))), kA, kA], [], [(some (kA), [], [])], [(4, 4), (4, 5), (4, 6), (4, 7), (4, 8), (7, 5), (7, 9), (7, 10), (9, 4), (9, 5), (9, 6), (16, 0)], [], [])
def I_X11_order : List (Nat × Instr × Nat) := [(0, .aload_n 0, 1), (1, .iload_n 1, 1), (2, .iconst 1, 1), (3, .bipush 60, 2), (5, .invokevirtual 210, 3), (8, .ifCond .eq 14, 3), (11, .iload_n 2, 1), (12, .iconst (-1), 1), (13, .if_icmp .lt 9, 3), (16, .iload_n 2, 1), (17, .bipush 6, 2), (19, .if_icmp .lt 6, 3), (22, .bipush (-3), 2), (24, .ireturn, 1), (25, .aload_n 0, 1), (26, .getfield 78, 3), (29, .iload_n 1, 1), (30, .invokevirtual 227, 3), (33, .iload_n 2, 1), (34, .iconst (-1), 1), (35, .if_icmp .ne 11, 3), (38, .aload_n 0, 1), (39, .getfield 78, 3), (42, .getfield 230, 3), (45, .ireturn, 1), (46, .iload_n 2, 1), (47, .aload_n 0, 1), (48, .getfield 78, 3), (51, .getfield 233, 3), (54, .if_icmp .ge 15, 3), (57, .aload_n 0, 1), (58, .getfield 78, 3), (61, .getfield 236, 3), (64, .iload_n 2, 1), (65, .iaload, 1), (66, .goto 5, 3), (69, .bipush (-2), 2), (71, .ireturn, 1)]
theorem dec_X11_order : ∀ q ∈ I_X11_order, decode cX11_order q.1 = .ok q.2 := by decide +kernel
def M_X11_order : kM := (I_X11_order, gFL11, gCI11, gCJ11, [(5, K_X11_isAsked), (30, K_X3_findBest)], K_X11_order, 1, 3, [], [])
theorem chk_X11_order : k_check gTT gGS M_X11_order 4000 = true := by decide +kernel

def K_X11_heard : kCtr := ([.inr (.inr (.inl (false, [0]))), kA], [], [(some (kA), [], [])], [(4, 4), (4, 5), (4, 6), (4, 7), (4, 8), (7, 5), (7, 6), (7, 7), (7, 8), (7, 9), (7, 10), (16, 0), (25, 0)], [], [])
def I_X11_heard : List (Nat × Instr × Nat) := [(0, .aload_n 0, 1), (1, .iload_n 1, 1), (2, .invokevirtual 143, 3), (5, .ifCond .eq 14, 3), (8, .aload_n 0, 1), (9, .getfield 69, 3), (12, .iload_n 1, 1), (13, .invokevirtual 239, 3), (16, .goto 4, 3), (19, .iconst (-1), 1), (20, .ireturn, 1)]
theorem dec_X11_heard : ∀ q ∈ I_X11_heard, decode cX11_heard q.1 = .ok q.2 := by decide +kernel
def M_X11_heard : kM := (I_X11_heard, gFL11, gCI11, gCJ11, [(2, K_X11_isHouse), (13, K_X0_leastHeard)], K_X11_heard, 1, 2, [], [])
theorem chk_X11_heard : k_check gTT gGS M_X11_heard 4000 = true := by decide +kernel

def K_X11_water : kCtr := ([.inr (.inr (.inl (false, [0]))), kA], [], [(some (kA), [], [])], [(4, 4), (4, 5), (4, 6), (4, 7), (4, 8), (7, 5), (7, 6), (7, 7), (7, 8), (7, 9), (7, 10), (16, 0), (25, 0)], [], [])
def I_X11_water : List (Nat × Instr × Nat) := [(0, .aload_n 0, 1), (1, .iload_n 1, 1), (2, .iconst 1, 1), (3, .bipush 60, 2), (5, .invokevirtual 210, 3), (8, .ifCond .eq 14, 3), (11, .aload_n 0, 1), (12, .getfield 69, 3), (15, .iload_n 1, 1), (16, .invokevirtual 242, 3), (19, .goto 4, 3), (22, .iconst (-1), 1), (23, .ireturn, 1)]
theorem dec_X11_water : ∀ q ∈ I_X11_water, decode cX11_water q.1 = .ok q.2 := by decide +kernel
def M_X11_water : kM := (I_X11_water, gFL11, gCI11, gCJ11, [(5, K_X11_isAsked), (16, K_X0_leastWater)], K_X11_water, 1, 2, [], [])
theorem chk_X11_water : k_check gTT gGS M_X11_water 4000 = true := by decide +kernel

def K_X11_clear : kCtr := ([.inr (.inr (.inl (false, [0]))), kA, kA], [], [(some (kA), [], [])], [(4, 4), (4, 5), (4, 6), (4, 7), (4, 8), (7, 5), (7, 6), (7, 7), (7, 8), (7, 9), (7, 10), (16, 0), (25, 0), (27, 0)], [], [])
def I_X11_clear : List (Nat × Instr × Nat) := [(0, .aload_n 0, 1), (1, .iload_n 1, 1), (2, .iconst 1, 1), (3, .bipush 60, 2), (5, .invokevirtual 210, 3), (8, .ifCond .eq 12, 3), (11, .iload_n 2, 1), (12, .ifCond .lt 8, 3), (15, .iload_n 2, 1), (16, .iconst 1, 1), (17, .if_icmp .le 6, 3), (20, .bipush (-2), 2), (22, .ireturn, 1), (23, .aload_n 0, 1), (24, .getfield 69, 3), (27, .iload_n 1, 1), (28, .invokevirtual 245, 3), (31, .aload_n 0, 1), (32, .getfield 69, 3), (35, .getfield 248, 3), (38, .iload_n 2, 1), (39, .iaload, 1), (40, .ireturn, 1)]
theorem dec_X11_clear : ∀ q ∈ I_X11_clear, decode cX11_clear q.1 = .ok q.2 := by decide +kernel
def M_X11_clear : kM := (I_X11_clear, gFL11, gCI11, gCJ11, [(5, K_X11_isAsked), (28, K_X0_findCleared)], K_X11_clear, 1, 3, [], [])
theorem chk_X11_clear : k_check gTT gGS M_X11_clear 4000 = true := by decide +kernel

def K_X11_silent : kCtr := ([.inr (.inr (.inl (false, [0]))), kA, kA], [], [(some (kA), [], [])], [(4, 4), (4, 5), (4, 6), (4, 7), (4, 8), (7, 5), (7, 6), (7, 7), (7, 8), (7, 9), (7, 10), (16, 0), (25, 0), (27, 0)], [], [])
def I_X11_silent : List (Nat × Instr × Nat) := [(0, .aload_n 0, 1), (1, .iload_n 1, 1), (2, .iconst 1, 1), (3, .bipush 60, 2), (5, .invokevirtual 210, 3), (8, .ifCond .eq 12, 3), (11, .iload_n 2, 1), (12, .ifCond .lt 8, 3), (15, .iload_n 2, 1), (16, .iconst 2, 1), (17, .if_icmp .le 5, 3), (20, .iconst (-1), 1), (21, .ireturn, 1), (22, .aload_n 0, 1), (23, .getfield 69, 3), (26, .iload_n 1, 1), (27, .invokevirtual 251, 3), (30, .aload_n 0, 1), (31, .getfield 69, 3), (34, .getfield 248, 3), (37, .iload_n 2, 1), (38, .iaload, 1), (39, .ireturn, 1)]
theorem dec_X11_silent : ∀ q ∈ I_X11_silent, decode cX11_silent q.1 = .ok q.2 := by decide +kernel
def M_X11_silent : kM := (I_X11_silent, gFL11, gCI11, gCJ11, [(5, K_X11_isAsked), (27, K_X0_findSilent)], K_X11_silent, 1, 3, [], [])
theorem chk_X11_silent : k_check gTT gGS M_X11_silent 4000 = true := by decide +kernel

def K_X11_pence : kCtr := ([.inr (.inr (.inl (false, [0]))), kA, kA], [], [(some (kA), [], [])], [], [], [])
def I_X11_pence : List (Nat × Instr × Nat) := [(0, .aload_n 0, 1), (1, .iload_n 2, 1), (2, .invokevirtual 143, 3), (5, .ifCond .eq 14, 3), (8, .iload_n 1, 1), (9, .ifCond .lt 10, 3), (12, .iload_n 1, 1), (13, .sipush 9999, 3), (16, .if_icmp .le 5, 3), (19, .iconst (-1), 1), (20, .ireturn, 1), (21, .aload_n 0, 1), (22, .getfield 69, 3), (25, .iload_n 1, 1), (26, .iload_n 2, 1), (27, .invokevirtual 254, 3), (30, .ireturn, 1)]
theorem dec_X11_pence : ∀ q ∈ I_X11_pence, decode cX11_pence q.1 = .ok q.2 := by decide +kernel
def M_X11_pence : kM := (I_X11_pence, gFL11, gCI11, gCJ11, [(2, K_X11_isHouse), (27, K_X0_penceOf)], K_X11_pence, 1, 3, [], [])
theorem chk_X11_pence : k_check gTT gGS M_X11_pence 4000 = true := by decide +kernel

def K_X11_rests : kCtr := ([.inr (.inr (.inl (false, [0]))), kA, kA, kA, kA], [], [(some (kA), [], [])], [(4, 4), (4, 5), (4, 6), (4, 7), (4, 8), (7, 5), (7, 6), (7, 7), (7, 8), (7, 9), (7, 10), (16, 0), (25, 0), (27, 0), (28, 0)], [], [])
def I_X11_rests : List (Nat × Instr × Nat) := [(0, .aload_n 0, 1), (1, .iload_n 1, 1), (2, .invokevirtual 143, 3), (5, .ifCond .eq 16, 3), (8, .aload_n 0, 1), (9, .iload_n 2, 1), (10, .invokevirtual 143, 3), (13, .ifCond .eq 8, 3), (16, .iload_n 1, 1), (17, .iload_n 2, 1), (18, .if_icmp .ne 5, 3), (21, .iconst (-1), 1), (22, .ireturn, 1), (23, .aload_n 0, 1), (24, .iload_n 3, 1), (25, .iconst 1, 1), (26, .bipush 20, 2), (28, .invokevirtual 210, 3), (31, .ifCond .eq 14, 3), (34, .iload 4, 2), (36, .ifCond .lt 9, 3), (39, .iload 4, 2), (41, .iconst 2, 1), (42, .if_icmp .le 5, 3), (45, .iconst (-1), 1), (46, .ireturn, 1), (47, .aload_n 0, 1), (48, .getfield 69, 3), (51, .iload_n 1, 1), (52, .iload_n 2, 1), (53, .iload_n 3, 1), (54, .invokevirtual 257, 3), (57, .aload_n 0, 1), (58, .getfield 69, 3), (61, .getfield 248, 3), (64, .iload 4, 2), (66, .iaload, 1), (67, .ireturn, 1)]
theorem dec_X11_rests : ∀ q ∈ I_X11_rests, decode cX11_rests q.1 = .ok q.2 := by decide +kernel
def M_X11_rests : kM := (I_X11_rests, gFL11, gCI11, gCJ11, [(2, K_X11_isHouse), (10, K_X11_isHouse), (28, K_X11_isAsked), (54, K_X0_findRests)], K_X11_rests, 1, 5, [], [])
theorem chk_X11_rests : k_check gTT gGS M_X11_rests 4000 = true := by decide +kernel

def K_X11_first : kCtr := ([.inr (.inr (.inl (false, [0]))), kA], [], [(some (kA), [], [])], [(4, 4), (4, 5), (4, 6), (4, 7), (4, 8), (7, 5), (7, 6), (7, 7), (7, 8), (7, 9), (7, 10), (16, 0), (25, 0), (27, 0)], [], [])
def I_X11_first : List (Nat × Instr × Nat) := [(0, .aload_n 0, 1), (1, .getfield 19, 3), (4, .getfield 105, 3), (7, .getfield 169, 3), (10, .ifCond .eq 12, 3), (13, .iload_n 1, 1), (14, .ifCond .lt 8, 3), (17, .iload_n 1, 1), (18, .iconst 1, 1), (19, .if_icmp .le 5, 3), (22, .iconst (-1), 1), (23, .ireturn, 1), (24, .aload_n 0, 1), (25, .getfield 69, 3), (28, .invokevirtual 261, 3), (31, .aload_n 0, 1), (32, .getfield 69, 3), (35, .getfield 248, 3), (38, .iload_n 1, 1), (39, .iaload, 1), (40, .ireturn, 1)]
theorem dec_X11_first : ∀ q ∈ I_X11_first, decode cX11_first q.1 = .ok q.2 := by decide +kernel
def M_X11_first : kM := (I_X11_first, gFL11, gCI11, gCJ11, [(28, K_X0_findFirst)], K_X11_first, 1, 2, [], [])
theorem chk_X11_first : k_check gTT gGS M_X11_first 4000 = true := by decide +kernel

def K_X11_note : kCtr := ([.inr (.inr (.inl (false, [0]))), kA, kA], [], [(some (kA), [], [])], [(2, 4), (18, 0), (19, 0)], [], [])
def I_X11_note : List (Nat × Instr × Nat) := [(0, .aload_n 0, 1), (1, .getfield 19, 3), (4, .getfield 105, 3), (7, .getfield 169, 3), (10, .ifCond .ne 6, 3), (13, .bipush (-2), 2), (15, .ireturn, 1), (16, .iload_n 1, 1), (17, .iconst (-1), 1), (18, .if_icmp .ne 13, 3), (21, .aload_n 0, 1), (22, .getfield 19, 3), (25, .iconst 0, 1), (26, .putfield 123, 3), (29, .iconst 0, 1), (30, .ireturn, 1), (31, .iload_n 1, 1), (32, .ifCond .lt 29, 3), (35, .iload_n 1, 1), (36, .bipush 60, 2), (38, .if_icmp .gt 23, 3), (41, .aload_n 0, 1), (42, .iload_n 2, 1), (43, .invokevirtual 163, 3), (46, .ifCond .eq 15, 3), (49, .aload_n 0, 1), (50, .getfield 19, 3), (53, .getfield 123, 3), (56, .bipush 10, 2), (58, .if_icmp .lt 6, 3), (61, .bipush (-2), 2), (63, .ireturn, 1), (64, .aload_n 0, 1), (65, .getfield 19, 3), (68, .getfield 264, 3), (71, .aload_n 0, 1), (72, .getfield 19, 3), (75, .getfield 123, 3), (78, .iload_n 1, 1), (79, .iastore, 1), (80, .aload_n 0, 1), (81, .getfield 19, 3), (84, .getfield 267, 3), (87, .aload_n 0, 1), (88, .getfield 19, 3), (91, .getfield 123, 3), (94, .iload_n 2, 1), (95, .iastore, 1), (96, .aload_n 0, 1), (97, .getfield 19, 3), (100, .dup, 1), (101, .getfield 123, 3), (104, .iconst 1, 1), (105, .iadd, 1), (106, .putfield 123, 3), (109, .aload_n 0, 1), (110, .getfield 19, 3), (113, .getfield 123, 3), (116, .ireturn, 1)]
theorem dec_X11_note : ∀ q ∈ I_X11_note, decode cX11_note q.1 = .ok q.2 := by decide +kernel
def M_X11_note : kM := (I_X11_note, gFL11, gCI11, gCJ11, [(43, K_X11_isPlace)], K_X11_note, 1, 3, [], [])
theorem chk_X11_note : k_check gTT gGS M_X11_note 4000 = true := by decide +kernel

def K_X11_ruled : kCtr := ([.inr (.inr (.inl (false, [0]))), kA], [], [(some (kA), [], [])], [(4, 4), (4, 5), (4, 6), (4, 7), (4, 8), (7, 5), (7, 6), (7, 7), (7, 8), (7, 9), (7, 10), (10, 4), (10, 5), (10, 6), (10, 7), (16, 0), (25, 0), (29, 0)], [], [])
def I_X11_ruled : List (Nat × Instr × Nat) := [(0, .aload_n 0, 1), (1, .getfield 19, 3), (4, .getfield 105, 3), (7, .getfield 169, 3), (10, .ifCond .eq 12, 3), (13, .iload_n 1, 1), (14, .ifCond .lt 8, 3), (17, .iload_n 1, 1), (18, .iconst 1, 1), (19, .if_icmp .le 6, 3), (22, .bipush (-3), 2), (24, .ireturn, 1), (25, .aload_n 0, 1), (26, .getfield 85, 3), (29, .aload_n 0, 1), (30, .getfield 132, 3), (33, .invokevirtual 270, 3), (36, .iload_n 1, 1), (37, .ifCond .ne 13, 3), (40, .aload_n 0, 1), (41, .getfield 85, 3), (44, .getfield 273, 3), (47, .goto 10, 3), (50, .aload_n 0, 1), (51, .getfield 85, 3), (54, .getfield 276, 3), (57, .ireturn, 1)]
theorem dec_X11_ruled : ∀ q ∈ I_X11_ruled, decode cX11_ruled q.1 = .ok q.2 := by decide +kernel
def M_X11_ruled : kM := (I_X11_ruled, gFL11, gCI11, gCJ11, [(33, K_X2_findRuled)], K_X11_ruled, 1, 2, [], [])
theorem chk_X11_ruled : k_check gTT gGS M_X11_ruled 4000 = true := by decide +kernel

def K_X11_look : kCtr := ([.inr (.inr (.inl (false, [0]))), kA], [], [(some (kA), [], [])], [(4, 4), (4, 5), (4, 6), (4, 7), (4, 8), (7, 5), (7, 6), (7, 7), (7, 8), (7, 9), (7, 10), (10, 4), (10, 5), (10, 6), (10, 7), (10, 8), (10, 9), (16, 0), (25, 0), (29, 0), (30, 0)], [], [])
def I_X11_look : List (Nat × Instr × Nat) := [(0, .aload_n 0, 1), (1, .getfield 19, 3), (4, .getfield 105, 3), (7, .getfield 169, 3), (10, .ifCond .eq 12, 3), (13, .iload_n 1, 1), (14, .ifCond .lt 8, 3), (17, .iload_n 1, 1), (18, .iconst 1, 1), (19, .if_icmp .le 5, 3), (22, .iconst (-1), 1), (23, .ireturn, 1), (24, .aload_n 0, 1), (25, .getfield 85, 3), (28, .aload_n 0, 1), (29, .getfield 132, 3), (32, .invokevirtual 270, 3), (35, .aload_n 0, 1), (36, .getfield 85, 3), (39, .getfield 273, 3), (42, .ifCond .ne 6, 3), (45, .bipush (-2), 2), (47, .ireturn, 1), (48, .aload_n 0, 1), (49, .getfield 85, 3), (52, .invokevirtual 279, 3), (55, .iload_n 1, 1), (56, .ifCond .ne 13, 3), (59, .aload_n 0, 1), (60, .getfield 85, 3), (63, .getfield 282, 3), (66, .goto 10, 3), (69, .aload_n 0, 1), (70, .getfield 85, 3), (73, .getfield 285, 3), (76, .ireturn, 1)]
theorem dec_X11_look : ∀ q ∈ I_X11_look, decode cX11_look q.1 = .ok q.2 := by decide +kernel
def M_X11_look : kM := (I_X11_look, gFL11, gCI11, gCJ11, [(32, K_X2_findRuled), (52, K_X2_findParting)], K_X11_look, 1, 2, [], [])
theorem chk_X11_look : k_check gTT gGS M_X11_look 4000 = true := by decide +kernel

def K_X11_seed : kCtr := ([.inr (.inr (.inl (false, [0]))), kA], [], [(some (kA), [], [])], [(2, 5)], [], [])
def I_X11_seed : List (Nat × Instr × Nat) := [(0, .iload_n 1, 1), (1, .ifCond .ge 5, 3), (4, .iconst (-1), 1), (5, .ireturn, 1), (6, .aload_n 0, 1), (7, .getfield 19, 3), (10, .getfield 288, 3), (13, .istore_n 2, 1), (14, .aload_n 0, 1), (15, .getfield 19, 3), (18, .iload_n 1, 1), (19, .putfield 288, 3), (22, .iload_n 2, 1), (23, .ireturn, 1)]
theorem dec_X11_seed : ∀ q ∈ I_X11_seed, decode cX11_seed q.1 = .ok q.2 := by decide +kernel
def M_X11_seed : kM := (I_X11_seed, gFL11, gCI11, gCJ11, [], K_X11_seed, 1, 3, [], [])
theorem chk_X11_seed : k_check gTT gGS M_X11_seed 4000 = true := by decide +kernel

def K_X11_sparks : kCtr := ([.inr (.inr (.inl (false, [0]))), kA, kA, kA, kA], [], [(some (kA), [], [])], [(4, 4), (4, 5), (4, 6), (4, 7), (4, 8), (7, 5), (7, 6), (7, 7), (7, 8), (7, 9), (7, 10), (16, 0), (25, 0), (27, 0)], [], [])
def I_X11_sparks : List (Nat × Instr × Nat) := [(0, .aload_n 0, 1), (1, .iload_n 2, 1), (2, .iconst 1, 1), (3, .bipush 60, 2), (5, .invokevirtual 210, 3), (8, .ifCond .eq 14, 3), (11, .iload_n 1, 1), (12, .iconst 1, 1), (13, .if_icmp .lt 9, 3), (16, .iload_n 1, 1), (17, .bipush 10, 2), (19, .if_icmp .le 5, 3), (22, .iconst (-1), 1), (23, .ireturn, 1), (24, .iload_n 3, 1), (25, .ifCond .lt 20, 3), (28, .iload_n 3, 1), (29, .bipush 100, 2), (31, .if_icmp .gt 14, 3), (34, .iload 4, 2), (36, .ifCond .lt 9, 3), (39, .iload 4, 2), (41, .iconst 1, 1), (42, .if_icmp .le 5, 3), (45, .iconst (-1), 1), (46, .ireturn, 1), (47, .aload_n 0, 1), (48, .getfield 69, 3), (51, .iload_n 1, 1), (52, .iload_n 2, 1), (53, .iload_n 3, 1), (54, .invokevirtual 291, 3), (57, .aload_n 0, 1), (58, .getfield 69, 3), (61, .getfield 248, 3), (64, .iload 4, 2), (66, .iaload, 1), (67, .ireturn, 1)]
theorem dec_X11_sparks : ∀ q ∈ I_X11_sparks, decode cX11_sparks q.1 = .ok q.2 := by decide +kernel
def M_X11_sparks : kM := (I_X11_sparks, gFL11, gCI11, gCJ11, [(5, K_X11_isAsked), (54, K_X0_findSparks)], K_X11_sparks, 1, 5, [], [])
theorem chk_X11_sparks : k_check gTT gGS M_X11_sparks 4000 = true := by decide +kernel

def K_X11_count : kCtr := ([.inr (.inr (.inl (false, [0]))), kA], [], [(some (kA), [], [])], [], [], [])
def I_X11_count : List (Nat × Instr × Nat) := [(0, .iload_n 1, 1), (1, .tableswitch 154 0 15 #[79, 90, 101, 112, 117, 154, 154, 154, 154, 154, 154, 154, 125, 133, 138, 146], 79), (80, .aload_n 0, 1), (81, .getfield 19, 3), (84, .getfield 105, 3), (87, .getfield 294, 3), (90, .ireturn, 1), (91, .aload_n 0, 1), (92, .getfield 19, 3), (95, .getfield 105, 3), (98, .getfield 297, 3), (101, .ireturn, 1), (102, .aload_n 0, 1), (103, .getfield 19, 3), (106, .getfield 105, 3), (109, .getfield 129, 3), (112, .ireturn, 1), (113, .aload_n 0, 1), (114, .getfield 132, 3), (117, .ireturn, 1), (118, .aload_n 0, 1), (119, .getfield 19, 3), (122, .getfield 140, 3), (125, .ireturn, 1), (126, .aload_n 0, 1), (127, .getfield 19, 3), (130, .getfield 123, 3), (133, .ireturn, 1), (134, .aload_n 0, 1), (135, .getfield 126, 3), (138, .ireturn, 1), (139, .aload_n 0, 1), (140, .getfield 19, 3), (143, .getfield 288, 3), (146, .ireturn, 1), (147, .aload_n 0, 1), (148, .getfield 10, 3), (151, .getfield 90, 3), (154, .ireturn, 1), (155, .aload_n 0, 1), (156, .getfield 19, 3), (159, .getfield 116, 3), (162, .iload_n 1, 1), (163, .invokevirtual 300, 3), (166, .ireturn, 1)]
theorem dec_X11_count : ∀ q ∈ I_X11_count, decode cX11_count q.1 = .ok q.2 := by decide +kernel
def M_X11_count : kM := (I_X11_count, gFL11, gCI11, gCJ11, [(163, K_X6_counted)], K_X11_count, 1, 2, [], [])
theorem chk_X11_count : k_check gTT gGS M_X11_count 4000 = true := by decide +kernel
end
section
/-! ===== calls of the JDK's own: Math.min between bounds, System.arraycopy of ints ===== -/
theorem k_mminB {X : kX} {E : kE} {nL : Nat} {τ : kTau} {cc : ByteArray} {own : String} {pc idx : Nat} {lo hi1 hi2 : Int} (hh : hi2 ≤ hi1) (hF : k_Fx X cc nL own) (hlink : (Jvm.Cond.methodLink own idx Lib.Math.min.name).before X.2.2.2.2.2.2.1 X.2.2.2.2.1 = true) (hstat : (Jvm.Cond.static Lib.Math.min.name).before X.2.2.2.2.2.2.1 X.2.2.2.2.1 = true) (hini : (Jvm.Cond.initialized "java/lang/Math").before X.2.2.2.2.2.2.1 X.2.2.2.2.1 = true) (hcode : (Jvm.Cond.code Lib.Math.min.name Lib.Math.min.code 2 (some .int)).before X.2.2.2.2.2.2.1 X.2.2.2.2.1 = true)
    (hfr : 1 ≤ X.2.2.2.1.frames) (hlo : 21 ≤ X.2.2.2.1.locals) (hdg : decode cc pc = .ok (.invokestatic idx, 3)) : k_call X E nL τ ([.inl (lo, hi1), .inl (lo, hi2)], [], [(some (.inl (lo, hi2)), [], [])], [], [], []) pc := by
  intro H locs ls as rest hH hpre hsum hls kk
  obtain ⟨h1, h2, -⟩ := hpre
  match as, h1 with
  | [a, b], _ =>
    obtain ⟨v, v1, x, v2, v3⟩ := h2 0 (.inl (lo, hi1)) rfl
    obtain ⟨w, w1, y, w2, w3⟩ := h2 1 (.inl (lo, hi2)) rfl
    have ea : a = .int x := by simpa [v2] using v1
    have eb : b = .int y := by simpa [w2] using w1
    subst ea; subst eb
    show kw X H locs pc ls (.int y :: .int x :: rest)
    refine va_mmin hF.1 hF.2.1 (by rw [hF.2.2.1]; exact hls.symm) hF.2.2.2 hlink hstat hini hcode hfr (by omega) (Nat.zero_le _) (Nat.zero_le _) hdg ?_
    have hin : k_in (lo, hi2) (if y < x then y else x).toInt := by
      by_cases c : y < x
      · rw [if_pos c]; exact w3
      · rw [if_neg c]
        have c' := Int32.le_iff_toInt_le.mp (Int32.not_lt.mp c)
        exact ⟨v3.1, Int.le_trans c' w3.2⟩
    have := kk H [] (some (.int (if y < x then y else x))) (k_post_same hH rfl ⟨_, List.mem_cons_self, ⟨_, rfl, _, rfl, hin⟩, fun _ h => (by cases h), fun _ h => (by cases h)⟩) (fun _ h => by cases h)
    rw [List.append_nil] at this
    exact this
def k_Kcp (t N : Nat) : kCtr := ([.inr (.inr (.inl (false, [t]))), .inl (0, 0), .inr (.inr (.inl (false, [t]))), .inl (0, 0), .inl (0, N)], [], [(none, [], [])], [(t, 0)], [], [])
theorem k_refOk {τ : kTau} {t : Nat} {v : Value} (h : k_ok τ (.inr (.inr (.inl (false, [t])))) v) : ∃ a, v = .ref a ∧ τ a = some t := by
  rcases h with ⟨h2, -⟩ | ⟨a, t2, h2, h3, h4⟩
  · cases h2
  · rw [List.mem_singleton.mp h3] at h4
    exact ⟨a, h2, h4⟩
theorem k_copyi {X : kX} {E : kE} {nL : Nat} {τ : kTau} {cc : ByteArray} {own : String} {pc idx t l0 l1 N : Nat} {q : kB} (hF : k_Fx X cc nL own) (hK : va_K E.1 E.2.1 E.2.2.1 X.2.2.2.2.1) (hT : k_tys E) (hlink : (Jvm.Cond.methodLink own idx arraycopyName).before X.2.2.2.2.2.2.1 X.2.2.2.2.1 = true) (hnat : (Jvm.Cond.native arraycopyName).before X.2.2.2.2.2.2.1 X.2.2.2.2.1 = true) (hstat : (Jvm.Cond.static arraycopyName).before X.2.2.2.2.2.2.1 X.2.2.2.2.1 = true) (hini : (Jvm.Cond.initialized "java/lang/System").before X.2.2.2.2.2.2.1 X.2.2.2.2.1 = true)
    (htt : E.2.2.2.1[t]? = some (.inr (0, l0, l1, [], .inl q))) (hN : N ≤ l0)
    (hfr : 1 ≤ X.2.2.2.1.frames) (hlo : 26 ≤ X.2.2.2.1.locals) (hdg : decode cc pc = .ok (.invokestatic idx, 3)) : k_call X E nL τ (k_Kcp t N) pc := by
  intro H locs ls as rest hH hpre hsum hls kk
  obtain ⟨h1, h2, -⟩ := hpre
  match as, h1 with
  | [v0, v1, v2, v3, v4], _ =>
    obtain ⟨w0, e0, o0⟩ := h2 0 _ rfl
    obtain ⟨w1, e1, x1, o1, b1⟩ := h2 1 _ rfl
    obtain ⟨w2, e2, o2⟩ := h2 2 _ rfl
    obtain ⟨w3, e3, x3, o3, b3⟩ := h2 3 _ rfl
    obtain ⟨w4, e4, x4, o4, b4⟩ := h2 4 _ rfl
    obtain ⟨a0, r0, t0⟩ := k_refOk o0
    obtain ⟨a, r2, t2⟩ := k_refOk o2
    have z0 : v0 = .ref a0 := by simpa [r0] using e0
    have z1 : v1 = .int x1 := by simpa [o1] using e1
    have z2 : v2 = .ref a := by simpa [r2] using e2
    have z3 : v3 = .int x3 := by simpa [o3] using e3
    have z4 : v4 = .int x4 := by simpa [o4] using e4
    subst z0; subst z1; subst z2; subst z3; subst z4
    have zz1 : x1.toInt = 0 := Int.le_antisymm b1.2 b1.1
    have zz3 : x3.toInt = 0 := Int.le_antisymm b3.2 b3.1
    have hx1 : x1 = 0 := Int32.toInt_inj.mp (by rw [zz1]; rfl)
    have hx3 : x3 = 0 := Int32.toInt_inj.mp (by rw [zz3]; rfl)
    subst hx1; subst hx3
    obtain ⟨cA, ty, n0, f, p1, p2, p3, p4, p5⟩ := k_arr hH t0 htt
    obtain ⟨cB, ty', n1, g, q1, q2, q3, q4, q5⟩ := k_arr hH t2 htt
    have := p1.symm.trans q1
    cases this
    have p3 : l0 ≤ n0 := p3
    have q3 : l0 ≤ n1 := q3
    have hty : ty = .int := (hT 0 cA ty p1).1 rfl
    subst hty
    have b41 : (0 : Int) ≤ x4.toInt := b4.1
    have b42 : x4.toInt ≤ (N : Int) := b4.2
    have hc4 : (x4.toNatClampNeg : Int) = x4.toInt := by show ((x4.toInt.toNat : Nat) : Int) = x4.toInt; omega
    have hc0 : (0 : Int32).toNatClampNeg = 0 := rfl
    show kw X H locs pc ls (.int x4 :: .int 0 :: .ref a :: .int 0 :: .ref a0 :: rest)
    intro T hTT Y
    obtain ⟨-, k0, hk0, cm0, hkk0⟩ := (hK.2 0 _ p1).1 n0 f
    obtain ⟨-, k1, hk1, cm1, hkk1⟩ := (hK.2 0 _ p1).1 n1 g
    obtain ⟨vm', Y', step⟩ := Y.arraycopy hF.1 hF.2.2.2 hlink hnat hstat hini (src := a0) (dst := a) (cs := arrV cA n0 f) (cd := arrV cA n1 g) (srcPos := 0) (destPos := 0) (n := x4) (by rw [hTT]; exact p2) (by rw [hTT]; exact q2)
      (fun _ h => by cases h) (fun _ h => by cases h) (fun h => by cases h) (fun h => by cases h) hk0 hk1 hkk0 hkk1 (by simp [refKind]) (by decide) (by decide) (by rw [Int32.lt_iff_toInt_lt]; show ¬ x4.toInt < 0; omega)
      (by show ¬ _ > ((arrV cA n0 f).slots.size : Int); rw [arrV_size]; show ¬ (0 : Int) + x4.toInt > _; omega)
      (by show ¬ _ > ((arrV cA n1 g).slots.size : Int); rw [arrV_size]; show ¬ (0 : Int) + x4.toInt > _; omega)
      (fun vm₁ _ i hi => by
        have e : (arrV cA n0 f).slots.getD ((0 : Int32).toNatClampNeg + i) .null = f i := by
          rw [hc0, Nat.zero_add, Array.getD_eq_getD_getElem?, arrV_read _ _ (by omega)]
          rfl
        obtain ⟨y, y1, -⟩ := p5 i (by omega)
        refine ⟨?_, ?_⟩
        · rw [e, y1]; rfl
        · rw [e, y1]; exact trivial)
      (g := F0 X.2.2.2.2.2.1 pc ls (.int x4 :: .int 0 :: .ref a :: .int 0 :: .ref a0 :: rest)) rfl (by rw [hF.2.2.1]; exact hls) (rest := rest) rfl (by rw [hF.2.1]; exact hdg) hfr (by show 2 * 0 + _ + (7 + 11) ≤ _; omega)
    have ec : copied (arrV cA n0 f) (arrV cA n1 g) 0 0 x4 = arrV cA n1 (fun j => va_cpy f g 0 0 x4.toNatClampNeg j) := va_copied (fun z => z) cA cA f g (by omega)
    rw [ec] at Y' step
    have hl : a < H.size := (Array.getElem?_eq_some_iff.mp q2).1
    have hheap : ((T.setVm vm').setCell a (arrV cA n1 (fun j => va_cpy f g 0 0 x4.toNatClampNeg j))).heap = H.setIfInBounds a (arrV cA n1 (fun j => va_cpy f g 0 0 x4.toNatClampNeg j)) := by rw [← hTT]; rfl
    have oq : ∀ q : Nat, q ≠ a → (H.setIfInBounds a (arrV cA n1 (fun j => va_cpy f g 0 0 x4.toNatClampNeg j)))[q]? = H[q]? := fun q hq => by simp [Array.getElem?_setIfInBounds, Ne.symm hq]
    have oa : (H.setIfInBounds a (arrV cA n1 (fun j => va_cpy f g 0 0 x4.toNatClampNeg j)))[a]? = some (arrV cA n1 (fun j => va_cpy f g 0 0 x4.toNatClampNeg j)) := by simp [Array.getElem?_setIfInBounds, hl]
    have hpost : k_post E τ H (H.setIfInBounds a (arrV cA n1 (fun j => va_cpy f g 0 0 x4.toNatClampNeg j))) (k_Kcp t N) [.ref a0, .int 0, .ref a, .int 0, .int x4] none := by
      refine ⟨k_HT_set hH t2 htt ⟨cA, .int, n1, _, p1, oa, q3, q4, fun j hj => ?_⟩ oq, ⟨by simp, fun b hb hn => oq b (fun z => by rw [z, t2] at hn; cases hn), fun b t' hb => ⟨fun q' hq' i hi hm => ?_, fun q' hq' hm => ?_⟩⟩, fun _ h => (by cases h), _, List.mem_cons_self, rfl, fun _ h => (by cases h), fun _ h => (by cases h)⟩
      · unfold va_cpy
        by_cases c : 0 ≤ j ∧ j < 0 + x4.toNatClampNeg
        · rw [if_pos c]
          have : 0 + (j - 0) = j := by omega
          rw [this]
          exact p5 j (by omega)
        · rw [if_neg c]; exact q5 j hj
      · by_cases c : b = a
        · subst c
          have et : t' = t := Option.some.inj (hb.symm.trans t2)
          subst et
          rw [htt] at hq'
          cases hq'
        · unfold k_fld; rw [oq b c]
      · by_cases c : b = a
        · subst c
          have et : t' = t := Option.some.inj (hb.symm.trans t2)
          subst et
          exact absurd (List.mem_singleton.mpr rfl) hm
        · exact oq b c
    obtain ⟨t', u1, u2⟩ := kk _ _ none hpost (fun z hz => by
      obtain ⟨y, -, hy⟩ := List.mem_map.mp hz
      rw [← hy]
      exact (hH a t t2).1) _ hheap Y'
    exact ⟨t', step t' u1, u2⟩
end
section
/-! ===== words of the program, the classes ===== -/
def gCl : List vw_C := [(RX0, TX0, 6), (RX1, TX1, 11), (RX2, TX2, 10), (RX3, TX3, 7), (RX4, TX4, 3), (RX5, TX5, 6), (RX6, TX6, 9), (RX7, TX7, 7), (RX8, TX8, 9), (RX9, TX9, 2), (RX10, TX10, 7), (RX11, TX11, 14), (RX12, TX12, 43)]
def gC : Nat → vw_C
  | 0 => (RX0, TX0, 6)
  | 1 => (RX1, TX1, 11)
  | 2 => (RX2, TX2, 10)
  | 3 => (RX3, TX3, 7)
  | 4 => (RX4, TX4, 3)
  | 5 => (RX5, TX5, 6)
  | 6 => (RX6, TX6, 9)
  | 7 => (RX7, TX7, 7)
  | 8 => (RX8, TX8, 9)
  | 9 => (RX9, TX9, 2)
  | 10 => (RX10, TX10, 7)
  | 11 => (RX11, TX11, 14)
  | _ => (RX12, TX12, 43)
theorem gC_ok : ∀ c, c < 13 → gCl[c]? = some (gC c)
  | 0, _ => rfl
  | 1, _ => rfl
  | 2, _ => rfl
  | 3, _ => rfl
  | 4, _ => rfl
  | 5, _ => rfl
  | 6, _ => rfl
  | 7, _ => rfl
  | 8, _ => rfl
  | 9, _ => rfl
  | 10, _ => rfl
  | 11, _ => rfl
  | 12, _ => rfl
  | n + 13, h => absurd h (by omega)
def gTy : Nat → Nat → FieldType
  | 0 => tyX0
  | 1 => tyX1
  | 2 => tyX2
  | 3 => tyX3
  | 4 => tyX4
  | 5 => tyX5
  | 6 => tyX6
  | 7 => tyX7
  | 8 => tyX8
  | 9 => tyX9
  | 10 => tyX10
  | 11 => tyX11
  | _ => tyX12
abbrev gE (g : va_G) (tys : List (ClassId × FieldType)) (B0 : Nat) (GI : Nat → kTau → Heap → Prop) : kE := (g, gCl, tys, gTT, B0, GI, gGS)
def gTB : List Cond := lw_tbl.filter goodWord
theorem gGood : ∀ w ∈ gTB, goodWord w = true := fun _ h => (List.mem_filter.mp h).2
theorem gIn {i : Nat} {w : Cond} (h : lw_tbl[i]? = some w) (hg : goodWord w = true) : w ∈ gTB := List.mem_filter.mpr ⟨List.mem_of_getElem? h, hg⟩
theorem gWi {C : String} {T : u_T} {N : Nat} (ix : List Nat) {w : Cond} (hw : w ∈ u_ws C T N) (h : (List.range N).all (fun k => decide (lw_tbl[ix.getD k 0]? = some (u_lay C T k) ∧ goodWord (u_lay C T k) = true)) = true) : w ∈ gTB := by
  obtain ⟨k, hk, rfl⟩ := List.mem_map.mp hw
  have := of_decide_eq_true (List.all_eq_true.mp h k hk)
  exact gIn this.1 this.2
theorem gW0 : ∀ w ∈ u_ws RX0 TX0 6, w ∈ gTB := fun w hw => gWi [456, 458, 460, 462, 464, 466] hw (by decide +kernel)
theorem gW1 : ∀ w ∈ u_ws RX1 TX1 11, w ∈ gTB := fun w hw => gWi [419, 421, 423, 425, 427, 429, 431, 433, 435, 437, 439] hw (by decide +kernel)
theorem gW2 : ∀ w ∈ u_ws RX2 TX2 10, w ∈ gTB := fun w hw => gWi [522, 524, 526, 528, 530, 532, 534, 536, 538, 540] hw (by decide +kernel)
theorem gW3 : ∀ w ∈ u_ws RX3 TX3 7, w ∈ gTB := fun w hw => gWi [487, 489, 491, 493, 495, 497, 499] hw (by decide +kernel)
theorem gW4 : ∀ w ∈ u_ws RX4 TX4 3, w ∈ gTB := fun w hw => gWi [859, 861, 863] hw (by decide +kernel)
theorem gW5 : ∀ w ∈ u_ws RX5 TX5 6, w ∈ gTB := fun w hw => gWi [381, 383, 385, 387, 389, 391] hw (by decide +kernel)
theorem gW6 : ∀ w ∈ u_ws RX6 TX6 9, w ∈ gTB := fun w hw => gWi [291, 293, 295, 297, 299, 301, 303, 305, 307] hw (by decide +kernel)
theorem gW7 : ∀ w ∈ u_ws RX7 TX7 7, w ∈ gTB := fun w hw => gWi [172, 174, 176, 178, 180, 182, 184] hw (by decide +kernel)
theorem gW8 : ∀ w ∈ u_ws RX8 TX8 9, w ∈ gTB := fun w hw => gWi [234, 236, 238, 240, 242, 244, 246, 248, 250] hw (by decide +kernel)
theorem gW9 : ∀ w ∈ u_ws RX9 TX9 2, w ∈ gTB := fun w hw => gWi [364, 366] hw (by decide +kernel)
theorem gW10 : ∀ w ∈ u_ws RX10 TX10 7, w ∈ gTB := fun w hw => gWi [333, 335, 337, 339, 341, 343, 345] hw (by decide +kernel)
theorem gW11 : ∀ w ∈ u_ws RX11 TX11 14, w ∈ gTB := fun w hw => gWi [558, 560, 562, 564, 566, 568, 570, 572, 574, 576, 578, 580, 582, 584] hw (by decide +kernel)
theorem gW12 : ∀ w ∈ u_ws RX12 TX12 43, w ∈ gTB := fun w hw => gWi [1305, 1307, 1309, 1311, 1313, 1315, 1317, 1319, 1321, 1323, 1325, 1327, 1329, 1331, 1333, 1335, 1337, 1339, 1341, 1343, 1345, 1347, 1349, 1351, 1353, 1355, 1357, 1359, 1361, 1363, 1365, 1367, 1369, 1371, 1373, 1375, 1377, 1379, 1381, 1383, 1385, 1387, 1389] hw (by decide +kernel)
theorem gW : ∀ c, c < 13 → ∀ w ∈ u_ws (gC c).1 (gC c).2.1 (gC c).2.2, w ∈ gTB
  | 0, _ => gW0
  | 1, _ => gW1
  | 2, _ => gW2
  | 3, _ => gW3
  | 4, _ => gW4
  | 5, _ => gW5
  | 6, _ => gW6
  | 7, _ => gW7
  | 8, _ => gW8
  | 9, _ => gW9
  | 10, _ => gW10
  | 11, _ => gW11
  | 12, _ => gW12
  | n + 13, h => absurd h (by omega)
abbrev gFLp (own : String) (q : (Nat × Nat × Nat × Nat) × Nat) : Prop := q.1.2.1 < 13 ∧ q.1.2.2.1 < (gC q.1.2.1).2.2 ∧ lw_tbl[q.2]? = some (Jvm.Cond.fieldLink own q.1.1 ((gC q.1.2.1).2.1 q.1.2.2.1).1 ((gC q.1.2.1).2.1 q.1.2.2.1).2.1 ((gC q.1.2.1).2.1 q.1.2.2.1).2.2.1) ∧ parseFieldDescriptor ((gC q.1.2.1).2.1 q.1.2.2.1).2.2.1 = some (gTy q.1.2.1 q.1.2.2.1) ∧
  (q.1.2.2.2 = 0 → gTy q.1.2.1 q.1.2.2.1 = .int) ∧ (q.1.2.2.2 = 1 → gTy q.1.2.1 q.1.2.2.1 = .boolean) ∧ (q.1.2.2.2 = 2 → gTy q.1.2.1 q.1.2.2.1 = .long) ∧ (q.1.2.2.2 = 3 → (gTy q.1.2.1 q.1.2.2.1).isReference = true) ∧ (q.1.2.2.2 < 4 → ((gC q.1.2.1).2.1 q.1.2.2.1).2.2.2 = false)
theorem gFLok {X : kX} {g : va_G} {tys : List (ClassId × FieldType)} {B0 : Nat} {GI : Nat → kTau → Heap → Prop} {own : String} {FL : List (Nat × Nat × Nat × Nat)} (FLi : List ((Nat × Nat × Nat × Nat) × Nat)) (hFL : FL = FLi.map Prod.fst) (hts : ∀ w ∈ gTB, w.before X.2.2.2.2.2.2.1 X.2.2.2.2.1 = true) (hd : ∀ q ∈ FLi, gFLp own q) : k_FL X (gE g tys B0 GI) own FL := by
  intro q hq
  rw [hFL] at hq
  obtain ⟨z, hz, rfl⟩ := List.mem_map.mp hq
  obtain ⟨h1, h2, h3, h4, h5⟩ := hd z hz
  exact ⟨(gC z.1.2.1).1, (gC z.1.2.1).2.1, (gC z.1.2.1).2.2, _, _, gTB, gC_ok _ h1, h2, hts, gW _ h1, hts _ (gIn h3 rfl), fun _ h => h, h4, h5⟩
theorem gCIok {X : kX} {own : String} {CI : List (Nat × Int)} (CIi : List ((Nat × Int) × Nat)) (hCI : CI = CIi.map Prod.fst) (hts : ∀ w ∈ gTB, w.before X.2.2.2.2.2.2.1 X.2.2.2.2.1 = true) (hd : ∀ q ∈ CIi, lw_tbl[q.2]? = some (Jvm.Cond.constant own q.1.1 (Int32.ofInt q.1.2))) : k_CI X own CI := by
  intro q hq
  rw [hCI] at hq
  obtain ⟨z, hz, rfl⟩ := List.mem_map.mp hq
  exact hts _ (gIn (hd z hz) rfl)
theorem gCJok {X : kX} {own : String} {CI : List (Nat × Int)} (CIi : List ((Nat × Int) × Nat)) (hCI : CI = CIi.map Prod.fst) (hts : ∀ w ∈ gTB, w.before X.2.2.2.2.2.2.1 X.2.2.2.2.1 = true) (hd : ∀ q ∈ CIi, lw_tbl[q.2]? = some (Jvm.Cond.constantLong own q.1.1 (Int64.ofInt q.1.2))) : k_CJ X own CI := by
  intro q hq
  rw [hCI] at hq
  obtain ⟨z, hz, rfl⟩ := List.mem_map.mp hq
  exact hts _ (gIn (hd z hz) rfl)
section
variable {X : kX} {g : va_G} {tys : List (ClassId × FieldType)} {B0 : Nat} {GI : Nat → kTau → Heap → Prop}
theorem gFLk0 (hts : ∀ w ∈ gTB, w.before X.2.2.2.2.2.2.1 X.2.2.2.2.1 = true) : k_FL X (gE g tys B0 GI) RX0 gFL0 := gFLok [((9, 0, 3, 4), 452), ((15, 0, 4, 4), 454), ((18, 0, 5, 4), 455), ((21, 0, 0, 4), 449), ((25, 10, 0, 4), 311), ((31, 0, 1, 4), 450), ((32, 0, 2, 4), 451), ((41, 1, 3, 4), 407), ((51, 6, 5, 0), 278), ((58, 10, 1, 4), 316), ((59, 8, 3, 0), 213), ((64, 6, 0, 4), 260), ((67, 8, 7, 4), 228), ((70, 6, 2, 4), 268), ((77, 1, 10, 0), 418), ((80, 1, 9, 0), 416), ((91, 6, 1, 4), 265), ((102, 6, 4, 0), 275), ((108, 8, 4, 4), 220), ((112, 10, 5, 0), 328)] rfl hts (by decide +kernel)
theorem gCIk0 (hts : ∀ w ∈ gTB, w.before X.2.2.2.2.2.2.1 X.2.2.2.2.1 = true) : k_CI X RX0 gCI0 := gCIok [((118, 65536), 1224)] rfl hts (by decide +kernel)
theorem gCJk0 (hts : ∀ w ∈ gTB, w.before X.2.2.2.2.2.2.1 X.2.2.2.2.1 = true) : k_CJ X RX0 gCJ0 := gCJok [((126, 1103515245), 1221), ((128, 12345), 1222), ((130, 2147483647), 1223)] rfl hts (by decide +kernel)
theorem gFLk1 (hts : ∀ w ∈ gTB, w.before X.2.2.2.2.2.2.1 X.2.2.2.2.1 = true) : k_FL X (gE g tys B0 GI) RX1 gFL1 := gFLok [((12, 1, 3, 4), 405), ((18, 1, 4, 4), 410), ((22, 1, 10, 0), 417), ((26, 1, 0, 4), 402), ((30, 10, 0, 4), 312), ((36, 1, 1, 4), 403), ((37, 1, 2, 4), 404), ((41, 10, 1, 4), 315), ((46, 8, 1, 0), 205), ((51, 1, 9, 0), 415), ((52, 10, 6, 0), 331), ((63, 1, 5, 3), 411), ((87, 1, 6, 0), 412), ((95, 1, 7, 0), 413), ((98, 8, 3, 0), 216), ((114, 8, 8, 4), 233), ((118, 6, 6, 0), 284), ((125, 6, 1, 4), 266), ((128, 6, 2, 4), 270), ((131, 8, 7, 4), 230), ((134, 1, 8, 0), 414), ((137, 4, 2, 4), 858), ((142, 4, 1, 4), 856), ((149, 4, 0, 4), 854), ((160, 6, 0, 4), 262), ((163, 6, 4, 0), 276), ((166, 6, 3, 4), 273), ((169, 6, 5, 0), 281), ((184, 6, 7, 0), 288), ((187, 6, 8, 0), 290), ((198, 8, 2, 0), 210)] rfl hts (by decide +kernel)
theorem gCIk1 (hts : ∀ w ∈ gTB, w.before X.2.2.2.2.2.2.1 X.2.2.2.2.1 = true) : k_CI X RX1 gCI1 := gCIok [] rfl hts (by decide +kernel)
theorem gCJk1 (hts : ∀ w ∈ gTB, w.before X.2.2.2.2.2.2.1 X.2.2.2.2.1 = true) : k_CJ X RX1 gCJ1 := gCJok [] rfl hts (by decide +kernel)
theorem gFLk2 (hts : ∀ w ∈ gTB, w.before X.2.2.2.2.2.2.1 X.2.2.2.2.1 = true) : k_FL X (gE g tys B0 GI) RX2 gFL2 := gFLok [((11, 2, 2, 4), 510), ((15, 2, 3, 4), 511), ((18, 2, 0, 4), 508), ((22, 2, 1, 4), 509), ((26, 2, 4, 0), 512), ((30, 2, 5, 0), 513), ((33, 2, 6, 0), 514), ((36, 2, 7, 0), 516), ((52, 1, 3, 4), 408), ((56, 6, 6, 0), 283), ((65, 10, 4, 0), 325), ((70, 10, 2, 4), 319), ((73, 10, 3, 4), 322), ((76, 2, 8, 0), 518), ((79, 2, 9, 0), 520)] rfl hts (by decide +kernel)
theorem gCIk2 (hts : ∀ w ∈ gTB, w.before X.2.2.2.2.2.2.1 X.2.2.2.2.1 = true) : k_CI X RX2 gCI2 := gCIok [] rfl hts (by decide +kernel)
theorem gCJk2 (hts : ∀ w ∈ gTB, w.before X.2.2.2.2.2.2.1 X.2.2.2.2.1 = true) : k_CJ X RX2 gCJ2 := gCJok [] rfl hts (by decide +kernel)
theorem gFLk3 (hts : ∀ w ∈ gTB, w.before X.2.2.2.2.2.2.1 X.2.2.2.2.1 = true) : k_FL X (gE g tys B0 GI) RX3 gFL3 := gFLok [((11, 3, 1, 4), 478), ((17, 3, 2, 4), 479), ((21, 3, 3, 4), 480), ((24, 3, 0, 4), 477), ((34, 1, 3, 4), 406), ((48, 3, 4, 0), 482), ((52, 6, 5, 0), 277), ((55, 3, 6, 0), 486), ((58, 3, 5, 0), 484)] rfl hts (by decide +kernel)
theorem gCIk3 (hts : ∀ w ∈ gTB, w.before X.2.2.2.2.2.2.1 X.2.2.2.2.1 = true) : k_CI X RX3 gCI3 := gCIok [] rfl hts (by decide +kernel)
theorem gCJk3 (hts : ∀ w ∈ gTB, w.before X.2.2.2.2.2.2.1 X.2.2.2.2.1 = true) : k_CJ X RX3 gCJ3 := gCJok [] rfl hts (by decide +kernel)
theorem gFLk4 (hts : ∀ w ∈ gTB, w.before X.2.2.2.2.2.2.1 X.2.2.2.2.1 = true) : k_FL X (gE g tys B0 GI) RX4 gFL4 := gFLok [((7, 4, 0, 4), 853), ((13, 4, 1, 4), 855), ((16, 4, 2, 4), 857)] rfl hts (by decide +kernel)
theorem gCIk4 (hts : ∀ w ∈ gTB, w.before X.2.2.2.2.2.2.1 X.2.2.2.2.1 = true) : k_CI X RX4 gCI4 := gCIok [] rfl hts (by decide +kernel)
theorem gCJk4 (hts : ∀ w ∈ gTB, w.before X.2.2.2.2.2.2.1 X.2.2.2.2.1 = true) : k_CJ X RX4 gCJ4 := gCJok [] rfl hts (by decide +kernel)
theorem gFLk5 (hts : ∀ w ∈ gTB, w.before X.2.2.2.2.2.2.1 X.2.2.2.2.1 = true) : k_FL X (gE g tys B0 GI) RX5 gFL5 := gFLok [((9, 5, 1, 4), 376), ((15, 5, 3, 4), 378), ((18, 5, 0, 4), 375), ((27, 5, 2, 0), 377), ((31, 5, 5, 0), 380), ((45, 5, 4, 0), 379), ((92, 7, 4, 4), 167), ((95, 7, 5, 0), 169)] rfl hts (by decide +kernel)
theorem gCIk5 (hts : ∀ w ∈ gTB, w.before X.2.2.2.2.2.2.1 X.2.2.2.2.1 = true) : k_CI X RX5 gCI5 := gCIok [((98, 100000), 802)] rfl hts (by decide +kernel)
theorem gCJk5 (hts : ∀ w ∈ gTB, w.before X.2.2.2.2.2.2.1 X.2.2.2.2.1 = true) : k_CJ X RX5 gCJ5 := gCJok [] rfl hts (by decide +kernel)
theorem gFLk6 (hts : ∀ w ∈ gTB, w.before X.2.2.2.2.2.2.1 X.2.2.2.2.1 = true) : k_FL X (gE g tys B0 GI) RX6 gFL6 := gFLok [((9, 6, 0, 4), 259), ((15, 6, 1, 4), 263), ((18, 6, 2, 4), 267), ((21, 6, 3, 4), 271), ((24, 6, 7, 0), 286), ((34, 6, 4, 0), 274), ((37, 6, 5, 0), 279), ((40, 6, 6, 0), 282), ((43, 6, 8, 0), 289), ((46, 8, 4, 4), 218), ((49, 8, 5, 4), 222), ((50, 8, 6, 4), 225)] rfl hts (by decide +kernel)
theorem gCIk6 (hts : ∀ w ∈ gTB, w.before X.2.2.2.2.2.2.1 X.2.2.2.2.1 = true) : k_CI X RX6 gCI6 := gCIok [] rfl hts (by decide +kernel)
theorem gCJk6 (hts : ∀ w ∈ gTB, w.before X.2.2.2.2.2.2.1 X.2.2.2.2.1 = true) : k_CJ X RX6 gCJ6 := gCJok [] rfl hts (by decide +kernel)
theorem gFLk7 (hts : ∀ w ∈ gTB, w.before X.2.2.2.2.2.2.1 X.2.2.2.2.1 = true) : k_FL X (gE g tys B0 GI) RX7 gFL7 := gFLok [((9, 7, 0, 4), 161), ((15, 7, 2, 4), 164), ((19, 7, 3, 4), 165), ((22, 7, 4, 4), 166), ((25, 7, 1, 0), 162), ((33, 7, 5, 0), 168), ((36, 7, 6, 0), 170)] rfl hts (by decide +kernel)
theorem gCIk7 (hts : ∀ w ∈ gTB, w.before X.2.2.2.2.2.2.1 X.2.2.2.2.1 = true) : k_CI X RX7 gCI7 := gCIok [((56, 100000), 626)] rfl hts (by decide +kernel)
theorem gCJk7 (hts : ∀ w ∈ gTB, w.before X.2.2.2.2.2.2.1 X.2.2.2.2.1 = true) : k_CJ X RX7 gCJ7 := gCJok [] rfl hts (by decide +kernel)
theorem gFLk8 (hts : ∀ w ∈ gTB, w.before X.2.2.2.2.2.2.1 X.2.2.2.2.1 = true) : k_FL X (gE g tys B0 GI) RX8 gFL8 := gFLok [((9, 8, 4, 4), 217), ((15, 8, 5, 4), 221), ((18, 8, 6, 4), 224), ((21, 8, 7, 4), 227), ((24, 8, 8, 4), 231), ((27, 8, 0, 1), 201), ((31, 8, 1, 0), 204), ((35, 8, 2, 0), 208), ((38, 8, 3, 0), 212)] rfl hts (by decide +kernel)
theorem gCIk8 (hts : ∀ w ∈ gTB, w.before X.2.2.2.2.2.2.1 X.2.2.2.2.1 = true) : k_CI X RX8 gCI8 := gCIok [] rfl hts (by decide +kernel)
theorem gCJk8 (hts : ∀ w ∈ gTB, w.before X.2.2.2.2.2.2.1 X.2.2.2.2.1 = true) : k_CJ X RX8 gCJ8 := gCJok [] rfl hts (by decide +kernel)
theorem gFLk9 (hts : ∀ w ∈ gTB, w.before X.2.2.2.2.2.2.1 X.2.2.2.2.1 = true) : k_FL X (gE g tys B0 GI) RX9 gFL9 := gFLok [((12, 9, 1, 4), 362), ((18, 9, 0, 4), 361), ((38, 8, 0, 1), 202), ((51, 8, 3, 0), 214), ((72, 8, 1, 0), 206), ((75, 8, 2, 0), 209), ((78, 8, 4, 4), 219), ((82, 8, 5, 4), 223), ((85, 8, 6, 4), 226)] rfl hts (by decide +kernel)
theorem gCIk9 (hts : ∀ w ∈ gTB, w.before X.2.2.2.2.2.2.1 X.2.2.2.2.1 = true) : k_CI X RX9 gCI9 := gCIok [] rfl hts (by decide +kernel)
theorem gCJk9 (hts : ∀ w ∈ gTB, w.before X.2.2.2.2.2.2.1 X.2.2.2.2.1 = true) : k_CJ X RX9 gCJ9 := gCJok [] rfl hts (by decide +kernel)
theorem gFLk10 (hts : ∀ w ∈ gTB, w.before X.2.2.2.2.2.2.1 X.2.2.2.2.1 = true) : k_FL X (gE g tys B0 GI) RX10 gFL10 := gFLok [((12, 10, 0, 4), 310), ((21, 10, 1, 4), 314), ((25, 10, 2, 4), 318), ((29, 10, 3, 4), 321), ((32, 10, 6, 0), 330), ((49, 10, 4, 0), 324), ((52, 10, 5, 0), 327)] rfl hts (by decide +kernel)
theorem gCIk10 (hts : ∀ w ∈ gTB, w.before X.2.2.2.2.2.2.1 X.2.2.2.2.1 = true) : k_CI X RX10 gCI10 := gCIok [] rfl hts (by decide +kernel)
theorem gCJk10 (hts : ∀ w ∈ gTB, w.before X.2.2.2.2.2.2.1 X.2.2.2.2.1 = true) : k_CJ X RX10 gCJ10 := gCJok [] rfl hts (by decide +kernel)
theorem gFLk11 (hts : ∀ w ∈ gTB, w.before X.2.2.2.2.2.2.1 X.2.2.2.2.1 = true) : k_FL X (gE g tys B0 GI) RX11 gFL11 := gFLok [((10, 11, 0, 4), 544), ((19, 11, 1, 4), 545), ((23, 11, 2, 4), 546), ((29, 11, 3, 4), 547), ((35, 11, 5, 4), 549), ((44, 11, 8, 4), 552), ((51, 11, 9, 4), 553), ((60, 11, 10, 4), 554), ((69, 11, 11, 4), 555), ((78, 11, 12, 4), 556), ((85, 11, 13, 4), 557), ((90, 7, 1, 0), 163), ((102, 7, 6, 0), 171), ((105, 10, 0, 4), 313), ((109, 9, 1, 4), 363), ((116, 10, 1, 4), 317), ((123, 10, 4, 0), 326), ((126, 11, 7, 0), 551), ((129, 8, 3, 0), 215), ((132, 11, 4, 0), 548), ((140, 10, 6, 0), 332), ((147, 6, 0, 4), 261), ((151, 6, 1, 4), 264), ((154, 6, 2, 4), 269), ((157, 8, 7, 4), 229), ((160, 6, 3, 4), 272), ((166, 8, 8, 4), 232), ((169, 8, 0, 1), 203), ((173, 6, 5, 0), 280), ((186, 1, 3, 4), 409), ((193, 6, 7, 0), 287), ((196, 6, 6, 0), 285), ((207, 11, 6, 0), 550), ((230, 3, 5, 0), 485), ((233, 3, 4, 0), 483), ((236, 3, 3, 4), 481), ((248, 0, 3, 4), 453), ((264, 10, 2, 4), 320), ((267, 10, 3, 4), 323), ((273, 2, 6, 0), 515), ((276, 2, 7, 0), 517), ((282, 2, 8, 0), 519), ((285, 2, 9, 0), 521), ((288, 10, 5, 0), 329), ((294, 8, 1, 0), 207), ((297, 8, 2, 0), 211)] rfl hts (by decide +kernel)
theorem gCIk11 (hts : ∀ w ∈ gTB, w.before X.2.2.2.2.2.2.1 X.2.2.2.2.1 = true) : k_CI X RX11 gCI11 := gCIok [] rfl hts (by decide +kernel)
theorem gCJk11 (hts : ∀ w ∈ gTB, w.before X.2.2.2.2.2.2.1 X.2.2.2.2.1 = true) : k_CJ X RX11 gCJ11 := gCJok [] rfl hts (by decide +kernel)
theorem gFLk12 (hts : ∀ w ∈ gTB, w.before X.2.2.2.2.2.2.1 X.2.2.2.2.1 = true) : k_FL X (gE g tys B0 GI) RX12 gFL12 := gFLok [((7, 12, 0, 4), 1262), ((13, 12, 3, 4), 1265), ((17, 12, 4, 4), 1266), ((20, 12, 5, 4), 1267), ((23, 12, 6, 4), 1268), ((26, 12, 7, 4), 1269), ((29, 12, 15, 4), 1277), ((32, 12, 18, 4), 1280), ((36, 12, 20, 4), 1282), ((39, 12, 21, 4), 1283), ((42, 12, 22, 0), 1284), ((46, 12, 24, 4), 1286), ((49, 12, 25, 0), 1287), ((52, 12, 30, 4), 1292), ((55, 12, 32, 4), 1294), ((58, 12, 33, 4), 1295), ((61, 12, 35, 4), 1297), ((64, 12, 36, 4), 1298), ((68, 12, 37, 4), 1299), ((71, 12, 39, 4), 1301), ((74, 12, 40, 4), 1302), ((77, 12, 41, 4), 1303), ((80, 12, 42, 4), 1304), ((83, 12, 1, 0), 1263), ((90, 12, 9, 0), 1271), ((93, 12, 8, 0), 1270), ((118, 12, 10, 0), 1272), ((147, 12, 11, 0), 1273), ((150, 12, 12, 0), 1274), ((153, 12, 13, 0), 1275), ((156, 12, 16, 0), 1278), ((223, 12, 17, 0), 1279), ((252, 12, 14, 0), 1276), ((264, 12, 2, 0), 1264), ((276, 12, 31, 0), 1293), ((279, 12, 19, 0), 1281), ((303, 12, 27, 0), 1289), ((345, 12, 26, 0), 1288), ((363, 12, 28, 0), 1290), ((375, 12, 29, 0), 1291), ((411, 12, 34, 0), 1296), ((452, 12, 23, 0), 1285), ((455, 12, 38, 2), 1300)] rfl hts (by decide +kernel)
theorem gCIk12 (hts : ∀ w ∈ gTB, w.before X.2.2.2.2.2.2.1 X.2.2.2.2.1 = true) : k_CI X RX12 gCI12 := gCIok [((167, 99999), 1501)] rfl hts (by decide +kernel)
theorem gCJk12 (hts : ∀ w ∈ gTB, w.before X.2.2.2.2.2.2.1 X.2.2.2.2.1 = true) : k_CJ X RX12 gCJ12 := gCJok [((125, 448546567013), 1434), ((127, 1935767923), 1514), ((129, 512970880104), 1515), ((131, 495757257573), 1516), ((133, 6709618), 1517), ((135, 1852137842), 1518), ((137, 439855768947), 1519), ((139, 1819243380), 1520), ((141, 1650812270), 1521), ((143, 512736126322), 1522), ((145, 1752135026), 1523), ((187, 7237492), 1537), ((207, 6385252), 1561), ((209, 28530), 1562), ((211, 26982), 1524), ((229, 130160802948473), 1425), ((237, 1919902052), 1435), ((245, 108187867505765), 1436), ((250, 26479), 1437), ((390, 20), 1725), ((392, 100), 1734), ((394, 2), 1735), ((420, 60), 1771), ((422, (-1)), 1772), ((424, 5), 1773), ((435, 9999), 1814), ((459, 1103515245), 1867), ((461, 12345), 1868), ((463, 2147483648), 1869), ((465, 65536), 1870), ((467, 10), 1862), ((475, 3), 1883)] rfl hts (by decide +kernel)
end
theorem k_nilFL {X : kX} {E : kE} {own : String} : k_FL X E own [] := fun _ h => by cases h
theorem k_nilCJ {X : kX} {own : String} : k_CJ X own [] := fun _ h => by cases h
end
section
/-! ===== contracts ===== -/
/-- one of several contracts fits: what they say together -/
theorem k_fr_up {E : kE} {τ : kTau} {m1 m2 : List (Nat × Nat)} {H H' : Heap} (h : k_fr E τ m1 H H') (hs : ∀ q ∈ m1, q ∈ m2) : k_fr E τ m2 H H' := ⟨h.1, h.2.1, fun a t ht => ⟨fun q hq k hk hm => (h.2.2 a t ht).1 q hq k hk (fun z => hm (hs _ z)), fun q hq hm => (h.2.2 a t ht).2 q hq (fun z => hm (hs _ z))⟩⟩
theorem k_anyc {X : kX} {E : kE} {nL : Nat} {τ : kTau} {pc i k : Nat} {K : kCtr} {ts : List Nat} {P : List kInfo} {A : List kAlt} {mods : List (Nat × Nat)} {G : List Nat × List Nat} (hK : K = (P, [(i, k, .inr (.inr (.inl (false, ts))))], A, mods, G))
    (h : ∀ t ∈ ts, ∃ q : kCtr, (q.1 = P ∧ q.2.1 = [(i, k, .inr (.inr (.inl (false, [t]))))] ∧ q.2.2.1 = A ∧ (∀ z ∈ q.2.2.2.1, z ∈ mods) ∧ q.2.2.2.2 = G) ∧ k_call X E nL τ q pc) : k_call X E nL τ K pc := by
  subst hK
  intro H locs ls as rest hH hpre hsum hls kk
  obtain ⟨p1, p2, ⟨v, w, w1, w2, w3, -⟩, p4⟩ := hpre
  rcases w3 with ⟨z, -⟩ | ⟨a, t, z1, z2, z3⟩
  · cases z
  obtain ⟨q, ⟨d1, d2, d3, d4, d5⟩, hq⟩ := h t z2
  refine hq H locs ls as rest hH ⟨by rw [d1]; exact p1, by rw [d1]; exact p2, ?_, by rw [d5]; exact p4⟩ hsum hls (fun H' L v' hp hL => kk H' L v' ⟨hp.1, k_fr_up hp.2.1 d4, by have := hp.2.2.1; rw [d5] at this; exact this, by have := hp.2.2.2; rw [d3] at this; exact this⟩ hL)
  rw [d2]
  exact ⟨v, w, w1, w2, Or.inr ⟨a, t, z1, List.mem_singleton.mpr rfl, z3⟩, trivial⟩
theorem wm_max : Jvm.Cond.static Lib.Math.max.name ∈ gTB ∧ Jvm.Cond.initialized "java/lang/Math" ∈ gTB ∧ Jvm.Cond.code Lib.Math.max.name Lib.Math.max.code 2 (some .int) ∈ gTB := ⟨gIn (i := 973) (by decide +kernel) (by decide +kernel), gIn (i := 145) (by decide +kernel) (by decide +kernel), gIn (i := 974) (by decide +kernel) (by decide +kernel)⟩
theorem wm_min : Jvm.Cond.static Lib.Math.min.name ∈ gTB ∧ Jvm.Cond.initialized "java/lang/Math" ∈ gTB ∧ Jvm.Cond.code Lib.Math.min.name Lib.Math.min.code 2 (some .int) ∈ gTB := ⟨gIn (i := 846) (by decide +kernel) (by decide +kernel), gIn (i := 145) (by decide +kernel) (by decide +kernel), gIn (i := 847) (by decide +kernel) (by decide +kernel)⟩
theorem wm_cp : Jvm.Cond.native arraycopyName ∈ gTB ∧ Jvm.Cond.static arraycopyName ∈ gTB ∧ Jvm.Cond.initialized "java/lang/System" ∈ gTB := ⟨gIn (i := 772) (by decide +kernel) (by decide +kernel), gIn (i := 771) (by decide +kernel) (by decide +kernel), gIn (i := 142) (by decide +kernel) (by decide +kernel)⟩
section
variable {l : Launch} {g : va_G} {tys : List (ClassId × FieldType)} {B0 : Nat} {GI : Nat → kTau → Heap → Prop} {τ : kTau}
theorem C_J6_bitCount_0f7a4 (hE : k_Eok (gE g tys B0 GI)) (hT : k_tys (gE g tys B0 GI)) : k_Met l (gE g tys B0 GI) τ gTB yJ6_bitCount_0f7a4 cJ6_bitCount_0f7a4 1 1 K_J6_bitCount_0f7a4 ⟨0, 0, 0, 0⟩ :=
  k_met (M := M_J6_bitCount_0f7a4) (by decide +kernel) (fun X hl hr hF hts hK => ⟨k_nilFL, gCIok [((265, 1431655765), 926), ((266, 858993459), 927), ((267, 252645135), 928)] rfl hts (by decide +kernel), k_nilCJ, (show ∀ q ∈ ([] : List (Nat × kCtr)), k_call X (gE g tys B0 GI) 1 τ q.2 q.1 from List.forall_mem_nil _), hE, hT⟩) dec_J6_bitCount_0f7a4 chk_J6_bitCount_0f7a4
theorem C_X7_isDigit (hE : k_Eok (gE g tys B0 GI)) (hT : k_tys (gE g tys B0 GI)) : k_Met l (gE g tys B0 GI) τ gTB yX7_isDigit cX7_isDigit 1 2 K_X7_isDigit ⟨0, 0, 0, 0⟩ :=
  k_met (M := M_X7_isDigit) (by decide +kernel) (fun X hl hr hF hts hK => ⟨gFLk7 hts, gCIk7 hts, gCJk7 hts, (show ∀ q ∈ ([] : List (Nat × kCtr)), k_call X (gE g tys B0 GI) 1 τ q.2 q.1 from List.forall_mem_nil _), hE, hT⟩) dec_X7_isDigit chk_X7_isDigit
theorem C_X7_isSmall (hE : k_Eok (gE g tys B0 GI)) (hT : k_tys (gE g tys B0 GI)) : k_Met l (gE g tys B0 GI) τ gTB yX7_isSmall cX7_isSmall 1 2 K_X7_isSmall ⟨0, 0, 0, 0⟩ :=
  k_met (M := M_X7_isSmall) (by decide +kernel) (fun X hl hr hF hts hK => ⟨gFLk7 hts, gCIk7 hts, gCJk7 hts, (show ∀ q ∈ ([] : List (Nat × kCtr)), k_call X (gE g tys B0 GI) 1 τ q.2 q.1 from List.forall_mem_nil _), hE, hT⟩) dec_X7_isSmall chk_X7_isSmall
theorem C_X7_append (hE : k_Eok (gE g tys B0 GI)) (hT : k_tys (gE g tys B0 GI)) : k_Met l (gE g tys B0 GI) τ gTB yX7_append cX7_append 2 0 K_X7_append ⟨0, 0, 0, 0⟩ :=
  k_met (M := M_X7_append) (by decide +kernel) (fun X hl hr hF hts hK => ⟨gFLk7 hts, gCIk7 hts, gCJk7 hts, (show ∀ q ∈ ([] : List (Nat × kCtr)), k_call X (gE g tys B0 GI) 2 τ q.2 q.1 from List.forall_mem_nil _), hE, hT⟩) dec_X7_append chk_X7_append
theorem C_X7_byteAt (hE : k_Eok (gE g tys B0 GI)) (hT : k_tys (gE g tys B0 GI)) : k_Met l (gE g tys B0 GI) τ gTB yX7_byteAt cX7_byteAt 2 1 K_X7_byteAt ⟨0, 0, 0, 0⟩ :=
  k_met (M := M_X7_byteAt) (by decide +kernel) (fun X hl hr hF hts hK => ⟨gFLk7 hts, gCIk7 hts, gCJk7 hts, (show ∀ q ∈ ([] : List (Nat × kCtr)), k_call X (gE g tys B0 GI) 2 τ q.2 q.1 from List.forall_mem_nil _), hE, hT⟩) dec_X7_byteAt chk_X7_byteAt
theorem C_X7_is (hE : k_Eok (gE g tys B0 GI)) (hT : k_tys (gE g tys B0 GI)) : k_Met l (gE g tys B0 GI) τ gTB yX7_is cX7_is 5 2 K_X7_is ⟨16, 0, 0, 600⟩ := by
  sorry
theorem C_X7_otherWordFrom (hE : k_Eok (gE g tys B0 GI)) (hT : k_tys (gE g tys B0 GI)) : k_Met l (gE g tys B0 GI) τ gTB yX7_otherWordFrom cX7_otherWordFrom 3 1 K_X7_otherWordFrom ⟨16, 0, 0, 600⟩ := by
  sorry
theorem C_X7_wordFrom (hE : k_Eok (gE g tys B0 GI)) (hT : k_tys (gE g tys B0 GI)) : k_Met l (gE g tys B0 GI) τ gTB yX7_wordFrom cX7_wordFrom 3 1 K_X7_wordFrom ⟨16, 0, 0, 600⟩ := by
  sorry
theorem wl_RX7_43 : Jvm.Cond.methodLink RX7 43 yX7_isDigit ∈ gTB := gIn (i := 619) (by decide +kernel) (by decide +kernel)
theorem wk_X7_isDigit : Jvm.Cond.code yX7_isDigit cX7_isDigit 1 (k_rty 2) ∈ gTB ∧ Jvm.Cond.initialized yX7_isDigit.cls ∈ gTB ∧ Jvm.Cond.static yX7_isDigit ∈ gTB := ⟨gIn (i := 621) (by decide +kernel) (by decide +kernel), gIn (i := 127) (by decide +kernel) (by decide +kernel), gIn (i := 620) (by decide +kernel) (by decide +kernel)⟩
theorem wd_X7_isDigit : yX7_isDigit.cls ≠ "java/lang/invoke/MethodHandle" ∧ yX7_isDigit.cls ≠ "java/lang/invoke/VarHandle" ∧ (parseMethodDescriptor yX7_isDigit.desc).map (fun d => d.parameters.length) = some 1 := by decide +kernel
theorem C_X7_scanNumber (hE : k_Eok (gE g tys B0 GI)) (hT : k_tys (gE g tys B0 GI)) : k_Met l (gE g tys B0 GI) τ gTB yX7_scanNumber cX7_scanNumber 5 1 K_X7_scanNumber ⟨1, 0, 0, 20⟩ :=
  k_met (M := M_X7_scanNumber) (by decide +kernel) (fun X hl hr hF hts hK => ⟨gFLk7 hts, gCIk7 hts, gCJk7 hts, (show ∀ q ∈ ([(21, K_X7_isDigit)] : List (Nat × kCtr)), k_call X (gE g tys B0 GI) 5 τ q.2 q.1 from List.forall_mem_cons.mpr ⟨k_callS (cc := cX7_scanNumber) hF hK hts gGood (C_X7_isDigit hE hT) wk_X7_isDigit.1 wk_X7_isDigit.2.1 wl_RX7_43 wk_X7_isDigit.2.2 rfl rfl wd_X7_isDigit ⟨by rw [hr]; decide, by rw [hr]; decide⟩ (dec_X7_scanNumber (21, .invokestatic 43, 3) (List.mem_of_getElem? (i := 12) rfl)),
    List.forall_mem_nil _⟩), hE, hT⟩) dec_X7_scanNumber chk_X7_scanNumber
theorem wl_RX7_39 : Jvm.Cond.methodLink RX7 39 yX7_byteAt ∈ gTB := gIn (i := 615) (by decide +kernel) (by decide +kernel)
theorem wk_X7_byteAt : Jvm.Cond.code yX7_byteAt cX7_byteAt 2 (k_rty 1) ∈ gTB ∧ Jvm.Cond.initialized yX7_byteAt.cls ∈ gTB ∧ Jvm.Cond.instanceMethod yX7_byteAt ∈ gTB ∧ Jvm.Cond.selects RX7 yX7_byteAt yX7_byteAt ∈ gTB := ⟨gIn (i := 618) (by decide +kernel) (by decide +kernel), gIn (i := 127) (by decide +kernel) (by decide +kernel), gIn (i := 617) (by decide +kernel) (by decide +kernel), gIn (i := 1) (by decide +kernel) (by decide +kernel)⟩
theorem wd_X7_byteAt : yX7_byteAt.cls ≠ "java/lang/invoke/MethodHandle" ∧ yX7_byteAt.cls ≠ "java/lang/invoke/VarHandle" ∧ (parseMethodDescriptor yX7_byteAt.desc).map (fun d => d.parameters.length) = some 1 := by decide +kernel
theorem wl_RX7_47 : Jvm.Cond.methodLink RX7 47 yX7_scanNumber ∈ gTB := gIn (i := 622) (by decide +kernel) (by decide +kernel)
theorem wk_X7_scanNumber : Jvm.Cond.code yX7_scanNumber cX7_scanNumber 5 (k_rty 1) ∈ gTB ∧ Jvm.Cond.initialized yX7_scanNumber.cls ∈ gTB ∧ Jvm.Cond.instanceMethod yX7_scanNumber ∈ gTB ∧ Jvm.Cond.selects RX7 yX7_scanNumber yX7_scanNumber ∈ gTB := ⟨gIn (i := 625) (by decide +kernel) (by decide +kernel), gIn (i := 127) (by decide +kernel) (by decide +kernel), gIn (i := 624) (by decide +kernel) (by decide +kernel), gIn (i := 2) (by decide +kernel) (by decide +kernel)⟩
theorem wd_X7_scanNumber : yX7_scanNumber.cls ≠ "java/lang/invoke/MethodHandle" ∧ yX7_scanNumber.cls ≠ "java/lang/invoke/VarHandle" ∧ (parseMethodDescriptor yX7_scanNumber.desc).map (fun d => d.parameters.length) = some 2 := by decide +kernel
theorem wl_RX7_50 : Jvm.Cond.methodLink RX7 50 yX7_isSmall ∈ gTB := gIn (i := 627) (by decide +kernel) (by decide +kernel)
theorem wk_X7_isSmall : Jvm.Cond.code yX7_isSmall cX7_isSmall 1 (k_rty 2) ∈ gTB ∧ Jvm.Cond.initialized yX7_isSmall.cls ∈ gTB ∧ Jvm.Cond.static yX7_isSmall ∈ gTB := ⟨gIn (i := 629) (by decide +kernel) (by decide +kernel), gIn (i := 127) (by decide +kernel) (by decide +kernel), gIn (i := 628) (by decide +kernel) (by decide +kernel)⟩
theorem wd_X7_isSmall : yX7_isSmall.cls ≠ "java/lang/invoke/MethodHandle" ∧ yX7_isSmall.cls ≠ "java/lang/invoke/VarHandle" ∧ (parseMethodDescriptor yX7_isSmall.desc).map (fun d => d.parameters.length) = some 1 := by decide +kernel
theorem wl_RX7_53 : Jvm.Cond.methodLink RX7 53 yX7_wordFrom ∈ gTB := gIn (i := 630) (by decide +kernel) (by decide +kernel)
theorem wk_X7_wordFrom : Jvm.Cond.code yX7_wordFrom cX7_wordFrom 3 (k_rty 1) ∈ gTB ∧ Jvm.Cond.initialized yX7_wordFrom.cls ∈ gTB ∧ Jvm.Cond.instanceMethod yX7_wordFrom ∈ gTB ∧ Jvm.Cond.selects RX7 yX7_wordFrom yX7_wordFrom ∈ gTB := ⟨gIn (i := 633) (by decide +kernel) (by decide +kernel), gIn (i := 127) (by decide +kernel) (by decide +kernel), gIn (i := 632) (by decide +kernel) (by decide +kernel), gIn (i := 3) (by decide +kernel) (by decide +kernel)⟩
theorem wd_X7_wordFrom : yX7_wordFrom.cls ≠ "java/lang/invoke/MethodHandle" ∧ yX7_wordFrom.cls ≠ "java/lang/invoke/VarHandle" ∧ (parseMethodDescriptor yX7_wordFrom.desc).map (fun d => d.parameters.length) = some 2 := by decide +kernel
theorem C_X7_scanToken (hE : k_Eok (gE g tys B0 GI)) (hT : k_tys (gE g tys B0 GI)) : k_Met l (gE g tys B0 GI) τ gTB yX7_scanToken cX7_scanToken 5 1 K_X7_scanToken ⟨17, 0, 0, 622⟩ :=
  k_met (M := M_X7_scanToken) (by decide +kernel) (fun X hl hr hF hts hK => ⟨gFLk7 hts, gCIk7 hts, gCJk7 hts, (show ∀ q ∈ ([(2, K_X7_byteAt), (7, K_X7_isDigit), (16, K_X7_scanNumber), (21, K_X7_isSmall), (46, K_X7_isSmall), (67, K_X7_wordFrom), (90, K_X7_byteAt)] : List (Nat × kCtr)), k_call X (gE g tys B0 GI) 5 τ q.2 q.1 from List.forall_mem_cons.mpr ⟨k_callV (cc := cX7_scanToken) (C := RX7) hF hK hts gGood (C_X7_byteAt hE hT) wk_X7_byteAt.1 wk_X7_byteAt.2.1 wl_RX7_39 wk_X7_byteAt.2.2.1 wk_X7_byteAt.2.2.2 rfl rfl rfl rfl rfl wd_X7_byteAt ⟨by rw [hr]; decide, by rw [hr]; decide⟩ (dec_X7_scanToken (2, .invokevirtual 39, 3) (List.mem_of_getElem? (i := 2) rfl)),
    List.forall_mem_cons.mpr ⟨k_callS (cc := cX7_scanToken) hF hK hts gGood (C_X7_isDigit hE hT) wk_X7_isDigit.1 wk_X7_isDigit.2.1 wl_RX7_43 wk_X7_isDigit.2.2 rfl rfl wd_X7_isDigit ⟨by rw [hr]; decide, by rw [hr]; decide⟩ (dec_X7_scanToken (7, .invokestatic 43, 3) (List.mem_of_getElem? (i := 5) rfl)),
    List.forall_mem_cons.mpr ⟨k_callV (cc := cX7_scanToken) (C := RX7) hF hK hts gGood (C_X7_scanNumber hE hT) wk_X7_scanNumber.1 wk_X7_scanNumber.2.1 wl_RX7_47 wk_X7_scanNumber.2.2.1 wk_X7_scanNumber.2.2.2 rfl rfl rfl rfl rfl wd_X7_scanNumber ⟨by rw [hr]; decide, by rw [hr]; decide⟩ (dec_X7_scanToken (16, .invokevirtual 47, 3) (List.mem_of_getElem? (i := 10) rfl)),
    List.forall_mem_cons.mpr ⟨k_callS (cc := cX7_scanToken) hF hK hts gGood (C_X7_isSmall hE hT) wk_X7_isSmall.1 wk_X7_isSmall.2.1 wl_RX7_50 wk_X7_isSmall.2.2 rfl rfl wd_X7_isSmall ⟨by rw [hr]; decide, by rw [hr]; decide⟩ (dec_X7_scanToken (21, .invokestatic 50, 3) (List.mem_of_getElem? (i := 13) rfl)),
    List.forall_mem_cons.mpr ⟨k_callS (cc := cX7_scanToken) hF hK hts gGood (C_X7_isSmall hE hT) wk_X7_isSmall.1 wk_X7_isSmall.2.1 wl_RX7_50 wk_X7_isSmall.2.2 rfl rfl wd_X7_isSmall ⟨by rw [hr]; decide, by rw [hr]; decide⟩ (dec_X7_scanToken (46, .invokestatic 50, 3) (List.mem_of_getElem? (i := 25) rfl)),
    List.forall_mem_cons.mpr ⟨k_callV (cc := cX7_scanToken) (C := RX7) hF hK hts gGood (C_X7_wordFrom hE hT) wk_X7_wordFrom.1 wk_X7_wordFrom.2.1 wl_RX7_53 wk_X7_wordFrom.2.2.1 wk_X7_wordFrom.2.2.2 rfl rfl rfl rfl rfl wd_X7_wordFrom ⟨by rw [hr]; decide, by rw [hr]; decide⟩ (dec_X7_scanToken (67, .invokevirtual 53, 3) (List.mem_of_getElem? (i := 35) rfl)),
    List.forall_mem_cons.mpr ⟨k_callV (cc := cX7_scanToken) (C := RX7) hF hK hts gGood (C_X7_byteAt hE hT) wk_X7_byteAt.1 wk_X7_byteAt.2.1 wl_RX7_39 wk_X7_byteAt.2.2.1 wk_X7_byteAt.2.2.2 rfl rfl rfl rfl rfl wd_X7_byteAt ⟨by rw [hr]; decide, by rw [hr]; decide⟩ (dec_X7_scanToken (90, .invokevirtual 39, 3) (List.mem_of_getElem? (i := 49) rfl)),
    List.forall_mem_nil _⟩⟩⟩⟩⟩⟩⟩), hE, hT⟩) dec_X7_scanToken chk_X7_scanToken
theorem C_X7_scan (hE : k_Eok (gE g tys B0 GI)) (hT : k_tys (gE g tys B0 GI)) : k_Met l (gE g tys B0 GI) τ gTB yX7_scan cX7_scan 3 0 K_X7_scan ⟨16, 0, 0, 600⟩ := by
  sorry
theorem C_X7_kind (hE : k_Eok (gE g tys B0 GI)) (hT : k_tys (gE g tys B0 GI)) : k_Met l (gE g tys B0 GI) τ gTB yX7_kind cX7_kind 1 1 K_X7_kind ⟨0, 0, 0, 0⟩ :=
  k_met (M := M_X7_kind) (by decide +kernel) (fun X hl hr hF hts hK => ⟨gFLk7 hts, gCIk7 hts, gCJk7 hts, (show ∀ q ∈ ([] : List (Nat × kCtr)), k_call X (gE g tys B0 GI) 1 τ q.2 q.1 from List.forall_mem_nil _), hE, hT⟩) dec_X7_kind chk_X7_kind
theorem C_X7_pass (hE : k_Eok (gE g tys B0 GI)) (hT : k_tys (gE g tys B0 GI)) : k_Met l (gE g tys B0 GI) τ gTB yX7_pass cX7_pass 1 0 K_X7_pass ⟨16, 0, 0, 600⟩ := by
  sorry
theorem C_X7_refuse (hE : k_Eok (gE g tys B0 GI)) (hT : k_tys (gE g tys B0 GI)) : k_Met l (gE g tys B0 GI) τ gTB yX7_refuse cX7_refuse 2 2 K_X7_refuse ⟨0, 0, 0, 0⟩ :=
  k_met (M := M_X7_refuse) (by decide +kernel) (fun X hl hr hF hts hK => ⟨gFLk7 hts, gCIk7 hts, gCJk7 hts, (show ∀ q ∈ ([] : List (Nat × kCtr)), k_call X (gE g tys B0 GI) 2 τ q.2 q.1 from List.forall_mem_nil _), hE, hT⟩) dec_X7_refuse chk_X7_refuse
theorem C_X7_number_0_5 (hE : k_Eok (gE g tys B0 GI)) (hT : k_tys (gE g tys B0 GI)) : k_Met l (gE g tys B0 GI) τ gTB yX7_number cX7_number 5 1 K_X7_number_0_5 ⟨16, 0, 0, 600⟩ := by
  sorry
theorem C_X7_number_0_6 (hE : k_Eok (gE g tys B0 GI)) (hT : k_tys (gE g tys B0 GI)) : k_Met l (gE g tys B0 GI) τ gTB yX7_number cX7_number 5 1 K_X7_number_0_6 ⟨16, 0, 0, 600⟩ := by
  sorry
theorem C_X7_number_0_9 (hE : k_Eok (gE g tys B0 GI)) (hT : k_tys (gE g tys B0 GI)) : k_Met l (gE g tys B0 GI) τ gTB yX7_number cX7_number 5 1 K_X7_number_0_9 ⟨16, 0, 0, 600⟩ := by
  sorry
theorem C_X7_number_1_9 (hE : k_Eok (gE g tys B0 GI)) (hT : k_tys (gE g tys B0 GI)) : k_Met l (gE g tys B0 GI) τ gTB yX7_number cX7_number 5 1 K_X7_number_1_9 ⟨16, 0, 0, 600⟩ := by
  sorry
theorem C_X7_number_0_20 (hE : k_Eok (gE g tys B0 GI)) (hT : k_tys (gE g tys B0 GI)) : k_Met l (gE g tys B0 GI) τ gTB yX7_number cX7_number 5 1 K_X7_number_0_20 ⟨16, 0, 0, 600⟩ := by
  sorry
theorem C_X7_number_0_99 (hE : k_Eok (gE g tys B0 GI)) (hT : k_tys (gE g tys B0 GI)) : k_Met l (gE g tys B0 GI) τ gTB yX7_number cX7_number 5 1 K_X7_number_0_99 ⟨16, 0, 0, 600⟩ := by
  sorry
theorem C_X8_wipe (hE : k_Eok (gE g tys B0 GI)) (hT : k_tys (gE g tys B0 GI)) : k_Met l (gE g tys B0 GI) τ gTB yX8_wipe cX8_wipe 2 0 K_X8_wipe ⟨0, 0, 0, 0⟩ :=
  k_met (M := M_X8_wipe) (by decide +kernel) (fun X hl hr hF hts hK => ⟨gFLk8 hts, gCIk8 hts, gCJk8 hts, (show ∀ q ∈ ([] : List (Nat × kCtr)), k_call X (gE g tys B0 GI) 2 τ q.2 q.1 from List.forall_mem_nil _), hE, hT⟩) dec_X8_wipe chk_X8_wipe
theorem wl_RX8_41 : Jvm.Cond.methodLink RX8 41 arraycopyName ∈ gTB := gIn (i := 770) (by decide +kernel) (by decide +kernel)
theorem C_X8_copyFrom (hE : k_Eok (gE g tys B0 GI)) (hT : k_tys (gE g tys B0 GI)) : k_Met l (gE g tys B0 GI) τ gTB yX8_copyFrom cX8_copyFrom 2 0 K_X8_copyFrom ⟨1, 0, 0, 26⟩ :=
  k_met (M := M_X8_copyFrom) (by decide +kernel) (fun X hl hr hF hts hK => ⟨gFLk8 hts, gCIk8 hts, gCJk8 hts, (show ∀ q ∈ ([(44, K_arraycopy_A6_6), (59, K_arraycopy_A6_6), (74, K_arraycopy_A6_6), (89, K_arraycopy_A6_6), (107, K_arraycopy_ways_49)] : List (Nat × kCtr)), k_call X (gE g tys B0 GI) 2 τ q.2 q.1 from List.forall_mem_cons.mpr ⟨k_copyi (cc := cX8_copyFrom) (t := 16) (N := 6) hF hK hT (hts _ wl_RX8_41) (hts _ wm_cp.1) (hts _ wm_cp.2.1) (hts _ wm_cp.2.2) rfl (by decide) (by rw [hr]; decide) (by rw [hr]; decide) (dec_X8_copyFrom (44, .invokestatic 41, 3) (List.mem_of_getElem? (i := 23) rfl)),
    List.forall_mem_cons.mpr ⟨k_copyi (cc := cX8_copyFrom) (t := 16) (N := 6) hF hK hT (hts _ wl_RX8_41) (hts _ wm_cp.1) (hts _ wm_cp.2.1) (hts _ wm_cp.2.2) rfl (by decide) (by rw [hr]; decide) (by rw [hr]; decide) (dec_X8_copyFrom (59, .invokestatic 41, 3) (List.mem_of_getElem? (i := 31) rfl)),
    List.forall_mem_cons.mpr ⟨k_copyi (cc := cX8_copyFrom) (t := 16) (N := 6) hF hK hT (hts _ wl_RX8_41) (hts _ wm_cp.1) (hts _ wm_cp.2.1) (hts _ wm_cp.2.2) rfl (by decide) (by rw [hr]; decide) (by rw [hr]; decide) (dec_X8_copyFrom (74, .invokestatic 41, 3) (List.mem_of_getElem? (i := 39) rfl)),
    List.forall_mem_cons.mpr ⟨k_copyi (cc := cX8_copyFrom) (t := 16) (N := 6) hF hK hT (hts _ wl_RX8_41) (hts _ wm_cp.1) (hts _ wm_cp.2.1) (hts _ wm_cp.2.2) rfl (by decide) (by rw [hr]; decide) (by rw [hr]; decide) (dec_X8_copyFrom (89, .invokestatic 41, 3) (List.mem_of_getElem? (i := 47) rfl)),
    List.forall_mem_cons.mpr ⟨k_copyi (cc := cX8_copyFrom) (t := 17) (N := 49) hF hK hT (hts _ wl_RX8_41) (hts _ wm_cp.1) (hts _ wm_cp.2.1) (hts _ wm_cp.2.2) rfl (by decide) (by rw [hr]; decide) (by rw [hr]; decide) (dec_X8_copyFrom (107, .invokestatic 41, 3) (List.mem_of_getElem? (i := 57) rfl)),
    List.forall_mem_nil _⟩⟩⟩⟩⟩), hE, hT⟩) dec_X8_copyFrom chk_X8_copyFrom
theorem C_X8_addRoad (hE : k_Eok (gE g tys B0 GI)) (hT : k_tys (gE g tys B0 GI)) : k_Met l (gE g tys B0 GI) τ gTB yX8_addRoad cX8_addRoad 4 0 K_X8_addRoad ⟨0, 0, 0, 0⟩ :=
  k_met (M := M_X8_addRoad) (by decide +kernel) (fun X hl hr hF hts hK => ⟨gFLk8 hts, gCIk8 hts, gCJk8 hts, (show ∀ q ∈ ([] : List (Nat × kCtr)), k_call X (gE g tys B0 GI) 4 τ q.2 q.1 from List.forall_mem_nil _), hE, hT⟩) dec_X8_addRoad chk_X8_addRoad
theorem C_X8_addBeside (hE : k_Eok (gE g tys B0 GI)) (hT : k_tys (gE g tys B0 GI)) : k_Met l (gE g tys B0 GI) τ gTB yX8_addBeside cX8_addBeside 3 0 K_X8_addBeside ⟨0, 0, 0, 0⟩ :=
  k_met (M := M_X8_addBeside) (by decide +kernel) (fun X hl hr hF hts hK => ⟨gFLk8 hts, gCIk8 hts, gCJk8 hts, (show ∀ q ∈ ([] : List (Nat × kCtr)), k_call X (gE g tys B0 GI) 3 τ q.2 q.1 from List.forall_mem_nil _), hE, hT⟩) dec_X8_addBeside chk_X8_addBeside
theorem C_X8_shorten (hE : k_Eok (gE g tys B0 GI)) (hT : k_tys (gE g tys B0 GI)) : k_Met l (gE g tys B0 GI) τ gTB yX8_shorten cX8_shorten 7 0 K_X8_shorten ⟨0, 0, 0, 0⟩ :=
  k_met (M := M_X8_shorten) (by decide +kernel) (fun X hl hr hF hts hK => ⟨gFLk8 hts, gCIk8 hts, gCJk8 hts, (show ∀ q ∈ ([] : List (Nat × kCtr)), k_call X (gE g tys B0 GI) 7 τ q.2 q.1 from List.forall_mem_nil _), hE, hT⟩) dec_X8_shorten chk_X8_shorten
theorem wl_RX8_47 : Jvm.Cond.methodLink RX8 47 yX8_shorten ∈ gTB := gIn (i := 762) (by decide +kernel) (by decide +kernel)
theorem wk_X8_shorten : Jvm.Cond.code yX8_shorten cX8_shorten 7 (k_rty 0) ∈ gTB ∧ Jvm.Cond.initialized yX8_shorten.cls ∈ gTB ∧ Jvm.Cond.instanceMethod yX8_shorten ∈ gTB ∧ Jvm.Cond.selects RX8 yX8_shorten yX8_shorten ∈ gTB := ⟨gIn (i := 765) (by decide +kernel) (by decide +kernel), gIn (i := 129) (by decide +kernel) (by decide +kernel), gIn (i := 764) (by decide +kernel) (by decide +kernel), gIn (i := 11) (by decide +kernel) (by decide +kernel)⟩
theorem wd_X8_shorten : yX8_shorten.cls ≠ "java/lang/invoke/MethodHandle" ∧ yX8_shorten.cls ≠ "java/lang/invoke/VarHandle" ∧ (parseMethodDescriptor yX8_shorten.desc).map (fun d => d.parameters.length) = some 3 := by decide +kernel
theorem C_X8_findWays (hE : k_Eok (gE g tys B0 GI)) (hT : k_tys (gE g tys B0 GI)) : k_Met l (gE g tys B0 GI) τ gTB yX8_findWays cX8_findWays 4 0 K_X8_findWays ⟨1, 0, 0, 26⟩ :=
  k_met (M := M_X8_findWays) (by decide +kernel) (fun X hl hr hF hts hK => ⟨gFLk8 hts, gCIk8 hts, gCJk8 hts, (show ∀ q ∈ ([(54, K_X8_shorten)] : List (Nat × kCtr)), k_call X (gE g tys B0 GI) 4 τ q.2 q.1 from List.forall_mem_cons.mpr ⟨k_callV (cc := cX8_findWays) (C := RX8) hF hK hts gGood (C_X8_shorten hE hT) wk_X8_shorten.1 wk_X8_shorten.2.1 wl_RX8_47 wk_X8_shorten.2.2.1 wk_X8_shorten.2.2.2 rfl rfl rfl rfl rfl wd_X8_shorten ⟨by rw [hr]; decide, by rw [hr]; decide⟩ (dec_X8_findWays (54, .invokevirtual 47, 3) (List.mem_of_getElem? (i := 35) rfl)),
    List.forall_mem_nil _⟩), hE, hT⟩) dec_X8_findWays chk_X8_findWays
theorem wl_RX6_28 : Jvm.Cond.methodLink RX6 28 arraycopyName ∈ gTB := gIn (i := 777) (by decide +kernel) (by decide +kernel)
theorem C_X6_copyFrom (hE : k_Eok (gE g tys B0 GI)) (hT : k_tys (gE g tys B0 GI)) : k_Met l (gE g tys B0 GI) τ gTB yX6_copyFrom cX6_copyFrom 2 0 K_X6_copyFrom ⟨1, 0, 0, 26⟩ :=
  k_met (M := M_X6_copyFrom) (by decide +kernel) (fun X hl hr hF hts hK => ⟨gFLk6 hts, gCIk6 hts, gCJk6 hts, (show ∀ q ∈ ([(12, K_arraycopy_A6_6), (27, K_arraycopy_A6_6), (42, K_arraycopy_A6_6), (57, K_arraycopy_A6_6)] : List (Nat × kCtr)), k_call X (gE g tys B0 GI) 2 τ q.2 q.1 from List.forall_mem_cons.mpr ⟨k_copyi (cc := cX6_copyFrom) (t := 16) (N := 6) hF hK hT (hts _ wl_RX6_28) (hts _ wm_cp.1) (hts _ wm_cp.2.1) (hts _ wm_cp.2.2) rfl (by decide) (by rw [hr]; decide) (by rw [hr]; decide) (dec_X6_copyFrom (12, .invokestatic 28, 3) (List.mem_of_getElem? (i := 7) rfl)),
    List.forall_mem_cons.mpr ⟨k_copyi (cc := cX6_copyFrom) (t := 16) (N := 6) hF hK hT (hts _ wl_RX6_28) (hts _ wm_cp.1) (hts _ wm_cp.2.1) (hts _ wm_cp.2.2) rfl (by decide) (by rw [hr]; decide) (by rw [hr]; decide) (dec_X6_copyFrom (27, .invokestatic 28, 3) (List.mem_of_getElem? (i := 15) rfl)),
    List.forall_mem_cons.mpr ⟨k_copyi (cc := cX6_copyFrom) (t := 16) (N := 6) hF hK hT (hts _ wl_RX6_28) (hts _ wm_cp.1) (hts _ wm_cp.2.1) (hts _ wm_cp.2.2) rfl (by decide) (by rw [hr]; decide) (by rw [hr]; decide) (dec_X6_copyFrom (42, .invokestatic 28, 3) (List.mem_of_getElem? (i := 23) rfl)),
    List.forall_mem_cons.mpr ⟨k_copyi (cc := cX6_copyFrom) (t := 16) (N := 6) hF hK hT (hts _ wl_RX6_28) (hts _ wm_cp.1) (hts _ wm_cp.2.1) (hts _ wm_cp.2.2) rfl (by decide) (by rw [hr]; decide) (by rw [hr]; decide) (dec_X6_copyFrom (57, .invokestatic 28, 3) (List.mem_of_getElem? (i := 31) rfl)),
    List.forall_mem_nil _⟩⟩⟩⟩), hE, hT⟩) dec_X6_copyFrom chk_X6_copyFrom
theorem C_X6_startOf (hE : k_Eok (gE g tys B0 GI)) (hT : k_tys (gE g tys B0 GI)) : k_Met l (gE g tys B0 GI) τ gTB yX6_startOf cX6_startOf 3 0 K_X6_startOf ⟨1, 0, 0, 26⟩ :=
  k_met (M := M_X6_startOf) (by decide +kernel) (fun X hl hr hF hts hK => ⟨gFLk6 hts, gCIk6 hts, gCJk6 hts, (show ∀ q ∈ ([(12, K_arraycopy_A6_6), (27, K_arraycopy_A6_6), (42, K_arraycopy_A6_6)] : List (Nat × kCtr)), k_call X (gE g tys B0 GI) 3 τ q.2 q.1 from List.forall_mem_cons.mpr ⟨k_copyi (cc := cX6_startOf) (t := 16) (N := 6) hF hK hT (hts _ wl_RX6_28) (hts _ wm_cp.1) (hts _ wm_cp.2.1) (hts _ wm_cp.2.2) rfl (by decide) (by rw [hr]; decide) (by rw [hr]; decide) (dec_X6_startOf (12, .invokestatic 28, 3) (List.mem_of_getElem? (i := 7) rfl)),
    List.forall_mem_cons.mpr ⟨k_copyi (cc := cX6_startOf) (t := 16) (N := 6) hF hK hT (hts _ wl_RX6_28) (hts _ wm_cp.1) (hts _ wm_cp.2.1) (hts _ wm_cp.2.2) rfl (by decide) (by rw [hr]; decide) (by rw [hr]; decide) (dec_X6_startOf (27, .invokestatic 28, 3) (List.mem_of_getElem? (i := 15) rfl)),
    List.forall_mem_cons.mpr ⟨k_copyi (cc := cX6_startOf) (t := 16) (N := 6) hF hK hT (hts _ wl_RX6_28) (hts _ wm_cp.1) (hts _ wm_cp.2.1) (hts _ wm_cp.2.2) rfl (by decide) (by rw [hr]; decide) (by rw [hr]; decide) (dec_X6_startOf (42, .invokestatic 28, 3) (List.mem_of_getElem? (i := 23) rfl)),
    List.forall_mem_nil _⟩⟩⟩), hE, hT⟩) dec_X6_startOf chk_X6_startOf
theorem C_X6_fires (hE : k_Eok (gE g tys B0 GI)) (hT : k_tys (gE g tys B0 GI)) : k_Met l (gE g tys B0 GI) τ gTB yX6_fires cX6_fires 3 1 K_X6_fires ⟨0, 0, 0, 0⟩ :=
  k_met (M := M_X6_fires) (by decide +kernel) (fun X hl hr hF hts hK => ⟨gFLk6 hts, gCIk6 hts, gCJk6 hts, (show ∀ q ∈ ([] : List (Nat × kCtr)), k_call X (gE g tys B0 GI) 3 τ q.2 q.1 from List.forall_mem_nil _), hE, hT⟩) dec_X6_fires chk_X6_fires
theorem C_X6_allWorth (hE : k_Eok (gE g tys B0 GI)) (hT : k_tys (gE g tys B0 GI)) : k_Met l (gE g tys B0 GI) τ gTB yX6_allWorth cX6_allWorth 3 1 K_X6_allWorth ⟨0, 0, 0, 0⟩ :=
  k_met (M := M_X6_allWorth) (by decide +kernel) (fun X hl hr hF hts hK => ⟨gFLk6 hts, gCIk6 hts, gCJk6 hts, (show ∀ q ∈ ([] : List (Nat × kCtr)), k_call X (gE g tys B0 GI) 3 τ q.2 q.1 from List.forall_mem_nil _), hE, hT⟩) dec_X6_allWorth chk_X6_allWorth
theorem C_X6_canCatch (hE : k_Eok (gE g tys B0 GI)) (hT : k_tys (gE g tys B0 GI)) : k_Met l (gE g tys B0 GI) τ gTB yX6_canCatch cX6_canCatch 2 2 K_X6_canCatch ⟨0, 0, 0, 0⟩ :=
  k_met (M := M_X6_canCatch) (by decide +kernel) (fun X hl hr hF hts hK => ⟨gFLk6 hts, gCIk6 hts, gCJk6 hts, (show ∀ q ∈ ([] : List (Nat × kCtr)), k_call X (gE g tys B0 GI) 2 τ q.2 q.1 from List.forall_mem_nil _), hE, hT⟩) dec_X6_canCatch chk_X6_canCatch
theorem C_X6_isFree (hE : k_Eok (gE g tys B0 GI)) (hT : k_tys (gE g tys B0 GI)) : k_Met l (gE g tys B0 GI) τ gTB yX6_isFree cX6_isFree 1 2 K_X6_isFree ⟨0, 0, 0, 0⟩ :=
  k_met (M := M_X6_isFree) (by decide +kernel) (fun X hl hr hF hts hK => ⟨gFLk6 hts, gCIk6 hts, gCJk6 hts, (show ∀ q ∈ ([] : List (Nat × kCtr)), k_call X (gE g tys B0 GI) 1 τ q.2 q.1 from List.forall_mem_nil _), hE, hT⟩) dec_X6_isFree chk_X6_isFree
theorem C_X6_setOut (hE : k_Eok (gE g tys B0 GI)) (hT : k_tys (gE g tys B0 GI)) : k_Met l (gE g tys B0 GI) τ gTB yX6_setOut cX6_setOut 3 0 K_X6_setOut ⟨0, 0, 0, 0⟩ :=
  k_met (M := M_X6_setOut) (by decide +kernel) (fun X hl hr hF hts hK => ⟨gFLk6 hts, gCIk6 hts, gCJk6 hts, (show ∀ q ∈ ([] : List (Nat × kCtr)), k_call X (gE g tys B0 GI) 3 τ q.2 q.1 from List.forall_mem_nil _), hE, hT⟩) dec_X6_setOut chk_X6_setOut
theorem wl_RX6_51 : Jvm.Cond.methodLink RX6 51 yX6_fires ∈ gTB := gIn (i := 1239) (by decide +kernel) (by decide +kernel)
theorem wk_X6_fires : Jvm.Cond.code yX6_fires cX6_fires 3 (k_rty 1) ∈ gTB ∧ Jvm.Cond.initialized yX6_fires.cls ∈ gTB ∧ Jvm.Cond.instanceMethod yX6_fires ∈ gTB ∧ Jvm.Cond.selects RX6 yX6_fires yX6_fires ∈ gTB := ⟨gIn (i := 922) (by decide +kernel) (by decide +kernel), gIn (i := 130) (by decide +kernel) (by decide +kernel), gIn (i := 920) (by decide +kernel) (by decide +kernel), gIn (i := 921) (by decide +kernel) (by decide +kernel)⟩
theorem wd_X6_fires : yX6_fires.cls ≠ "java/lang/invoke/MethodHandle" ∧ yX6_fires.cls ≠ "java/lang/invoke/VarHandle" ∧ (parseMethodDescriptor yX6_fires.desc).map (fun d => d.parameters.length) = some 0 := by decide +kernel
theorem wl_RX6_55 : Jvm.Cond.methodLink RX6 55 yX6_allWorth ∈ gTB := gIn (i := 1240) (by decide +kernel) (by decide +kernel)
theorem wk_X6_allWorth : Jvm.Cond.code yX6_allWorth cX6_allWorth 3 (k_rty 1) ∈ gTB ∧ Jvm.Cond.initialized yX6_allWorth.cls ∈ gTB ∧ Jvm.Cond.instanceMethod yX6_allWorth ∈ gTB ∧ Jvm.Cond.selects RX6 yX6_allWorth yX6_allWorth ∈ gTB := ⟨gIn (i := 1034) (by decide +kernel) (by decide +kernel), gIn (i := 130) (by decide +kernel) (by decide +kernel), gIn (i := 1032) (by decide +kernel) (by decide +kernel), gIn (i := 1033) (by decide +kernel) (by decide +kernel)⟩
theorem wd_X6_allWorth : yX6_allWorth.cls ≠ "java/lang/invoke/MethodHandle" ∧ yX6_allWorth.cls ≠ "java/lang/invoke/VarHandle" ∧ (parseMethodDescriptor yX6_allWorth.desc).map (fun d => d.parameters.length) = some 0 := by decide +kernel
theorem C_X6_counted (hE : k_Eok (gE g tys B0 GI)) (hT : k_tys (gE g tys B0 GI)) : k_Met l (gE g tys B0 GI) τ gTB yX6_counted cX6_counted 2 1 K_X6_counted ⟨1, 0, 0, 22⟩ :=
  k_met (M := M_X6_counted) (by decide +kernel) (fun X hl hr hF hts hK => ⟨gFLk6 hts, gCIk6 hts, gCJk6 hts, (show ∀ q ∈ ([(65, K_X6_fires), (70, K_X6_allWorth)] : List (Nat × kCtr)), k_call X (gE g tys B0 GI) 2 τ q.2 q.1 from List.forall_mem_cons.mpr ⟨k_callV (cc := cX6_counted) (C := RX6) hF hK hts gGood (C_X6_fires hE hT) wk_X6_fires.1 wk_X6_fires.2.1 wl_RX6_51 wk_X6_fires.2.2.1 wk_X6_fires.2.2.2 rfl rfl rfl rfl rfl wd_X6_fires ⟨by rw [hr]; decide, by rw [hr]; decide⟩ (dec_X6_counted (65, .invokevirtual 51, 3) (List.mem_of_getElem? (i := 15) rfl)),
    List.forall_mem_cons.mpr ⟨k_callV (cc := cX6_counted) (C := RX6) hF hK hts gGood (C_X6_allWorth hE hT) wk_X6_allWorth.1 wk_X6_allWorth.2.1 wl_RX6_55 wk_X6_allWorth.2.2.1 wk_X6_allWorth.2.2.2 rfl rfl rfl rfl rfl wd_X6_allWorth ⟨by rw [hr]; decide, by rw [hr]; decide⟩ (dec_X6_counted (70, .invokevirtual 55, 3) (List.mem_of_getElem? (i := 18) rfl)),
    List.forall_mem_nil _⟩⟩), hE, hT⟩) dec_X6_counted chk_X6_counted
theorem wl_RX10_36 : Jvm.Cond.methodLink RX10 36 yX8_copyFrom ∈ gTB := gIn (i := 1249) (by decide +kernel) (by decide +kernel)
theorem wk_X8_copyFrom : Jvm.Cond.code yX8_copyFrom cX8_copyFrom 2 (k_rty 0) ∈ gTB ∧ Jvm.Cond.initialized yX8_copyFrom.cls ∈ gTB ∧ Jvm.Cond.instanceMethod yX8_copyFrom ∈ gTB ∧ Jvm.Cond.selects RX8 yX8_copyFrom yX8_copyFrom ∈ gTB := ⟨gIn (i := 769) (by decide +kernel) (by decide +kernel), gIn (i := 129) (by decide +kernel) (by decide +kernel), gIn (i := 767) (by decide +kernel) (by decide +kernel), gIn (i := 768) (by decide +kernel) (by decide +kernel)⟩
theorem wd_X8_copyFrom : yX8_copyFrom.cls ≠ "java/lang/invoke/MethodHandle" ∧ yX8_copyFrom.cls ≠ "java/lang/invoke/VarHandle" ∧ (parseMethodDescriptor yX8_copyFrom.desc).map (fun d => d.parameters.length) = some 1 := by decide +kernel
theorem wl_RX10_40 : Jvm.Cond.methodLink RX10 40 yX6_copyFrom ∈ gTB := gIn (i := 1250) (by decide +kernel) (by decide +kernel)
theorem wk_X6_copyFrom : Jvm.Cond.code yX6_copyFrom cX6_copyFrom 2 (k_rty 0) ∈ gTB ∧ Jvm.Cond.initialized yX6_copyFrom.cls ∈ gTB ∧ Jvm.Cond.instanceMethod yX6_copyFrom ∈ gTB ∧ Jvm.Cond.selects RX6 yX6_copyFrom yX6_copyFrom ∈ gTB := ⟨gIn (i := 897) (by decide +kernel) (by decide +kernel), gIn (i := 130) (by decide +kernel) (by decide +kernel), gIn (i := 895) (by decide +kernel) (by decide +kernel), gIn (i := 896) (by decide +kernel) (by decide +kernel)⟩
theorem wd_X6_copyFrom : yX6_copyFrom.cls ≠ "java/lang/invoke/MethodHandle" ∧ yX6_copyFrom.cls ≠ "java/lang/invoke/VarHandle" ∧ (parseMethodDescriptor yX6_copyFrom.desc).map (fun d => d.parameters.length) = some 1 := by decide +kernel
theorem wl_RX10_43 : Jvm.Cond.methodLink RX10 43 arraycopyName ∈ gTB := gIn (i := 1251) (by decide +kernel) (by decide +kernel)
theorem C_X10_copyFrom (hE : k_Eok (gE g tys B0 GI)) (hT : k_tys (gE g tys B0 GI)) : k_Met l (gE g tys B0 GI) τ gTB yX10_copyFrom cX10_copyFrom 2 0 K_X10_copyFrom ⟨2, 0, 0, 47⟩ :=
  k_met (M := M_X10_copyFrom) (by decide +kernel) (fun X hl hr hF hts hK => ⟨gFLk10 hts, gCIk10 hts, gCJk10 hts, (show ∀ q ∈ ([(8, K_X8_copyFrom), (19, K_X6_copyFrom), (34, K_arraycopy_noteH_10), (49, K_arraycopy_noteP_10)] : List (Nat × kCtr)), k_call X (gE g tys B0 GI) 2 τ q.2 q.1 from List.forall_mem_cons.mpr ⟨k_callV (cc := cX10_copyFrom) (C := RX8) hF hK hts gGood (C_X8_copyFrom hE hT) wk_X8_copyFrom.1 wk_X8_copyFrom.2.1 wl_RX10_36 wk_X8_copyFrom.2.2.1 wk_X8_copyFrom.2.2.2 rfl rfl rfl rfl rfl wd_X8_copyFrom ⟨by rw [hr]; decide, by rw [hr]; decide⟩ (dec_X10_copyFrom (8, .invokevirtual 36, 3) (List.mem_of_getElem? (i := 4) rfl)),
    List.forall_mem_cons.mpr ⟨k_callV (cc := cX10_copyFrom) (C := RX6) hF hK hts gGood (C_X6_copyFrom hE hT) wk_X6_copyFrom.1 wk_X6_copyFrom.2.1 wl_RX10_40 wk_X6_copyFrom.2.2.1 wk_X6_copyFrom.2.2.2 rfl rfl rfl rfl rfl wd_X6_copyFrom ⟨by rw [hr]; decide, by rw [hr]; decide⟩ (dec_X10_copyFrom (19, .invokevirtual 40, 3) (List.mem_of_getElem? (i := 9) rfl)),
    List.forall_mem_cons.mpr ⟨k_copyi (cc := cX10_copyFrom) (t := 18) (N := 10) hF hK hT (hts _ wl_RX10_43) (hts _ wm_cp.1) (hts _ wm_cp.2.1) (hts _ wm_cp.2.2) rfl (by decide) (by rw [hr]; decide) (by rw [hr]; decide) (dec_X10_copyFrom (34, .invokestatic 43, 3) (List.mem_of_getElem? (i := 17) rfl)),
    List.forall_mem_cons.mpr ⟨k_copyi (cc := cX10_copyFrom) (t := 19) (N := 10) hF hK hT (hts _ wl_RX10_43) (hts _ wm_cp.1) (hts _ wm_cp.2.1) (hts _ wm_cp.2.2) rfl (by decide) (by rw [hr]; decide) (by rw [hr]; decide) (dec_X10_copyFrom (49, .invokestatic 43, 3) (List.mem_of_getElem? (i := 25) rfl)),
    List.forall_mem_nil _⟩⟩⟩⟩), hE, hT⟩) dec_X10_copyFrom chk_X10_copyFrom
end
end
section
/-! ===== contracts ===== -/
section
variable {l : Launch} {g : va_G} {tys : List (ClassId × FieldType)} {B0 : Nat} {GI : Nat → kTau → Heap → Prop} {τ : kTau}
theorem C_X1_chooseRule (hE : k_Eok (gE g tys B0 GI)) (hT : k_tys (gE g tys B0 GI)) : k_Met l (gE g tys B0 GI) τ gTB yX1_chooseRule cX1_chooseRule 2 0 K_X1_chooseRule ⟨0, 0, 0, 0⟩ :=
  k_met (M := M_X1_chooseRule) (by decide +kernel) (fun X hl hr hF hts hK => ⟨gFLk1 hts, gCIk1 hts, gCJk1 hts, (show ∀ q ∈ ([] : List (Nat × kCtr)), k_call X (gE g tys B0 GI) 2 τ q.2 q.1 from List.forall_mem_nil _), hE, hT⟩) dec_X1_chooseRule chk_X1_chooseRule
theorem wl_RX1_42 : Jvm.Cond.methodLink RX1 42 yX6_copyFrom ∈ gTB := gIn (i := 902) (by decide +kernel) (by decide +kernel)
theorem wl_RX1_55 : Jvm.Cond.methodLink RX1 55 yX1_chooseRule ∈ gTB := gIn (i := 903) (by decide +kernel) (by decide +kernel)
theorem wk_X1_chooseRule : Jvm.Cond.code yX1_chooseRule cX1_chooseRule 2 (k_rty 0) ∈ gTB ∧ Jvm.Cond.initialized yX1_chooseRule.cls ∈ gTB ∧ Jvm.Cond.instanceMethod yX1_chooseRule ∈ gTB ∧ Jvm.Cond.selects RX1 yX1_chooseRule yX1_chooseRule ∈ gTB := ⟨gIn (i := 906) (by decide +kernel) (by decide +kernel), gIn (i := 133) (by decide +kernel) (by decide +kernel), gIn (i := 905) (by decide +kernel) (by decide +kernel), gIn (i := 23) (by decide +kernel) (by decide +kernel)⟩
theorem wd_X1_chooseRule : yX1_chooseRule.cls ≠ "java/lang/invoke/MethodHandle" ∧ yX1_chooseRule.cls ≠ "java/lang/invoke/VarHandle" ∧ (parseMethodDescriptor yX1_chooseRule.desc).map (fun d => d.parameters.length) = some 1 := by decide +kernel
theorem C_X1_beginNow (hE : k_Eok (gE g tys B0 GI)) (hT : k_tys (gE g tys B0 GI)) : k_Met l (gE g tys B0 GI) τ gTB yX1_beginNow cX1_beginNow 1 0 K_X1_beginNow ⟨2, 0, 0, 47⟩ :=
  k_met (M := M_X1_beginNow) (by decide +kernel) (fun X hl hr hF hts hK => ⟨gFLk1 hts, gCIk1 hts, gCJk1 hts, (show ∀ q ∈ ([(11, K_X6_copyFrom), (33, K_X1_chooseRule)] : List (Nat × kCtr)), k_call X (gE g tys B0 GI) 1 τ q.2 q.1 from List.forall_mem_cons.mpr ⟨k_callV (cc := cX1_beginNow) (C := RX6) hF hK hts gGood (C_X6_copyFrom hE hT) wk_X6_copyFrom.1 wk_X6_copyFrom.2.1 wl_RX1_42 wk_X6_copyFrom.2.2.1 wk_X6_copyFrom.2.2.2 rfl rfl rfl rfl rfl wd_X6_copyFrom ⟨by rw [hr]; decide, by rw [hr]; decide⟩ (dec_X1_beginNow (11, .invokevirtual 42, 3) (List.mem_of_getElem? (i := 5) rfl)),
    List.forall_mem_cons.mpr ⟨k_callV (cc := cX1_beginNow) (C := RX1) hF hK hts gGood (C_X1_chooseRule hE hT) wk_X1_chooseRule.1 wk_X1_chooseRule.2.1 wl_RX1_55 wk_X1_chooseRule.2.2.1 wk_X1_chooseRule.2.2.2 rfl rfl rfl rfl rfl wd_X1_chooseRule ⟨by rw [hr]; decide, by rw [hr]; decide⟩ (dec_X1_beginNow (33, .invokevirtual 55, 3) (List.mem_of_getElem? (i := 15) rfl)),
    List.forall_mem_nil _⟩⟩), hE, hT⟩) dec_X1_beginNow chk_X1_beginNow
theorem wl_RX1_59 : Jvm.Cond.methodLink RX1 59 yX6_startOf ∈ gTB := gIn (i := 1187) (by decide +kernel) (by decide +kernel)
theorem wk_X6_startOf : Jvm.Cond.code yX6_startOf cX6_startOf 3 (k_rty 0) ∈ gTB ∧ Jvm.Cond.initialized yX6_startOf.cls ∈ gTB ∧ Jvm.Cond.instanceMethod yX6_startOf ∈ gTB ∧ Jvm.Cond.selects RX6 yX6_startOf yX6_startOf ∈ gTB := ⟨gIn (i := 776) (by decide +kernel) (by decide +kernel), gIn (i := 130) (by decide +kernel) (by decide +kernel), gIn (i := 774) (by decide +kernel) (by decide +kernel), gIn (i := 775) (by decide +kernel) (by decide +kernel)⟩
theorem wd_X6_startOf : yX6_startOf.cls ≠ "java/lang/invoke/MethodHandle" ∧ yX6_startOf.cls ≠ "java/lang/invoke/VarHandle" ∧ (parseMethodDescriptor yX6_startOf.desc).map (fun d => d.parameters.length) = some 1 := by decide +kernel
theorem C_X1_beginAsTold (hE : k_Eok (gE g tys B0 GI)) (hT : k_tys (gE g tys B0 GI)) : k_Met l (gE g tys B0 GI) τ gTB yX1_beginAsTold cX1_beginAsTold 2 0 K_X1_beginAsTold ⟨2, 0, 0, 48⟩ :=
  k_met (M := M_X1_beginAsTold) (by decide +kernel) (fun X hl hr hF hts hK => ⟨gFLk1 hts, gCIk1 hts, gCJk1 hts, (show ∀ q ∈ ([(8, K_X6_startOf), (24, K_X1_chooseRule)] : List (Nat × kCtr)), k_call X (gE g tys B0 GI) 2 τ q.2 q.1 from List.forall_mem_cons.mpr ⟨k_callV (cc := cX1_beginAsTold) (C := RX6) hF hK hts gGood (C_X6_startOf hE hT) wk_X6_startOf.1 wk_X6_startOf.2.1 wl_RX1_59 wk_X6_startOf.2.2.1 wk_X6_startOf.2.2.2 rfl rfl rfl rfl rfl wd_X6_startOf ⟨by rw [hr]; decide, by rw [hr]; decide⟩ (dec_X1_beginAsTold (8, .invokevirtual 59, 3) (List.mem_of_getElem? (i := 4) rfl)),
    List.forall_mem_cons.mpr ⟨k_callV (cc := cX1_beginAsTold) (C := RX1) hF hK hts gGood (C_X1_chooseRule hE hT) wk_X1_chooseRule.1 wk_X1_chooseRule.2.1 wl_RX1_55 wk_X1_chooseRule.2.2.1 wk_X1_chooseRule.2.2.2 rfl rfl rfl rfl rfl wd_X1_chooseRule ⟨by rw [hr]; decide, by rw [hr]; decide⟩ (dec_X1_beginAsTold (24, .invokevirtual 55, 3) (List.mem_of_getElem? (i := 12) rfl)),
    List.forall_mem_nil _⟩⟩), hE, hT⟩) dec_X1_beginAsTold chk_X1_beginAsTold
theorem C_X1_wayTo (hE : k_Eok (gE g tys B0 GI)) (hT : k_tys (gE g tys B0 GI)) : k_Met l (gE g tys B0 GI) τ gTB yX1_wayTo cX1_wayTo 2 1 K_X1_wayTo ⟨0, 0, 0, 0⟩ :=
  k_met (M := M_X1_wayTo) (by decide +kernel) (fun X hl hr hF hts hK => ⟨gFLk1 hts, gCIk1 hts, gCJk1 hts, (show ∀ q ∈ ([] : List (Nat × kCtr)), k_call X (gE g tys B0 GI) 2 τ q.2 q.1 from List.forall_mem_nil _), hE, hT⟩) dec_X1_wayTo chk_X1_wayTo
theorem wl_RX1_101 : Jvm.Cond.methodLink RX1 101 yX1_wayTo ∈ gTB := gIn (i := 929) (by decide +kernel) (by decide +kernel)
theorem wk_X1_wayTo : Jvm.Cond.code yX1_wayTo cX1_wayTo 2 (k_rty 1) ∈ gTB ∧ Jvm.Cond.initialized yX1_wayTo.cls ∈ gTB ∧ Jvm.Cond.instanceMethod yX1_wayTo ∈ gTB ∧ Jvm.Cond.selects RX1 yX1_wayTo yX1_wayTo ∈ gTB := ⟨gIn (i := 932) (by decide +kernel) (by decide +kernel), gIn (i := 133) (by decide +kernel) (by decide +kernel), gIn (i := 930) (by decide +kernel) (by decide +kernel), gIn (i := 931) (by decide +kernel) (by decide +kernel)⟩
theorem wd_X1_wayTo : yX1_wayTo.cls ≠ "java/lang/invoke/MethodHandle" ∧ yX1_wayTo.cls ≠ "java/lang/invoke/VarHandle" ∧ (parseMethodDescriptor yX1_wayTo.desc).map (fun d => d.parameters.length) = some 1 := by decide +kernel
theorem wl_RX1_121 : Jvm.Cond.methodLink RX1 121 yX6_setOut ∈ gTB := gIn (i := 956) (by decide +kernel) (by decide +kernel)
theorem wk_X6_setOut : Jvm.Cond.code yX6_setOut cX6_setOut 3 (k_rty 0) ∈ gTB ∧ Jvm.Cond.initialized yX6_setOut.cls ∈ gTB ∧ Jvm.Cond.instanceMethod yX6_setOut ∈ gTB ∧ Jvm.Cond.selects RX6 yX6_setOut yX6_setOut ∈ gTB := ⟨gIn (i := 959) (by decide +kernel) (by decide +kernel), gIn (i := 130) (by decide +kernel) (by decide +kernel), gIn (i := 957) (by decide +kernel) (by decide +kernel), gIn (i := 958) (by decide +kernel) (by decide +kernel)⟩
theorem wd_X6_setOut : yX6_setOut.cls ≠ "java/lang/invoke/MethodHandle" ∧ yX6_setOut.cls ≠ "java/lang/invoke/VarHandle" ∧ (parseMethodDescriptor yX6_setOut.desc).map (fun d => d.parameters.length) = some 2 := by decide +kernel
theorem C_X1_sendTo (hE : k_Eok (gE g tys B0 GI)) (hT : k_tys (gE g tys B0 GI)) : k_Met l (gE g tys B0 GI) τ gTB yX1_sendTo cX1_sendTo 3 0 K_X1_sendTo ⟨1, 0, 0, 22⟩ :=
  k_met (M := M_X1_sendTo) (by decide +kernel) (fun X hl hr hF hts hK => ⟨gFLk1 hts, gCIk1 hts, gCJk1 hts, (show ∀ q ∈ ([(2, K_X1_wayTo), (18, K_X6_setOut)] : List (Nat × kCtr)), k_call X (gE g tys B0 GI) 3 τ q.2 q.1 from List.forall_mem_cons.mpr ⟨k_callV (cc := cX1_sendTo) (C := RX1) hF hK hts gGood (C_X1_wayTo hE hT) wk_X1_wayTo.1 wk_X1_wayTo.2.1 wl_RX1_101 wk_X1_wayTo.2.2.1 wk_X1_wayTo.2.2.2 rfl rfl rfl rfl rfl wd_X1_wayTo ⟨by rw [hr]; decide, by rw [hr]; decide⟩ (dec_X1_sendTo (2, .invokevirtual 101, 3) (List.mem_of_getElem? (i := 2) rfl)),
    List.forall_mem_cons.mpr ⟨k_callV (cc := cX1_sendTo) (C := RX6) hF hK hts gGood (C_X6_setOut hE hT) wk_X6_setOut.1 wk_X6_setOut.2.1 wl_RX1_121 wk_X6_setOut.2.2.1 wk_X6_setOut.2.2.2 rfl rfl rfl rfl rfl wd_X6_setOut ⟨by rw [hr]; decide, by rw [hr]; decide⟩ (dec_X1_sendTo (18, .invokevirtual 121, 3) (List.mem_of_getElem? (i := 12) rfl)),
    List.forall_mem_nil _⟩⟩), hE, hT⟩) dec_X1_sendTo chk_X1_sendTo
theorem C_X1_smokeOf (hE : k_Eok (gE g tys B0 GI)) (hT : k_tys (gE g tys B0 GI)) : k_Met l (gE g tys B0 GI) τ gTB yX1_smokeOf cX1_smokeOf 2 1 K_X1_smokeOf ⟨0, 0, 0, 0⟩ :=
  k_met (M := M_X1_smokeOf) (by decide +kernel) (fun X hl hr hF hts hK => ⟨gFLk1 hts, gCIk1 hts, gCJk1 hts, (show ∀ q ∈ ([] : List (Nat × kCtr)), k_call X (gE g tys B0 GI) 2 τ q.2 q.1 from List.forall_mem_nil _), hE, hT⟩) dec_X1_smokeOf chk_X1_smokeOf
theorem C_X1_wordOf (hE : k_Eok (gE g tys B0 GI)) (hT : k_tys (gE g tys B0 GI)) : k_Met l (gE g tys B0 GI) τ gTB yX1_wordOf cX1_wordOf 3 1 K_X1_wordOf ⟨0, 0, 0, 0⟩ :=
  k_met (M := M_X1_wordOf) (by decide +kernel) (fun X hl hr hF hts hK => ⟨gFLk1 hts, gCIk1 hts, gCJk1 hts, (show ∀ q ∈ ([] : List (Nat × kCtr)), k_call X (gE g tys B0 GI) 3 τ q.2 q.1 from List.forall_mem_nil _), hE, hT⟩) dec_X1_wordOf chk_X1_wordOf
theorem C_X1_join (hE : k_Eok (gE g tys B0 GI)) (hT : k_tys (gE g tys B0 GI)) : k_Met l (gE g tys B0 GI) τ gTB yX1_join cX1_join 5 3 K_X1_join ⟨0, 0, 0, 0⟩ :=
  k_met (M := M_X1_join) (by decide +kernel) (fun X hl hr hF hts hK => ⟨gFLk1 hts, gCIk1 hts, gCJk1 hts, (show ∀ q ∈ ([] : List (Nat × kCtr)), k_call X (gE g tys B0 GI) 5 τ q.2 q.1 from List.forall_mem_nil _), hE, hT⟩) dec_X1_join chk_X1_join
theorem wl_RX1_152 : Jvm.Cond.methodLink RX1 152 yX1_wordOf ∈ gTB := gIn (i := 945) (by decide +kernel) (by decide +kernel)
theorem wk_X1_wordOf : Jvm.Cond.code yX1_wordOf cX1_wordOf 3 (k_rty 1) ∈ gTB ∧ Jvm.Cond.initialized yX1_wordOf.cls ∈ gTB ∧ Jvm.Cond.instanceMethod yX1_wordOf ∈ gTB ∧ Jvm.Cond.selects RX1 yX1_wordOf yX1_wordOf ∈ gTB := ⟨gIn (i := 948) (by decide +kernel) (by decide +kernel), gIn (i := 133) (by decide +kernel) (by decide +kernel), gIn (i := 947) (by decide +kernel) (by decide +kernel), gIn (i := 28) (by decide +kernel) (by decide +kernel)⟩
theorem wd_X1_wordOf : yX1_wordOf.cls ≠ "java/lang/invoke/MethodHandle" ∧ yX1_wordOf.cls ≠ "java/lang/invoke/VarHandle" ∧ (parseMethodDescriptor yX1_wordOf.desc).map (fun d => d.parameters.length) = some 2 := by decide +kernel
theorem wl_RX1_156 : Jvm.Cond.methodLink RX1 156 yX1_join ∈ gTB := gIn (i := 949) (by decide +kernel) (by decide +kernel)
theorem wk_X1_join : Jvm.Cond.code yX1_join cX1_join 5 (k_rty 3) ∈ gTB ∧ Jvm.Cond.initialized yX1_join.cls ∈ gTB ∧ Jvm.Cond.static yX1_join ∈ gTB := ⟨gIn (i := 951) (by decide +kernel) (by decide +kernel), gIn (i := 133) (by decide +kernel) (by decide +kernel), gIn (i := 950) (by decide +kernel) (by decide +kernel)⟩
theorem wd_X1_join : yX1_join.cls ≠ "java/lang/invoke/MethodHandle" ∧ yX1_join.cls ≠ "java/lang/invoke/VarHandle" ∧ (parseMethodDescriptor yX1_join.desc).map (fun d => d.parameters.length) = some 3 := by decide +kernel
theorem C_X1_work_0 (hE : k_Eok (gE g tys B0 GI)) (hT : k_tys (gE g tys B0 GI)) : k_Met l (gE g tys B0 GI) τ gTB yX1_work cX1_work 7 3 K_X1_work_0 ⟨1, 0, 0, 24⟩ :=
  k_met (M := M_X1_work_0) (by decide +kernel) (fun X hl hr hF hts hK => ⟨gFLk1 hts, gCIk1 hts, gCJk1 hts, (show ∀ q ∈ ([(87, K_X1_wordOf), (168, K_X1_join)] : List (Nat × kCtr)), k_call X (gE g tys B0 GI) 7 τ q.2 q.1 from List.forall_mem_cons.mpr ⟨k_callV (cc := cX1_work) (C := RX1) hF hK hts gGood (C_X1_wordOf hE hT) wk_X1_wordOf.1 wk_X1_wordOf.2.1 wl_RX1_152 wk_X1_wordOf.2.2.1 wk_X1_wordOf.2.2.2 rfl rfl rfl rfl rfl wd_X1_wordOf ⟨by rw [hr]; decide, by rw [hr]; decide⟩ (dec_X1_work (87, .invokevirtual 152, 3) (List.mem_of_getElem? (i := 45) rfl)),
    List.forall_mem_cons.mpr ⟨k_callS (cc := cX1_work) hF hK hts gGood (C_X1_join hE hT) wk_X1_join.1 wk_X1_join.2.1 wl_RX1_156 wk_X1_join.2.2 rfl rfl wd_X1_join ⟨by rw [hr]; decide, by rw [hr]; decide⟩ (dec_X1_work (168, .invokestatic 156, 3) (List.mem_of_getElem? (i := 90) rfl)),
    List.forall_mem_nil _⟩⟩), hE, hT⟩) dec_X1_work chk_X1_work_0
theorem wl_RX1_89 : Jvm.Cond.methodLink RX1 89 yJ6_bitCount_0f7a4 ∈ gTB := gIn (i := 923) (by decide +kernel) (by decide +kernel)
theorem wk_J6_bitCount_0f7a4 : Jvm.Cond.code yJ6_bitCount_0f7a4 cJ6_bitCount_0f7a4 1 (k_rty 1) ∈ gTB ∧ Jvm.Cond.initialized yJ6_bitCount_0f7a4.cls ∈ gTB ∧ Jvm.Cond.static yJ6_bitCount_0f7a4 ∈ gTB := ⟨gIn (i := 925) (by decide +kernel) (by decide +kernel), gIn (i := 146) (by decide +kernel) (by decide +kernel), gIn (i := 924) (by decide +kernel) (by decide +kernel)⟩
theorem wd_J6_bitCount_0f7a4 : yJ6_bitCount_0f7a4.cls ≠ "java/lang/invoke/MethodHandle" ∧ yJ6_bitCount_0f7a4.cls ≠ "java/lang/invoke/VarHandle" ∧ (parseMethodDescriptor yJ6_bitCount_0f7a4.desc).map (fun d => d.parameters.length) = some 1 := by decide +kernel
theorem C_X1_weigh_0 (hE : k_Eok (gE g tys B0 GI)) (hT : k_tys (gE g tys B0 GI)) : k_Met l (gE g tys B0 GI) τ gTB yX1_weigh cX1_weigh 6 3 K_X1_weigh_0 ⟨1, 0, 0, 20⟩ :=
  k_met (M := M_X1_weigh_0) (by decide +kernel) (fun X hl hr hF hts hK => ⟨gFLk1 hts, gCIk1 hts, gCJk1 hts, (show ∀ q ∈ ([(15, K_J6_bitCount_0f7a4)] : List (Nat × kCtr)), k_call X (gE g tys B0 GI) 6 τ q.2 q.1 from List.forall_mem_cons.mpr ⟨k_callS (cc := cX1_weigh) hF hK hts gGood (C_J6_bitCount_0f7a4 hE hT) wk_J6_bitCount_0f7a4.1 wk_J6_bitCount_0f7a4.2.1 wl_RX1_89 wk_J6_bitCount_0f7a4.2.2 rfl rfl wd_J6_bitCount_0f7a4 ⟨by rw [hr]; decide, by rw [hr]; decide⟩ (dec_X1_weigh (15, .invokestatic 89, 3) (List.mem_of_getElem? (i := 9) rfl)),
    List.forall_mem_nil _⟩), hE, hT⟩) dec_X1_weigh chk_X1_weigh_0
theorem C_X1_work_1 (hE : k_Eok (gE g tys B0 GI)) (hT : k_tys (gE g tys B0 GI)) : k_Met l (gE g tys B0 GI) τ gTB yX1_work cX1_work 7 3 K_X1_work_1 ⟨1, 0, 0, 24⟩ :=
  k_met (M := M_X1_work_1) (by decide +kernel) (fun X hl hr hF hts hK => ⟨gFLk1 hts, gCIk1 hts, gCJk1 hts, (show ∀ q ∈ ([(87, K_X1_wordOf), (168, K_X1_join)] : List (Nat × kCtr)), k_call X (gE g tys B0 GI) 7 τ q.2 q.1 from List.forall_mem_cons.mpr ⟨k_callV (cc := cX1_work) (C := RX1) hF hK hts gGood (C_X1_wordOf hE hT) wk_X1_wordOf.1 wk_X1_wordOf.2.1 wl_RX1_152 wk_X1_wordOf.2.2.1 wk_X1_wordOf.2.2.2 rfl rfl rfl rfl rfl wd_X1_wordOf ⟨by rw [hr]; decide, by rw [hr]; decide⟩ (dec_X1_work (87, .invokevirtual 152, 3) (List.mem_of_getElem? (i := 45) rfl)),
    List.forall_mem_cons.mpr ⟨k_callS (cc := cX1_work) hF hK hts gGood (C_X1_join hE hT) wk_X1_join.1 wk_X1_join.2.1 wl_RX1_156 wk_X1_join.2.2 rfl rfl wd_X1_join ⟨by rw [hr]; decide, by rw [hr]; decide⟩ (dec_X1_work (168, .invokestatic 156, 3) (List.mem_of_getElem? (i := 90) rfl)),
    List.forall_mem_nil _⟩⟩), hE, hT⟩) dec_X1_work chk_X1_work_1
theorem wl_RX1_145 : Jvm.Cond.methodLink RX1 145 yX1_work ∈ gTB := gIn (i := 941) (by decide +kernel) (by decide +kernel)
theorem wk_X1_work : Jvm.Cond.code yX1_work cX1_work 7 (k_rty 3) ∈ gTB ∧ Jvm.Cond.initialized yX1_work.cls ∈ gTB ∧ Jvm.Cond.instanceMethod yX1_work ∈ gTB ∧ Jvm.Cond.selects RX1 yX1_work yX1_work ∈ gTB := ⟨gIn (i := 944) (by decide +kernel) (by decide +kernel), gIn (i := 133) (by decide +kernel) (by decide +kernel), gIn (i := 943) (by decide +kernel) (by decide +kernel), gIn (i := 27) (by decide +kernel) (by decide +kernel)⟩
theorem wd_X1_work : yX1_work.cls ≠ "java/lang/invoke/MethodHandle" ∧ yX1_work.cls ≠ "java/lang/invoke/VarHandle" ∧ (parseMethodDescriptor yX1_work.desc).map (fun d => d.parameters.length) = some 3 := by decide +kernel
theorem C_X1_weigh_1 (hE : k_Eok (gE g tys B0 GI)) (hT : k_tys (gE g tys B0 GI)) : k_Met l (gE g tys B0 GI) τ gTB yX1_weigh cX1_weigh 6 3 K_X1_weigh_1 ⟨2, 0, 0, 50⟩ :=
  k_met (M := M_X1_weigh_1) (by decide +kernel) (fun X hl hr hF hts hK => ⟨gFLk1 hts, gCIk1 hts, gCJk1 hts, (show ∀ q ∈ ([(15, K_J6_bitCount_0f7a4), (89, K_X1_work_1), (102, K_X1_work_1)] : List (Nat × kCtr)), k_call X (gE g tys B0 GI) 6 τ q.2 q.1 from List.forall_mem_cons.mpr ⟨k_callS (cc := cX1_weigh) hF hK hts gGood (C_J6_bitCount_0f7a4 hE hT) wk_J6_bitCount_0f7a4.1 wk_J6_bitCount_0f7a4.2.1 wl_RX1_89 wk_J6_bitCount_0f7a4.2.2 rfl rfl wd_J6_bitCount_0f7a4 ⟨by rw [hr]; decide, by rw [hr]; decide⟩ (dec_X1_weigh (15, .invokestatic 89, 3) (List.mem_of_getElem? (i := 9) rfl)),
    List.forall_mem_cons.mpr ⟨k_callV (cc := cX1_weigh) (C := RX1) hF hK hts gGood (C_X1_work_1 hE hT) wk_X1_work.1 wk_X1_work.2.1 wl_RX1_145 wk_X1_work.2.2.1 wk_X1_work.2.2.2 rfl rfl rfl rfl rfl wd_X1_work ⟨by rw [hr]; decide, by rw [hr]; decide⟩ (dec_X1_weigh (89, .invokevirtual 145, 3) (List.mem_of_getElem? (i := 53) rfl)),
    List.forall_mem_cons.mpr ⟨k_callV (cc := cX1_weigh) (C := RX1) hF hK hts gGood (C_X1_work_1 hE hT) wk_X1_work.1 wk_X1_work.2.1 wl_RX1_145 wk_X1_work.2.2.1 wk_X1_work.2.2.2 rfl rfl rfl rfl rfl wd_X1_work ⟨by rw [hr]; decide, by rw [hr]; decide⟩ (dec_X1_weigh (102, .invokevirtual 145, 3) (List.mem_of_getElem? (i := 61) rfl)),
    List.forall_mem_nil _⟩⟩⟩), hE, hT⟩) dec_X1_weigh chk_X1_weigh_1
theorem C_X1_work_2 (hE : k_Eok (gE g tys B0 GI)) (hT : k_tys (gE g tys B0 GI)) : k_Met l (gE g tys B0 GI) τ gTB yX1_work cX1_work 7 3 K_X1_work_2 ⟨1, 0, 0, 24⟩ :=
  k_met (M := M_X1_work_2) (by decide +kernel) (fun X hl hr hF hts hK => ⟨gFLk1 hts, gCIk1 hts, gCJk1 hts, (show ∀ q ∈ ([(87, K_X1_wordOf), (168, K_X1_join)] : List (Nat × kCtr)), k_call X (gE g tys B0 GI) 7 τ q.2 q.1 from List.forall_mem_cons.mpr ⟨k_callV (cc := cX1_work) (C := RX1) hF hK hts gGood (C_X1_wordOf hE hT) wk_X1_wordOf.1 wk_X1_wordOf.2.1 wl_RX1_152 wk_X1_wordOf.2.2.1 wk_X1_wordOf.2.2.2 rfl rfl rfl rfl rfl wd_X1_wordOf ⟨by rw [hr]; decide, by rw [hr]; decide⟩ (dec_X1_work (87, .invokevirtual 152, 3) (List.mem_of_getElem? (i := 45) rfl)),
    List.forall_mem_cons.mpr ⟨k_callS (cc := cX1_work) hF hK hts gGood (C_X1_join hE hT) wk_X1_join.1 wk_X1_join.2.1 wl_RX1_156 wk_X1_join.2.2 rfl rfl wd_X1_join ⟨by rw [hr]; decide, by rw [hr]; decide⟩ (dec_X1_work (168, .invokestatic 156, 3) (List.mem_of_getElem? (i := 90) rfl)),
    List.forall_mem_nil _⟩⟩), hE, hT⟩) dec_X1_work chk_X1_work_2
theorem C_X1_weigh_2 (hE : k_Eok (gE g tys B0 GI)) (hT : k_tys (gE g tys B0 GI)) : k_Met l (gE g tys B0 GI) τ gTB yX1_weigh cX1_weigh 6 3 K_X1_weigh_2 ⟨2, 0, 0, 50⟩ :=
  k_met (M := M_X1_weigh_2) (by decide +kernel) (fun X hl hr hF hts hK => ⟨gFLk1 hts, gCIk1 hts, gCJk1 hts, (show ∀ q ∈ ([(15, K_J6_bitCount_0f7a4), (89, K_X1_work_2), (102, K_X1_work_2)] : List (Nat × kCtr)), k_call X (gE g tys B0 GI) 6 τ q.2 q.1 from List.forall_mem_cons.mpr ⟨k_callS (cc := cX1_weigh) hF hK hts gGood (C_J6_bitCount_0f7a4 hE hT) wk_J6_bitCount_0f7a4.1 wk_J6_bitCount_0f7a4.2.1 wl_RX1_89 wk_J6_bitCount_0f7a4.2.2 rfl rfl wd_J6_bitCount_0f7a4 ⟨by rw [hr]; decide, by rw [hr]; decide⟩ (dec_X1_weigh (15, .invokestatic 89, 3) (List.mem_of_getElem? (i := 9) rfl)),
    List.forall_mem_cons.mpr ⟨k_callV (cc := cX1_weigh) (C := RX1) hF hK hts gGood (C_X1_work_2 hE hT) wk_X1_work.1 wk_X1_work.2.1 wl_RX1_145 wk_X1_work.2.2.1 wk_X1_work.2.2.2 rfl rfl rfl rfl rfl wd_X1_work ⟨by rw [hr]; decide, by rw [hr]; decide⟩ (dec_X1_weigh (89, .invokevirtual 145, 3) (List.mem_of_getElem? (i := 53) rfl)),
    List.forall_mem_cons.mpr ⟨k_callV (cc := cX1_weigh) (C := RX1) hF hK hts gGood (C_X1_work_2 hE hT) wk_X1_work.1 wk_X1_work.2.1 wl_RX1_145 wk_X1_work.2.2.1 wk_X1_work.2.2.2 rfl rfl rfl rfl rfl wd_X1_work ⟨by rw [hr]; decide, by rw [hr]; decide⟩ (dec_X1_weigh (102, .invokevirtual 145, 3) (List.mem_of_getElem? (i := 61) rfl)),
    List.forall_mem_nil _⟩⟩⟩), hE, hT⟩) dec_X1_weigh chk_X1_weigh_2
theorem C_X1_work_3 (hE : k_Eok (gE g tys B0 GI)) (hT : k_tys (gE g tys B0 GI)) : k_Met l (gE g tys B0 GI) τ gTB yX1_work cX1_work 7 3 K_X1_work_3 ⟨1, 0, 0, 24⟩ :=
  k_met (M := M_X1_work_3) (by decide +kernel) (fun X hl hr hF hts hK => ⟨gFLk1 hts, gCIk1 hts, gCJk1 hts, (show ∀ q ∈ ([(87, K_X1_wordOf), (168, K_X1_join)] : List (Nat × kCtr)), k_call X (gE g tys B0 GI) 7 τ q.2 q.1 from List.forall_mem_cons.mpr ⟨k_callV (cc := cX1_work) (C := RX1) hF hK hts gGood (C_X1_wordOf hE hT) wk_X1_wordOf.1 wk_X1_wordOf.2.1 wl_RX1_152 wk_X1_wordOf.2.2.1 wk_X1_wordOf.2.2.2 rfl rfl rfl rfl rfl wd_X1_wordOf ⟨by rw [hr]; decide, by rw [hr]; decide⟩ (dec_X1_work (87, .invokevirtual 152, 3) (List.mem_of_getElem? (i := 45) rfl)),
    List.forall_mem_cons.mpr ⟨k_callS (cc := cX1_work) hF hK hts gGood (C_X1_join hE hT) wk_X1_join.1 wk_X1_join.2.1 wl_RX1_156 wk_X1_join.2.2 rfl rfl wd_X1_join ⟨by rw [hr]; decide, by rw [hr]; decide⟩ (dec_X1_work (168, .invokestatic 156, 3) (List.mem_of_getElem? (i := 90) rfl)),
    List.forall_mem_nil _⟩⟩), hE, hT⟩) dec_X1_work chk_X1_work_3
theorem C_X1_weigh_3 (hE : k_Eok (gE g tys B0 GI)) (hT : k_tys (gE g tys B0 GI)) : k_Met l (gE g tys B0 GI) τ gTB yX1_weigh cX1_weigh 6 3 K_X1_weigh_3 ⟨2, 0, 0, 50⟩ :=
  k_met (M := M_X1_weigh_3) (by decide +kernel) (fun X hl hr hF hts hK => ⟨gFLk1 hts, gCIk1 hts, gCJk1 hts, (show ∀ q ∈ ([(15, K_J6_bitCount_0f7a4), (89, K_X1_work_3), (102, K_X1_work_3)] : List (Nat × kCtr)), k_call X (gE g tys B0 GI) 6 τ q.2 q.1 from List.forall_mem_cons.mpr ⟨k_callS (cc := cX1_weigh) hF hK hts gGood (C_J6_bitCount_0f7a4 hE hT) wk_J6_bitCount_0f7a4.1 wk_J6_bitCount_0f7a4.2.1 wl_RX1_89 wk_J6_bitCount_0f7a4.2.2 rfl rfl wd_J6_bitCount_0f7a4 ⟨by rw [hr]; decide, by rw [hr]; decide⟩ (dec_X1_weigh (15, .invokestatic 89, 3) (List.mem_of_getElem? (i := 9) rfl)),
    List.forall_mem_cons.mpr ⟨k_callV (cc := cX1_weigh) (C := RX1) hF hK hts gGood (C_X1_work_3 hE hT) wk_X1_work.1 wk_X1_work.2.1 wl_RX1_145 wk_X1_work.2.2.1 wk_X1_work.2.2.2 rfl rfl rfl rfl rfl wd_X1_work ⟨by rw [hr]; decide, by rw [hr]; decide⟩ (dec_X1_weigh (89, .invokevirtual 145, 3) (List.mem_of_getElem? (i := 53) rfl)),
    List.forall_mem_cons.mpr ⟨k_callV (cc := cX1_weigh) (C := RX1) hF hK hts gGood (C_X1_work_3 hE hT) wk_X1_work.1 wk_X1_work.2.1 wl_RX1_145 wk_X1_work.2.2.1 wk_X1_work.2.2.2 rfl rfl rfl rfl rfl wd_X1_work ⟨by rw [hr]; decide, by rw [hr]; decide⟩ (dec_X1_weigh (102, .invokevirtual 145, 3) (List.mem_of_getElem? (i := 61) rfl)),
    List.forall_mem_nil _⟩⟩⟩), hE, hT⟩) dec_X1_weigh chk_X1_weigh_3
theorem C_X1_work_4 (hE : k_Eok (gE g tys B0 GI)) (hT : k_tys (gE g tys B0 GI)) : k_Met l (gE g tys B0 GI) τ gTB yX1_work cX1_work 7 3 K_X1_work_4 ⟨1, 0, 0, 24⟩ :=
  k_met (M := M_X1_work_4) (by decide +kernel) (fun X hl hr hF hts hK => ⟨gFLk1 hts, gCIk1 hts, gCJk1 hts, (show ∀ q ∈ ([(87, K_X1_wordOf), (168, K_X1_join)] : List (Nat × kCtr)), k_call X (gE g tys B0 GI) 7 τ q.2 q.1 from List.forall_mem_cons.mpr ⟨k_callV (cc := cX1_work) (C := RX1) hF hK hts gGood (C_X1_wordOf hE hT) wk_X1_wordOf.1 wk_X1_wordOf.2.1 wl_RX1_152 wk_X1_wordOf.2.2.1 wk_X1_wordOf.2.2.2 rfl rfl rfl rfl rfl wd_X1_wordOf ⟨by rw [hr]; decide, by rw [hr]; decide⟩ (dec_X1_work (87, .invokevirtual 152, 3) (List.mem_of_getElem? (i := 45) rfl)),
    List.forall_mem_cons.mpr ⟨k_callS (cc := cX1_work) hF hK hts gGood (C_X1_join hE hT) wk_X1_join.1 wk_X1_join.2.1 wl_RX1_156 wk_X1_join.2.2 rfl rfl wd_X1_join ⟨by rw [hr]; decide, by rw [hr]; decide⟩ (dec_X1_work (168, .invokestatic 156, 3) (List.mem_of_getElem? (i := 90) rfl)),
    List.forall_mem_nil _⟩⟩), hE, hT⟩) dec_X1_work chk_X1_work_4
theorem C_X1_weigh_4 (hE : k_Eok (gE g tys B0 GI)) (hT : k_tys (gE g tys B0 GI)) : k_Met l (gE g tys B0 GI) τ gTB yX1_weigh cX1_weigh 6 3 K_X1_weigh_4 ⟨2, 0, 0, 50⟩ :=
  k_met (M := M_X1_weigh_4) (by decide +kernel) (fun X hl hr hF hts hK => ⟨gFLk1 hts, gCIk1 hts, gCJk1 hts, (show ∀ q ∈ ([(15, K_J6_bitCount_0f7a4), (89, K_X1_work_4), (102, K_X1_work_4)] : List (Nat × kCtr)), k_call X (gE g tys B0 GI) 6 τ q.2 q.1 from List.forall_mem_cons.mpr ⟨k_callS (cc := cX1_weigh) hF hK hts gGood (C_J6_bitCount_0f7a4 hE hT) wk_J6_bitCount_0f7a4.1 wk_J6_bitCount_0f7a4.2.1 wl_RX1_89 wk_J6_bitCount_0f7a4.2.2 rfl rfl wd_J6_bitCount_0f7a4 ⟨by rw [hr]; decide, by rw [hr]; decide⟩ (dec_X1_weigh (15, .invokestatic 89, 3) (List.mem_of_getElem? (i := 9) rfl)),
    List.forall_mem_cons.mpr ⟨k_callV (cc := cX1_weigh) (C := RX1) hF hK hts gGood (C_X1_work_4 hE hT) wk_X1_work.1 wk_X1_work.2.1 wl_RX1_145 wk_X1_work.2.2.1 wk_X1_work.2.2.2 rfl rfl rfl rfl rfl wd_X1_work ⟨by rw [hr]; decide, by rw [hr]; decide⟩ (dec_X1_weigh (89, .invokevirtual 145, 3) (List.mem_of_getElem? (i := 53) rfl)),
    List.forall_mem_cons.mpr ⟨k_callV (cc := cX1_weigh) (C := RX1) hF hK hts gGood (C_X1_work_4 hE hT) wk_X1_work.1 wk_X1_work.2.1 wl_RX1_145 wk_X1_work.2.2.1 wk_X1_work.2.2.2 rfl rfl rfl rfl rfl wd_X1_work ⟨by rw [hr]; decide, by rw [hr]; decide⟩ (dec_X1_weigh (102, .invokevirtual 145, 3) (List.mem_of_getElem? (i := 61) rfl)),
    List.forall_mem_nil _⟩⟩⟩), hE, hT⟩) dec_X1_weigh chk_X1_weigh_4
theorem C_X1_work_5 (hE : k_Eok (gE g tys B0 GI)) (hT : k_tys (gE g tys B0 GI)) : k_Met l (gE g tys B0 GI) τ gTB yX1_work cX1_work 7 3 K_X1_work_5 ⟨1, 0, 0, 24⟩ :=
  k_met (M := M_X1_work_5) (by decide +kernel) (fun X hl hr hF hts hK => ⟨gFLk1 hts, gCIk1 hts, gCJk1 hts, (show ∀ q ∈ ([(87, K_X1_wordOf), (168, K_X1_join)] : List (Nat × kCtr)), k_call X (gE g tys B0 GI) 7 τ q.2 q.1 from List.forall_mem_cons.mpr ⟨k_callV (cc := cX1_work) (C := RX1) hF hK hts gGood (C_X1_wordOf hE hT) wk_X1_wordOf.1 wk_X1_wordOf.2.1 wl_RX1_152 wk_X1_wordOf.2.2.1 wk_X1_wordOf.2.2.2 rfl rfl rfl rfl rfl wd_X1_wordOf ⟨by rw [hr]; decide, by rw [hr]; decide⟩ (dec_X1_work (87, .invokevirtual 152, 3) (List.mem_of_getElem? (i := 45) rfl)),
    List.forall_mem_cons.mpr ⟨k_callS (cc := cX1_work) hF hK hts gGood (C_X1_join hE hT) wk_X1_join.1 wk_X1_join.2.1 wl_RX1_156 wk_X1_join.2.2 rfl rfl wd_X1_join ⟨by rw [hr]; decide, by rw [hr]; decide⟩ (dec_X1_work (168, .invokestatic 156, 3) (List.mem_of_getElem? (i := 90) rfl)),
    List.forall_mem_nil _⟩⟩), hE, hT⟩) dec_X1_work chk_X1_work_5
theorem C_X1_weigh_5 (hE : k_Eok (gE g tys B0 GI)) (hT : k_tys (gE g tys B0 GI)) : k_Met l (gE g tys B0 GI) τ gTB yX1_weigh cX1_weigh 6 3 K_X1_weigh_5 ⟨2, 0, 0, 50⟩ :=
  k_met (M := M_X1_weigh_5) (by decide +kernel) (fun X hl hr hF hts hK => ⟨gFLk1 hts, gCIk1 hts, gCJk1 hts, (show ∀ q ∈ ([(15, K_J6_bitCount_0f7a4), (89, K_X1_work_5), (102, K_X1_work_5)] : List (Nat × kCtr)), k_call X (gE g tys B0 GI) 6 τ q.2 q.1 from List.forall_mem_cons.mpr ⟨k_callS (cc := cX1_weigh) hF hK hts gGood (C_J6_bitCount_0f7a4 hE hT) wk_J6_bitCount_0f7a4.1 wk_J6_bitCount_0f7a4.2.1 wl_RX1_89 wk_J6_bitCount_0f7a4.2.2 rfl rfl wd_J6_bitCount_0f7a4 ⟨by rw [hr]; decide, by rw [hr]; decide⟩ (dec_X1_weigh (15, .invokestatic 89, 3) (List.mem_of_getElem? (i := 9) rfl)),
    List.forall_mem_cons.mpr ⟨k_callV (cc := cX1_weigh) (C := RX1) hF hK hts gGood (C_X1_work_5 hE hT) wk_X1_work.1 wk_X1_work.2.1 wl_RX1_145 wk_X1_work.2.2.1 wk_X1_work.2.2.2 rfl rfl rfl rfl rfl wd_X1_work ⟨by rw [hr]; decide, by rw [hr]; decide⟩ (dec_X1_weigh (89, .invokevirtual 145, 3) (List.mem_of_getElem? (i := 53) rfl)),
    List.forall_mem_cons.mpr ⟨k_callV (cc := cX1_weigh) (C := RX1) hF hK hts gGood (C_X1_work_5 hE hT) wk_X1_work.1 wk_X1_work.2.1 wl_RX1_145 wk_X1_work.2.2.1 wk_X1_work.2.2.2 rfl rfl rfl rfl rfl wd_X1_work ⟨by rw [hr]; decide, by rw [hr]; decide⟩ (dec_X1_weigh (102, .invokevirtual 145, 3) (List.mem_of_getElem? (i := 61) rfl)),
    List.forall_mem_nil _⟩⟩⟩), hE, hT⟩) dec_X1_weigh chk_X1_weigh_5
theorem C_X1_work_6 (hE : k_Eok (gE g tys B0 GI)) (hT : k_tys (gE g tys B0 GI)) : k_Met l (gE g tys B0 GI) τ gTB yX1_work cX1_work 7 3 K_X1_work_6 ⟨1, 0, 0, 24⟩ :=
  k_met (M := M_X1_work_6) (by decide +kernel) (fun X hl hr hF hts hK => ⟨gFLk1 hts, gCIk1 hts, gCJk1 hts, (show ∀ q ∈ ([(87, K_X1_wordOf), (168, K_X1_join)] : List (Nat × kCtr)), k_call X (gE g tys B0 GI) 7 τ q.2 q.1 from List.forall_mem_cons.mpr ⟨k_callV (cc := cX1_work) (C := RX1) hF hK hts gGood (C_X1_wordOf hE hT) wk_X1_wordOf.1 wk_X1_wordOf.2.1 wl_RX1_152 wk_X1_wordOf.2.2.1 wk_X1_wordOf.2.2.2 rfl rfl rfl rfl rfl wd_X1_wordOf ⟨by rw [hr]; decide, by rw [hr]; decide⟩ (dec_X1_work (87, .invokevirtual 152, 3) (List.mem_of_getElem? (i := 45) rfl)),
    List.forall_mem_cons.mpr ⟨k_callS (cc := cX1_work) hF hK hts gGood (C_X1_join hE hT) wk_X1_join.1 wk_X1_join.2.1 wl_RX1_156 wk_X1_join.2.2 rfl rfl wd_X1_join ⟨by rw [hr]; decide, by rw [hr]; decide⟩ (dec_X1_work (168, .invokestatic 156, 3) (List.mem_of_getElem? (i := 90) rfl)),
    List.forall_mem_nil _⟩⟩), hE, hT⟩) dec_X1_work chk_X1_work_6
theorem C_X1_weigh_6 (hE : k_Eok (gE g tys B0 GI)) (hT : k_tys (gE g tys B0 GI)) : k_Met l (gE g tys B0 GI) τ gTB yX1_weigh cX1_weigh 6 3 K_X1_weigh_6 ⟨2, 0, 0, 50⟩ :=
  k_met (M := M_X1_weigh_6) (by decide +kernel) (fun X hl hr hF hts hK => ⟨gFLk1 hts, gCIk1 hts, gCJk1 hts, (show ∀ q ∈ ([(15, K_J6_bitCount_0f7a4), (89, K_X1_work_6), (102, K_X1_work_6)] : List (Nat × kCtr)), k_call X (gE g tys B0 GI) 6 τ q.2 q.1 from List.forall_mem_cons.mpr ⟨k_callS (cc := cX1_weigh) hF hK hts gGood (C_J6_bitCount_0f7a4 hE hT) wk_J6_bitCount_0f7a4.1 wk_J6_bitCount_0f7a4.2.1 wl_RX1_89 wk_J6_bitCount_0f7a4.2.2 rfl rfl wd_J6_bitCount_0f7a4 ⟨by rw [hr]; decide, by rw [hr]; decide⟩ (dec_X1_weigh (15, .invokestatic 89, 3) (List.mem_of_getElem? (i := 9) rfl)),
    List.forall_mem_cons.mpr ⟨k_callV (cc := cX1_weigh) (C := RX1) hF hK hts gGood (C_X1_work_6 hE hT) wk_X1_work.1 wk_X1_work.2.1 wl_RX1_145 wk_X1_work.2.2.1 wk_X1_work.2.2.2 rfl rfl rfl rfl rfl wd_X1_work ⟨by rw [hr]; decide, by rw [hr]; decide⟩ (dec_X1_weigh (89, .invokevirtual 145, 3) (List.mem_of_getElem? (i := 53) rfl)),
    List.forall_mem_cons.mpr ⟨k_callV (cc := cX1_weigh) (C := RX1) hF hK hts gGood (C_X1_work_6 hE hT) wk_X1_work.1 wk_X1_work.2.1 wl_RX1_145 wk_X1_work.2.2.1 wk_X1_work.2.2.2 rfl rfl rfl rfl rfl wd_X1_work ⟨by rw [hr]; decide, by rw [hr]; decide⟩ (dec_X1_weigh (102, .invokevirtual 145, 3) (List.mem_of_getElem? (i := 61) rfl)),
    List.forall_mem_nil _⟩⟩⟩), hE, hT⟩) dec_X1_weigh chk_X1_weigh_6
theorem C_X1_work_7 (hE : k_Eok (gE g tys B0 GI)) (hT : k_tys (gE g tys B0 GI)) : k_Met l (gE g tys B0 GI) τ gTB yX1_work cX1_work 7 3 K_X1_work_7 ⟨1, 0, 0, 24⟩ :=
  k_met (M := M_X1_work_7) (by decide +kernel) (fun X hl hr hF hts hK => ⟨gFLk1 hts, gCIk1 hts, gCJk1 hts, (show ∀ q ∈ ([(87, K_X1_wordOf), (168, K_X1_join)] : List (Nat × kCtr)), k_call X (gE g tys B0 GI) 7 τ q.2 q.1 from List.forall_mem_cons.mpr ⟨k_callV (cc := cX1_work) (C := RX1) hF hK hts gGood (C_X1_wordOf hE hT) wk_X1_wordOf.1 wk_X1_wordOf.2.1 wl_RX1_152 wk_X1_wordOf.2.2.1 wk_X1_wordOf.2.2.2 rfl rfl rfl rfl rfl wd_X1_wordOf ⟨by rw [hr]; decide, by rw [hr]; decide⟩ (dec_X1_work (87, .invokevirtual 152, 3) (List.mem_of_getElem? (i := 45) rfl)),
    List.forall_mem_cons.mpr ⟨k_callS (cc := cX1_work) hF hK hts gGood (C_X1_join hE hT) wk_X1_join.1 wk_X1_join.2.1 wl_RX1_156 wk_X1_join.2.2 rfl rfl wd_X1_join ⟨by rw [hr]; decide, by rw [hr]; decide⟩ (dec_X1_work (168, .invokestatic 156, 3) (List.mem_of_getElem? (i := 90) rfl)),
    List.forall_mem_nil _⟩⟩), hE, hT⟩) dec_X1_work chk_X1_work_7
theorem C_X1_weigh_7 (hE : k_Eok (gE g tys B0 GI)) (hT : k_tys (gE g tys B0 GI)) : k_Met l (gE g tys B0 GI) τ gTB yX1_weigh cX1_weigh 6 3 K_X1_weigh_7 ⟨2, 0, 0, 50⟩ :=
  k_met (M := M_X1_weigh_7) (by decide +kernel) (fun X hl hr hF hts hK => ⟨gFLk1 hts, gCIk1 hts, gCJk1 hts, (show ∀ q ∈ ([(15, K_J6_bitCount_0f7a4), (89, K_X1_work_7), (102, K_X1_work_7)] : List (Nat × kCtr)), k_call X (gE g tys B0 GI) 6 τ q.2 q.1 from List.forall_mem_cons.mpr ⟨k_callS (cc := cX1_weigh) hF hK hts gGood (C_J6_bitCount_0f7a4 hE hT) wk_J6_bitCount_0f7a4.1 wk_J6_bitCount_0f7a4.2.1 wl_RX1_89 wk_J6_bitCount_0f7a4.2.2 rfl rfl wd_J6_bitCount_0f7a4 ⟨by rw [hr]; decide, by rw [hr]; decide⟩ (dec_X1_weigh (15, .invokestatic 89, 3) (List.mem_of_getElem? (i := 9) rfl)),
    List.forall_mem_cons.mpr ⟨k_callV (cc := cX1_weigh) (C := RX1) hF hK hts gGood (C_X1_work_7 hE hT) wk_X1_work.1 wk_X1_work.2.1 wl_RX1_145 wk_X1_work.2.2.1 wk_X1_work.2.2.2 rfl rfl rfl rfl rfl wd_X1_work ⟨by rw [hr]; decide, by rw [hr]; decide⟩ (dec_X1_weigh (89, .invokevirtual 145, 3) (List.mem_of_getElem? (i := 53) rfl)),
    List.forall_mem_cons.mpr ⟨k_callV (cc := cX1_weigh) (C := RX1) hF hK hts gGood (C_X1_work_7 hE hT) wk_X1_work.1 wk_X1_work.2.1 wl_RX1_145 wk_X1_work.2.2.1 wk_X1_work.2.2.2 rfl rfl rfl rfl rfl wd_X1_work ⟨by rw [hr]; decide, by rw [hr]; decide⟩ (dec_X1_weigh (102, .invokevirtual 145, 3) (List.mem_of_getElem? (i := 61) rfl)),
    List.forall_mem_nil _⟩⟩⟩), hE, hT⟩) dec_X1_weigh chk_X1_weigh_7
theorem C_X1_work_8 (hE : k_Eok (gE g tys B0 GI)) (hT : k_tys (gE g tys B0 GI)) : k_Met l (gE g tys B0 GI) τ gTB yX1_work cX1_work 7 3 K_X1_work_8 ⟨1, 0, 0, 24⟩ :=
  k_met (M := M_X1_work_8) (by decide +kernel) (fun X hl hr hF hts hK => ⟨gFLk1 hts, gCIk1 hts, gCJk1 hts, (show ∀ q ∈ ([(87, K_X1_wordOf), (168, K_X1_join)] : List (Nat × kCtr)), k_call X (gE g tys B0 GI) 7 τ q.2 q.1 from List.forall_mem_cons.mpr ⟨k_callV (cc := cX1_work) (C := RX1) hF hK hts gGood (C_X1_wordOf hE hT) wk_X1_wordOf.1 wk_X1_wordOf.2.1 wl_RX1_152 wk_X1_wordOf.2.2.1 wk_X1_wordOf.2.2.2 rfl rfl rfl rfl rfl wd_X1_wordOf ⟨by rw [hr]; decide, by rw [hr]; decide⟩ (dec_X1_work (87, .invokevirtual 152, 3) (List.mem_of_getElem? (i := 45) rfl)),
    List.forall_mem_cons.mpr ⟨k_callS (cc := cX1_work) hF hK hts gGood (C_X1_join hE hT) wk_X1_join.1 wk_X1_join.2.1 wl_RX1_156 wk_X1_join.2.2 rfl rfl wd_X1_join ⟨by rw [hr]; decide, by rw [hr]; decide⟩ (dec_X1_work (168, .invokestatic 156, 3) (List.mem_of_getElem? (i := 90) rfl)),
    List.forall_mem_nil _⟩⟩), hE, hT⟩) dec_X1_work chk_X1_work_8
theorem C_X1_weigh_8 (hE : k_Eok (gE g tys B0 GI)) (hT : k_tys (gE g tys B0 GI)) : k_Met l (gE g tys B0 GI) τ gTB yX1_weigh cX1_weigh 6 3 K_X1_weigh_8 ⟨2, 0, 0, 50⟩ :=
  k_met (M := M_X1_weigh_8) (by decide +kernel) (fun X hl hr hF hts hK => ⟨gFLk1 hts, gCIk1 hts, gCJk1 hts, (show ∀ q ∈ ([(15, K_J6_bitCount_0f7a4), (89, K_X1_work_8), (102, K_X1_work_8)] : List (Nat × kCtr)), k_call X (gE g tys B0 GI) 6 τ q.2 q.1 from List.forall_mem_cons.mpr ⟨k_callS (cc := cX1_weigh) hF hK hts gGood (C_J6_bitCount_0f7a4 hE hT) wk_J6_bitCount_0f7a4.1 wk_J6_bitCount_0f7a4.2.1 wl_RX1_89 wk_J6_bitCount_0f7a4.2.2 rfl rfl wd_J6_bitCount_0f7a4 ⟨by rw [hr]; decide, by rw [hr]; decide⟩ (dec_X1_weigh (15, .invokestatic 89, 3) (List.mem_of_getElem? (i := 9) rfl)),
    List.forall_mem_cons.mpr ⟨k_callV (cc := cX1_weigh) (C := RX1) hF hK hts gGood (C_X1_work_8 hE hT) wk_X1_work.1 wk_X1_work.2.1 wl_RX1_145 wk_X1_work.2.2.1 wk_X1_work.2.2.2 rfl rfl rfl rfl rfl wd_X1_work ⟨by rw [hr]; decide, by rw [hr]; decide⟩ (dec_X1_weigh (89, .invokevirtual 145, 3) (List.mem_of_getElem? (i := 53) rfl)),
    List.forall_mem_cons.mpr ⟨k_callV (cc := cX1_weigh) (C := RX1) hF hK hts gGood (C_X1_work_8 hE hT) wk_X1_work.1 wk_X1_work.2.1 wl_RX1_145 wk_X1_work.2.2.1 wk_X1_work.2.2.2 rfl rfl rfl rfl rfl wd_X1_work ⟨by rw [hr]; decide, by rw [hr]; decide⟩ (dec_X1_weigh (102, .invokevirtual 145, 3) (List.mem_of_getElem? (i := 61) rfl)),
    List.forall_mem_nil _⟩⟩⟩), hE, hT⟩) dec_X1_weigh chk_X1_weigh_8
theorem C_X1_work_9 (hE : k_Eok (gE g tys B0 GI)) (hT : k_tys (gE g tys B0 GI)) : k_Met l (gE g tys B0 GI) τ gTB yX1_work cX1_work 7 3 K_X1_work_9 ⟨1, 0, 0, 24⟩ :=
  k_met (M := M_X1_work_9) (by decide +kernel) (fun X hl hr hF hts hK => ⟨gFLk1 hts, gCIk1 hts, gCJk1 hts, (show ∀ q ∈ ([(87, K_X1_wordOf), (168, K_X1_join)] : List (Nat × kCtr)), k_call X (gE g tys B0 GI) 7 τ q.2 q.1 from List.forall_mem_cons.mpr ⟨k_callV (cc := cX1_work) (C := RX1) hF hK hts gGood (C_X1_wordOf hE hT) wk_X1_wordOf.1 wk_X1_wordOf.2.1 wl_RX1_152 wk_X1_wordOf.2.2.1 wk_X1_wordOf.2.2.2 rfl rfl rfl rfl rfl wd_X1_wordOf ⟨by rw [hr]; decide, by rw [hr]; decide⟩ (dec_X1_work (87, .invokevirtual 152, 3) (List.mem_of_getElem? (i := 45) rfl)),
    List.forall_mem_cons.mpr ⟨k_callS (cc := cX1_work) hF hK hts gGood (C_X1_join hE hT) wk_X1_join.1 wk_X1_join.2.1 wl_RX1_156 wk_X1_join.2.2 rfl rfl wd_X1_join ⟨by rw [hr]; decide, by rw [hr]; decide⟩ (dec_X1_work (168, .invokestatic 156, 3) (List.mem_of_getElem? (i := 90) rfl)),
    List.forall_mem_nil _⟩⟩), hE, hT⟩) dec_X1_work chk_X1_work_9
theorem C_X1_weigh_9 (hE : k_Eok (gE g tys B0 GI)) (hT : k_tys (gE g tys B0 GI)) : k_Met l (gE g tys B0 GI) τ gTB yX1_weigh cX1_weigh 6 3 K_X1_weigh_9 ⟨2, 0, 0, 50⟩ :=
  k_met (M := M_X1_weigh_9) (by decide +kernel) (fun X hl hr hF hts hK => ⟨gFLk1 hts, gCIk1 hts, gCJk1 hts, (show ∀ q ∈ ([(15, K_J6_bitCount_0f7a4), (89, K_X1_work_9), (102, K_X1_work_9)] : List (Nat × kCtr)), k_call X (gE g tys B0 GI) 6 τ q.2 q.1 from List.forall_mem_cons.mpr ⟨k_callS (cc := cX1_weigh) hF hK hts gGood (C_J6_bitCount_0f7a4 hE hT) wk_J6_bitCount_0f7a4.1 wk_J6_bitCount_0f7a4.2.1 wl_RX1_89 wk_J6_bitCount_0f7a4.2.2 rfl rfl wd_J6_bitCount_0f7a4 ⟨by rw [hr]; decide, by rw [hr]; decide⟩ (dec_X1_weigh (15, .invokestatic 89, 3) (List.mem_of_getElem? (i := 9) rfl)),
    List.forall_mem_cons.mpr ⟨k_callV (cc := cX1_weigh) (C := RX1) hF hK hts gGood (C_X1_work_9 hE hT) wk_X1_work.1 wk_X1_work.2.1 wl_RX1_145 wk_X1_work.2.2.1 wk_X1_work.2.2.2 rfl rfl rfl rfl rfl wd_X1_work ⟨by rw [hr]; decide, by rw [hr]; decide⟩ (dec_X1_weigh (89, .invokevirtual 145, 3) (List.mem_of_getElem? (i := 53) rfl)),
    List.forall_mem_cons.mpr ⟨k_callV (cc := cX1_weigh) (C := RX1) hF hK hts gGood (C_X1_work_9 hE hT) wk_X1_work.1 wk_X1_work.2.1 wl_RX1_145 wk_X1_work.2.2.1 wk_X1_work.2.2.2 rfl rfl rfl rfl rfl wd_X1_work ⟨by rw [hr]; decide, by rw [hr]; decide⟩ (dec_X1_weigh (102, .invokevirtual 145, 3) (List.mem_of_getElem? (i := 61) rfl)),
    List.forall_mem_nil _⟩⟩⟩), hE, hT⟩) dec_X1_weigh chk_X1_weigh_9
theorem C_X1_work_10 (hE : k_Eok (gE g tys B0 GI)) (hT : k_tys (gE g tys B0 GI)) : k_Met l (gE g tys B0 GI) τ gTB yX1_work cX1_work 7 3 K_X1_work_10 ⟨1, 0, 0, 24⟩ :=
  k_met (M := M_X1_work_10) (by decide +kernel) (fun X hl hr hF hts hK => ⟨gFLk1 hts, gCIk1 hts, gCJk1 hts, (show ∀ q ∈ ([(87, K_X1_wordOf), (168, K_X1_join)] : List (Nat × kCtr)), k_call X (gE g tys B0 GI) 7 τ q.2 q.1 from List.forall_mem_cons.mpr ⟨k_callV (cc := cX1_work) (C := RX1) hF hK hts gGood (C_X1_wordOf hE hT) wk_X1_wordOf.1 wk_X1_wordOf.2.1 wl_RX1_152 wk_X1_wordOf.2.2.1 wk_X1_wordOf.2.2.2 rfl rfl rfl rfl rfl wd_X1_wordOf ⟨by rw [hr]; decide, by rw [hr]; decide⟩ (dec_X1_work (87, .invokevirtual 152, 3) (List.mem_of_getElem? (i := 45) rfl)),
    List.forall_mem_cons.mpr ⟨k_callS (cc := cX1_work) hF hK hts gGood (C_X1_join hE hT) wk_X1_join.1 wk_X1_join.2.1 wl_RX1_156 wk_X1_join.2.2 rfl rfl wd_X1_join ⟨by rw [hr]; decide, by rw [hr]; decide⟩ (dec_X1_work (168, .invokestatic 156, 3) (List.mem_of_getElem? (i := 90) rfl)),
    List.forall_mem_nil _⟩⟩), hE, hT⟩) dec_X1_work chk_X1_work_10
theorem C_X1_weigh_10 (hE : k_Eok (gE g tys B0 GI)) (hT : k_tys (gE g tys B0 GI)) : k_Met l (gE g tys B0 GI) τ gTB yX1_weigh cX1_weigh 6 3 K_X1_weigh_10 ⟨2, 0, 0, 50⟩ :=
  k_met (M := M_X1_weigh_10) (by decide +kernel) (fun X hl hr hF hts hK => ⟨gFLk1 hts, gCIk1 hts, gCJk1 hts, (show ∀ q ∈ ([(15, K_J6_bitCount_0f7a4), (89, K_X1_work_10), (102, K_X1_work_10)] : List (Nat × kCtr)), k_call X (gE g tys B0 GI) 6 τ q.2 q.1 from List.forall_mem_cons.mpr ⟨k_callS (cc := cX1_weigh) hF hK hts gGood (C_J6_bitCount_0f7a4 hE hT) wk_J6_bitCount_0f7a4.1 wk_J6_bitCount_0f7a4.2.1 wl_RX1_89 wk_J6_bitCount_0f7a4.2.2 rfl rfl wd_J6_bitCount_0f7a4 ⟨by rw [hr]; decide, by rw [hr]; decide⟩ (dec_X1_weigh (15, .invokestatic 89, 3) (List.mem_of_getElem? (i := 9) rfl)),
    List.forall_mem_cons.mpr ⟨k_callV (cc := cX1_weigh) (C := RX1) hF hK hts gGood (C_X1_work_10 hE hT) wk_X1_work.1 wk_X1_work.2.1 wl_RX1_145 wk_X1_work.2.2.1 wk_X1_work.2.2.2 rfl rfl rfl rfl rfl wd_X1_work ⟨by rw [hr]; decide, by rw [hr]; decide⟩ (dec_X1_weigh (89, .invokevirtual 145, 3) (List.mem_of_getElem? (i := 53) rfl)),
    List.forall_mem_cons.mpr ⟨k_callV (cc := cX1_weigh) (C := RX1) hF hK hts gGood (C_X1_work_10 hE hT) wk_X1_work.1 wk_X1_work.2.1 wl_RX1_145 wk_X1_work.2.2.1 wk_X1_work.2.2.2 rfl rfl rfl rfl rfl wd_X1_work ⟨by rw [hr]; decide, by rw [hr]; decide⟩ (dec_X1_weigh (102, .invokevirtual 145, 3) (List.mem_of_getElem? (i := 61) rfl)),
    List.forall_mem_nil _⟩⟩⟩), hE, hT⟩) dec_X1_weigh chk_X1_weigh_10
theorem C_X1_work_11 (hE : k_Eok (gE g tys B0 GI)) (hT : k_tys (gE g tys B0 GI)) : k_Met l (gE g tys B0 GI) τ gTB yX1_work cX1_work 7 3 K_X1_work_11 ⟨1, 0, 0, 24⟩ :=
  k_met (M := M_X1_work_11) (by decide +kernel) (fun X hl hr hF hts hK => ⟨gFLk1 hts, gCIk1 hts, gCJk1 hts, (show ∀ q ∈ ([(87, K_X1_wordOf), (168, K_X1_join)] : List (Nat × kCtr)), k_call X (gE g tys B0 GI) 7 τ q.2 q.1 from List.forall_mem_cons.mpr ⟨k_callV (cc := cX1_work) (C := RX1) hF hK hts gGood (C_X1_wordOf hE hT) wk_X1_wordOf.1 wk_X1_wordOf.2.1 wl_RX1_152 wk_X1_wordOf.2.2.1 wk_X1_wordOf.2.2.2 rfl rfl rfl rfl rfl wd_X1_wordOf ⟨by rw [hr]; decide, by rw [hr]; decide⟩ (dec_X1_work (87, .invokevirtual 152, 3) (List.mem_of_getElem? (i := 45) rfl)),
    List.forall_mem_cons.mpr ⟨k_callS (cc := cX1_work) hF hK hts gGood (C_X1_join hE hT) wk_X1_join.1 wk_X1_join.2.1 wl_RX1_156 wk_X1_join.2.2 rfl rfl wd_X1_join ⟨by rw [hr]; decide, by rw [hr]; decide⟩ (dec_X1_work (168, .invokestatic 156, 3) (List.mem_of_getElem? (i := 90) rfl)),
    List.forall_mem_nil _⟩⟩), hE, hT⟩) dec_X1_work chk_X1_work_11
theorem C_X1_weigh_11 (hE : k_Eok (gE g tys B0 GI)) (hT : k_tys (gE g tys B0 GI)) : k_Met l (gE g tys B0 GI) τ gTB yX1_weigh cX1_weigh 6 3 K_X1_weigh_11 ⟨2, 0, 0, 50⟩ :=
  k_met (M := M_X1_weigh_11) (by decide +kernel) (fun X hl hr hF hts hK => ⟨gFLk1 hts, gCIk1 hts, gCJk1 hts, (show ∀ q ∈ ([(15, K_J6_bitCount_0f7a4), (89, K_X1_work_11), (102, K_X1_work_11)] : List (Nat × kCtr)), k_call X (gE g tys B0 GI) 6 τ q.2 q.1 from List.forall_mem_cons.mpr ⟨k_callS (cc := cX1_weigh) hF hK hts gGood (C_J6_bitCount_0f7a4 hE hT) wk_J6_bitCount_0f7a4.1 wk_J6_bitCount_0f7a4.2.1 wl_RX1_89 wk_J6_bitCount_0f7a4.2.2 rfl rfl wd_J6_bitCount_0f7a4 ⟨by rw [hr]; decide, by rw [hr]; decide⟩ (dec_X1_weigh (15, .invokestatic 89, 3) (List.mem_of_getElem? (i := 9) rfl)),
    List.forall_mem_cons.mpr ⟨k_callV (cc := cX1_weigh) (C := RX1) hF hK hts gGood (C_X1_work_11 hE hT) wk_X1_work.1 wk_X1_work.2.1 wl_RX1_145 wk_X1_work.2.2.1 wk_X1_work.2.2.2 rfl rfl rfl rfl rfl wd_X1_work ⟨by rw [hr]; decide, by rw [hr]; decide⟩ (dec_X1_weigh (89, .invokevirtual 145, 3) (List.mem_of_getElem? (i := 53) rfl)),
    List.forall_mem_cons.mpr ⟨k_callV (cc := cX1_weigh) (C := RX1) hF hK hts gGood (C_X1_work_11 hE hT) wk_X1_work.1 wk_X1_work.2.1 wl_RX1_145 wk_X1_work.2.2.1 wk_X1_work.2.2.2 rfl rfl rfl rfl rfl wd_X1_work ⟨by rw [hr]; decide, by rw [hr]; decide⟩ (dec_X1_weigh (102, .invokevirtual 145, 3) (List.mem_of_getElem? (i := 61) rfl)),
    List.forall_mem_nil _⟩⟩⟩), hE, hT⟩) dec_X1_weigh chk_X1_weigh_11
theorem C_X1_work_12 (hE : k_Eok (gE g tys B0 GI)) (hT : k_tys (gE g tys B0 GI)) : k_Met l (gE g tys B0 GI) τ gTB yX1_work cX1_work 7 3 K_X1_work_12 ⟨1, 0, 0, 24⟩ :=
  k_met (M := M_X1_work_12) (by decide +kernel) (fun X hl hr hF hts hK => ⟨gFLk1 hts, gCIk1 hts, gCJk1 hts, (show ∀ q ∈ ([(87, K_X1_wordOf), (168, K_X1_join)] : List (Nat × kCtr)), k_call X (gE g tys B0 GI) 7 τ q.2 q.1 from List.forall_mem_cons.mpr ⟨k_callV (cc := cX1_work) (C := RX1) hF hK hts gGood (C_X1_wordOf hE hT) wk_X1_wordOf.1 wk_X1_wordOf.2.1 wl_RX1_152 wk_X1_wordOf.2.2.1 wk_X1_wordOf.2.2.2 rfl rfl rfl rfl rfl wd_X1_wordOf ⟨by rw [hr]; decide, by rw [hr]; decide⟩ (dec_X1_work (87, .invokevirtual 152, 3) (List.mem_of_getElem? (i := 45) rfl)),
    List.forall_mem_cons.mpr ⟨k_callS (cc := cX1_work) hF hK hts gGood (C_X1_join hE hT) wk_X1_join.1 wk_X1_join.2.1 wl_RX1_156 wk_X1_join.2.2 rfl rfl wd_X1_join ⟨by rw [hr]; decide, by rw [hr]; decide⟩ (dec_X1_work (168, .invokestatic 156, 3) (List.mem_of_getElem? (i := 90) rfl)),
    List.forall_mem_nil _⟩⟩), hE, hT⟩) dec_X1_work chk_X1_work_12
theorem C_X1_weigh_12 (hE : k_Eok (gE g tys B0 GI)) (hT : k_tys (gE g tys B0 GI)) : k_Met l (gE g tys B0 GI) τ gTB yX1_weigh cX1_weigh 6 3 K_X1_weigh_12 ⟨2, 0, 0, 50⟩ :=
  k_met (M := M_X1_weigh_12) (by decide +kernel) (fun X hl hr hF hts hK => ⟨gFLk1 hts, gCIk1 hts, gCJk1 hts, (show ∀ q ∈ ([(15, K_J6_bitCount_0f7a4), (89, K_X1_work_12), (102, K_X1_work_12)] : List (Nat × kCtr)), k_call X (gE g tys B0 GI) 6 τ q.2 q.1 from List.forall_mem_cons.mpr ⟨k_callS (cc := cX1_weigh) hF hK hts gGood (C_J6_bitCount_0f7a4 hE hT) wk_J6_bitCount_0f7a4.1 wk_J6_bitCount_0f7a4.2.1 wl_RX1_89 wk_J6_bitCount_0f7a4.2.2 rfl rfl wd_J6_bitCount_0f7a4 ⟨by rw [hr]; decide, by rw [hr]; decide⟩ (dec_X1_weigh (15, .invokestatic 89, 3) (List.mem_of_getElem? (i := 9) rfl)),
    List.forall_mem_cons.mpr ⟨k_callV (cc := cX1_weigh) (C := RX1) hF hK hts gGood (C_X1_work_12 hE hT) wk_X1_work.1 wk_X1_work.2.1 wl_RX1_145 wk_X1_work.2.2.1 wk_X1_work.2.2.2 rfl rfl rfl rfl rfl wd_X1_work ⟨by rw [hr]; decide, by rw [hr]; decide⟩ (dec_X1_weigh (89, .invokevirtual 145, 3) (List.mem_of_getElem? (i := 53) rfl)),
    List.forall_mem_cons.mpr ⟨k_callV (cc := cX1_weigh) (C := RX1) hF hK hts gGood (C_X1_work_12 hE hT) wk_X1_work.1 wk_X1_work.2.1 wl_RX1_145 wk_X1_work.2.2.1 wk_X1_work.2.2.2 rfl rfl rfl rfl rfl wd_X1_work ⟨by rw [hr]; decide, by rw [hr]; decide⟩ (dec_X1_weigh (102, .invokevirtual 145, 3) (List.mem_of_getElem? (i := 61) rfl)),
    List.forall_mem_nil _⟩⟩⟩), hE, hT⟩) dec_X1_weigh chk_X1_weigh_12
theorem wl_RX1_71 : Jvm.Cond.methodLink RX1 71 yX6_fires ∈ gTB := gIn (i := 919) (by decide +kernel) (by decide +kernel)
theorem wl_RX1_104 : Jvm.Cond.methodLink RX1 104 yX1_smokeOf ∈ gTB := gIn (i := 933) (by decide +kernel) (by decide +kernel)
theorem wk_X1_smokeOf : Jvm.Cond.code yX1_smokeOf cX1_smokeOf 2 (k_rty 1) ∈ gTB ∧ Jvm.Cond.initialized yX1_smokeOf.cls ∈ gTB ∧ Jvm.Cond.instanceMethod yX1_smokeOf ∈ gTB ∧ Jvm.Cond.selects RX1 yX1_smokeOf yX1_smokeOf ∈ gTB := ⟨gIn (i := 936) (by decide +kernel) (by decide +kernel), gIn (i := 133) (by decide +kernel) (by decide +kernel), gIn (i := 935) (by decide +kernel) (by decide +kernel), gIn (i := 25) (by decide +kernel) (by decide +kernel)⟩
theorem wd_X1_smokeOf : yX1_smokeOf.cls ≠ "java/lang/invoke/MethodHandle" ∧ yX1_smokeOf.cls ≠ "java/lang/invoke/VarHandle" ∧ (parseMethodDescriptor yX1_smokeOf.desc).map (fun d => d.parameters.length) = some 1 := by decide +kernel
theorem wl_RX1_107 : Jvm.Cond.methodLink RX1 107 yX1_weigh ∈ gTB := gIn (i := 937) (by decide +kernel) (by decide +kernel)
theorem wk_X1_weigh : Jvm.Cond.code yX1_weigh cX1_weigh 6 (k_rty 3) ∈ gTB ∧ Jvm.Cond.initialized yX1_weigh.cls ∈ gTB ∧ Jvm.Cond.instanceMethod yX1_weigh ∈ gTB ∧ Jvm.Cond.selects RX1 yX1_weigh yX1_weigh ∈ gTB := ⟨gIn (i := 940) (by decide +kernel) (by decide +kernel), gIn (i := 133) (by decide +kernel) (by decide +kernel), gIn (i := 939) (by decide +kernel) (by decide +kernel), gIn (i := 26) (by decide +kernel) (by decide +kernel)⟩
theorem wd_X1_weigh : yX1_weigh.cls ≠ "java/lang/invoke/MethodHandle" ∧ yX1_weigh.cls ≠ "java/lang/invoke/VarHandle" ∧ (parseMethodDescriptor yX1_weigh.desc).map (fun d => d.parameters.length) = some 1 := by decide +kernel
theorem wl_RX1_111 : Jvm.Cond.methodLink RX1 111 yX1_sendTo ∈ gTB := gIn (i := 952) (by decide +kernel) (by decide +kernel)
theorem wk_X1_sendTo : Jvm.Cond.code yX1_sendTo cX1_sendTo 3 (k_rty 0) ∈ gTB ∧ Jvm.Cond.initialized yX1_sendTo.cls ∈ gTB ∧ Jvm.Cond.instanceMethod yX1_sendTo ∈ gTB ∧ Jvm.Cond.selects RX1 yX1_sendTo yX1_sendTo ∈ gTB := ⟨gIn (i := 955) (by decide +kernel) (by decide +kernel), gIn (i := 133) (by decide +kernel) (by decide +kernel), gIn (i := 953) (by decide +kernel) (by decide +kernel), gIn (i := 954) (by decide +kernel) (by decide +kernel)⟩
theorem wd_X1_sendTo : yX1_sendTo.cls ≠ "java/lang/invoke/MethodHandle" ∧ yX1_sendTo.cls ≠ "java/lang/invoke/VarHandle" ∧ (parseMethodDescriptor yX1_sendTo.desc).map (fun d => d.parameters.length) = some 1 := by decide +kernel
theorem C_X1_choose (hE : k_Eok (gE g tys B0 GI)) (hT : k_tys (gE g tys B0 GI)) : k_Met l (gE g tys B0 GI) τ gTB yX1_choose cX1_choose 7 0 K_X1_choose ⟨17, 0, 0, 625⟩ :=
  k_met (M := M_X1_choose) (by decide +kernel) (fun X hl hr hF hts hK => ⟨gFLk1 hts, gCIk1 hts, gCJk1 hts, (show ∀ q ∈ ([(9, K_X6_fires), (20, K_J6_bitCount_0f7a4), (44, K_X1_wayTo), (65, K_X1_smokeOf), (75, K_X1_weigh_any), (106, K_X1_sendTo)] : List (Nat × kCtr)), k_call X (gE g tys B0 GI) 7 τ q.2 q.1 from List.forall_mem_cons.mpr ⟨k_callV (cc := cX1_choose) (C := RX6) hF hK hts gGood (C_X6_fires hE hT) wk_X6_fires.1 wk_X6_fires.2.1 wl_RX1_71 wk_X6_fires.2.2.1 wk_X6_fires.2.2.2 rfl rfl rfl rfl rfl wd_X6_fires ⟨by rw [hr]; decide, by rw [hr]; decide⟩ (dec_X1_choose (9, .invokevirtual 71, 3) (List.mem_of_getElem? (i := 7) rfl)),
    List.forall_mem_cons.mpr ⟨k_callS (cc := cX1_choose) hF hK hts gGood (C_J6_bitCount_0f7a4 hE hT) wk_J6_bitCount_0f7a4.1 wk_J6_bitCount_0f7a4.2.1 wl_RX1_89 wk_J6_bitCount_0f7a4.2.2 rfl rfl wd_J6_bitCount_0f7a4 ⟨by rw [hr]; decide, by rw [hr]; decide⟩ (dec_X1_choose (20, .invokestatic 89, 3) (List.mem_of_getElem? (i := 12) rfl)),
    List.forall_mem_cons.mpr ⟨k_callV (cc := cX1_choose) (C := RX1) hF hK hts gGood (C_X1_wayTo hE hT) wk_X1_wayTo.1 wk_X1_wayTo.2.1 wl_RX1_101 wk_X1_wayTo.2.2.1 wk_X1_wayTo.2.2.2 rfl rfl rfl rfl rfl wd_X1_wayTo ⟨by rw [hr]; decide, by rw [hr]; decide⟩ (dec_X1_choose (44, .invokevirtual 101, 3) (List.mem_of_getElem? (i := 23) rfl)),
    List.forall_mem_cons.mpr ⟨k_callV (cc := cX1_choose) (C := RX1) hF hK hts gGood (C_X1_smokeOf hE hT) wk_X1_smokeOf.1 wk_X1_smokeOf.2.1 wl_RX1_104 wk_X1_smokeOf.2.2.1 wk_X1_smokeOf.2.2.2 rfl rfl rfl rfl rfl wd_X1_smokeOf ⟨by rw [hr]; decide, by rw [hr]; decide⟩ (dec_X1_choose (65, .invokevirtual 104, 3) (List.mem_of_getElem? (i := 32) rfl)),
    List.forall_mem_cons.mpr ⟨k_anyc (ts := [53, 54, 55, 56, 57, 58, 59, 60, 61, 62, 63, 64, 65]) rfl (List.forall_mem_cons.mpr ⟨⟨K_X1_weigh_0, ⟨rfl, rfl, rfl, by decide, rfl⟩, k_callV (cc := cX1_choose) (C := RX1) hF hK hts gGood (C_X1_weigh_0 hE hT) wk_X1_weigh.1 wk_X1_weigh.2.1 wl_RX1_107 wk_X1_weigh.2.2.1 wk_X1_weigh.2.2.2 rfl rfl rfl rfl rfl wd_X1_weigh ⟨by rw [hr]; decide, by rw [hr]; decide⟩ (dec_X1_choose (75, .invokevirtual 107, 3) (List.mem_of_getElem? (i := 37) rfl))⟩,
    List.forall_mem_cons.mpr ⟨⟨K_X1_weigh_1, ⟨rfl, rfl, rfl, by decide, rfl⟩, k_callV (cc := cX1_choose) (C := RX1) hF hK hts gGood (C_X1_weigh_1 hE hT) wk_X1_weigh.1 wk_X1_weigh.2.1 wl_RX1_107 wk_X1_weigh.2.2.1 wk_X1_weigh.2.2.2 rfl rfl rfl rfl rfl wd_X1_weigh ⟨by rw [hr]; decide, by rw [hr]; decide⟩ (dec_X1_choose (75, .invokevirtual 107, 3) (List.mem_of_getElem? (i := 37) rfl))⟩,
    List.forall_mem_cons.mpr ⟨⟨K_X1_weigh_2, ⟨rfl, rfl, rfl, by decide, rfl⟩, k_callV (cc := cX1_choose) (C := RX1) hF hK hts gGood (C_X1_weigh_2 hE hT) wk_X1_weigh.1 wk_X1_weigh.2.1 wl_RX1_107 wk_X1_weigh.2.2.1 wk_X1_weigh.2.2.2 rfl rfl rfl rfl rfl wd_X1_weigh ⟨by rw [hr]; decide, by rw [hr]; decide⟩ (dec_X1_choose (75, .invokevirtual 107, 3) (List.mem_of_getElem? (i := 37) rfl))⟩,
    List.forall_mem_cons.mpr ⟨⟨K_X1_weigh_3, ⟨rfl, rfl, rfl, by decide, rfl⟩, k_callV (cc := cX1_choose) (C := RX1) hF hK hts gGood (C_X1_weigh_3 hE hT) wk_X1_weigh.1 wk_X1_weigh.2.1 wl_RX1_107 wk_X1_weigh.2.2.1 wk_X1_weigh.2.2.2 rfl rfl rfl rfl rfl wd_X1_weigh ⟨by rw [hr]; decide, by rw [hr]; decide⟩ (dec_X1_choose (75, .invokevirtual 107, 3) (List.mem_of_getElem? (i := 37) rfl))⟩,
    List.forall_mem_cons.mpr ⟨⟨K_X1_weigh_4, ⟨rfl, rfl, rfl, by decide, rfl⟩, k_callV (cc := cX1_choose) (C := RX1) hF hK hts gGood (C_X1_weigh_4 hE hT) wk_X1_weigh.1 wk_X1_weigh.2.1 wl_RX1_107 wk_X1_weigh.2.2.1 wk_X1_weigh.2.2.2 rfl rfl rfl rfl rfl wd_X1_weigh ⟨by rw [hr]; decide, by rw [hr]; decide⟩ (dec_X1_choose (75, .invokevirtual 107, 3) (List.mem_of_getElem? (i := 37) rfl))⟩,
    List.forall_mem_cons.mpr ⟨⟨K_X1_weigh_5, ⟨rfl, rfl, rfl, by decide, rfl⟩, k_callV (cc := cX1_choose) (C := RX1) hF hK hts gGood (C_X1_weigh_5 hE hT) wk_X1_weigh.1 wk_X1_weigh.2.1 wl_RX1_107 wk_X1_weigh.2.2.1 wk_X1_weigh.2.2.2 rfl rfl rfl rfl rfl wd_X1_weigh ⟨by rw [hr]; decide, by rw [hr]; decide⟩ (dec_X1_choose (75, .invokevirtual 107, 3) (List.mem_of_getElem? (i := 37) rfl))⟩,
    List.forall_mem_cons.mpr ⟨⟨K_X1_weigh_6, ⟨rfl, rfl, rfl, by decide, rfl⟩, k_callV (cc := cX1_choose) (C := RX1) hF hK hts gGood (C_X1_weigh_6 hE hT) wk_X1_weigh.1 wk_X1_weigh.2.1 wl_RX1_107 wk_X1_weigh.2.2.1 wk_X1_weigh.2.2.2 rfl rfl rfl rfl rfl wd_X1_weigh ⟨by rw [hr]; decide, by rw [hr]; decide⟩ (dec_X1_choose (75, .invokevirtual 107, 3) (List.mem_of_getElem? (i := 37) rfl))⟩,
    List.forall_mem_cons.mpr ⟨⟨K_X1_weigh_7, ⟨rfl, rfl, rfl, by decide, rfl⟩, k_callV (cc := cX1_choose) (C := RX1) hF hK hts gGood (C_X1_weigh_7 hE hT) wk_X1_weigh.1 wk_X1_weigh.2.1 wl_RX1_107 wk_X1_weigh.2.2.1 wk_X1_weigh.2.2.2 rfl rfl rfl rfl rfl wd_X1_weigh ⟨by rw [hr]; decide, by rw [hr]; decide⟩ (dec_X1_choose (75, .invokevirtual 107, 3) (List.mem_of_getElem? (i := 37) rfl))⟩,
    List.forall_mem_cons.mpr ⟨⟨K_X1_weigh_8, ⟨rfl, rfl, rfl, by decide, rfl⟩, k_callV (cc := cX1_choose) (C := RX1) hF hK hts gGood (C_X1_weigh_8 hE hT) wk_X1_weigh.1 wk_X1_weigh.2.1 wl_RX1_107 wk_X1_weigh.2.2.1 wk_X1_weigh.2.2.2 rfl rfl rfl rfl rfl wd_X1_weigh ⟨by rw [hr]; decide, by rw [hr]; decide⟩ (dec_X1_choose (75, .invokevirtual 107, 3) (List.mem_of_getElem? (i := 37) rfl))⟩,
    List.forall_mem_cons.mpr ⟨⟨K_X1_weigh_9, ⟨rfl, rfl, rfl, by decide, rfl⟩, k_callV (cc := cX1_choose) (C := RX1) hF hK hts gGood (C_X1_weigh_9 hE hT) wk_X1_weigh.1 wk_X1_weigh.2.1 wl_RX1_107 wk_X1_weigh.2.2.1 wk_X1_weigh.2.2.2 rfl rfl rfl rfl rfl wd_X1_weigh ⟨by rw [hr]; decide, by rw [hr]; decide⟩ (dec_X1_choose (75, .invokevirtual 107, 3) (List.mem_of_getElem? (i := 37) rfl))⟩,
    List.forall_mem_cons.mpr ⟨⟨K_X1_weigh_10, ⟨rfl, rfl, rfl, by decide, rfl⟩, k_callV (cc := cX1_choose) (C := RX1) hF hK hts gGood (C_X1_weigh_10 hE hT) wk_X1_weigh.1 wk_X1_weigh.2.1 wl_RX1_107 wk_X1_weigh.2.2.1 wk_X1_weigh.2.2.2 rfl rfl rfl rfl rfl wd_X1_weigh ⟨by rw [hr]; decide, by rw [hr]; decide⟩ (dec_X1_choose (75, .invokevirtual 107, 3) (List.mem_of_getElem? (i := 37) rfl))⟩,
    List.forall_mem_cons.mpr ⟨⟨K_X1_weigh_11, ⟨rfl, rfl, rfl, by decide, rfl⟩, k_callV (cc := cX1_choose) (C := RX1) hF hK hts gGood (C_X1_weigh_11 hE hT) wk_X1_weigh.1 wk_X1_weigh.2.1 wl_RX1_107 wk_X1_weigh.2.2.1 wk_X1_weigh.2.2.2 rfl rfl rfl rfl rfl wd_X1_weigh ⟨by rw [hr]; decide, by rw [hr]; decide⟩ (dec_X1_choose (75, .invokevirtual 107, 3) (List.mem_of_getElem? (i := 37) rfl))⟩,
    List.forall_mem_cons.mpr ⟨⟨K_X1_weigh_12, ⟨rfl, rfl, rfl, by decide, rfl⟩, k_callV (cc := cX1_choose) (C := RX1) hF hK hts gGood (C_X1_weigh_12 hE hT) wk_X1_weigh.1 wk_X1_weigh.2.1 wl_RX1_107 wk_X1_weigh.2.2.1 wk_X1_weigh.2.2.2 rfl rfl rfl rfl rfl wd_X1_weigh ⟨by rw [hr]; decide, by rw [hr]; decide⟩ (dec_X1_choose (75, .invokevirtual 107, 3) (List.mem_of_getElem? (i := 37) rfl))⟩,
    List.forall_mem_nil _⟩⟩⟩⟩⟩⟩⟩⟩⟩⟩⟩⟩⟩),
    List.forall_mem_cons.mpr ⟨k_callV (cc := cX1_choose) (C := RX1) hF hK hts gGood (C_X1_sendTo hE hT) wk_X1_sendTo.1 wk_X1_sendTo.2.1 wl_RX1_111 wk_X1_sendTo.2.2.1 wk_X1_sendTo.2.2.2 rfl rfl rfl rfl rfl wd_X1_sendTo ⟨by rw [hr]; decide, by rw [hr]; decide⟩ (dec_X1_choose (106, .invokevirtual 111, 3) (List.mem_of_getElem? (i := 54) rfl)),
    List.forall_mem_nil _⟩⟩⟩⟩⟩⟩), hE, hT⟩) dec_X1_choose chk_X1_choose
theorem C_X1_travel (hE : k_Eok (gE g tys B0 GI)) (hT : k_tys (gE g tys B0 GI)) : k_Met l (gE g tys B0 GI) τ gTB yX1_travel cX1_travel 1 0 K_X1_travel ⟨1, 0, 0, 22⟩ :=
  k_met (M := M_X1_travel) (by decide +kernel) (fun X hl hr hF hts hK => ⟨gFLk1 hts, gCIk1 hts, gCJk1 hts, (show ∀ q ∈ ([(55, K_X6_setOut)] : List (Nat × kCtr)), k_call X (gE g tys B0 GI) 1 τ q.2 q.1 from List.forall_mem_cons.mpr ⟨k_callV (cc := cX1_travel) (C := RX6) hF hK hts gGood (C_X6_setOut hE hT) wk_X6_setOut.1 wk_X6_setOut.2.1 wl_RX1_121 wk_X6_setOut.2.2.1 wk_X6_setOut.2.2.2 rfl rfl rfl rfl rfl wd_X6_setOut ⟨by rw [hr]; decide, by rw [hr]; decide⟩ (dec_X1_travel (55, .invokevirtual 121, 3) (List.mem_of_getElem? (i := 27) rfl)),
    List.forall_mem_nil _⟩), hE, hT⟩) dec_X1_travel chk_X1_travel
theorem wl_RX1_190 : Jvm.Cond.methodLink RX1 190 Lib.Math.max.name ∈ gTB := gIn (i := 972) (by decide +kernel) (by decide +kernel)
theorem C_X1_pour (hE : k_Eok (gE g tys B0 GI)) (hT : k_tys (gE g tys B0 GI)) : k_Met l (gE g tys B0 GI) τ gTB yX1_pour cX1_pour 2 0 K_X1_pour ⟨1, 0, 0, 21⟩ :=
  k_met (M := M_X1_pour) (by decide +kernel) (fun X hl hr hF hts hK => ⟨gFLk1 hts, gCIk1 hts, gCJk1 hts, (show ∀ q ∈ ([(102, K_J9_max_7cf53)] : List (Nat × kCtr)), k_call X (gE g tys B0 GI) 2 τ q.2 q.1 from List.forall_mem_cons.mpr ⟨k_mmax (cc := cX1_pour) hF (hts _ wl_RX1_190) (hts _ wm_max.1) (hts _ wm_max.2.1) (hts _ wm_max.2.2) (by rw [hr]; decide) (by rw [hr]; decide) (dec_X1_pour (102, .invokestatic 190, 3) (List.mem_of_getElem? (i := 55) rfl)),
    List.forall_mem_nil _⟩), hE, hT⟩) dec_X1_pour chk_X1_pour
theorem wl_RX1_195 : Jvm.Cond.methodLink RX1 195 Lib.Math.min.name ∈ gTB := gIn (i := 979) (by decide +kernel) (by decide +kernel)
theorem C_X1_burn (hE : k_Eok (gE g tys B0 GI)) (hT : k_tys (gE g tys B0 GI)) : k_Met l (gE g tys B0 GI) τ gTB yX1_burn cX1_burn 4 1 K_X1_burn ⟨1, 0, 0, 21⟩ :=
  k_met (M := M_X1_burn) (by decide +kernel) (fun X hl hr hF hts hK => ⟨gFLk1 hts, gCIk1 hts, gCJk1 hts, (show ∀ q ∈ ([(33, K_J9_min_7cf53)] : List (Nat × kCtr)), k_call X (gE g tys B0 GI) 4 τ q.2 q.1 from List.forall_mem_cons.mpr ⟨k_mmin (cc := cX1_burn) hF (hts _ wl_RX1_195) (hts _ wm_min.1) (hts _ wm_min.2.1) (hts _ wm_min.2.2) (by rw [hr]; decide) (by rw [hr]; decide) (dec_X1_burn (33, .invokestatic 195, 3) (List.mem_of_getElem? (i := 19) rfl)),
    List.forall_mem_nil _⟩), hE, hT⟩) dec_X1_burn chk_X1_burn
theorem C_X1_spread (hE : k_Eok (gE g tys B0 GI)) (hT : k_tys (gE g tys B0 GI)) : k_Met l (gE g tys B0 GI) τ gTB yX1_spread cX1_spread 4 0 K_X1_spread ⟨1, 0, 0, 21⟩ :=
  k_met (M := M_X1_spread) (by decide +kernel) (fun X hl hr hF hts hK => ⟨gFLk1 hts, gCIk1 hts, gCJk1 hts, (show ∀ q ∈ ([(123, K_J9_min_7cf53)] : List (Nat × kCtr)), k_call X (gE g tys B0 GI) 4 τ q.2 q.1 from List.forall_mem_cons.mpr ⟨k_mmin (cc := cX1_spread) hF (hts _ wl_RX1_195) (hts _ wm_min.1) (hts _ wm_min.2.1) (hts _ wm_min.2.2) (by rw [hr]; decide) (by rw [hr]; decide) (dec_X1_spread (123, .invokestatic 195, 3) (List.mem_of_getElem? (i := 68) rfl)),
    List.forall_mem_nil _⟩), hE, hT⟩) dec_X1_spread chk_X1_spread
theorem wl_RX1_172 : Jvm.Cond.methodLink RX1 172 yX1_travel ∈ gTB := gIn (i := 964) (by decide +kernel) (by decide +kernel)
theorem wk_X1_travel : Jvm.Cond.code yX1_travel cX1_travel 1 (k_rty 0) ∈ gTB ∧ Jvm.Cond.initialized yX1_travel.cls ∈ gTB ∧ Jvm.Cond.instanceMethod yX1_travel ∈ gTB ∧ Jvm.Cond.selects RX1 yX1_travel yX1_travel ∈ gTB := ⟨gIn (i := 967) (by decide +kernel) (by decide +kernel), gIn (i := 133) (by decide +kernel) (by decide +kernel), gIn (i := 966) (by decide +kernel) (by decide +kernel), gIn (i := 29) (by decide +kernel) (by decide +kernel)⟩
theorem wd_X1_travel : yX1_travel.cls ≠ "java/lang/invoke/MethodHandle" ∧ yX1_travel.cls ≠ "java/lang/invoke/VarHandle" ∧ (parseMethodDescriptor yX1_travel.desc).map (fun d => d.parameters.length) = some 0 := by decide +kernel
theorem wl_RX1_175 : Jvm.Cond.methodLink RX1 175 yX1_pour ∈ gTB := gIn (i := 968) (by decide +kernel) (by decide +kernel)
theorem wk_X1_pour : Jvm.Cond.code yX1_pour cX1_pour 2 (k_rty 0) ∈ gTB ∧ Jvm.Cond.initialized yX1_pour.cls ∈ gTB ∧ Jvm.Cond.instanceMethod yX1_pour ∈ gTB ∧ Jvm.Cond.selects RX1 yX1_pour yX1_pour ∈ gTB := ⟨gIn (i := 971) (by decide +kernel) (by decide +kernel), gIn (i := 133) (by decide +kernel) (by decide +kernel), gIn (i := 970) (by decide +kernel) (by decide +kernel), gIn (i := 30) (by decide +kernel) (by decide +kernel)⟩
theorem wd_X1_pour : yX1_pour.cls ≠ "java/lang/invoke/MethodHandle" ∧ yX1_pour.cls ≠ "java/lang/invoke/VarHandle" ∧ (parseMethodDescriptor yX1_pour.desc).map (fun d => d.parameters.length) = some 0 := by decide +kernel
theorem wl_RX1_178 : Jvm.Cond.methodLink RX1 178 yX1_burn ∈ gTB := gIn (i := 975) (by decide +kernel) (by decide +kernel)
theorem wk_X1_burn : Jvm.Cond.code yX1_burn cX1_burn 4 (k_rty 1) ∈ gTB ∧ Jvm.Cond.initialized yX1_burn.cls ∈ gTB ∧ Jvm.Cond.instanceMethod yX1_burn ∈ gTB ∧ Jvm.Cond.selects RX1 yX1_burn yX1_burn ∈ gTB := ⟨gIn (i := 978) (by decide +kernel) (by decide +kernel), gIn (i := 133) (by decide +kernel) (by decide +kernel), gIn (i := 977) (by decide +kernel) (by decide +kernel), gIn (i := 31) (by decide +kernel) (by decide +kernel)⟩
theorem wd_X1_burn : yX1_burn.cls ≠ "java/lang/invoke/MethodHandle" ∧ yX1_burn.cls ≠ "java/lang/invoke/VarHandle" ∧ (parseMethodDescriptor yX1_burn.desc).map (fun d => d.parameters.length) = some 0 := by decide +kernel
theorem wl_RX1_181 : Jvm.Cond.methodLink RX1 181 yX1_spread ∈ gTB := gIn (i := 980) (by decide +kernel) (by decide +kernel)
theorem wk_X1_spread : Jvm.Cond.code yX1_spread cX1_spread 4 (k_rty 0) ∈ gTB ∧ Jvm.Cond.initialized yX1_spread.cls ∈ gTB ∧ Jvm.Cond.instanceMethod yX1_spread ∈ gTB ∧ Jvm.Cond.selects RX1 yX1_spread yX1_spread ∈ gTB := ⟨gIn (i := 983) (by decide +kernel) (by decide +kernel), gIn (i := 133) (by decide +kernel) (by decide +kernel), gIn (i := 982) (by decide +kernel) (by decide +kernel), gIn (i := 32) (by decide +kernel) (by decide +kernel)⟩
theorem wd_X1_spread : yX1_spread.cls ≠ "java/lang/invoke/MethodHandle" ∧ yX1_spread.cls ≠ "java/lang/invoke/VarHandle" ∧ (parseMethodDescriptor yX1_spread.desc).map (fun d => d.parameters.length) = some 0 := by decide +kernel
theorem C_X1_passHour (hE : k_Eok (gE g tys B0 GI)) (hT : k_tys (gE g tys B0 GI)) : k_Met l (gE g tys B0 GI) τ gTB yX1_passHour cX1_passHour 2 1 K_X1_passHour ⟨2, 0, 0, 44⟩ :=
  k_met (M := M_X1_passHour) (by decide +kernel) (fun X hl hr hF hts hK => ⟨gFLk1 hts, gCIk1 hts, gCJk1 hts, (show ∀ q ∈ ([(1, K_X1_travel), (5, K_X1_pour), (9, K_X1_burn), (14, K_X1_spread)] : List (Nat × kCtr)), k_call X (gE g tys B0 GI) 2 τ q.2 q.1 from List.forall_mem_cons.mpr ⟨k_callV (cc := cX1_passHour) (C := RX1) hF hK hts gGood (C_X1_travel hE hT) wk_X1_travel.1 wk_X1_travel.2.1 wl_RX1_172 wk_X1_travel.2.2.1 wk_X1_travel.2.2.2 rfl rfl rfl rfl rfl wd_X1_travel ⟨by rw [hr]; decide, by rw [hr]; decide⟩ (dec_X1_passHour (1, .invokevirtual 172, 3) (List.mem_of_getElem? (i := 1) rfl)),
    List.forall_mem_cons.mpr ⟨k_callV (cc := cX1_passHour) (C := RX1) hF hK hts gGood (C_X1_pour hE hT) wk_X1_pour.1 wk_X1_pour.2.1 wl_RX1_175 wk_X1_pour.2.2.1 wk_X1_pour.2.2.2 rfl rfl rfl rfl rfl wd_X1_pour ⟨by rw [hr]; decide, by rw [hr]; decide⟩ (dec_X1_passHour (5, .invokevirtual 175, 3) (List.mem_of_getElem? (i := 3) rfl)),
    List.forall_mem_cons.mpr ⟨k_callV (cc := cX1_passHour) (C := RX1) hF hK hts gGood (C_X1_burn hE hT) wk_X1_burn.1 wk_X1_burn.2.1 wl_RX1_178 wk_X1_burn.2.2.1 wk_X1_burn.2.2.2 rfl rfl rfl rfl rfl wd_X1_burn ⟨by rw [hr]; decide, by rw [hr]; decide⟩ (dec_X1_passHour (9, .invokevirtual 178, 3) (List.mem_of_getElem? (i := 5) rfl)),
    List.forall_mem_cons.mpr ⟨k_callV (cc := cX1_passHour) (C := RX1) hF hK hts gGood (C_X1_spread hE hT) wk_X1_spread.1 wk_X1_spread.2.1 wl_RX1_181 wk_X1_spread.2.2.1 wk_X1_spread.2.2.2 rfl rfl rfl rfl rfl wd_X1_spread ⟨by rw [hr]; decide, by rw [hr]; decide⟩ (dec_X1_passHour (14, .invokevirtual 181, 3) (List.mem_of_getElem? (i := 8) rfl)),
    List.forall_mem_nil _⟩⟩⟩⟩), hE, hT⟩) dec_X1_passHour chk_X1_passHour
theorem wl_RX1_77 : Jvm.Cond.methodLink RX1 77 yX6_isFree ∈ gTB := gIn (i := 911) (by decide +kernel) (by decide +kernel)
theorem wk_X6_isFree : Jvm.Cond.code yX6_isFree cX6_isFree 1 (k_rty 2) ∈ gTB ∧ Jvm.Cond.initialized yX6_isFree.cls ∈ gTB ∧ Jvm.Cond.instanceMethod yX6_isFree ∈ gTB ∧ Jvm.Cond.selects RX6 yX6_isFree yX6_isFree ∈ gTB := ⟨gIn (i := 914) (by decide +kernel) (by decide +kernel), gIn (i := 130) (by decide +kernel) (by decide +kernel), gIn (i := 912) (by decide +kernel) (by decide +kernel), gIn (i := 913) (by decide +kernel) (by decide +kernel)⟩
theorem wd_X6_isFree : yX6_isFree.cls ≠ "java/lang/invoke/MethodHandle" ∧ yX6_isFree.cls ≠ "java/lang/invoke/VarHandle" ∧ (parseMethodDescriptor yX6_isFree.desc).map (fun d => d.parameters.length) = some 0 := by decide +kernel
theorem wl_RX1_81 : Jvm.Cond.methodLink RX1 81 yX1_choose ∈ gTB := gIn (i := 915) (by decide +kernel) (by decide +kernel)
theorem wk_X1_choose : Jvm.Cond.code yX1_choose cX1_choose 7 (k_rty 0) ∈ gTB ∧ Jvm.Cond.initialized yX1_choose.cls ∈ gTB ∧ Jvm.Cond.instanceMethod yX1_choose ∈ gTB ∧ Jvm.Cond.selects RX1 yX1_choose yX1_choose ∈ gTB := ⟨gIn (i := 918) (by decide +kernel) (by decide +kernel), gIn (i := 133) (by decide +kernel) (by decide +kernel), gIn (i := 917) (by decide +kernel) (by decide +kernel), gIn (i := 24) (by decide +kernel) (by decide +kernel)⟩
theorem wd_X1_choose : yX1_choose.cls ≠ "java/lang/invoke/MethodHandle" ∧ yX1_choose.cls ≠ "java/lang/invoke/VarHandle" ∧ (parseMethodDescriptor yX1_choose.desc).map (fun d => d.parameters.length) = some 0 := by decide +kernel
theorem wl_RX1_84 : Jvm.Cond.methodLink RX1 84 yX1_passHour ∈ gTB := gIn (i := 960) (by decide +kernel) (by decide +kernel)
theorem wk_X1_passHour : Jvm.Cond.code yX1_passHour cX1_passHour 2 (k_rty 1) ∈ gTB ∧ Jvm.Cond.initialized yX1_passHour.cls ∈ gTB ∧ Jvm.Cond.instanceMethod yX1_passHour ∈ gTB ∧ Jvm.Cond.selects RX1 yX1_passHour yX1_passHour ∈ gTB := ⟨gIn (i := 963) (by decide +kernel) (by decide +kernel), gIn (i := 133) (by decide +kernel) (by decide +kernel), gIn (i := 961) (by decide +kernel) (by decide +kernel), gIn (i := 962) (by decide +kernel) (by decide +kernel)⟩
theorem wd_X1_passHour : yX1_passHour.cls ≠ "java/lang/invoke/MethodHandle" ∧ yX1_passHour.cls ≠ "java/lang/invoke/VarHandle" ∧ (parseMethodDescriptor yX1_passHour.desc).map (fun d => d.parameters.length) = some 0 := by decide +kernel
theorem C_X1_goOneHour (hE : k_Eok (gE g tys B0 GI)) (hT : k_tys (gE g tys B0 GI)) : k_Met l (gE g tys B0 GI) τ gTB yX1_goOneHour cX1_goOneHour 1 1 K_X1_goOneHour ⟨18, 0, 0, 651⟩ :=
  k_met (M := M_X1_goOneHour) (by decide +kernel) (fun X hl hr hF hts hK => ⟨gFLk1 hts, gCIk1 hts, gCJk1 hts, (show ∀ q ∈ ([(4, K_X6_isFree), (11, K_X1_choose), (15, K_X1_passHour)] : List (Nat × kCtr)), k_call X (gE g tys B0 GI) 1 τ q.2 q.1 from List.forall_mem_cons.mpr ⟨k_callV (cc := cX1_goOneHour) (C := RX6) hF hK hts gGood (C_X6_isFree hE hT) wk_X6_isFree.1 wk_X6_isFree.2.1 wl_RX1_77 wk_X6_isFree.2.2.1 wk_X6_isFree.2.2.2 rfl rfl rfl rfl rfl wd_X6_isFree ⟨by rw [hr]; decide, by rw [hr]; decide⟩ (dec_X1_goOneHour (4, .invokevirtual 77, 3) (List.mem_of_getElem? (i := 2) rfl)),
    List.forall_mem_cons.mpr ⟨k_callV (cc := cX1_goOneHour) (C := RX1) hF hK hts gGood (C_X1_choose hE hT) wk_X1_choose.1 wk_X1_choose.2.1 wl_RX1_81 wk_X1_choose.2.2.1 wk_X1_choose.2.2.2 rfl rfl rfl rfl rfl wd_X1_choose ⟨by rw [hr]; decide, by rw [hr]; decide⟩ (dec_X1_goOneHour (11, .invokevirtual 81, 3) (List.mem_of_getElem? (i := 5) rfl)),
    List.forall_mem_cons.mpr ⟨k_callV (cc := cX1_goOneHour) (C := RX1) hF hK hts gGood (C_X1_passHour hE hT) wk_X1_passHour.1 wk_X1_passHour.2.1 wl_RX1_84 wk_X1_passHour.2.2.1 wk_X1_passHour.2.2.2 rfl rfl rfl rfl rfl wd_X1_passHour ⟨by rw [hr]; decide, by rw [hr]; decide⟩ (dec_X1_goOneHour (15, .invokevirtual 84, 3) (List.mem_of_getElem? (i := 7) rfl)),
    List.forall_mem_nil _⟩⟩⟩), hE, hT⟩) dec_X1_goOneHour chk_X1_goOneHour
theorem wl_RX1_67 : Jvm.Cond.methodLink RX1 67 yX1_goOneHour ∈ gTB := gIn (i := 1022) (by decide +kernel) (by decide +kernel)
theorem wk_X1_goOneHour : Jvm.Cond.code yX1_goOneHour cX1_goOneHour 1 (k_rty 1) ∈ gTB ∧ Jvm.Cond.initialized yX1_goOneHour.cls ∈ gTB ∧ Jvm.Cond.instanceMethod yX1_goOneHour ∈ gTB ∧ Jvm.Cond.selects RX1 yX1_goOneHour yX1_goOneHour ∈ gTB := ⟨gIn (i := 910) (by decide +kernel) (by decide +kernel), gIn (i := 133) (by decide +kernel) (by decide +kernel), gIn (i := 908) (by decide +kernel) (by decide +kernel), gIn (i := 909) (by decide +kernel) (by decide +kernel)⟩
theorem wd_X1_goOneHour : yX1_goOneHour.cls ≠ "java/lang/invoke/MethodHandle" ∧ yX1_goOneHour.cls ≠ "java/lang/invoke/VarHandle" ∧ (parseMethodDescriptor yX1_goOneHour.desc).map (fun d => d.parameters.length) = some 0 := by decide +kernel
theorem C_X1_goHours (hE : k_Eok (gE g tys B0 GI)) (hT : k_tys (gE g tys B0 GI)) : k_Met l (gE g tys B0 GI) τ gTB yX1_goHours cX1_goHours 3 0 K_X1_goHours ⟨19, 0, 0, 671⟩ :=
  k_met (M := M_X1_goHours) (by decide +kernel) (fun X hl hr hF hts hK => ⟨gFLk1 hts, gCIk1 hts, gCJk1 hts, (show ∀ q ∈ ([(8, K_X1_goOneHour)] : List (Nat × kCtr)), k_call X (gE g tys B0 GI) 3 τ q.2 q.1 from List.forall_mem_cons.mpr ⟨k_callV (cc := cX1_goHours) (C := RX1) hF hK hts gGood (C_X1_goOneHour hE hT) wk_X1_goOneHour.1 wk_X1_goOneHour.2.1 wl_RX1_67 wk_X1_goOneHour.2.2.1 wk_X1_goOneHour.2.2.2 rfl rfl rfl rfl rfl wd_X1_goOneHour ⟨by rw [hr]; decide, by rw [hr]; decide⟩ (dec_X1_goHours (8, .invokevirtual 67, 3) (List.mem_of_getElem? (i := 6) rfl)),
    List.forall_mem_nil _⟩), hE, hT⟩) dec_X1_goHours chk_X1_goHours
theorem wl_RX1_74 : Jvm.Cond.methodLink RX1 74 yX6_allWorth ∈ gTB := gIn (i := 1031) (by decide +kernel) (by decide +kernel)
theorem C_X1_worthAfter (hE : k_Eok (gE g tys B0 GI)) (hT : k_tys (gE g tys B0 GI)) : k_Met l (gE g tys B0 GI) τ gTB yX1_worthAfter cX1_worthAfter 3 1 K_X1_worthAfter ⟨19, 0, 0, 671⟩ :=
  k_met (M := M_X1_worthAfter) (by decide +kernel) (fun X hl hr hF hts hK => ⟨gFLk1 hts, gCIk1 hts, gCJk1 hts, (show ∀ q ∈ ([(11, K_X6_fires), (18, K_X1_goOneHour), (32, K_X6_allWorth)] : List (Nat × kCtr)), k_call X (gE g tys B0 GI) 3 τ q.2 q.1 from List.forall_mem_cons.mpr ⟨k_callV (cc := cX1_worthAfter) (C := RX6) hF hK hts gGood (C_X6_fires hE hT) wk_X6_fires.1 wk_X6_fires.2.1 wl_RX1_71 wk_X6_fires.2.2.1 wk_X6_fires.2.2.2 rfl rfl rfl rfl rfl wd_X6_fires ⟨by rw [hr]; decide, by rw [hr]; decide⟩ (dec_X1_worthAfter (11, .invokevirtual 71, 3) (List.mem_of_getElem? (i := 7) rfl)),
    List.forall_mem_cons.mpr ⟨k_callV (cc := cX1_worthAfter) (C := RX1) hF hK hts gGood (C_X1_goOneHour hE hT) wk_X1_goOneHour.1 wk_X1_goOneHour.2.1 wl_RX1_67 wk_X1_goOneHour.2.2.1 wk_X1_goOneHour.2.2.2 rfl rfl rfl rfl rfl wd_X1_goOneHour ⟨by rw [hr]; decide, by rw [hr]; decide⟩ (dec_X1_worthAfter (18, .invokevirtual 67, 3) (List.mem_of_getElem? (i := 10) rfl)),
    List.forall_mem_cons.mpr ⟨k_callV (cc := cX1_worthAfter) (C := RX6) hF hK hts gGood (C_X6_allWorth hE hT) wk_X6_allWorth.1 wk_X6_allWorth.2.1 wl_RX1_74 wk_X6_allWorth.2.2.1 wk_X6_allWorth.2.2.2 rfl rfl rfl rfl rfl wd_X6_allWorth ⟨by rw [hr]; decide, by rw [hr]; decide⟩ (dec_X1_worthAfter (32, .invokevirtual 74, 3) (List.mem_of_getElem? (i := 16) rfl)),
    List.forall_mem_nil _⟩⟩⟩), hE, hT⟩) dec_X1_worthAfter chk_X1_worthAfter
end
end
section
/-! ===== contracts ===== -/
section
variable {l : Launch} {g : va_G} {tys : List (ClassId × FieldType)} {B0 : Nat} {GI : Nat → kTau → Heap → Prop} {τ : kTau}
theorem wl_RX3_91 : Jvm.Cond.methodLink RX3 91 yX6_isFree ∈ gTB := gIn (i := 1069) (by decide +kernel) (by decide +kernel)
theorem wl_RX3_88 : Jvm.Cond.methodLink RX3 88 yX1_passHour ∈ gTB := gIn (i := 1070) (by decide +kernel) (by decide +kernel)
theorem C_X3_passUntilFree (hE : k_Eok (gE g tys B0 GI)) (hT : k_tys (gE g tys B0 GI)) : k_Met l (gE g tys B0 GI) τ gTB yX3_passUntilFree cX3_passUntilFree 2 0 K_X3_passUntilFree ⟨3, 0, 0, 65⟩ :=
  k_met (M := M_X3_passUntilFree) (by decide +kernel) (fun X hl hr hF hts hK => ⟨gFLk3 hts, gCIk3 hts, gCJk3 hts, (show ∀ q ∈ ([(26, K_X6_isFree), (36, K_X1_passHour)] : List (Nat × kCtr)), k_call X (gE g tys B0 GI) 2 τ q.2 q.1 from List.forall_mem_cons.mpr ⟨k_callV (cc := cX3_passUntilFree) (C := RX6) hF hK hts gGood (C_X6_isFree hE hT) wk_X6_isFree.1 wk_X6_isFree.2.1 wl_RX3_91 wk_X6_isFree.2.2.1 wk_X6_isFree.2.2.2 rfl rfl rfl rfl rfl wd_X6_isFree ⟨by rw [hr]; decide, by rw [hr]; decide⟩ (dec_X3_passUntilFree (26, .invokevirtual 91, 3) (List.mem_of_getElem? (i := 12) rfl)),
    List.forall_mem_cons.mpr ⟨k_callV (cc := cX3_passUntilFree) (C := RX1) hF hK hts gGood (C_X1_passHour hE hT) wk_X1_passHour.1 wk_X1_passHour.2.1 wl_RX3_88 wk_X1_passHour.2.2.1 wk_X1_passHour.2.2.2 rfl rfl rfl rfl rfl wd_X1_passHour ⟨by rw [hr]; decide, by rw [hr]; decide⟩ (dec_X3_passUntilFree (36, .invokevirtual 88, 3) (List.mem_of_getElem? (i := 16) rfl)),
    List.forall_mem_nil _⟩⟩), hE, hT⟩) dec_X3_passUntilFree chk_X3_passUntilFree
theorem wl_RX3_38 : Jvm.Cond.methodLink RX3 38 yX6_fires ∈ gTB := gIn (i := 1063) (by decide +kernel) (by decide +kernel)
theorem C_X3_passAll (hE : k_Eok (gE g tys B0 GI)) (hT : k_tys (gE g tys B0 GI)) : k_Met l (gE g tys B0 GI) τ gTB yX3_passAll cX3_passAll 2 0 K_X3_passAll ⟨3, 0, 0, 65⟩ :=
  k_met (M := M_X3_passAll) (by decide +kernel) (fun X hl hr hF hts hK => ⟨gFLk3 hts, gCIk3 hts, gCJk3 hts, (show ∀ q ∈ ([(26, K_X6_fires), (36, K_X1_passHour)] : List (Nat × kCtr)), k_call X (gE g tys B0 GI) 2 τ q.2 q.1 from List.forall_mem_cons.mpr ⟨k_callV (cc := cX3_passAll) (C := RX6) hF hK hts gGood (C_X6_fires hE hT) wk_X6_fires.1 wk_X6_fires.2.1 wl_RX3_38 wk_X6_fires.2.2.1 wk_X6_fires.2.2.2 rfl rfl rfl rfl rfl wd_X6_fires ⟨by rw [hr]; decide, by rw [hr]; decide⟩ (dec_X3_passAll (26, .invokevirtual 38, 3) (List.mem_of_getElem? (i := 12) rfl)),
    List.forall_mem_cons.mpr ⟨k_callV (cc := cX3_passAll) (C := RX1) hF hK hts gGood (C_X1_passHour hE hT) wk_X1_passHour.1 wk_X1_passHour.2.1 wl_RX3_88 wk_X1_passHour.2.2.1 wk_X1_passHour.2.2.2 rfl rfl rfl rfl rfl wd_X1_passHour ⟨by rw [hr]; decide, by rw [hr]; decide⟩ (dec_X3_passAll (36, .invokevirtual 88, 3) (List.mem_of_getElem? (i := 16) rfl)),
    List.forall_mem_nil _⟩⟩), hE, hT⟩) dec_X3_passAll chk_X3_passAll
theorem wl_RX3_72 : Jvm.Cond.methodLink RX3 72 yX6_allWorth ∈ gTB := gIn (i := 1076) (by decide +kernel) (by decide +kernel)
theorem wl_RX3_95 : Jvm.Cond.methodLink RX3 95 Lib.Math.min.name ∈ gTB := gIn (i := 1085) (by decide +kernel) (by decide +kernel)
theorem wl_RX3_101 : Jvm.Cond.methodLink RX3 101 arraycopyName ∈ gTB := gIn (i := 1086) (by decide +kernel) (by decide +kernel)
theorem C_X3_keep (hE : k_Eok (gE g tys B0 GI)) (hT : k_tys (gE g tys B0 GI)) : k_Met l (gE g tys B0 GI) τ gTB yX3_keep cX3_keep 6 0 K_X3_keep ⟨1, 0, 0, 26⟩ :=
  k_met (M := M_X3_keep) (by decide +kernel) (fun X hl hr hF hts hK => ⟨gFLk3 hts, gCIk3 hts, gCJk3 hts, (show ∀ q ∈ ([(7, K_X6_allWorth), (28, K_J9_min_0_6), (45, K_arraycopy_A6_6)] : List (Nat × kCtr)), k_call X (gE g tys B0 GI) 6 τ q.2 q.1 from List.forall_mem_cons.mpr ⟨k_callV (cc := cX3_keep) (C := RX6) hF hK hts gGood (C_X6_allWorth hE hT) wk_X6_allWorth.1 wk_X6_allWorth.2.1 wl_RX3_72 wk_X6_allWorth.2.2.1 wk_X6_allWorth.2.2.2 rfl rfl rfl rfl rfl wd_X6_allWorth ⟨by rw [hr]; decide, by rw [hr]; decide⟩ (dec_X3_keep (7, .invokevirtual 72, 3) (List.mem_of_getElem? (i := 3) rfl)),
    List.forall_mem_cons.mpr ⟨k_mminB (lo := 0) (hi1 := 2147483647) (hi2 := 6) (by decide) (cc := cX3_keep) hF (hts _ wl_RX3_95) (hts _ wm_min.1) (hts _ wm_min.2.1) (hts _ wm_min.2.2) (by rw [hr]; decide) (by rw [hr]; decide) (dec_X3_keep (28, .invokestatic 95, 3) (List.mem_of_getElem? (i := 15) rfl)),
    List.forall_mem_cons.mpr ⟨k_copyi (cc := cX3_keep) (t := 16) (N := 6) hF hK hT (hts _ wl_RX3_101) (hts _ wm_cp.1) (hts _ wm_cp.2.1) (hts _ wm_cp.2.2) rfl (by decide) (by rw [hr]; decide) (by rw [hr]; decide) (dec_X3_keep (45, .invokestatic 101, 3) (List.mem_of_getElem? (i := 24) rfl)),
    List.forall_mem_nil _⟩⟩⟩), hE, hT⟩) dec_X3_keep chk_X3_keep
theorem wl_RX3_64 : Jvm.Cond.methodLink RX3 64 yX6_copyFrom ∈ gTB := gIn (i := 1071) (by decide +kernel) (by decide +kernel)
theorem wl_RX3_75 : Jvm.Cond.methodLink RX3 75 yX3_passAll ∈ gTB := gIn (i := 1077) (by decide +kernel) (by decide +kernel)
theorem wk_X3_passAll : Jvm.Cond.code yX3_passAll cX3_passAll 2 (k_rty 0) ∈ gTB ∧ Jvm.Cond.initialized yX3_passAll.cls ∈ gTB ∧ Jvm.Cond.instanceMethod yX3_passAll ∈ gTB ∧ Jvm.Cond.selects RX3 yX3_passAll yX3_passAll ∈ gTB := ⟨gIn (i := 1080) (by decide +kernel) (by decide +kernel), gIn (i := 135) (by decide +kernel) (by decide +kernel), gIn (i := 1079) (by decide +kernel) (by decide +kernel), gIn (i := 36) (by decide +kernel) (by decide +kernel)⟩
theorem wd_X3_passAll : yX3_passAll.cls ≠ "java/lang/invoke/MethodHandle" ∧ yX3_passAll.cls ≠ "java/lang/invoke/VarHandle" ∧ (parseMethodDescriptor yX3_passAll.desc).map (fun d => d.parameters.length) = some 0 := by decide +kernel
theorem wl_RX3_78 : Jvm.Cond.methodLink RX3 78 yX3_keep ∈ gTB := gIn (i := 1081) (by decide +kernel) (by decide +kernel)
theorem wk_X3_keep : Jvm.Cond.code yX3_keep cX3_keep 6 (k_rty 0) ∈ gTB ∧ Jvm.Cond.initialized yX3_keep.cls ∈ gTB ∧ Jvm.Cond.instanceMethod yX3_keep ∈ gTB ∧ Jvm.Cond.selects RX3 yX3_keep yX3_keep ∈ gTB := ⟨gIn (i := 1084) (by decide +kernel) (by decide +kernel), gIn (i := 135) (by decide +kernel) (by decide +kernel), gIn (i := 1083) (by decide +kernel) (by decide +kernel), gIn (i := 37) (by decide +kernel) (by decide +kernel)⟩
theorem wd_X3_keep : yX3_keep.cls ≠ "java/lang/invoke/MethodHandle" ∧ yX3_keep.cls ≠ "java/lang/invoke/VarHandle" ∧ (parseMethodDescriptor yX3_keep.desc).map (fun d => d.parameters.length) = some 2 := by decide +kernel
theorem C_X3_tryRows_6 (hE : k_Eok (gE g tys B0 GI)) (hT : k_tys (gE g tys B0 GI)) : k_Met l (gE g tys B0 GI) τ gTB yX3_tryRows cX3_tryRows 5 0 K_X3_tryRows_6 ⟨4, 0, 0, 86⟩ :=
  k_met (M := M_X3_tryRows_6) (by decide +kernel) (fun X hl hr hF hts hK => ⟨gFLk3 hts, gCIk3 hts, gCJk3 hts, (show ∀ q ∈ ([(8, K_X6_allWorth), (55, K_X6_copyFrom), (59, K_X3_passAll), (65, K_X3_keep)] : List (Nat × kCtr)), k_call X (gE g tys B0 GI) 5 τ q.2 q.1 from List.forall_mem_cons.mpr ⟨k_callV (cc := cX3_tryRows) (C := RX6) hF hK hts gGood (C_X6_allWorth hE hT) wk_X6_allWorth.1 wk_X6_allWorth.2.1 wl_RX3_72 wk_X6_allWorth.2.2.1 wk_X6_allWorth.2.2.2 rfl rfl rfl rfl rfl wd_X6_allWorth ⟨by rw [hr]; decide, by rw [hr]; decide⟩ (dec_X3_tryRows (8, .invokevirtual 72, 3) (List.mem_of_getElem? (i := 6) rfl)),
    List.forall_mem_cons.mpr ⟨k_callV (cc := cX3_tryRows) (C := RX6) hF hK hts gGood (C_X6_copyFrom hE hT) wk_X6_copyFrom.1 wk_X6_copyFrom.2.1 wl_RX3_64 wk_X6_copyFrom.2.2.1 wk_X6_copyFrom.2.2.2 rfl rfl rfl rfl rfl wd_X6_copyFrom ⟨by rw [hr]; decide, by rw [hr]; decide⟩ (dec_X3_tryRows (55, .invokevirtual 64, 3) (List.mem_of_getElem? (i := 28) rfl)),
    List.forall_mem_cons.mpr ⟨k_callV (cc := cX3_tryRows) (C := RX3) hF hK hts gGood (C_X3_passAll hE hT) wk_X3_passAll.1 wk_X3_passAll.2.1 wl_RX3_75 wk_X3_passAll.2.2.1 wk_X3_passAll.2.2.2 rfl rfl rfl rfl rfl wd_X3_passAll ⟨by rw [hr]; decide, by rw [hr]; decide⟩ (dec_X3_tryRows (59, .invokevirtual 75, 3) (List.mem_of_getElem? (i := 30) rfl)),
    List.forall_mem_cons.mpr ⟨k_callV (cc := cX3_tryRows) (C := RX3) hF hK hts gGood (C_X3_keep hE hT) wk_X3_keep.1 wk_X3_keep.2.1 wl_RX3_78 wk_X3_keep.2.2.1 wk_X3_keep.2.2.2 rfl rfl rfl rfl rfl wd_X3_keep ⟨by rw [hr]; decide, by rw [hr]; decide⟩ (dec_X3_tryRows (65, .invokevirtual 78, 3) (List.mem_of_getElem? (i := 34) rfl)),
    List.forall_mem_nil _⟩⟩⟩⟩), hE, hT⟩) dec_X3_tryRows chk_X3_tryRows_6
theorem wl_RX3_81 : Jvm.Cond.methodLink RX3 81 yX1_wayTo ∈ gTB := gIn (i := 1087) (by decide +kernel) (by decide +kernel)
theorem wl_RX3_84 : Jvm.Cond.methodLink RX3 84 yX1_sendTo ∈ gTB := gIn (i := 1088) (by decide +kernel) (by decide +kernel)
theorem wl_RX3_61 : Jvm.Cond.methodLink RX3 61 yX3_passUntilFree ∈ gTB := gIn (i := 1065) (by decide +kernel) (by decide +kernel)
theorem wk_X3_passUntilFree : Jvm.Cond.code yX3_passUntilFree cX3_passUntilFree 2 (k_rty 0) ∈ gTB ∧ Jvm.Cond.initialized yX3_passUntilFree.cls ∈ gTB ∧ Jvm.Cond.instanceMethod yX3_passUntilFree ∈ gTB ∧ Jvm.Cond.selects RX3 yX3_passUntilFree yX3_passUntilFree ∈ gTB := ⟨gIn (i := 1068) (by decide +kernel) (by decide +kernel), gIn (i := 135) (by decide +kernel) (by decide +kernel), gIn (i := 1067) (by decide +kernel) (by decide +kernel), gIn (i := 34) (by decide +kernel) (by decide +kernel)⟩
theorem wd_X3_passUntilFree : yX3_passUntilFree.cls ≠ "java/lang/invoke/MethodHandle" ∧ yX3_passUntilFree.cls ≠ "java/lang/invoke/VarHandle" ∧ (parseMethodDescriptor yX3_passUntilFree.desc).map (fun d => d.parameters.length) = some 0 := by decide +kernel
theorem wl_RX3_68 : Jvm.Cond.methodLink RX3 68 yX3_tryRows ∈ gTB := gIn (i := 1072) (by decide +kernel) (by decide +kernel)
theorem wk_X3_tryRows : Jvm.Cond.code yX3_tryRows cX3_tryRows 5 (k_rty 0) ∈ gTB ∧ Jvm.Cond.initialized yX3_tryRows.cls ∈ gTB ∧ Jvm.Cond.instanceMethod yX3_tryRows ∈ gTB ∧ Jvm.Cond.selects RX3 yX3_tryRows yX3_tryRows ∈ gTB := ⟨gIn (i := 1075) (by decide +kernel) (by decide +kernel), gIn (i := 135) (by decide +kernel) (by decide +kernel), gIn (i := 1074) (by decide +kernel) (by decide +kernel), gIn (i := 35) (by decide +kernel) (by decide +kernel)⟩
theorem wd_X3_tryRows : yX3_tryRows.cls ≠ "java/lang/invoke/MethodHandle" ∧ yX3_tryRows.cls ≠ "java/lang/invoke/VarHandle" ∧ (parseMethodDescriptor yX3_tryRows.desc).map (fun d => d.parameters.length) = some 2 := by decide +kernel
theorem C_X3_tryRows_5 (hE : k_Eok (gE g tys B0 GI)) (hT : k_tys (gE g tys B0 GI)) : k_Met l (gE g tys B0 GI) τ gTB yX3_tryRows cX3_tryRows 5 0 K_X3_tryRows_5 ⟨5, 0, 0, 110⟩ :=
  k_met (M := M_X3_tryRows_5) (by decide +kernel) (fun X hl hr hF hts hK => ⟨gFLk3 hts, gCIk3 hts, gCJk3 hts, (show ∀ q ∈ ([(8, K_X6_allWorth), (41, K_X6_fires), (55, K_X6_copyFrom), (59, K_X3_passAll), (65, K_X3_keep), (107, K_X6_copyFrom), (116, K_X1_wayTo), (130, K_X1_sendTo), (137, K_X1_passHour), (142, K_X3_passUntilFree), (160, K_X6_copyFrom), (175, K_X3_tryRows_6)] : List (Nat × kCtr)), k_call X (gE g tys B0 GI) 5 τ q.2 q.1 from List.forall_mem_cons.mpr ⟨k_callV (cc := cX3_tryRows) (C := RX6) hF hK hts gGood (C_X6_allWorth hE hT) wk_X6_allWorth.1 wk_X6_allWorth.2.1 wl_RX3_72 wk_X6_allWorth.2.2.1 wk_X6_allWorth.2.2.2 rfl rfl rfl rfl rfl wd_X6_allWorth ⟨by rw [hr]; decide, by rw [hr]; decide⟩ (dec_X3_tryRows (8, .invokevirtual 72, 3) (List.mem_of_getElem? (i := 6) rfl)),
    List.forall_mem_cons.mpr ⟨k_callV (cc := cX3_tryRows) (C := RX6) hF hK hts gGood (C_X6_fires hE hT) wk_X6_fires.1 wk_X6_fires.2.1 wl_RX3_38 wk_X6_fires.2.2.1 wk_X6_fires.2.2.2 rfl rfl rfl rfl rfl wd_X6_fires ⟨by rw [hr]; decide, by rw [hr]; decide⟩ (dec_X3_tryRows (41, .invokevirtual 38, 3) (List.mem_of_getElem? (i := 22) rfl)),
    List.forall_mem_cons.mpr ⟨k_callV (cc := cX3_tryRows) (C := RX6) hF hK hts gGood (C_X6_copyFrom hE hT) wk_X6_copyFrom.1 wk_X6_copyFrom.2.1 wl_RX3_64 wk_X6_copyFrom.2.2.1 wk_X6_copyFrom.2.2.2 rfl rfl rfl rfl rfl wd_X6_copyFrom ⟨by rw [hr]; decide, by rw [hr]; decide⟩ (dec_X3_tryRows (55, .invokevirtual 64, 3) (List.mem_of_getElem? (i := 28) rfl)),
    List.forall_mem_cons.mpr ⟨k_callV (cc := cX3_tryRows) (C := RX3) hF hK hts gGood (C_X3_passAll hE hT) wk_X3_passAll.1 wk_X3_passAll.2.1 wl_RX3_75 wk_X3_passAll.2.2.1 wk_X3_passAll.2.2.2 rfl rfl rfl rfl rfl wd_X3_passAll ⟨by rw [hr]; decide, by rw [hr]; decide⟩ (dec_X3_tryRows (59, .invokevirtual 75, 3) (List.mem_of_getElem? (i := 30) rfl)),
    List.forall_mem_cons.mpr ⟨k_callV (cc := cX3_tryRows) (C := RX3) hF hK hts gGood (C_X3_keep hE hT) wk_X3_keep.1 wk_X3_keep.2.1 wl_RX3_78 wk_X3_keep.2.2.1 wk_X3_keep.2.2.2 rfl rfl rfl rfl rfl wd_X3_keep ⟨by rw [hr]; decide, by rw [hr]; decide⟩ (dec_X3_tryRows (65, .invokevirtual 78, 3) (List.mem_of_getElem? (i := 34) rfl)),
    List.forall_mem_cons.mpr ⟨k_callV (cc := cX3_tryRows) (C := RX6) hF hK hts gGood (C_X6_copyFrom hE hT) wk_X6_copyFrom.1 wk_X6_copyFrom.2.1 wl_RX3_64 wk_X6_copyFrom.2.2.1 wk_X6_copyFrom.2.2.2 rfl rfl rfl rfl rfl wd_X6_copyFrom ⟨by rw [hr]; decide, by rw [hr]; decide⟩ (dec_X3_tryRows (107, .invokevirtual 64, 3) (List.mem_of_getElem? (i := 57) rfl)),
    List.forall_mem_cons.mpr ⟨k_callV (cc := cX3_tryRows) (C := RX1) hF hK hts gGood (C_X1_wayTo hE hT) wk_X1_wayTo.1 wk_X1_wayTo.2.1 wl_RX3_81 wk_X1_wayTo.2.2.1 wk_X1_wayTo.2.2.2 rfl rfl rfl rfl rfl wd_X1_wayTo ⟨by rw [hr]; decide, by rw [hr]; decide⟩ (dec_X3_tryRows (116, .invokevirtual 81, 3) (List.mem_of_getElem? (i := 61) rfl)),
    List.forall_mem_cons.mpr ⟨k_callV (cc := cX3_tryRows) (C := RX1) hF hK hts gGood (C_X1_sendTo hE hT) wk_X1_sendTo.1 wk_X1_sendTo.2.1 wl_RX3_84 wk_X1_sendTo.2.2.1 wk_X1_sendTo.2.2.2 rfl rfl rfl rfl rfl wd_X1_sendTo ⟨by rw [hr]; decide, by rw [hr]; decide⟩ (dec_X3_tryRows (130, .invokevirtual 84, 3) (List.mem_of_getElem? (i := 67) rfl)),
    List.forall_mem_cons.mpr ⟨k_callV (cc := cX3_tryRows) (C := RX1) hF hK hts gGood (C_X1_passHour hE hT) wk_X1_passHour.1 wk_X1_passHour.2.1 wl_RX3_88 wk_X1_passHour.2.2.1 wk_X1_passHour.2.2.2 rfl rfl rfl rfl rfl wd_X1_passHour ⟨by rw [hr]; decide, by rw [hr]; decide⟩ (dec_X3_tryRows (137, .invokevirtual 88, 3) (List.mem_of_getElem? (i := 70) rfl)),
    List.forall_mem_cons.mpr ⟨k_callV (cc := cX3_tryRows) (C := RX3) hF hK hts gGood (C_X3_passUntilFree hE hT) wk_X3_passUntilFree.1 wk_X3_passUntilFree.2.1 wl_RX3_61 wk_X3_passUntilFree.2.2.1 wk_X3_passUntilFree.2.2.2 rfl rfl rfl rfl rfl wd_X3_passUntilFree ⟨by rw [hr]; decide, by rw [hr]; decide⟩ (dec_X3_tryRows (142, .invokevirtual 61, 3) (List.mem_of_getElem? (i := 73) rfl)),
    List.forall_mem_cons.mpr ⟨k_callV (cc := cX3_tryRows) (C := RX6) hF hK hts gGood (C_X6_copyFrom hE hT) wk_X6_copyFrom.1 wk_X6_copyFrom.2.1 wl_RX3_64 wk_X6_copyFrom.2.2.1 wk_X6_copyFrom.2.2.2 rfl rfl rfl rfl rfl wd_X6_copyFrom ⟨by rw [hr]; decide, by rw [hr]; decide⟩ (dec_X3_tryRows (160, .invokevirtual 64, 3) (List.mem_of_getElem? (i := 83) rfl)),
    List.forall_mem_cons.mpr ⟨k_callV (cc := cX3_tryRows) (C := RX3) hF hK hts gGood (C_X3_tryRows_6 hE hT) wk_X3_tryRows.1 wk_X3_tryRows.2.1 wl_RX3_68 wk_X3_tryRows.2.2.1 wk_X3_tryRows.2.2.2 rfl rfl rfl rfl rfl wd_X3_tryRows ⟨by rw [hr]; decide, by rw [hr]; decide⟩ (dec_X3_tryRows (175, .invokevirtual 68, 3) (List.mem_of_getElem? (i := 95) rfl)),
    List.forall_mem_nil _⟩⟩⟩⟩⟩⟩⟩⟩⟩⟩⟩⟩), hE, hT⟩) dec_X3_tryRows chk_X3_tryRows_5
theorem C_X3_tryRows_4 (hE : k_Eok (gE g tys B0 GI)) (hT : k_tys (gE g tys B0 GI)) : k_Met l (gE g tys B0 GI) τ gTB yX3_tryRows cX3_tryRows 5 0 K_X3_tryRows_4 ⟨6, 0, 0, 134⟩ :=
  k_met (M := M_X3_tryRows_4) (by decide +kernel) (fun X hl hr hF hts hK => ⟨gFLk3 hts, gCIk3 hts, gCJk3 hts, (show ∀ q ∈ ([(8, K_X6_allWorth), (41, K_X6_fires), (55, K_X6_copyFrom), (59, K_X3_passAll), (65, K_X3_keep), (107, K_X6_copyFrom), (116, K_X1_wayTo), (130, K_X1_sendTo), (137, K_X1_passHour), (142, K_X3_passUntilFree), (160, K_X6_copyFrom), (175, K_X3_tryRows_5)] : List (Nat × kCtr)), k_call X (gE g tys B0 GI) 5 τ q.2 q.1 from List.forall_mem_cons.mpr ⟨k_callV (cc := cX3_tryRows) (C := RX6) hF hK hts gGood (C_X6_allWorth hE hT) wk_X6_allWorth.1 wk_X6_allWorth.2.1 wl_RX3_72 wk_X6_allWorth.2.2.1 wk_X6_allWorth.2.2.2 rfl rfl rfl rfl rfl wd_X6_allWorth ⟨by rw [hr]; decide, by rw [hr]; decide⟩ (dec_X3_tryRows (8, .invokevirtual 72, 3) (List.mem_of_getElem? (i := 6) rfl)),
    List.forall_mem_cons.mpr ⟨k_callV (cc := cX3_tryRows) (C := RX6) hF hK hts gGood (C_X6_fires hE hT) wk_X6_fires.1 wk_X6_fires.2.1 wl_RX3_38 wk_X6_fires.2.2.1 wk_X6_fires.2.2.2 rfl rfl rfl rfl rfl wd_X6_fires ⟨by rw [hr]; decide, by rw [hr]; decide⟩ (dec_X3_tryRows (41, .invokevirtual 38, 3) (List.mem_of_getElem? (i := 22) rfl)),
    List.forall_mem_cons.mpr ⟨k_callV (cc := cX3_tryRows) (C := RX6) hF hK hts gGood (C_X6_copyFrom hE hT) wk_X6_copyFrom.1 wk_X6_copyFrom.2.1 wl_RX3_64 wk_X6_copyFrom.2.2.1 wk_X6_copyFrom.2.2.2 rfl rfl rfl rfl rfl wd_X6_copyFrom ⟨by rw [hr]; decide, by rw [hr]; decide⟩ (dec_X3_tryRows (55, .invokevirtual 64, 3) (List.mem_of_getElem? (i := 28) rfl)),
    List.forall_mem_cons.mpr ⟨k_callV (cc := cX3_tryRows) (C := RX3) hF hK hts gGood (C_X3_passAll hE hT) wk_X3_passAll.1 wk_X3_passAll.2.1 wl_RX3_75 wk_X3_passAll.2.2.1 wk_X3_passAll.2.2.2 rfl rfl rfl rfl rfl wd_X3_passAll ⟨by rw [hr]; decide, by rw [hr]; decide⟩ (dec_X3_tryRows (59, .invokevirtual 75, 3) (List.mem_of_getElem? (i := 30) rfl)),
    List.forall_mem_cons.mpr ⟨k_callV (cc := cX3_tryRows) (C := RX3) hF hK hts gGood (C_X3_keep hE hT) wk_X3_keep.1 wk_X3_keep.2.1 wl_RX3_78 wk_X3_keep.2.2.1 wk_X3_keep.2.2.2 rfl rfl rfl rfl rfl wd_X3_keep ⟨by rw [hr]; decide, by rw [hr]; decide⟩ (dec_X3_tryRows (65, .invokevirtual 78, 3) (List.mem_of_getElem? (i := 34) rfl)),
    List.forall_mem_cons.mpr ⟨k_callV (cc := cX3_tryRows) (C := RX6) hF hK hts gGood (C_X6_copyFrom hE hT) wk_X6_copyFrom.1 wk_X6_copyFrom.2.1 wl_RX3_64 wk_X6_copyFrom.2.2.1 wk_X6_copyFrom.2.2.2 rfl rfl rfl rfl rfl wd_X6_copyFrom ⟨by rw [hr]; decide, by rw [hr]; decide⟩ (dec_X3_tryRows (107, .invokevirtual 64, 3) (List.mem_of_getElem? (i := 57) rfl)),
    List.forall_mem_cons.mpr ⟨k_callV (cc := cX3_tryRows) (C := RX1) hF hK hts gGood (C_X1_wayTo hE hT) wk_X1_wayTo.1 wk_X1_wayTo.2.1 wl_RX3_81 wk_X1_wayTo.2.2.1 wk_X1_wayTo.2.2.2 rfl rfl rfl rfl rfl wd_X1_wayTo ⟨by rw [hr]; decide, by rw [hr]; decide⟩ (dec_X3_tryRows (116, .invokevirtual 81, 3) (List.mem_of_getElem? (i := 61) rfl)),
    List.forall_mem_cons.mpr ⟨k_callV (cc := cX3_tryRows) (C := RX1) hF hK hts gGood (C_X1_sendTo hE hT) wk_X1_sendTo.1 wk_X1_sendTo.2.1 wl_RX3_84 wk_X1_sendTo.2.2.1 wk_X1_sendTo.2.2.2 rfl rfl rfl rfl rfl wd_X1_sendTo ⟨by rw [hr]; decide, by rw [hr]; decide⟩ (dec_X3_tryRows (130, .invokevirtual 84, 3) (List.mem_of_getElem? (i := 67) rfl)),
    List.forall_mem_cons.mpr ⟨k_callV (cc := cX3_tryRows) (C := RX1) hF hK hts gGood (C_X1_passHour hE hT) wk_X1_passHour.1 wk_X1_passHour.2.1 wl_RX3_88 wk_X1_passHour.2.2.1 wk_X1_passHour.2.2.2 rfl rfl rfl rfl rfl wd_X1_passHour ⟨by rw [hr]; decide, by rw [hr]; decide⟩ (dec_X3_tryRows (137, .invokevirtual 88, 3) (List.mem_of_getElem? (i := 70) rfl)),
    List.forall_mem_cons.mpr ⟨k_callV (cc := cX3_tryRows) (C := RX3) hF hK hts gGood (C_X3_passUntilFree hE hT) wk_X3_passUntilFree.1 wk_X3_passUntilFree.2.1 wl_RX3_61 wk_X3_passUntilFree.2.2.1 wk_X3_passUntilFree.2.2.2 rfl rfl rfl rfl rfl wd_X3_passUntilFree ⟨by rw [hr]; decide, by rw [hr]; decide⟩ (dec_X3_tryRows (142, .invokevirtual 61, 3) (List.mem_of_getElem? (i := 73) rfl)),
    List.forall_mem_cons.mpr ⟨k_callV (cc := cX3_tryRows) (C := RX6) hF hK hts gGood (C_X6_copyFrom hE hT) wk_X6_copyFrom.1 wk_X6_copyFrom.2.1 wl_RX3_64 wk_X6_copyFrom.2.2.1 wk_X6_copyFrom.2.2.2 rfl rfl rfl rfl rfl wd_X6_copyFrom ⟨by rw [hr]; decide, by rw [hr]; decide⟩ (dec_X3_tryRows (160, .invokevirtual 64, 3) (List.mem_of_getElem? (i := 83) rfl)),
    List.forall_mem_cons.mpr ⟨k_callV (cc := cX3_tryRows) (C := RX3) hF hK hts gGood (C_X3_tryRows_5 hE hT) wk_X3_tryRows.1 wk_X3_tryRows.2.1 wl_RX3_68 wk_X3_tryRows.2.2.1 wk_X3_tryRows.2.2.2 rfl rfl rfl rfl rfl wd_X3_tryRows ⟨by rw [hr]; decide, by rw [hr]; decide⟩ (dec_X3_tryRows (175, .invokevirtual 68, 3) (List.mem_of_getElem? (i := 95) rfl)),
    List.forall_mem_nil _⟩⟩⟩⟩⟩⟩⟩⟩⟩⟩⟩⟩), hE, hT⟩) dec_X3_tryRows chk_X3_tryRows_4
theorem C_X3_tryRows_3 (hE : k_Eok (gE g tys B0 GI)) (hT : k_tys (gE g tys B0 GI)) : k_Met l (gE g tys B0 GI) τ gTB yX3_tryRows cX3_tryRows 5 0 K_X3_tryRows_3 ⟨7, 0, 0, 158⟩ :=
  k_met (M := M_X3_tryRows_3) (by decide +kernel) (fun X hl hr hF hts hK => ⟨gFLk3 hts, gCIk3 hts, gCJk3 hts, (show ∀ q ∈ ([(8, K_X6_allWorth), (41, K_X6_fires), (55, K_X6_copyFrom), (59, K_X3_passAll), (65, K_X3_keep), (107, K_X6_copyFrom), (116, K_X1_wayTo), (130, K_X1_sendTo), (137, K_X1_passHour), (142, K_X3_passUntilFree), (160, K_X6_copyFrom), (175, K_X3_tryRows_4)] : List (Nat × kCtr)), k_call X (gE g tys B0 GI) 5 τ q.2 q.1 from List.forall_mem_cons.mpr ⟨k_callV (cc := cX3_tryRows) (C := RX6) hF hK hts gGood (C_X6_allWorth hE hT) wk_X6_allWorth.1 wk_X6_allWorth.2.1 wl_RX3_72 wk_X6_allWorth.2.2.1 wk_X6_allWorth.2.2.2 rfl rfl rfl rfl rfl wd_X6_allWorth ⟨by rw [hr]; decide, by rw [hr]; decide⟩ (dec_X3_tryRows (8, .invokevirtual 72, 3) (List.mem_of_getElem? (i := 6) rfl)),
    List.forall_mem_cons.mpr ⟨k_callV (cc := cX3_tryRows) (C := RX6) hF hK hts gGood (C_X6_fires hE hT) wk_X6_fires.1 wk_X6_fires.2.1 wl_RX3_38 wk_X6_fires.2.2.1 wk_X6_fires.2.2.2 rfl rfl rfl rfl rfl wd_X6_fires ⟨by rw [hr]; decide, by rw [hr]; decide⟩ (dec_X3_tryRows (41, .invokevirtual 38, 3) (List.mem_of_getElem? (i := 22) rfl)),
    List.forall_mem_cons.mpr ⟨k_callV (cc := cX3_tryRows) (C := RX6) hF hK hts gGood (C_X6_copyFrom hE hT) wk_X6_copyFrom.1 wk_X6_copyFrom.2.1 wl_RX3_64 wk_X6_copyFrom.2.2.1 wk_X6_copyFrom.2.2.2 rfl rfl rfl rfl rfl wd_X6_copyFrom ⟨by rw [hr]; decide, by rw [hr]; decide⟩ (dec_X3_tryRows (55, .invokevirtual 64, 3) (List.mem_of_getElem? (i := 28) rfl)),
    List.forall_mem_cons.mpr ⟨k_callV (cc := cX3_tryRows) (C := RX3) hF hK hts gGood (C_X3_passAll hE hT) wk_X3_passAll.1 wk_X3_passAll.2.1 wl_RX3_75 wk_X3_passAll.2.2.1 wk_X3_passAll.2.2.2 rfl rfl rfl rfl rfl wd_X3_passAll ⟨by rw [hr]; decide, by rw [hr]; decide⟩ (dec_X3_tryRows (59, .invokevirtual 75, 3) (List.mem_of_getElem? (i := 30) rfl)),
    List.forall_mem_cons.mpr ⟨k_callV (cc := cX3_tryRows) (C := RX3) hF hK hts gGood (C_X3_keep hE hT) wk_X3_keep.1 wk_X3_keep.2.1 wl_RX3_78 wk_X3_keep.2.2.1 wk_X3_keep.2.2.2 rfl rfl rfl rfl rfl wd_X3_keep ⟨by rw [hr]; decide, by rw [hr]; decide⟩ (dec_X3_tryRows (65, .invokevirtual 78, 3) (List.mem_of_getElem? (i := 34) rfl)),
    List.forall_mem_cons.mpr ⟨k_callV (cc := cX3_tryRows) (C := RX6) hF hK hts gGood (C_X6_copyFrom hE hT) wk_X6_copyFrom.1 wk_X6_copyFrom.2.1 wl_RX3_64 wk_X6_copyFrom.2.2.1 wk_X6_copyFrom.2.2.2 rfl rfl rfl rfl rfl wd_X6_copyFrom ⟨by rw [hr]; decide, by rw [hr]; decide⟩ (dec_X3_tryRows (107, .invokevirtual 64, 3) (List.mem_of_getElem? (i := 57) rfl)),
    List.forall_mem_cons.mpr ⟨k_callV (cc := cX3_tryRows) (C := RX1) hF hK hts gGood (C_X1_wayTo hE hT) wk_X1_wayTo.1 wk_X1_wayTo.2.1 wl_RX3_81 wk_X1_wayTo.2.2.1 wk_X1_wayTo.2.2.2 rfl rfl rfl rfl rfl wd_X1_wayTo ⟨by rw [hr]; decide, by rw [hr]; decide⟩ (dec_X3_tryRows (116, .invokevirtual 81, 3) (List.mem_of_getElem? (i := 61) rfl)),
    List.forall_mem_cons.mpr ⟨k_callV (cc := cX3_tryRows) (C := RX1) hF hK hts gGood (C_X1_sendTo hE hT) wk_X1_sendTo.1 wk_X1_sendTo.2.1 wl_RX3_84 wk_X1_sendTo.2.2.1 wk_X1_sendTo.2.2.2 rfl rfl rfl rfl rfl wd_X1_sendTo ⟨by rw [hr]; decide, by rw [hr]; decide⟩ (dec_X3_tryRows (130, .invokevirtual 84, 3) (List.mem_of_getElem? (i := 67) rfl)),
    List.forall_mem_cons.mpr ⟨k_callV (cc := cX3_tryRows) (C := RX1) hF hK hts gGood (C_X1_passHour hE hT) wk_X1_passHour.1 wk_X1_passHour.2.1 wl_RX3_88 wk_X1_passHour.2.2.1 wk_X1_passHour.2.2.2 rfl rfl rfl rfl rfl wd_X1_passHour ⟨by rw [hr]; decide, by rw [hr]; decide⟩ (dec_X3_tryRows (137, .invokevirtual 88, 3) (List.mem_of_getElem? (i := 70) rfl)),
    List.forall_mem_cons.mpr ⟨k_callV (cc := cX3_tryRows) (C := RX3) hF hK hts gGood (C_X3_passUntilFree hE hT) wk_X3_passUntilFree.1 wk_X3_passUntilFree.2.1 wl_RX3_61 wk_X3_passUntilFree.2.2.1 wk_X3_passUntilFree.2.2.2 rfl rfl rfl rfl rfl wd_X3_passUntilFree ⟨by rw [hr]; decide, by rw [hr]; decide⟩ (dec_X3_tryRows (142, .invokevirtual 61, 3) (List.mem_of_getElem? (i := 73) rfl)),
    List.forall_mem_cons.mpr ⟨k_callV (cc := cX3_tryRows) (C := RX6) hF hK hts gGood (C_X6_copyFrom hE hT) wk_X6_copyFrom.1 wk_X6_copyFrom.2.1 wl_RX3_64 wk_X6_copyFrom.2.2.1 wk_X6_copyFrom.2.2.2 rfl rfl rfl rfl rfl wd_X6_copyFrom ⟨by rw [hr]; decide, by rw [hr]; decide⟩ (dec_X3_tryRows (160, .invokevirtual 64, 3) (List.mem_of_getElem? (i := 83) rfl)),
    List.forall_mem_cons.mpr ⟨k_callV (cc := cX3_tryRows) (C := RX3) hF hK hts gGood (C_X3_tryRows_4 hE hT) wk_X3_tryRows.1 wk_X3_tryRows.2.1 wl_RX3_68 wk_X3_tryRows.2.2.1 wk_X3_tryRows.2.2.2 rfl rfl rfl rfl rfl wd_X3_tryRows ⟨by rw [hr]; decide, by rw [hr]; decide⟩ (dec_X3_tryRows (175, .invokevirtual 68, 3) (List.mem_of_getElem? (i := 95) rfl)),
    List.forall_mem_nil _⟩⟩⟩⟩⟩⟩⟩⟩⟩⟩⟩⟩), hE, hT⟩) dec_X3_tryRows chk_X3_tryRows_3
theorem C_X3_tryRows_2 (hE : k_Eok (gE g tys B0 GI)) (hT : k_tys (gE g tys B0 GI)) : k_Met l (gE g tys B0 GI) τ gTB yX3_tryRows cX3_tryRows 5 0 K_X3_tryRows_2 ⟨8, 0, 0, 182⟩ :=
  k_met (M := M_X3_tryRows_2) (by decide +kernel) (fun X hl hr hF hts hK => ⟨gFLk3 hts, gCIk3 hts, gCJk3 hts, (show ∀ q ∈ ([(8, K_X6_allWorth), (41, K_X6_fires), (55, K_X6_copyFrom), (59, K_X3_passAll), (65, K_X3_keep), (107, K_X6_copyFrom), (116, K_X1_wayTo), (130, K_X1_sendTo), (137, K_X1_passHour), (142, K_X3_passUntilFree), (160, K_X6_copyFrom), (175, K_X3_tryRows_3)] : List (Nat × kCtr)), k_call X (gE g tys B0 GI) 5 τ q.2 q.1 from List.forall_mem_cons.mpr ⟨k_callV (cc := cX3_tryRows) (C := RX6) hF hK hts gGood (C_X6_allWorth hE hT) wk_X6_allWorth.1 wk_X6_allWorth.2.1 wl_RX3_72 wk_X6_allWorth.2.2.1 wk_X6_allWorth.2.2.2 rfl rfl rfl rfl rfl wd_X6_allWorth ⟨by rw [hr]; decide, by rw [hr]; decide⟩ (dec_X3_tryRows (8, .invokevirtual 72, 3) (List.mem_of_getElem? (i := 6) rfl)),
    List.forall_mem_cons.mpr ⟨k_callV (cc := cX3_tryRows) (C := RX6) hF hK hts gGood (C_X6_fires hE hT) wk_X6_fires.1 wk_X6_fires.2.1 wl_RX3_38 wk_X6_fires.2.2.1 wk_X6_fires.2.2.2 rfl rfl rfl rfl rfl wd_X6_fires ⟨by rw [hr]; decide, by rw [hr]; decide⟩ (dec_X3_tryRows (41, .invokevirtual 38, 3) (List.mem_of_getElem? (i := 22) rfl)),
    List.forall_mem_cons.mpr ⟨k_callV (cc := cX3_tryRows) (C := RX6) hF hK hts gGood (C_X6_copyFrom hE hT) wk_X6_copyFrom.1 wk_X6_copyFrom.2.1 wl_RX3_64 wk_X6_copyFrom.2.2.1 wk_X6_copyFrom.2.2.2 rfl rfl rfl rfl rfl wd_X6_copyFrom ⟨by rw [hr]; decide, by rw [hr]; decide⟩ (dec_X3_tryRows (55, .invokevirtual 64, 3) (List.mem_of_getElem? (i := 28) rfl)),
    List.forall_mem_cons.mpr ⟨k_callV (cc := cX3_tryRows) (C := RX3) hF hK hts gGood (C_X3_passAll hE hT) wk_X3_passAll.1 wk_X3_passAll.2.1 wl_RX3_75 wk_X3_passAll.2.2.1 wk_X3_passAll.2.2.2 rfl rfl rfl rfl rfl wd_X3_passAll ⟨by rw [hr]; decide, by rw [hr]; decide⟩ (dec_X3_tryRows (59, .invokevirtual 75, 3) (List.mem_of_getElem? (i := 30) rfl)),
    List.forall_mem_cons.mpr ⟨k_callV (cc := cX3_tryRows) (C := RX3) hF hK hts gGood (C_X3_keep hE hT) wk_X3_keep.1 wk_X3_keep.2.1 wl_RX3_78 wk_X3_keep.2.2.1 wk_X3_keep.2.2.2 rfl rfl rfl rfl rfl wd_X3_keep ⟨by rw [hr]; decide, by rw [hr]; decide⟩ (dec_X3_tryRows (65, .invokevirtual 78, 3) (List.mem_of_getElem? (i := 34) rfl)),
    List.forall_mem_cons.mpr ⟨k_callV (cc := cX3_tryRows) (C := RX6) hF hK hts gGood (C_X6_copyFrom hE hT) wk_X6_copyFrom.1 wk_X6_copyFrom.2.1 wl_RX3_64 wk_X6_copyFrom.2.2.1 wk_X6_copyFrom.2.2.2 rfl rfl rfl rfl rfl wd_X6_copyFrom ⟨by rw [hr]; decide, by rw [hr]; decide⟩ (dec_X3_tryRows (107, .invokevirtual 64, 3) (List.mem_of_getElem? (i := 57) rfl)),
    List.forall_mem_cons.mpr ⟨k_callV (cc := cX3_tryRows) (C := RX1) hF hK hts gGood (C_X1_wayTo hE hT) wk_X1_wayTo.1 wk_X1_wayTo.2.1 wl_RX3_81 wk_X1_wayTo.2.2.1 wk_X1_wayTo.2.2.2 rfl rfl rfl rfl rfl wd_X1_wayTo ⟨by rw [hr]; decide, by rw [hr]; decide⟩ (dec_X3_tryRows (116, .invokevirtual 81, 3) (List.mem_of_getElem? (i := 61) rfl)),
    List.forall_mem_cons.mpr ⟨k_callV (cc := cX3_tryRows) (C := RX1) hF hK hts gGood (C_X1_sendTo hE hT) wk_X1_sendTo.1 wk_X1_sendTo.2.1 wl_RX3_84 wk_X1_sendTo.2.2.1 wk_X1_sendTo.2.2.2 rfl rfl rfl rfl rfl wd_X1_sendTo ⟨by rw [hr]; decide, by rw [hr]; decide⟩ (dec_X3_tryRows (130, .invokevirtual 84, 3) (List.mem_of_getElem? (i := 67) rfl)),
    List.forall_mem_cons.mpr ⟨k_callV (cc := cX3_tryRows) (C := RX1) hF hK hts gGood (C_X1_passHour hE hT) wk_X1_passHour.1 wk_X1_passHour.2.1 wl_RX3_88 wk_X1_passHour.2.2.1 wk_X1_passHour.2.2.2 rfl rfl rfl rfl rfl wd_X1_passHour ⟨by rw [hr]; decide, by rw [hr]; decide⟩ (dec_X3_tryRows (137, .invokevirtual 88, 3) (List.mem_of_getElem? (i := 70) rfl)),
    List.forall_mem_cons.mpr ⟨k_callV (cc := cX3_tryRows) (C := RX3) hF hK hts gGood (C_X3_passUntilFree hE hT) wk_X3_passUntilFree.1 wk_X3_passUntilFree.2.1 wl_RX3_61 wk_X3_passUntilFree.2.2.1 wk_X3_passUntilFree.2.2.2 rfl rfl rfl rfl rfl wd_X3_passUntilFree ⟨by rw [hr]; decide, by rw [hr]; decide⟩ (dec_X3_tryRows (142, .invokevirtual 61, 3) (List.mem_of_getElem? (i := 73) rfl)),
    List.forall_mem_cons.mpr ⟨k_callV (cc := cX3_tryRows) (C := RX6) hF hK hts gGood (C_X6_copyFrom hE hT) wk_X6_copyFrom.1 wk_X6_copyFrom.2.1 wl_RX3_64 wk_X6_copyFrom.2.2.1 wk_X6_copyFrom.2.2.2 rfl rfl rfl rfl rfl wd_X6_copyFrom ⟨by rw [hr]; decide, by rw [hr]; decide⟩ (dec_X3_tryRows (160, .invokevirtual 64, 3) (List.mem_of_getElem? (i := 83) rfl)),
    List.forall_mem_cons.mpr ⟨k_callV (cc := cX3_tryRows) (C := RX3) hF hK hts gGood (C_X3_tryRows_3 hE hT) wk_X3_tryRows.1 wk_X3_tryRows.2.1 wl_RX3_68 wk_X3_tryRows.2.2.1 wk_X3_tryRows.2.2.2 rfl rfl rfl rfl rfl wd_X3_tryRows ⟨by rw [hr]; decide, by rw [hr]; decide⟩ (dec_X3_tryRows (175, .invokevirtual 68, 3) (List.mem_of_getElem? (i := 95) rfl)),
    List.forall_mem_nil _⟩⟩⟩⟩⟩⟩⟩⟩⟩⟩⟩⟩), hE, hT⟩) dec_X3_tryRows chk_X3_tryRows_2
theorem C_X3_tryRows_1 (hE : k_Eok (gE g tys B0 GI)) (hT : k_tys (gE g tys B0 GI)) : k_Met l (gE g tys B0 GI) τ gTB yX3_tryRows cX3_tryRows 5 0 K_X3_tryRows_1 ⟨9, 0, 0, 206⟩ :=
  k_met (M := M_X3_tryRows_1) (by decide +kernel) (fun X hl hr hF hts hK => ⟨gFLk3 hts, gCIk3 hts, gCJk3 hts, (show ∀ q ∈ ([(8, K_X6_allWorth), (41, K_X6_fires), (55, K_X6_copyFrom), (59, K_X3_passAll), (65, K_X3_keep), (107, K_X6_copyFrom), (116, K_X1_wayTo), (130, K_X1_sendTo), (137, K_X1_passHour), (142, K_X3_passUntilFree), (160, K_X6_copyFrom), (175, K_X3_tryRows_2)] : List (Nat × kCtr)), k_call X (gE g tys B0 GI) 5 τ q.2 q.1 from List.forall_mem_cons.mpr ⟨k_callV (cc := cX3_tryRows) (C := RX6) hF hK hts gGood (C_X6_allWorth hE hT) wk_X6_allWorth.1 wk_X6_allWorth.2.1 wl_RX3_72 wk_X6_allWorth.2.2.1 wk_X6_allWorth.2.2.2 rfl rfl rfl rfl rfl wd_X6_allWorth ⟨by rw [hr]; decide, by rw [hr]; decide⟩ (dec_X3_tryRows (8, .invokevirtual 72, 3) (List.mem_of_getElem? (i := 6) rfl)),
    List.forall_mem_cons.mpr ⟨k_callV (cc := cX3_tryRows) (C := RX6) hF hK hts gGood (C_X6_fires hE hT) wk_X6_fires.1 wk_X6_fires.2.1 wl_RX3_38 wk_X6_fires.2.2.1 wk_X6_fires.2.2.2 rfl rfl rfl rfl rfl wd_X6_fires ⟨by rw [hr]; decide, by rw [hr]; decide⟩ (dec_X3_tryRows (41, .invokevirtual 38, 3) (List.mem_of_getElem? (i := 22) rfl)),
    List.forall_mem_cons.mpr ⟨k_callV (cc := cX3_tryRows) (C := RX6) hF hK hts gGood (C_X6_copyFrom hE hT) wk_X6_copyFrom.1 wk_X6_copyFrom.2.1 wl_RX3_64 wk_X6_copyFrom.2.2.1 wk_X6_copyFrom.2.2.2 rfl rfl rfl rfl rfl wd_X6_copyFrom ⟨by rw [hr]; decide, by rw [hr]; decide⟩ (dec_X3_tryRows (55, .invokevirtual 64, 3) (List.mem_of_getElem? (i := 28) rfl)),
    List.forall_mem_cons.mpr ⟨k_callV (cc := cX3_tryRows) (C := RX3) hF hK hts gGood (C_X3_passAll hE hT) wk_X3_passAll.1 wk_X3_passAll.2.1 wl_RX3_75 wk_X3_passAll.2.2.1 wk_X3_passAll.2.2.2 rfl rfl rfl rfl rfl wd_X3_passAll ⟨by rw [hr]; decide, by rw [hr]; decide⟩ (dec_X3_tryRows (59, .invokevirtual 75, 3) (List.mem_of_getElem? (i := 30) rfl)),
    List.forall_mem_cons.mpr ⟨k_callV (cc := cX3_tryRows) (C := RX3) hF hK hts gGood (C_X3_keep hE hT) wk_X3_keep.1 wk_X3_keep.2.1 wl_RX3_78 wk_X3_keep.2.2.1 wk_X3_keep.2.2.2 rfl rfl rfl rfl rfl wd_X3_keep ⟨by rw [hr]; decide, by rw [hr]; decide⟩ (dec_X3_tryRows (65, .invokevirtual 78, 3) (List.mem_of_getElem? (i := 34) rfl)),
    List.forall_mem_cons.mpr ⟨k_callV (cc := cX3_tryRows) (C := RX6) hF hK hts gGood (C_X6_copyFrom hE hT) wk_X6_copyFrom.1 wk_X6_copyFrom.2.1 wl_RX3_64 wk_X6_copyFrom.2.2.1 wk_X6_copyFrom.2.2.2 rfl rfl rfl rfl rfl wd_X6_copyFrom ⟨by rw [hr]; decide, by rw [hr]; decide⟩ (dec_X3_tryRows (107, .invokevirtual 64, 3) (List.mem_of_getElem? (i := 57) rfl)),
    List.forall_mem_cons.mpr ⟨k_callV (cc := cX3_tryRows) (C := RX1) hF hK hts gGood (C_X1_wayTo hE hT) wk_X1_wayTo.1 wk_X1_wayTo.2.1 wl_RX3_81 wk_X1_wayTo.2.2.1 wk_X1_wayTo.2.2.2 rfl rfl rfl rfl rfl wd_X1_wayTo ⟨by rw [hr]; decide, by rw [hr]; decide⟩ (dec_X3_tryRows (116, .invokevirtual 81, 3) (List.mem_of_getElem? (i := 61) rfl)),
    List.forall_mem_cons.mpr ⟨k_callV (cc := cX3_tryRows) (C := RX1) hF hK hts gGood (C_X1_sendTo hE hT) wk_X1_sendTo.1 wk_X1_sendTo.2.1 wl_RX3_84 wk_X1_sendTo.2.2.1 wk_X1_sendTo.2.2.2 rfl rfl rfl rfl rfl wd_X1_sendTo ⟨by rw [hr]; decide, by rw [hr]; decide⟩ (dec_X3_tryRows (130, .invokevirtual 84, 3) (List.mem_of_getElem? (i := 67) rfl)),
    List.forall_mem_cons.mpr ⟨k_callV (cc := cX3_tryRows) (C := RX1) hF hK hts gGood (C_X1_passHour hE hT) wk_X1_passHour.1 wk_X1_passHour.2.1 wl_RX3_88 wk_X1_passHour.2.2.1 wk_X1_passHour.2.2.2 rfl rfl rfl rfl rfl wd_X1_passHour ⟨by rw [hr]; decide, by rw [hr]; decide⟩ (dec_X3_tryRows (137, .invokevirtual 88, 3) (List.mem_of_getElem? (i := 70) rfl)),
    List.forall_mem_cons.mpr ⟨k_callV (cc := cX3_tryRows) (C := RX3) hF hK hts gGood (C_X3_passUntilFree hE hT) wk_X3_passUntilFree.1 wk_X3_passUntilFree.2.1 wl_RX3_61 wk_X3_passUntilFree.2.2.1 wk_X3_passUntilFree.2.2.2 rfl rfl rfl rfl rfl wd_X3_passUntilFree ⟨by rw [hr]; decide, by rw [hr]; decide⟩ (dec_X3_tryRows (142, .invokevirtual 61, 3) (List.mem_of_getElem? (i := 73) rfl)),
    List.forall_mem_cons.mpr ⟨k_callV (cc := cX3_tryRows) (C := RX6) hF hK hts gGood (C_X6_copyFrom hE hT) wk_X6_copyFrom.1 wk_X6_copyFrom.2.1 wl_RX3_64 wk_X6_copyFrom.2.2.1 wk_X6_copyFrom.2.2.2 rfl rfl rfl rfl rfl wd_X6_copyFrom ⟨by rw [hr]; decide, by rw [hr]; decide⟩ (dec_X3_tryRows (160, .invokevirtual 64, 3) (List.mem_of_getElem? (i := 83) rfl)),
    List.forall_mem_cons.mpr ⟨k_callV (cc := cX3_tryRows) (C := RX3) hF hK hts gGood (C_X3_tryRows_2 hE hT) wk_X3_tryRows.1 wk_X3_tryRows.2.1 wl_RX3_68 wk_X3_tryRows.2.2.1 wk_X3_tryRows.2.2.2 rfl rfl rfl rfl rfl wd_X3_tryRows ⟨by rw [hr]; decide, by rw [hr]; decide⟩ (dec_X3_tryRows (175, .invokevirtual 68, 3) (List.mem_of_getElem? (i := 95) rfl)),
    List.forall_mem_nil _⟩⟩⟩⟩⟩⟩⟩⟩⟩⟩⟩⟩), hE, hT⟩) dec_X3_tryRows chk_X3_tryRows_1
theorem C_X3_tryRows_0 (hE : k_Eok (gE g tys B0 GI)) (hT : k_tys (gE g tys B0 GI)) : k_Met l (gE g tys B0 GI) τ gTB yX3_tryRows cX3_tryRows 5 0 K_X3_tryRows_0 ⟨10, 0, 0, 230⟩ :=
  k_met (M := M_X3_tryRows_0) (by decide +kernel) (fun X hl hr hF hts hK => ⟨gFLk3 hts, gCIk3 hts, gCJk3 hts, (show ∀ q ∈ ([(8, K_X6_allWorth), (41, K_X6_fires), (55, K_X6_copyFrom), (59, K_X3_passAll), (65, K_X3_keep), (107, K_X6_copyFrom), (116, K_X1_wayTo), (130, K_X1_sendTo), (137, K_X1_passHour), (142, K_X3_passUntilFree), (160, K_X6_copyFrom), (175, K_X3_tryRows_1)] : List (Nat × kCtr)), k_call X (gE g tys B0 GI) 5 τ q.2 q.1 from List.forall_mem_cons.mpr ⟨k_callV (cc := cX3_tryRows) (C := RX6) hF hK hts gGood (C_X6_allWorth hE hT) wk_X6_allWorth.1 wk_X6_allWorth.2.1 wl_RX3_72 wk_X6_allWorth.2.2.1 wk_X6_allWorth.2.2.2 rfl rfl rfl rfl rfl wd_X6_allWorth ⟨by rw [hr]; decide, by rw [hr]; decide⟩ (dec_X3_tryRows (8, .invokevirtual 72, 3) (List.mem_of_getElem? (i := 6) rfl)),
    List.forall_mem_cons.mpr ⟨k_callV (cc := cX3_tryRows) (C := RX6) hF hK hts gGood (C_X6_fires hE hT) wk_X6_fires.1 wk_X6_fires.2.1 wl_RX3_38 wk_X6_fires.2.2.1 wk_X6_fires.2.2.2 rfl rfl rfl rfl rfl wd_X6_fires ⟨by rw [hr]; decide, by rw [hr]; decide⟩ (dec_X3_tryRows (41, .invokevirtual 38, 3) (List.mem_of_getElem? (i := 22) rfl)),
    List.forall_mem_cons.mpr ⟨k_callV (cc := cX3_tryRows) (C := RX6) hF hK hts gGood (C_X6_copyFrom hE hT) wk_X6_copyFrom.1 wk_X6_copyFrom.2.1 wl_RX3_64 wk_X6_copyFrom.2.2.1 wk_X6_copyFrom.2.2.2 rfl rfl rfl rfl rfl wd_X6_copyFrom ⟨by rw [hr]; decide, by rw [hr]; decide⟩ (dec_X3_tryRows (55, .invokevirtual 64, 3) (List.mem_of_getElem? (i := 28) rfl)),
    List.forall_mem_cons.mpr ⟨k_callV (cc := cX3_tryRows) (C := RX3) hF hK hts gGood (C_X3_passAll hE hT) wk_X3_passAll.1 wk_X3_passAll.2.1 wl_RX3_75 wk_X3_passAll.2.2.1 wk_X3_passAll.2.2.2 rfl rfl rfl rfl rfl wd_X3_passAll ⟨by rw [hr]; decide, by rw [hr]; decide⟩ (dec_X3_tryRows (59, .invokevirtual 75, 3) (List.mem_of_getElem? (i := 30) rfl)),
    List.forall_mem_cons.mpr ⟨k_callV (cc := cX3_tryRows) (C := RX3) hF hK hts gGood (C_X3_keep hE hT) wk_X3_keep.1 wk_X3_keep.2.1 wl_RX3_78 wk_X3_keep.2.2.1 wk_X3_keep.2.2.2 rfl rfl rfl rfl rfl wd_X3_keep ⟨by rw [hr]; decide, by rw [hr]; decide⟩ (dec_X3_tryRows (65, .invokevirtual 78, 3) (List.mem_of_getElem? (i := 34) rfl)),
    List.forall_mem_cons.mpr ⟨k_callV (cc := cX3_tryRows) (C := RX6) hF hK hts gGood (C_X6_copyFrom hE hT) wk_X6_copyFrom.1 wk_X6_copyFrom.2.1 wl_RX3_64 wk_X6_copyFrom.2.2.1 wk_X6_copyFrom.2.2.2 rfl rfl rfl rfl rfl wd_X6_copyFrom ⟨by rw [hr]; decide, by rw [hr]; decide⟩ (dec_X3_tryRows (107, .invokevirtual 64, 3) (List.mem_of_getElem? (i := 57) rfl)),
    List.forall_mem_cons.mpr ⟨k_callV (cc := cX3_tryRows) (C := RX1) hF hK hts gGood (C_X1_wayTo hE hT) wk_X1_wayTo.1 wk_X1_wayTo.2.1 wl_RX3_81 wk_X1_wayTo.2.2.1 wk_X1_wayTo.2.2.2 rfl rfl rfl rfl rfl wd_X1_wayTo ⟨by rw [hr]; decide, by rw [hr]; decide⟩ (dec_X3_tryRows (116, .invokevirtual 81, 3) (List.mem_of_getElem? (i := 61) rfl)),
    List.forall_mem_cons.mpr ⟨k_callV (cc := cX3_tryRows) (C := RX1) hF hK hts gGood (C_X1_sendTo hE hT) wk_X1_sendTo.1 wk_X1_sendTo.2.1 wl_RX3_84 wk_X1_sendTo.2.2.1 wk_X1_sendTo.2.2.2 rfl rfl rfl rfl rfl wd_X1_sendTo ⟨by rw [hr]; decide, by rw [hr]; decide⟩ (dec_X3_tryRows (130, .invokevirtual 84, 3) (List.mem_of_getElem? (i := 67) rfl)),
    List.forall_mem_cons.mpr ⟨k_callV (cc := cX3_tryRows) (C := RX1) hF hK hts gGood (C_X1_passHour hE hT) wk_X1_passHour.1 wk_X1_passHour.2.1 wl_RX3_88 wk_X1_passHour.2.2.1 wk_X1_passHour.2.2.2 rfl rfl rfl rfl rfl wd_X1_passHour ⟨by rw [hr]; decide, by rw [hr]; decide⟩ (dec_X3_tryRows (137, .invokevirtual 88, 3) (List.mem_of_getElem? (i := 70) rfl)),
    List.forall_mem_cons.mpr ⟨k_callV (cc := cX3_tryRows) (C := RX3) hF hK hts gGood (C_X3_passUntilFree hE hT) wk_X3_passUntilFree.1 wk_X3_passUntilFree.2.1 wl_RX3_61 wk_X3_passUntilFree.2.2.1 wk_X3_passUntilFree.2.2.2 rfl rfl rfl rfl rfl wd_X3_passUntilFree ⟨by rw [hr]; decide, by rw [hr]; decide⟩ (dec_X3_tryRows (142, .invokevirtual 61, 3) (List.mem_of_getElem? (i := 73) rfl)),
    List.forall_mem_cons.mpr ⟨k_callV (cc := cX3_tryRows) (C := RX6) hF hK hts gGood (C_X6_copyFrom hE hT) wk_X6_copyFrom.1 wk_X6_copyFrom.2.1 wl_RX3_64 wk_X6_copyFrom.2.2.1 wk_X6_copyFrom.2.2.2 rfl rfl rfl rfl rfl wd_X6_copyFrom ⟨by rw [hr]; decide, by rw [hr]; decide⟩ (dec_X3_tryRows (160, .invokevirtual 64, 3) (List.mem_of_getElem? (i := 83) rfl)),
    List.forall_mem_cons.mpr ⟨k_callV (cc := cX3_tryRows) (C := RX3) hF hK hts gGood (C_X3_tryRows_1 hE hT) wk_X3_tryRows.1 wk_X3_tryRows.2.1 wl_RX3_68 wk_X3_tryRows.2.2.1 wk_X3_tryRows.2.2.2 rfl rfl rfl rfl rfl wd_X3_tryRows ⟨by rw [hr]; decide, by rw [hr]; decide⟩ (dec_X3_tryRows (175, .invokevirtual 68, 3) (List.mem_of_getElem? (i := 95) rfl)),
    List.forall_mem_nil _⟩⟩⟩⟩⟩⟩⟩⟩⟩⟩⟩⟩), hE, hT⟩) dec_X3_tryRows chk_X3_tryRows_0
theorem wl_RX3_29 : Jvm.Cond.methodLink RX3 29 yX1_beginNow ∈ gTB := gIn (i := 1062) (by decide +kernel) (by decide +kernel)
theorem wk_X1_beginNow : Jvm.Cond.code yX1_beginNow cX1_beginNow 1 (k_rty 0) ∈ gTB ∧ Jvm.Cond.initialized yX1_beginNow.cls ∈ gTB ∧ Jvm.Cond.instanceMethod yX1_beginNow ∈ gTB ∧ Jvm.Cond.selects RX1 yX1_beginNow yX1_beginNow ∈ gTB := ⟨gIn (i := 901) (by decide +kernel) (by decide +kernel), gIn (i := 133) (by decide +kernel) (by decide +kernel), gIn (i := 899) (by decide +kernel) (by decide +kernel), gIn (i := 900) (by decide +kernel) (by decide +kernel)⟩
theorem wd_X1_beginNow : yX1_beginNow.cls ≠ "java/lang/invoke/MethodHandle" ∧ yX1_beginNow.cls ≠ "java/lang/invoke/VarHandle" ∧ (parseMethodDescriptor yX1_beginNow.desc).map (fun d => d.parameters.length) = some 0 := by decide +kernel
theorem wl_RX3_42 : Jvm.Cond.methodLink RX3 42 yJ6_bitCount_0f7a4 ∈ gTB := gIn (i := 1064) (by decide +kernel) (by decide +kernel)
theorem C_X3_findBest (hE : k_Eok (gE g tys B0 GI)) (hT : k_tys (gE g tys B0 GI)) : k_Met l (gE g tys B0 GI) τ gTB yX3_findBest cX3_findBest 3 0 K_X3_findBest ⟨11, 0, 0, 254⟩ :=
  k_met (M := M_X3_findBest) (by decide +kernel) (fun X hl hr hF hts hK => ⟨gFLk3 hts, gCIk3 hts, gCJk3 hts, (show ∀ q ∈ ([(4, K_X1_beginNow), (14, K_X6_fires), (20, K_J6_bitCount_0f7a4), (48, K_X3_passUntilFree), (64, K_X6_copyFrom), (70, K_X3_tryRows_0)] : List (Nat × kCtr)), k_call X (gE g tys B0 GI) 3 τ q.2 q.1 from List.forall_mem_cons.mpr ⟨k_callV (cc := cX3_findBest) (C := RX1) hF hK hts gGood (C_X1_beginNow hE hT) wk_X1_beginNow.1 wk_X1_beginNow.2.1 wl_RX3_29 wk_X1_beginNow.2.2.1 wk_X1_beginNow.2.2.2 rfl rfl rfl rfl rfl wd_X1_beginNow ⟨by rw [hr]; decide, by rw [hr]; decide⟩ (dec_X3_findBest (4, .invokevirtual 29, 3) (List.mem_of_getElem? (i := 2) rfl)),
    List.forall_mem_cons.mpr ⟨k_callV (cc := cX3_findBest) (C := RX6) hF hK hts gGood (C_X6_fires hE hT) wk_X6_fires.1 wk_X6_fires.2.1 wl_RX3_38 wk_X6_fires.2.2.1 wk_X6_fires.2.2.2 rfl rfl rfl rfl rfl wd_X6_fires ⟨by rw [hr]; decide, by rw [hr]; decide⟩ (dec_X3_findBest (14, .invokevirtual 38, 3) (List.mem_of_getElem? (i := 6) rfl)),
    List.forall_mem_cons.mpr ⟨k_callS (cc := cX3_findBest) hF hK hts gGood (C_J6_bitCount_0f7a4 hE hT) wk_J6_bitCount_0f7a4.1 wk_J6_bitCount_0f7a4.2.1 wl_RX3_42 wk_J6_bitCount_0f7a4.2.2 rfl rfl wd_J6_bitCount_0f7a4 ⟨by rw [hr]; decide, by rw [hr]; decide⟩ (dec_X3_findBest (20, .invokestatic 42, 3) (List.mem_of_getElem? (i := 10) rfl)),
    List.forall_mem_cons.mpr ⟨k_callV (cc := cX3_findBest) (C := RX3) hF hK hts gGood (C_X3_passUntilFree hE hT) wk_X3_passUntilFree.1 wk_X3_passUntilFree.2.1 wl_RX3_61 wk_X3_passUntilFree.2.2.1 wk_X3_passUntilFree.2.2.2 rfl rfl rfl rfl rfl wd_X3_passUntilFree ⟨by rw [hr]; decide, by rw [hr]; decide⟩ (dec_X3_findBest (48, .invokevirtual 61, 3) (List.mem_of_getElem? (i := 24) rfl)),
    List.forall_mem_cons.mpr ⟨k_callV (cc := cX3_findBest) (C := RX6) hF hK hts gGood (C_X6_copyFrom hE hT) wk_X6_copyFrom.1 wk_X6_copyFrom.2.1 wl_RX3_64 wk_X6_copyFrom.2.2.1 wk_X6_copyFrom.2.2.2 rfl rfl rfl rfl rfl wd_X6_copyFrom ⟨by rw [hr]; decide, by rw [hr]; decide⟩ (dec_X3_findBest (64, .invokevirtual 64, 3) (List.mem_of_getElem? (i := 32) rfl)),
    List.forall_mem_cons.mpr ⟨k_callV (cc := cX3_findBest) (C := RX3) hF hK hts gGood (C_X3_tryRows_0 hE hT) wk_X3_tryRows.1 wk_X3_tryRows.2.1 wl_RX3_68 wk_X3_tryRows.2.2.1 wk_X3_tryRows.2.2.2 rfl rfl rfl rfl rfl wd_X3_tryRows ⟨by rw [hr]; decide, by rw [hr]; decide⟩ (dec_X3_findBest (70, .invokevirtual 68, 3) (List.mem_of_getElem? (i := 36) rfl)),
    List.forall_mem_nil _⟩⟩⟩⟩⟩⟩), hE, hT⟩) dec_X3_findBest chk_X3_findBest
theorem wl_RX0_36 : Jvm.Cond.methodLink RX0 36 yX1_beginNow ∈ gTB := gIn (i := 1043) (by decide +kernel) (by decide +kernel)
theorem wl_RX0_45 : Jvm.Cond.methodLink RX0 45 yX6_fires ∈ gTB := gIn (i := 1044) (by decide +kernel) (by decide +kernel)
theorem wl_RX0_55 : Jvm.Cond.methodLink RX0 55 yX1_goOneHour ∈ gTB := gIn (i := 1045) (by decide +kernel) (by decide +kernel)
theorem C_X0_hourOut (hE : k_Eok (gE g tys B0 GI)) (hT : k_tys (gE g tys B0 GI)) : k_Met l (gE g tys B0 GI) τ gTB yX0_hourOut cX0_hourOut 2 1 K_X0_hourOut ⟨19, 0, 0, 671⟩ :=
  k_met (M := M_X0_hourOut) (by decide +kernel) (fun X hl hr hF hts hK => ⟨gFLk0 hts, gCIk0 hts, gCJk0 hts, (show ∀ q ∈ ([(4, K_X1_beginNow), (23, K_X6_fires), (44, K_X1_goOneHour)] : List (Nat × kCtr)), k_call X (gE g tys B0 GI) 2 τ q.2 q.1 from List.forall_mem_cons.mpr ⟨k_callV (cc := cX0_hourOut) (C := RX1) hF hK hts gGood (C_X1_beginNow hE hT) wk_X1_beginNow.1 wk_X1_beginNow.2.1 wl_RX0_36 wk_X1_beginNow.2.2.1 wk_X1_beginNow.2.2.2 rfl rfl rfl rfl rfl wd_X1_beginNow ⟨by rw [hr]; decide, by rw [hr]; decide⟩ (dec_X0_hourOut (4, .invokevirtual 36, 3) (List.mem_of_getElem? (i := 2) rfl)),
    List.forall_mem_cons.mpr ⟨k_callV (cc := cX0_hourOut) (C := RX6) hF hK hts gGood (C_X6_fires hE hT) wk_X6_fires.1 wk_X6_fires.2.1 wl_RX0_45 wk_X6_fires.2.2.1 wk_X6_fires.2.2.2 rfl rfl rfl rfl rfl wd_X6_fires ⟨by rw [hr]; decide, by rw [hr]; decide⟩ (dec_X0_hourOut (23, .invokevirtual 45, 3) (List.mem_of_getElem? (i := 11) rfl)),
    List.forall_mem_cons.mpr ⟨k_callV (cc := cX0_hourOut) (C := RX1) hF hK hts gGood (C_X1_goOneHour hE hT) wk_X1_goOneHour.1 wk_X1_goOneHour.2.1 wl_RX0_55 wk_X1_goOneHour.2.2.1 wk_X1_goOneHour.2.2.2 rfl rfl rfl rfl rfl wd_X1_goOneHour ⟨by rw [hr]; decide, by rw [hr]; decide⟩ (dec_X0_hourOut (44, .invokevirtual 55, 3) (List.mem_of_getElem? (i := 20) rfl)),
    List.forall_mem_nil _⟩⟩⟩), hE, hT⟩) dec_X0_hourOut chk_X0_hourOut
theorem C_X0_housesThatCanBurn (hE : k_Eok (gE g tys B0 GI)) (hT : k_tys (gE g tys B0 GI)) : k_Met l (gE g tys B0 GI) τ gTB yX0_housesThatCanBurn cX0_housesThatCanBurn 4 1 K_X0_housesThatCanBurn ⟨1, 0, 0, 22⟩ :=
  k_met (M := M_X0_housesThatCanBurn) (by decide +kernel) (fun X hl hr hF hts hK => ⟨gFLk0 hts, gCIk0 hts, gCJk0 hts, (show ∀ q ∈ ([(7, K_X6_fires)] : List (Nat × kCtr)), k_call X (gE g tys B0 GI) 4 τ q.2 q.1 from List.forall_mem_cons.mpr ⟨k_callV (cc := cX0_housesThatCanBurn) (C := RX6) hF hK hts gGood (C_X6_fires hE hT) wk_X6_fires.1 wk_X6_fires.2.1 wl_RX0_45 wk_X6_fires.2.2.1 wk_X6_fires.2.2.2 rfl rfl rfl rfl rfl wd_X6_fires ⟨by rw [hr]; decide, by rw [hr]; decide⟩ (dec_X0_housesThatCanBurn (7, .invokevirtual 45, 3) (List.mem_of_getElem? (i := 3) rfl)),
    List.forall_mem_nil _⟩), hE, hT⟩) dec_X0_housesThatCanBurn chk_X0_housesThatCanBurn
theorem C_X0_comesTo (hE : k_Eok (gE g tys B0 GI)) (hT : k_tys (gE g tys B0 GI)) : k_Met l (gE g tys B0 GI) τ gTB yX0_comesTo cX0_comesTo 3 2 K_X0_comesTo ⟨19, 0, 0, 671⟩ :=
  k_met (M := M_X0_comesTo) (by decide +kernel) (fun X hl hr hF hts hK => ⟨gFLk0 hts, gCIk0 hts, gCJk0 hts, (show ∀ q ∈ ([(12, K_X1_goOneHour)] : List (Nat × kCtr)), k_call X (gE g tys B0 GI) 3 τ q.2 q.1 from List.forall_mem_cons.mpr ⟨k_callV (cc := cX0_comesTo) (C := RX1) hF hK hts gGood (C_X1_goOneHour hE hT) wk_X1_goOneHour.1 wk_X1_goOneHour.2.1 wl_RX0_55 wk_X1_goOneHour.2.2.1 wk_X1_goOneHour.2.2.2 rfl rfl rfl rfl rfl wd_X1_goOneHour ⟨by rw [hr]; decide, by rw [hr]; decide⟩ (dec_X0_comesTo (12, .invokevirtual 55, 3) (List.mem_of_getElem? (i := 7) rfl)),
    List.forall_mem_nil _⟩), hE, hT⟩) dec_X0_comesTo chk_X0_comesTo
theorem wl_RX0_73 : Jvm.Cond.methodLink RX0 73 yX0_comesTo ∈ gTB := gIn (i := 1097) (by decide +kernel) (by decide +kernel)
theorem wk_X0_comesTo : Jvm.Cond.code yX0_comesTo cX0_comesTo 3 (k_rty 2) ∈ gTB ∧ Jvm.Cond.initialized yX0_comesTo.cls ∈ gTB ∧ Jvm.Cond.instanceMethod yX0_comesTo ∈ gTB ∧ Jvm.Cond.selects RX0 yX0_comesTo yX0_comesTo ∈ gTB := ⟨gIn (i := 1100) (by decide +kernel) (by decide +kernel), gIn (i := 134) (by decide +kernel) (by decide +kernel), gIn (i := 1099) (by decide +kernel) (by decide +kernel), gIn (i := 38) (by decide +kernel) (by decide +kernel)⟩
theorem wd_X0_comesTo : yX0_comesTo.cls ≠ "java/lang/invoke/MethodHandle" ∧ yX0_comesTo.cls ≠ "java/lang/invoke/VarHandle" ∧ (parseMethodDescriptor yX0_comesTo.desc).map (fun d => d.parameters.length) = some 1 := by decide +kernel
theorem C_X0_leastHeard (hE : k_Eok (gE g tys B0 GI)) (hT : k_tys (gE g tys B0 GI)) : k_Met l (gE g tys B0 GI) τ gTB yX0_leastHeard cX0_leastHeard 3 1 K_X0_leastHeard ⟨20, 0, 0, 693⟩ :=
  k_met (M := M_X0_leastHeard) (by decide +kernel) (fun X hl hr hF hts hK => ⟨gFLk0 hts, gCIk0 hts, gCJk0 hts, (show ∀ q ∈ ([(12, K_X1_beginNow), (30, K_X0_comesTo)] : List (Nat × kCtr)), k_call X (gE g tys B0 GI) 3 τ q.2 q.1 from List.forall_mem_cons.mpr ⟨k_callV (cc := cX0_leastHeard) (C := RX1) hF hK hts gGood (C_X1_beginNow hE hT) wk_X1_beginNow.1 wk_X1_beginNow.2.1 wl_RX0_36 wk_X1_beginNow.2.2.1 wk_X1_beginNow.2.2.2 rfl rfl rfl rfl rfl wd_X1_beginNow ⟨by rw [hr]; decide, by rw [hr]; decide⟩ (dec_X0_leastHeard (12, .invokevirtual 36, 3) (List.mem_of_getElem? (i := 7) rfl)),
    List.forall_mem_cons.mpr ⟨k_callV (cc := cX0_leastHeard) (C := RX0) hF hK hts gGood (C_X0_comesTo hE hT) wk_X0_comesTo.1 wk_X0_comesTo.2.1 wl_RX0_73 wk_X0_comesTo.2.2.1 wk_X0_comesTo.2.2.2 rfl rfl rfl rfl rfl wd_X0_comesTo ⟨by rw [hr]; decide, by rw [hr]; decide⟩ (dec_X0_leastHeard (30, .invokevirtual 73, 3) (List.mem_of_getElem? (i := 17) rfl)),
    List.forall_mem_nil _⟩⟩), hE, hT⟩) dec_X0_leastHeard chk_X0_leastHeard
theorem C_X0_allKeepWorth (hE : k_Eok (gE g tys B0 GI)) (hT : k_tys (gE g tys B0 GI)) : k_Met l (gE g tys B0 GI) τ gTB yX0_allKeepWorth cX0_allKeepWorth 2 2 K_X0_allKeepWorth ⟨0, 0, 0, 0⟩ :=
  k_met (M := M_X0_allKeepWorth) (by decide +kernel) (fun X hl hr hF hts hK => ⟨gFLk0 hts, gCIk0 hts, gCJk0 hts, (show ∀ q ∈ ([] : List (Nat × kCtr)), k_call X (gE g tys B0 GI) 2 τ q.2 q.1 from List.forall_mem_nil _), hE, hT⟩) dec_X0_allKeepWorth chk_X0_allKeepWorth
theorem wl_RX0_83 : Jvm.Cond.methodLink RX0 83 yX1_worthAfter ∈ gTB := gIn (i := 1109) (by decide +kernel) (by decide +kernel)
theorem wk_X1_worthAfter : Jvm.Cond.code yX1_worthAfter cX1_worthAfter 3 (k_rty 1) ∈ gTB ∧ Jvm.Cond.initialized yX1_worthAfter.cls ∈ gTB ∧ Jvm.Cond.instanceMethod yX1_worthAfter ∈ gTB ∧ Jvm.Cond.selects RX1 yX1_worthAfter yX1_worthAfter ∈ gTB := ⟨gIn (i := 1030) (by decide +kernel) (by decide +kernel), gIn (i := 133) (by decide +kernel) (by decide +kernel), gIn (i := 1028) (by decide +kernel) (by decide +kernel), gIn (i := 1029) (by decide +kernel) (by decide +kernel)⟩
theorem wd_X1_worthAfter : yX1_worthAfter.cls ≠ "java/lang/invoke/MethodHandle" ∧ yX1_worthAfter.cls ≠ "java/lang/invoke/VarHandle" ∧ (parseMethodDescriptor yX1_worthAfter.desc).map (fun d => d.parameters.length) = some 1 := by decide +kernel
theorem wl_RX0_87 : Jvm.Cond.methodLink RX0 87 yX0_allKeepWorth ∈ gTB := gIn (i := 1110) (by decide +kernel) (by decide +kernel)
theorem wk_X0_allKeepWorth : Jvm.Cond.code yX0_allKeepWorth cX0_allKeepWorth 2 (k_rty 2) ∈ gTB ∧ Jvm.Cond.initialized yX0_allKeepWorth.cls ∈ gTB ∧ Jvm.Cond.instanceMethod yX0_allKeepWorth ∈ gTB ∧ Jvm.Cond.selects RX0 yX0_allKeepWorth yX0_allKeepWorth ∈ gTB := ⟨gIn (i := 1113) (by decide +kernel) (by decide +kernel), gIn (i := 134) (by decide +kernel) (by decide +kernel), gIn (i := 1112) (by decide +kernel) (by decide +kernel), gIn (i := 39) (by decide +kernel) (by decide +kernel)⟩
theorem wd_X0_allKeepWorth : yX0_allKeepWorth.cls ≠ "java/lang/invoke/MethodHandle" ∧ yX0_allKeepWorth.cls ≠ "java/lang/invoke/VarHandle" ∧ (parseMethodDescriptor yX0_allKeepWorth.desc).map (fun d => d.parameters.length) = some 0 := by decide +kernel
theorem C_X0_leastWater (hE : k_Eok (gE g tys B0 GI)) (hT : k_tys (gE g tys B0 GI)) : k_Met l (gE g tys B0 GI) τ gTB yX0_leastWater cX0_leastWater 3 1 K_X0_leastWater ⟨20, 0, 0, 693⟩ :=
  k_met (M := M_X0_leastWater) (by decide +kernel) (fun X hl hr hF hts hK => ⟨gFLk0 hts, gCIk0 hts, gCJk0 hts, (show ∀ q ∈ ([(12, K_X1_beginNow), (28, K_X1_worthAfter), (33, K_X0_allKeepWorth)] : List (Nat × kCtr)), k_call X (gE g tys B0 GI) 3 τ q.2 q.1 from List.forall_mem_cons.mpr ⟨k_callV (cc := cX0_leastWater) (C := RX1) hF hK hts gGood (C_X1_beginNow hE hT) wk_X1_beginNow.1 wk_X1_beginNow.2.1 wl_RX0_36 wk_X1_beginNow.2.2.1 wk_X1_beginNow.2.2.2 rfl rfl rfl rfl rfl wd_X1_beginNow ⟨by rw [hr]; decide, by rw [hr]; decide⟩ (dec_X0_leastWater (12, .invokevirtual 36, 3) (List.mem_of_getElem? (i := 7) rfl)),
    List.forall_mem_cons.mpr ⟨k_callV (cc := cX0_leastWater) (C := RX1) hF hK hts gGood (C_X1_worthAfter hE hT) wk_X1_worthAfter.1 wk_X1_worthAfter.2.1 wl_RX0_83 wk_X1_worthAfter.2.2.1 wk_X1_worthAfter.2.2.2 rfl rfl rfl rfl rfl wd_X1_worthAfter ⟨by rw [hr]; decide, by rw [hr]; decide⟩ (dec_X0_leastWater (28, .invokevirtual 83, 3) (List.mem_of_getElem? (i := 15) rfl)),
    List.forall_mem_cons.mpr ⟨k_callV (cc := cX0_leastWater) (C := RX0) hF hK hts gGood (C_X0_allKeepWorth hE hT) wk_X0_allKeepWorth.1 wk_X0_allKeepWorth.2.1 wl_RX0_87 wk_X0_allKeepWorth.2.2.1 wk_X0_allKeepWorth.2.2.2 rfl rfl rfl rfl rfl wd_X0_allKeepWorth ⟨by rw [hr]; decide, by rw [hr]; decide⟩ (dec_X0_leastWater (33, .invokevirtual 87, 3) (List.mem_of_getElem? (i := 18) rfl)),
    List.forall_mem_nil _⟩⟩⟩), hE, hT⟩) dec_X0_leastWater chk_X0_leastWater
theorem C_X0_findCleared (hE : k_Eok (gE g tys B0 GI)) (hT : k_tys (gE g tys B0 GI)) : k_Met l (gE g tys B0 GI) τ gTB yX0_findCleared cX0_findCleared 5 0 K_X0_findCleared ⟨20, 0, 0, 693⟩ :=
  k_met (M := M_X0_findCleared) (by decide +kernel) (fun X hl hr hF hts hK => ⟨gFLk0 hts, gCIk0 hts, gCJk0 hts, (show ∀ q ∈ ([(11, K_X1_beginNow), (24, K_X1_worthAfter), (45, K_X1_beginNow), (93, K_X1_worthAfter)] : List (Nat × kCtr)), k_call X (gE g tys B0 GI) 5 τ q.2 q.1 from List.forall_mem_cons.mpr ⟨k_callV (cc := cX0_findCleared) (C := RX1) hF hK hts gGood (C_X1_beginNow hE hT) wk_X1_beginNow.1 wk_X1_beginNow.2.1 wl_RX0_36 wk_X1_beginNow.2.2.1 wk_X1_beginNow.2.2.2 rfl rfl rfl rfl rfl wd_X1_beginNow ⟨by rw [hr]; decide, by rw [hr]; decide⟩ (dec_X0_findCleared (11, .invokevirtual 36, 3) (List.mem_of_getElem? (i := 7) rfl)),
    List.forall_mem_cons.mpr ⟨k_callV (cc := cX0_findCleared) (C := RX1) hF hK hts gGood (C_X1_worthAfter hE hT) wk_X1_worthAfter.1 wk_X1_worthAfter.2.1 wl_RX0_83 wk_X1_worthAfter.2.2.1 wk_X1_worthAfter.2.2.2 rfl rfl rfl rfl rfl wd_X1_worthAfter ⟨by rw [hr]; decide, by rw [hr]; decide⟩ (dec_X0_findCleared (24, .invokevirtual 83, 3) (List.mem_of_getElem? (i := 14) rfl)),
    List.forall_mem_cons.mpr ⟨k_callV (cc := cX0_findCleared) (C := RX1) hF hK hts gGood (C_X1_beginNow hE hT) wk_X1_beginNow.1 wk_X1_beginNow.2.1 wl_RX0_36 wk_X1_beginNow.2.2.1 wk_X1_beginNow.2.2.2 rfl rfl rfl rfl rfl wd_X1_beginNow ⟨by rw [hr]; decide, by rw [hr]; decide⟩ (dec_X0_findCleared (45, .invokevirtual 36, 3) (List.mem_of_getElem? (i := 25) rfl)),
    List.forall_mem_cons.mpr ⟨k_callV (cc := cX0_findCleared) (C := RX1) hF hK hts gGood (C_X1_worthAfter hE hT) wk_X1_worthAfter.1 wk_X1_worthAfter.2.1 wl_RX0_83 wk_X1_worthAfter.2.2.1 wk_X1_worthAfter.2.2.2 rfl rfl rfl rfl rfl wd_X1_worthAfter ⟨by rw [hr]; decide, by rw [hr]; decide⟩ (dec_X0_findCleared (93, .invokevirtual 83, 3) (List.mem_of_getElem? (i := 51) rfl)),
    List.forall_mem_nil _⟩⟩⟩⟩), hE, hT⟩) dec_X0_findCleared chk_X0_findCleared
theorem C_X0_hush (hE : k_Eok (gE g tys B0 GI)) (hT : k_tys (gE g tys B0 GI)) : k_Met l (gE g tys B0 GI) τ gTB yX0_hush cX0_hush 3 2 K_X0_hush ⟨0, 0, 0, 0⟩ :=
  k_met (M := M_X0_hush) (by decide +kernel) (fun X hl hr hF hts hK => ⟨gFLk0 hts, gCIk0 hts, gCJk0 hts, (show ∀ q ∈ ([] : List (Nat × kCtr)), k_call X (gE g tys B0 GI) 3 τ q.2 q.1 from List.forall_mem_nil _), hE, hT⟩) dec_X0_hush chk_X0_hush
theorem wl_RX0_94 : Jvm.Cond.methodLink RX0 94 yX0_hush ∈ gTB := gIn (i := 1130) (by decide +kernel) (by decide +kernel)
theorem wk_X0_hush : Jvm.Cond.code yX0_hush cX0_hush 3 (k_rty 2) ∈ gTB ∧ Jvm.Cond.initialized yX0_hush.cls ∈ gTB ∧ Jvm.Cond.instanceMethod yX0_hush ∈ gTB ∧ Jvm.Cond.selects RX0 yX0_hush yX0_hush ∈ gTB := ⟨gIn (i := 1133) (by decide +kernel) (by decide +kernel), gIn (i := 134) (by decide +kernel) (by decide +kernel), gIn (i := 1132) (by decide +kernel) (by decide +kernel), gIn (i := 40) (by decide +kernel) (by decide +kernel)⟩
theorem wd_X0_hush : yX0_hush.cls ≠ "java/lang/invoke/MethodHandle" ∧ yX0_hush.cls ≠ "java/lang/invoke/VarHandle" ∧ (parseMethodDescriptor yX0_hush.desc).map (fun d => d.parameters.length) = some 1 := by decide +kernel
theorem wl_RX0_97 : Jvm.Cond.methodLink RX0 97 yJ6_bitCount_0f7a4 ∈ gTB := gIn (i := 1134) (by decide +kernel) (by decide +kernel)
theorem C_X0_findSilent (hE : k_Eok (gE g tys B0 GI)) (hT : k_tys (gE g tys B0 GI)) : k_Met l (gE g tys B0 GI) τ gTB yX0_findSilent cX0_findSilent 6 0 K_X0_findSilent ⟨20, 0, 0, 693⟩ :=
  k_met (M := M_X0_findSilent) (by decide +kernel) (fun X hl hr hF hts hK => ⟨gFLk0 hts, gCIk0 hts, gCJk0 hts, (show ∀ q ∈ ([(42, K_X1_beginNow), (47, K_X0_hush), (61, K_X1_worthAfter), (67, K_J6_bitCount_0f7a4)] : List (Nat × kCtr)), k_call X (gE g tys B0 GI) 6 τ q.2 q.1 from List.forall_mem_cons.mpr ⟨k_callV (cc := cX0_findSilent) (C := RX1) hF hK hts gGood (C_X1_beginNow hE hT) wk_X1_beginNow.1 wk_X1_beginNow.2.1 wl_RX0_36 wk_X1_beginNow.2.2.1 wk_X1_beginNow.2.2.2 rfl rfl rfl rfl rfl wd_X1_beginNow ⟨by rw [hr]; decide, by rw [hr]; decide⟩ (dec_X0_findSilent (42, .invokevirtual 36, 3) (List.mem_of_getElem? (i := 28) rfl)),
    List.forall_mem_cons.mpr ⟨k_callV (cc := cX0_findSilent) (C := RX0) hF hK hts gGood (C_X0_hush hE hT) wk_X0_hush.1 wk_X0_hush.2.1 wl_RX0_94 wk_X0_hush.2.2.1 wk_X0_hush.2.2.2 rfl rfl rfl rfl rfl wd_X0_hush ⟨by rw [hr]; decide, by rw [hr]; decide⟩ (dec_X0_findSilent (47, .invokevirtual 94, 3) (List.mem_of_getElem? (i := 31) rfl)),
    List.forall_mem_cons.mpr ⟨k_callV (cc := cX0_findSilent) (C := RX1) hF hK hts gGood (C_X1_worthAfter hE hT) wk_X1_worthAfter.1 wk_X1_worthAfter.2.1 wl_RX0_83 wk_X1_worthAfter.2.2.1 wk_X1_worthAfter.2.2.2 rfl rfl rfl rfl rfl wd_X1_worthAfter ⟨by rw [hr]; decide, by rw [hr]; decide⟩ (dec_X0_findSilent (61, .invokevirtual 83, 3) (List.mem_of_getElem? (i := 37) rfl)),
    List.forall_mem_cons.mpr ⟨k_callS (cc := cX0_findSilent) hF hK hts gGood (C_J6_bitCount_0f7a4 hE hT) wk_J6_bitCount_0f7a4.1 wk_J6_bitCount_0f7a4.2.1 wl_RX0_97 wk_J6_bitCount_0f7a4.2.2 rfl rfl wd_J6_bitCount_0f7a4 ⟨by rw [hr]; decide, by rw [hr]; decide⟩ (dec_X0_findSilent (67, .invokestatic 97, 3) (List.mem_of_getElem? (i := 40) rfl)),
    List.forall_mem_nil _⟩⟩⟩⟩), hE, hT⟩) dec_X0_findSilent chk_X0_findSilent
theorem C_X0_lostOf (hE : k_Eok (gE g tys B0 GI)) (hT : k_tys (gE g tys B0 GI)) : k_Met l (gE g tys B0 GI) τ gTB yX0_lostOf cX0_lostOf 2 1 K_X0_lostOf ⟨0, 0, 0, 0⟩ :=
  k_met (M := M_X0_lostOf) (by decide +kernel) (fun X hl hr hF hts hK => ⟨gFLk0 hts, gCIk0 hts, gCJk0 hts, (show ∀ q ∈ ([] : List (Nat × kCtr)), k_call X (gE g tys B0 GI) 2 τ q.2 q.1 from List.forall_mem_nil _), hE, hT⟩) dec_X0_lostOf chk_X0_lostOf
theorem wl_RX0_105 : Jvm.Cond.methodLink RX0 105 yX0_lostOf ∈ gTB := gIn (i := 1143) (by decide +kernel) (by decide +kernel)
theorem wk_X0_lostOf : Jvm.Cond.code yX0_lostOf cX0_lostOf 2 (k_rty 1) ∈ gTB ∧ Jvm.Cond.initialized yX0_lostOf.cls ∈ gTB ∧ Jvm.Cond.instanceMethod yX0_lostOf ∈ gTB ∧ Jvm.Cond.selects RX0 yX0_lostOf yX0_lostOf ∈ gTB := ⟨gIn (i := 1146) (by decide +kernel) (by decide +kernel), gIn (i := 134) (by decide +kernel) (by decide +kernel), gIn (i := 1145) (by decide +kernel) (by decide +kernel), gIn (i := 41) (by decide +kernel) (by decide +kernel)⟩
theorem wd_X0_lostOf : yX0_lostOf.cls ≠ "java/lang/invoke/MethodHandle" ∧ yX0_lostOf.cls ≠ "java/lang/invoke/VarHandle" ∧ (parseMethodDescriptor yX0_lostOf.desc).map (fun d => d.parameters.length) = some 1 := by decide +kernel
theorem C_X0_penceOf (hE : k_Eok (gE g tys B0 GI)) (hT : k_tys (gE g tys B0 GI)) : k_Met l (gE g tys B0 GI) τ gTB yX0_penceOf cX0_penceOf 9 1 K_X0_penceOf ⟨1, 0, 0, 21⟩ :=
  k_met (M := M_X0_penceOf) (by decide +kernel) (fun X hl hr hF hts hK => ⟨gFLk0 hts, gCIk0 hts, gCJk0 hts, (show ∀ q ∈ ([(26, K_X0_lostOf), (53, K_X0_lostOf), (104, K_X0_lostOf)] : List (Nat × kCtr)), k_call X (gE g tys B0 GI) 9 τ q.2 q.1 from List.forall_mem_cons.mpr ⟨k_callV (cc := cX0_penceOf) (C := RX0) hF hK hts gGood (C_X0_lostOf hE hT) wk_X0_lostOf.1 wk_X0_lostOf.2.1 wl_RX0_105 wk_X0_lostOf.2.2.1 wk_X0_lostOf.2.2.2 rfl rfl rfl rfl rfl wd_X0_lostOf ⟨by rw [hr]; decide, by rw [hr]; decide⟩ (dec_X0_penceOf (26, .invokevirtual 105, 3) (List.mem_of_getElem? (i := 16) rfl)),
    List.forall_mem_cons.mpr ⟨k_callV (cc := cX0_penceOf) (C := RX0) hF hK hts gGood (C_X0_lostOf hE hT) wk_X0_lostOf.1 wk_X0_lostOf.2.1 wl_RX0_105 wk_X0_lostOf.2.2.1 wk_X0_lostOf.2.2.2 rfl rfl rfl rfl rfl wd_X0_lostOf ⟨by rw [hr]; decide, by rw [hr]; decide⟩ (dec_X0_penceOf (53, .invokevirtual 105, 3) (List.mem_of_getElem? (i := 31) rfl)),
    List.forall_mem_cons.mpr ⟨k_callV (cc := cX0_penceOf) (C := RX0) hF hK hts gGood (C_X0_lostOf hE hT) wk_X0_lostOf.1 wk_X0_lostOf.2.1 wl_RX0_105 wk_X0_lostOf.2.2.1 wk_X0_lostOf.2.2.2 rfl rfl rfl rfl rfl wd_X0_lostOf ⟨by rw [hr]; decide, by rw [hr]; decide⟩ (dec_X0_penceOf (104, .invokevirtual 105, 3) (List.mem_of_getElem? (i := 59) rfl)),
    List.forall_mem_nil _⟩⟩⟩), hE, hT⟩) dec_X0_penceOf chk_X0_penceOf
theorem C_X0_isRest (hE : k_Eok (gE g tys B0 GI)) (hT : k_tys (gE g tys B0 GI)) : k_Met l (gE g tys B0 GI) τ gTB yX0_isRest cX0_isRest 5 2 K_X0_isRest ⟨0, 0, 0, 0⟩ :=
  k_met (M := M_X0_isRest) (by decide +kernel) (fun X hl hr hF hts hK => ⟨gFLk0 hts, gCIk0 hts, gCJk0 hts, (show ∀ q ∈ ([] : List (Nat × kCtr)), k_call X (gE g tys B0 GI) 5 τ q.2 q.1 from List.forall_mem_nil _), hE, hT⟩) dec_X0_isRest chk_X0_isRest
theorem wl_RX0_109 : Jvm.Cond.methodLink RX0 109 yX0_isRest ∈ gTB := gIn (i := 1155) (by decide +kernel) (by decide +kernel)
theorem wk_X0_isRest : Jvm.Cond.code yX0_isRest cX0_isRest 5 (k_rty 2) ∈ gTB ∧ Jvm.Cond.initialized yX0_isRest.cls ∈ gTB ∧ Jvm.Cond.instanceMethod yX0_isRest ∈ gTB ∧ Jvm.Cond.selects RX0 yX0_isRest yX0_isRest ∈ gTB := ⟨gIn (i := 1158) (by decide +kernel) (by decide +kernel), gIn (i := 134) (by decide +kernel) (by decide +kernel), gIn (i := 1157) (by decide +kernel) (by decide +kernel), gIn (i := 42) (by decide +kernel) (by decide +kernel)⟩
theorem wd_X0_isRest : yX0_isRest.cls ≠ "java/lang/invoke/MethodHandle" ∧ yX0_isRest.cls ≠ "java/lang/invoke/VarHandle" ∧ (parseMethodDescriptor yX0_isRest.desc).map (fun d => d.parameters.length) = some 1 := by decide +kernel
theorem C_X0_findRests (hE : k_Eok (gE g tys B0 GI)) (hT : k_tys (gE g tys B0 GI)) : k_Met l (gE g tys B0 GI) τ gTB yX0_findRests cX0_findRests 5 0 K_X0_findRests ⟨20, 0, 0, 693⟩ :=
  k_met (M := M_X0_findRests) (by decide +kernel) (fun X hl hr hF hts hK => ⟨gFLk0 hts, gCIk0 hts, gCJk0 hts, (show ∀ q ∈ ([(17, K_X1_beginNow), (61, K_X1_worthAfter), (158, K_X0_isRest)] : List (Nat × kCtr)), k_call X (gE g tys B0 GI) 5 τ q.2 q.1 from List.forall_mem_cons.mpr ⟨k_callV (cc := cX0_findRests) (C := RX1) hF hK hts gGood (C_X1_beginNow hE hT) wk_X1_beginNow.1 wk_X1_beginNow.2.1 wl_RX0_36 wk_X1_beginNow.2.2.1 wk_X1_beginNow.2.2.2 rfl rfl rfl rfl rfl wd_X1_beginNow ⟨by rw [hr]; decide, by rw [hr]; decide⟩ (dec_X0_findRests (17, .invokevirtual 36, 3) (List.mem_of_getElem? (i := 9) rfl)),
    List.forall_mem_cons.mpr ⟨k_callV (cc := cX0_findRests) (C := RX1) hF hK hts gGood (C_X1_worthAfter hE hT) wk_X1_worthAfter.1 wk_X1_worthAfter.2.1 wl_RX0_83 wk_X1_worthAfter.2.2.1 wk_X1_worthAfter.2.2.2 rfl rfl rfl rfl rfl wd_X1_worthAfter ⟨by rw [hr]; decide, by rw [hr]; decide⟩ (dec_X0_findRests (61, .invokevirtual 83, 3) (List.mem_of_getElem? (i := 35) rfl)),
    List.forall_mem_cons.mpr ⟨k_callV (cc := cX0_findRests) (C := RX0) hF hK hts gGood (C_X0_isRest hE hT) wk_X0_isRest.1 wk_X0_isRest.2.1 wl_RX0_109 wk_X0_isRest.2.2.1 wk_X0_isRest.2.2.2 rfl rfl rfl rfl rfl wd_X0_isRest ⟨by rw [hr]; decide, by rw [hr]; decide⟩ (dec_X0_findRests (158, .invokevirtual 109, 3) (List.mem_of_getElem? (i := 91) rfl)),
    List.forall_mem_nil _⟩⟩⟩), hE, hT⟩) dec_X0_findRests chk_X0_findRests
theorem C_X0_findFirst (hE : k_Eok (gE g tys B0 GI)) (hT : k_tys (gE g tys B0 GI)) : k_Met l (gE g tys B0 GI) τ gTB yX0_findFirst cX0_findFirst 3 0 K_X0_findFirst ⟨19, 0, 0, 671⟩ :=
  k_met (M := M_X0_findFirst) (by decide +kernel) (fun X hl hr hF hts hK => ⟨gFLk0 hts, gCIk0 hts, gCJk0 hts, (show ∀ q ∈ ([(20, K_X1_beginNow), (46, K_X1_goOneHour)] : List (Nat × kCtr)), k_call X (gE g tys B0 GI) 3 τ q.2 q.1 from List.forall_mem_cons.mpr ⟨k_callV (cc := cX0_findFirst) (C := RX1) hF hK hts gGood (C_X1_beginNow hE hT) wk_X1_beginNow.1 wk_X1_beginNow.2.1 wl_RX0_36 wk_X1_beginNow.2.2.1 wk_X1_beginNow.2.2.2 rfl rfl rfl rfl rfl wd_X1_beginNow ⟨by rw [hr]; decide, by rw [hr]; decide⟩ (dec_X0_findFirst (20, .invokevirtual 36, 3) (List.mem_of_getElem? (i := 12) rfl)),
    List.forall_mem_cons.mpr ⟨k_callV (cc := cX0_findFirst) (C := RX1) hF hK hts gGood (C_X1_goOneHour hE hT) wk_X1_goOneHour.1 wk_X1_goOneHour.2.1 wl_RX0_55 wk_X1_goOneHour.2.2.1 wk_X1_goOneHour.2.2.2 rfl rfl rfl rfl rfl wd_X1_goOneHour ⟨by rw [hr]; decide, by rw [hr]; decide⟩ (dec_X0_findFirst (46, .invokevirtual 55, 3) (List.mem_of_getElem? (i := 25) rfl)),
    List.forall_mem_nil _⟩⟩), hE, hT⟩) dec_X0_findFirst chk_X0_findFirst
theorem C_X0_drawAfter (hE : k_Eok (gE g tys B0 GI)) (hT : k_tys (gE g tys B0 GI)) : k_Met l (gE g tys B0 GI) τ gTB yX0_drawAfter cX0_drawAfter 1 1 K_X0_drawAfter ⟨0, 0, 0, 0⟩ :=
  k_met (M := M_X0_drawAfter) (by decide +kernel) (fun X hl hr hF hts hK => ⟨gFLk0 hts, gCIk0 hts, gCJk0 hts, (show ∀ q ∈ ([] : List (Nat × kCtr)), k_call X (gE g tys B0 GI) 1 τ q.2 q.1 from List.forall_mem_nil _), hE, hT⟩) dec_X0_drawAfter chk_X0_drawAfter
theorem wl_RX0_132 : Jvm.Cond.methodLink RX0 132 yX6_canCatch ∈ gTB := gIn (i := 1229) (by decide +kernel) (by decide +kernel)
theorem wk_X6_canCatch : Jvm.Cond.code yX6_canCatch cX6_canCatch 2 (k_rty 2) ∈ gTB ∧ Jvm.Cond.initialized yX6_canCatch.cls ∈ gTB ∧ Jvm.Cond.instanceMethod yX6_canCatch ∈ gTB ∧ Jvm.Cond.selects RX6 yX6_canCatch yX6_canCatch ∈ gTB := ⟨gIn (i := 991) (by decide +kernel) (by decide +kernel), gIn (i := 130) (by decide +kernel) (by decide +kernel), gIn (i := 989) (by decide +kernel) (by decide +kernel), gIn (i := 990) (by decide +kernel) (by decide +kernel)⟩
theorem wd_X6_canCatch : yX6_canCatch.cls ≠ "java/lang/invoke/MethodHandle" ∧ yX6_canCatch.cls ≠ "java/lang/invoke/VarHandle" ∧ (parseMethodDescriptor yX6_canCatch.desc).map (fun d => d.parameters.length) = some 1 := by decide +kernel
theorem C_X0_spark (hE : k_Eok (gE g tys B0 GI)) (hT : k_tys (gE g tys B0 GI)) : k_Met l (gE g tys B0 GI) τ gTB yX0_spark cX0_spark 2 0 K_X0_spark ⟨1, 0, 0, 21⟩ :=
  k_met (M := M_X0_spark) (by decide +kernel) (fun X hl hr hF hts hK => ⟨gFLk0 hts, gCIk0 hts, gCJk0 hts, (show ∀ q ∈ ([(8, K_X6_canCatch)] : List (Nat × kCtr)), k_call X (gE g tys B0 GI) 2 τ q.2 q.1 from List.forall_mem_cons.mpr ⟨k_callV (cc := cX0_spark) (C := RX6) hF hK hts gGood (C_X6_canCatch hE hT) wk_X6_canCatch.1 wk_X6_canCatch.2.1 wl_RX0_132 wk_X6_canCatch.2.2.1 wk_X6_canCatch.2.2.2 rfl rfl rfl rfl rfl wd_X6_canCatch ⟨by rw [hr]; decide, by rw [hr]; decide⟩ (dec_X0_spark (8, .invokevirtual 132, 3) (List.mem_of_getElem? (i := 4) rfl)),
    List.forall_mem_nil _⟩), hE, hT⟩) dec_X0_spark chk_X0_spark
theorem wl_RX0_115 : Jvm.Cond.methodLink RX0 115 yX0_drawAfter ∈ gTB := gIn (i := 1218) (by decide +kernel) (by decide +kernel)
theorem wk_X0_drawAfter : Jvm.Cond.code yX0_drawAfter cX0_drawAfter 1 (k_rty 1) ∈ gTB ∧ Jvm.Cond.initialized yX0_drawAfter.cls ∈ gTB ∧ Jvm.Cond.static yX0_drawAfter ∈ gTB := ⟨gIn (i := 1220) (by decide +kernel) (by decide +kernel), gIn (i := 134) (by decide +kernel) (by decide +kernel), gIn (i := 1219) (by decide +kernel) (by decide +kernel)⟩
theorem wd_X0_drawAfter : yX0_drawAfter.cls ≠ "java/lang/invoke/MethodHandle" ∧ yX0_drawAfter.cls ≠ "java/lang/invoke/VarHandle" ∧ (parseMethodDescriptor yX0_drawAfter.desc).map (fun d => d.parameters.length) = some 1 := by decide +kernel
theorem wl_RX0_119 : Jvm.Cond.methodLink RX0 119 yX0_spark ∈ gTB := gIn (i := 1225) (by decide +kernel) (by decide +kernel)
theorem wk_X0_spark : Jvm.Cond.code yX0_spark cX0_spark 2 (k_rty 0) ∈ gTB ∧ Jvm.Cond.initialized yX0_spark.cls ∈ gTB ∧ Jvm.Cond.instanceMethod yX0_spark ∈ gTB ∧ Jvm.Cond.selects RX0 yX0_spark yX0_spark ∈ gTB := ⟨gIn (i := 1228) (by decide +kernel) (by decide +kernel), gIn (i := 134) (by decide +kernel) (by decide +kernel), gIn (i := 1227) (by decide +kernel) (by decide +kernel), gIn (i := 46) (by decide +kernel) (by decide +kernel)⟩
theorem wd_X0_spark : yX0_spark.cls ≠ "java/lang/invoke/MethodHandle" ∧ yX0_spark.cls ≠ "java/lang/invoke/VarHandle" ∧ (parseMethodDescriptor yX0_spark.desc).map (fun d => d.parameters.length) = some 1 := by decide +kernel
theorem wl_RX0_123 : Jvm.Cond.methodLink RX0 123 yX6_allWorth ∈ gTB := gIn (i := 1230) (by decide +kernel) (by decide +kernel)
theorem C_X0_findSparks (hE : k_Eok (gE g tys B0 GI)) (hT : k_tys (gE g tys B0 GI)) : k_Met l (gE g tys B0 GI) τ gTB yX0_findSparks cX0_findSparks 7 0 K_X0_findSparks ⟨19, 0, 0, 671⟩ :=
  k_met (M := M_X0_findSparks) (by decide +kernel) (fun X hl hr hF hts hK => ⟨gFLk0 hts, gCIk0 hts, gCJk0 hts, (show ∀ q ∈ ([(36, K_X1_beginNow), (50, K_X0_drawAfter), (79, K_X0_drawAfter), (98, K_X0_spark), (105, K_X1_goOneHour), (129, K_X6_allWorth), (148, K_X6_fires), (151, K_J6_bitCount_0f7a4)] : List (Nat × kCtr)), k_call X (gE g tys B0 GI) 7 τ q.2 q.1 from List.forall_mem_cons.mpr ⟨k_callV (cc := cX0_findSparks) (C := RX1) hF hK hts gGood (C_X1_beginNow hE hT) wk_X1_beginNow.1 wk_X1_beginNow.2.1 wl_RX0_36 wk_X1_beginNow.2.2.1 wk_X1_beginNow.2.2.2 rfl rfl rfl rfl rfl wd_X1_beginNow ⟨by rw [hr]; decide, by rw [hr]; decide⟩ (dec_X0_findSparks (36, .invokevirtual 36, 3) (List.mem_of_getElem? (i := 21) rfl)),
    List.forall_mem_cons.mpr ⟨k_callS (cc := cX0_findSparks) hF hK hts gGood (C_X0_drawAfter hE hT) wk_X0_drawAfter.1 wk_X0_drawAfter.2.1 wl_RX0_115 wk_X0_drawAfter.2.2 rfl rfl wd_X0_drawAfter ⟨by rw [hr]; decide, by rw [hr]; decide⟩ (dec_X0_findSparks (50, .invokestatic 115, 3) (List.mem_of_getElem? (i := 28) rfl)),
    List.forall_mem_cons.mpr ⟨k_callS (cc := cX0_findSparks) hF hK hts gGood (C_X0_drawAfter hE hT) wk_X0_drawAfter.1 wk_X0_drawAfter.2.1 wl_RX0_115 wk_X0_drawAfter.2.2 rfl rfl wd_X0_drawAfter ⟨by rw [hr]; decide, by rw [hr]; decide⟩ (dec_X0_findSparks (79, .invokestatic 115, 3) (List.mem_of_getElem? (i := 42) rfl)),
    List.forall_mem_cons.mpr ⟨k_callV (cc := cX0_findSparks) (C := RX0) hF hK hts gGood (C_X0_spark hE hT) wk_X0_spark.1 wk_X0_spark.2.1 wl_RX0_119 wk_X0_spark.2.2.1 wk_X0_spark.2.2.2 rfl rfl rfl rfl rfl wd_X0_spark ⟨by rw [hr]; decide, by rw [hr]; decide⟩ (dec_X0_findSparks (98, .invokevirtual 119, 3) (List.mem_of_getElem? (i := 52) rfl)),
    List.forall_mem_cons.mpr ⟨k_callV (cc := cX0_findSparks) (C := RX1) hF hK hts gGood (C_X1_goOneHour hE hT) wk_X1_goOneHour.1 wk_X1_goOneHour.2.1 wl_RX0_55 wk_X1_goOneHour.2.2.1 wk_X1_goOneHour.2.2.2 rfl rfl rfl rfl rfl wd_X1_goOneHour ⟨by rw [hr]; decide, by rw [hr]; decide⟩ (dec_X0_findSparks (105, .invokevirtual 55, 3) (List.mem_of_getElem? (i := 55) rfl)),
    List.forall_mem_cons.mpr ⟨k_callV (cc := cX0_findSparks) (C := RX6) hF hK hts gGood (C_X6_allWorth hE hT) wk_X6_allWorth.1 wk_X6_allWorth.2.1 wl_RX0_123 wk_X6_allWorth.2.2.1 wk_X6_allWorth.2.2.2 rfl rfl rfl rfl rfl wd_X6_allWorth ⟨by rw [hr]; decide, by rw [hr]; decide⟩ (dec_X0_findSparks (129, .invokevirtual 123, 3) (List.mem_of_getElem? (i := 67) rfl)),
    List.forall_mem_cons.mpr ⟨k_callV (cc := cX0_findSparks) (C := RX6) hF hK hts gGood (C_X6_fires hE hT) wk_X6_fires.1 wk_X6_fires.2.1 wl_RX0_45 wk_X6_fires.2.2.1 wk_X6_fires.2.2.2 rfl rfl rfl rfl rfl wd_X6_fires ⟨by rw [hr]; decide, by rw [hr]; decide⟩ (dec_X0_findSparks (148, .invokevirtual 45, 3) (List.mem_of_getElem? (i := 78) rfl)),
    List.forall_mem_cons.mpr ⟨k_callS (cc := cX0_findSparks) hF hK hts gGood (C_J6_bitCount_0f7a4 hE hT) wk_J6_bitCount_0f7a4.1 wk_J6_bitCount_0f7a4.2.1 wl_RX0_97 wk_J6_bitCount_0f7a4.2.2 rfl rfl wd_J6_bitCount_0f7a4 ⟨by rw [hr]; decide, by rw [hr]; decide⟩ (dec_X0_findSparks (151, .invokestatic 97, 3) (List.mem_of_getElem? (i := 79) rfl)),
    List.forall_mem_nil _⟩⟩⟩⟩⟩⟩⟩⟩), hE, hT⟩) dec_X0_findSparks chk_X0_findSparks
theorem wl_RX2_47 : Jvm.Cond.methodLink RX2 47 yX1_beginAsTold ∈ gTB := gIn (i := 1183) (by decide +kernel) (by decide +kernel)
theorem wk_X1_beginAsTold : Jvm.Cond.code yX1_beginAsTold cX1_beginAsTold 2 (k_rty 0) ∈ gTB ∧ Jvm.Cond.initialized yX1_beginAsTold.cls ∈ gTB ∧ Jvm.Cond.instanceMethod yX1_beginAsTold ∈ gTB ∧ Jvm.Cond.selects RX1 yX1_beginAsTold yX1_beginAsTold ∈ gTB := ⟨gIn (i := 1186) (by decide +kernel) (by decide +kernel), gIn (i := 133) (by decide +kernel) (by decide +kernel), gIn (i := 1184) (by decide +kernel) (by decide +kernel), gIn (i := 1185) (by decide +kernel) (by decide +kernel)⟩
theorem wd_X1_beginAsTold : yX1_beginAsTold.cls ≠ "java/lang/invoke/MethodHandle" ∧ yX1_beginAsTold.cls ≠ "java/lang/invoke/VarHandle" ∧ (parseMethodDescriptor yX1_beginAsTold.desc).map (fun d => d.parameters.length) = some 1 := by decide +kernel
theorem wl_RX2_61 : Jvm.Cond.methodLink RX2 61 yX1_goOneHour ∈ gTB := gIn (i := 1188) (by decide +kernel) (by decide +kernel)
theorem C_X2_trace (hE : k_Eok (gE g tys B0 GI)) (hT : k_tys (gE g tys B0 GI)) : k_Met l (gE g tys B0 GI) τ gTB yX2_trace cX2_trace 3 0 K_X2_trace ⟨19, 0, 0, 671⟩ :=
  k_met (M := M_X2_trace) (by decide +kernel) (fun X hl hr hF hts hK => ⟨gFLk2 hts, gCIk2 hts, gCJk2 hts, (show ∀ q ∈ ([(7, K_X1_beginAsTold), (43, K_X1_goOneHour)] : List (Nat × kCtr)), k_call X (gE g tys B0 GI) 3 τ q.2 q.1 from List.forall_mem_cons.mpr ⟨k_callV (cc := cX2_trace) (C := RX1) hF hK hts gGood (C_X1_beginAsTold hE hT) wk_X1_beginAsTold.1 wk_X1_beginAsTold.2.1 wl_RX2_47 wk_X1_beginAsTold.2.2.1 wk_X1_beginAsTold.2.2.2 rfl rfl rfl rfl rfl wd_X1_beginAsTold ⟨by rw [hr]; decide, by rw [hr]; decide⟩ (dec_X2_trace (7, .invokevirtual 47, 3) (List.mem_of_getElem? (i := 5) rfl)),
    List.forall_mem_cons.mpr ⟨k_callV (cc := cX2_trace) (C := RX1) hF hK hts gGood (C_X1_goOneHour hE hT) wk_X1_goOneHour.1 wk_X1_goOneHour.2.1 wl_RX2_61 wk_X1_goOneHour.2.2.1 wk_X1_goOneHour.2.2.2 rfl rfl rfl rfl rfl wd_X1_goOneHour ⟨by rw [hr]; decide, by rw [hr]; decide⟩ (dec_X2_trace (43, .invokevirtual 61, 3) (List.mem_of_getElem? (i := 25) rfl)),
    List.forall_mem_nil _⟩⟩), hE, hT⟩) dec_X2_trace chk_X2_trace
theorem C_X2_agrees (hE : k_Eok (gE g tys B0 GI)) (hT : k_tys (gE g tys B0 GI)) : k_Met l (gE g tys B0 GI) τ gTB yX2_agrees cX2_agrees 3 2 K_X2_agrees ⟨0, 0, 0, 0⟩ :=
  k_met (M := M_X2_agrees) (by decide +kernel) (fun X hl hr hF hts hK => ⟨gFLk2 hts, gCIk2 hts, gCJk2 hts, (show ∀ q ∈ ([] : List (Nat × kCtr)), k_call X (gE g tys B0 GI) 3 τ q.2 q.1 from List.forall_mem_nil _), hE, hT⟩) dec_X2_agrees chk_X2_agrees
theorem wl_RX2_86 : Jvm.Cond.methodLink RX2 86 Lib.Math.max.name ∈ gTB := gIn (i := 1205) (by decide +kernel) (by decide +kernel)
theorem C_X2_mostAlike (hE : k_Eok (gE g tys B0 GI)) (hT : k_tys (gE g tys B0 GI)) : k_Met l (gE g tys B0 GI) τ gTB yX2_mostAlike cX2_mostAlike 5 1 K_X2_mostAlike ⟨1, 0, 0, 21⟩ :=
  k_met (M := M_X2_mostAlike) (by decide +kernel) (fun X hl hr hF hts hK => ⟨gFLk2 hts, gCIk2 hts, gCJk2 hts, (show ∀ q ∈ ([(76, K_J9_max_7cf53)] : List (Nat × kCtr)), k_call X (gE g tys B0 GI) 5 τ q.2 q.1 from List.forall_mem_cons.mpr ⟨k_mmax (cc := cX2_mostAlike) hF (hts _ wl_RX2_86) (hts _ wm_max.1) (hts _ wm_max.2.1) (hts _ wm_max.2.2) (by rw [hr]; decide) (by rw [hr]; decide) (dec_X2_mostAlike (76, .invokestatic 86, 3) (List.mem_of_getElem? (i := 49) rfl)),
    List.forall_mem_nil _⟩), hE, hT⟩) dec_X2_mostAlike chk_X2_mostAlike
theorem wl_RX2_82 : Jvm.Cond.methodLink RX2 82 yX2_mostAlike ∈ gTB := gIn (i := 1201) (by decide +kernel) (by decide +kernel)
theorem wk_X2_mostAlike : Jvm.Cond.code yX2_mostAlike cX2_mostAlike 5 (k_rty 1) ∈ gTB ∧ Jvm.Cond.initialized yX2_mostAlike.cls ∈ gTB ∧ Jvm.Cond.instanceMethod yX2_mostAlike ∈ gTB ∧ Jvm.Cond.selects RX2 yX2_mostAlike yX2_mostAlike ∈ gTB := ⟨gIn (i := 1204) (by decide +kernel) (by decide +kernel), gIn (i := 136) (by decide +kernel) (by decide +kernel), gIn (i := 1203) (by decide +kernel) (by decide +kernel), gIn (i := 45) (by decide +kernel) (by decide +kernel)⟩
theorem wd_X2_mostAlike : yX2_mostAlike.cls ≠ "java/lang/invoke/MethodHandle" ∧ yX2_mostAlike.cls ≠ "java/lang/invoke/VarHandle" ∧ (parseMethodDescriptor yX2_mostAlike.desc).map (fun d => d.parameters.length) = some 1 := by decide +kernel
theorem C_X2_findParting (hE : k_Eok (gE g tys B0 GI)) (hT : k_tys (gE g tys B0 GI)) : k_Met l (gE g tys B0 GI) τ gTB yX2_findParting cX2_findParting 3 0 K_X2_findParting ⟨2, 0, 0, 45⟩ :=
  k_met (M := M_X2_findParting) (by decide +kernel) (fun X hl hr hF hts hK => ⟨gFLk2 hts, gCIk2 hts, gCJk2 hts, (show ∀ q ∈ ([(21, K_X2_mostAlike)] : List (Nat × kCtr)), k_call X (gE g tys B0 GI) 3 τ q.2 q.1 from List.forall_mem_cons.mpr ⟨k_callV (cc := cX2_findParting) (C := RX2) hF hK hts gGood (C_X2_mostAlike hE hT) wk_X2_mostAlike.1 wk_X2_mostAlike.2.1 wl_RX2_82 wk_X2_mostAlike.2.2.1 wk_X2_mostAlike.2.2.2 rfl rfl rfl rfl rfl wd_X2_mostAlike ⟨by rw [hr]; decide, by rw [hr]; decide⟩ (dec_X2_findParting (21, .invokevirtual 82, 3) (List.mem_of_getElem? (i := 13) rfl)),
    List.forall_mem_nil _⟩), hE, hT⟩) dec_X2_findParting chk_X2_findParting
theorem wl_RX2_39 : Jvm.Cond.methodLink RX2 39 yX2_trace ∈ gTB := gIn (i := 1179) (by decide +kernel) (by decide +kernel)
theorem wk_X2_trace : Jvm.Cond.code yX2_trace cX2_trace 3 (k_rty 0) ∈ gTB ∧ Jvm.Cond.initialized yX2_trace.cls ∈ gTB ∧ Jvm.Cond.instanceMethod yX2_trace ∈ gTB ∧ Jvm.Cond.selects RX2 yX2_trace yX2_trace ∈ gTB := ⟨gIn (i := 1182) (by decide +kernel) (by decide +kernel), gIn (i := 136) (by decide +kernel) (by decide +kernel), gIn (i := 1181) (by decide +kernel) (by decide +kernel), gIn (i := 43) (by decide +kernel) (by decide +kernel)⟩
theorem wd_X2_trace : yX2_trace.cls ≠ "java/lang/invoke/MethodHandle" ∧ yX2_trace.cls ≠ "java/lang/invoke/VarHandle" ∧ (parseMethodDescriptor yX2_trace.desc).map (fun d => d.parameters.length) = some 1 := by decide +kernel
theorem wl_RX2_43 : Jvm.Cond.methodLink RX2 43 yX2_agrees ∈ gTB := gIn (i := 1189) (by decide +kernel) (by decide +kernel)
theorem wk_X2_agrees : Jvm.Cond.code yX2_agrees cX2_agrees 3 (k_rty 2) ∈ gTB ∧ Jvm.Cond.initialized yX2_agrees.cls ∈ gTB ∧ Jvm.Cond.instanceMethod yX2_agrees ∈ gTB ∧ Jvm.Cond.selects RX2 yX2_agrees yX2_agrees ∈ gTB := ⟨gIn (i := 1192) (by decide +kernel) (by decide +kernel), gIn (i := 136) (by decide +kernel) (by decide +kernel), gIn (i := 1191) (by decide +kernel) (by decide +kernel), gIn (i := 44) (by decide +kernel) (by decide +kernel)⟩
theorem wd_X2_agrees : yX2_agrees.cls ≠ "java/lang/invoke/MethodHandle" ∧ yX2_agrees.cls ≠ "java/lang/invoke/VarHandle" ∧ (parseMethodDescriptor yX2_agrees.desc).map (fun d => d.parameters.length) = some 1 := by decide +kernel
theorem C_X2_findRuled (hE : k_Eok (gE g tys B0 GI)) (hT : k_tys (gE g tys B0 GI)) : k_Met l (gE g tys B0 GI) τ gTB yX2_findRuled cX2_findRuled 3 0 K_X2_findRuled ⟨20, 0, 0, 693⟩ :=
  k_met (M := M_X2_findRuled) (by decide +kernel) (fun X hl hr hF hts hK => ⟨gFLk2 hts, gCIk2 hts, gCJk2 hts, (show ∀ q ∈ ([(35, K_X2_trace), (40, K_X2_agrees)] : List (Nat × kCtr)), k_call X (gE g tys B0 GI) 3 τ q.2 q.1 from List.forall_mem_cons.mpr ⟨k_callV (cc := cX2_findRuled) (C := RX2) hF hK hts gGood (C_X2_trace hE hT) wk_X2_trace.1 wk_X2_trace.2.1 wl_RX2_39 wk_X2_trace.2.2.1 wk_X2_trace.2.2.2 rfl rfl rfl rfl rfl wd_X2_trace ⟨by rw [hr]; decide, by rw [hr]; decide⟩ (dec_X2_findRuled (35, .invokevirtual 39, 3) (List.mem_of_getElem? (i := 22) rfl)),
    List.forall_mem_cons.mpr ⟨k_callV (cc := cX2_findRuled) (C := RX2) hF hK hts gGood (C_X2_agrees hE hT) wk_X2_agrees.1 wk_X2_agrees.2.1 wl_RX2_43 wk_X2_agrees.2.2.1 wk_X2_agrees.2.2.2 rfl rfl rfl rfl rfl wd_X2_agrees ⟨by rw [hr]; decide, by rw [hr]; decide⟩ (dec_X2_findRuled (40, .invokevirtual 43, 3) (List.mem_of_getElem? (i := 25) rfl)),
    List.forall_mem_nil _⟩⟩), hE, hT⟩) dec_X2_findRuled chk_X2_findRuled
end
end
section
/-! ===== contracts ===== -/
section
variable {l : Launch} {g : va_G} {tys : List (ClassId × FieldType)} {B0 : Nat} {GI : Nat → kTau → Heap → Prop} {τ : kTau}
theorem wl_RX9_68 : Jvm.Cond.methodLink RX9 68 yX7_number ∈ gTB := gIn (i := 733) (by decide +kernel) (by decide +kernel)
theorem wk_X7_number : Jvm.Cond.code yX7_number cX7_number 5 (k_rty 1) ∈ gTB ∧ Jvm.Cond.initialized yX7_number.cls ∈ gTB ∧ Jvm.Cond.instanceMethod yX7_number ∈ gTB ∧ Jvm.Cond.selects RX7 yX7_number yX7_number ∈ gTB := ⟨gIn (i := 736) (by decide +kernel) (by decide +kernel), gIn (i := 127) (by decide +kernel) (by decide +kernel), gIn (i := 734) (by decide +kernel) (by decide +kernel), gIn (i := 735) (by decide +kernel) (by decide +kernel)⟩
theorem wd_X7_number : yX7_number.cls ≠ "java/lang/invoke/MethodHandle" ∧ yX7_number.cls ≠ "java/lang/invoke/VarHandle" ∧ (parseMethodDescriptor yX7_number.desc).map (fun d => d.parameters.length) = some 3 := by decide +kernel
theorem C_X9_readHead (hE : k_Eok (gE g tys B0 GI)) (hT : k_tys (gE g tys B0 GI)) : k_Met l (gE g tys B0 GI) τ gTB yX9_readHead cX9_readHead 1 2 K_X9_readHead ⟨17, 0, 0, 624⟩ :=
  k_met (M := M_X9_readHead) (by decide +kernel) (fun X hl hr hF hts hK => ⟨gFLk9 hts, gCIk9 hts, gCJk9 hts, (show ∀ q ∈ ([(12, K_X7_number_0_9), (43, K_X7_number_0_9)] : List (Nat × kCtr)), k_call X (gE g tys B0 GI) 1 τ q.2 q.1 from List.forall_mem_cons.mpr ⟨k_callV (cc := cX9_readHead) (C := RX7) hF hK hts gGood (C_X7_number_0_9 hE hT) wk_X7_number.1 wk_X7_number.2.1 wl_RX9_68 wk_X7_number.2.2.1 wk_X7_number.2.2.2 rfl rfl rfl rfl rfl wd_X7_number ⟨by rw [hr]; decide, by rw [hr]; decide⟩ (dec_X9_readHead (12, .invokevirtual 68, 3) (List.mem_of_getElem? (i := 7) rfl)),
    List.forall_mem_cons.mpr ⟨k_callV (cc := cX9_readHead) (C := RX7) hF hK hts gGood (C_X7_number_0_9 hE hT) wk_X7_number.1 wk_X7_number.2.1 wl_RX9_68 wk_X7_number.2.2.1 wk_X7_number.2.2.2 rfl rfl rfl rfl rfl wd_X7_number ⟨by rw [hr]; decide, by rw [hr]; decide⟩ (dec_X9_readHead (43, .invokevirtual 68, 3) (List.mem_of_getElem? (i := 23) rfl)),
    List.forall_mem_nil _⟩⟩), hE, hT⟩) dec_X9_readHead chk_X9_readHead
theorem C_X9_readHouse (hE : k_Eok (gE g tys B0 GI)) (hT : k_tys (gE g tys B0 GI)) : k_Met l (gE g tys B0 GI) τ gTB yX9_readHouse cX9_readHouse 5 2 K_X9_readHouse ⟨17, 0, 0, 624⟩ :=
  k_met (M := M_X9_readHouse) (by decide +kernel) (fun X hl hr hF hts hK => ⟨gFLk9 hts, gCIk9 hts, gCJk9 hts, (show ∀ q ∈ ([(8, K_X7_number_0_99), (29, K_X7_number_0_9), (50, K_X7_number_0_20)] : List (Nat × kCtr)), k_call X (gE g tys B0 GI) 5 τ q.2 q.1 from List.forall_mem_cons.mpr ⟨k_callV (cc := cX9_readHouse) (C := RX7) hF hK hts gGood (C_X7_number_0_99 hE hT) wk_X7_number.1 wk_X7_number.2.1 wl_RX9_68 wk_X7_number.2.2.1 wk_X7_number.2.2.2 rfl rfl rfl rfl rfl wd_X7_number ⟨by rw [hr]; decide, by rw [hr]; decide⟩ (dec_X9_readHouse (8, .invokevirtual 68, 3) (List.mem_of_getElem? (i := 5) rfl)),
    List.forall_mem_cons.mpr ⟨k_callV (cc := cX9_readHouse) (C := RX7) hF hK hts gGood (C_X7_number_0_9 hE hT) wk_X7_number.1 wk_X7_number.2.1 wl_RX9_68 wk_X7_number.2.2.1 wk_X7_number.2.2.2 rfl rfl rfl rfl rfl wd_X7_number ⟨by rw [hr]; decide, by rw [hr]; decide⟩ (dec_X9_readHouse (29, .invokevirtual 68, 3) (List.mem_of_getElem? (i := 17) rfl)),
    List.forall_mem_cons.mpr ⟨k_callV (cc := cX9_readHouse) (C := RX7) hF hK hts gGood (C_X7_number_0_20 hE hT) wk_X7_number.1 wk_X7_number.2.1 wl_RX9_68 wk_X7_number.2.2.1 wk_X7_number.2.2.2 rfl rfl rfl rfl rfl wd_X7_number ⟨by rw [hr]; decide, by rw [hr]; decide⟩ (dec_X9_readHouse (50, .invokevirtual 68, 3) (List.mem_of_getElem? (i := 29) rfl)),
    List.forall_mem_nil _⟩⟩⟩), hE, hT⟩) dec_X9_readHouse chk_X9_readHouse
theorem wl_RX9_88 : Jvm.Cond.methodLink RX9 88 yX8_addRoad ∈ gTB := gIn (i := 746) (by decide +kernel) (by decide +kernel)
theorem wk_X8_addRoad : Jvm.Cond.code yX8_addRoad cX8_addRoad 4 (k_rty 0) ∈ gTB ∧ Jvm.Cond.initialized yX8_addRoad.cls ∈ gTB ∧ Jvm.Cond.instanceMethod yX8_addRoad ∈ gTB ∧ Jvm.Cond.selects RX8 yX8_addRoad yX8_addRoad ∈ gTB := ⟨gIn (i := 749) (by decide +kernel) (by decide +kernel), gIn (i := 129) (by decide +kernel) (by decide +kernel), gIn (i := 747) (by decide +kernel) (by decide +kernel), gIn (i := 748) (by decide +kernel) (by decide +kernel)⟩
theorem wd_X8_addRoad : yX8_addRoad.cls ≠ "java/lang/invoke/MethodHandle" ∧ yX8_addRoad.cls ≠ "java/lang/invoke/VarHandle" ∧ (parseMethodDescriptor yX8_addRoad.desc).map (fun d => d.parameters.length) = some 3 := by decide +kernel
theorem C_X9_readRoad (hE : k_Eok (gE g tys B0 GI)) (hT : k_tys (gE g tys B0 GI)) : k_Met l (gE g tys B0 GI) τ gTB yX9_readRoad cX9_readRoad 4 2 K_X9_readRoad ⟨17, 0, 0, 624⟩ :=
  k_met (M := M_X9_readRoad) (by decide +kernel) (fun X hl hr hF hts hK => ⟨gFLk9 hts, gCIk9 hts, gCJk9 hts, (show ∀ q ∈ ([(13, K_X7_number_0_6), (39, K_X7_number_0_6), (60, K_X7_number_0_9), (78, K_X8_addRoad)] : List (Nat × kCtr)), k_call X (gE g tys B0 GI) 4 τ q.2 q.1 from List.forall_mem_cons.mpr ⟨k_callV (cc := cX9_readRoad) (C := RX7) hF hK hts gGood (C_X7_number_0_6 hE hT) wk_X7_number.1 wk_X7_number.2.1 wl_RX9_68 wk_X7_number.2.2.1 wk_X7_number.2.2.2 rfl rfl rfl rfl rfl wd_X7_number ⟨by rw [hr]; decide, by rw [hr]; decide⟩ (dec_X9_readRoad (13, .invokevirtual 68, 3) (List.mem_of_getElem? (i := 7) rfl)),
    List.forall_mem_cons.mpr ⟨k_callV (cc := cX9_readRoad) (C := RX7) hF hK hts gGood (C_X7_number_0_6 hE hT) wk_X7_number.1 wk_X7_number.2.1 wl_RX9_68 wk_X7_number.2.2.1 wk_X7_number.2.2.2 rfl rfl rfl rfl rfl wd_X7_number ⟨by rw [hr]; decide, by rw [hr]; decide⟩ (dec_X9_readRoad (39, .invokevirtual 68, 3) (List.mem_of_getElem? (i := 21) rfl)),
    List.forall_mem_cons.mpr ⟨k_callV (cc := cX9_readRoad) (C := RX7) hF hK hts gGood (C_X7_number_0_9 hE hT) wk_X7_number.1 wk_X7_number.2.1 wl_RX9_68 wk_X7_number.2.2.1 wk_X7_number.2.2.2 rfl rfl rfl rfl rfl wd_X7_number ⟨by rw [hr]; decide, by rw [hr]; decide⟩ (dec_X9_readRoad (60, .invokevirtual 68, 3) (List.mem_of_getElem? (i := 33) rfl)),
    List.forall_mem_cons.mpr ⟨k_callV (cc := cX9_readRoad) (C := RX8) hF hK hts gGood (C_X8_addRoad hE hT) wk_X8_addRoad.1 wk_X8_addRoad.2.1 wl_RX9_88 wk_X8_addRoad.2.2.1 wk_X8_addRoad.2.2.2 rfl rfl rfl rfl rfl wd_X8_addRoad ⟨by rw [hr]; decide, by rw [hr]; decide⟩ (dec_X9_readRoad (78, .invokevirtual 88, 3) (List.mem_of_getElem? (i := 45) rfl)),
    List.forall_mem_nil _⟩⟩⟩⟩), hE, hT⟩) dec_X9_readRoad chk_X9_readRoad
theorem wl_RX9_92 : Jvm.Cond.methodLink RX9 92 yX8_addBeside ∈ gTB := gIn (i := 754) (by decide +kernel) (by decide +kernel)
theorem wk_X8_addBeside : Jvm.Cond.code yX8_addBeside cX8_addBeside 3 (k_rty 0) ∈ gTB ∧ Jvm.Cond.initialized yX8_addBeside.cls ∈ gTB ∧ Jvm.Cond.instanceMethod yX8_addBeside ∈ gTB ∧ Jvm.Cond.selects RX8 yX8_addBeside yX8_addBeside ∈ gTB := ⟨gIn (i := 757) (by decide +kernel) (by decide +kernel), gIn (i := 129) (by decide +kernel) (by decide +kernel), gIn (i := 755) (by decide +kernel) (by decide +kernel), gIn (i := 756) (by decide +kernel) (by decide +kernel)⟩
theorem wd_X8_addBeside : yX8_addBeside.cls ≠ "java/lang/invoke/MethodHandle" ∧ yX8_addBeside.cls ≠ "java/lang/invoke/VarHandle" ∧ (parseMethodDescriptor yX8_addBeside.desc).map (fun d => d.parameters.length) = some 2 := by decide +kernel
theorem C_X9_readBeside (hE : k_Eok (gE g tys B0 GI)) (hT : k_tys (gE g tys B0 GI)) : k_Met l (gE g tys B0 GI) τ gTB yX9_readBeside cX9_readBeside 3 2 K_X9_readBeside ⟨17, 0, 0, 624⟩ :=
  k_met (M := M_X9_readBeside) (by decide +kernel) (fun X hl hr hF hts hK => ⟨gFLk9 hts, gCIk9 hts, gCJk9 hts, (show ∀ q ∈ ([(15, K_X7_number_0_5), (43, K_X7_number_0_5), (60, K_X8_addBeside)] : List (Nat × kCtr)), k_call X (gE g tys B0 GI) 3 τ q.2 q.1 from List.forall_mem_cons.mpr ⟨k_callV (cc := cX9_readBeside) (C := RX7) hF hK hts gGood (C_X7_number_0_5 hE hT) wk_X7_number.1 wk_X7_number.2.1 wl_RX9_68 wk_X7_number.2.2.1 wk_X7_number.2.2.2 rfl rfl rfl rfl rfl wd_X7_number ⟨by rw [hr]; decide, by rw [hr]; decide⟩ (dec_X9_readBeside (15, .invokevirtual 68, 3) (List.mem_of_getElem? (i := 9) rfl)),
    List.forall_mem_cons.mpr ⟨k_callV (cc := cX9_readBeside) (C := RX7) hF hK hts gGood (C_X7_number_0_5 hE hT) wk_X7_number.1 wk_X7_number.2.1 wl_RX9_68 wk_X7_number.2.2.1 wk_X7_number.2.2.2 rfl rfl rfl rfl rfl wd_X7_number ⟨by rw [hr]; decide, by rw [hr]; decide⟩ (dec_X9_readBeside (43, .invokevirtual 68, 3) (List.mem_of_getElem? (i := 25) rfl)),
    List.forall_mem_cons.mpr ⟨k_callV (cc := cX9_readBeside) (C := RX8) hF hK hts gGood (C_X8_addBeside hE hT) wk_X8_addBeside.1 wk_X8_addBeside.2.1 wl_RX9_92 wk_X8_addBeside.2.2.1 wk_X8_addBeside.2.2.2 rfl rfl rfl rfl rfl wd_X8_addBeside ⟨by rw [hr]; decide, by rw [hr]; decide⟩ (dec_X9_readBeside (60, .invokevirtual 92, 3) (List.mem_of_getElem? (i := 36) rfl)),
    List.forall_mem_nil _⟩⟩⟩), hE, hT⟩) dec_X9_readBeside chk_X9_readBeside
theorem wl_RX9_34 : Jvm.Cond.methodLink RX9 34 yX7_kind ∈ gTB := gIn (i := 717) (by decide +kernel) (by decide +kernel)
theorem wk_X7_kind : Jvm.Cond.code yX7_kind cX7_kind 1 (k_rty 1) ∈ gTB ∧ Jvm.Cond.initialized yX7_kind.cls ∈ gTB ∧ Jvm.Cond.instanceMethod yX7_kind ∈ gTB ∧ Jvm.Cond.selects RX7 yX7_kind yX7_kind ∈ gTB := ⟨gIn (i := 720) (by decide +kernel) (by decide +kernel), gIn (i := 127) (by decide +kernel) (by decide +kernel), gIn (i := 718) (by decide +kernel) (by decide +kernel), gIn (i := 719) (by decide +kernel) (by decide +kernel)⟩
theorem wd_X7_kind : yX7_kind.cls ≠ "java/lang/invoke/MethodHandle" ∧ yX7_kind.cls ≠ "java/lang/invoke/VarHandle" ∧ (parseMethodDescriptor yX7_kind.desc).map (fun d => d.parameters.length) = some 0 := by decide +kernel
theorem wl_RX9_45 : Jvm.Cond.methodLink RX9 45 yX7_refuse ∈ gTB := gIn (i := 721) (by decide +kernel) (by decide +kernel)
theorem wk_X7_refuse : Jvm.Cond.code yX7_refuse cX7_refuse 2 (k_rty 2) ∈ gTB ∧ Jvm.Cond.initialized yX7_refuse.cls ∈ gTB ∧ Jvm.Cond.instanceMethod yX7_refuse ∈ gTB ∧ Jvm.Cond.selects RX7 yX7_refuse yX7_refuse ∈ gTB := ⟨gIn (i := 724) (by decide +kernel) (by decide +kernel), gIn (i := 127) (by decide +kernel) (by decide +kernel), gIn (i := 722) (by decide +kernel) (by decide +kernel), gIn (i := 723) (by decide +kernel) (by decide +kernel)⟩
theorem wd_X7_refuse : yX7_refuse.cls ≠ "java/lang/invoke/MethodHandle" ∧ yX7_refuse.cls ≠ "java/lang/invoke/VarHandle" ∧ (parseMethodDescriptor yX7_refuse.desc).map (fun d => d.parameters.length) = some 1 := by decide +kernel
theorem wl_RX9_48 : Jvm.Cond.methodLink RX9 48 yX7_pass ∈ gTB := gIn (i := 725) (by decide +kernel) (by decide +kernel)
theorem wk_X7_pass : Jvm.Cond.code yX7_pass cX7_pass 1 (k_rty 0) ∈ gTB ∧ Jvm.Cond.initialized yX7_pass.cls ∈ gTB ∧ Jvm.Cond.instanceMethod yX7_pass ∈ gTB ∧ Jvm.Cond.selects RX7 yX7_pass yX7_pass ∈ gTB := ⟨gIn (i := 728) (by decide +kernel) (by decide +kernel), gIn (i := 127) (by decide +kernel) (by decide +kernel), gIn (i := 726) (by decide +kernel) (by decide +kernel), gIn (i := 727) (by decide +kernel) (by decide +kernel)⟩
theorem wd_X7_pass : yX7_pass.cls ≠ "java/lang/invoke/MethodHandle" ∧ yX7_pass.cls ≠ "java/lang/invoke/VarHandle" ∧ (parseMethodDescriptor yX7_pass.desc).map (fun d => d.parameters.length) = some 0 := by decide +kernel
theorem wl_RX9_55 : Jvm.Cond.methodLink RX9 55 yX9_readHouse ∈ gTB := gIn (i := 729) (by decide +kernel) (by decide +kernel)
theorem wk_X9_readHouse : Jvm.Cond.code yX9_readHouse cX9_readHouse 5 (k_rty 2) ∈ gTB ∧ Jvm.Cond.initialized yX9_readHouse.cls ∈ gTB ∧ Jvm.Cond.instanceMethod yX9_readHouse ∈ gTB ∧ Jvm.Cond.selects RX9 yX9_readHouse yX9_readHouse ∈ gTB := ⟨gIn (i := 732) (by decide +kernel) (by decide +kernel), gIn (i := 131) (by decide +kernel) (by decide +kernel), gIn (i := 731) (by decide +kernel) (by decide +kernel), gIn (i := 7) (by decide +kernel) (by decide +kernel)⟩
theorem wd_X9_readHouse : yX9_readHouse.cls ≠ "java/lang/invoke/MethodHandle" ∧ yX9_readHouse.cls ≠ "java/lang/invoke/VarHandle" ∧ (parseMethodDescriptor yX9_readHouse.desc).map (fun d => d.parameters.length) = some 0 := by decide +kernel
theorem wl_RX9_59 : Jvm.Cond.methodLink RX9 59 yX9_readHead ∈ gTB := gIn (i := 738) (by decide +kernel) (by decide +kernel)
theorem wk_X9_readHead : Jvm.Cond.code yX9_readHead cX9_readHead 1 (k_rty 2) ∈ gTB ∧ Jvm.Cond.initialized yX9_readHead.cls ∈ gTB ∧ Jvm.Cond.instanceMethod yX9_readHead ∈ gTB ∧ Jvm.Cond.selects RX9 yX9_readHead yX9_readHead ∈ gTB := ⟨gIn (i := 741) (by decide +kernel) (by decide +kernel), gIn (i := 131) (by decide +kernel) (by decide +kernel), gIn (i := 740) (by decide +kernel) (by decide +kernel), gIn (i := 8) (by decide +kernel) (by decide +kernel)⟩
theorem wd_X9_readHead : yX9_readHead.cls ≠ "java/lang/invoke/MethodHandle" ∧ yX9_readHead.cls ≠ "java/lang/invoke/VarHandle" ∧ (parseMethodDescriptor yX9_readHead.desc).map (fun d => d.parameters.length) = some 0 := by decide +kernel
theorem wl_RX9_62 : Jvm.Cond.methodLink RX9 62 yX9_readRoad ∈ gTB := gIn (i := 742) (by decide +kernel) (by decide +kernel)
theorem wk_X9_readRoad : Jvm.Cond.code yX9_readRoad cX9_readRoad 4 (k_rty 2) ∈ gTB ∧ Jvm.Cond.initialized yX9_readRoad.cls ∈ gTB ∧ Jvm.Cond.instanceMethod yX9_readRoad ∈ gTB ∧ Jvm.Cond.selects RX9 yX9_readRoad yX9_readRoad ∈ gTB := ⟨gIn (i := 745) (by decide +kernel) (by decide +kernel), gIn (i := 131) (by decide +kernel) (by decide +kernel), gIn (i := 744) (by decide +kernel) (by decide +kernel), gIn (i := 9) (by decide +kernel) (by decide +kernel)⟩
theorem wd_X9_readRoad : yX9_readRoad.cls ≠ "java/lang/invoke/MethodHandle" ∧ yX9_readRoad.cls ≠ "java/lang/invoke/VarHandle" ∧ (parseMethodDescriptor yX9_readRoad.desc).map (fun d => d.parameters.length) = some 0 := by decide +kernel
theorem wl_RX9_65 : Jvm.Cond.methodLink RX9 65 yX9_readBeside ∈ gTB := gIn (i := 750) (by decide +kernel) (by decide +kernel)
theorem wk_X9_readBeside : Jvm.Cond.code yX9_readBeside cX9_readBeside 3 (k_rty 2) ∈ gTB ∧ Jvm.Cond.initialized yX9_readBeside.cls ∈ gTB ∧ Jvm.Cond.instanceMethod yX9_readBeside ∈ gTB ∧ Jvm.Cond.selects RX9 yX9_readBeside yX9_readBeside ∈ gTB := ⟨gIn (i := 753) (by decide +kernel) (by decide +kernel), gIn (i := 131) (by decide +kernel) (by decide +kernel), gIn (i := 752) (by decide +kernel) (by decide +kernel), gIn (i := 10) (by decide +kernel) (by decide +kernel)⟩
theorem wd_X9_readBeside : yX9_readBeside.cls ≠ "java/lang/invoke/MethodHandle" ∧ yX9_readBeside.cls ≠ "java/lang/invoke/VarHandle" ∧ (parseMethodDescriptor yX9_readBeside.desc).map (fun d => d.parameters.length) = some 0 := by decide +kernel
theorem C_X9_readClause (hE : k_Eok (gE g tys B0 GI)) (hT : k_tys (gE g tys B0 GI)) : k_Met l (gE g tys B0 GI) τ gTB yX9_readClause cX9_readClause 4 2 K_X9_readClause ⟨18, 0, 0, 648⟩ :=
  k_met (M := M_X9_readClause) (by decide +kernel) (fun X hl hr hF hts hK => ⟨gFLk9 hts, gCIk9 hts, gCJk9 hts, (show ∀ q ∈ ([(4, K_X7_kind), (51, K_X7_refuse), (90, K_X7_refuse), (115, K_X7_refuse), (123, K_X7_pass), (131, K_X9_readHouse), (143, K_X9_readHead), (155, K_X9_readRoad), (162, K_X9_readBeside)] : List (Nat × kCtr)), k_call X (gE g tys B0 GI) 4 τ q.2 q.1 from List.forall_mem_cons.mpr ⟨k_callV (cc := cX9_readClause) (C := RX7) hF hK hts gGood (C_X7_kind hE hT) wk_X7_kind.1 wk_X7_kind.2.1 wl_RX9_34 wk_X7_kind.2.2.1 wk_X7_kind.2.2.2 rfl rfl rfl rfl rfl wd_X7_kind ⟨by rw [hr]; decide, by rw [hr]; decide⟩ (dec_X9_readClause (4, .invokevirtual 34, 3) (List.mem_of_getElem? (i := 2) rfl)),
    List.forall_mem_cons.mpr ⟨k_callV (cc := cX9_readClause) (C := RX7) hF hK hts gGood (C_X7_refuse hE hT) wk_X7_refuse.1 wk_X7_refuse.2.1 wl_RX9_45 wk_X7_refuse.2.2.1 wk_X7_refuse.2.2.2 rfl rfl rfl rfl rfl wd_X7_refuse ⟨by rw [hr]; decide, by rw [hr]; decide⟩ (dec_X9_readClause (51, .invokevirtual 45, 3) (List.mem_of_getElem? (i := 25) rfl)),
    List.forall_mem_cons.mpr ⟨k_callV (cc := cX9_readClause) (C := RX7) hF hK hts gGood (C_X7_refuse hE hT) wk_X7_refuse.1 wk_X7_refuse.2.1 wl_RX9_45 wk_X7_refuse.2.2.1 wk_X7_refuse.2.2.2 rfl rfl rfl rfl rfl wd_X7_refuse ⟨by rw [hr]; decide, by rw [hr]; decide⟩ (dec_X9_readClause (90, .invokevirtual 45, 3) (List.mem_of_getElem? (i := 45) rfl)),
    List.forall_mem_cons.mpr ⟨k_callV (cc := cX9_readClause) (C := RX7) hF hK hts gGood (C_X7_refuse hE hT) wk_X7_refuse.1 wk_X7_refuse.2.1 wl_RX9_45 wk_X7_refuse.2.2.1 wk_X7_refuse.2.2.2 rfl rfl rfl rfl rfl wd_X7_refuse ⟨by rw [hr]; decide, by rw [hr]; decide⟩ (dec_X9_readClause (115, .invokevirtual 45, 3) (List.mem_of_getElem? (i := 57) rfl)),
    List.forall_mem_cons.mpr ⟨k_callV (cc := cX9_readClause) (C := RX7) hF hK hts gGood (C_X7_pass hE hT) wk_X7_pass.1 wk_X7_pass.2.1 wl_RX9_48 wk_X7_pass.2.2.1 wk_X7_pass.2.2.2 rfl rfl rfl rfl rfl wd_X7_pass ⟨by rw [hr]; decide, by rw [hr]; decide⟩ (dec_X9_readClause (123, .invokevirtual 48, 3) (List.mem_of_getElem? (i := 61) rfl)),
    List.forall_mem_cons.mpr ⟨k_callV (cc := cX9_readClause) (C := RX9) hF hK hts gGood (C_X9_readHouse hE hT) wk_X9_readHouse.1 wk_X9_readHouse.2.1 wl_RX9_55 wk_X9_readHouse.2.2.1 wk_X9_readHouse.2.2.2 rfl rfl rfl rfl rfl wd_X9_readHouse ⟨by rw [hr]; decide, by rw [hr]; decide⟩ (dec_X9_readClause (131, .invokevirtual 55, 3) (List.mem_of_getElem? (i := 65) rfl)),
    List.forall_mem_cons.mpr ⟨k_callV (cc := cX9_readClause) (C := RX9) hF hK hts gGood (C_X9_readHead hE hT) wk_X9_readHead.1 wk_X9_readHead.2.1 wl_RX9_59 wk_X9_readHead.2.2.1 wk_X9_readHead.2.2.2 rfl rfl rfl rfl rfl wd_X9_readHead ⟨by rw [hr]; decide, by rw [hr]; decide⟩ (dec_X9_readClause (143, .invokevirtual 59, 3) (List.mem_of_getElem? (i := 71) rfl)),
    List.forall_mem_cons.mpr ⟨k_callV (cc := cX9_readClause) (C := RX9) hF hK hts gGood (C_X9_readRoad hE hT) wk_X9_readRoad.1 wk_X9_readRoad.2.1 wl_RX9_62 wk_X9_readRoad.2.2.1 wk_X9_readRoad.2.2.2 rfl rfl rfl rfl rfl wd_X9_readRoad ⟨by rw [hr]; decide, by rw [hr]; decide⟩ (dec_X9_readClause (155, .invokevirtual 62, 3) (List.mem_of_getElem? (i := 77) rfl)),
    List.forall_mem_cons.mpr ⟨k_callV (cc := cX9_readClause) (C := RX9) hF hK hts gGood (C_X9_readBeside hE hT) wk_X9_readBeside.1 wk_X9_readBeside.2.1 wl_RX9_65 wk_X9_readBeside.2.2.1 wk_X9_readBeside.2.2.2 rfl rfl rfl rfl rfl wd_X9_readBeside ⟨by rw [hr]; decide, by rw [hr]; decide⟩ (dec_X9_readClause (162, .invokevirtual 65, 3) (List.mem_of_getElem? (i := 80) rfl)),
    List.forall_mem_nil _⟩⟩⟩⟩⟩⟩⟩⟩⟩), hE, hT⟩) dec_X9_readClause chk_X9_readClause
theorem wl_RX9_22 : Jvm.Cond.methodLink RX9 22 yX7_scan ∈ gTB := gIn (i := 607) (by decide +kernel) (by decide +kernel)
theorem wk_X7_scan : Jvm.Cond.code yX7_scan cX7_scan 3 (k_rty 0) ∈ gTB ∧ Jvm.Cond.initialized yX7_scan.cls ∈ gTB ∧ Jvm.Cond.instanceMethod yX7_scan ∈ gTB ∧ Jvm.Cond.selects RX7 yX7_scan yX7_scan ∈ gTB := ⟨gIn (i := 610) (by decide +kernel) (by decide +kernel), gIn (i := 127) (by decide +kernel) (by decide +kernel), gIn (i := 608) (by decide +kernel) (by decide +kernel), gIn (i := 609) (by decide +kernel) (by decide +kernel)⟩
theorem wd_X7_scan : yX7_scan.cls ≠ "java/lang/invoke/MethodHandle" ∧ yX7_scan.cls ≠ "java/lang/invoke/VarHandle" ∧ (parseMethodDescriptor yX7_scan.desc).map (fun d => d.parameters.length) = some 0 := by decide +kernel
theorem wl_RX9_27 : Jvm.Cond.methodLink RX9 27 yX8_wipe ∈ gTB := gIn (i := 709) (by decide +kernel) (by decide +kernel)
theorem wk_X8_wipe : Jvm.Cond.code yX8_wipe cX8_wipe 2 (k_rty 0) ∈ gTB ∧ Jvm.Cond.initialized yX8_wipe.cls ∈ gTB ∧ Jvm.Cond.instanceMethod yX8_wipe ∈ gTB ∧ Jvm.Cond.selects RX8 yX8_wipe yX8_wipe ∈ gTB := ⟨gIn (i := 712) (by decide +kernel) (by decide +kernel), gIn (i := 129) (by decide +kernel) (by decide +kernel), gIn (i := 710) (by decide +kernel) (by decide +kernel), gIn (i := 711) (by decide +kernel) (by decide +kernel)⟩
theorem wd_X8_wipe : yX8_wipe.cls ≠ "java/lang/invoke/MethodHandle" ∧ yX8_wipe.cls ≠ "java/lang/invoke/VarHandle" ∧ (parseMethodDescriptor yX8_wipe.desc).map (fun d => d.parameters.length) = some 0 := by decide +kernel
theorem wl_RX9_30 : Jvm.Cond.methodLink RX9 30 yX9_readClause ∈ gTB := gIn (i := 713) (by decide +kernel) (by decide +kernel)
theorem wk_X9_readClause : Jvm.Cond.code yX9_readClause cX9_readClause 4 (k_rty 2) ∈ gTB ∧ Jvm.Cond.initialized yX9_readClause.cls ∈ gTB ∧ Jvm.Cond.instanceMethod yX9_readClause ∈ gTB ∧ Jvm.Cond.selects RX9 yX9_readClause yX9_readClause ∈ gTB := ⟨gIn (i := 716) (by decide +kernel) (by decide +kernel), gIn (i := 131) (by decide +kernel) (by decide +kernel), gIn (i := 715) (by decide +kernel) (by decide +kernel), gIn (i := 6) (by decide +kernel) (by decide +kernel)⟩
theorem wd_X9_readClause : yX9_readClause.cls ≠ "java/lang/invoke/MethodHandle" ∧ yX9_readClause.cls ≠ "java/lang/invoke/VarHandle" ∧ (parseMethodDescriptor yX9_readClause.desc).map (fun d => d.parameters.length) = some 1 := by decide +kernel
theorem wl_RX9_42 : Jvm.Cond.methodLink RX9 42 yX8_findWays ∈ gTB := gIn (i := 758) (by decide +kernel) (by decide +kernel)
theorem wk_X8_findWays : Jvm.Cond.code yX8_findWays cX8_findWays 4 (k_rty 0) ∈ gTB ∧ Jvm.Cond.initialized yX8_findWays.cls ∈ gTB ∧ Jvm.Cond.instanceMethod yX8_findWays ∈ gTB ∧ Jvm.Cond.selects RX8 yX8_findWays yX8_findWays ∈ gTB := ⟨gIn (i := 761) (by decide +kernel) (by decide +kernel), gIn (i := 129) (by decide +kernel) (by decide +kernel), gIn (i := 759) (by decide +kernel) (by decide +kernel), gIn (i := 760) (by decide +kernel) (by decide +kernel)⟩
theorem wd_X8_findWays : yX8_findWays.cls ≠ "java/lang/invoke/MethodHandle" ∧ yX8_findWays.cls ≠ "java/lang/invoke/VarHandle" ∧ (parseMethodDescriptor yX8_findWays.desc).map (fun d => d.parameters.length) = some 0 := by decide +kernel
theorem C_X9_read (hE : k_Eok (gE g tys B0 GI)) (hT : k_tys (gE g tys B0 GI)) : k_Met l (gE g tys B0 GI) τ gTB yX9_read cX9_read 2 2 K_X9_read ⟨19, 0, 0, 671⟩ :=
  k_met (M := M_X9_read) (by decide +kernel) (fun X hl hr hF hts hK => ⟨gFLk9 hts, gCIk9 hts, gCJk9 hts, (show ∀ q ∈ ([(4, K_X7_scan), (11, K_X8_wipe), (24, K_X9_readClause), (36, K_X7_kind), (55, K_X8_findWays), (64, K_X7_kind), (77, K_X7_refuse), (85, K_X7_pass), (99, K_X7_refuse)] : List (Nat × kCtr)), k_call X (gE g tys B0 GI) 2 τ q.2 q.1 from List.forall_mem_cons.mpr ⟨k_callV (cc := cX9_read) (C := RX7) hF hK hts gGood (C_X7_scan hE hT) wk_X7_scan.1 wk_X7_scan.2.1 wl_RX9_22 wk_X7_scan.2.2.1 wk_X7_scan.2.2.2 rfl rfl rfl rfl rfl wd_X7_scan ⟨by rw [hr]; decide, by rw [hr]; decide⟩ (dec_X9_read (4, .invokevirtual 22, 3) (List.mem_of_getElem? (i := 2) rfl)),
    List.forall_mem_cons.mpr ⟨k_callV (cc := cX9_read) (C := RX8) hF hK hts gGood (C_X8_wipe hE hT) wk_X8_wipe.1 wk_X8_wipe.2.1 wl_RX9_27 wk_X8_wipe.2.2.1 wk_X8_wipe.2.2.2 rfl rfl rfl rfl rfl wd_X8_wipe ⟨by rw [hr]; decide, by rw [hr]; decide⟩ (dec_X9_read (11, .invokevirtual 27, 3) (List.mem_of_getElem? (i := 5) rfl)),
    List.forall_mem_cons.mpr ⟨k_callV (cc := cX9_read) (C := RX9) hF hK hts gGood (C_X9_readClause hE hT) wk_X9_readClause.1 wk_X9_readClause.2.1 wl_RX9_30 wk_X9_readClause.2.2.1 wk_X9_readClause.2.2.2 rfl rfl rfl rfl rfl wd_X9_readClause ⟨by rw [hr]; decide, by rw [hr]; decide⟩ (dec_X9_read (24, .invokevirtual 30, 3) (List.mem_of_getElem? (i := 13) rfl)),
    List.forall_mem_cons.mpr ⟨k_callV (cc := cX9_read) (C := RX7) hF hK hts gGood (C_X7_kind hE hT) wk_X7_kind.1 wk_X7_kind.2.1 wl_RX9_34 wk_X7_kind.2.2.1 wk_X7_kind.2.2.2 rfl rfl rfl rfl rfl wd_X7_kind ⟨by rw [hr]; decide, by rw [hr]; decide⟩ (dec_X9_read (36, .invokevirtual 34, 3) (List.mem_of_getElem? (i := 19) rfl)),
    List.forall_mem_cons.mpr ⟨k_callV (cc := cX9_read) (C := RX8) hF hK hts gGood (C_X8_findWays hE hT) wk_X8_findWays.1 wk_X8_findWays.2.1 wl_RX9_42 wk_X8_findWays.2.2.1 wk_X8_findWays.2.2.2 rfl rfl rfl rfl rfl wd_X8_findWays ⟨by rw [hr]; decide, by rw [hr]; decide⟩ (dec_X9_read (55, .invokevirtual 42, 3) (List.mem_of_getElem? (i := 28) rfl)),
    List.forall_mem_cons.mpr ⟨k_callV (cc := cX9_read) (C := RX7) hF hK hts gGood (C_X7_kind hE hT) wk_X7_kind.1 wk_X7_kind.2.1 wl_RX9_34 wk_X7_kind.2.2.1 wk_X7_kind.2.2.2 rfl rfl rfl rfl rfl wd_X7_kind ⟨by rw [hr]; decide, by rw [hr]; decide⟩ (dec_X9_read (64, .invokevirtual 34, 3) (List.mem_of_getElem? (i := 33) rfl)),
    List.forall_mem_cons.mpr ⟨k_callV (cc := cX9_read) (C := RX7) hF hK hts gGood (C_X7_refuse hE hT) wk_X7_refuse.1 wk_X7_refuse.2.1 wl_RX9_45 wk_X7_refuse.2.2.1 wk_X7_refuse.2.2.2 rfl rfl rfl rfl rfl wd_X7_refuse ⟨by rw [hr]; decide, by rw [hr]; decide⟩ (dec_X9_read (77, .invokevirtual 45, 3) (List.mem_of_getElem? (i := 39) rfl)),
    List.forall_mem_cons.mpr ⟨k_callV (cc := cX9_read) (C := RX7) hF hK hts gGood (C_X7_pass hE hT) wk_X7_pass.1 wk_X7_pass.2.1 wl_RX9_48 wk_X7_pass.2.2.1 wk_X7_pass.2.2.2 rfl rfl rfl rfl rfl wd_X7_pass ⟨by rw [hr]; decide, by rw [hr]; decide⟩ (dec_X9_read (85, .invokevirtual 48, 3) (List.mem_of_getElem? (i := 43) rfl)),
    List.forall_mem_cons.mpr ⟨k_callV (cc := cX9_read) (C := RX7) hF hK hts gGood (C_X7_refuse hE hT) wk_X7_refuse.1 wk_X7_refuse.2.1 wl_RX9_45 wk_X7_refuse.2.2.1 wk_X7_refuse.2.2.2 rfl rfl rfl rfl rfl wd_X7_refuse ⟨by rw [hr]; decide, by rw [hr]; decide⟩ (dec_X9_read (99, .invokevirtual 45, 3) (List.mem_of_getElem? (i := 49) rfl)),
    List.forall_mem_nil _⟩⟩⟩⟩⟩⟩⟩⟩⟩), hE, hT⟩) dec_X9_read chk_X9_read
theorem C_X5_emit (hE : k_Eok (gE g tys B0 GI)) (hT : k_tys (gE g tys B0 GI)) : k_Met l (gE g tys B0 GI) τ gTB yX5_emit cX5_emit 2 0 K_X5_emit ⟨0, 0, 0, 0⟩ :=
  k_met (M := M_X5_emit) (by decide +kernel) (fun X hl hr hF hts hK => ⟨gFLk5 hts, gCIk5 hts, gCJk5 hts, (show ∀ q ∈ ([] : List (Nat × kCtr)), k_call X (gE g tys B0 GI) 2 τ q.2 q.1 from List.forall_mem_nil _), hE, hT⟩) dec_X5_emit chk_X5_emit
theorem C_X5_signOf (hE : k_Eok (gE g tys B0 GI)) (hT : k_tys (gE g tys B0 GI)) : k_Met l (gE g tys B0 GI) τ gTB yX5_signOf cX5_signOf 1 1 K_X5_signOf ⟨0, 0, 0, 0⟩ :=
  k_met (M := M_X5_signOf) (by decide +kernel) (fun X hl hr hF hts hK => ⟨gFLk5 hts, gCIk5 hts, gCJk5 hts, (show ∀ q ∈ ([] : List (Nat × kCtr)), k_call X (gE g tys B0 GI) 1 τ q.2 q.1 from List.forall_mem_nil _), hE, hT⟩) dec_X5_signOf chk_X5_signOf
theorem C_X5_joinOf (hE : k_Eok (gE g tys B0 GI)) (hT : k_tys (gE g tys B0 GI)) : k_Met l (gE g tys B0 GI) τ gTB yX5_joinOf cX5_joinOf 1 1 K_X5_joinOf ⟨0, 0, 0, 0⟩ :=
  k_met (M := M_X5_joinOf) (by decide +kernel) (fun X hl hr hF hts hK => ⟨gFLk5 hts, gCIk5 hts, gCJk5 hts, (show ∀ q ∈ ([] : List (Nat × kCtr)), k_call X (gE g tys B0 GI) 1 τ q.2 q.1 from List.forall_mem_nil _), hE, hT⟩) dec_X5_joinOf chk_X5_joinOf
theorem wl_RX5_48 : Jvm.Cond.methodLink RX5 48 yX7_kind ∈ gTB := gIn (i := 791) (by decide +kernel) (by decide +kernel)
theorem wl_RX5_52 : Jvm.Cond.methodLink RX5 52 yX7_refuse ∈ gTB := gIn (i := 792) (by decide +kernel) (by decide +kernel)
theorem wl_RX5_75 : Jvm.Cond.methodLink RX5 75 yX5_emit ∈ gTB := gIn (i := 803) (by decide +kernel) (by decide +kernel)
theorem wk_X5_emit : Jvm.Cond.code yX5_emit cX5_emit 2 (k_rty 0) ∈ gTB ∧ Jvm.Cond.initialized yX5_emit.cls ∈ gTB ∧ Jvm.Cond.instanceMethod yX5_emit ∈ gTB ∧ Jvm.Cond.selects RX5 yX5_emit yX5_emit ∈ gTB := ⟨gIn (i := 806) (by decide +kernel) (by decide +kernel), gIn (i := 132) (by decide +kernel) (by decide +kernel), gIn (i := 805) (by decide +kernel) (by decide +kernel), gIn (i := 15) (by decide +kernel) (by decide +kernel)⟩
theorem wd_X5_emit : yX5_emit.cls ≠ "java/lang/invoke/MethodHandle" ∧ yX5_emit.cls ≠ "java/lang/invoke/VarHandle" ∧ (parseMethodDescriptor yX5_emit.desc).map (fun d => d.parameters.length) = some 1 := by decide +kernel
theorem wl_RX5_55 : Jvm.Cond.methodLink RX5 55 yX7_pass ∈ gTB := gIn (i := 793) (by decide +kernel) (by decide +kernel)
theorem C_X5_readValue (hE : k_Eok (gE g tys B0 GI)) (hT : k_tys (gE g tys B0 GI)) : k_Met l (gE g tys B0 GI) τ gTB yX5_readValue cX5_readValue 3 2 K_X5_readValue ⟨17, 0, 0, 620⟩ :=
  k_met (M := M_X5_readValue) (by decide +kernel) (fun X hl hr hF hts hK => ⟨gFLk5 hts, gCIk5 hts, gCJk5 hts, (show ∀ q ∈ ([(4, K_X7_kind), (42, K_X7_refuse), (53, K_X5_emit), (79, K_X5_emit), (90, K_X7_refuse), (108, K_X7_refuse), (126, K_X7_pass)] : List (Nat × kCtr)), k_call X (gE g tys B0 GI) 3 τ q.2 q.1 from List.forall_mem_cons.mpr ⟨k_callV (cc := cX5_readValue) (C := RX7) hF hK hts gGood (C_X7_kind hE hT) wk_X7_kind.1 wk_X7_kind.2.1 wl_RX5_48 wk_X7_kind.2.2.1 wk_X7_kind.2.2.2 rfl rfl rfl rfl rfl wd_X7_kind ⟨by rw [hr]; decide, by rw [hr]; decide⟩ (dec_X5_readValue (4, .invokevirtual 48, 3) (List.mem_of_getElem? (i := 2) rfl)),
    List.forall_mem_cons.mpr ⟨k_callV (cc := cX5_readValue) (C := RX7) hF hK hts gGood (C_X7_refuse hE hT) wk_X7_refuse.1 wk_X7_refuse.2.1 wl_RX5_52 wk_X7_refuse.2.2.1 wk_X7_refuse.2.2.2 rfl rfl rfl rfl rfl wd_X7_refuse ⟨by rw [hr]; decide, by rw [hr]; decide⟩ (dec_X5_readValue (42, .invokevirtual 52, 3) (List.mem_of_getElem? (i := 21) rfl)),
    List.forall_mem_cons.mpr ⟨k_callV (cc := cX5_readValue) (C := RX5) hF hK hts gGood (C_X5_emit hE hT) wk_X5_emit.1 wk_X5_emit.2.1 wl_RX5_75 wk_X5_emit.2.2.1 wk_X5_emit.2.2.2 rfl rfl rfl rfl rfl wd_X5_emit ⟨by rw [hr]; decide, by rw [hr]; decide⟩ (dec_X5_readValue (53, .invokevirtual 75, 3) (List.mem_of_getElem? (i := 29) rfl)),
    List.forall_mem_cons.mpr ⟨k_callV (cc := cX5_readValue) (C := RX5) hF hK hts gGood (C_X5_emit hE hT) wk_X5_emit.1 wk_X5_emit.2.1 wl_RX5_75 wk_X5_emit.2.2.1 wk_X5_emit.2.2.2 rfl rfl rfl rfl rfl wd_X5_emit ⟨by rw [hr]; decide, by rw [hr]; decide⟩ (dec_X5_readValue (79, .invokevirtual 75, 3) (List.mem_of_getElem? (i := 41) rfl)),
    List.forall_mem_cons.mpr ⟨k_callV (cc := cX5_readValue) (C := RX7) hF hK hts gGood (C_X7_refuse hE hT) wk_X7_refuse.1 wk_X7_refuse.2.1 wl_RX5_52 wk_X7_refuse.2.2.1 wk_X7_refuse.2.2.2 rfl rfl rfl rfl rfl wd_X7_refuse ⟨by rw [hr]; decide, by rw [hr]; decide⟩ (dec_X5_readValue (90, .invokevirtual 52, 3) (List.mem_of_getElem? (i := 46) rfl)),
    List.forall_mem_cons.mpr ⟨k_callV (cc := cX5_readValue) (C := RX7) hF hK hts gGood (C_X7_refuse hE hT) wk_X7_refuse.1 wk_X7_refuse.2.1 wl_RX5_52 wk_X7_refuse.2.2.1 wk_X7_refuse.2.2.2 rfl rfl rfl rfl rfl wd_X7_refuse ⟨by rw [hr]; decide, by rw [hr]; decide⟩ (dec_X5_readValue (108, .invokevirtual 52, 3) (List.mem_of_getElem? (i := 55) rfl)),
    List.forall_mem_cons.mpr ⟨k_callV (cc := cX5_readValue) (C := RX7) hF hK hts gGood (C_X7_pass hE hT) wk_X7_pass.1 wk_X7_pass.2.1 wl_RX5_55 wk_X7_pass.2.2.1 wk_X7_pass.2.2.2 rfl rfl rfl rfl rfl wd_X7_pass ⟨by rw [hr]; decide, by rw [hr]; decide⟩ (dec_X5_readValue (126, .invokevirtual 55, 3) (List.mem_of_getElem? (i := 65) rfl)),
    List.forall_mem_nil _⟩⟩⟩⟩⟩⟩⟩), hE, hT⟩) dec_X5_readValue chk_X5_readValue
theorem wl_RX5_86 : Jvm.Cond.methodLink RX5 86 yX5_readValue ∈ gTB := gIn (i := 798) (by decide +kernel) (by decide +kernel)
theorem wk_X5_readValue : Jvm.Cond.code yX5_readValue cX5_readValue 3 (k_rty 2) ∈ gTB ∧ Jvm.Cond.initialized yX5_readValue.cls ∈ gTB ∧ Jvm.Cond.instanceMethod yX5_readValue ∈ gTB ∧ Jvm.Cond.selects RX5 yX5_readValue yX5_readValue ∈ gTB := ⟨gIn (i := 801) (by decide +kernel) (by decide +kernel), gIn (i := 132) (by decide +kernel) (by decide +kernel), gIn (i := 800) (by decide +kernel) (by decide +kernel), gIn (i := 14) (by decide +kernel) (by decide +kernel)⟩
theorem wd_X5_readValue : yX5_readValue.cls ≠ "java/lang/invoke/MethodHandle" ∧ yX5_readValue.cls ≠ "java/lang/invoke/VarHandle" ∧ (parseMethodDescriptor yX5_readValue.desc).map (fun d => d.parameters.length) = some 0 := by decide +kernel
theorem wl_RX5_89 : Jvm.Cond.methodLink RX5 89 yX5_joinOf ∈ gTB := gIn (i := 807) (by decide +kernel) (by decide +kernel)
theorem wk_X5_joinOf : Jvm.Cond.code yX5_joinOf cX5_joinOf 1 (k_rty 1) ∈ gTB ∧ Jvm.Cond.initialized yX5_joinOf.cls ∈ gTB ∧ Jvm.Cond.static yX5_joinOf ∈ gTB := ⟨gIn (i := 809) (by decide +kernel) (by decide +kernel), gIn (i := 132) (by decide +kernel) (by decide +kernel), gIn (i := 808) (by decide +kernel) (by decide +kernel)⟩
theorem wd_X5_joinOf : yX5_joinOf.cls ≠ "java/lang/invoke/MethodHandle" ∧ yX5_joinOf.cls ≠ "java/lang/invoke/VarHandle" ∧ (parseMethodDescriptor yX5_joinOf.desc).map (fun d => d.parameters.length) = some 1 := by decide +kernel
theorem C_X5_readSum (hE : k_Eok (gE g tys B0 GI)) (hT : k_tys (gE g tys B0 GI)) : k_Met l (gE g tys B0 GI) τ gTB yX5_readSum cX5_readSum 5 2 K_X5_readSum ⟨18, 0, 0, 642⟩ :=
  k_met (M := M_X5_readSum) (by decide +kernel) (fun X hl hr hF hts hK => ⟨gFLk5 hts, gCIk5 hts, gCJk5 hts, (show ∀ q ∈ ([(3, K_X5_readValue), (24, K_X7_kind), (27, K_X5_joinOf), (68, K_X5_emit), (84, K_X7_pass), (88, K_X5_readValue), (103, K_X5_emit)] : List (Nat × kCtr)), k_call X (gE g tys B0 GI) 5 τ q.2 q.1 from List.forall_mem_cons.mpr ⟨k_callV (cc := cX5_readSum) (C := RX5) hF hK hts gGood (C_X5_readValue hE hT) wk_X5_readValue.1 wk_X5_readValue.2.1 wl_RX5_86 wk_X5_readValue.2.2.1 wk_X5_readValue.2.2.2 rfl rfl rfl rfl rfl wd_X5_readValue ⟨by rw [hr]; decide, by rw [hr]; decide⟩ (dec_X5_readSum (3, .invokevirtual 86, 3) (List.mem_of_getElem? (i := 3) rfl)),
    List.forall_mem_cons.mpr ⟨k_callV (cc := cX5_readSum) (C := RX7) hF hK hts gGood (C_X7_kind hE hT) wk_X7_kind.1 wk_X7_kind.2.1 wl_RX5_48 wk_X7_kind.2.2.1 wk_X7_kind.2.2.2 rfl rfl rfl rfl rfl wd_X7_kind ⟨by rw [hr]; decide, by rw [hr]; decide⟩ (dec_X5_readSum (24, .invokevirtual 48, 3) (List.mem_of_getElem? (i := 14) rfl)),
    List.forall_mem_cons.mpr ⟨k_callS (cc := cX5_readSum) hF hK hts gGood (C_X5_joinOf hE hT) wk_X5_joinOf.1 wk_X5_joinOf.2.1 wl_RX5_89 wk_X5_joinOf.2.2 rfl rfl wd_X5_joinOf ⟨by rw [hr]; decide, by rw [hr]; decide⟩ (dec_X5_readSum (27, .invokestatic 89, 3) (List.mem_of_getElem? (i := 15) rfl)),
    List.forall_mem_cons.mpr ⟨k_callV (cc := cX5_readSum) (C := RX5) hF hK hts gGood (C_X5_emit hE hT) wk_X5_emit.1 wk_X5_emit.2.1 wl_RX5_75 wk_X5_emit.2.2.1 wk_X5_emit.2.2.2 rfl rfl rfl rfl rfl wd_X5_emit ⟨by rw [hr]; decide, by rw [hr]; decide⟩ (dec_X5_readSum (68, .invokevirtual 75, 3) (List.mem_of_getElem? (i := 37) rfl)),
    List.forall_mem_cons.mpr ⟨k_callV (cc := cX5_readSum) (C := RX7) hF hK hts gGood (C_X7_pass hE hT) wk_X7_pass.1 wk_X7_pass.2.1 wl_RX5_55 wk_X7_pass.2.2.1 wk_X7_pass.2.2.2 rfl rfl rfl rfl rfl wd_X7_pass ⟨by rw [hr]; decide, by rw [hr]; decide⟩ (dec_X5_readSum (84, .invokevirtual 55, 3) (List.mem_of_getElem? (i := 47) rfl)),
    List.forall_mem_cons.mpr ⟨k_callV (cc := cX5_readSum) (C := RX5) hF hK hts gGood (C_X5_readValue hE hT) wk_X5_readValue.1 wk_X5_readValue.2.1 wl_RX5_86 wk_X5_readValue.2.2.1 wk_X5_readValue.2.2.2 rfl rfl rfl rfl rfl wd_X5_readValue ⟨by rw [hr]; decide, by rw [hr]; decide⟩ (dec_X5_readSum (88, .invokevirtual 86, 3) (List.mem_of_getElem? (i := 49) rfl)),
    List.forall_mem_cons.mpr ⟨k_callV (cc := cX5_readSum) (C := RX5) hF hK hts gGood (C_X5_emit hE hT) wk_X5_emit.1 wk_X5_emit.2.1 wl_RX5_75 wk_X5_emit.2.2.1 wk_X5_emit.2.2.2 rfl rfl rfl rfl rfl wd_X5_emit ⟨by rw [hr]; decide, by rw [hr]; decide⟩ (dec_X5_readSum (103, .invokevirtual 75, 3) (List.mem_of_getElem? (i := 57) rfl)),
    List.forall_mem_nil _⟩⟩⟩⟩⟩⟩⟩), hE, hT⟩) dec_X5_readSum chk_X5_readSum
theorem wl_RX5_69 : Jvm.Cond.methodLink RX5 69 yX5_readSum ∈ gTB := gIn (i := 794) (by decide +kernel) (by decide +kernel)
theorem wk_X5_readSum : Jvm.Cond.code yX5_readSum cX5_readSum 5 (k_rty 2) ∈ gTB ∧ Jvm.Cond.initialized yX5_readSum.cls ∈ gTB ∧ Jvm.Cond.instanceMethod yX5_readSum ∈ gTB ∧ Jvm.Cond.selects RX5 yX5_readSum yX5_readSum ∈ gTB := ⟨gIn (i := 797) (by decide +kernel) (by decide +kernel), gIn (i := 132) (by decide +kernel) (by decide +kernel), gIn (i := 796) (by decide +kernel) (by decide +kernel), gIn (i := 13) (by decide +kernel) (by decide +kernel)⟩
theorem wd_X5_readSum : yX5_readSum.cls ≠ "java/lang/invoke/MethodHandle" ∧ yX5_readSum.cls ≠ "java/lang/invoke/VarHandle" ∧ (parseMethodDescriptor yX5_readSum.desc).map (fun d => d.parameters.length) = some 0 := by decide +kernel
theorem wl_RX5_82 : Jvm.Cond.methodLink RX5 82 yX5_signOf ∈ gTB := gIn (i := 826) (by decide +kernel) (by decide +kernel)
theorem wk_X5_signOf : Jvm.Cond.code yX5_signOf cX5_signOf 1 (k_rty 1) ∈ gTB ∧ Jvm.Cond.initialized yX5_signOf.cls ∈ gTB ∧ Jvm.Cond.static yX5_signOf ∈ gTB := ⟨gIn (i := 828) (by decide +kernel) (by decide +kernel), gIn (i := 132) (by decide +kernel) (by decide +kernel), gIn (i := 827) (by decide +kernel) (by decide +kernel)⟩
theorem wd_X5_signOf : yX5_signOf.cls ≠ "java/lang/invoke/MethodHandle" ∧ yX5_signOf.cls ≠ "java/lang/invoke/VarHandle" ∧ (parseMethodDescriptor yX5_signOf.desc).map (fun d => d.parameters.length) = some 1 := by decide +kernel
theorem C_X5_readComparison (hE : k_Eok (gE g tys B0 GI)) (hT : k_tys (gE g tys B0 GI)) : k_Met l (gE g tys B0 GI) τ gTB yX5_readComparison cX5_readComparison 2 2 K_X5_readComparison ⟨19, 0, 0, 666⟩ :=
  k_met (M := M_X5_readComparison) (by decide +kernel) (fun X hl hr hF hts hK => ⟨gFLk5 hts, gCIk5 hts, gCJk5 hts, (show ∀ q ∈ ([(1, K_X5_readSum), (13, K_X7_kind), (16, K_X5_signOf), (30, K_X7_refuse), (48, K_X7_refuse), (66, K_X7_pass), (70, K_X5_readSum), (80, K_X5_emit)] : List (Nat × kCtr)), k_call X (gE g tys B0 GI) 2 τ q.2 q.1 from List.forall_mem_cons.mpr ⟨k_callV (cc := cX5_readComparison) (C := RX5) hF hK hts gGood (C_X5_readSum hE hT) wk_X5_readSum.1 wk_X5_readSum.2.1 wl_RX5_69 wk_X5_readSum.2.2.1 wk_X5_readSum.2.2.2 rfl rfl rfl rfl rfl wd_X5_readSum ⟨by rw [hr]; decide, by rw [hr]; decide⟩ (dec_X5_readComparison (1, .invokevirtual 69, 3) (List.mem_of_getElem? (i := 1) rfl)),
    List.forall_mem_cons.mpr ⟨k_callV (cc := cX5_readComparison) (C := RX7) hF hK hts gGood (C_X7_kind hE hT) wk_X7_kind.1 wk_X7_kind.2.1 wl_RX5_48 wk_X7_kind.2.2.1 wk_X7_kind.2.2.2 rfl rfl rfl rfl rfl wd_X7_kind ⟨by rw [hr]; decide, by rw [hr]; decide⟩ (dec_X5_readComparison (13, .invokevirtual 48, 3) (List.mem_of_getElem? (i := 7) rfl)),
    List.forall_mem_cons.mpr ⟨k_callS (cc := cX5_readComparison) hF hK hts gGood (C_X5_signOf hE hT) wk_X5_signOf.1 wk_X5_signOf.2.1 wl_RX5_82 wk_X5_signOf.2.2 rfl rfl wd_X5_signOf ⟨by rw [hr]; decide, by rw [hr]; decide⟩ (dec_X5_readComparison (16, .invokestatic 82, 3) (List.mem_of_getElem? (i := 8) rfl)),
    List.forall_mem_cons.mpr ⟨k_callV (cc := cX5_readComparison) (C := RX7) hF hK hts gGood (C_X7_refuse hE hT) wk_X7_refuse.1 wk_X7_refuse.2.1 wl_RX5_52 wk_X7_refuse.2.2.1 wk_X7_refuse.2.2.2 rfl rfl rfl rfl rfl wd_X7_refuse ⟨by rw [hr]; decide, by rw [hr]; decide⟩ (dec_X5_readComparison (30, .invokevirtual 52, 3) (List.mem_of_getElem? (i := 16) rfl)),
    List.forall_mem_cons.mpr ⟨k_callV (cc := cX5_readComparison) (C := RX7) hF hK hts gGood (C_X7_refuse hE hT) wk_X7_refuse.1 wk_X7_refuse.2.1 wl_RX5_52 wk_X7_refuse.2.2.1 wk_X7_refuse.2.2.2 rfl rfl rfl rfl rfl wd_X7_refuse ⟨by rw [hr]; decide, by rw [hr]; decide⟩ (dec_X5_readComparison (48, .invokevirtual 52, 3) (List.mem_of_getElem? (i := 25) rfl)),
    List.forall_mem_cons.mpr ⟨k_callV (cc := cX5_readComparison) (C := RX7) hF hK hts gGood (C_X7_pass hE hT) wk_X7_pass.1 wk_X7_pass.2.1 wl_RX5_55 wk_X7_pass.2.2.1 wk_X7_pass.2.2.2 rfl rfl rfl rfl rfl wd_X7_pass ⟨by rw [hr]; decide, by rw [hr]; decide⟩ (dec_X5_readComparison (66, .invokevirtual 55, 3) (List.mem_of_getElem? (i := 35) rfl)),
    List.forall_mem_cons.mpr ⟨k_callV (cc := cX5_readComparison) (C := RX5) hF hK hts gGood (C_X5_readSum hE hT) wk_X5_readSum.1 wk_X5_readSum.2.1 wl_RX5_69 wk_X5_readSum.2.2.1 wk_X5_readSum.2.2.2 rfl rfl rfl rfl rfl wd_X5_readSum ⟨by rw [hr]; decide, by rw [hr]; decide⟩ (dec_X5_readComparison (70, .invokevirtual 69, 3) (List.mem_of_getElem? (i := 37) rfl)),
    List.forall_mem_cons.mpr ⟨k_callV (cc := cX5_readComparison) (C := RX5) hF hK hts gGood (C_X5_emit hE hT) wk_X5_emit.1 wk_X5_emit.2.1 wl_RX5_75 wk_X5_emit.2.2.1 wk_X5_emit.2.2.2 rfl rfl rfl rfl rfl wd_X5_emit ⟨by rw [hr]; decide, by rw [hr]; decide⟩ (dec_X5_readComparison (80, .invokevirtual 75, 3) (List.mem_of_getElem? (i := 43) rfl)),
    List.forall_mem_nil _⟩⟩⟩⟩⟩⟩⟩⟩), hE, hT⟩) dec_X5_readComparison chk_X5_readComparison
theorem wl_RX5_79 : Jvm.Cond.methodLink RX5 79 yX5_readComparison ∈ gTB := gIn (i := 822) (by decide +kernel) (by decide +kernel)
theorem wk_X5_readComparison : Jvm.Cond.code yX5_readComparison cX5_readComparison 2 (k_rty 2) ∈ gTB ∧ Jvm.Cond.initialized yX5_readComparison.cls ∈ gTB ∧ Jvm.Cond.instanceMethod yX5_readComparison ∈ gTB ∧ Jvm.Cond.selects RX5 yX5_readComparison yX5_readComparison ∈ gTB := ⟨gIn (i := 825) (by decide +kernel) (by decide +kernel), gIn (i := 132) (by decide +kernel) (by decide +kernel), gIn (i := 824) (by decide +kernel) (by decide +kernel), gIn (i := 19) (by decide +kernel) (by decide +kernel)⟩
theorem wd_X5_readComparison : yX5_readComparison.cls ≠ "java/lang/invoke/MethodHandle" ∧ yX5_readComparison.cls ≠ "java/lang/invoke/VarHandle" ∧ (parseMethodDescriptor yX5_readComparison.desc).map (fun d => d.parameters.length) = some 0 := by decide +kernel
theorem C_X5_readFact_10 (hE : k_Eok (gE g tys B0 GI)) (hT : k_tys (gE g tys B0 GI)) : k_Met l (gE g tys B0 GI) τ gTB yX5_readFact cX5_readFact 3 2 K_X5_readFact_10 ⟨20, 0, 0, 687⟩ :=
  k_met (M := M_X5_readFact_10) (by decide +kernel) (fun X hl hr hF hts hK => ⟨gFLk5 hts, gCIk5 hts, gCJk5 hts, (show ∀ q ∈ ([(4, K_X7_kind), (22, K_X5_readComparison), (37, K_X7_refuse)] : List (Nat × kCtr)), k_call X (gE g tys B0 GI) 3 τ q.2 q.1 from List.forall_mem_cons.mpr ⟨k_callV (cc := cX5_readFact) (C := RX7) hF hK hts gGood (C_X7_kind hE hT) wk_X7_kind.1 wk_X7_kind.2.1 wl_RX5_48 wk_X7_kind.2.2.1 wk_X7_kind.2.2.2 rfl rfl rfl rfl rfl wd_X7_kind ⟨by rw [hr]; decide, by rw [hr]; decide⟩ (dec_X5_readFact (4, .invokevirtual 48, 3) (List.mem_of_getElem? (i := 2) rfl)),
    List.forall_mem_cons.mpr ⟨k_callV (cc := cX5_readFact) (C := RX5) hF hK hts gGood (C_X5_readComparison hE hT) wk_X5_readComparison.1 wk_X5_readComparison.2.1 wl_RX5_79 wk_X5_readComparison.2.2.1 wk_X5_readComparison.2.2.2 rfl rfl rfl rfl rfl wd_X5_readComparison ⟨by rw [hr]; decide, by rw [hr]; decide⟩ (dec_X5_readFact (22, .invokevirtual 79, 3) (List.mem_of_getElem? (i := 11) rfl)),
    List.forall_mem_cons.mpr ⟨k_callV (cc := cX5_readFact) (C := RX7) hF hK hts gGood (C_X7_refuse hE hT) wk_X7_refuse.1 wk_X7_refuse.2.1 wl_RX5_52 wk_X7_refuse.2.2.1 wk_X7_refuse.2.2.2 rfl rfl rfl rfl rfl wd_X7_refuse ⟨by rw [hr]; decide, by rw [hr]; decide⟩ (dec_X5_readFact (37, .invokevirtual 52, 3) (List.mem_of_getElem? (i := 19) rfl)),
    List.forall_mem_nil _⟩⟩⟩), hE, hT⟩) dec_X5_readFact chk_X5_readFact_10
theorem wl_RX5_72 : Jvm.Cond.methodLink RX5 72 yX5_readFact ∈ gTB := gIn (i := 818) (by decide +kernel) (by decide +kernel)
theorem wk_X5_readFact : Jvm.Cond.code yX5_readFact cX5_readFact 3 (k_rty 2) ∈ gTB ∧ Jvm.Cond.initialized yX5_readFact.cls ∈ gTB ∧ Jvm.Cond.instanceMethod yX5_readFact ∈ gTB ∧ Jvm.Cond.selects RX5 yX5_readFact yX5_readFact ∈ gTB := ⟨gIn (i := 821) (by decide +kernel) (by decide +kernel), gIn (i := 132) (by decide +kernel) (by decide +kernel), gIn (i := 820) (by decide +kernel) (by decide +kernel), gIn (i := 18) (by decide +kernel) (by decide +kernel)⟩
theorem wd_X5_readFact : yX5_readFact.cls ≠ "java/lang/invoke/MethodHandle" ∧ yX5_readFact.cls ≠ "java/lang/invoke/VarHandle" ∧ (parseMethodDescriptor yX5_readFact.desc).map (fun d => d.parameters.length) = some 1 := by decide +kernel
theorem C_X5_readTest_10 (hE : k_Eok (gE g tys B0 GI)) (hT : k_tys (gE g tys B0 GI)) : k_Met l (gE g tys B0 GI) τ gTB yX5_readTest cX5_readTest 5 2 K_X5_readTest_10 ⟨21, 0, 0, 709⟩ :=
  k_met (M := M_X5_readTest_10) (by decide +kernel) (fun X hl hr hF hts hK => ⟨gFLk5 hts, gCIk5 hts, gCJk5 hts, (show ∀ q ∈ ([(4, K_X5_readFact_10), (25, K_X7_kind), (45, K_X5_emit), (72, K_X7_pass), (77, K_X5_readFact_10), (96, K_X5_emit)] : List (Nat × kCtr)), k_call X (gE g tys B0 GI) 5 τ q.2 q.1 from List.forall_mem_cons.mpr ⟨k_callV (cc := cX5_readTest) (C := RX5) hF hK hts gGood (C_X5_readFact_10 hE hT) wk_X5_readFact.1 wk_X5_readFact.2.1 wl_RX5_72 wk_X5_readFact.2.2.1 wk_X5_readFact.2.2.2 rfl rfl rfl rfl rfl wd_X5_readFact ⟨by rw [hr]; decide, by rw [hr]; decide⟩ (dec_X5_readTest (4, .invokevirtual 72, 3) (List.mem_of_getElem? (i := 4) rfl)),
    List.forall_mem_cons.mpr ⟨k_callV (cc := cX5_readTest) (C := RX7) hF hK hts gGood (C_X7_kind hE hT) wk_X7_kind.1 wk_X7_kind.2.1 wl_RX5_48 wk_X7_kind.2.2.1 wk_X7_kind.2.2.2 rfl rfl rfl rfl rfl wd_X7_kind ⟨by rw [hr]; decide, by rw [hr]; decide⟩ (dec_X5_readTest (25, .invokevirtual 48, 3) (List.mem_of_getElem? (i := 15) rfl)),
    List.forall_mem_cons.mpr ⟨k_callV (cc := cX5_readTest) (C := RX5) hF hK hts gGood (C_X5_emit hE hT) wk_X5_emit.1 wk_X5_emit.2.1 wl_RX5_75 wk_X5_emit.2.2.1 wk_X5_emit.2.2.2 rfl rfl rfl rfl rfl wd_X5_emit ⟨by rw [hr]; decide, by rw [hr]; decide⟩ (dec_X5_readTest (45, .invokevirtual 75, 3) (List.mem_of_getElem? (i := 24) rfl)),
    List.forall_mem_cons.mpr ⟨k_callV (cc := cX5_readTest) (C := RX7) hF hK hts gGood (C_X7_pass hE hT) wk_X7_pass.1 wk_X7_pass.2.1 wl_RX5_55 wk_X7_pass.2.2.1 wk_X7_pass.2.2.2 rfl rfl rfl rfl rfl wd_X7_pass ⟨by rw [hr]; decide, by rw [hr]; decide⟩ (dec_X5_readTest (72, .invokevirtual 55, 3) (List.mem_of_getElem? (i := 37) rfl)),
    List.forall_mem_cons.mpr ⟨k_callV (cc := cX5_readTest) (C := RX5) hF hK hts gGood (C_X5_readFact_10 hE hT) wk_X5_readFact.1 wk_X5_readFact.2.1 wl_RX5_72 wk_X5_readFact.2.2.1 wk_X5_readFact.2.2.2 rfl rfl rfl rfl rfl wd_X5_readFact ⟨by rw [hr]; decide, by rw [hr]; decide⟩ (dec_X5_readTest (77, .invokevirtual 72, 3) (List.mem_of_getElem? (i := 40) rfl)),
    List.forall_mem_cons.mpr ⟨k_callV (cc := cX5_readTest) (C := RX5) hF hK hts gGood (C_X5_emit hE hT) wk_X5_emit.1 wk_X5_emit.2.1 wl_RX5_75 wk_X5_emit.2.2.1 wk_X5_emit.2.2.2 rfl rfl rfl rfl rfl wd_X5_emit ⟨by rw [hr]; decide, by rw [hr]; decide⟩ (dec_X5_readTest (96, .invokevirtual 75, 3) (List.mem_of_getElem? (i := 49) rfl)),
    List.forall_mem_nil _⟩⟩⟩⟩⟩⟩), hE, hT⟩) dec_X5_readTest chk_X5_readTest_10
theorem wl_RX5_42 : Jvm.Cond.methodLink RX5 42 yX5_readTest ∈ gTB := gIn (i := 814) (by decide +kernel) (by decide +kernel)
theorem wk_X5_readTest : Jvm.Cond.code yX5_readTest cX5_readTest 5 (k_rty 2) ∈ gTB ∧ Jvm.Cond.initialized yX5_readTest.cls ∈ gTB ∧ Jvm.Cond.instanceMethod yX5_readTest ∈ gTB ∧ Jvm.Cond.selects RX5 yX5_readTest yX5_readTest ∈ gTB := ⟨gIn (i := 817) (by decide +kernel) (by decide +kernel), gIn (i := 132) (by decide +kernel) (by decide +kernel), gIn (i := 816) (by decide +kernel) (by decide +kernel), gIn (i := 17) (by decide +kernel) (by decide +kernel)⟩
theorem wd_X5_readTest : yX5_readTest.cls ≠ "java/lang/invoke/MethodHandle" ∧ yX5_readTest.cls ≠ "java/lang/invoke/VarHandle" ∧ (parseMethodDescriptor yX5_readTest.desc).map (fun d => d.parameters.length) = some 1 := by decide +kernel
theorem C_X5_readFact_9 (hE : k_Eok (gE g tys B0 GI)) (hT : k_tys (gE g tys B0 GI)) : k_Met l (gE g tys B0 GI) τ gTB yX5_readFact cX5_readFact 3 2 K_X5_readFact_9 ⟨22, 0, 0, 733⟩ :=
  k_met (M := M_X5_readFact_9) (by decide +kernel) (fun X hl hr hF hts hK => ⟨gFLk5 hts, gCIk5 hts, gCJk5 hts, (show ∀ q ∈ ([(4, K_X7_kind), (22, K_X5_readComparison), (45, K_X7_pass), (59, K_X5_readFact_10), (70, K_X5_emit), (79, K_X5_readTest_10), (91, K_X7_kind), (104, K_X7_refuse), (112, K_X7_pass)] : List (Nat × kCtr)), k_call X (gE g tys B0 GI) 3 τ q.2 q.1 from List.forall_mem_cons.mpr ⟨k_callV (cc := cX5_readFact) (C := RX7) hF hK hts gGood (C_X7_kind hE hT) wk_X7_kind.1 wk_X7_kind.2.1 wl_RX5_48 wk_X7_kind.2.2.1 wk_X7_kind.2.2.2 rfl rfl rfl rfl rfl wd_X7_kind ⟨by rw [hr]; decide, by rw [hr]; decide⟩ (dec_X5_readFact (4, .invokevirtual 48, 3) (List.mem_of_getElem? (i := 2) rfl)),
    List.forall_mem_cons.mpr ⟨k_callV (cc := cX5_readFact) (C := RX5) hF hK hts gGood (C_X5_readComparison hE hT) wk_X5_readComparison.1 wk_X5_readComparison.2.1 wl_RX5_79 wk_X5_readComparison.2.2.1 wk_X5_readComparison.2.2.2 rfl rfl rfl rfl rfl wd_X5_readComparison ⟨by rw [hr]; decide, by rw [hr]; decide⟩ (dec_X5_readFact (22, .invokevirtual 79, 3) (List.mem_of_getElem? (i := 11) rfl)),
    List.forall_mem_cons.mpr ⟨k_callV (cc := cX5_readFact) (C := RX7) hF hK hts gGood (C_X7_pass hE hT) wk_X7_pass.1 wk_X7_pass.2.1 wl_RX5_55 wk_X7_pass.2.2.1 wk_X7_pass.2.2.2 rfl rfl rfl rfl rfl wd_X7_pass ⟨by rw [hr]; decide, by rw [hr]; decide⟩ (dec_X5_readFact (45, .invokevirtual 55, 3) (List.mem_of_getElem? (i := 23) rfl)),
    List.forall_mem_cons.mpr ⟨k_callV (cc := cX5_readFact) (C := RX5) hF hK hts gGood (C_X5_readFact_10 hE hT) wk_X5_readFact.1 wk_X5_readFact.2.1 wl_RX5_72 wk_X5_readFact.2.2.1 wk_X5_readFact.2.2.2 rfl rfl rfl rfl rfl wd_X5_readFact ⟨by rw [hr]; decide, by rw [hr]; decide⟩ (dec_X5_readFact (59, .invokevirtual 72, 3) (List.mem_of_getElem? (i := 31) rfl)),
    List.forall_mem_cons.mpr ⟨k_callV (cc := cX5_readFact) (C := RX5) hF hK hts gGood (C_X5_emit hE hT) wk_X5_emit.1 wk_X5_emit.2.1 wl_RX5_75 wk_X5_emit.2.2.1 wk_X5_emit.2.2.2 rfl rfl rfl rfl rfl wd_X5_emit ⟨by rw [hr]; decide, by rw [hr]; decide⟩ (dec_X5_readFact (70, .invokevirtual 75, 3) (List.mem_of_getElem? (i := 37) rfl)),
    List.forall_mem_cons.mpr ⟨k_callV (cc := cX5_readFact) (C := RX5) hF hK hts gGood (C_X5_readTest_10 hE hT) wk_X5_readTest.1 wk_X5_readTest.2.1 wl_RX5_42 wk_X5_readTest.2.2.1 wk_X5_readTest.2.2.2 rfl rfl rfl rfl rfl wd_X5_readTest ⟨by rw [hr]; decide, by rw [hr]; decide⟩ (dec_X5_readFact (79, .invokevirtual 42, 3) (List.mem_of_getElem? (i := 44) rfl)),
    List.forall_mem_cons.mpr ⟨k_callV (cc := cX5_readFact) (C := RX7) hF hK hts gGood (C_X7_kind hE hT) wk_X7_kind.1 wk_X7_kind.2.1 wl_RX5_48 wk_X7_kind.2.2.1 wk_X7_kind.2.2.2 rfl rfl rfl rfl rfl wd_X7_kind ⟨by rw [hr]; decide, by rw [hr]; decide⟩ (dec_X5_readFact (91, .invokevirtual 48, 3) (List.mem_of_getElem? (i := 50) rfl)),
    List.forall_mem_cons.mpr ⟨k_callV (cc := cX5_readFact) (C := RX7) hF hK hts gGood (C_X7_refuse hE hT) wk_X7_refuse.1 wk_X7_refuse.2.1 wl_RX5_52 wk_X7_refuse.2.2.1 wk_X7_refuse.2.2.2 rfl rfl rfl rfl rfl wd_X7_refuse ⟨by rw [hr]; decide, by rw [hr]; decide⟩ (dec_X5_readFact (104, .invokevirtual 52, 3) (List.mem_of_getElem? (i := 56) rfl)),
    List.forall_mem_cons.mpr ⟨k_callV (cc := cX5_readFact) (C := RX7) hF hK hts gGood (C_X7_pass hE hT) wk_X7_pass.1 wk_X7_pass.2.1 wl_RX5_55 wk_X7_pass.2.2.1 wk_X7_pass.2.2.2 rfl rfl rfl rfl rfl wd_X7_pass ⟨by rw [hr]; decide, by rw [hr]; decide⟩ (dec_X5_readFact (112, .invokevirtual 55, 3) (List.mem_of_getElem? (i := 60) rfl)),
    List.forall_mem_nil _⟩⟩⟩⟩⟩⟩⟩⟩⟩), hE, hT⟩) dec_X5_readFact chk_X5_readFact_9
theorem C_X5_readTest_9 (hE : k_Eok (gE g tys B0 GI)) (hT : k_tys (gE g tys B0 GI)) : k_Met l (gE g tys B0 GI) τ gTB yX5_readTest cX5_readTest 5 2 K_X5_readTest_9 ⟨23, 0, 0, 755⟩ :=
  k_met (M := M_X5_readTest_9) (by decide +kernel) (fun X hl hr hF hts hK => ⟨gFLk5 hts, gCIk5 hts, gCJk5 hts, (show ∀ q ∈ ([(4, K_X5_readFact_9), (25, K_X7_kind), (45, K_X5_emit), (72, K_X7_pass), (77, K_X5_readFact_9), (96, K_X5_emit)] : List (Nat × kCtr)), k_call X (gE g tys B0 GI) 5 τ q.2 q.1 from List.forall_mem_cons.mpr ⟨k_callV (cc := cX5_readTest) (C := RX5) hF hK hts gGood (C_X5_readFact_9 hE hT) wk_X5_readFact.1 wk_X5_readFact.2.1 wl_RX5_72 wk_X5_readFact.2.2.1 wk_X5_readFact.2.2.2 rfl rfl rfl rfl rfl wd_X5_readFact ⟨by rw [hr]; decide, by rw [hr]; decide⟩ (dec_X5_readTest (4, .invokevirtual 72, 3) (List.mem_of_getElem? (i := 4) rfl)),
    List.forall_mem_cons.mpr ⟨k_callV (cc := cX5_readTest) (C := RX7) hF hK hts gGood (C_X7_kind hE hT) wk_X7_kind.1 wk_X7_kind.2.1 wl_RX5_48 wk_X7_kind.2.2.1 wk_X7_kind.2.2.2 rfl rfl rfl rfl rfl wd_X7_kind ⟨by rw [hr]; decide, by rw [hr]; decide⟩ (dec_X5_readTest (25, .invokevirtual 48, 3) (List.mem_of_getElem? (i := 15) rfl)),
    List.forall_mem_cons.mpr ⟨k_callV (cc := cX5_readTest) (C := RX5) hF hK hts gGood (C_X5_emit hE hT) wk_X5_emit.1 wk_X5_emit.2.1 wl_RX5_75 wk_X5_emit.2.2.1 wk_X5_emit.2.2.2 rfl rfl rfl rfl rfl wd_X5_emit ⟨by rw [hr]; decide, by rw [hr]; decide⟩ (dec_X5_readTest (45, .invokevirtual 75, 3) (List.mem_of_getElem? (i := 24) rfl)),
    List.forall_mem_cons.mpr ⟨k_callV (cc := cX5_readTest) (C := RX7) hF hK hts gGood (C_X7_pass hE hT) wk_X7_pass.1 wk_X7_pass.2.1 wl_RX5_55 wk_X7_pass.2.2.1 wk_X7_pass.2.2.2 rfl rfl rfl rfl rfl wd_X7_pass ⟨by rw [hr]; decide, by rw [hr]; decide⟩ (dec_X5_readTest (72, .invokevirtual 55, 3) (List.mem_of_getElem? (i := 37) rfl)),
    List.forall_mem_cons.mpr ⟨k_callV (cc := cX5_readTest) (C := RX5) hF hK hts gGood (C_X5_readFact_9 hE hT) wk_X5_readFact.1 wk_X5_readFact.2.1 wl_RX5_72 wk_X5_readFact.2.2.1 wk_X5_readFact.2.2.2 rfl rfl rfl rfl rfl wd_X5_readFact ⟨by rw [hr]; decide, by rw [hr]; decide⟩ (dec_X5_readTest (77, .invokevirtual 72, 3) (List.mem_of_getElem? (i := 40) rfl)),
    List.forall_mem_cons.mpr ⟨k_callV (cc := cX5_readTest) (C := RX5) hF hK hts gGood (C_X5_emit hE hT) wk_X5_emit.1 wk_X5_emit.2.1 wl_RX5_75 wk_X5_emit.2.2.1 wk_X5_emit.2.2.2 rfl rfl rfl rfl rfl wd_X5_emit ⟨by rw [hr]; decide, by rw [hr]; decide⟩ (dec_X5_readTest (96, .invokevirtual 75, 3) (List.mem_of_getElem? (i := 49) rfl)),
    List.forall_mem_nil _⟩⟩⟩⟩⟩⟩), hE, hT⟩) dec_X5_readTest chk_X5_readTest_9
theorem C_X5_readFact_8 (hE : k_Eok (gE g tys B0 GI)) (hT : k_tys (gE g tys B0 GI)) : k_Met l (gE g tys B0 GI) τ gTB yX5_readFact cX5_readFact 3 2 K_X5_readFact_8 ⟨24, 0, 0, 779⟩ :=
  k_met (M := M_X5_readFact_8) (by decide +kernel) (fun X hl hr hF hts hK => ⟨gFLk5 hts, gCIk5 hts, gCJk5 hts, (show ∀ q ∈ ([(4, K_X7_kind), (22, K_X5_readComparison), (45, K_X7_pass), (59, K_X5_readFact_9), (70, K_X5_emit), (79, K_X5_readTest_9), (91, K_X7_kind), (104, K_X7_refuse), (112, K_X7_pass)] : List (Nat × kCtr)), k_call X (gE g tys B0 GI) 3 τ q.2 q.1 from List.forall_mem_cons.mpr ⟨k_callV (cc := cX5_readFact) (C := RX7) hF hK hts gGood (C_X7_kind hE hT) wk_X7_kind.1 wk_X7_kind.2.1 wl_RX5_48 wk_X7_kind.2.2.1 wk_X7_kind.2.2.2 rfl rfl rfl rfl rfl wd_X7_kind ⟨by rw [hr]; decide, by rw [hr]; decide⟩ (dec_X5_readFact (4, .invokevirtual 48, 3) (List.mem_of_getElem? (i := 2) rfl)),
    List.forall_mem_cons.mpr ⟨k_callV (cc := cX5_readFact) (C := RX5) hF hK hts gGood (C_X5_readComparison hE hT) wk_X5_readComparison.1 wk_X5_readComparison.2.1 wl_RX5_79 wk_X5_readComparison.2.2.1 wk_X5_readComparison.2.2.2 rfl rfl rfl rfl rfl wd_X5_readComparison ⟨by rw [hr]; decide, by rw [hr]; decide⟩ (dec_X5_readFact (22, .invokevirtual 79, 3) (List.mem_of_getElem? (i := 11) rfl)),
    List.forall_mem_cons.mpr ⟨k_callV (cc := cX5_readFact) (C := RX7) hF hK hts gGood (C_X7_pass hE hT) wk_X7_pass.1 wk_X7_pass.2.1 wl_RX5_55 wk_X7_pass.2.2.1 wk_X7_pass.2.2.2 rfl rfl rfl rfl rfl wd_X7_pass ⟨by rw [hr]; decide, by rw [hr]; decide⟩ (dec_X5_readFact (45, .invokevirtual 55, 3) (List.mem_of_getElem? (i := 23) rfl)),
    List.forall_mem_cons.mpr ⟨k_callV (cc := cX5_readFact) (C := RX5) hF hK hts gGood (C_X5_readFact_9 hE hT) wk_X5_readFact.1 wk_X5_readFact.2.1 wl_RX5_72 wk_X5_readFact.2.2.1 wk_X5_readFact.2.2.2 rfl rfl rfl rfl rfl wd_X5_readFact ⟨by rw [hr]; decide, by rw [hr]; decide⟩ (dec_X5_readFact (59, .invokevirtual 72, 3) (List.mem_of_getElem? (i := 31) rfl)),
    List.forall_mem_cons.mpr ⟨k_callV (cc := cX5_readFact) (C := RX5) hF hK hts gGood (C_X5_emit hE hT) wk_X5_emit.1 wk_X5_emit.2.1 wl_RX5_75 wk_X5_emit.2.2.1 wk_X5_emit.2.2.2 rfl rfl rfl rfl rfl wd_X5_emit ⟨by rw [hr]; decide, by rw [hr]; decide⟩ (dec_X5_readFact (70, .invokevirtual 75, 3) (List.mem_of_getElem? (i := 37) rfl)),
    List.forall_mem_cons.mpr ⟨k_callV (cc := cX5_readFact) (C := RX5) hF hK hts gGood (C_X5_readTest_9 hE hT) wk_X5_readTest.1 wk_X5_readTest.2.1 wl_RX5_42 wk_X5_readTest.2.2.1 wk_X5_readTest.2.2.2 rfl rfl rfl rfl rfl wd_X5_readTest ⟨by rw [hr]; decide, by rw [hr]; decide⟩ (dec_X5_readFact (79, .invokevirtual 42, 3) (List.mem_of_getElem? (i := 44) rfl)),
    List.forall_mem_cons.mpr ⟨k_callV (cc := cX5_readFact) (C := RX7) hF hK hts gGood (C_X7_kind hE hT) wk_X7_kind.1 wk_X7_kind.2.1 wl_RX5_48 wk_X7_kind.2.2.1 wk_X7_kind.2.2.2 rfl rfl rfl rfl rfl wd_X7_kind ⟨by rw [hr]; decide, by rw [hr]; decide⟩ (dec_X5_readFact (91, .invokevirtual 48, 3) (List.mem_of_getElem? (i := 50) rfl)),
    List.forall_mem_cons.mpr ⟨k_callV (cc := cX5_readFact) (C := RX7) hF hK hts gGood (C_X7_refuse hE hT) wk_X7_refuse.1 wk_X7_refuse.2.1 wl_RX5_52 wk_X7_refuse.2.2.1 wk_X7_refuse.2.2.2 rfl rfl rfl rfl rfl wd_X7_refuse ⟨by rw [hr]; decide, by rw [hr]; decide⟩ (dec_X5_readFact (104, .invokevirtual 52, 3) (List.mem_of_getElem? (i := 56) rfl)),
    List.forall_mem_cons.mpr ⟨k_callV (cc := cX5_readFact) (C := RX7) hF hK hts gGood (C_X7_pass hE hT) wk_X7_pass.1 wk_X7_pass.2.1 wl_RX5_55 wk_X7_pass.2.2.1 wk_X7_pass.2.2.2 rfl rfl rfl rfl rfl wd_X7_pass ⟨by rw [hr]; decide, by rw [hr]; decide⟩ (dec_X5_readFact (112, .invokevirtual 55, 3) (List.mem_of_getElem? (i := 60) rfl)),
    List.forall_mem_nil _⟩⟩⟩⟩⟩⟩⟩⟩⟩), hE, hT⟩) dec_X5_readFact chk_X5_readFact_8
theorem C_X5_readTest_8 (hE : k_Eok (gE g tys B0 GI)) (hT : k_tys (gE g tys B0 GI)) : k_Met l (gE g tys B0 GI) τ gTB yX5_readTest cX5_readTest 5 2 K_X5_readTest_8 ⟨25, 0, 0, 801⟩ :=
  k_met (M := M_X5_readTest_8) (by decide +kernel) (fun X hl hr hF hts hK => ⟨gFLk5 hts, gCIk5 hts, gCJk5 hts, (show ∀ q ∈ ([(4, K_X5_readFact_8), (25, K_X7_kind), (45, K_X5_emit), (72, K_X7_pass), (77, K_X5_readFact_8), (96, K_X5_emit)] : List (Nat × kCtr)), k_call X (gE g tys B0 GI) 5 τ q.2 q.1 from List.forall_mem_cons.mpr ⟨k_callV (cc := cX5_readTest) (C := RX5) hF hK hts gGood (C_X5_readFact_8 hE hT) wk_X5_readFact.1 wk_X5_readFact.2.1 wl_RX5_72 wk_X5_readFact.2.2.1 wk_X5_readFact.2.2.2 rfl rfl rfl rfl rfl wd_X5_readFact ⟨by rw [hr]; decide, by rw [hr]; decide⟩ (dec_X5_readTest (4, .invokevirtual 72, 3) (List.mem_of_getElem? (i := 4) rfl)),
    List.forall_mem_cons.mpr ⟨k_callV (cc := cX5_readTest) (C := RX7) hF hK hts gGood (C_X7_kind hE hT) wk_X7_kind.1 wk_X7_kind.2.1 wl_RX5_48 wk_X7_kind.2.2.1 wk_X7_kind.2.2.2 rfl rfl rfl rfl rfl wd_X7_kind ⟨by rw [hr]; decide, by rw [hr]; decide⟩ (dec_X5_readTest (25, .invokevirtual 48, 3) (List.mem_of_getElem? (i := 15) rfl)),
    List.forall_mem_cons.mpr ⟨k_callV (cc := cX5_readTest) (C := RX5) hF hK hts gGood (C_X5_emit hE hT) wk_X5_emit.1 wk_X5_emit.2.1 wl_RX5_75 wk_X5_emit.2.2.1 wk_X5_emit.2.2.2 rfl rfl rfl rfl rfl wd_X5_emit ⟨by rw [hr]; decide, by rw [hr]; decide⟩ (dec_X5_readTest (45, .invokevirtual 75, 3) (List.mem_of_getElem? (i := 24) rfl)),
    List.forall_mem_cons.mpr ⟨k_callV (cc := cX5_readTest) (C := RX7) hF hK hts gGood (C_X7_pass hE hT) wk_X7_pass.1 wk_X7_pass.2.1 wl_RX5_55 wk_X7_pass.2.2.1 wk_X7_pass.2.2.2 rfl rfl rfl rfl rfl wd_X7_pass ⟨by rw [hr]; decide, by rw [hr]; decide⟩ (dec_X5_readTest (72, .invokevirtual 55, 3) (List.mem_of_getElem? (i := 37) rfl)),
    List.forall_mem_cons.mpr ⟨k_callV (cc := cX5_readTest) (C := RX5) hF hK hts gGood (C_X5_readFact_8 hE hT) wk_X5_readFact.1 wk_X5_readFact.2.1 wl_RX5_72 wk_X5_readFact.2.2.1 wk_X5_readFact.2.2.2 rfl rfl rfl rfl rfl wd_X5_readFact ⟨by rw [hr]; decide, by rw [hr]; decide⟩ (dec_X5_readTest (77, .invokevirtual 72, 3) (List.mem_of_getElem? (i := 40) rfl)),
    List.forall_mem_cons.mpr ⟨k_callV (cc := cX5_readTest) (C := RX5) hF hK hts gGood (C_X5_emit hE hT) wk_X5_emit.1 wk_X5_emit.2.1 wl_RX5_75 wk_X5_emit.2.2.1 wk_X5_emit.2.2.2 rfl rfl rfl rfl rfl wd_X5_emit ⟨by rw [hr]; decide, by rw [hr]; decide⟩ (dec_X5_readTest (96, .invokevirtual 75, 3) (List.mem_of_getElem? (i := 49) rfl)),
    List.forall_mem_nil _⟩⟩⟩⟩⟩⟩), hE, hT⟩) dec_X5_readTest chk_X5_readTest_8
theorem C_X5_readFact_7 (hE : k_Eok (gE g tys B0 GI)) (hT : k_tys (gE g tys B0 GI)) : k_Met l (gE g tys B0 GI) τ gTB yX5_readFact cX5_readFact 3 2 K_X5_readFact_7 ⟨26, 0, 0, 825⟩ :=
  k_met (M := M_X5_readFact_7) (by decide +kernel) (fun X hl hr hF hts hK => ⟨gFLk5 hts, gCIk5 hts, gCJk5 hts, (show ∀ q ∈ ([(4, K_X7_kind), (22, K_X5_readComparison), (45, K_X7_pass), (59, K_X5_readFact_8), (70, K_X5_emit), (79, K_X5_readTest_8), (91, K_X7_kind), (104, K_X7_refuse), (112, K_X7_pass)] : List (Nat × kCtr)), k_call X (gE g tys B0 GI) 3 τ q.2 q.1 from List.forall_mem_cons.mpr ⟨k_callV (cc := cX5_readFact) (C := RX7) hF hK hts gGood (C_X7_kind hE hT) wk_X7_kind.1 wk_X7_kind.2.1 wl_RX5_48 wk_X7_kind.2.2.1 wk_X7_kind.2.2.2 rfl rfl rfl rfl rfl wd_X7_kind ⟨by rw [hr]; decide, by rw [hr]; decide⟩ (dec_X5_readFact (4, .invokevirtual 48, 3) (List.mem_of_getElem? (i := 2) rfl)),
    List.forall_mem_cons.mpr ⟨k_callV (cc := cX5_readFact) (C := RX5) hF hK hts gGood (C_X5_readComparison hE hT) wk_X5_readComparison.1 wk_X5_readComparison.2.1 wl_RX5_79 wk_X5_readComparison.2.2.1 wk_X5_readComparison.2.2.2 rfl rfl rfl rfl rfl wd_X5_readComparison ⟨by rw [hr]; decide, by rw [hr]; decide⟩ (dec_X5_readFact (22, .invokevirtual 79, 3) (List.mem_of_getElem? (i := 11) rfl)),
    List.forall_mem_cons.mpr ⟨k_callV (cc := cX5_readFact) (C := RX7) hF hK hts gGood (C_X7_pass hE hT) wk_X7_pass.1 wk_X7_pass.2.1 wl_RX5_55 wk_X7_pass.2.2.1 wk_X7_pass.2.2.2 rfl rfl rfl rfl rfl wd_X7_pass ⟨by rw [hr]; decide, by rw [hr]; decide⟩ (dec_X5_readFact (45, .invokevirtual 55, 3) (List.mem_of_getElem? (i := 23) rfl)),
    List.forall_mem_cons.mpr ⟨k_callV (cc := cX5_readFact) (C := RX5) hF hK hts gGood (C_X5_readFact_8 hE hT) wk_X5_readFact.1 wk_X5_readFact.2.1 wl_RX5_72 wk_X5_readFact.2.2.1 wk_X5_readFact.2.2.2 rfl rfl rfl rfl rfl wd_X5_readFact ⟨by rw [hr]; decide, by rw [hr]; decide⟩ (dec_X5_readFact (59, .invokevirtual 72, 3) (List.mem_of_getElem? (i := 31) rfl)),
    List.forall_mem_cons.mpr ⟨k_callV (cc := cX5_readFact) (C := RX5) hF hK hts gGood (C_X5_emit hE hT) wk_X5_emit.1 wk_X5_emit.2.1 wl_RX5_75 wk_X5_emit.2.2.1 wk_X5_emit.2.2.2 rfl rfl rfl rfl rfl wd_X5_emit ⟨by rw [hr]; decide, by rw [hr]; decide⟩ (dec_X5_readFact (70, .invokevirtual 75, 3) (List.mem_of_getElem? (i := 37) rfl)),
    List.forall_mem_cons.mpr ⟨k_callV (cc := cX5_readFact) (C := RX5) hF hK hts gGood (C_X5_readTest_8 hE hT) wk_X5_readTest.1 wk_X5_readTest.2.1 wl_RX5_42 wk_X5_readTest.2.2.1 wk_X5_readTest.2.2.2 rfl rfl rfl rfl rfl wd_X5_readTest ⟨by rw [hr]; decide, by rw [hr]; decide⟩ (dec_X5_readFact (79, .invokevirtual 42, 3) (List.mem_of_getElem? (i := 44) rfl)),
    List.forall_mem_cons.mpr ⟨k_callV (cc := cX5_readFact) (C := RX7) hF hK hts gGood (C_X7_kind hE hT) wk_X7_kind.1 wk_X7_kind.2.1 wl_RX5_48 wk_X7_kind.2.2.1 wk_X7_kind.2.2.2 rfl rfl rfl rfl rfl wd_X7_kind ⟨by rw [hr]; decide, by rw [hr]; decide⟩ (dec_X5_readFact (91, .invokevirtual 48, 3) (List.mem_of_getElem? (i := 50) rfl)),
    List.forall_mem_cons.mpr ⟨k_callV (cc := cX5_readFact) (C := RX7) hF hK hts gGood (C_X7_refuse hE hT) wk_X7_refuse.1 wk_X7_refuse.2.1 wl_RX5_52 wk_X7_refuse.2.2.1 wk_X7_refuse.2.2.2 rfl rfl rfl rfl rfl wd_X7_refuse ⟨by rw [hr]; decide, by rw [hr]; decide⟩ (dec_X5_readFact (104, .invokevirtual 52, 3) (List.mem_of_getElem? (i := 56) rfl)),
    List.forall_mem_cons.mpr ⟨k_callV (cc := cX5_readFact) (C := RX7) hF hK hts gGood (C_X7_pass hE hT) wk_X7_pass.1 wk_X7_pass.2.1 wl_RX5_55 wk_X7_pass.2.2.1 wk_X7_pass.2.2.2 rfl rfl rfl rfl rfl wd_X7_pass ⟨by rw [hr]; decide, by rw [hr]; decide⟩ (dec_X5_readFact (112, .invokevirtual 55, 3) (List.mem_of_getElem? (i := 60) rfl)),
    List.forall_mem_nil _⟩⟩⟩⟩⟩⟩⟩⟩⟩), hE, hT⟩) dec_X5_readFact chk_X5_readFact_7
theorem C_X5_readTest_7 (hE : k_Eok (gE g tys B0 GI)) (hT : k_tys (gE g tys B0 GI)) : k_Met l (gE g tys B0 GI) τ gTB yX5_readTest cX5_readTest 5 2 K_X5_readTest_7 ⟨27, 0, 0, 847⟩ :=
  k_met (M := M_X5_readTest_7) (by decide +kernel) (fun X hl hr hF hts hK => ⟨gFLk5 hts, gCIk5 hts, gCJk5 hts, (show ∀ q ∈ ([(4, K_X5_readFact_7), (25, K_X7_kind), (45, K_X5_emit), (72, K_X7_pass), (77, K_X5_readFact_7), (96, K_X5_emit)] : List (Nat × kCtr)), k_call X (gE g tys B0 GI) 5 τ q.2 q.1 from List.forall_mem_cons.mpr ⟨k_callV (cc := cX5_readTest) (C := RX5) hF hK hts gGood (C_X5_readFact_7 hE hT) wk_X5_readFact.1 wk_X5_readFact.2.1 wl_RX5_72 wk_X5_readFact.2.2.1 wk_X5_readFact.2.2.2 rfl rfl rfl rfl rfl wd_X5_readFact ⟨by rw [hr]; decide, by rw [hr]; decide⟩ (dec_X5_readTest (4, .invokevirtual 72, 3) (List.mem_of_getElem? (i := 4) rfl)),
    List.forall_mem_cons.mpr ⟨k_callV (cc := cX5_readTest) (C := RX7) hF hK hts gGood (C_X7_kind hE hT) wk_X7_kind.1 wk_X7_kind.2.1 wl_RX5_48 wk_X7_kind.2.2.1 wk_X7_kind.2.2.2 rfl rfl rfl rfl rfl wd_X7_kind ⟨by rw [hr]; decide, by rw [hr]; decide⟩ (dec_X5_readTest (25, .invokevirtual 48, 3) (List.mem_of_getElem? (i := 15) rfl)),
    List.forall_mem_cons.mpr ⟨k_callV (cc := cX5_readTest) (C := RX5) hF hK hts gGood (C_X5_emit hE hT) wk_X5_emit.1 wk_X5_emit.2.1 wl_RX5_75 wk_X5_emit.2.2.1 wk_X5_emit.2.2.2 rfl rfl rfl rfl rfl wd_X5_emit ⟨by rw [hr]; decide, by rw [hr]; decide⟩ (dec_X5_readTest (45, .invokevirtual 75, 3) (List.mem_of_getElem? (i := 24) rfl)),
    List.forall_mem_cons.mpr ⟨k_callV (cc := cX5_readTest) (C := RX7) hF hK hts gGood (C_X7_pass hE hT) wk_X7_pass.1 wk_X7_pass.2.1 wl_RX5_55 wk_X7_pass.2.2.1 wk_X7_pass.2.2.2 rfl rfl rfl rfl rfl wd_X7_pass ⟨by rw [hr]; decide, by rw [hr]; decide⟩ (dec_X5_readTest (72, .invokevirtual 55, 3) (List.mem_of_getElem? (i := 37) rfl)),
    List.forall_mem_cons.mpr ⟨k_callV (cc := cX5_readTest) (C := RX5) hF hK hts gGood (C_X5_readFact_7 hE hT) wk_X5_readFact.1 wk_X5_readFact.2.1 wl_RX5_72 wk_X5_readFact.2.2.1 wk_X5_readFact.2.2.2 rfl rfl rfl rfl rfl wd_X5_readFact ⟨by rw [hr]; decide, by rw [hr]; decide⟩ (dec_X5_readTest (77, .invokevirtual 72, 3) (List.mem_of_getElem? (i := 40) rfl)),
    List.forall_mem_cons.mpr ⟨k_callV (cc := cX5_readTest) (C := RX5) hF hK hts gGood (C_X5_emit hE hT) wk_X5_emit.1 wk_X5_emit.2.1 wl_RX5_75 wk_X5_emit.2.2.1 wk_X5_emit.2.2.2 rfl rfl rfl rfl rfl wd_X5_emit ⟨by rw [hr]; decide, by rw [hr]; decide⟩ (dec_X5_readTest (96, .invokevirtual 75, 3) (List.mem_of_getElem? (i := 49) rfl)),
    List.forall_mem_nil _⟩⟩⟩⟩⟩⟩), hE, hT⟩) dec_X5_readTest chk_X5_readTest_7
theorem C_X5_readFact_6 (hE : k_Eok (gE g tys B0 GI)) (hT : k_tys (gE g tys B0 GI)) : k_Met l (gE g tys B0 GI) τ gTB yX5_readFact cX5_readFact 3 2 K_X5_readFact_6 ⟨28, 0, 0, 871⟩ :=
  k_met (M := M_X5_readFact_6) (by decide +kernel) (fun X hl hr hF hts hK => ⟨gFLk5 hts, gCIk5 hts, gCJk5 hts, (show ∀ q ∈ ([(4, K_X7_kind), (22, K_X5_readComparison), (45, K_X7_pass), (59, K_X5_readFact_7), (70, K_X5_emit), (79, K_X5_readTest_7), (91, K_X7_kind), (104, K_X7_refuse), (112, K_X7_pass)] : List (Nat × kCtr)), k_call X (gE g tys B0 GI) 3 τ q.2 q.1 from List.forall_mem_cons.mpr ⟨k_callV (cc := cX5_readFact) (C := RX7) hF hK hts gGood (C_X7_kind hE hT) wk_X7_kind.1 wk_X7_kind.2.1 wl_RX5_48 wk_X7_kind.2.2.1 wk_X7_kind.2.2.2 rfl rfl rfl rfl rfl wd_X7_kind ⟨by rw [hr]; decide, by rw [hr]; decide⟩ (dec_X5_readFact (4, .invokevirtual 48, 3) (List.mem_of_getElem? (i := 2) rfl)),
    List.forall_mem_cons.mpr ⟨k_callV (cc := cX5_readFact) (C := RX5) hF hK hts gGood (C_X5_readComparison hE hT) wk_X5_readComparison.1 wk_X5_readComparison.2.1 wl_RX5_79 wk_X5_readComparison.2.2.1 wk_X5_readComparison.2.2.2 rfl rfl rfl rfl rfl wd_X5_readComparison ⟨by rw [hr]; decide, by rw [hr]; decide⟩ (dec_X5_readFact (22, .invokevirtual 79, 3) (List.mem_of_getElem? (i := 11) rfl)),
    List.forall_mem_cons.mpr ⟨k_callV (cc := cX5_readFact) (C := RX7) hF hK hts gGood (C_X7_pass hE hT) wk_X7_pass.1 wk_X7_pass.2.1 wl_RX5_55 wk_X7_pass.2.2.1 wk_X7_pass.2.2.2 rfl rfl rfl rfl rfl wd_X7_pass ⟨by rw [hr]; decide, by rw [hr]; decide⟩ (dec_X5_readFact (45, .invokevirtual 55, 3) (List.mem_of_getElem? (i := 23) rfl)),
    List.forall_mem_cons.mpr ⟨k_callV (cc := cX5_readFact) (C := RX5) hF hK hts gGood (C_X5_readFact_7 hE hT) wk_X5_readFact.1 wk_X5_readFact.2.1 wl_RX5_72 wk_X5_readFact.2.2.1 wk_X5_readFact.2.2.2 rfl rfl rfl rfl rfl wd_X5_readFact ⟨by rw [hr]; decide, by rw [hr]; decide⟩ (dec_X5_readFact (59, .invokevirtual 72, 3) (List.mem_of_getElem? (i := 31) rfl)),
    List.forall_mem_cons.mpr ⟨k_callV (cc := cX5_readFact) (C := RX5) hF hK hts gGood (C_X5_emit hE hT) wk_X5_emit.1 wk_X5_emit.2.1 wl_RX5_75 wk_X5_emit.2.2.1 wk_X5_emit.2.2.2 rfl rfl rfl rfl rfl wd_X5_emit ⟨by rw [hr]; decide, by rw [hr]; decide⟩ (dec_X5_readFact (70, .invokevirtual 75, 3) (List.mem_of_getElem? (i := 37) rfl)),
    List.forall_mem_cons.mpr ⟨k_callV (cc := cX5_readFact) (C := RX5) hF hK hts gGood (C_X5_readTest_7 hE hT) wk_X5_readTest.1 wk_X5_readTest.2.1 wl_RX5_42 wk_X5_readTest.2.2.1 wk_X5_readTest.2.2.2 rfl rfl rfl rfl rfl wd_X5_readTest ⟨by rw [hr]; decide, by rw [hr]; decide⟩ (dec_X5_readFact (79, .invokevirtual 42, 3) (List.mem_of_getElem? (i := 44) rfl)),
    List.forall_mem_cons.mpr ⟨k_callV (cc := cX5_readFact) (C := RX7) hF hK hts gGood (C_X7_kind hE hT) wk_X7_kind.1 wk_X7_kind.2.1 wl_RX5_48 wk_X7_kind.2.2.1 wk_X7_kind.2.2.2 rfl rfl rfl rfl rfl wd_X7_kind ⟨by rw [hr]; decide, by rw [hr]; decide⟩ (dec_X5_readFact (91, .invokevirtual 48, 3) (List.mem_of_getElem? (i := 50) rfl)),
    List.forall_mem_cons.mpr ⟨k_callV (cc := cX5_readFact) (C := RX7) hF hK hts gGood (C_X7_refuse hE hT) wk_X7_refuse.1 wk_X7_refuse.2.1 wl_RX5_52 wk_X7_refuse.2.2.1 wk_X7_refuse.2.2.2 rfl rfl rfl rfl rfl wd_X7_refuse ⟨by rw [hr]; decide, by rw [hr]; decide⟩ (dec_X5_readFact (104, .invokevirtual 52, 3) (List.mem_of_getElem? (i := 56) rfl)),
    List.forall_mem_cons.mpr ⟨k_callV (cc := cX5_readFact) (C := RX7) hF hK hts gGood (C_X7_pass hE hT) wk_X7_pass.1 wk_X7_pass.2.1 wl_RX5_55 wk_X7_pass.2.2.1 wk_X7_pass.2.2.2 rfl rfl rfl rfl rfl wd_X7_pass ⟨by rw [hr]; decide, by rw [hr]; decide⟩ (dec_X5_readFact (112, .invokevirtual 55, 3) (List.mem_of_getElem? (i := 60) rfl)),
    List.forall_mem_nil _⟩⟩⟩⟩⟩⟩⟩⟩⟩), hE, hT⟩) dec_X5_readFact chk_X5_readFact_6
theorem C_X5_readTest_6 (hE : k_Eok (gE g tys B0 GI)) (hT : k_tys (gE g tys B0 GI)) : k_Met l (gE g tys B0 GI) τ gTB yX5_readTest cX5_readTest 5 2 K_X5_readTest_6 ⟨29, 0, 0, 893⟩ :=
  k_met (M := M_X5_readTest_6) (by decide +kernel) (fun X hl hr hF hts hK => ⟨gFLk5 hts, gCIk5 hts, gCJk5 hts, (show ∀ q ∈ ([(4, K_X5_readFact_6), (25, K_X7_kind), (45, K_X5_emit), (72, K_X7_pass), (77, K_X5_readFact_6), (96, K_X5_emit)] : List (Nat × kCtr)), k_call X (gE g tys B0 GI) 5 τ q.2 q.1 from List.forall_mem_cons.mpr ⟨k_callV (cc := cX5_readTest) (C := RX5) hF hK hts gGood (C_X5_readFact_6 hE hT) wk_X5_readFact.1 wk_X5_readFact.2.1 wl_RX5_72 wk_X5_readFact.2.2.1 wk_X5_readFact.2.2.2 rfl rfl rfl rfl rfl wd_X5_readFact ⟨by rw [hr]; decide, by rw [hr]; decide⟩ (dec_X5_readTest (4, .invokevirtual 72, 3) (List.mem_of_getElem? (i := 4) rfl)),
    List.forall_mem_cons.mpr ⟨k_callV (cc := cX5_readTest) (C := RX7) hF hK hts gGood (C_X7_kind hE hT) wk_X7_kind.1 wk_X7_kind.2.1 wl_RX5_48 wk_X7_kind.2.2.1 wk_X7_kind.2.2.2 rfl rfl rfl rfl rfl wd_X7_kind ⟨by rw [hr]; decide, by rw [hr]; decide⟩ (dec_X5_readTest (25, .invokevirtual 48, 3) (List.mem_of_getElem? (i := 15) rfl)),
    List.forall_mem_cons.mpr ⟨k_callV (cc := cX5_readTest) (C := RX5) hF hK hts gGood (C_X5_emit hE hT) wk_X5_emit.1 wk_X5_emit.2.1 wl_RX5_75 wk_X5_emit.2.2.1 wk_X5_emit.2.2.2 rfl rfl rfl rfl rfl wd_X5_emit ⟨by rw [hr]; decide, by rw [hr]; decide⟩ (dec_X5_readTest (45, .invokevirtual 75, 3) (List.mem_of_getElem? (i := 24) rfl)),
    List.forall_mem_cons.mpr ⟨k_callV (cc := cX5_readTest) (C := RX7) hF hK hts gGood (C_X7_pass hE hT) wk_X7_pass.1 wk_X7_pass.2.1 wl_RX5_55 wk_X7_pass.2.2.1 wk_X7_pass.2.2.2 rfl rfl rfl rfl rfl wd_X7_pass ⟨by rw [hr]; decide, by rw [hr]; decide⟩ (dec_X5_readTest (72, .invokevirtual 55, 3) (List.mem_of_getElem? (i := 37) rfl)),
    List.forall_mem_cons.mpr ⟨k_callV (cc := cX5_readTest) (C := RX5) hF hK hts gGood (C_X5_readFact_6 hE hT) wk_X5_readFact.1 wk_X5_readFact.2.1 wl_RX5_72 wk_X5_readFact.2.2.1 wk_X5_readFact.2.2.2 rfl rfl rfl rfl rfl wd_X5_readFact ⟨by rw [hr]; decide, by rw [hr]; decide⟩ (dec_X5_readTest (77, .invokevirtual 72, 3) (List.mem_of_getElem? (i := 40) rfl)),
    List.forall_mem_cons.mpr ⟨k_callV (cc := cX5_readTest) (C := RX5) hF hK hts gGood (C_X5_emit hE hT) wk_X5_emit.1 wk_X5_emit.2.1 wl_RX5_75 wk_X5_emit.2.2.1 wk_X5_emit.2.2.2 rfl rfl rfl rfl rfl wd_X5_emit ⟨by rw [hr]; decide, by rw [hr]; decide⟩ (dec_X5_readTest (96, .invokevirtual 75, 3) (List.mem_of_getElem? (i := 49) rfl)),
    List.forall_mem_nil _⟩⟩⟩⟩⟩⟩), hE, hT⟩) dec_X5_readTest chk_X5_readTest_6
theorem C_X5_readFact_5 (hE : k_Eok (gE g tys B0 GI)) (hT : k_tys (gE g tys B0 GI)) : k_Met l (gE g tys B0 GI) τ gTB yX5_readFact cX5_readFact 3 2 K_X5_readFact_5 ⟨30, 0, 0, 917⟩ :=
  k_met (M := M_X5_readFact_5) (by decide +kernel) (fun X hl hr hF hts hK => ⟨gFLk5 hts, gCIk5 hts, gCJk5 hts, (show ∀ q ∈ ([(4, K_X7_kind), (22, K_X5_readComparison), (45, K_X7_pass), (59, K_X5_readFact_6), (70, K_X5_emit), (79, K_X5_readTest_6), (91, K_X7_kind), (104, K_X7_refuse), (112, K_X7_pass)] : List (Nat × kCtr)), k_call X (gE g tys B0 GI) 3 τ q.2 q.1 from List.forall_mem_cons.mpr ⟨k_callV (cc := cX5_readFact) (C := RX7) hF hK hts gGood (C_X7_kind hE hT) wk_X7_kind.1 wk_X7_kind.2.1 wl_RX5_48 wk_X7_kind.2.2.1 wk_X7_kind.2.2.2 rfl rfl rfl rfl rfl wd_X7_kind ⟨by rw [hr]; decide, by rw [hr]; decide⟩ (dec_X5_readFact (4, .invokevirtual 48, 3) (List.mem_of_getElem? (i := 2) rfl)),
    List.forall_mem_cons.mpr ⟨k_callV (cc := cX5_readFact) (C := RX5) hF hK hts gGood (C_X5_readComparison hE hT) wk_X5_readComparison.1 wk_X5_readComparison.2.1 wl_RX5_79 wk_X5_readComparison.2.2.1 wk_X5_readComparison.2.2.2 rfl rfl rfl rfl rfl wd_X5_readComparison ⟨by rw [hr]; decide, by rw [hr]; decide⟩ (dec_X5_readFact (22, .invokevirtual 79, 3) (List.mem_of_getElem? (i := 11) rfl)),
    List.forall_mem_cons.mpr ⟨k_callV (cc := cX5_readFact) (C := RX7) hF hK hts gGood (C_X7_pass hE hT) wk_X7_pass.1 wk_X7_pass.2.1 wl_RX5_55 wk_X7_pass.2.2.1 wk_X7_pass.2.2.2 rfl rfl rfl rfl rfl wd_X7_pass ⟨by rw [hr]; decide, by rw [hr]; decide⟩ (dec_X5_readFact (45, .invokevirtual 55, 3) (List.mem_of_getElem? (i := 23) rfl)),
    List.forall_mem_cons.mpr ⟨k_callV (cc := cX5_readFact) (C := RX5) hF hK hts gGood (C_X5_readFact_6 hE hT) wk_X5_readFact.1 wk_X5_readFact.2.1 wl_RX5_72 wk_X5_readFact.2.2.1 wk_X5_readFact.2.2.2 rfl rfl rfl rfl rfl wd_X5_readFact ⟨by rw [hr]; decide, by rw [hr]; decide⟩ (dec_X5_readFact (59, .invokevirtual 72, 3) (List.mem_of_getElem? (i := 31) rfl)),
    List.forall_mem_cons.mpr ⟨k_callV (cc := cX5_readFact) (C := RX5) hF hK hts gGood (C_X5_emit hE hT) wk_X5_emit.1 wk_X5_emit.2.1 wl_RX5_75 wk_X5_emit.2.2.1 wk_X5_emit.2.2.2 rfl rfl rfl rfl rfl wd_X5_emit ⟨by rw [hr]; decide, by rw [hr]; decide⟩ (dec_X5_readFact (70, .invokevirtual 75, 3) (List.mem_of_getElem? (i := 37) rfl)),
    List.forall_mem_cons.mpr ⟨k_callV (cc := cX5_readFact) (C := RX5) hF hK hts gGood (C_X5_readTest_6 hE hT) wk_X5_readTest.1 wk_X5_readTest.2.1 wl_RX5_42 wk_X5_readTest.2.2.1 wk_X5_readTest.2.2.2 rfl rfl rfl rfl rfl wd_X5_readTest ⟨by rw [hr]; decide, by rw [hr]; decide⟩ (dec_X5_readFact (79, .invokevirtual 42, 3) (List.mem_of_getElem? (i := 44) rfl)),
    List.forall_mem_cons.mpr ⟨k_callV (cc := cX5_readFact) (C := RX7) hF hK hts gGood (C_X7_kind hE hT) wk_X7_kind.1 wk_X7_kind.2.1 wl_RX5_48 wk_X7_kind.2.2.1 wk_X7_kind.2.2.2 rfl rfl rfl rfl rfl wd_X7_kind ⟨by rw [hr]; decide, by rw [hr]; decide⟩ (dec_X5_readFact (91, .invokevirtual 48, 3) (List.mem_of_getElem? (i := 50) rfl)),
    List.forall_mem_cons.mpr ⟨k_callV (cc := cX5_readFact) (C := RX7) hF hK hts gGood (C_X7_refuse hE hT) wk_X7_refuse.1 wk_X7_refuse.2.1 wl_RX5_52 wk_X7_refuse.2.2.1 wk_X7_refuse.2.2.2 rfl rfl rfl rfl rfl wd_X7_refuse ⟨by rw [hr]; decide, by rw [hr]; decide⟩ (dec_X5_readFact (104, .invokevirtual 52, 3) (List.mem_of_getElem? (i := 56) rfl)),
    List.forall_mem_cons.mpr ⟨k_callV (cc := cX5_readFact) (C := RX7) hF hK hts gGood (C_X7_pass hE hT) wk_X7_pass.1 wk_X7_pass.2.1 wl_RX5_55 wk_X7_pass.2.2.1 wk_X7_pass.2.2.2 rfl rfl rfl rfl rfl wd_X7_pass ⟨by rw [hr]; decide, by rw [hr]; decide⟩ (dec_X5_readFact (112, .invokevirtual 55, 3) (List.mem_of_getElem? (i := 60) rfl)),
    List.forall_mem_nil _⟩⟩⟩⟩⟩⟩⟩⟩⟩), hE, hT⟩) dec_X5_readFact chk_X5_readFact_5
theorem C_X5_readTest_5 (hE : k_Eok (gE g tys B0 GI)) (hT : k_tys (gE g tys B0 GI)) : k_Met l (gE g tys B0 GI) τ gTB yX5_readTest cX5_readTest 5 2 K_X5_readTest_5 ⟨31, 0, 0, 939⟩ :=
  k_met (M := M_X5_readTest_5) (by decide +kernel) (fun X hl hr hF hts hK => ⟨gFLk5 hts, gCIk5 hts, gCJk5 hts, (show ∀ q ∈ ([(4, K_X5_readFact_5), (25, K_X7_kind), (45, K_X5_emit), (72, K_X7_pass), (77, K_X5_readFact_5), (96, K_X5_emit)] : List (Nat × kCtr)), k_call X (gE g tys B0 GI) 5 τ q.2 q.1 from List.forall_mem_cons.mpr ⟨k_callV (cc := cX5_readTest) (C := RX5) hF hK hts gGood (C_X5_readFact_5 hE hT) wk_X5_readFact.1 wk_X5_readFact.2.1 wl_RX5_72 wk_X5_readFact.2.2.1 wk_X5_readFact.2.2.2 rfl rfl rfl rfl rfl wd_X5_readFact ⟨by rw [hr]; decide, by rw [hr]; decide⟩ (dec_X5_readTest (4, .invokevirtual 72, 3) (List.mem_of_getElem? (i := 4) rfl)),
    List.forall_mem_cons.mpr ⟨k_callV (cc := cX5_readTest) (C := RX7) hF hK hts gGood (C_X7_kind hE hT) wk_X7_kind.1 wk_X7_kind.2.1 wl_RX5_48 wk_X7_kind.2.2.1 wk_X7_kind.2.2.2 rfl rfl rfl rfl rfl wd_X7_kind ⟨by rw [hr]; decide, by rw [hr]; decide⟩ (dec_X5_readTest (25, .invokevirtual 48, 3) (List.mem_of_getElem? (i := 15) rfl)),
    List.forall_mem_cons.mpr ⟨k_callV (cc := cX5_readTest) (C := RX5) hF hK hts gGood (C_X5_emit hE hT) wk_X5_emit.1 wk_X5_emit.2.1 wl_RX5_75 wk_X5_emit.2.2.1 wk_X5_emit.2.2.2 rfl rfl rfl rfl rfl wd_X5_emit ⟨by rw [hr]; decide, by rw [hr]; decide⟩ (dec_X5_readTest (45, .invokevirtual 75, 3) (List.mem_of_getElem? (i := 24) rfl)),
    List.forall_mem_cons.mpr ⟨k_callV (cc := cX5_readTest) (C := RX7) hF hK hts gGood (C_X7_pass hE hT) wk_X7_pass.1 wk_X7_pass.2.1 wl_RX5_55 wk_X7_pass.2.2.1 wk_X7_pass.2.2.2 rfl rfl rfl rfl rfl wd_X7_pass ⟨by rw [hr]; decide, by rw [hr]; decide⟩ (dec_X5_readTest (72, .invokevirtual 55, 3) (List.mem_of_getElem? (i := 37) rfl)),
    List.forall_mem_cons.mpr ⟨k_callV (cc := cX5_readTest) (C := RX5) hF hK hts gGood (C_X5_readFact_5 hE hT) wk_X5_readFact.1 wk_X5_readFact.2.1 wl_RX5_72 wk_X5_readFact.2.2.1 wk_X5_readFact.2.2.2 rfl rfl rfl rfl rfl wd_X5_readFact ⟨by rw [hr]; decide, by rw [hr]; decide⟩ (dec_X5_readTest (77, .invokevirtual 72, 3) (List.mem_of_getElem? (i := 40) rfl)),
    List.forall_mem_cons.mpr ⟨k_callV (cc := cX5_readTest) (C := RX5) hF hK hts gGood (C_X5_emit hE hT) wk_X5_emit.1 wk_X5_emit.2.1 wl_RX5_75 wk_X5_emit.2.2.1 wk_X5_emit.2.2.2 rfl rfl rfl rfl rfl wd_X5_emit ⟨by rw [hr]; decide, by rw [hr]; decide⟩ (dec_X5_readTest (96, .invokevirtual 75, 3) (List.mem_of_getElem? (i := 49) rfl)),
    List.forall_mem_nil _⟩⟩⟩⟩⟩⟩), hE, hT⟩) dec_X5_readTest chk_X5_readTest_5
theorem C_X5_readFact_4 (hE : k_Eok (gE g tys B0 GI)) (hT : k_tys (gE g tys B0 GI)) : k_Met l (gE g tys B0 GI) τ gTB yX5_readFact cX5_readFact 3 2 K_X5_readFact_4 ⟨32, 0, 0, 963⟩ :=
  k_met (M := M_X5_readFact_4) (by decide +kernel) (fun X hl hr hF hts hK => ⟨gFLk5 hts, gCIk5 hts, gCJk5 hts, (show ∀ q ∈ ([(4, K_X7_kind), (22, K_X5_readComparison), (45, K_X7_pass), (59, K_X5_readFact_5), (70, K_X5_emit), (79, K_X5_readTest_5), (91, K_X7_kind), (104, K_X7_refuse), (112, K_X7_pass)] : List (Nat × kCtr)), k_call X (gE g tys B0 GI) 3 τ q.2 q.1 from List.forall_mem_cons.mpr ⟨k_callV (cc := cX5_readFact) (C := RX7) hF hK hts gGood (C_X7_kind hE hT) wk_X7_kind.1 wk_X7_kind.2.1 wl_RX5_48 wk_X7_kind.2.2.1 wk_X7_kind.2.2.2 rfl rfl rfl rfl rfl wd_X7_kind ⟨by rw [hr]; decide, by rw [hr]; decide⟩ (dec_X5_readFact (4, .invokevirtual 48, 3) (List.mem_of_getElem? (i := 2) rfl)),
    List.forall_mem_cons.mpr ⟨k_callV (cc := cX5_readFact) (C := RX5) hF hK hts gGood (C_X5_readComparison hE hT) wk_X5_readComparison.1 wk_X5_readComparison.2.1 wl_RX5_79 wk_X5_readComparison.2.2.1 wk_X5_readComparison.2.2.2 rfl rfl rfl rfl rfl wd_X5_readComparison ⟨by rw [hr]; decide, by rw [hr]; decide⟩ (dec_X5_readFact (22, .invokevirtual 79, 3) (List.mem_of_getElem? (i := 11) rfl)),
    List.forall_mem_cons.mpr ⟨k_callV (cc := cX5_readFact) (C := RX7) hF hK hts gGood (C_X7_pass hE hT) wk_X7_pass.1 wk_X7_pass.2.1 wl_RX5_55 wk_X7_pass.2.2.1 wk_X7_pass.2.2.2 rfl rfl rfl rfl rfl wd_X7_pass ⟨by rw [hr]; decide, by rw [hr]; decide⟩ (dec_X5_readFact (45, .invokevirtual 55, 3) (List.mem_of_getElem? (i := 23) rfl)),
    List.forall_mem_cons.mpr ⟨k_callV (cc := cX5_readFact) (C := RX5) hF hK hts gGood (C_X5_readFact_5 hE hT) wk_X5_readFact.1 wk_X5_readFact.2.1 wl_RX5_72 wk_X5_readFact.2.2.1 wk_X5_readFact.2.2.2 rfl rfl rfl rfl rfl wd_X5_readFact ⟨by rw [hr]; decide, by rw [hr]; decide⟩ (dec_X5_readFact (59, .invokevirtual 72, 3) (List.mem_of_getElem? (i := 31) rfl)),
    List.forall_mem_cons.mpr ⟨k_callV (cc := cX5_readFact) (C := RX5) hF hK hts gGood (C_X5_emit hE hT) wk_X5_emit.1 wk_X5_emit.2.1 wl_RX5_75 wk_X5_emit.2.2.1 wk_X5_emit.2.2.2 rfl rfl rfl rfl rfl wd_X5_emit ⟨by rw [hr]; decide, by rw [hr]; decide⟩ (dec_X5_readFact (70, .invokevirtual 75, 3) (List.mem_of_getElem? (i := 37) rfl)),
    List.forall_mem_cons.mpr ⟨k_callV (cc := cX5_readFact) (C := RX5) hF hK hts gGood (C_X5_readTest_5 hE hT) wk_X5_readTest.1 wk_X5_readTest.2.1 wl_RX5_42 wk_X5_readTest.2.2.1 wk_X5_readTest.2.2.2 rfl rfl rfl rfl rfl wd_X5_readTest ⟨by rw [hr]; decide, by rw [hr]; decide⟩ (dec_X5_readFact (79, .invokevirtual 42, 3) (List.mem_of_getElem? (i := 44) rfl)),
    List.forall_mem_cons.mpr ⟨k_callV (cc := cX5_readFact) (C := RX7) hF hK hts gGood (C_X7_kind hE hT) wk_X7_kind.1 wk_X7_kind.2.1 wl_RX5_48 wk_X7_kind.2.2.1 wk_X7_kind.2.2.2 rfl rfl rfl rfl rfl wd_X7_kind ⟨by rw [hr]; decide, by rw [hr]; decide⟩ (dec_X5_readFact (91, .invokevirtual 48, 3) (List.mem_of_getElem? (i := 50) rfl)),
    List.forall_mem_cons.mpr ⟨k_callV (cc := cX5_readFact) (C := RX7) hF hK hts gGood (C_X7_refuse hE hT) wk_X7_refuse.1 wk_X7_refuse.2.1 wl_RX5_52 wk_X7_refuse.2.2.1 wk_X7_refuse.2.2.2 rfl rfl rfl rfl rfl wd_X7_refuse ⟨by rw [hr]; decide, by rw [hr]; decide⟩ (dec_X5_readFact (104, .invokevirtual 52, 3) (List.mem_of_getElem? (i := 56) rfl)),
    List.forall_mem_cons.mpr ⟨k_callV (cc := cX5_readFact) (C := RX7) hF hK hts gGood (C_X7_pass hE hT) wk_X7_pass.1 wk_X7_pass.2.1 wl_RX5_55 wk_X7_pass.2.2.1 wk_X7_pass.2.2.2 rfl rfl rfl rfl rfl wd_X7_pass ⟨by rw [hr]; decide, by rw [hr]; decide⟩ (dec_X5_readFact (112, .invokevirtual 55, 3) (List.mem_of_getElem? (i := 60) rfl)),
    List.forall_mem_nil _⟩⟩⟩⟩⟩⟩⟩⟩⟩), hE, hT⟩) dec_X5_readFact chk_X5_readFact_4
theorem C_X5_readTest_4 (hE : k_Eok (gE g tys B0 GI)) (hT : k_tys (gE g tys B0 GI)) : k_Met l (gE g tys B0 GI) τ gTB yX5_readTest cX5_readTest 5 2 K_X5_readTest_4 ⟨33, 0, 0, 985⟩ :=
  k_met (M := M_X5_readTest_4) (by decide +kernel) (fun X hl hr hF hts hK => ⟨gFLk5 hts, gCIk5 hts, gCJk5 hts, (show ∀ q ∈ ([(4, K_X5_readFact_4), (25, K_X7_kind), (45, K_X5_emit), (72, K_X7_pass), (77, K_X5_readFact_4), (96, K_X5_emit)] : List (Nat × kCtr)), k_call X (gE g tys B0 GI) 5 τ q.2 q.1 from List.forall_mem_cons.mpr ⟨k_callV (cc := cX5_readTest) (C := RX5) hF hK hts gGood (C_X5_readFact_4 hE hT) wk_X5_readFact.1 wk_X5_readFact.2.1 wl_RX5_72 wk_X5_readFact.2.2.1 wk_X5_readFact.2.2.2 rfl rfl rfl rfl rfl wd_X5_readFact ⟨by rw [hr]; decide, by rw [hr]; decide⟩ (dec_X5_readTest (4, .invokevirtual 72, 3) (List.mem_of_getElem? (i := 4) rfl)),
    List.forall_mem_cons.mpr ⟨k_callV (cc := cX5_readTest) (C := RX7) hF hK hts gGood (C_X7_kind hE hT) wk_X7_kind.1 wk_X7_kind.2.1 wl_RX5_48 wk_X7_kind.2.2.1 wk_X7_kind.2.2.2 rfl rfl rfl rfl rfl wd_X7_kind ⟨by rw [hr]; decide, by rw [hr]; decide⟩ (dec_X5_readTest (25, .invokevirtual 48, 3) (List.mem_of_getElem? (i := 15) rfl)),
    List.forall_mem_cons.mpr ⟨k_callV (cc := cX5_readTest) (C := RX5) hF hK hts gGood (C_X5_emit hE hT) wk_X5_emit.1 wk_X5_emit.2.1 wl_RX5_75 wk_X5_emit.2.2.1 wk_X5_emit.2.2.2 rfl rfl rfl rfl rfl wd_X5_emit ⟨by rw [hr]; decide, by rw [hr]; decide⟩ (dec_X5_readTest (45, .invokevirtual 75, 3) (List.mem_of_getElem? (i := 24) rfl)),
    List.forall_mem_cons.mpr ⟨k_callV (cc := cX5_readTest) (C := RX7) hF hK hts gGood (C_X7_pass hE hT) wk_X7_pass.1 wk_X7_pass.2.1 wl_RX5_55 wk_X7_pass.2.2.1 wk_X7_pass.2.2.2 rfl rfl rfl rfl rfl wd_X7_pass ⟨by rw [hr]; decide, by rw [hr]; decide⟩ (dec_X5_readTest (72, .invokevirtual 55, 3) (List.mem_of_getElem? (i := 37) rfl)),
    List.forall_mem_cons.mpr ⟨k_callV (cc := cX5_readTest) (C := RX5) hF hK hts gGood (C_X5_readFact_4 hE hT) wk_X5_readFact.1 wk_X5_readFact.2.1 wl_RX5_72 wk_X5_readFact.2.2.1 wk_X5_readFact.2.2.2 rfl rfl rfl rfl rfl wd_X5_readFact ⟨by rw [hr]; decide, by rw [hr]; decide⟩ (dec_X5_readTest (77, .invokevirtual 72, 3) (List.mem_of_getElem? (i := 40) rfl)),
    List.forall_mem_cons.mpr ⟨k_callV (cc := cX5_readTest) (C := RX5) hF hK hts gGood (C_X5_emit hE hT) wk_X5_emit.1 wk_X5_emit.2.1 wl_RX5_75 wk_X5_emit.2.2.1 wk_X5_emit.2.2.2 rfl rfl rfl rfl rfl wd_X5_emit ⟨by rw [hr]; decide, by rw [hr]; decide⟩ (dec_X5_readTest (96, .invokevirtual 75, 3) (List.mem_of_getElem? (i := 49) rfl)),
    List.forall_mem_nil _⟩⟩⟩⟩⟩⟩), hE, hT⟩) dec_X5_readTest chk_X5_readTest_4
theorem C_X5_readFact_3 (hE : k_Eok (gE g tys B0 GI)) (hT : k_tys (gE g tys B0 GI)) : k_Met l (gE g tys B0 GI) τ gTB yX5_readFact cX5_readFact 3 2 K_X5_readFact_3 ⟨34, 0, 0, 1009⟩ :=
  k_met (M := M_X5_readFact_3) (by decide +kernel) (fun X hl hr hF hts hK => ⟨gFLk5 hts, gCIk5 hts, gCJk5 hts, (show ∀ q ∈ ([(4, K_X7_kind), (22, K_X5_readComparison), (45, K_X7_pass), (59, K_X5_readFact_4), (70, K_X5_emit), (79, K_X5_readTest_4), (91, K_X7_kind), (104, K_X7_refuse), (112, K_X7_pass)] : List (Nat × kCtr)), k_call X (gE g tys B0 GI) 3 τ q.2 q.1 from List.forall_mem_cons.mpr ⟨k_callV (cc := cX5_readFact) (C := RX7) hF hK hts gGood (C_X7_kind hE hT) wk_X7_kind.1 wk_X7_kind.2.1 wl_RX5_48 wk_X7_kind.2.2.1 wk_X7_kind.2.2.2 rfl rfl rfl rfl rfl wd_X7_kind ⟨by rw [hr]; decide, by rw [hr]; decide⟩ (dec_X5_readFact (4, .invokevirtual 48, 3) (List.mem_of_getElem? (i := 2) rfl)),
    List.forall_mem_cons.mpr ⟨k_callV (cc := cX5_readFact) (C := RX5) hF hK hts gGood (C_X5_readComparison hE hT) wk_X5_readComparison.1 wk_X5_readComparison.2.1 wl_RX5_79 wk_X5_readComparison.2.2.1 wk_X5_readComparison.2.2.2 rfl rfl rfl rfl rfl wd_X5_readComparison ⟨by rw [hr]; decide, by rw [hr]; decide⟩ (dec_X5_readFact (22, .invokevirtual 79, 3) (List.mem_of_getElem? (i := 11) rfl)),
    List.forall_mem_cons.mpr ⟨k_callV (cc := cX5_readFact) (C := RX7) hF hK hts gGood (C_X7_pass hE hT) wk_X7_pass.1 wk_X7_pass.2.1 wl_RX5_55 wk_X7_pass.2.2.1 wk_X7_pass.2.2.2 rfl rfl rfl rfl rfl wd_X7_pass ⟨by rw [hr]; decide, by rw [hr]; decide⟩ (dec_X5_readFact (45, .invokevirtual 55, 3) (List.mem_of_getElem? (i := 23) rfl)),
    List.forall_mem_cons.mpr ⟨k_callV (cc := cX5_readFact) (C := RX5) hF hK hts gGood (C_X5_readFact_4 hE hT) wk_X5_readFact.1 wk_X5_readFact.2.1 wl_RX5_72 wk_X5_readFact.2.2.1 wk_X5_readFact.2.2.2 rfl rfl rfl rfl rfl wd_X5_readFact ⟨by rw [hr]; decide, by rw [hr]; decide⟩ (dec_X5_readFact (59, .invokevirtual 72, 3) (List.mem_of_getElem? (i := 31) rfl)),
    List.forall_mem_cons.mpr ⟨k_callV (cc := cX5_readFact) (C := RX5) hF hK hts gGood (C_X5_emit hE hT) wk_X5_emit.1 wk_X5_emit.2.1 wl_RX5_75 wk_X5_emit.2.2.1 wk_X5_emit.2.2.2 rfl rfl rfl rfl rfl wd_X5_emit ⟨by rw [hr]; decide, by rw [hr]; decide⟩ (dec_X5_readFact (70, .invokevirtual 75, 3) (List.mem_of_getElem? (i := 37) rfl)),
    List.forall_mem_cons.mpr ⟨k_callV (cc := cX5_readFact) (C := RX5) hF hK hts gGood (C_X5_readTest_4 hE hT) wk_X5_readTest.1 wk_X5_readTest.2.1 wl_RX5_42 wk_X5_readTest.2.2.1 wk_X5_readTest.2.2.2 rfl rfl rfl rfl rfl wd_X5_readTest ⟨by rw [hr]; decide, by rw [hr]; decide⟩ (dec_X5_readFact (79, .invokevirtual 42, 3) (List.mem_of_getElem? (i := 44) rfl)),
    List.forall_mem_cons.mpr ⟨k_callV (cc := cX5_readFact) (C := RX7) hF hK hts gGood (C_X7_kind hE hT) wk_X7_kind.1 wk_X7_kind.2.1 wl_RX5_48 wk_X7_kind.2.2.1 wk_X7_kind.2.2.2 rfl rfl rfl rfl rfl wd_X7_kind ⟨by rw [hr]; decide, by rw [hr]; decide⟩ (dec_X5_readFact (91, .invokevirtual 48, 3) (List.mem_of_getElem? (i := 50) rfl)),
    List.forall_mem_cons.mpr ⟨k_callV (cc := cX5_readFact) (C := RX7) hF hK hts gGood (C_X7_refuse hE hT) wk_X7_refuse.1 wk_X7_refuse.2.1 wl_RX5_52 wk_X7_refuse.2.2.1 wk_X7_refuse.2.2.2 rfl rfl rfl rfl rfl wd_X7_refuse ⟨by rw [hr]; decide, by rw [hr]; decide⟩ (dec_X5_readFact (104, .invokevirtual 52, 3) (List.mem_of_getElem? (i := 56) rfl)),
    List.forall_mem_cons.mpr ⟨k_callV (cc := cX5_readFact) (C := RX7) hF hK hts gGood (C_X7_pass hE hT) wk_X7_pass.1 wk_X7_pass.2.1 wl_RX5_55 wk_X7_pass.2.2.1 wk_X7_pass.2.2.2 rfl rfl rfl rfl rfl wd_X7_pass ⟨by rw [hr]; decide, by rw [hr]; decide⟩ (dec_X5_readFact (112, .invokevirtual 55, 3) (List.mem_of_getElem? (i := 60) rfl)),
    List.forall_mem_nil _⟩⟩⟩⟩⟩⟩⟩⟩⟩), hE, hT⟩) dec_X5_readFact chk_X5_readFact_3
theorem C_X5_readTest_3 (hE : k_Eok (gE g tys B0 GI)) (hT : k_tys (gE g tys B0 GI)) : k_Met l (gE g tys B0 GI) τ gTB yX5_readTest cX5_readTest 5 2 K_X5_readTest_3 ⟨35, 0, 0, 1031⟩ :=
  k_met (M := M_X5_readTest_3) (by decide +kernel) (fun X hl hr hF hts hK => ⟨gFLk5 hts, gCIk5 hts, gCJk5 hts, (show ∀ q ∈ ([(4, K_X5_readFact_3), (25, K_X7_kind), (45, K_X5_emit), (72, K_X7_pass), (77, K_X5_readFact_3), (96, K_X5_emit)] : List (Nat × kCtr)), k_call X (gE g tys B0 GI) 5 τ q.2 q.1 from List.forall_mem_cons.mpr ⟨k_callV (cc := cX5_readTest) (C := RX5) hF hK hts gGood (C_X5_readFact_3 hE hT) wk_X5_readFact.1 wk_X5_readFact.2.1 wl_RX5_72 wk_X5_readFact.2.2.1 wk_X5_readFact.2.2.2 rfl rfl rfl rfl rfl wd_X5_readFact ⟨by rw [hr]; decide, by rw [hr]; decide⟩ (dec_X5_readTest (4, .invokevirtual 72, 3) (List.mem_of_getElem? (i := 4) rfl)),
    List.forall_mem_cons.mpr ⟨k_callV (cc := cX5_readTest) (C := RX7) hF hK hts gGood (C_X7_kind hE hT) wk_X7_kind.1 wk_X7_kind.2.1 wl_RX5_48 wk_X7_kind.2.2.1 wk_X7_kind.2.2.2 rfl rfl rfl rfl rfl wd_X7_kind ⟨by rw [hr]; decide, by rw [hr]; decide⟩ (dec_X5_readTest (25, .invokevirtual 48, 3) (List.mem_of_getElem? (i := 15) rfl)),
    List.forall_mem_cons.mpr ⟨k_callV (cc := cX5_readTest) (C := RX5) hF hK hts gGood (C_X5_emit hE hT) wk_X5_emit.1 wk_X5_emit.2.1 wl_RX5_75 wk_X5_emit.2.2.1 wk_X5_emit.2.2.2 rfl rfl rfl rfl rfl wd_X5_emit ⟨by rw [hr]; decide, by rw [hr]; decide⟩ (dec_X5_readTest (45, .invokevirtual 75, 3) (List.mem_of_getElem? (i := 24) rfl)),
    List.forall_mem_cons.mpr ⟨k_callV (cc := cX5_readTest) (C := RX7) hF hK hts gGood (C_X7_pass hE hT) wk_X7_pass.1 wk_X7_pass.2.1 wl_RX5_55 wk_X7_pass.2.2.1 wk_X7_pass.2.2.2 rfl rfl rfl rfl rfl wd_X7_pass ⟨by rw [hr]; decide, by rw [hr]; decide⟩ (dec_X5_readTest (72, .invokevirtual 55, 3) (List.mem_of_getElem? (i := 37) rfl)),
    List.forall_mem_cons.mpr ⟨k_callV (cc := cX5_readTest) (C := RX5) hF hK hts gGood (C_X5_readFact_3 hE hT) wk_X5_readFact.1 wk_X5_readFact.2.1 wl_RX5_72 wk_X5_readFact.2.2.1 wk_X5_readFact.2.2.2 rfl rfl rfl rfl rfl wd_X5_readFact ⟨by rw [hr]; decide, by rw [hr]; decide⟩ (dec_X5_readTest (77, .invokevirtual 72, 3) (List.mem_of_getElem? (i := 40) rfl)),
    List.forall_mem_cons.mpr ⟨k_callV (cc := cX5_readTest) (C := RX5) hF hK hts gGood (C_X5_emit hE hT) wk_X5_emit.1 wk_X5_emit.2.1 wl_RX5_75 wk_X5_emit.2.2.1 wk_X5_emit.2.2.2 rfl rfl rfl rfl rfl wd_X5_emit ⟨by rw [hr]; decide, by rw [hr]; decide⟩ (dec_X5_readTest (96, .invokevirtual 75, 3) (List.mem_of_getElem? (i := 49) rfl)),
    List.forall_mem_nil _⟩⟩⟩⟩⟩⟩), hE, hT⟩) dec_X5_readTest chk_X5_readTest_3
theorem C_X5_readFact_2 (hE : k_Eok (gE g tys B0 GI)) (hT : k_tys (gE g tys B0 GI)) : k_Met l (gE g tys B0 GI) τ gTB yX5_readFact cX5_readFact 3 2 K_X5_readFact_2 ⟨36, 0, 0, 1055⟩ :=
  k_met (M := M_X5_readFact_2) (by decide +kernel) (fun X hl hr hF hts hK => ⟨gFLk5 hts, gCIk5 hts, gCJk5 hts, (show ∀ q ∈ ([(4, K_X7_kind), (22, K_X5_readComparison), (45, K_X7_pass), (59, K_X5_readFact_3), (70, K_X5_emit), (79, K_X5_readTest_3), (91, K_X7_kind), (104, K_X7_refuse), (112, K_X7_pass)] : List (Nat × kCtr)), k_call X (gE g tys B0 GI) 3 τ q.2 q.1 from List.forall_mem_cons.mpr ⟨k_callV (cc := cX5_readFact) (C := RX7) hF hK hts gGood (C_X7_kind hE hT) wk_X7_kind.1 wk_X7_kind.2.1 wl_RX5_48 wk_X7_kind.2.2.1 wk_X7_kind.2.2.2 rfl rfl rfl rfl rfl wd_X7_kind ⟨by rw [hr]; decide, by rw [hr]; decide⟩ (dec_X5_readFact (4, .invokevirtual 48, 3) (List.mem_of_getElem? (i := 2) rfl)),
    List.forall_mem_cons.mpr ⟨k_callV (cc := cX5_readFact) (C := RX5) hF hK hts gGood (C_X5_readComparison hE hT) wk_X5_readComparison.1 wk_X5_readComparison.2.1 wl_RX5_79 wk_X5_readComparison.2.2.1 wk_X5_readComparison.2.2.2 rfl rfl rfl rfl rfl wd_X5_readComparison ⟨by rw [hr]; decide, by rw [hr]; decide⟩ (dec_X5_readFact (22, .invokevirtual 79, 3) (List.mem_of_getElem? (i := 11) rfl)),
    List.forall_mem_cons.mpr ⟨k_callV (cc := cX5_readFact) (C := RX7) hF hK hts gGood (C_X7_pass hE hT) wk_X7_pass.1 wk_X7_pass.2.1 wl_RX5_55 wk_X7_pass.2.2.1 wk_X7_pass.2.2.2 rfl rfl rfl rfl rfl wd_X7_pass ⟨by rw [hr]; decide, by rw [hr]; decide⟩ (dec_X5_readFact (45, .invokevirtual 55, 3) (List.mem_of_getElem? (i := 23) rfl)),
    List.forall_mem_cons.mpr ⟨k_callV (cc := cX5_readFact) (C := RX5) hF hK hts gGood (C_X5_readFact_3 hE hT) wk_X5_readFact.1 wk_X5_readFact.2.1 wl_RX5_72 wk_X5_readFact.2.2.1 wk_X5_readFact.2.2.2 rfl rfl rfl rfl rfl wd_X5_readFact ⟨by rw [hr]; decide, by rw [hr]; decide⟩ (dec_X5_readFact (59, .invokevirtual 72, 3) (List.mem_of_getElem? (i := 31) rfl)),
    List.forall_mem_cons.mpr ⟨k_callV (cc := cX5_readFact) (C := RX5) hF hK hts gGood (C_X5_emit hE hT) wk_X5_emit.1 wk_X5_emit.2.1 wl_RX5_75 wk_X5_emit.2.2.1 wk_X5_emit.2.2.2 rfl rfl rfl rfl rfl wd_X5_emit ⟨by rw [hr]; decide, by rw [hr]; decide⟩ (dec_X5_readFact (70, .invokevirtual 75, 3) (List.mem_of_getElem? (i := 37) rfl)),
    List.forall_mem_cons.mpr ⟨k_callV (cc := cX5_readFact) (C := RX5) hF hK hts gGood (C_X5_readTest_3 hE hT) wk_X5_readTest.1 wk_X5_readTest.2.1 wl_RX5_42 wk_X5_readTest.2.2.1 wk_X5_readTest.2.2.2 rfl rfl rfl rfl rfl wd_X5_readTest ⟨by rw [hr]; decide, by rw [hr]; decide⟩ (dec_X5_readFact (79, .invokevirtual 42, 3) (List.mem_of_getElem? (i := 44) rfl)),
    List.forall_mem_cons.mpr ⟨k_callV (cc := cX5_readFact) (C := RX7) hF hK hts gGood (C_X7_kind hE hT) wk_X7_kind.1 wk_X7_kind.2.1 wl_RX5_48 wk_X7_kind.2.2.1 wk_X7_kind.2.2.2 rfl rfl rfl rfl rfl wd_X7_kind ⟨by rw [hr]; decide, by rw [hr]; decide⟩ (dec_X5_readFact (91, .invokevirtual 48, 3) (List.mem_of_getElem? (i := 50) rfl)),
    List.forall_mem_cons.mpr ⟨k_callV (cc := cX5_readFact) (C := RX7) hF hK hts gGood (C_X7_refuse hE hT) wk_X7_refuse.1 wk_X7_refuse.2.1 wl_RX5_52 wk_X7_refuse.2.2.1 wk_X7_refuse.2.2.2 rfl rfl rfl rfl rfl wd_X7_refuse ⟨by rw [hr]; decide, by rw [hr]; decide⟩ (dec_X5_readFact (104, .invokevirtual 52, 3) (List.mem_of_getElem? (i := 56) rfl)),
    List.forall_mem_cons.mpr ⟨k_callV (cc := cX5_readFact) (C := RX7) hF hK hts gGood (C_X7_pass hE hT) wk_X7_pass.1 wk_X7_pass.2.1 wl_RX5_55 wk_X7_pass.2.2.1 wk_X7_pass.2.2.2 rfl rfl rfl rfl rfl wd_X7_pass ⟨by rw [hr]; decide, by rw [hr]; decide⟩ (dec_X5_readFact (112, .invokevirtual 55, 3) (List.mem_of_getElem? (i := 60) rfl)),
    List.forall_mem_nil _⟩⟩⟩⟩⟩⟩⟩⟩⟩), hE, hT⟩) dec_X5_readFact chk_X5_readFact_2
theorem C_X5_readTest_2 (hE : k_Eok (gE g tys B0 GI)) (hT : k_tys (gE g tys B0 GI)) : k_Met l (gE g tys B0 GI) τ gTB yX5_readTest cX5_readTest 5 2 K_X5_readTest_2 ⟨37, 0, 0, 1077⟩ :=
  k_met (M := M_X5_readTest_2) (by decide +kernel) (fun X hl hr hF hts hK => ⟨gFLk5 hts, gCIk5 hts, gCJk5 hts, (show ∀ q ∈ ([(4, K_X5_readFact_2), (25, K_X7_kind), (45, K_X5_emit), (72, K_X7_pass), (77, K_X5_readFact_2), (96, K_X5_emit)] : List (Nat × kCtr)), k_call X (gE g tys B0 GI) 5 τ q.2 q.1 from List.forall_mem_cons.mpr ⟨k_callV (cc := cX5_readTest) (C := RX5) hF hK hts gGood (C_X5_readFact_2 hE hT) wk_X5_readFact.1 wk_X5_readFact.2.1 wl_RX5_72 wk_X5_readFact.2.2.1 wk_X5_readFact.2.2.2 rfl rfl rfl rfl rfl wd_X5_readFact ⟨by rw [hr]; decide, by rw [hr]; decide⟩ (dec_X5_readTest (4, .invokevirtual 72, 3) (List.mem_of_getElem? (i := 4) rfl)),
    List.forall_mem_cons.mpr ⟨k_callV (cc := cX5_readTest) (C := RX7) hF hK hts gGood (C_X7_kind hE hT) wk_X7_kind.1 wk_X7_kind.2.1 wl_RX5_48 wk_X7_kind.2.2.1 wk_X7_kind.2.2.2 rfl rfl rfl rfl rfl wd_X7_kind ⟨by rw [hr]; decide, by rw [hr]; decide⟩ (dec_X5_readTest (25, .invokevirtual 48, 3) (List.mem_of_getElem? (i := 15) rfl)),
    List.forall_mem_cons.mpr ⟨k_callV (cc := cX5_readTest) (C := RX5) hF hK hts gGood (C_X5_emit hE hT) wk_X5_emit.1 wk_X5_emit.2.1 wl_RX5_75 wk_X5_emit.2.2.1 wk_X5_emit.2.2.2 rfl rfl rfl rfl rfl wd_X5_emit ⟨by rw [hr]; decide, by rw [hr]; decide⟩ (dec_X5_readTest (45, .invokevirtual 75, 3) (List.mem_of_getElem? (i := 24) rfl)),
    List.forall_mem_cons.mpr ⟨k_callV (cc := cX5_readTest) (C := RX7) hF hK hts gGood (C_X7_pass hE hT) wk_X7_pass.1 wk_X7_pass.2.1 wl_RX5_55 wk_X7_pass.2.2.1 wk_X7_pass.2.2.2 rfl rfl rfl rfl rfl wd_X7_pass ⟨by rw [hr]; decide, by rw [hr]; decide⟩ (dec_X5_readTest (72, .invokevirtual 55, 3) (List.mem_of_getElem? (i := 37) rfl)),
    List.forall_mem_cons.mpr ⟨k_callV (cc := cX5_readTest) (C := RX5) hF hK hts gGood (C_X5_readFact_2 hE hT) wk_X5_readFact.1 wk_X5_readFact.2.1 wl_RX5_72 wk_X5_readFact.2.2.1 wk_X5_readFact.2.2.2 rfl rfl rfl rfl rfl wd_X5_readFact ⟨by rw [hr]; decide, by rw [hr]; decide⟩ (dec_X5_readTest (77, .invokevirtual 72, 3) (List.mem_of_getElem? (i := 40) rfl)),
    List.forall_mem_cons.mpr ⟨k_callV (cc := cX5_readTest) (C := RX5) hF hK hts gGood (C_X5_emit hE hT) wk_X5_emit.1 wk_X5_emit.2.1 wl_RX5_75 wk_X5_emit.2.2.1 wk_X5_emit.2.2.2 rfl rfl rfl rfl rfl wd_X5_emit ⟨by rw [hr]; decide, by rw [hr]; decide⟩ (dec_X5_readTest (96, .invokevirtual 75, 3) (List.mem_of_getElem? (i := 49) rfl)),
    List.forall_mem_nil _⟩⟩⟩⟩⟩⟩), hE, hT⟩) dec_X5_readTest chk_X5_readTest_2
theorem C_X5_readFact_1 (hE : k_Eok (gE g tys B0 GI)) (hT : k_tys (gE g tys B0 GI)) : k_Met l (gE g tys B0 GI) τ gTB yX5_readFact cX5_readFact 3 2 K_X5_readFact_1 ⟨38, 0, 0, 1101⟩ :=
  k_met (M := M_X5_readFact_1) (by decide +kernel) (fun X hl hr hF hts hK => ⟨gFLk5 hts, gCIk5 hts, gCJk5 hts, (show ∀ q ∈ ([(4, K_X7_kind), (22, K_X5_readComparison), (45, K_X7_pass), (59, K_X5_readFact_2), (70, K_X5_emit), (79, K_X5_readTest_2), (91, K_X7_kind), (104, K_X7_refuse), (112, K_X7_pass)] : List (Nat × kCtr)), k_call X (gE g tys B0 GI) 3 τ q.2 q.1 from List.forall_mem_cons.mpr ⟨k_callV (cc := cX5_readFact) (C := RX7) hF hK hts gGood (C_X7_kind hE hT) wk_X7_kind.1 wk_X7_kind.2.1 wl_RX5_48 wk_X7_kind.2.2.1 wk_X7_kind.2.2.2 rfl rfl rfl rfl rfl wd_X7_kind ⟨by rw [hr]; decide, by rw [hr]; decide⟩ (dec_X5_readFact (4, .invokevirtual 48, 3) (List.mem_of_getElem? (i := 2) rfl)),
    List.forall_mem_cons.mpr ⟨k_callV (cc := cX5_readFact) (C := RX5) hF hK hts gGood (C_X5_readComparison hE hT) wk_X5_readComparison.1 wk_X5_readComparison.2.1 wl_RX5_79 wk_X5_readComparison.2.2.1 wk_X5_readComparison.2.2.2 rfl rfl rfl rfl rfl wd_X5_readComparison ⟨by rw [hr]; decide, by rw [hr]; decide⟩ (dec_X5_readFact (22, .invokevirtual 79, 3) (List.mem_of_getElem? (i := 11) rfl)),
    List.forall_mem_cons.mpr ⟨k_callV (cc := cX5_readFact) (C := RX7) hF hK hts gGood (C_X7_pass hE hT) wk_X7_pass.1 wk_X7_pass.2.1 wl_RX5_55 wk_X7_pass.2.2.1 wk_X7_pass.2.2.2 rfl rfl rfl rfl rfl wd_X7_pass ⟨by rw [hr]; decide, by rw [hr]; decide⟩ (dec_X5_readFact (45, .invokevirtual 55, 3) (List.mem_of_getElem? (i := 23) rfl)),
    List.forall_mem_cons.mpr ⟨k_callV (cc := cX5_readFact) (C := RX5) hF hK hts gGood (C_X5_readFact_2 hE hT) wk_X5_readFact.1 wk_X5_readFact.2.1 wl_RX5_72 wk_X5_readFact.2.2.1 wk_X5_readFact.2.2.2 rfl rfl rfl rfl rfl wd_X5_readFact ⟨by rw [hr]; decide, by rw [hr]; decide⟩ (dec_X5_readFact (59, .invokevirtual 72, 3) (List.mem_of_getElem? (i := 31) rfl)),
    List.forall_mem_cons.mpr ⟨k_callV (cc := cX5_readFact) (C := RX5) hF hK hts gGood (C_X5_emit hE hT) wk_X5_emit.1 wk_X5_emit.2.1 wl_RX5_75 wk_X5_emit.2.2.1 wk_X5_emit.2.2.2 rfl rfl rfl rfl rfl wd_X5_emit ⟨by rw [hr]; decide, by rw [hr]; decide⟩ (dec_X5_readFact (70, .invokevirtual 75, 3) (List.mem_of_getElem? (i := 37) rfl)),
    List.forall_mem_cons.mpr ⟨k_callV (cc := cX5_readFact) (C := RX5) hF hK hts gGood (C_X5_readTest_2 hE hT) wk_X5_readTest.1 wk_X5_readTest.2.1 wl_RX5_42 wk_X5_readTest.2.2.1 wk_X5_readTest.2.2.2 rfl rfl rfl rfl rfl wd_X5_readTest ⟨by rw [hr]; decide, by rw [hr]; decide⟩ (dec_X5_readFact (79, .invokevirtual 42, 3) (List.mem_of_getElem? (i := 44) rfl)),
    List.forall_mem_cons.mpr ⟨k_callV (cc := cX5_readFact) (C := RX7) hF hK hts gGood (C_X7_kind hE hT) wk_X7_kind.1 wk_X7_kind.2.1 wl_RX5_48 wk_X7_kind.2.2.1 wk_X7_kind.2.2.2 rfl rfl rfl rfl rfl wd_X7_kind ⟨by rw [hr]; decide, by rw [hr]; decide⟩ (dec_X5_readFact (91, .invokevirtual 48, 3) (List.mem_of_getElem? (i := 50) rfl)),
    List.forall_mem_cons.mpr ⟨k_callV (cc := cX5_readFact) (C := RX7) hF hK hts gGood (C_X7_refuse hE hT) wk_X7_refuse.1 wk_X7_refuse.2.1 wl_RX5_52 wk_X7_refuse.2.2.1 wk_X7_refuse.2.2.2 rfl rfl rfl rfl rfl wd_X7_refuse ⟨by rw [hr]; decide, by rw [hr]; decide⟩ (dec_X5_readFact (104, .invokevirtual 52, 3) (List.mem_of_getElem? (i := 56) rfl)),
    List.forall_mem_cons.mpr ⟨k_callV (cc := cX5_readFact) (C := RX7) hF hK hts gGood (C_X7_pass hE hT) wk_X7_pass.1 wk_X7_pass.2.1 wl_RX5_55 wk_X7_pass.2.2.1 wk_X7_pass.2.2.2 rfl rfl rfl rfl rfl wd_X7_pass ⟨by rw [hr]; decide, by rw [hr]; decide⟩ (dec_X5_readFact (112, .invokevirtual 55, 3) (List.mem_of_getElem? (i := 60) rfl)),
    List.forall_mem_nil _⟩⟩⟩⟩⟩⟩⟩⟩⟩), hE, hT⟩) dec_X5_readFact chk_X5_readFact_1
theorem C_X5_readTest_1 (hE : k_Eok (gE g tys B0 GI)) (hT : k_tys (gE g tys B0 GI)) : k_Met l (gE g tys B0 GI) τ gTB yX5_readTest cX5_readTest 5 2 K_X5_readTest_1 ⟨39, 0, 0, 1123⟩ :=
  k_met (M := M_X5_readTest_1) (by decide +kernel) (fun X hl hr hF hts hK => ⟨gFLk5 hts, gCIk5 hts, gCJk5 hts, (show ∀ q ∈ ([(4, K_X5_readFact_1), (25, K_X7_kind), (45, K_X5_emit), (72, K_X7_pass), (77, K_X5_readFact_1), (96, K_X5_emit)] : List (Nat × kCtr)), k_call X (gE g tys B0 GI) 5 τ q.2 q.1 from List.forall_mem_cons.mpr ⟨k_callV (cc := cX5_readTest) (C := RX5) hF hK hts gGood (C_X5_readFact_1 hE hT) wk_X5_readFact.1 wk_X5_readFact.2.1 wl_RX5_72 wk_X5_readFact.2.2.1 wk_X5_readFact.2.2.2 rfl rfl rfl rfl rfl wd_X5_readFact ⟨by rw [hr]; decide, by rw [hr]; decide⟩ (dec_X5_readTest (4, .invokevirtual 72, 3) (List.mem_of_getElem? (i := 4) rfl)),
    List.forall_mem_cons.mpr ⟨k_callV (cc := cX5_readTest) (C := RX7) hF hK hts gGood (C_X7_kind hE hT) wk_X7_kind.1 wk_X7_kind.2.1 wl_RX5_48 wk_X7_kind.2.2.1 wk_X7_kind.2.2.2 rfl rfl rfl rfl rfl wd_X7_kind ⟨by rw [hr]; decide, by rw [hr]; decide⟩ (dec_X5_readTest (25, .invokevirtual 48, 3) (List.mem_of_getElem? (i := 15) rfl)),
    List.forall_mem_cons.mpr ⟨k_callV (cc := cX5_readTest) (C := RX5) hF hK hts gGood (C_X5_emit hE hT) wk_X5_emit.1 wk_X5_emit.2.1 wl_RX5_75 wk_X5_emit.2.2.1 wk_X5_emit.2.2.2 rfl rfl rfl rfl rfl wd_X5_emit ⟨by rw [hr]; decide, by rw [hr]; decide⟩ (dec_X5_readTest (45, .invokevirtual 75, 3) (List.mem_of_getElem? (i := 24) rfl)),
    List.forall_mem_cons.mpr ⟨k_callV (cc := cX5_readTest) (C := RX7) hF hK hts gGood (C_X7_pass hE hT) wk_X7_pass.1 wk_X7_pass.2.1 wl_RX5_55 wk_X7_pass.2.2.1 wk_X7_pass.2.2.2 rfl rfl rfl rfl rfl wd_X7_pass ⟨by rw [hr]; decide, by rw [hr]; decide⟩ (dec_X5_readTest (72, .invokevirtual 55, 3) (List.mem_of_getElem? (i := 37) rfl)),
    List.forall_mem_cons.mpr ⟨k_callV (cc := cX5_readTest) (C := RX5) hF hK hts gGood (C_X5_readFact_1 hE hT) wk_X5_readFact.1 wk_X5_readFact.2.1 wl_RX5_72 wk_X5_readFact.2.2.1 wk_X5_readFact.2.2.2 rfl rfl rfl rfl rfl wd_X5_readFact ⟨by rw [hr]; decide, by rw [hr]; decide⟩ (dec_X5_readTest (77, .invokevirtual 72, 3) (List.mem_of_getElem? (i := 40) rfl)),
    List.forall_mem_cons.mpr ⟨k_callV (cc := cX5_readTest) (C := RX5) hF hK hts gGood (C_X5_emit hE hT) wk_X5_emit.1 wk_X5_emit.2.1 wl_RX5_75 wk_X5_emit.2.2.1 wk_X5_emit.2.2.2 rfl rfl rfl rfl rfl wd_X5_emit ⟨by rw [hr]; decide, by rw [hr]; decide⟩ (dec_X5_readTest (96, .invokevirtual 75, 3) (List.mem_of_getElem? (i := 49) rfl)),
    List.forall_mem_nil _⟩⟩⟩⟩⟩⟩), hE, hT⟩) dec_X5_readTest chk_X5_readTest_1
theorem C_X5_readFact_0 (hE : k_Eok (gE g tys B0 GI)) (hT : k_tys (gE g tys B0 GI)) : k_Met l (gE g tys B0 GI) τ gTB yX5_readFact cX5_readFact 3 2 K_X5_readFact_0 ⟨40, 0, 0, 1147⟩ :=
  k_met (M := M_X5_readFact_0) (by decide +kernel) (fun X hl hr hF hts hK => ⟨gFLk5 hts, gCIk5 hts, gCJk5 hts, (show ∀ q ∈ ([(4, K_X7_kind), (22, K_X5_readComparison), (45, K_X7_pass), (59, K_X5_readFact_1), (70, K_X5_emit), (79, K_X5_readTest_1), (91, K_X7_kind), (104, K_X7_refuse), (112, K_X7_pass)] : List (Nat × kCtr)), k_call X (gE g tys B0 GI) 3 τ q.2 q.1 from List.forall_mem_cons.mpr ⟨k_callV (cc := cX5_readFact) (C := RX7) hF hK hts gGood (C_X7_kind hE hT) wk_X7_kind.1 wk_X7_kind.2.1 wl_RX5_48 wk_X7_kind.2.2.1 wk_X7_kind.2.2.2 rfl rfl rfl rfl rfl wd_X7_kind ⟨by rw [hr]; decide, by rw [hr]; decide⟩ (dec_X5_readFact (4, .invokevirtual 48, 3) (List.mem_of_getElem? (i := 2) rfl)),
    List.forall_mem_cons.mpr ⟨k_callV (cc := cX5_readFact) (C := RX5) hF hK hts gGood (C_X5_readComparison hE hT) wk_X5_readComparison.1 wk_X5_readComparison.2.1 wl_RX5_79 wk_X5_readComparison.2.2.1 wk_X5_readComparison.2.2.2 rfl rfl rfl rfl rfl wd_X5_readComparison ⟨by rw [hr]; decide, by rw [hr]; decide⟩ (dec_X5_readFact (22, .invokevirtual 79, 3) (List.mem_of_getElem? (i := 11) rfl)),
    List.forall_mem_cons.mpr ⟨k_callV (cc := cX5_readFact) (C := RX7) hF hK hts gGood (C_X7_pass hE hT) wk_X7_pass.1 wk_X7_pass.2.1 wl_RX5_55 wk_X7_pass.2.2.1 wk_X7_pass.2.2.2 rfl rfl rfl rfl rfl wd_X7_pass ⟨by rw [hr]; decide, by rw [hr]; decide⟩ (dec_X5_readFact (45, .invokevirtual 55, 3) (List.mem_of_getElem? (i := 23) rfl)),
    List.forall_mem_cons.mpr ⟨k_callV (cc := cX5_readFact) (C := RX5) hF hK hts gGood (C_X5_readFact_1 hE hT) wk_X5_readFact.1 wk_X5_readFact.2.1 wl_RX5_72 wk_X5_readFact.2.2.1 wk_X5_readFact.2.2.2 rfl rfl rfl rfl rfl wd_X5_readFact ⟨by rw [hr]; decide, by rw [hr]; decide⟩ (dec_X5_readFact (59, .invokevirtual 72, 3) (List.mem_of_getElem? (i := 31) rfl)),
    List.forall_mem_cons.mpr ⟨k_callV (cc := cX5_readFact) (C := RX5) hF hK hts gGood (C_X5_emit hE hT) wk_X5_emit.1 wk_X5_emit.2.1 wl_RX5_75 wk_X5_emit.2.2.1 wk_X5_emit.2.2.2 rfl rfl rfl rfl rfl wd_X5_emit ⟨by rw [hr]; decide, by rw [hr]; decide⟩ (dec_X5_readFact (70, .invokevirtual 75, 3) (List.mem_of_getElem? (i := 37) rfl)),
    List.forall_mem_cons.mpr ⟨k_callV (cc := cX5_readFact) (C := RX5) hF hK hts gGood (C_X5_readTest_1 hE hT) wk_X5_readTest.1 wk_X5_readTest.2.1 wl_RX5_42 wk_X5_readTest.2.2.1 wk_X5_readTest.2.2.2 rfl rfl rfl rfl rfl wd_X5_readTest ⟨by rw [hr]; decide, by rw [hr]; decide⟩ (dec_X5_readFact (79, .invokevirtual 42, 3) (List.mem_of_getElem? (i := 44) rfl)),
    List.forall_mem_cons.mpr ⟨k_callV (cc := cX5_readFact) (C := RX7) hF hK hts gGood (C_X7_kind hE hT) wk_X7_kind.1 wk_X7_kind.2.1 wl_RX5_48 wk_X7_kind.2.2.1 wk_X7_kind.2.2.2 rfl rfl rfl rfl rfl wd_X7_kind ⟨by rw [hr]; decide, by rw [hr]; decide⟩ (dec_X5_readFact (91, .invokevirtual 48, 3) (List.mem_of_getElem? (i := 50) rfl)),
    List.forall_mem_cons.mpr ⟨k_callV (cc := cX5_readFact) (C := RX7) hF hK hts gGood (C_X7_refuse hE hT) wk_X7_refuse.1 wk_X7_refuse.2.1 wl_RX5_52 wk_X7_refuse.2.2.1 wk_X7_refuse.2.2.2 rfl rfl rfl rfl rfl wd_X7_refuse ⟨by rw [hr]; decide, by rw [hr]; decide⟩ (dec_X5_readFact (104, .invokevirtual 52, 3) (List.mem_of_getElem? (i := 56) rfl)),
    List.forall_mem_cons.mpr ⟨k_callV (cc := cX5_readFact) (C := RX7) hF hK hts gGood (C_X7_pass hE hT) wk_X7_pass.1 wk_X7_pass.2.1 wl_RX5_55 wk_X7_pass.2.2.1 wk_X7_pass.2.2.2 rfl rfl rfl rfl rfl wd_X7_pass ⟨by rw [hr]; decide, by rw [hr]; decide⟩ (dec_X5_readFact (112, .invokevirtual 55, 3) (List.mem_of_getElem? (i := 60) rfl)),
    List.forall_mem_nil _⟩⟩⟩⟩⟩⟩⟩⟩⟩), hE, hT⟩) dec_X5_readFact chk_X5_readFact_0
theorem C_X5_readTest_0 (hE : k_Eok (gE g tys B0 GI)) (hT : k_tys (gE g tys B0 GI)) : k_Met l (gE g tys B0 GI) τ gTB yX5_readTest cX5_readTest 5 2 K_X5_readTest_0 ⟨41, 0, 0, 1169⟩ :=
  k_met (M := M_X5_readTest_0) (by decide +kernel) (fun X hl hr hF hts hK => ⟨gFLk5 hts, gCIk5 hts, gCJk5 hts, (show ∀ q ∈ ([(4, K_X5_readFact_0), (25, K_X7_kind), (45, K_X5_emit), (72, K_X7_pass), (77, K_X5_readFact_0), (96, K_X5_emit)] : List (Nat × kCtr)), k_call X (gE g tys B0 GI) 5 τ q.2 q.1 from List.forall_mem_cons.mpr ⟨k_callV (cc := cX5_readTest) (C := RX5) hF hK hts gGood (C_X5_readFact_0 hE hT) wk_X5_readFact.1 wk_X5_readFact.2.1 wl_RX5_72 wk_X5_readFact.2.2.1 wk_X5_readFact.2.2.2 rfl rfl rfl rfl rfl wd_X5_readFact ⟨by rw [hr]; decide, by rw [hr]; decide⟩ (dec_X5_readTest (4, .invokevirtual 72, 3) (List.mem_of_getElem? (i := 4) rfl)),
    List.forall_mem_cons.mpr ⟨k_callV (cc := cX5_readTest) (C := RX7) hF hK hts gGood (C_X7_kind hE hT) wk_X7_kind.1 wk_X7_kind.2.1 wl_RX5_48 wk_X7_kind.2.2.1 wk_X7_kind.2.2.2 rfl rfl rfl rfl rfl wd_X7_kind ⟨by rw [hr]; decide, by rw [hr]; decide⟩ (dec_X5_readTest (25, .invokevirtual 48, 3) (List.mem_of_getElem? (i := 15) rfl)),
    List.forall_mem_cons.mpr ⟨k_callV (cc := cX5_readTest) (C := RX5) hF hK hts gGood (C_X5_emit hE hT) wk_X5_emit.1 wk_X5_emit.2.1 wl_RX5_75 wk_X5_emit.2.2.1 wk_X5_emit.2.2.2 rfl rfl rfl rfl rfl wd_X5_emit ⟨by rw [hr]; decide, by rw [hr]; decide⟩ (dec_X5_readTest (45, .invokevirtual 75, 3) (List.mem_of_getElem? (i := 24) rfl)),
    List.forall_mem_cons.mpr ⟨k_callV (cc := cX5_readTest) (C := RX7) hF hK hts gGood (C_X7_pass hE hT) wk_X7_pass.1 wk_X7_pass.2.1 wl_RX5_55 wk_X7_pass.2.2.1 wk_X7_pass.2.2.2 rfl rfl rfl rfl rfl wd_X7_pass ⟨by rw [hr]; decide, by rw [hr]; decide⟩ (dec_X5_readTest (72, .invokevirtual 55, 3) (List.mem_of_getElem? (i := 37) rfl)),
    List.forall_mem_cons.mpr ⟨k_callV (cc := cX5_readTest) (C := RX5) hF hK hts gGood (C_X5_readFact_0 hE hT) wk_X5_readFact.1 wk_X5_readFact.2.1 wl_RX5_72 wk_X5_readFact.2.2.1 wk_X5_readFact.2.2.2 rfl rfl rfl rfl rfl wd_X5_readFact ⟨by rw [hr]; decide, by rw [hr]; decide⟩ (dec_X5_readTest (77, .invokevirtual 72, 3) (List.mem_of_getElem? (i := 40) rfl)),
    List.forall_mem_cons.mpr ⟨k_callV (cc := cX5_readTest) (C := RX5) hF hK hts gGood (C_X5_emit hE hT) wk_X5_emit.1 wk_X5_emit.2.1 wl_RX5_75 wk_X5_emit.2.2.1 wk_X5_emit.2.2.2 rfl rfl rfl rfl rfl wd_X5_emit ⟨by rw [hr]; decide, by rw [hr]; decide⟩ (dec_X5_readTest (96, .invokevirtual 75, 3) (List.mem_of_getElem? (i := 49) rfl)),
    List.forall_mem_nil _⟩⟩⟩⟩⟩⟩), hE, hT⟩) dec_X5_readTest chk_X5_readTest_0
theorem C_X5_passIf (hE : k_Eok (gE g tys B0 GI)) (hT : k_tys (gE g tys B0 GI)) : k_Met l (gE g tys B0 GI) τ gTB yX5_passIf cX5_passIf 1 2 K_X5_passIf ⟨17, 0, 0, 620⟩ :=
  k_met (M := M_X5_passIf) (by decide +kernel) (fun X hl hr hF hts hK => ⟨gFLk5 hts, gCIk5 hts, gCJk5 hts, (show ∀ q ∈ ([(4, K_X7_kind), (19, K_X7_pass)] : List (Nat × kCtr)), k_call X (gE g tys B0 GI) 1 τ q.2 q.1 from List.forall_mem_cons.mpr ⟨k_callV (cc := cX5_passIf) (C := RX7) hF hK hts gGood (C_X7_kind hE hT) wk_X7_kind.1 wk_X7_kind.2.1 wl_RX5_48 wk_X7_kind.2.2.1 wk_X7_kind.2.2.2 rfl rfl rfl rfl rfl wd_X7_kind ⟨by rw [hr]; decide, by rw [hr]; decide⟩ (dec_X5_passIf (4, .invokevirtual 48, 3) (List.mem_of_getElem? (i := 2) rfl)),
    List.forall_mem_cons.mpr ⟨k_callV (cc := cX5_passIf) (C := RX7) hF hK hts gGood (C_X7_pass hE hT) wk_X7_pass.1 wk_X7_pass.2.1 wl_RX5_55 wk_X7_pass.2.2.1 wk_X7_pass.2.2.2 rfl rfl rfl rfl rfl wd_X7_pass ⟨by rw [hr]; decide, by rw [hr]; decide⟩ (dec_X5_passIf (19, .invokevirtual 55, 3) (List.mem_of_getElem? (i := 9) rfl)),
    List.forall_mem_nil _⟩⟩), hE, hT⟩) dec_X5_passIf chk_X5_passIf
theorem C_X5_readGo (hE : k_Eok (gE g tys B0 GI)) (hT : k_tys (gE g tys B0 GI)) : k_Met l (gE g tys B0 GI) τ gTB yX5_readGo cX5_readGo 2 2 K_X5_readGo ⟨19, 0, 0, 666⟩ :=
  k_met (M := M_X5_readGo) (by decide +kernel) (fun X hl hr hF hts hK => ⟨gFLk5 hts, gCIk5 hts, gCJk5 hts, (show ∀ q ∈ ([(4, K_X7_kind), (18, K_X7_refuse), (26, K_X7_pass), (42, K_X5_readSum)] : List (Nat × kCtr)), k_call X (gE g tys B0 GI) 2 τ q.2 q.1 from List.forall_mem_cons.mpr ⟨k_callV (cc := cX5_readGo) (C := RX7) hF hK hts gGood (C_X7_kind hE hT) wk_X7_kind.1 wk_X7_kind.2.1 wl_RX5_48 wk_X7_kind.2.2.1 wk_X7_kind.2.2.2 rfl rfl rfl rfl rfl wd_X7_kind ⟨by rw [hr]; decide, by rw [hr]; decide⟩ (dec_X5_readGo (4, .invokevirtual 48, 3) (List.mem_of_getElem? (i := 2) rfl)),
    List.forall_mem_cons.mpr ⟨k_callV (cc := cX5_readGo) (C := RX7) hF hK hts gGood (C_X7_refuse hE hT) wk_X7_refuse.1 wk_X7_refuse.2.1 wl_RX5_52 wk_X7_refuse.2.2.1 wk_X7_refuse.2.2.2 rfl rfl rfl rfl rfl wd_X7_refuse ⟨by rw [hr]; decide, by rw [hr]; decide⟩ (dec_X5_readGo (18, .invokevirtual 52, 3) (List.mem_of_getElem? (i := 8) rfl)),
    List.forall_mem_cons.mpr ⟨k_callV (cc := cX5_readGo) (C := RX7) hF hK hts gGood (C_X7_pass hE hT) wk_X7_pass.1 wk_X7_pass.2.1 wl_RX5_55 wk_X7_pass.2.2.1 wk_X7_pass.2.2.2 rfl rfl rfl rfl rfl wd_X7_pass ⟨by rw [hr]; decide, by rw [hr]; decide⟩ (dec_X5_readGo (26, .invokevirtual 55, 3) (List.mem_of_getElem? (i := 12) rfl)),
    List.forall_mem_cons.mpr ⟨k_callV (cc := cX5_readGo) (C := RX5) hF hK hts gGood (C_X5_readSum hE hT) wk_X5_readSum.1 wk_X5_readSum.2.1 wl_RX5_69 wk_X5_readSum.2.2.1 wk_X5_readSum.2.2.2 rfl rfl rfl rfl rfl wd_X5_readSum ⟨by rw [hr]; decide, by rw [hr]; decide⟩ (dec_X5_readGo (42, .invokevirtual 69, 3) (List.mem_of_getElem? (i := 22) rfl)),
    List.forall_mem_nil _⟩⟩⟩⟩), hE, hT⟩) dec_X5_readGo chk_X5_readGo
theorem wl_RX5_22 : Jvm.Cond.methodLink RX5 22 yX7_scan ∈ gTB := gIn (i := 786) (by decide +kernel) (by decide +kernel)
theorem wl_RX5_34 : Jvm.Cond.methodLink RX5 34 yX5_readGo ∈ gTB := gIn (i := 787) (by decide +kernel) (by decide +kernel)
theorem wk_X5_readGo : Jvm.Cond.code yX5_readGo cX5_readGo 2 (k_rty 2) ∈ gTB ∧ Jvm.Cond.initialized yX5_readGo.cls ∈ gTB ∧ Jvm.Cond.instanceMethod yX5_readGo ∈ gTB ∧ Jvm.Cond.selects RX5 yX5_readGo yX5_readGo ∈ gTB := ⟨gIn (i := 790) (by decide +kernel) (by decide +kernel), gIn (i := 132) (by decide +kernel) (by decide +kernel), gIn (i := 789) (by decide +kernel) (by decide +kernel), gIn (i := 12) (by decide +kernel) (by decide +kernel)⟩
theorem wd_X5_readGo : yX5_readGo.cls ≠ "java/lang/invoke/MethodHandle" ∧ yX5_readGo.cls ≠ "java/lang/invoke/VarHandle" ∧ (parseMethodDescriptor yX5_readGo.desc).map (fun d => d.parameters.length) = some 1 := by decide +kernel
theorem wl_RX5_38 : Jvm.Cond.methodLink RX5 38 yX5_passIf ∈ gTB := gIn (i := 810) (by decide +kernel) (by decide +kernel)
theorem wk_X5_passIf : Jvm.Cond.code yX5_passIf cX5_passIf 1 (k_rty 2) ∈ gTB ∧ Jvm.Cond.initialized yX5_passIf.cls ∈ gTB ∧ Jvm.Cond.instanceMethod yX5_passIf ∈ gTB ∧ Jvm.Cond.selects RX5 yX5_passIf yX5_passIf ∈ gTB := ⟨gIn (i := 813) (by decide +kernel) (by decide +kernel), gIn (i := 132) (by decide +kernel) (by decide +kernel), gIn (i := 812) (by decide +kernel) (by decide +kernel), gIn (i := 16) (by decide +kernel) (by decide +kernel)⟩
theorem wd_X5_passIf : yX5_passIf.cls ≠ "java/lang/invoke/MethodHandle" ∧ yX5_passIf.cls ≠ "java/lang/invoke/VarHandle" ∧ (parseMethodDescriptor yX5_passIf.desc).map (fun d => d.parameters.length) = some 0 := by decide +kernel
theorem C_X5_read (hE : k_Eok (gE g tys B0 GI)) (hT : k_tys (gE g tys B0 GI)) : k_Met l (gE g tys B0 GI) τ gTB yX5_read cX5_read 2 2 K_X5_read ⟨42, 0, 0, 1193⟩ :=
  k_met (M := M_X5_read) (by decide +kernel) (fun X hl hr hF hts hK => ⟨gFLk5 hts, gCIk5 hts, gCJk5 hts, (show ∀ q ∈ ([(4, K_X7_scan), (27, K_X5_readGo), (34, K_X5_passIf), (42, K_X5_readTest_0), (75, K_X7_kind), (88, K_X7_kind), (101, K_X7_refuse), (109, K_X7_pass), (126, K_X7_kind), (140, K_X7_refuse)] : List (Nat × kCtr)), k_call X (gE g tys B0 GI) 2 τ q.2 q.1 from List.forall_mem_cons.mpr ⟨k_callV (cc := cX5_read) (C := RX7) hF hK hts gGood (C_X7_scan hE hT) wk_X7_scan.1 wk_X7_scan.2.1 wl_RX5_22 wk_X7_scan.2.2.1 wk_X7_scan.2.2.2 rfl rfl rfl rfl rfl wd_X7_scan ⟨by rw [hr]; decide, by rw [hr]; decide⟩ (dec_X5_read (4, .invokevirtual 22, 3) (List.mem_of_getElem? (i := 2) rfl)),
    List.forall_mem_cons.mpr ⟨k_callV (cc := cX5_read) (C := RX5) hF hK hts gGood (C_X5_readGo hE hT) wk_X5_readGo.1 wk_X5_readGo.2.1 wl_RX5_34 wk_X5_readGo.2.2.1 wk_X5_readGo.2.2.2 rfl rfl rfl rfl rfl wd_X5_readGo ⟨by rw [hr]; decide, by rw [hr]; decide⟩ (dec_X5_read (27, .invokevirtual 34, 3) (List.mem_of_getElem? (i := 16) rfl)),
    List.forall_mem_cons.mpr ⟨k_callV (cc := cX5_read) (C := RX5) hF hK hts gGood (C_X5_passIf hE hT) wk_X5_passIf.1 wk_X5_passIf.2.1 wl_RX5_38 wk_X5_passIf.2.2.1 wk_X5_passIf.2.2.2 rfl rfl rfl rfl rfl wd_X5_passIf ⟨by rw [hr]; decide, by rw [hr]; decide⟩ (dec_X5_read (34, .invokevirtual 38, 3) (List.mem_of_getElem? (i := 19) rfl)),
    List.forall_mem_cons.mpr ⟨k_callV (cc := cX5_read) (C := RX5) hF hK hts gGood (C_X5_readTest_0 hE hT) wk_X5_readTest.1 wk_X5_readTest.2.1 wl_RX5_42 wk_X5_readTest.2.2.1 wk_X5_readTest.2.2.2 rfl rfl rfl rfl rfl wd_X5_readTest ⟨by rw [hr]; decide, by rw [hr]; decide⟩ (dec_X5_read (42, .invokevirtual 42, 3) (List.mem_of_getElem? (i := 23) rfl)),
    List.forall_mem_cons.mpr ⟨k_callV (cc := cX5_read) (C := RX7) hF hK hts gGood (C_X7_kind hE hT) wk_X7_kind.1 wk_X7_kind.2.1 wl_RX5_48 wk_X7_kind.2.2.1 wk_X7_kind.2.2.2 rfl rfl rfl rfl rfl wd_X7_kind ⟨by rw [hr]; decide, by rw [hr]; decide⟩ (dec_X5_read (75, .invokevirtual 48, 3) (List.mem_of_getElem? (i := 44) rfl)),
    List.forall_mem_cons.mpr ⟨k_callV (cc := cX5_read) (C := RX7) hF hK hts gGood (C_X7_kind hE hT) wk_X7_kind.1 wk_X7_kind.2.1 wl_RX5_48 wk_X7_kind.2.2.1 wk_X7_kind.2.2.2 rfl rfl rfl rfl rfl wd_X7_kind ⟨by rw [hr]; decide, by rw [hr]; decide⟩ (dec_X5_read (88, .invokevirtual 48, 3) (List.mem_of_getElem? (i := 51) rfl)),
    List.forall_mem_cons.mpr ⟨k_callV (cc := cX5_read) (C := RX7) hF hK hts gGood (C_X7_refuse hE hT) wk_X7_refuse.1 wk_X7_refuse.2.1 wl_RX5_52 wk_X7_refuse.2.2.1 wk_X7_refuse.2.2.2 rfl rfl rfl rfl rfl wd_X7_refuse ⟨by rw [hr]; decide, by rw [hr]; decide⟩ (dec_X5_read (101, .invokevirtual 52, 3) (List.mem_of_getElem? (i := 57) rfl)),
    List.forall_mem_cons.mpr ⟨k_callV (cc := cX5_read) (C := RX7) hF hK hts gGood (C_X7_pass hE hT) wk_X7_pass.1 wk_X7_pass.2.1 wl_RX5_55 wk_X7_pass.2.2.1 wk_X7_pass.2.2.2 rfl rfl rfl rfl rfl wd_X7_pass ⟨by rw [hr]; decide, by rw [hr]; decide⟩ (dec_X5_read (109, .invokevirtual 55, 3) (List.mem_of_getElem? (i := 61) rfl)),
    List.forall_mem_cons.mpr ⟨k_callV (cc := cX5_read) (C := RX7) hF hK hts gGood (C_X7_kind hE hT) wk_X7_kind.1 wk_X7_kind.2.1 wl_RX5_48 wk_X7_kind.2.2.1 wk_X7_kind.2.2.2 rfl rfl rfl rfl rfl wd_X7_kind ⟨by rw [hr]; decide, by rw [hr]; decide⟩ (dec_X5_read (126, .invokevirtual 48, 3) (List.mem_of_getElem? (i := 68) rfl)),
    List.forall_mem_cons.mpr ⟨k_callV (cc := cX5_read) (C := RX7) hF hK hts gGood (C_X7_refuse hE hT) wk_X7_refuse.1 wk_X7_refuse.2.1 wl_RX5_52 wk_X7_refuse.2.2.1 wk_X7_refuse.2.2.2 rfl rfl rfl rfl rfl wd_X7_refuse ⟨by rw [hr]; decide, by rw [hr]; decide⟩ (dec_X5_read (140, .invokevirtual 52, 3) (List.mem_of_getElem? (i := 74) rfl)),
    List.forall_mem_nil _⟩⟩⟩⟩⟩⟩⟩⟩⟩⟩), hE, hT⟩) dec_X5_read chk_X5_read
theorem C_X11_isHouse (hE : k_Eok (gE g tys B0 GI)) (hT : k_tys (gE g tys B0 GI)) : k_Met l (gE g tys B0 GI) τ gTB yX11_isHouse cX11_isHouse 2 2 K_X11_isHouse ⟨0, 0, 0, 0⟩ :=
  k_met (M := M_X11_isHouse) (by decide +kernel) (fun X hl hr hF hts hK => ⟨gFLk11 hts, gCIk11 hts, gCJk11 hts, (show ∀ q ∈ ([] : List (Nat × kCtr)), k_call X (gE g tys B0 GI) 2 τ q.2 q.1 from List.forall_mem_nil _), hE, hT⟩) dec_X11_isHouse chk_X11_isHouse
theorem C_X11_isPlace (hE : k_Eok (gE g tys B0 GI)) (hT : k_tys (gE g tys B0 GI)) : k_Met l (gE g tys B0 GI) τ gTB yX11_isPlace cX11_isPlace 2 2 K_X11_isPlace ⟨0, 0, 0, 0⟩ :=
  k_met (M := M_X11_isPlace) (by decide +kernel) (fun X hl hr hF hts hK => ⟨gFLk11 hts, gCIk11 hts, gCJk11 hts, (show ∀ q ∈ ([] : List (Nat × kCtr)), k_call X (gE g tys B0 GI) 2 τ q.2 q.1 from List.forall_mem_nil _), hE, hT⟩) dec_X11_isPlace chk_X11_isPlace
theorem C_X11_isAsked (hE : k_Eok (gE g tys B0 GI)) (hT : k_tys (gE g tys B0 GI)) : k_Met l (gE g tys B0 GI) τ gTB yX11_isAsked cX11_isAsked 4 2 K_X11_isAsked ⟨0, 0, 0, 0⟩ :=
  k_met (M := M_X11_isAsked) (by decide +kernel) (fun X hl hr hF hts hK => ⟨gFLk11 hts, gCIk11 hts, gCJk11 hts, (show ∀ q ∈ ([] : List (Nat × kCtr)), k_call X (gE g tys B0 GI) 4 τ q.2 q.1 from List.forall_mem_nil _), hE, hT⟩) dec_X11_isAsked chk_X11_isAsked
theorem wl_RX11_187 : Jvm.Cond.methodLink RX11 187 yX6_copyFrom ∈ gTB := gIn (i := 894) (by decide +kernel) (by decide +kernel)
theorem C_X11_keepAct (hE : k_Eok (gE g tys B0 GI)) (hT : k_tys (gE g tys B0 GI)) : k_Met l (gE g tys B0 GI) τ gTB yX11_keepAct cX11_keepAct 1 0 K_X11_keepAct ⟨2, 0, 0, 47⟩ :=
  k_met (M := M_X11_keepAct) (by decide +kernel) (fun X hl hr hF hts hK => ⟨gFLk11 hts, gCIk11 hts, gCJk11 hts, (show ∀ q ∈ ([(16, K_X6_copyFrom)] : List (Nat × kCtr)), k_call X (gE g tys B0 GI) 1 τ q.2 q.1 from List.forall_mem_cons.mpr ⟨k_callV (cc := cX11_keepAct) (C := RX6) hF hK hts gGood (C_X6_copyFrom hE hT) wk_X6_copyFrom.1 wk_X6_copyFrom.2.1 wl_RX11_187 wk_X6_copyFrom.2.2.1 wk_X6_copyFrom.2.2.2 rfl rfl rfl rfl rfl wd_X6_copyFrom ⟨by rw [hr]; decide, by rw [hr]; decide⟩ (dec_X11_keepAct (16, .invokevirtual 187, 3) (List.mem_of_getElem? (i := 8) rfl)),
    List.forall_mem_nil _⟩), hE, hT⟩) dec_X11_keepAct chk_X11_keepAct
theorem wl_RX11_94 : Jvm.Cond.methodLink RX11 94 yX7_append ∈ gTB := gIn (i := 591) (by decide +kernel) (by decide +kernel)
theorem wk_X7_append : Jvm.Cond.code yX7_append cX7_append 2 (k_rty 0) ∈ gTB ∧ Jvm.Cond.initialized yX7_append.cls ∈ gTB ∧ Jvm.Cond.instanceMethod yX7_append ∈ gTB ∧ Jvm.Cond.selects RX7 yX7_append yX7_append ∈ gTB := ⟨gIn (i := 594) (by decide +kernel) (by decide +kernel), gIn (i := 127) (by decide +kernel) (by decide +kernel), gIn (i := 592) (by decide +kernel) (by decide +kernel), gIn (i := 593) (by decide +kernel) (by decide +kernel)⟩
theorem wd_X7_append : yX7_append.cls ≠ "java/lang/invoke/MethodHandle" ∧ yX7_append.cls ≠ "java/lang/invoke/VarHandle" ∧ (parseMethodDescriptor yX7_append.desc).map (fun d => d.parameters.length) = some 1 := by decide +kernel
theorem C_X11_feed (hE : k_Eok (gE g tys B0 GI)) (hT : k_tys (gE g tys B0 GI)) : k_Met l (gE g tys B0 GI) τ gTB yX11_feed cX11_feed 6 1 K_X11_feed ⟨1, 0, 0, 21⟩ :=
  k_met (M := M_X11_feed) (by decide +kernel) (fun X hl hr hF hts hK => ⟨gFLk11 hts, gCIk11 hts, gCJk11 hts, (show ∀ q ∈ ([(20, K_X7_append), (28, K_X7_append), (36, K_X7_append), (45, K_X7_append), (54, K_X7_append)] : List (Nat × kCtr)), k_call X (gE g tys B0 GI) 6 τ q.2 q.1 from List.forall_mem_cons.mpr ⟨k_callV (cc := cX11_feed) (C := RX7) hF hK hts gGood (C_X7_append hE hT) wk_X7_append.1 wk_X7_append.2.1 wl_RX11_94 wk_X7_append.2.2.1 wk_X7_append.2.2.2 rfl rfl rfl rfl rfl wd_X7_append ⟨by rw [hr]; decide, by rw [hr]; decide⟩ (dec_X11_feed (20, .invokevirtual 94, 3) (List.mem_of_getElem? (i := 10) rfl)),
    List.forall_mem_cons.mpr ⟨k_callV (cc := cX11_feed) (C := RX7) hF hK hts gGood (C_X7_append hE hT) wk_X7_append.1 wk_X7_append.2.1 wl_RX11_94 wk_X7_append.2.2.1 wk_X7_append.2.2.2 rfl rfl rfl rfl rfl wd_X7_append ⟨by rw [hr]; decide, by rw [hr]; decide⟩ (dec_X11_feed (28, .invokevirtual 94, 3) (List.mem_of_getElem? (i := 14) rfl)),
    List.forall_mem_cons.mpr ⟨k_callV (cc := cX11_feed) (C := RX7) hF hK hts gGood (C_X7_append hE hT) wk_X7_append.1 wk_X7_append.2.1 wl_RX11_94 wk_X7_append.2.2.1 wk_X7_append.2.2.2 rfl rfl rfl rfl rfl wd_X7_append ⟨by rw [hr]; decide, by rw [hr]; decide⟩ (dec_X11_feed (36, .invokevirtual 94, 3) (List.mem_of_getElem? (i := 18) rfl)),
    List.forall_mem_cons.mpr ⟨k_callV (cc := cX11_feed) (C := RX7) hF hK hts gGood (C_X7_append hE hT) wk_X7_append.1 wk_X7_append.2.1 wl_RX11_94 wk_X7_append.2.2.1 wk_X7_append.2.2.2 rfl rfl rfl rfl rfl wd_X7_append ⟨by rw [hr]; decide, by rw [hr]; decide⟩ (dec_X11_feed (45, .invokevirtual 94, 3) (List.mem_of_getElem? (i := 22) rfl)),
    List.forall_mem_cons.mpr ⟨k_callV (cc := cX11_feed) (C := RX7) hF hK hts gGood (C_X7_append hE hT) wk_X7_append.1 wk_X7_append.2.1 wl_RX11_94 wk_X7_append.2.2.1 wk_X7_append.2.2.2 rfl rfl rfl rfl rfl wd_X7_append ⟨by rw [hr]; decide, by rw [hr]; decide⟩ (dec_X11_feed (54, .invokevirtual 94, 3) (List.mem_of_getElem? (i := 26) rfl)),
    List.forall_mem_nil _⟩⟩⟩⟩⟩), hE, hT⟩) dec_X11_feed chk_X11_feed
theorem C_X11_end (hE : k_Eok (gE g tys B0 GI)) (hT : k_tys (gE g tys B0 GI)) : k_Met l (gE g tys B0 GI) τ gTB yX11_end cX11_end 2 1 K_X11_end ⟨0, 0, 0, 0⟩ :=
  k_met (M := M_X11_end) (by decide +kernel) (fun X hl hr hF hts hK => ⟨gFLk11 hts, gCIk11 hts, gCJk11 hts, (show ∀ q ∈ ([] : List (Nat × kCtr)), k_call X (gE g tys B0 GI) 2 τ q.2 q.1 from List.forall_mem_nil _), hE, hT⟩) dec_X11_end chk_X11_end
theorem wl_RX11_98 : Jvm.Cond.methodLink RX11 98 yX9_read ∈ gTB := gIn (i := 603) (by decide +kernel) (by decide +kernel)
theorem wk_X9_read : Jvm.Cond.code yX9_read cX9_read 2 (k_rty 2) ∈ gTB ∧ Jvm.Cond.initialized yX9_read.cls ∈ gTB ∧ Jvm.Cond.instanceMethod yX9_read ∈ gTB ∧ Jvm.Cond.selects RX9 yX9_read yX9_read ∈ gTB := ⟨gIn (i := 606) (by decide +kernel) (by decide +kernel), gIn (i := 131) (by decide +kernel) (by decide +kernel), gIn (i := 604) (by decide +kernel) (by decide +kernel), gIn (i := 605) (by decide +kernel) (by decide +kernel)⟩
theorem wd_X9_read : yX9_read.cls ≠ "java/lang/invoke/MethodHandle" ∧ yX9_read.cls ≠ "java/lang/invoke/VarHandle" ∧ (parseMethodDescriptor yX9_read.desc).map (fun d => d.parameters.length) = some 0 := by decide +kernel
theorem wl_RX11_110 : Jvm.Cond.methodLink RX11 110 yX8_copyFrom ∈ gTB := gIn (i := 766) (by decide +kernel) (by decide +kernel)
theorem wl_RX11_120 : Jvm.Cond.methodLink RX11 120 yX6_startOf ∈ gTB := gIn (i := 773) (by decide +kernel) (by decide +kernel)
theorem C_X11_valley (hE : k_Eok (gE g tys B0 GI)) (hT : k_tys (gE g tys B0 GI)) : k_Met l (gE g tys B0 GI) τ gTB yX11_valley cX11_valley 1 1 K_X11_valley ⟨20, 0, 0, 692⟩ :=
  k_met (M := M_X11_valley) (by decide +kernel) (fun X hl hr hF hts hK => ⟨gFLk11 hts, gCIk11 hts, gCJk11 hts, (show ∀ q ∈ ([(4, K_X9_read), (35, K_X8_copyFrom), (52, K_X6_startOf)] : List (Nat × kCtr)), k_call X (gE g tys B0 GI) 1 τ q.2 q.1 from List.forall_mem_cons.mpr ⟨k_callV (cc := cX11_valley) (C := RX9) hF hK hts gGood (C_X9_read hE hT) wk_X9_read.1 wk_X9_read.2.1 wl_RX11_98 wk_X9_read.2.2.1 wk_X9_read.2.2.2 rfl rfl rfl rfl rfl wd_X9_read ⟨by rw [hr]; decide, by rw [hr]; decide⟩ (dec_X11_valley (4, .invokevirtual 98, 3) (List.mem_of_getElem? (i := 2) rfl)),
    List.forall_mem_cons.mpr ⟨k_callV (cc := cX11_valley) (C := RX8) hF hK hts gGood (C_X8_copyFrom hE hT) wk_X8_copyFrom.1 wk_X8_copyFrom.2.1 wl_RX11_110 wk_X8_copyFrom.2.2.1 wk_X8_copyFrom.2.2.2 rfl rfl rfl rfl rfl wd_X8_copyFrom ⟨by rw [hr]; decide, by rw [hr]; decide⟩ (dec_X11_valley (35, .invokevirtual 110, 3) (List.mem_of_getElem? (i := 16) rfl)),
    List.forall_mem_cons.mpr ⟨k_callV (cc := cX11_valley) (C := RX6) hF hK hts gGood (C_X6_startOf hE hT) wk_X6_startOf.1 wk_X6_startOf.2.1 wl_RX11_120 wk_X6_startOf.2.2.1 wk_X6_startOf.2.2.2 rfl rfl rfl rfl rfl wd_X6_startOf ⟨by rw [hr]; decide, by rw [hr]; decide⟩ (dec_X11_valley (52, .invokevirtual 120, 3) (List.mem_of_getElem? (i := 23) rfl)),
    List.forall_mem_nil _⟩⟩⟩), hE, hT⟩) dec_X11_valley chk_X11_valley
theorem C_X11_force (hE : k_Eok (gE g tys B0 GI)) (hT : k_tys (gE g tys B0 GI)) : k_Met l (gE g tys B0 GI) τ gTB yX11_force cX11_force 3 1 K_X11_force ⟨0, 0, 0, 0⟩ :=
  k_met (M := M_X11_force) (by decide +kernel) (fun X hl hr hF hts hK => ⟨gFLk11 hts, gCIk11 hts, gCJk11 hts, (show ∀ q ∈ ([] : List (Nat × kCtr)), k_call X (gE g tys B0 GI) 3 τ q.2 q.1 from List.forall_mem_nil _), hE, hT⟩) dec_X11_force chk_X11_force
theorem wl_RX11_143 : Jvm.Cond.methodLink RX11 143 yX11_isHouse ∈ gTB := gIn (i := 874) (by decide +kernel) (by decide +kernel)
theorem wk_X11_isHouse : Jvm.Cond.code yX11_isHouse cX11_isHouse 2 (k_rty 2) ∈ gTB ∧ Jvm.Cond.initialized yX11_isHouse.cls ∈ gTB ∧ Jvm.Cond.instanceMethod yX11_isHouse ∈ gTB ∧ Jvm.Cond.selects RX11 yX11_isHouse yX11_isHouse ∈ gTB := ⟨gIn (i := 877) (by decide +kernel) (by decide +kernel), gIn (i := 126) (by decide +kernel) (by decide +kernel), gIn (i := 876) (by decide +kernel) (by decide +kernel), gIn (i := 20) (by decide +kernel) (by decide +kernel)⟩
theorem wd_X11_isHouse : yX11_isHouse.cls ≠ "java/lang/invoke/MethodHandle" ∧ yX11_isHouse.cls ≠ "java/lang/invoke/VarHandle" ∧ (parseMethodDescriptor yX11_isHouse.desc).map (fun d => d.parameters.length) = some 1 := by decide +kernel
theorem C_X11_house (hE : k_Eok (gE g tys B0 GI)) (hT : k_tys (gE g tys B0 GI)) : k_Met l (gE g tys B0 GI) τ gTB yX11_house cX11_house 3 1 K_X11_house ⟨1, 0, 0, 21⟩ :=
  k_met (M := M_X11_house) (by decide +kernel) (fun X hl hr hF hts hK => ⟨gFLk11 hts, gCIk11 hts, gCJk11 hts, (show ∀ q ∈ ([(2, K_X11_isHouse)] : List (Nat × kCtr)), k_call X (gE g tys B0 GI) 3 τ q.2 q.1 from List.forall_mem_cons.mpr ⟨k_callV (cc := cX11_house) (C := RX11) hF hK hts gGood (C_X11_isHouse hE hT) wk_X11_isHouse.1 wk_X11_isHouse.2.1 wl_RX11_143 wk_X11_isHouse.2.2.1 wk_X11_isHouse.2.2.2 rfl rfl rfl rfl rfl wd_X11_isHouse ⟨by rw [hr]; decide, by rw [hr]; decide⟩ (dec_X11_house (2, .invokevirtual 143, 3) (List.mem_of_getElem? (i := 2) rfl)),
    List.forall_mem_nil _⟩), hE, hT⟩) dec_X11_house chk_X11_house
theorem wl_RX11_163 : Jvm.Cond.methodLink RX11 163 yX11_isPlace ∈ gTB := gIn (i := 882) (by decide +kernel) (by decide +kernel)
theorem wk_X11_isPlace : Jvm.Cond.code yX11_isPlace cX11_isPlace 2 (k_rty 2) ∈ gTB ∧ Jvm.Cond.initialized yX11_isPlace.cls ∈ gTB ∧ Jvm.Cond.instanceMethod yX11_isPlace ∈ gTB ∧ Jvm.Cond.selects RX11 yX11_isPlace yX11_isPlace ∈ gTB := ⟨gIn (i := 885) (by decide +kernel) (by decide +kernel), gIn (i := 126) (by decide +kernel) (by decide +kernel), gIn (i := 884) (by decide +kernel) (by decide +kernel), gIn (i := 21) (by decide +kernel) (by decide +kernel)⟩
theorem wd_X11_isPlace : yX11_isPlace.cls ≠ "java/lang/invoke/MethodHandle" ∧ yX11_isPlace.cls ≠ "java/lang/invoke/VarHandle" ∧ (parseMethodDescriptor yX11_isPlace.desc).map (fun d => d.parameters.length) = some 1 := by decide +kernel
theorem C_X11_far (hE : k_Eok (gE g tys B0 GI)) (hT : k_tys (gE g tys B0 GI)) : k_Met l (gE g tys B0 GI) τ gTB yX11_far cX11_far 3 1 K_X11_far ⟨1, 0, 0, 21⟩ :=
  k_met (M := M_X11_far) (by decide +kernel) (fun X hl hr hF hts hK => ⟨gFLk11 hts, gCIk11 hts, gCJk11 hts, (show ∀ q ∈ ([(2, K_X11_isPlace), (10, K_X11_isPlace)] : List (Nat × kCtr)), k_call X (gE g tys B0 GI) 3 τ q.2 q.1 from List.forall_mem_cons.mpr ⟨k_callV (cc := cX11_far) (C := RX11) hF hK hts gGood (C_X11_isPlace hE hT) wk_X11_isPlace.1 wk_X11_isPlace.2.1 wl_RX11_163 wk_X11_isPlace.2.2.1 wk_X11_isPlace.2.2.2 rfl rfl rfl rfl rfl wd_X11_isPlace ⟨by rw [hr]; decide, by rw [hr]; decide⟩ (dec_X11_far (2, .invokevirtual 163, 3) (List.mem_of_getElem? (i := 2) rfl)),
    List.forall_mem_cons.mpr ⟨k_callV (cc := cX11_far) (C := RX11) hF hK hts gGood (C_X11_isPlace hE hT) wk_X11_isPlace.1 wk_X11_isPlace.2.1 wl_RX11_163 wk_X11_isPlace.2.2.1 wk_X11_isPlace.2.2.2 rfl rfl rfl rfl rfl wd_X11_isPlace ⟨by rw [hr]; decide, by rw [hr]; decide⟩ (dec_X11_far (10, .invokevirtual 163, 3) (List.mem_of_getElem? (i := 6) rfl)),
    List.forall_mem_nil _⟩⟩), hE, hT⟩) dec_X11_far chk_X11_far
theorem wl_RX11_176 : Jvm.Cond.methodLink RX11 176 yX11_keepAct ∈ gTB := gIn (i := 890) (by decide +kernel) (by decide +kernel)
theorem wk_X11_keepAct : Jvm.Cond.code yX11_keepAct cX11_keepAct 1 (k_rty 0) ∈ gTB ∧ Jvm.Cond.initialized yX11_keepAct.cls ∈ gTB ∧ Jvm.Cond.instanceMethod yX11_keepAct ∈ gTB ∧ Jvm.Cond.selects RX11 yX11_keepAct yX11_keepAct ∈ gTB := ⟨gIn (i := 893) (by decide +kernel) (by decide +kernel), gIn (i := 126) (by decide +kernel) (by decide +kernel), gIn (i := 892) (by decide +kernel) (by decide +kernel), gIn (i := 22) (by decide +kernel) (by decide +kernel)⟩
theorem wd_X11_keepAct : yX11_keepAct.cls ≠ "java/lang/invoke/MethodHandle" ∧ yX11_keepAct.cls ≠ "java/lang/invoke/VarHandle" ∧ (parseMethodDescriptor yX11_keepAct.desc).map (fun d => d.parameters.length) = some 0 := by decide +kernel
theorem wl_RX11_179 : Jvm.Cond.methodLink RX11 179 yX1_beginNow ∈ gTB := gIn (i := 898) (by decide +kernel) (by decide +kernel)
theorem wl_RX11_182 : Jvm.Cond.methodLink RX11 182 yX1_goOneHour ∈ gTB := gIn (i := 907) (by decide +kernel) (by decide +kernel)
theorem C_X11_hour (hE : k_Eok (gE g tys B0 GI)) (hT : k_tys (gE g tys B0 GI)) : k_Met l (gE g tys B0 GI) τ gTB yX11_hour cX11_hour 2 1 K_X11_hour ⟨19, 0, 0, 671⟩ :=
  k_met (M := M_X11_hour) (by decide +kernel) (fun X hl hr hF hts hK => ⟨gFLk11 hts, gCIk11 hts, gCJk11 hts, (show ∀ q ∈ ([(32, K_X11_keepAct), (39, K_X1_beginNow), (46, K_X1_goOneHour), (64, K_X6_copyFrom)] : List (Nat × kCtr)), k_call X (gE g tys B0 GI) 2 τ q.2 q.1 from List.forall_mem_cons.mpr ⟨k_callV (cc := cX11_hour) (C := RX11) hF hK hts gGood (C_X11_keepAct hE hT) wk_X11_keepAct.1 wk_X11_keepAct.2.1 wl_RX11_176 wk_X11_keepAct.2.2.1 wk_X11_keepAct.2.2.2 rfl rfl rfl rfl rfl wd_X11_keepAct ⟨by rw [hr]; decide, by rw [hr]; decide⟩ (dec_X11_hour (32, .invokevirtual 176, 3) (List.mem_of_getElem? (i := 14) rfl)),
    List.forall_mem_cons.mpr ⟨k_callV (cc := cX11_hour) (C := RX1) hF hK hts gGood (C_X1_beginNow hE hT) wk_X1_beginNow.1 wk_X1_beginNow.2.1 wl_RX11_179 wk_X1_beginNow.2.2.1 wk_X1_beginNow.2.2.2 rfl rfl rfl rfl rfl wd_X1_beginNow ⟨by rw [hr]; decide, by rw [hr]; decide⟩ (dec_X11_hour (39, .invokevirtual 179, 3) (List.mem_of_getElem? (i := 17) rfl)),
    List.forall_mem_cons.mpr ⟨k_callV (cc := cX11_hour) (C := RX1) hF hK hts gGood (C_X1_goOneHour hE hT) wk_X1_goOneHour.1 wk_X1_goOneHour.2.1 wl_RX11_182 wk_X1_goOneHour.2.2.1 wk_X1_goOneHour.2.2.2 rfl rfl rfl rfl rfl wd_X1_goOneHour ⟨by rw [hr]; decide, by rw [hr]; decide⟩ (dec_X11_hour (46, .invokevirtual 182, 3) (List.mem_of_getElem? (i := 20) rfl)),
    List.forall_mem_cons.mpr ⟨k_callV (cc := cX11_hour) (C := RX6) hF hK hts gGood (C_X6_copyFrom hE hT) wk_X6_copyFrom.1 wk_X6_copyFrom.2.1 wl_RX11_187 wk_X6_copyFrom.2.2.1 wk_X6_copyFrom.2.2.2 rfl rfl rfl rfl rfl wd_X6_copyFrom ⟨by rw [hr]; decide, by rw [hr]; decide⟩ (dec_X11_hour (64, .invokevirtual 187, 3) (List.mem_of_getElem? (i := 28) rfl)),
    List.forall_mem_nil _⟩⟩⟩⟩), hE, hT⟩) dec_X11_hour chk_X11_hour
theorem wl_RX11_190 : Jvm.Cond.methodLink RX11 190 yX6_canCatch ∈ gTB := gIn (i := 988) (by decide +kernel) (by decide +kernel)
theorem C_X11_light (hE : k_Eok (gE g tys B0 GI)) (hT : k_tys (gE g tys B0 GI)) : k_Met l (gE g tys B0 GI) τ gTB yX11_light cX11_light 2 1 K_X11_light ⟨3, 0, 0, 67⟩ :=
  k_met (M := M_X11_light) (by decide +kernel) (fun X hl hr hF hts hK => ⟨gFLk11 hts, gCIk11 hts, gCJk11 hts, (show ∀ q ∈ ([(2, K_X11_isHouse), (16, K_X6_canCatch), (25, K_X11_keepAct)] : List (Nat × kCtr)), k_call X (gE g tys B0 GI) 2 τ q.2 q.1 from List.forall_mem_cons.mpr ⟨k_callV (cc := cX11_light) (C := RX11) hF hK hts gGood (C_X11_isHouse hE hT) wk_X11_isHouse.1 wk_X11_isHouse.2.1 wl_RX11_143 wk_X11_isHouse.2.2.1 wk_X11_isHouse.2.2.2 rfl rfl rfl rfl rfl wd_X11_isHouse ⟨by rw [hr]; decide, by rw [hr]; decide⟩ (dec_X11_light (2, .invokevirtual 143, 3) (List.mem_of_getElem? (i := 2) rfl)),
    List.forall_mem_cons.mpr ⟨k_callV (cc := cX11_light) (C := RX6) hF hK hts gGood (C_X6_canCatch hE hT) wk_X6_canCatch.1 wk_X6_canCatch.2.1 wl_RX11_190 wk_X6_canCatch.2.2.1 wk_X6_canCatch.2.2.2 rfl rfl rfl rfl rfl wd_X6_canCatch ⟨by rw [hr]; decide, by rw [hr]; decide⟩ (dec_X11_light (16, .invokevirtual 190, 3) (List.mem_of_getElem? (i := 8) rfl)),
    List.forall_mem_cons.mpr ⟨k_callV (cc := cX11_light) (C := RX11) hF hK hts gGood (C_X11_keepAct hE hT) wk_X11_keepAct.1 wk_X11_keepAct.2.1 wl_RX11_176 wk_X11_keepAct.2.2.1 wk_X11_keepAct.2.2.2 rfl rfl rfl rfl rfl wd_X11_keepAct ⟨by rw [hr]; decide, by rw [hr]; decide⟩ (dec_X11_light (25, .invokevirtual 176, 3) (List.mem_of_getElem? (i := 13) rfl)),
    List.forall_mem_nil _⟩⟩⟩), hE, hT⟩) dec_X11_light chk_X11_light
theorem C_X11_douse (hE : k_Eok (gE g tys B0 GI)) (hT : k_tys (gE g tys B0 GI)) : k_Met l (gE g tys B0 GI) τ gTB yX11_douse cX11_douse 3 1 K_X11_douse ⟨3, 0, 0, 67⟩ :=
  k_met (M := M_X11_douse) (by decide +kernel) (fun X hl hr hF hts hK => ⟨gFLk11 hts, gCIk11 hts, gCJk11 hts, (show ∀ q ∈ ([(2, K_X11_isHouse), (26, K_X11_keepAct)] : List (Nat × kCtr)), k_call X (gE g tys B0 GI) 3 τ q.2 q.1 from List.forall_mem_cons.mpr ⟨k_callV (cc := cX11_douse) (C := RX11) hF hK hts gGood (C_X11_isHouse hE hT) wk_X11_isHouse.1 wk_X11_isHouse.2.1 wl_RX11_143 wk_X11_isHouse.2.2.1 wk_X11_isHouse.2.2.2 rfl rfl rfl rfl rfl wd_X11_isHouse ⟨by rw [hr]; decide, by rw [hr]; decide⟩ (dec_X11_douse (2, .invokevirtual 143, 3) (List.mem_of_getElem? (i := 2) rfl)),
    List.forall_mem_cons.mpr ⟨k_callV (cc := cX11_douse) (C := RX11) hF hK hts gGood (C_X11_keepAct hE hT) wk_X11_keepAct.1 wk_X11_keepAct.2.1 wl_RX11_176 wk_X11_keepAct.2.2.1 wk_X11_keepAct.2.2.2 rfl rfl rfl rfl rfl wd_X11_keepAct ⟨by rw [hr]; decide, by rw [hr]; decide⟩ (dec_X11_douse (26, .invokevirtual 176, 3) (List.mem_of_getElem? (i := 14) rfl)),
    List.forall_mem_nil _⟩⟩), hE, hT⟩) dec_X11_douse chk_X11_douse
theorem C_X11_say (hE : k_Eok (gE g tys B0 GI)) (hT : k_tys (gE g tys B0 GI)) : k_Met l (gE g tys B0 GI) τ gTB yX11_say cX11_say 4 1 K_X11_say ⟨3, 0, 0, 67⟩ :=
  k_met (M := M_X11_say) (by decide +kernel) (fun X hl hr hF hts hK => ⟨gFLk11 hts, gCIk11 hts, gCJk11 hts, (show ∀ q ∈ ([(2, K_X11_isHouse), (37, K_X11_keepAct)] : List (Nat × kCtr)), k_call X (gE g tys B0 GI) 4 τ q.2 q.1 from List.forall_mem_cons.mpr ⟨k_callV (cc := cX11_say) (C := RX11) hF hK hts gGood (C_X11_isHouse hE hT) wk_X11_isHouse.1 wk_X11_isHouse.2.1 wl_RX11_143 wk_X11_isHouse.2.2.1 wk_X11_isHouse.2.2.2 rfl rfl rfl rfl rfl wd_X11_isHouse ⟨by rw [hr]; decide, by rw [hr]; decide⟩ (dec_X11_say (2, .invokevirtual 143, 3) (List.mem_of_getElem? (i := 2) rfl)),
    List.forall_mem_cons.mpr ⟨k_callV (cc := cX11_say) (C := RX11) hF hK hts gGood (C_X11_keepAct hE hT) wk_X11_keepAct.1 wk_X11_keepAct.2.1 wl_RX11_176 wk_X11_keepAct.2.2.1 wk_X11_keepAct.2.2.2 rfl rfl rfl rfl rfl wd_X11_keepAct ⟨by rw [hr]; decide, by rw [hr]; decide⟩ (dec_X11_say (37, .invokevirtual 176, 3) (List.mem_of_getElem? (i := 20) rfl)),
    List.forall_mem_nil _⟩⟩), hE, hT⟩) dec_X11_say chk_X11_say
theorem wl_RX11_199 : Jvm.Cond.methodLink RX11 199 yX11_far ∈ gTB := gIn (i := 1004) (by decide +kernel) (by decide +kernel)
theorem wk_X11_far : Jvm.Cond.code yX11_far cX11_far 3 (k_rty 1) ∈ gTB ∧ Jvm.Cond.initialized yX11_far.cls ∈ gTB ∧ Jvm.Cond.instanceMethod yX11_far ∈ gTB ∧ Jvm.Cond.selects RX11 yX11_far yX11_far ∈ gTB := ⟨gIn (i := 881) (by decide +kernel) (by decide +kernel), gIn (i := 126) (by decide +kernel) (by decide +kernel), gIn (i := 879) (by decide +kernel) (by decide +kernel), gIn (i := 880) (by decide +kernel) (by decide +kernel)⟩
theorem wd_X11_far : yX11_far.cls ≠ "java/lang/invoke/MethodHandle" ∧ yX11_far.cls ≠ "java/lang/invoke/VarHandle" ∧ (parseMethodDescriptor yX11_far.desc).map (fun d => d.parameters.length) = some 2 := by decide +kernel
theorem wl_RX11_203 : Jvm.Cond.methodLink RX11 203 yX6_setOut ∈ gTB := gIn (i := 1005) (by decide +kernel) (by decide +kernel)
theorem C_X11_send (hE : k_Eok (gE g tys B0 GI)) (hT : k_tys (gE g tys B0 GI)) : k_Met l (gE g tys B0 GI) τ gTB yX11_send cX11_send 3 1 K_X11_send ⟨3, 0, 0, 67⟩ :=
  k_met (M := M_X11_send) (by decide +kernel) (fun X hl hr hF hts hK => ⟨gFLk11 hts, gCIk11 hts, gCJk11 hts, (show ∀ q ∈ ([(2, K_X11_isHouse), (38, K_X11_far), (49, K_X11_keepAct), (63, K_X6_setOut)] : List (Nat × kCtr)), k_call X (gE g tys B0 GI) 3 τ q.2 q.1 from List.forall_mem_cons.mpr ⟨k_callV (cc := cX11_send) (C := RX11) hF hK hts gGood (C_X11_isHouse hE hT) wk_X11_isHouse.1 wk_X11_isHouse.2.1 wl_RX11_143 wk_X11_isHouse.2.2.1 wk_X11_isHouse.2.2.2 rfl rfl rfl rfl rfl wd_X11_isHouse ⟨by rw [hr]; decide, by rw [hr]; decide⟩ (dec_X11_send (2, .invokevirtual 143, 3) (List.mem_of_getElem? (i := 2) rfl)),
    List.forall_mem_cons.mpr ⟨k_callV (cc := cX11_send) (C := RX11) hF hK hts gGood (C_X11_far hE hT) wk_X11_far.1 wk_X11_far.2.1 wl_RX11_199 wk_X11_far.2.2.1 wk_X11_far.2.2.2 rfl rfl rfl rfl rfl wd_X11_far ⟨by rw [hr]; decide, by rw [hr]; decide⟩ (dec_X11_send (38, .invokevirtual 199, 3) (List.mem_of_getElem? (i := 20) rfl)),
    List.forall_mem_cons.mpr ⟨k_callV (cc := cX11_send) (C := RX11) hF hK hts gGood (C_X11_keepAct hE hT) wk_X11_keepAct.1 wk_X11_keepAct.2.1 wl_RX11_176 wk_X11_keepAct.2.2.1 wk_X11_keepAct.2.2.2 rfl rfl rfl rfl rfl wd_X11_keepAct ⟨by rw [hr]; decide, by rw [hr]; decide⟩ (dec_X11_send (49, .invokevirtual 176, 3) (List.mem_of_getElem? (i := 27) rfl)),
    List.forall_mem_cons.mpr ⟨k_callV (cc := cX11_send) (C := RX6) hF hK hts gGood (C_X6_setOut hE hT) wk_X6_setOut.1 wk_X6_setOut.2.1 wl_RX11_203 wk_X6_setOut.2.2.1 wk_X6_setOut.2.2.2 rfl rfl rfl rfl rfl wd_X6_setOut ⟨by rw [hr]; decide, by rw [hr]; decide⟩ (dec_X11_send (63, .invokevirtual 203, 3) (List.mem_of_getElem? (i := 35) rfl)),
    List.forall_mem_nil _⟩⟩⟩⟩), hE, hT⟩) dec_X11_send chk_X11_send
theorem C_X11_undo (hE : k_Eok (gE g tys B0 GI)) (hT : k_tys (gE g tys B0 GI)) : k_Met l (gE g tys B0 GI) τ gTB yX11_undo cX11_undo 1 1 K_X11_undo ⟨2, 0, 0, 47⟩ :=
  k_met (M := M_X11_undo) (by decide +kernel) (fun X hl hr hF hts hK => ⟨gFLk11 hts, gCIk11 hts, gCJk11 hts, (show ∀ q ∈ ([(57, K_X6_copyFrom)] : List (Nat × kCtr)), k_call X (gE g tys B0 GI) 1 τ q.2 q.1 from List.forall_mem_cons.mpr ⟨k_callV (cc := cX11_undo) (C := RX6) hF hK hts gGood (C_X6_copyFrom hE hT) wk_X6_copyFrom.1 wk_X6_copyFrom.2.1 wl_RX11_187 wk_X6_copyFrom.2.2.1 wk_X6_copyFrom.2.2.2 rfl rfl rfl rfl rfl wd_X6_copyFrom ⟨by rw [hr]; decide, by rw [hr]; decide⟩ (dec_X11_undo (57, .invokevirtual 187, 3) (List.mem_of_getElem? (i := 30) rfl)),
    List.forall_mem_nil _⟩), hE, hT⟩) dec_X11_undo chk_X11_undo
theorem wl_RX11_210 : Jvm.Cond.methodLink RX11 210 yX11_isAsked ∈ gTB := gIn (i := 1014) (by decide +kernel) (by decide +kernel)
theorem wk_X11_isAsked : Jvm.Cond.code yX11_isAsked cX11_isAsked 4 (k_rty 2) ∈ gTB ∧ Jvm.Cond.initialized yX11_isAsked.cls ∈ gTB ∧ Jvm.Cond.instanceMethod yX11_isAsked ∈ gTB ∧ Jvm.Cond.selects RX11 yX11_isAsked yX11_isAsked ∈ gTB := ⟨gIn (i := 1017) (by decide +kernel) (by decide +kernel), gIn (i := 126) (by decide +kernel) (by decide +kernel), gIn (i := 1016) (by decide +kernel) (by decide +kernel), gIn (i := 33) (by decide +kernel) (by decide +kernel)⟩
theorem wd_X11_isAsked : yX11_isAsked.cls ≠ "java/lang/invoke/MethodHandle" ∧ yX11_isAsked.cls ≠ "java/lang/invoke/VarHandle" ∧ (parseMethodDescriptor yX11_isAsked.desc).map (fun d => d.parameters.length) = some 3 := by decide +kernel
theorem wl_RX11_214 : Jvm.Cond.methodLink RX11 214 yX1_goHours ∈ gTB := gIn (i := 1018) (by decide +kernel) (by decide +kernel)
theorem wk_X1_goHours : Jvm.Cond.code yX1_goHours cX1_goHours 3 (k_rty 0) ∈ gTB ∧ Jvm.Cond.initialized yX1_goHours.cls ∈ gTB ∧ Jvm.Cond.instanceMethod yX1_goHours ∈ gTB ∧ Jvm.Cond.selects RX1 yX1_goHours yX1_goHours ∈ gTB := ⟨gIn (i := 1021) (by decide +kernel) (by decide +kernel), gIn (i := 133) (by decide +kernel) (by decide +kernel), gIn (i := 1019) (by decide +kernel) (by decide +kernel), gIn (i := 1020) (by decide +kernel) (by decide +kernel)⟩
theorem wd_X1_goHours : yX1_goHours.cls ≠ "java/lang/invoke/MethodHandle" ∧ yX1_goHours.cls ≠ "java/lang/invoke/VarHandle" ∧ (parseMethodDescriptor yX1_goHours.desc).map (fun d => d.parameters.length) = some 1 := by decide +kernel
theorem C_X11_ahead (hE : k_Eok (gE g tys B0 GI)) (hT : k_tys (gE g tys B0 GI)) : k_Met l (gE g tys B0 GI) τ gTB yX11_ahead cX11_ahead 4 1 K_X11_ahead ⟨20, 0, 0, 693⟩ :=
  k_met (M := M_X11_ahead) (by decide +kernel) (fun X hl hr hF hts hK => ⟨gFLk11 hts, gCIk11 hts, gCJk11 hts, (show ∀ q ∈ ([(5, K_X11_isAsked), (27, K_X11_isHouse), (39, K_X1_beginNow), (47, K_X1_goHours)] : List (Nat × kCtr)), k_call X (gE g tys B0 GI) 4 τ q.2 q.1 from List.forall_mem_cons.mpr ⟨k_callV (cc := cX11_ahead) (C := RX11) hF hK hts gGood (C_X11_isAsked hE hT) wk_X11_isAsked.1 wk_X11_isAsked.2.1 wl_RX11_210 wk_X11_isAsked.2.2.1 wk_X11_isAsked.2.2.2 rfl rfl rfl rfl rfl wd_X11_isAsked ⟨by rw [hr]; decide, by rw [hr]; decide⟩ (dec_X11_ahead (5, .invokevirtual 210, 3) (List.mem_of_getElem? (i := 4) rfl)),
    List.forall_mem_cons.mpr ⟨k_callV (cc := cX11_ahead) (C := RX11) hF hK hts gGood (C_X11_isHouse hE hT) wk_X11_isHouse.1 wk_X11_isHouse.2.1 wl_RX11_143 wk_X11_isHouse.2.2.1 wk_X11_isHouse.2.2.2 rfl rfl rfl rfl rfl wd_X11_isHouse ⟨by rw [hr]; decide, by rw [hr]; decide⟩ (dec_X11_ahead (27, .invokevirtual 143, 3) (List.mem_of_getElem? (i := 16) rfl)),
    List.forall_mem_cons.mpr ⟨k_callV (cc := cX11_ahead) (C := RX1) hF hK hts gGood (C_X1_beginNow hE hT) wk_X1_beginNow.1 wk_X1_beginNow.2.1 wl_RX11_179 wk_X1_beginNow.2.2.1 wk_X1_beginNow.2.2.2 rfl rfl rfl rfl rfl wd_X1_beginNow ⟨by rw [hr]; decide, by rw [hr]; decide⟩ (dec_X11_ahead (39, .invokevirtual 179, 3) (List.mem_of_getElem? (i := 22) rfl)),
    List.forall_mem_cons.mpr ⟨k_callV (cc := cX11_ahead) (C := RX1) hF hK hts gGood (C_X1_goHours hE hT) wk_X1_goHours.1 wk_X1_goHours.2.1 wl_RX11_214 wk_X1_goHours.2.2.1 wk_X1_goHours.2.2.2 rfl rfl rfl rfl rfl wd_X1_goHours ⟨by rw [hr]; decide, by rw [hr]; decide⟩ (dec_X11_ahead (47, .invokevirtual 214, 3) (List.mem_of_getElem? (i := 26) rfl)),
    List.forall_mem_nil _⟩⟩⟩⟩), hE, hT⟩) dec_X11_ahead chk_X11_ahead
theorem wl_RX11_217 : Jvm.Cond.methodLink RX11 217 yX1_worthAfter ∈ gTB := gIn (i := 1027) (by decide +kernel) (by decide +kernel)
theorem C_X11_left (hE : k_Eok (gE g tys B0 GI)) (hT : k_tys (gE g tys B0 GI)) : k_Met l (gE g tys B0 GI) τ gTB yX11_left cX11_left 2 1 K_X11_left ⟨20, 0, 0, 693⟩ :=
  k_met (M := M_X11_left) (by decide +kernel) (fun X hl hr hF hts hK => ⟨gFLk11 hts, gCIk11 hts, gCJk11 hts, (show ∀ q ∈ ([(5, K_X11_isAsked), (17, K_X1_beginNow), (25, K_X1_worthAfter)] : List (Nat × kCtr)), k_call X (gE g tys B0 GI) 2 τ q.2 q.1 from List.forall_mem_cons.mpr ⟨k_callV (cc := cX11_left) (C := RX11) hF hK hts gGood (C_X11_isAsked hE hT) wk_X11_isAsked.1 wk_X11_isAsked.2.1 wl_RX11_210 wk_X11_isAsked.2.2.1 wk_X11_isAsked.2.2.2 rfl rfl rfl rfl rfl wd_X11_isAsked ⟨by rw [hr]; decide, by rw [hr]; decide⟩ (dec_X11_left (5, .invokevirtual 210, 3) (List.mem_of_getElem? (i := 4) rfl)),
    List.forall_mem_cons.mpr ⟨k_callV (cc := cX11_left) (C := RX1) hF hK hts gGood (C_X1_beginNow hE hT) wk_X1_beginNow.1 wk_X1_beginNow.2.1 wl_RX11_179 wk_X1_beginNow.2.2.1 wk_X1_beginNow.2.2.2 rfl rfl rfl rfl rfl wd_X1_beginNow ⟨by rw [hr]; decide, by rw [hr]; decide⟩ (dec_X11_left (17, .invokevirtual 179, 3) (List.mem_of_getElem? (i := 10) rfl)),
    List.forall_mem_cons.mpr ⟨k_callV (cc := cX11_left) (C := RX1) hF hK hts gGood (C_X1_worthAfter hE hT) wk_X1_worthAfter.1 wk_X1_worthAfter.2.1 wl_RX11_217 wk_X1_worthAfter.2.2.1 wk_X1_worthAfter.2.2.2 rfl rfl rfl rfl rfl wd_X1_worthAfter ⟨by rw [hr]; decide, by rw [hr]; decide⟩ (dec_X11_left (25, .invokevirtual 217, 3) (List.mem_of_getElem? (i := 14) rfl)),
    List.forall_mem_nil _⟩⟩⟩), hE, hT⟩) dec_X11_left chk_X11_left
theorem wl_RX11_221 : Jvm.Cond.methodLink RX11 221 yX0_hourOut ∈ gTB := gIn (i := 1039) (by decide +kernel) (by decide +kernel)
theorem wk_X0_hourOut : Jvm.Cond.code yX0_hourOut cX0_hourOut 2 (k_rty 1) ∈ gTB ∧ Jvm.Cond.initialized yX0_hourOut.cls ∈ gTB ∧ Jvm.Cond.instanceMethod yX0_hourOut ∈ gTB ∧ Jvm.Cond.selects RX0 yX0_hourOut yX0_hourOut ∈ gTB := ⟨gIn (i := 1042) (by decide +kernel) (by decide +kernel), gIn (i := 134) (by decide +kernel) (by decide +kernel), gIn (i := 1040) (by decide +kernel) (by decide +kernel), gIn (i := 1041) (by decide +kernel) (by decide +kernel)⟩
theorem wd_X0_hourOut : yX0_hourOut.cls ≠ "java/lang/invoke/MethodHandle" ∧ yX0_hourOut.cls ≠ "java/lang/invoke/VarHandle" ∧ (parseMethodDescriptor yX0_hourOut.desc).map (fun d => d.parameters.length) = some 0 := by decide +kernel
theorem C_X11_out (hE : k_Eok (gE g tys B0 GI)) (hT : k_tys (gE g tys B0 GI)) : k_Met l (gE g tys B0 GI) τ gTB yX11_out cX11_out 1 1 K_X11_out ⟨20, 0, 0, 692⟩ :=
  k_met (M := M_X11_out) (by decide +kernel) (fun X hl hr hF hts hK => ⟨gFLk11 hts, gCIk11 hts, gCJk11 hts, (show ∀ q ∈ ([(17, K_X0_hourOut)] : List (Nat × kCtr)), k_call X (gE g tys B0 GI) 1 τ q.2 q.1 from List.forall_mem_cons.mpr ⟨k_callV (cc := cX11_out) (C := RX0) hF hK hts gGood (C_X0_hourOut hE hT) wk_X0_hourOut.1 wk_X0_hourOut.2.1 wl_RX11_221 wk_X0_hourOut.2.2.1 wk_X0_hourOut.2.2.2 rfl rfl rfl rfl rfl wd_X0_hourOut ⟨by rw [hr]; decide, by rw [hr]; decide⟩ (dec_X11_out (17, .invokevirtual 221, 3) (List.mem_of_getElem? (i := 7) rfl)),
    List.forall_mem_nil _⟩), hE, hT⟩) dec_X11_out chk_X11_out
theorem wl_RX11_224 : Jvm.Cond.methodLink RX11 224 yX0_housesThatCanBurn ∈ gTB := gIn (i := 1050) (by decide +kernel) (by decide +kernel)
theorem wk_X0_housesThatCanBurn : Jvm.Cond.code yX0_housesThatCanBurn cX0_housesThatCanBurn 4 (k_rty 1) ∈ gTB ∧ Jvm.Cond.initialized yX0_housesThatCanBurn.cls ∈ gTB ∧ Jvm.Cond.instanceMethod yX0_housesThatCanBurn ∈ gTB ∧ Jvm.Cond.selects RX0 yX0_housesThatCanBurn yX0_housesThatCanBurn ∈ gTB := ⟨gIn (i := 1053) (by decide +kernel) (by decide +kernel), gIn (i := 134) (by decide +kernel) (by decide +kernel), gIn (i := 1051) (by decide +kernel) (by decide +kernel), gIn (i := 1052) (by decide +kernel) (by decide +kernel)⟩
theorem wd_X0_housesThatCanBurn : yX0_housesThatCanBurn.cls ≠ "java/lang/invoke/MethodHandle" ∧ yX0_housesThatCanBurn.cls ≠ "java/lang/invoke/VarHandle" ∧ (parseMethodDescriptor yX0_housesThatCanBurn.desc).map (fun d => d.parameters.length) = some 0 := by decide +kernel
theorem C_X11_canBurn (hE : k_Eok (gE g tys B0 GI)) (hT : k_tys (gE g tys B0 GI)) : k_Met l (gE g tys B0 GI) τ gTB yX11_canBurn cX11_canBurn 1 1 K_X11_canBurn ⟨2, 0, 0, 45⟩ :=
  k_met (M := M_X11_canBurn) (by decide +kernel) (fun X hl hr hF hts hK => ⟨gFLk11 hts, gCIk11 hts, gCJk11 hts, (show ∀ q ∈ ([(17, K_X0_housesThatCanBurn)] : List (Nat × kCtr)), k_call X (gE g tys B0 GI) 1 τ q.2 q.1 from List.forall_mem_cons.mpr ⟨k_callV (cc := cX11_canBurn) (C := RX0) hF hK hts gGood (C_X0_housesThatCanBurn hE hT) wk_X0_housesThatCanBurn.1 wk_X0_housesThatCanBurn.2.1 wl_RX11_224 wk_X0_housesThatCanBurn.2.2.1 wk_X0_housesThatCanBurn.2.2.2 rfl rfl rfl rfl rfl wd_X0_housesThatCanBurn ⟨by rw [hr]; decide, by rw [hr]; decide⟩ (dec_X11_canBurn (17, .invokevirtual 224, 3) (List.mem_of_getElem? (i := 7) rfl)),
    List.forall_mem_nil _⟩), hE, hT⟩) dec_X11_canBurn chk_X11_canBurn
theorem wl_RX11_227 : Jvm.Cond.methodLink RX11 227 yX3_findBest ∈ gTB := gIn (i := 1058) (by decide +kernel) (by decide +kernel)
theorem wk_X3_findBest : Jvm.Cond.code yX3_findBest cX3_findBest 3 (k_rty 0) ∈ gTB ∧ Jvm.Cond.initialized yX3_findBest.cls ∈ gTB ∧ Jvm.Cond.instanceMethod yX3_findBest ∈ gTB ∧ Jvm.Cond.selects RX3 yX3_findBest yX3_findBest ∈ gTB := ⟨gIn (i := 1061) (by decide +kernel) (by decide +kernel), gIn (i := 135) (by decide +kernel) (by decide +kernel), gIn (i := 1059) (by decide +kernel) (by decide +kernel), gIn (i := 1060) (by decide +kernel) (by decide +kernel)⟩
theorem wd_X3_findBest : yX3_findBest.cls ≠ "java/lang/invoke/MethodHandle" ∧ yX3_findBest.cls ≠ "java/lang/invoke/VarHandle" ∧ (parseMethodDescriptor yX3_findBest.desc).map (fun d => d.parameters.length) = some 1 := by decide +kernel
theorem C_X11_order (hE : k_Eok (gE g tys B0 GI)) (hT : k_tys (gE g tys B0 GI)) : k_Met l (gE g tys B0 GI) τ gTB yX11_order cX11_order 3 1 K_X11_order ⟨12, 0, 0, 276⟩ :=
  k_met (M := M_X11_order) (by decide +kernel) (fun X hl hr hF hts hK => ⟨gFLk11 hts, gCIk11 hts, gCJk11 hts, (show ∀ q ∈ ([(5, K_X11_isAsked), (30, K_X3_findBest)] : List (Nat × kCtr)), k_call X (gE g tys B0 GI) 3 τ q.2 q.1 from List.forall_mem_cons.mpr ⟨k_callV (cc := cX11_order) (C := RX11) hF hK hts gGood (C_X11_isAsked hE hT) wk_X11_isAsked.1 wk_X11_isAsked.2.1 wl_RX11_210 wk_X11_isAsked.2.2.1 wk_X11_isAsked.2.2.2 rfl rfl rfl rfl rfl wd_X11_isAsked ⟨by rw [hr]; decide, by rw [hr]; decide⟩ (dec_X11_order (5, .invokevirtual 210, 3) (List.mem_of_getElem? (i := 4) rfl)),
    List.forall_mem_cons.mpr ⟨k_callV (cc := cX11_order) (C := RX3) hF hK hts gGood (C_X3_findBest hE hT) wk_X3_findBest.1 wk_X3_findBest.2.1 wl_RX11_227 wk_X3_findBest.2.2.1 wk_X3_findBest.2.2.2 rfl rfl rfl rfl rfl wd_X3_findBest ⟨by rw [hr]; decide, by rw [hr]; decide⟩ (dec_X11_order (30, .invokevirtual 227, 3) (List.mem_of_getElem? (i := 17) rfl)),
    List.forall_mem_nil _⟩⟩), hE, hT⟩) dec_X11_order chk_X11_order
theorem wl_RX11_239 : Jvm.Cond.methodLink RX11 239 yX0_leastHeard ∈ gTB := gIn (i := 1093) (by decide +kernel) (by decide +kernel)
theorem wk_X0_leastHeard : Jvm.Cond.code yX0_leastHeard cX0_leastHeard 3 (k_rty 1) ∈ gTB ∧ Jvm.Cond.initialized yX0_leastHeard.cls ∈ gTB ∧ Jvm.Cond.instanceMethod yX0_leastHeard ∈ gTB ∧ Jvm.Cond.selects RX0 yX0_leastHeard yX0_leastHeard ∈ gTB := ⟨gIn (i := 1096) (by decide +kernel) (by decide +kernel), gIn (i := 134) (by decide +kernel) (by decide +kernel), gIn (i := 1094) (by decide +kernel) (by decide +kernel), gIn (i := 1095) (by decide +kernel) (by decide +kernel)⟩
theorem wd_X0_leastHeard : yX0_leastHeard.cls ≠ "java/lang/invoke/MethodHandle" ∧ yX0_leastHeard.cls ≠ "java/lang/invoke/VarHandle" ∧ (parseMethodDescriptor yX0_leastHeard.desc).map (fun d => d.parameters.length) = some 1 := by decide +kernel
theorem C_X11_heard (hE : k_Eok (gE g tys B0 GI)) (hT : k_tys (gE g tys B0 GI)) : k_Met l (gE g tys B0 GI) τ gTB yX11_heard cX11_heard 2 1 K_X11_heard ⟨21, 0, 0, 715⟩ :=
  k_met (M := M_X11_heard) (by decide +kernel) (fun X hl hr hF hts hK => ⟨gFLk11 hts, gCIk11 hts, gCJk11 hts, (show ∀ q ∈ ([(2, K_X11_isHouse), (13, K_X0_leastHeard)] : List (Nat × kCtr)), k_call X (gE g tys B0 GI) 2 τ q.2 q.1 from List.forall_mem_cons.mpr ⟨k_callV (cc := cX11_heard) (C := RX11) hF hK hts gGood (C_X11_isHouse hE hT) wk_X11_isHouse.1 wk_X11_isHouse.2.1 wl_RX11_143 wk_X11_isHouse.2.2.1 wk_X11_isHouse.2.2.2 rfl rfl rfl rfl rfl wd_X11_isHouse ⟨by rw [hr]; decide, by rw [hr]; decide⟩ (dec_X11_heard (2, .invokevirtual 143, 3) (List.mem_of_getElem? (i := 2) rfl)),
    List.forall_mem_cons.mpr ⟨k_callV (cc := cX11_heard) (C := RX0) hF hK hts gGood (C_X0_leastHeard hE hT) wk_X0_leastHeard.1 wk_X0_leastHeard.2.1 wl_RX11_239 wk_X0_leastHeard.2.2.1 wk_X0_leastHeard.2.2.2 rfl rfl rfl rfl rfl wd_X0_leastHeard ⟨by rw [hr]; decide, by rw [hr]; decide⟩ (dec_X11_heard (13, .invokevirtual 239, 3) (List.mem_of_getElem? (i := 7) rfl)),
    List.forall_mem_nil _⟩⟩), hE, hT⟩) dec_X11_heard chk_X11_heard
theorem wl_RX11_242 : Jvm.Cond.methodLink RX11 242 yX0_leastWater ∈ gTB := gIn (i := 1105) (by decide +kernel) (by decide +kernel)
theorem wk_X0_leastWater : Jvm.Cond.code yX0_leastWater cX0_leastWater 3 (k_rty 1) ∈ gTB ∧ Jvm.Cond.initialized yX0_leastWater.cls ∈ gTB ∧ Jvm.Cond.instanceMethod yX0_leastWater ∈ gTB ∧ Jvm.Cond.selects RX0 yX0_leastWater yX0_leastWater ∈ gTB := ⟨gIn (i := 1108) (by decide +kernel) (by decide +kernel), gIn (i := 134) (by decide +kernel) (by decide +kernel), gIn (i := 1106) (by decide +kernel) (by decide +kernel), gIn (i := 1107) (by decide +kernel) (by decide +kernel)⟩
theorem wd_X0_leastWater : yX0_leastWater.cls ≠ "java/lang/invoke/MethodHandle" ∧ yX0_leastWater.cls ≠ "java/lang/invoke/VarHandle" ∧ (parseMethodDescriptor yX0_leastWater.desc).map (fun d => d.parameters.length) = some 1 := by decide +kernel
theorem C_X11_water (hE : k_Eok (gE g tys B0 GI)) (hT : k_tys (gE g tys B0 GI)) : k_Met l (gE g tys B0 GI) τ gTB yX11_water cX11_water 2 1 K_X11_water ⟨21, 0, 0, 715⟩ :=
  k_met (M := M_X11_water) (by decide +kernel) (fun X hl hr hF hts hK => ⟨gFLk11 hts, gCIk11 hts, gCJk11 hts, (show ∀ q ∈ ([(5, K_X11_isAsked), (16, K_X0_leastWater)] : List (Nat × kCtr)), k_call X (gE g tys B0 GI) 2 τ q.2 q.1 from List.forall_mem_cons.mpr ⟨k_callV (cc := cX11_water) (C := RX11) hF hK hts gGood (C_X11_isAsked hE hT) wk_X11_isAsked.1 wk_X11_isAsked.2.1 wl_RX11_210 wk_X11_isAsked.2.2.1 wk_X11_isAsked.2.2.2 rfl rfl rfl rfl rfl wd_X11_isAsked ⟨by rw [hr]; decide, by rw [hr]; decide⟩ (dec_X11_water (5, .invokevirtual 210, 3) (List.mem_of_getElem? (i := 4) rfl)),
    List.forall_mem_cons.mpr ⟨k_callV (cc := cX11_water) (C := RX0) hF hK hts gGood (C_X0_leastWater hE hT) wk_X0_leastWater.1 wk_X0_leastWater.2.1 wl_RX11_242 wk_X0_leastWater.2.2.1 wk_X0_leastWater.2.2.2 rfl rfl rfl rfl rfl wd_X0_leastWater ⟨by rw [hr]; decide, by rw [hr]; decide⟩ (dec_X11_water (16, .invokevirtual 242, 3) (List.mem_of_getElem? (i := 9) rfl)),
    List.forall_mem_nil _⟩⟩), hE, hT⟩) dec_X11_water chk_X11_water
theorem wl_RX11_245 : Jvm.Cond.methodLink RX11 245 yX0_findCleared ∈ gTB := gIn (i := 1118) (by decide +kernel) (by decide +kernel)
theorem wk_X0_findCleared : Jvm.Cond.code yX0_findCleared cX0_findCleared 5 (k_rty 0) ∈ gTB ∧ Jvm.Cond.initialized yX0_findCleared.cls ∈ gTB ∧ Jvm.Cond.instanceMethod yX0_findCleared ∈ gTB ∧ Jvm.Cond.selects RX0 yX0_findCleared yX0_findCleared ∈ gTB := ⟨gIn (i := 1121) (by decide +kernel) (by decide +kernel), gIn (i := 134) (by decide +kernel) (by decide +kernel), gIn (i := 1119) (by decide +kernel) (by decide +kernel), gIn (i := 1120) (by decide +kernel) (by decide +kernel)⟩
theorem wd_X0_findCleared : yX0_findCleared.cls ≠ "java/lang/invoke/MethodHandle" ∧ yX0_findCleared.cls ≠ "java/lang/invoke/VarHandle" ∧ (parseMethodDescriptor yX0_findCleared.desc).map (fun d => d.parameters.length) = some 1 := by decide +kernel
theorem C_X11_clear (hE : k_Eok (gE g tys B0 GI)) (hT : k_tys (gE g tys B0 GI)) : k_Met l (gE g tys B0 GI) τ gTB yX11_clear cX11_clear 3 1 K_X11_clear ⟨21, 0, 0, 717⟩ :=
  k_met (M := M_X11_clear) (by decide +kernel) (fun X hl hr hF hts hK => ⟨gFLk11 hts, gCIk11 hts, gCJk11 hts, (show ∀ q ∈ ([(5, K_X11_isAsked), (28, K_X0_findCleared)] : List (Nat × kCtr)), k_call X (gE g tys B0 GI) 3 τ q.2 q.1 from List.forall_mem_cons.mpr ⟨k_callV (cc := cX11_clear) (C := RX11) hF hK hts gGood (C_X11_isAsked hE hT) wk_X11_isAsked.1 wk_X11_isAsked.2.1 wl_RX11_210 wk_X11_isAsked.2.2.1 wk_X11_isAsked.2.2.2 rfl rfl rfl rfl rfl wd_X11_isAsked ⟨by rw [hr]; decide, by rw [hr]; decide⟩ (dec_X11_clear (5, .invokevirtual 210, 3) (List.mem_of_getElem? (i := 4) rfl)),
    List.forall_mem_cons.mpr ⟨k_callV (cc := cX11_clear) (C := RX0) hF hK hts gGood (C_X0_findCleared hE hT) wk_X0_findCleared.1 wk_X0_findCleared.2.1 wl_RX11_245 wk_X0_findCleared.2.2.1 wk_X0_findCleared.2.2.2 rfl rfl rfl rfl rfl wd_X0_findCleared ⟨by rw [hr]; decide, by rw [hr]; decide⟩ (dec_X11_clear (28, .invokevirtual 245, 3) (List.mem_of_getElem? (i := 16) rfl)),
    List.forall_mem_nil _⟩⟩), hE, hT⟩) dec_X11_clear chk_X11_clear
theorem wl_RX11_251 : Jvm.Cond.methodLink RX11 251 yX0_findSilent ∈ gTB := gIn (i := 1126) (by decide +kernel) (by decide +kernel)
theorem wk_X0_findSilent : Jvm.Cond.code yX0_findSilent cX0_findSilent 6 (k_rty 0) ∈ gTB ∧ Jvm.Cond.initialized yX0_findSilent.cls ∈ gTB ∧ Jvm.Cond.instanceMethod yX0_findSilent ∈ gTB ∧ Jvm.Cond.selects RX0 yX0_findSilent yX0_findSilent ∈ gTB := ⟨gIn (i := 1129) (by decide +kernel) (by decide +kernel), gIn (i := 134) (by decide +kernel) (by decide +kernel), gIn (i := 1127) (by decide +kernel) (by decide +kernel), gIn (i := 1128) (by decide +kernel) (by decide +kernel)⟩
theorem wd_X0_findSilent : yX0_findSilent.cls ≠ "java/lang/invoke/MethodHandle" ∧ yX0_findSilent.cls ≠ "java/lang/invoke/VarHandle" ∧ (parseMethodDescriptor yX0_findSilent.desc).map (fun d => d.parameters.length) = some 1 := by decide +kernel
theorem C_X11_silent (hE : k_Eok (gE g tys B0 GI)) (hT : k_tys (gE g tys B0 GI)) : k_Met l (gE g tys B0 GI) τ gTB yX11_silent cX11_silent 3 1 K_X11_silent ⟨21, 0, 0, 718⟩ :=
  k_met (M := M_X11_silent) (by decide +kernel) (fun X hl hr hF hts hK => ⟨gFLk11 hts, gCIk11 hts, gCJk11 hts, (show ∀ q ∈ ([(5, K_X11_isAsked), (27, K_X0_findSilent)] : List (Nat × kCtr)), k_call X (gE g tys B0 GI) 3 τ q.2 q.1 from List.forall_mem_cons.mpr ⟨k_callV (cc := cX11_silent) (C := RX11) hF hK hts gGood (C_X11_isAsked hE hT) wk_X11_isAsked.1 wk_X11_isAsked.2.1 wl_RX11_210 wk_X11_isAsked.2.2.1 wk_X11_isAsked.2.2.2 rfl rfl rfl rfl rfl wd_X11_isAsked ⟨by rw [hr]; decide, by rw [hr]; decide⟩ (dec_X11_silent (5, .invokevirtual 210, 3) (List.mem_of_getElem? (i := 4) rfl)),
    List.forall_mem_cons.mpr ⟨k_callV (cc := cX11_silent) (C := RX0) hF hK hts gGood (C_X0_findSilent hE hT) wk_X0_findSilent.1 wk_X0_findSilent.2.1 wl_RX11_251 wk_X0_findSilent.2.2.1 wk_X0_findSilent.2.2.2 rfl rfl rfl rfl rfl wd_X0_findSilent ⟨by rw [hr]; decide, by rw [hr]; decide⟩ (dec_X11_silent (27, .invokevirtual 251, 3) (List.mem_of_getElem? (i := 16) rfl)),
    List.forall_mem_nil _⟩⟩), hE, hT⟩) dec_X11_silent chk_X11_silent
theorem wl_RX11_254 : Jvm.Cond.methodLink RX11 254 yX0_penceOf ∈ gTB := gIn (i := 1139) (by decide +kernel) (by decide +kernel)
theorem wk_X0_penceOf : Jvm.Cond.code yX0_penceOf cX0_penceOf 9 (k_rty 1) ∈ gTB ∧ Jvm.Cond.initialized yX0_penceOf.cls ∈ gTB ∧ Jvm.Cond.instanceMethod yX0_penceOf ∈ gTB ∧ Jvm.Cond.selects RX0 yX0_penceOf yX0_penceOf ∈ gTB := ⟨gIn (i := 1142) (by decide +kernel) (by decide +kernel), gIn (i := 134) (by decide +kernel) (by decide +kernel), gIn (i := 1140) (by decide +kernel) (by decide +kernel), gIn (i := 1141) (by decide +kernel) (by decide +kernel)⟩
theorem wd_X0_penceOf : yX0_penceOf.cls ≠ "java/lang/invoke/MethodHandle" ∧ yX0_penceOf.cls ≠ "java/lang/invoke/VarHandle" ∧ (parseMethodDescriptor yX0_penceOf.desc).map (fun d => d.parameters.length) = some 2 := by decide +kernel
theorem C_X11_pence (hE : k_Eok (gE g tys B0 GI)) (hT : k_tys (gE g tys B0 GI)) : k_Met l (gE g tys B0 GI) τ gTB yX11_pence cX11_pence 3 1 K_X11_pence ⟨2, 0, 0, 49⟩ :=
  k_met (M := M_X11_pence) (by decide +kernel) (fun X hl hr hF hts hK => ⟨gFLk11 hts, gCIk11 hts, gCJk11 hts, (show ∀ q ∈ ([(2, K_X11_isHouse), (27, K_X0_penceOf)] : List (Nat × kCtr)), k_call X (gE g tys B0 GI) 3 τ q.2 q.1 from List.forall_mem_cons.mpr ⟨k_callV (cc := cX11_pence) (C := RX11) hF hK hts gGood (C_X11_isHouse hE hT) wk_X11_isHouse.1 wk_X11_isHouse.2.1 wl_RX11_143 wk_X11_isHouse.2.2.1 wk_X11_isHouse.2.2.2 rfl rfl rfl rfl rfl wd_X11_isHouse ⟨by rw [hr]; decide, by rw [hr]; decide⟩ (dec_X11_pence (2, .invokevirtual 143, 3) (List.mem_of_getElem? (i := 2) rfl)),
    List.forall_mem_cons.mpr ⟨k_callV (cc := cX11_pence) (C := RX0) hF hK hts gGood (C_X0_penceOf hE hT) wk_X0_penceOf.1 wk_X0_penceOf.2.1 wl_RX11_254 wk_X0_penceOf.2.2.1 wk_X0_penceOf.2.2.2 rfl rfl rfl rfl rfl wd_X0_penceOf ⟨by rw [hr]; decide, by rw [hr]; decide⟩ (dec_X11_pence (27, .invokevirtual 254, 3) (List.mem_of_getElem? (i := 15) rfl)),
    List.forall_mem_nil _⟩⟩), hE, hT⟩) dec_X11_pence chk_X11_pence
theorem wl_RX11_257 : Jvm.Cond.methodLink RX11 257 yX0_findRests ∈ gTB := gIn (i := 1151) (by decide +kernel) (by decide +kernel)
theorem wk_X0_findRests : Jvm.Cond.code yX0_findRests cX0_findRests 5 (k_rty 0) ∈ gTB ∧ Jvm.Cond.initialized yX0_findRests.cls ∈ gTB ∧ Jvm.Cond.instanceMethod yX0_findRests ∈ gTB ∧ Jvm.Cond.selects RX0 yX0_findRests yX0_findRests ∈ gTB := ⟨gIn (i := 1154) (by decide +kernel) (by decide +kernel), gIn (i := 134) (by decide +kernel) (by decide +kernel), gIn (i := 1152) (by decide +kernel) (by decide +kernel), gIn (i := 1153) (by decide +kernel) (by decide +kernel)⟩
theorem wd_X0_findRests : yX0_findRests.cls ≠ "java/lang/invoke/MethodHandle" ∧ yX0_findRests.cls ≠ "java/lang/invoke/VarHandle" ∧ (parseMethodDescriptor yX0_findRests.desc).map (fun d => d.parameters.length) = some 3 := by decide +kernel
theorem C_X11_rests (hE : k_Eok (gE g tys B0 GI)) (hT : k_tys (gE g tys B0 GI)) : k_Met l (gE g tys B0 GI) τ gTB yX11_rests cX11_rests 5 1 K_X11_rests ⟨21, 0, 0, 717⟩ :=
  k_met (M := M_X11_rests) (by decide +kernel) (fun X hl hr hF hts hK => ⟨gFLk11 hts, gCIk11 hts, gCJk11 hts, (show ∀ q ∈ ([(2, K_X11_isHouse), (10, K_X11_isHouse), (28, K_X11_isAsked), (54, K_X0_findRests)] : List (Nat × kCtr)), k_call X (gE g tys B0 GI) 5 τ q.2 q.1 from List.forall_mem_cons.mpr ⟨k_callV (cc := cX11_rests) (C := RX11) hF hK hts gGood (C_X11_isHouse hE hT) wk_X11_isHouse.1 wk_X11_isHouse.2.1 wl_RX11_143 wk_X11_isHouse.2.2.1 wk_X11_isHouse.2.2.2 rfl rfl rfl rfl rfl wd_X11_isHouse ⟨by rw [hr]; decide, by rw [hr]; decide⟩ (dec_X11_rests (2, .invokevirtual 143, 3) (List.mem_of_getElem? (i := 2) rfl)),
    List.forall_mem_cons.mpr ⟨k_callV (cc := cX11_rests) (C := RX11) hF hK hts gGood (C_X11_isHouse hE hT) wk_X11_isHouse.1 wk_X11_isHouse.2.1 wl_RX11_143 wk_X11_isHouse.2.2.1 wk_X11_isHouse.2.2.2 rfl rfl rfl rfl rfl wd_X11_isHouse ⟨by rw [hr]; decide, by rw [hr]; decide⟩ (dec_X11_rests (10, .invokevirtual 143, 3) (List.mem_of_getElem? (i := 6) rfl)),
    List.forall_mem_cons.mpr ⟨k_callV (cc := cX11_rests) (C := RX11) hF hK hts gGood (C_X11_isAsked hE hT) wk_X11_isAsked.1 wk_X11_isAsked.2.1 wl_RX11_210 wk_X11_isAsked.2.2.1 wk_X11_isAsked.2.2.2 rfl rfl rfl rfl rfl wd_X11_isAsked ⟨by rw [hr]; decide, by rw [hr]; decide⟩ (dec_X11_rests (28, .invokevirtual 210, 3) (List.mem_of_getElem? (i := 17) rfl)),
    List.forall_mem_cons.mpr ⟨k_callV (cc := cX11_rests) (C := RX0) hF hK hts gGood (C_X0_findRests hE hT) wk_X0_findRests.1 wk_X0_findRests.2.1 wl_RX11_257 wk_X0_findRests.2.2.1 wk_X0_findRests.2.2.2 rfl rfl rfl rfl rfl wd_X0_findRests ⟨by rw [hr]; decide, by rw [hr]; decide⟩ (dec_X11_rests (54, .invokevirtual 257, 3) (List.mem_of_getElem? (i := 31) rfl)),
    List.forall_mem_nil _⟩⟩⟩⟩), hE, hT⟩) dec_X11_rests chk_X11_rests
theorem wl_RX11_261 : Jvm.Cond.methodLink RX11 261 yX0_findFirst ∈ gTB := gIn (i := 1163) (by decide +kernel) (by decide +kernel)
theorem wk_X0_findFirst : Jvm.Cond.code yX0_findFirst cX0_findFirst 3 (k_rty 0) ∈ gTB ∧ Jvm.Cond.initialized yX0_findFirst.cls ∈ gTB ∧ Jvm.Cond.instanceMethod yX0_findFirst ∈ gTB ∧ Jvm.Cond.selects RX0 yX0_findFirst yX0_findFirst ∈ gTB := ⟨gIn (i := 1166) (by decide +kernel) (by decide +kernel), gIn (i := 134) (by decide +kernel) (by decide +kernel), gIn (i := 1164) (by decide +kernel) (by decide +kernel), gIn (i := 1165) (by decide +kernel) (by decide +kernel)⟩
theorem wd_X0_findFirst : yX0_findFirst.cls ≠ "java/lang/invoke/MethodHandle" ∧ yX0_findFirst.cls ≠ "java/lang/invoke/VarHandle" ∧ (parseMethodDescriptor yX0_findFirst.desc).map (fun d => d.parameters.length) = some 0 := by decide +kernel
theorem C_X11_first (hE : k_Eok (gE g tys B0 GI)) (hT : k_tys (gE g tys B0 GI)) : k_Met l (gE g tys B0 GI) τ gTB yX11_first cX11_first 2 1 K_X11_first ⟨20, 0, 0, 693⟩ :=
  k_met (M := M_X11_first) (by decide +kernel) (fun X hl hr hF hts hK => ⟨gFLk11 hts, gCIk11 hts, gCJk11 hts, (show ∀ q ∈ ([(28, K_X0_findFirst)] : List (Nat × kCtr)), k_call X (gE g tys B0 GI) 2 τ q.2 q.1 from List.forall_mem_cons.mpr ⟨k_callV (cc := cX11_first) (C := RX0) hF hK hts gGood (C_X0_findFirst hE hT) wk_X0_findFirst.1 wk_X0_findFirst.2.1 wl_RX11_261 wk_X0_findFirst.2.2.1 wk_X0_findFirst.2.2.2 rfl rfl rfl rfl rfl wd_X0_findFirst ⟨by rw [hr]; decide, by rw [hr]; decide⟩ (dec_X11_first (28, .invokevirtual 261, 3) (List.mem_of_getElem? (i := 14) rfl)),
    List.forall_mem_nil _⟩), hE, hT⟩) dec_X11_first chk_X11_first
theorem C_X11_note (hE : k_Eok (gE g tys B0 GI)) (hT : k_tys (gE g tys B0 GI)) : k_Met l (gE g tys B0 GI) τ gTB yX11_note cX11_note 3 1 K_X11_note ⟨1, 0, 0, 21⟩ :=
  k_met (M := M_X11_note) (by decide +kernel) (fun X hl hr hF hts hK => ⟨gFLk11 hts, gCIk11 hts, gCJk11 hts, (show ∀ q ∈ ([(43, K_X11_isPlace)] : List (Nat × kCtr)), k_call X (gE g tys B0 GI) 3 τ q.2 q.1 from List.forall_mem_cons.mpr ⟨k_callV (cc := cX11_note) (C := RX11) hF hK hts gGood (C_X11_isPlace hE hT) wk_X11_isPlace.1 wk_X11_isPlace.2.1 wl_RX11_163 wk_X11_isPlace.2.2.1 wk_X11_isPlace.2.2.2 rfl rfl rfl rfl rfl wd_X11_isPlace ⟨by rw [hr]; decide, by rw [hr]; decide⟩ (dec_X11_note (43, .invokevirtual 163, 3) (List.mem_of_getElem? (i := 23) rfl)),
    List.forall_mem_nil _⟩), hE, hT⟩) dec_X11_note chk_X11_note
theorem wl_RX11_270 : Jvm.Cond.methodLink RX11 270 yX2_findRuled ∈ gTB := gIn (i := 1175) (by decide +kernel) (by decide +kernel)
theorem wk_X2_findRuled : Jvm.Cond.code yX2_findRuled cX2_findRuled 3 (k_rty 0) ∈ gTB ∧ Jvm.Cond.initialized yX2_findRuled.cls ∈ gTB ∧ Jvm.Cond.instanceMethod yX2_findRuled ∈ gTB ∧ Jvm.Cond.selects RX2 yX2_findRuled yX2_findRuled ∈ gTB := ⟨gIn (i := 1178) (by decide +kernel) (by decide +kernel), gIn (i := 136) (by decide +kernel) (by decide +kernel), gIn (i := 1176) (by decide +kernel) (by decide +kernel), gIn (i := 1177) (by decide +kernel) (by decide +kernel)⟩
theorem wd_X2_findRuled : yX2_findRuled.cls ≠ "java/lang/invoke/MethodHandle" ∧ yX2_findRuled.cls ≠ "java/lang/invoke/VarHandle" ∧ (parseMethodDescriptor yX2_findRuled.desc).map (fun d => d.parameters.length) = some 1 := by decide +kernel
theorem C_X11_ruled (hE : k_Eok (gE g tys B0 GI)) (hT : k_tys (gE g tys B0 GI)) : k_Met l (gE g tys B0 GI) τ gTB yX11_ruled cX11_ruled 2 1 K_X11_ruled ⟨21, 0, 0, 715⟩ :=
  k_met (M := M_X11_ruled) (by decide +kernel) (fun X hl hr hF hts hK => ⟨gFLk11 hts, gCIk11 hts, gCJk11 hts, (show ∀ q ∈ ([(33, K_X2_findRuled)] : List (Nat × kCtr)), k_call X (gE g tys B0 GI) 2 τ q.2 q.1 from List.forall_mem_cons.mpr ⟨k_callV (cc := cX11_ruled) (C := RX2) hF hK hts gGood (C_X2_findRuled hE hT) wk_X2_findRuled.1 wk_X2_findRuled.2.1 wl_RX11_270 wk_X2_findRuled.2.2.1 wk_X2_findRuled.2.2.2 rfl rfl rfl rfl rfl wd_X2_findRuled ⟨by rw [hr]; decide, by rw [hr]; decide⟩ (dec_X11_ruled (33, .invokevirtual 270, 3) (List.mem_of_getElem? (i := 16) rfl)),
    List.forall_mem_nil _⟩), hE, hT⟩) dec_X11_ruled chk_X11_ruled
theorem wl_RX11_279 : Jvm.Cond.methodLink RX11 279 yX2_findParting ∈ gTB := gIn (i := 1197) (by decide +kernel) (by decide +kernel)
theorem wk_X2_findParting : Jvm.Cond.code yX2_findParting cX2_findParting 3 (k_rty 0) ∈ gTB ∧ Jvm.Cond.initialized yX2_findParting.cls ∈ gTB ∧ Jvm.Cond.instanceMethod yX2_findParting ∈ gTB ∧ Jvm.Cond.selects RX2 yX2_findParting yX2_findParting ∈ gTB := ⟨gIn (i := 1200) (by decide +kernel) (by decide +kernel), gIn (i := 136) (by decide +kernel) (by decide +kernel), gIn (i := 1198) (by decide +kernel) (by decide +kernel), gIn (i := 1199) (by decide +kernel) (by decide +kernel)⟩
theorem wd_X2_findParting : yX2_findParting.cls ≠ "java/lang/invoke/MethodHandle" ∧ yX2_findParting.cls ≠ "java/lang/invoke/VarHandle" ∧ (parseMethodDescriptor yX2_findParting.desc).map (fun d => d.parameters.length) = some 0 := by decide +kernel
theorem C_X11_look (hE : k_Eok (gE g tys B0 GI)) (hT : k_tys (gE g tys B0 GI)) : k_Met l (gE g tys B0 GI) τ gTB yX11_look cX11_look 2 1 K_X11_look ⟨21, 0, 0, 715⟩ :=
  k_met (M := M_X11_look) (by decide +kernel) (fun X hl hr hF hts hK => ⟨gFLk11 hts, gCIk11 hts, gCJk11 hts, (show ∀ q ∈ ([(32, K_X2_findRuled), (52, K_X2_findParting)] : List (Nat × kCtr)), k_call X (gE g tys B0 GI) 2 τ q.2 q.1 from List.forall_mem_cons.mpr ⟨k_callV (cc := cX11_look) (C := RX2) hF hK hts gGood (C_X2_findRuled hE hT) wk_X2_findRuled.1 wk_X2_findRuled.2.1 wl_RX11_270 wk_X2_findRuled.2.2.1 wk_X2_findRuled.2.2.2 rfl rfl rfl rfl rfl wd_X2_findRuled ⟨by rw [hr]; decide, by rw [hr]; decide⟩ (dec_X11_look (32, .invokevirtual 270, 3) (List.mem_of_getElem? (i := 16) rfl)),
    List.forall_mem_cons.mpr ⟨k_callV (cc := cX11_look) (C := RX2) hF hK hts gGood (C_X2_findParting hE hT) wk_X2_findParting.1 wk_X2_findParting.2.1 wl_RX11_279 wk_X2_findParting.2.2.1 wk_X2_findParting.2.2.2 rfl rfl rfl rfl rfl wd_X2_findParting ⟨by rw [hr]; decide, by rw [hr]; decide⟩ (dec_X11_look (52, .invokevirtual 279, 3) (List.mem_of_getElem? (i := 25) rfl)),
    List.forall_mem_nil _⟩⟩), hE, hT⟩) dec_X11_look chk_X11_look
theorem C_X11_seed (hE : k_Eok (gE g tys B0 GI)) (hT : k_tys (gE g tys B0 GI)) : k_Met l (gE g tys B0 GI) τ gTB yX11_seed cX11_seed 3 1 K_X11_seed ⟨0, 0, 0, 0⟩ :=
  k_met (M := M_X11_seed) (by decide +kernel) (fun X hl hr hF hts hK => ⟨gFLk11 hts, gCIk11 hts, gCJk11 hts, (show ∀ q ∈ ([] : List (Nat × kCtr)), k_call X (gE g tys B0 GI) 3 τ q.2 q.1 from List.forall_mem_nil _), hE, hT⟩) dec_X11_seed chk_X11_seed
theorem wl_RX11_291 : Jvm.Cond.methodLink RX11 291 yX0_findSparks ∈ gTB := gIn (i := 1214) (by decide +kernel) (by decide +kernel)
theorem wk_X0_findSparks : Jvm.Cond.code yX0_findSparks cX0_findSparks 7 (k_rty 0) ∈ gTB ∧ Jvm.Cond.initialized yX0_findSparks.cls ∈ gTB ∧ Jvm.Cond.instanceMethod yX0_findSparks ∈ gTB ∧ Jvm.Cond.selects RX0 yX0_findSparks yX0_findSparks ∈ gTB := ⟨gIn (i := 1217) (by decide +kernel) (by decide +kernel), gIn (i := 134) (by decide +kernel) (by decide +kernel), gIn (i := 1215) (by decide +kernel) (by decide +kernel), gIn (i := 1216) (by decide +kernel) (by decide +kernel)⟩
theorem wd_X0_findSparks : yX0_findSparks.cls ≠ "java/lang/invoke/MethodHandle" ∧ yX0_findSparks.cls ≠ "java/lang/invoke/VarHandle" ∧ (parseMethodDescriptor yX0_findSparks.desc).map (fun d => d.parameters.length) = some 3 := by decide +kernel
theorem C_X11_sparks (hE : k_Eok (gE g tys B0 GI)) (hT : k_tys (gE g tys B0 GI)) : k_Met l (gE g tys B0 GI) τ gTB yX11_sparks cX11_sparks 5 1 K_X11_sparks ⟨20, 0, 0, 697⟩ :=
  k_met (M := M_X11_sparks) (by decide +kernel) (fun X hl hr hF hts hK => ⟨gFLk11 hts, gCIk11 hts, gCJk11 hts, (show ∀ q ∈ ([(5, K_X11_isAsked), (54, K_X0_findSparks)] : List (Nat × kCtr)), k_call X (gE g tys B0 GI) 5 τ q.2 q.1 from List.forall_mem_cons.mpr ⟨k_callV (cc := cX11_sparks) (C := RX11) hF hK hts gGood (C_X11_isAsked hE hT) wk_X11_isAsked.1 wk_X11_isAsked.2.1 wl_RX11_210 wk_X11_isAsked.2.2.1 wk_X11_isAsked.2.2.2 rfl rfl rfl rfl rfl wd_X11_isAsked ⟨by rw [hr]; decide, by rw [hr]; decide⟩ (dec_X11_sparks (5, .invokevirtual 210, 3) (List.mem_of_getElem? (i := 4) rfl)),
    List.forall_mem_cons.mpr ⟨k_callV (cc := cX11_sparks) (C := RX0) hF hK hts gGood (C_X0_findSparks hE hT) wk_X0_findSparks.1 wk_X0_findSparks.2.1 wl_RX11_291 wk_X0_findSparks.2.2.1 wk_X0_findSparks.2.2.2 rfl rfl rfl rfl rfl wd_X0_findSparks ⟨by rw [hr]; decide, by rw [hr]; decide⟩ (dec_X11_sparks (54, .invokevirtual 291, 3) (List.mem_of_getElem? (i := 31) rfl)),
    List.forall_mem_nil _⟩⟩), hE, hT⟩) dec_X11_sparks chk_X11_sparks
theorem wl_RX11_300 : Jvm.Cond.methodLink RX11 300 yX6_counted ∈ gTB := gIn (i := 1235) (by decide +kernel) (by decide +kernel)
theorem wk_X6_counted : Jvm.Cond.code yX6_counted cX6_counted 2 (k_rty 1) ∈ gTB ∧ Jvm.Cond.initialized yX6_counted.cls ∈ gTB ∧ Jvm.Cond.instanceMethod yX6_counted ∈ gTB ∧ Jvm.Cond.selects RX6 yX6_counted yX6_counted ∈ gTB := ⟨gIn (i := 1238) (by decide +kernel) (by decide +kernel), gIn (i := 130) (by decide +kernel) (by decide +kernel), gIn (i := 1236) (by decide +kernel) (by decide +kernel), gIn (i := 1237) (by decide +kernel) (by decide +kernel)⟩
theorem wd_X6_counted : yX6_counted.cls ≠ "java/lang/invoke/MethodHandle" ∧ yX6_counted.cls ≠ "java/lang/invoke/VarHandle" ∧ (parseMethodDescriptor yX6_counted.desc).map (fun d => d.parameters.length) = some 1 := by decide +kernel
theorem C_X11_count (hE : k_Eok (gE g tys B0 GI)) (hT : k_tys (gE g tys B0 GI)) : k_Met l (gE g tys B0 GI) τ gTB yX11_count cX11_count 2 1 K_X11_count ⟨2, 0, 0, 43⟩ :=
  k_met (M := M_X11_count) (by decide +kernel) (fun X hl hr hF hts hK => ⟨gFLk11 hts, gCIk11 hts, gCJk11 hts, (show ∀ q ∈ ([(163, K_X6_counted)] : List (Nat × kCtr)), k_call X (gE g tys B0 GI) 2 τ q.2 q.1 from List.forall_mem_cons.mpr ⟨k_callV (cc := cX11_count) (C := RX6) hF hK hts gGood (C_X6_counted hE hT) wk_X6_counted.1 wk_X6_counted.2.1 wl_RX11_300 wk_X6_counted.2.2.1 wk_X6_counted.2.2.2 rfl rfl rfl rfl rfl wd_X6_counted ⟨by rw [hr]; decide, by rw [hr]; decide⟩ (dec_X11_count (163, .invokevirtual 300, 3) (List.mem_of_getElem? (i := 43) rfl)),
    List.forall_mem_nil _⟩), hE, hT⟩) dec_X11_count chk_X11_count
end
end
