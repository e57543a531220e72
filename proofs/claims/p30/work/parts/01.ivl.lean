/-! ===== numbers between bounds: what the kernel reckons, and why it is so ===== -/
def k_le (a b : Int) : Bool := match b - a with
  | .ofNat _ => true
  | .negSucc _ => false
theorem k_le_iff {a b : Int} : k_le a b = true ↔ a ≤ b := by
  unfold k_le
  constructor
  · intro h
    split at h
    · rename_i n e
      have : (0 : Int) ≤ b - a := by rw [e]; exact Int.natCast_nonneg n
      omega
    · cases h
  · intro h
    split
    · rfl
    · rename_i n e
      have h2 : b - a < 0 := by rw [e]; exact Int.negSucc_lt_zero n
      omega
def k_eqi (a b : Int) : Bool := k_le a b && k_le b a
theorem k_eqi_iff {a b : Int} : k_eqi a b = true ↔ a = b := by
  unfold k_eqi
  rw [Bool.and_eq_true, k_le_iff, k_le_iff]
  omega
def k_min (a b : Int) : Int := if k_le a b = true then a else b
def k_max (a b : Int) : Int := if k_le a b = true then b else a
theorem k_min_le {a b z : Int} (h1 : z ≤ a) (h2 : z ≤ b) : z ≤ k_min a b := by
  unfold k_min; split <;> assumption
theorem k_max_le {a b z : Int} (h1 : a ≤ z) (h2 : b ≤ z) : k_max a b ≤ z := by
  unfold k_max; split <;> assumption
abbrev kB : Type := Int × Int
def k_top : kB := (-2147483648, 2147483647)
def k_topL : kB := (-9223372036854775808, 9223372036854775807)
def k_fit (q : kB) : kB := if (k_le (-2147483648) q.1 && k_le q.2 2147483647) = true then q else k_top
def k_fitL (q : kB) : kB := if (k_le (-9223372036854775808) q.1 && k_le q.2 9223372036854775807) = true then q else k_topL
def k_in (q : kB) (z : Int) : Prop := q.1 ≤ z ∧ z ≤ q.2
theorem k_in_top (x : Int32) : k_in k_top x.toInt := by
  have h1 := x.le_toInt
  have h2 := x.toInt_lt
  unfold k_in k_top
  constructor
  · show (-2147483648 : Int) ≤ _; omega
  · show _ ≤ (2147483647 : Int); omega
theorem k_in_topL (x : Int64) : k_in k_topL x.toInt := by
  have h1 := x.le_toInt
  have h2 := x.toInt_lt
  unfold k_in k_topL
  constructor
  · show (-9223372036854775808 : Int) ≤ _; omega
  · show _ ≤ (9223372036854775807 : Int); omega
theorem k_fit_ok {x : Int32} {z : Int} {q : kB} (hx : x.toInt = z.bmod (2 ^ 32)) (h : k_in q z) : k_in (k_fit q) x.toInt := by
  unfold k_fit
  split
  · rename_i e
    rw [Bool.and_eq_true, k_le_iff, k_le_iff] at e
    obtain ⟨h1, h2⟩ := h
    have : z.bmod (2 ^ 32) = z := Int.bmod_eq_of_le (by omega) (by omega)
    rw [hx, this]
    exact ⟨h1, h2⟩
  · exact k_in_top x
theorem k_fitL_ok {x : Int64} {z : Int} {q : kB} (hx : x.toInt = z.bmod (2 ^ 64)) (h : k_in q z) : k_in (k_fitL q) x.toInt := by
  unfold k_fitL
  split
  · rename_i e
    rw [Bool.and_eq_true, k_le_iff, k_le_iff] at e
    obtain ⟨h1, h2⟩ := h
    have : z.bmod (2 ^ 64) = z := Int.bmod_eq_of_le (by omega) (by omega)
    rw [hx, this]
    exact ⟨h1, h2⟩
  · exact k_in_topL x
def k_addB (p q : kB) : kB := (p.1 + q.1, p.2 + q.2)
def k_subB (p q : kB) : kB := (p.1 - q.2, p.2 - q.1)
theorem k_addB_ok {p q : kB} {x y : Int} (h : k_in p x) (h' : k_in q y) : k_in (k_addB p q) (x + y) := by
  obtain ⟨a, b⟩ := h; obtain ⟨a', b'⟩ := h'
  exact ⟨by show p.1 + q.1 ≤ _; omega, by show _ ≤ p.2 + q.2; omega⟩
theorem k_subB_ok {p q : kB} {x y : Int} (h : k_in p x) (h' : k_in q y) : k_in (k_subB p q) (x - y) := by
  obtain ⟨a, b⟩ := h; obtain ⟨a', b'⟩ := h'
  exact ⟨by show p.1 - q.2 ≤ _; omega, by show _ ≤ p.2 - q.1; omega⟩
/-- a product, where one side is one number, not below 0 -/
def k_mulB (p q : kB) : Option kB :=
  if (k_eqi q.1 q.2 && k_le 0 q.1) = true then some (p.1 * q.1, p.2 * q.1)
  else if (k_eqi p.1 p.2 && k_le 0 p.1) = true then some (p.1 * q.1, p.1 * q.2)
  else none
theorem k_mulB_ok {p q r : kB} {x y : Int} (e : k_mulB p q = some r) (h : k_in p x) (h' : k_in q y) : k_in r (x * y) := by
  obtain ⟨a, b⟩ := h; obtain ⟨a', b'⟩ := h'
  unfold k_mulB at e
  split at e
  · rename_i c
    rw [Bool.and_eq_true, k_eqi_iff, k_le_iff] at c
    cases e
    have hy : y = q.1 := by omega
    subst hy
    exact ⟨Int.mul_le_mul_of_nonneg_right a c.2, Int.mul_le_mul_of_nonneg_right b c.2⟩
  · split at e
    · rename_i c
      rw [Bool.and_eq_true, k_eqi_iff, k_le_iff] at c
      cases e
      have hx : x = p.1 := by omega
      subst hx
      exact ⟨Int.mul_le_mul_of_nonneg_left a' c.2, Int.mul_le_mul_of_nonneg_left b' c.2⟩
    · cases e
def k_mulI (p q : kB) : kB := match k_mulB p q with
  | some r => k_fit r
  | none => k_top
def k_mulJ (p q : kB) : kB := match k_mulB p q with
  | some r => k_fitL r
  | none => k_topL
theorem k_mulI_ok {p q : kB} {x y : Int32} (h : k_in p x.toInt) (h' : k_in q y.toInt) : k_in (k_mulI p q) (x * y).toInt := by
  unfold k_mulI
  split
  · rename_i r e
    exact k_fit_ok (Int32.toInt_mul x y) (k_mulB_ok e h h')
  · exact k_in_top _
theorem k_mulJ_ok {p q : kB} {x y : Int64} (h : k_in p x.toInt) (h' : k_in q y.toInt) : k_in (k_mulJ p q) (x * y).toInt := by
  unfold k_mulJ
  split
  · rename_i r e
    exact k_fitL_ok (Int64.toInt_mul x y) (k_mulB_ok e h h')
  · exact k_in_topL _
theorem k_addI_ok {p q : kB} {x y : Int32} (h : k_in p x.toInt) (h' : k_in q y.toInt) : k_in (k_fit (k_addB p q)) (x + y).toInt := k_fit_ok (Int32.toInt_add x y) (k_addB_ok h h')
theorem k_subI_ok {p q : kB} {x y : Int32} (h : k_in p x.toInt) (h' : k_in q y.toInt) : k_in (k_fit (k_subB p q)) (x - y).toInt := k_fit_ok (Int32.toInt_sub x y) (k_subB_ok h h')
theorem k_addJ_ok {p q : kB} {x y : Int64} (h : k_in p x.toInt) (h' : k_in q y.toInt) : k_in (k_fitL (k_addB p q)) (x + y).toInt := k_fitL_ok (Int64.toInt_add x y) (k_addB_ok h h')
theorem k_subJ_ok {p q : kB} {x y : Int64} (h : k_in p x.toInt) (h' : k_in q y.toInt) : k_in (k_fitL (k_subB p q)) (x - y).toInt := k_fitL_ok (Int64.toInt_sub x y) (k_subB_ok h h')
/-- a division by one number above 0, of what is not below 0 -/
def k_divB (p q : kB) : Option kB := if ((k_eqi q.1 q.2 && k_le 1 q.1) && k_le 0 p.1) = true then some (p.1 / q.1, p.2 / q.1) else none
theorem k_divB_ok {p q r : kB} {x y : Int} (e : k_divB p q = some r) (h : k_in p x) (h' : k_in q y) : k_in r (x.tdiv y) := by
  obtain ⟨a, b⟩ := h; obtain ⟨a', b'⟩ := h'
  unfold k_divB at e
  split at e
  · rename_i c
    rw [Bool.and_eq_true, Bool.and_eq_true, k_eqi_iff, k_le_iff, k_le_iff] at c
    cases e
    have hy : y = q.1 := by omega
    subst hy
    have hx0 : 0 ≤ x := by omega
    rw [Int.tdiv_eq_ediv_of_nonneg hx0]
    exact ⟨Int.ediv_le_ediv (by omega) a, Int.ediv_le_ediv (by omega) b⟩
  · cases e
def k_divI (p q : kB) : kB := match k_divB p q with
  | some r => k_fit r
  | none => k_top
def k_divJ (p q : kB) : kB := match k_divB p q with
  | some r => k_fitL r
  | none => k_topL
theorem k_divI_ok {p q : kB} {x y : Int32} (h : k_in p x.toInt) (h' : k_in q y.toInt) : k_in (k_divI p q) (x / y).toInt := by
  unfold k_divI
  split
  · rename_i r e
    exact k_fit_ok (Int32.toInt_div x y) (k_divB_ok e h h')
  · exact k_in_top _
theorem k_divJ_ok {p q : kB} {x y : Int64} (h : k_in p x.toInt) (h' : k_in q y.toInt) : k_in (k_divJ p q) (x / y).toInt := by
  unfold k_divJ
  split
  · rename_i r e
    exact k_fitL_ok (Int64.toInt_div x y) (k_divB_ok e h h')
  · exact k_in_topL _
/-- a rest, by what is above 0 -/
def k_remB (p q : kB) : Option kB := if k_le 1 q.1 = true then (if k_le 0 p.1 = true then some (0, k_min p.2 (q.2 - 1)) else some (1 - q.2, q.2 - 1)) else none
theorem k_remB_ok {p q r : kB} {x y : Int} (e : k_remB p q = some r) (h : k_in p x) (h' : k_in q y) : k_in r (x.tmod y) := by
  obtain ⟨a, b⟩ := h; obtain ⟨a', b'⟩ := h'
  unfold k_remB at e
  split at e
  · rename_i c
    rw [k_le_iff] at c
    have hy : 0 < y := by omega
    split at e
    · rename_i c2
      rw [k_le_iff] at c2
      cases e
      have hx0 : 0 ≤ x := by omega
      rw [Int.tmod_eq_emod_of_nonneg hx0]
      have h1 := Int.emod_nonneg x (show y ≠ 0 by omega)
      have h2 := Int.emod_lt_of_pos x hy
      have h4 := Int.mul_nonneg (Int.le_of_lt hy) (Int.ediv_nonneg hx0 (Int.le_of_lt hy))
      have h5 := Int.mul_ediv_add_emod x y
      have h3 : x % y ≤ x := by omega
      exact ⟨h1, k_min_le (by omega) (by omega)⟩
    · cases e
      have h2 := Int.tmod_lt_of_pos x hy
      have h1 := Int.lt_tmod_of_pos x hy
      exact ⟨by show 1 - q.2 ≤ _; omega, by show _ ≤ q.2 - 1; omega⟩
  · cases e
theorem k_rem32 (x y : Int32) : (x - x / y * y).toInt = (x.toInt.tmod y.toInt).bmod (2 ^ 32) := by
  rw [Int32.toInt_sub, Int32.toInt_mul, Int32.toInt_div]
  have h : x.toInt.tmod y.toInt = x.toInt - x.toInt.tdiv y.toInt * y.toInt := by
    have := Int.tmod_def x.toInt y.toInt
    rw [this, Int.mul_comm]
  rw [h, Int.bmod_mul_bmod, Int.sub_bmod_bmod]
theorem k_rem64 (x y : Int64) : (x - x / y * y).toInt = (x.toInt.tmod y.toInt).bmod (2 ^ 64) := by
  rw [Int64.toInt_sub, Int64.toInt_mul, Int64.toInt_div]
  have h : x.toInt.tmod y.toInt = x.toInt - x.toInt.tdiv y.toInt * y.toInt := by
    have := Int.tmod_def x.toInt y.toInt
    rw [this, Int.mul_comm]
  rw [h, Int.bmod_mul_bmod, Int.sub_bmod_bmod]
def k_remI (p q : kB) : kB := match k_remB p q with
  | some r => k_fit r
  | none => k_top
def k_remJ (p q : kB) : kB := match k_remB p q with
  | some r => k_fitL r
  | none => k_topL
theorem k_remI_ok {p q : kB} {x y : Int32} (h : k_in p x.toInt) (h' : k_in q y.toInt) : k_in (k_remI p q) (x - x / y * y).toInt := by
  unfold k_remI
  split
  · rename_i r e
    exact k_fit_ok (k_rem32 x y) (k_remB_ok e h h')
  · exact k_in_top _
theorem k_remJ_ok {p q : kB} {x y : Int64} (h : k_in p x.toInt) (h' : k_in q y.toInt) : k_in (k_remJ p q) (x - x / y * y).toInt := by
  unfold k_remJ
  split
  · rename_i r e
    exact k_fitL_ok (k_rem64 x y) (k_remB_ok e h h')
  · exact k_in_topL _
/-- bits: of what is not below 0 the number is that of its bits -/
theorem k_nat32 {x : Int32} (h : 0 ≤ x.toInt) : x.toInt = (x.toBitVec.toNat : Int) ∧ x.toBitVec.toNat < 2 ^ 31 := by
  have h1 : x.toInt = x.toBitVec.toInt := rfl
  have h2 := BitVec.toInt_eq_toNat_cond x.toBitVec
  have h3 := x.toBitVec.isLt
  rw [h1] at h ⊢
  rw [h2] at h ⊢
  split at h
  · rename_i c
    rw [if_pos c]
    exact ⟨rfl, by omega⟩
  · omega
theorem k_nat32' {x : Int32} (h : x.toBitVec.toNat < 2 ^ 31) : x.toInt = (x.toBitVec.toNat : Int) := by
  have h1 : x.toInt = x.toBitVec.toInt := rfl
  rw [h1, BitVec.toInt_eq_toNat_cond x.toBitVec, if_pos (by omega)]
theorem k_nat64 {x : Int64} (h : 0 ≤ x.toInt) : x.toInt = (x.toBitVec.toNat : Int) ∧ x.toBitVec.toNat < 2 ^ 63 := by
  have h1 : x.toInt = x.toBitVec.toInt := rfl
  have h2 := BitVec.toInt_eq_toNat_cond x.toBitVec
  have h3 := x.toBitVec.isLt
  rw [h1] at h ⊢
  rw [h2] at h ⊢
  split at h
  · rename_i c
    rw [if_pos c]
    exact ⟨rfl, by omega⟩
  · omega
theorem k_nat64' {x : Int64} (h : x.toBitVec.toNat < 2 ^ 63) : x.toInt = (x.toBitVec.toNat : Int) := by
  have h1 : x.toInt = x.toBitVec.toInt := rfl
  rw [h1, BitVec.toInt_eq_toNat_cond x.toBitVec, if_pos (by omega)]
/-- and: one number each: reckoned; else within what is not below 0 -/
def k_andB (p q : kB) : Option kB :=
  if ((k_eqi p.1 p.2 && k_eqi q.1 q.2) && (k_le 0 p.1 && k_le 0 q.1)) = true then some ((Nat.land p.1.toNat q.1.toNat : Nat), (Nat.land p.1.toNat q.1.toNat : Nat))
  else if k_le 0 q.1 = true then (if k_le 0 p.1 = true then some (0, k_min p.2 q.2) else some (0, q.2))
  else if k_le 0 p.1 = true then some (0, p.2) else none
theorem k_and_nat (x y : Int32) : (x &&& y).toBitVec.toNat = Nat.land x.toBitVec.toNat y.toBitVec.toNat := by
  rw [Int32.toBitVec_and, BitVec.toNat_and]; rfl
theorem k_and_natJ (x y : Int64) : (x &&& y).toBitVec.toNat = Nat.land x.toBitVec.toNat y.toBitVec.toNat := by
  rw [Int64.toBitVec_and, BitVec.toNat_and]; rfl
theorem k_land_l (a b : Nat) : Nat.land a b ≤ a := Nat.and_le_left
theorem k_land_r (a b : Nat) : Nat.land a b ≤ b := Nat.and_le_right
theorem k_andB_ok {p q r : kB} {x y : Int32} (e : k_andB p q = some r) (h : k_in p x.toInt) (h' : k_in q y.toInt) : k_in r (x &&& y).toInt := by
  obtain ⟨a, b⟩ := h; obtain ⟨a', b'⟩ := h'
  have hn := k_and_nat x y
  have hl := k_land_l x.toBitVec.toNat y.toBitVec.toNat
  have hr := k_land_r x.toBitVec.toNat y.toBitVec.toNat
  unfold k_andB at e
  split at e
  · rename_i c
    rw [Bool.and_eq_true, Bool.and_eq_true, Bool.and_eq_true, k_eqi_iff, k_eqi_iff, k_le_iff, k_le_iff] at c
    cases e
    obtain ⟨e1, l1⟩ := k_nat32 (x := x) (by omega)
    obtain ⟨e2, l2⟩ := k_nat32 (x := y) (by omega)
    have hx : p.1.toNat = x.toBitVec.toNat := by omega
    have hy : q.1.toNat = y.toBitVec.toNat := by omega
    rw [hx, hy, k_nat32' (x := x &&& y) (by rw [hn]; omega), hn]
    exact ⟨Int.le_refl _, Int.le_refl _⟩
  · split at e
    · rename_i c
      rw [k_le_iff] at c
      obtain ⟨e2, l2⟩ := k_nat32 (x := y) (by omega)
      have e3 := k_nat32' (x := x &&& y) (by rw [hn]; omega)
      split at e
      · rename_i c2
        rw [k_le_iff] at c2
        cases e
        obtain ⟨e1, l1⟩ := k_nat32 (x := x) (by omega)
        rw [e3, hn]
        exact ⟨Int.natCast_nonneg _, k_min_le (by omega) (by omega)⟩
      · cases e
        rw [e3, hn]
        exact ⟨Int.natCast_nonneg _, by show _ ≤ q.2; omega⟩
    · split at e
      · rename_i c
        rw [k_le_iff] at c
        cases e
        obtain ⟨e1, l1⟩ := k_nat32 (x := x) (by omega)
        have e3 := k_nat32' (x := x &&& y) (by rw [hn]; omega)
        rw [e3, hn]
        exact ⟨Int.natCast_nonneg _, by show _ ≤ p.2; omega⟩
      · cases e
theorem k_andB_okJ {p q r : kB} {x y : Int64} (e : k_andB p q = some r) (h : k_in p x.toInt) (h' : k_in q y.toInt) : k_in r (x &&& y).toInt := by
  obtain ⟨a, b⟩ := h; obtain ⟨a', b'⟩ := h'
  have hn := k_and_natJ x y
  have hl := k_land_l x.toBitVec.toNat y.toBitVec.toNat
  have hr := k_land_r x.toBitVec.toNat y.toBitVec.toNat
  unfold k_andB at e
  split at e
  · rename_i c
    rw [Bool.and_eq_true, Bool.and_eq_true, Bool.and_eq_true, k_eqi_iff, k_eqi_iff, k_le_iff, k_le_iff] at c
    cases e
    obtain ⟨e1, l1⟩ := k_nat64 (x := x) (by omega)
    obtain ⟨e2, l2⟩ := k_nat64 (x := y) (by omega)
    have hx : p.1.toNat = x.toBitVec.toNat := by omega
    have hy : q.1.toNat = y.toBitVec.toNat := by omega
    rw [hx, hy, k_nat64' (x := x &&& y) (by rw [hn]; omega), hn]
    exact ⟨Int.le_refl _, Int.le_refl _⟩
  · split at e
    · rename_i c
      rw [k_le_iff] at c
      obtain ⟨e2, l2⟩ := k_nat64 (x := y) (by omega)
      have e3 := k_nat64' (x := x &&& y) (by rw [hn]; omega)
      split at e
      · rename_i c2
        rw [k_le_iff] at c2
        cases e
        obtain ⟨e1, l1⟩ := k_nat64 (x := x) (by omega)
        rw [e3, hn]
        exact ⟨Int.natCast_nonneg _, k_min_le (by omega) (by omega)⟩
      · cases e
        rw [e3, hn]
        exact ⟨Int.natCast_nonneg _, by show _ ≤ q.2; omega⟩
    · split at e
      · rename_i c
        rw [k_le_iff] at c
        cases e
        obtain ⟨e1, l1⟩ := k_nat64 (x := x) (by omega)
        have e3 := k_nat64' (x := x &&& y) (by rw [hn]; omega)
        rw [e3, hn]
        exact ⟨Int.natCast_nonneg _, by show _ ≤ p.2; omega⟩
      · cases e
def k_andI (p q : kB) : kB := (k_andB p q).getD k_top
def k_andJ (p q : kB) : kB := (k_andB p q).getD k_topL
theorem k_andI_ok {p q : kB} {x y : Int32} (h : k_in p x.toInt) (h' : k_in q y.toInt) : k_in (k_andI p q) (x &&& y).toInt := by
  unfold k_andI
  cases e : k_andB p q with
  | none => exact k_in_top _
  | some r => exact k_andB_ok e h h'
theorem k_andJ_ok {p q : kB} {x y : Int64} (h : k_in p x.toInt) (h' : k_in q y.toInt) : k_in (k_andJ p q) (x &&& y).toInt := by
  unfold k_andJ
  cases e : k_andB p q with
  | none => exact k_in_topL _
  | some r => exact k_andB_okJ e h h'
/-- or: of what is not below 0: within the next power of two; one number each: reckoned -/
def k_orB (p q : kB) : Option kB :=
  if ((k_le 0 p.1 && k_le 0 q.1) && (k_le p.2 2147483647 && k_le q.2 2147483647)) = true then
    (if (k_eqi p.1 p.2 && k_eqi q.1 q.2) = true then some ((Nat.lor p.1.toNat q.1.toNat : Nat), (Nat.lor p.1.toNat q.1.toNat : Nat))
    else some (0, ((2 ^ (Nat.log2 (Nat.max p.2.toNat q.2.toNat) + 1) - 1 : Nat) : Int)))
  else none
theorem k_or_nat (x y : Int32) : (x ||| y).toBitVec.toNat = Nat.lor x.toBitVec.toNat y.toBitVec.toNat := by
  rw [Int32.toBitVec_or, BitVec.toNat_or]; rfl
theorem k_orB_ok {p q r : kB} {x y : Int32} (e : k_orB p q = some r) (h : k_in p x.toInt) (h' : k_in q y.toInt) : k_in r (x ||| y).toInt := by
  obtain ⟨a, b⟩ := h; obtain ⟨a', b'⟩ := h'
  have hn := k_or_nat x y
  unfold k_orB at e
  split at e
  · rename_i c
    rw [Bool.and_eq_true, Bool.and_eq_true, Bool.and_eq_true, k_le_iff, k_le_iff, k_le_iff, k_le_iff] at c
    obtain ⟨e1, l1⟩ := k_nat32 (x := x) (by omega)
    obtain ⟨e2, l2⟩ := k_nat32 (x := y) (by omega)
    have hlt : Nat.lor x.toBitVec.toNat y.toBitVec.toNat < 2 ^ 31 := Nat.or_lt_two_pow l1 l2
    have e3 := k_nat32' (x := x ||| y) (by rw [hn]; exact hlt)
    split at e
    · rename_i c2
      rw [Bool.and_eq_true, k_eqi_iff, k_eqi_iff] at c2
      cases e
      have hx : p.1.toNat = x.toBitVec.toNat := by omega
      have hy : q.1.toNat = y.toBitVec.toNat := by omega
      rw [hx, hy, e3, hn]
      exact ⟨Int.le_refl _, Int.le_refl _⟩
    · cases e
      have hm : ∀ z : Nat, z ≤ Nat.max p.2.toNat q.2.toNat → z < 2 ^ (Nat.log2 (Nat.max p.2.toNat q.2.toNat) + 1) := fun z hz => Nat.lt_of_le_of_lt hz Nat.lt_log2_self
      have g1 := hm x.toBitVec.toNat (Nat.le_trans (by omega) (Nat.le_max_left p.2.toNat q.2.toNat))
      have g2 := hm y.toBitVec.toNat (Nat.le_trans (by omega) (Nat.le_max_right p.2.toNat q.2.toNat))
      have g3 : Nat.lor x.toBitVec.toNat y.toBitVec.toNat < 2 ^ (Nat.log2 (Nat.max p.2.toNat q.2.toNat) + 1) := Nat.or_lt_two_pow g1 g2
      rw [e3, hn]
      exact ⟨Int.natCast_nonneg _, Int.ofNat_le.mpr (Nat.le_sub_one_of_lt g3)⟩
  · cases e
def k_orI (p q : kB) : kB := (k_orB p q).getD k_top
theorem k_orI_ok {p q : kB} {x y : Int32} (h : k_in p x.toInt) (h' : k_in q y.toInt) : k_in (k_orI p q) (x ||| y).toInt := by
  unfold k_orI
  cases e : k_orB p q with
  | none => exact k_in_top _
  | some r => exact k_orB_ok e h h'
/-- shifts by 0 to 31 -/
theorem k_and31 {y : Int32} (h1 : 0 ≤ y.toInt) (h2 : y.toInt ≤ 31) : (y &&& 31) = y := by
  apply Int32.toInt_inj.mp
  obtain ⟨e1, l1⟩ := k_nat32 h1
  have hn := k_and_nat y 31
  have h31 : (31 : Int32).toBitVec.toNat = 31 := rfl
  have hl : y.toBitVec.toNat < 2 ^ 5 := by omega
  have hz : Nat.land y.toBitVec.toNat 31 = y.toBitVec.toNat := by
    have := Nat.and_two_pow_sub_one_eq_mod y.toBitVec.toNat 5
    exact this.trans (Nat.mod_eq_of_lt hl)
  rw [h31, hz] at hn
  rw [k_nat32' (x := y &&& 31) (by omega), hn, e1]
theorem k_smod {y : Int32} (h1 : 0 ≤ y.toInt) (h2 : y.toInt ≤ 31) : y.toBitVec.smod 32 = y.toBitVec := by
  apply BitVec.eq_of_toInt_eq
  rw [BitVec.toInt_smod]
  have h32 : (32 : BitVec 32).toInt = 32 := by decide
  rw [h32]
  show y.toInt.fmod 32 = y.toInt
  rw [Int.fmod_eq_emod_of_nonneg _ (by decide)]
  omega
theorem k_shl_to {x y : Int32} (h1 : 0 ≤ y.toInt) (h2 : y.toInt ≤ 31) : (x <<< y).toInt = ((x.toBitVec.toNat * 2 ^ y.toBitVec.toNat : Nat) : Int).bmod (2 ^ 32) := by
  have e : (x <<< y).toInt = (x.toBitVec <<< (y.toBitVec.smod 32)).toInt := rfl
  rw [e, k_smod h1 h2]
  have e2 : x.toBitVec <<< y.toBitVec = x.toBitVec <<< y.toBitVec.toNat := rfl
  rw [e2, BitVec.toInt_shiftLeft, Nat.shiftLeft_eq]
theorem k_shr_to {x y : Int32} (h1 : 0 ≤ y.toInt) (h2 : y.toInt ≤ 31) : (x >>> y).toInt = x.toInt / ((2 ^ y.toBitVec.toNat : Nat) : Int) := by
  have e : (x >>> y).toInt = (BitVec.sshiftRight' x.toBitVec (y.toBitVec.smod 32)).toInt := rfl
  rw [e, k_smod h1 h2]
  have e2 : BitVec.sshiftRight' x.toBitVec y.toBitVec = x.toBitVec.sshiftRight y.toBitVec.toNat := rfl
  rw [e2, BitVec.toInt_sshiftRight, Int.shiftRight_eq_div_pow]
  rfl
def k_shlI (p q : kB) : kB := if ((k_le 0 p.1 && k_le 0 q.1) && k_le q.2 30) = true then k_fit (p.1 * ((2 ^ q.1.toNat : Nat) : Int), p.2 * ((2 ^ q.2.toNat : Nat) : Int)) else k_top
def k_shrI (p q : kB) : kB := if ((k_eqi q.1 q.2 && k_le 0 q.1) && k_le q.2 31) = true then (p.1 / ((2 ^ q.1.toNat : Nat) : Int), p.2 / ((2 ^ q.1.toNat : Nat) : Int)) else k_top
theorem k_shlI_ok {p q : kB} {x y : Int32} (h : k_in p x.toInt) (h' : k_in q y.toInt) : k_in (k_shlI p q) (x <<< (y &&& 31)).toInt := by
  obtain ⟨a, b⟩ := h; obtain ⟨a', b'⟩ := h'
  unfold k_shlI
  split
  · rename_i c
    rw [Bool.and_eq_true, Bool.and_eq_true, k_le_iff, k_le_iff, k_le_iff] at c
    rw [k_and31 (by omega) (by omega)]
    obtain ⟨e1, l1⟩ := k_nat32 (x := x) (by omega)
    obtain ⟨e2, l2⟩ := k_nat32 (x := y) (by omega)
    refine k_fit_ok (k_shl_to (by omega) (by omega)) ⟨?_, ?_⟩
    · show p.1 * _ ≤ _
      have h1 : p.1 = ((p.1.toNat : Nat) : Int) := by omega
      rw [h1, ← Int.natCast_mul]
      exact Int.ofNat_le.mpr (Nat.mul_le_mul (by omega) (Nat.pow_le_pow_right (by decide) (by omega)))
    · show _ ≤ p.2 * _
      have h1 : p.2 = ((p.2.toNat : Nat) : Int) := by omega
      rw [h1, ← Int.natCast_mul]
      exact Int.ofNat_le.mpr (Nat.mul_le_mul (by omega) (Nat.pow_le_pow_right (by decide) (by omega)))
  · exact k_in_top _
theorem k_shrI_ok {p q : kB} {x y : Int32} (h : k_in p x.toInt) (h' : k_in q y.toInt) : k_in (k_shrI p q) (x >>> (y &&& 31)).toInt := by
  obtain ⟨a, b⟩ := h; obtain ⟨a', b'⟩ := h'
  unfold k_shrI
  split
  · rename_i c
    rw [Bool.and_eq_true, Bool.and_eq_true, k_eqi_iff, k_le_iff, k_le_iff] at c
    rw [k_and31 (by omega) (by omega)]
    obtain ⟨e2, l2⟩ := k_nat32 (x := y) (by omega)
    have hy : q.1.toNat = y.toBitVec.toNat := by omega
    rw [k_shr_to (by omega) (by omega), hy]
    have hpos : (0 : Int) < ((2 ^ y.toBitVec.toNat : Nat) : Int) := Int.ofNat_lt.mpr (Nat.pow_pos (by decide))
    exact ⟨Int.ediv_le_ediv hpos a, Int.ediv_le_ediv hpos b⟩
  · exact k_in_top _
