/-! ===== the invariants as the checker wants them ===== -/
def gRFl : List (Nat × Nat × Nat × Nat) := [(11, 13, 30, 32), (11, 13, 40, 41), (11, 13, 1037, 31), (11, 13, 2055, 30), (11, 16, 33, 30), (11, 16, 52, 53), (11, 16, 1036, 37), (11, 16, 1042, 43), (11, 16, 2010, 55), (11, 12, 10, 12), (11, 12, 2064, 60), (11, 14, 60, 61), (11, 14, 2063, 64), (11, 14, 65, 66)]
theorem gRFm {t k : Nat} {r : Nat × Nat} (h : r ∈ gGS (1000000 + 64 * t + k)) (hk : k < 64) (ht : t < 1000) : (t, k, r.1, r.2) ∈ gRFl := by
  obtain ⟨q, h1, h2, h3⟩ := k_lkG_mem h
  have hd : ∀ q ∈ gGT, ∀ r ∈ q.2, 1000000 ≤ q.1 → q.1 < 2000000 → ((q.1 - 1000000) / 64, (q.1 - 1000000) % 64, r.1, r.2) ∈ gRFl := by decide +kernel
  have := hd q h1 r h3 (by omega) (by omega)
  rwa [show (q.1 - 1000000) / 64 = t by omega, show (q.1 - 1000000) % 64 = k by omega] at this
theorem gTT_len : gTT.length < 1000 := by decide +kernel
theorem gTT_f {t : Nat} {q : Nat × List kInfo} (h : gTT[t]? = some (.inl q)) : t < 1000 ∧ q.2.length ≤ 43 := by
  have hd : ∀ d ∈ gTT, (match (d : kDesc) with
    | Sum.inl q => decide (q.2.length ≤ 43)
    | Sum.inr _ => true) = true := by decide +kernel
  have := hd _ (List.mem_of_getElem? h)
  exact ⟨Nat.lt_trans (List.getElem?_eq_some_iff.mp h).1 gTT_len, of_decide_eq_true this⟩
section
variable {g : va_G} {tys : List (ClassId × FieldType)} {B0 : Nat} {GI : kGI}
theorem gRlF (h0 : gE1 g) (c : gGh) : k_rlF (gE g tys B0 (gGI g c)) := by
  intro τ t k a q H H' v x' r hr hd hkl ha hH hH' hf ho hv hv' hkd hgi
  obtain ⟨ht, hlen⟩ := gTT_f hd
  have hm := gRFm hr (by omega) ht
  have h11 : ∀ z ∈ gRFl, z.1 = 11 ∧ (∀ w ∈ gAT, w.1 ≠ z.2.1) ∧ z.2.2.2 ≠ 0 := by decide +kernel
  obtain ⟨ht, hne, hr0⟩ := h11 _ hm
  have ht : t = 11 := ht
  subst ht
  rw [gM_at] at hd
  have hq : q = (12, gMF) := (Sum.inl.inj (Option.some.inj hd)).symm
  subst hq
  have hv : (H[a]?).bind (fun c => c.slots[g.2 12 k]?) = some v := hv
  have hv' : (H'[a]?).bind (fun c => c.slots[g.2 12 k]?) = some (.int x') := hv'
  have e' : vI g H' a k = x'.toInt := by unfold vI; rw [hv']
  have hu : upI k (vI g H a) (vI g H' a) (vA g H a) (vA g H' a) := ⟨fun j hj hjk => vI_kept hf ha hj (by simp only [List.mem_singleton, Prod.mk.injEq, not_and]; exact fun _ => hjk), fun w hw => vA_kept h0 hH hf ha hw (by simp only [List.mem_singleton, Prod.mk.injEq, not_and]; exact fun _ => hne w hw) (by
    have hz : ∀ w ∈ gAT, w.2 ≠ 11 := by decide
    simp only [List.mem_singleton, Prod.mk.injEq, not_and]
    exact fun z => absurd z (hz w hw))⟩
  have hk0 : r.1 / 1000 = 0 → vI g H' a k = vI g H a k + 1 := fun z => by
    obtain ⟨x, rfl, hx⟩ := hkd.1 z
    rw [e', hx]
    unfold vI
    rw [hv]
  have hk1 : r.1 / 1000 = 1 → vI g H' a k = vI g H a k - 1 := fun z => by
    obtain ⟨x, rfl, hx⟩ := hkd.2.1 z
    rw [e', hx]
    unfold vI
    rw [hv]
  have hk2 : r.1 / 1000 = 2 → vI g H' a k = 0 := fun z => by rw [e']; exact hkd.2.2 z
  have hl : ∀ j {q : kB}, gMF[j]? = some (.inl q) → vI g H' a j ≤ q.2 := fun j q hj => by
    obtain ⟨x, -, h2, -, h4⟩ := vI_in h0 hH' ha hj
    rw [h2]
    exact h4
  have huq := (hgi.2.2 a ha).1
  have hp := (hgi.2.2 a ha).2
  suffices iv c (vI g H' a) (vA g H' a) r.2 from ⟨fun z => absurd z hr0, Or.inr ⟨a, ha⟩, fun a2 ha2 => by
    have := huq a2 ha2
    subst this
    exact ⟨huq, this⟩⟩
  obtain ⟨r1, r2⟩ := r
  clear hr hkd h11 hne hr0 hgi
  simp only [gRFl, List.mem_cons, List.not_mem_nil, or_false, Prod.mk.injEq, true_and] at hm
  rcases hm with ⟨rfl, rfl, rfl⟩ | ⟨rfl, rfl, rfl⟩ | ⟨rfl, rfl, rfl⟩ | ⟨rfl, rfl, rfl⟩ | ⟨rfl, rfl, rfl⟩ | ⟨rfl, rfl, rfl⟩ | ⟨rfl, rfl, rfl⟩ | ⟨rfl, rfl, rfl⟩ | ⟨rfl, rfl, rfl⟩ | ⟨rfl, rfl, rfl⟩ | ⟨rfl, rfl, rfl⟩ | ⟨rfl, rfl, rfl⟩ | ⟨rfl, rfl, rfl⟩ | ⟨rfl, rfl, rfl⟩
  · exact r_30_32 hu (hk0 rfl) (hl 13 rfl) hp
  · show (c.2.2.2.2 : Int) + 1 ≤ vI g H' a 13
    have := hk0 rfl
    have hp : (c.2.2.2.2 : Int) ≤ vI g H a 13 := hp
    omega
  · exact r_37_31 hu (hk1 rfl) hp
  · exact r_55_30 hu (hk2 rfl) hp
  · exact r_33_30 hu (hk0 rfl) (hl 16 rfl) hp
  · exact r_52_53 hu (hk0 rfl) (hl 16 rfl) hp
  · exact r_36_37 hu (hk1 rfl) hp
  · show vI g H' a 16 + (c.2.2.2.2 : Int) + 1 ≤ 400
    have := hk1 rfl
    have hp : vI g H a 16 + (c.2.2.2.2 : Int) ≤ 400 := hp
    omega
  · exact r_10_55 hu (hk2 rfl) hp
  · exact r_10_12 hu (hk0 rfl) (hl 12 rfl) hp
  · exact r_64_60 hu (hk2 rfl) hp
  · exact r_60_61 hu (hk0 rfl) hp
  · exact r_63_64 hu (hk2 rfl) hp
  · show (c.2.2.2.2 : Int) + 1 ≤ vI g H' a 14
    have := hk0 rfl
    have hp : (c.2.2.2.2 : Int) ≤ vI g H a 14 := hp
    omega
def gRAl : List (Nat × Nat × Nat × Nat × Nat × Nat × Nat × Nat) := [(38, 11, 16, 15, 11, 11, 32, 33), (38, 11, 16, 15, 91, 91, 32, 33), (38, 11, 16, 15, 12, 13, 51, 52), (36, 11, 11, 6, 0, 0, 1, 62), (36, 11, 11, 6, 0, 0, 1, 1), (34, 11, 11, 4, 0, 0, 62, 63)]
theorem gRAm {t : Nat} {u : Nat × Nat × Nat × Nat × Nat × Nat × Nat} (h : u ∈ k_rus (gGS (2000000 + t))) : (t, u) ∈ gRAl := by
  have gen : ∀ (L : List (Nat × List (Nat × Nat))) (i : Nat), k_lkG L i = [] ∨ ∃ q ∈ L, q.1 = i ∧ k_lkG L i = q.2 := by
    intro L i
    induction L with
    | nil => exact Or.inl rfl
    | cons q r ih =>
      unfold k_lkG
      split
      · rename_i z
        exact Or.inr ⟨q, List.mem_cons_self, Nat.eq_of_beq_eq_true z, rfl⟩
      · rcases ih with ih | ⟨q', h1, h2, h3⟩
        · exact Or.inl ih
        · exact Or.inr ⟨q', List.mem_cons_of_mem _ h1, h2, h3⟩
  have hd : ∀ q ∈ gGT, 2000000 ≤ q.1 → ∀ u ∈ k_rus q.2, (q.1 - 2000000, u) ∈ gRAl := by decide +kernel
  rcases gen gGT (2000000 + t) with e | ⟨q, h1, h2, h3⟩
  · unfold gGS at h
    rw [e] at h
    cases h
  · unfold gGS at h
    rw [h3] at h
    have := hd q h1 (by omega) u h
    rwa [show q.1 - 2000000 = t by omega] at this
theorem vE_upd {H H' : Heap} {b m i : Nat} {cA : ClassId} {f : Nat → Value} {y : Int32} (h1 : H[b]? = some (arrV cA m f)) (h2 : H'[b]? = some (arrV cA m (updV f i (.int y)))) (hi : i < m) (j : Nat) : vE H' b j = if j = i then y.toInt else vE H b j := by
  unfold vE
  rw [h1, h2]
  show (match (arrV cA m (updV f i (.int y))).slots[j]? with
    | some (.int x) => x.toInt
    | _ => 0) = if j = i then y.toInt else (match (arrV cA m f).slots[j]? with
    | some (.int x) => x.toInt
    | _ => 0)
  by_cases hj : j < m
  · rw [arrV_read _ _ hj, arrV_read _ _ hj]
    by_cases z : j = i
    · rw [if_pos z]
      have : updV f i (.int y) j = .int y := by unfold updV; rw [if_pos z]
      rw [this]
    · rw [if_neg z]
      have : updV f i (.int y) j = f j := by unfold updV; rw [if_neg z]
      rw [this]
  · rw [if_neg (by omega), Array.getElem?_eq_none (by rw [arrV_size]; omega), Array.getElem?_eq_none (by rw [arrV_size]; omega)]
theorem gRlA (h0 : gE1 g) (c : gGh) : k_rlA (gE g tys B0 (gGI g c)) := by
  intro τ t b a u q cA m f H H' x y hr hb ha hd hfi hfa hH hH' hf ho hx hfb h1 h2 hx0 hxm hlo hhi hgi
  have hm := gRAm hr
  have h11 : ∀ z ∈ gRAl, z.2.1 = 11 ∧ (z.2.2.2.1, z.1) ∈ gAT ∧ z.2.2.2.2.2.2.2 ≠ 0 ∧ (z.2.2.1 = 16 ∨ z.2.2.1 = 11) := by decide +kernel
  obtain ⟨ht, hat, hr0, hfi2⟩ := h11 _ hm
  have ht : u.1 = 11 := ht
  rw [ht, gM_at] at hd
  have hq : q = (12, gMF) := (Sum.inl.inj (Option.some.inj hd)).symm
  subst hq
  rw [ht] at ha
  have hx : (H[a]?).bind (fun c => c.slots[g.2 12 u.2.1]?) = some (.int x) := hx
  have hfb : (H[a]?).bind (fun c => c.slots[g.2 12 u.2.2.1]?) = some (.ref b) := hfb
  have ex : vI g H a u.2.1 = x.toInt := by unfold vI; rw [hx]
  have eb : vA g H a u.2.2.1 = vE H b := by unfold vA; rw [hfb]
  have hnt : t ≠ 11 := by
    have hz : ∀ w ∈ gAT, w.2 ≠ 11 := by decide
    exact hz _ hat
  have hfb' : (H'[a]?).bind (fun c => c.slots[g.2 12 u.2.2.1]?) = some (.ref b) := by
    have h : k_fld (gE g tys B0 (gGI g c)) H' a 12 u.2.2.1 = k_fld (gE g tys B0 (gGI g c)) H a 12 u.2.2.1 := (hf.2.2 a 11 ha).1 _ gM_at _ hfa (by simp only [List.mem_singleton, Prod.mk.injEq, not_and]; exact fun z => absurd z.symm hnt)
    exact (show (H'[a]?).bind (fun c => c.slots[g.2 12 u.2.2.1]?) = (H[a]?).bind (fun c => c.slots[g.2 12 u.2.2.1]?) from h).trans hfb
  have eb' : vA g H' a u.2.2.1 = vE H' b := by unfold vA; rw [hfb']
  have hu : upA u.2.2.1 (vI g H a u.2.1).toNat y.toInt (vI g H a) (vI g H' a) (vA g H a) (vA g H' a) := by
    refine ⟨fun j hj => vI_kept hf ha hj (by simp only [List.mem_singleton, Prod.mk.injEq, not_and]; exact fun z => absurd z.symm hnt), fun w hw hne => vA_kept h0 hH hf ha hw (by simp only [List.mem_singleton, Prod.mk.injEq, not_and]; exact fun z => absurd z.symm hnt) ?_, fun j => ?_⟩
    · simp only [List.mem_singleton, Prod.mk.injEq, not_and]
      intro z
      have hz : ∀ w ∈ gAT, ∀ v ∈ gAT, w.2 = v.2 → w.1 = v.1 := by decide
      exact absurd (hz w hw _ hat z) hne
    · rw [eb', eb, ex]
      exact vE_upd h1 h2 (by omega) j
  have huq := (hgi.2.2 a ha).1
  have hp := (hgi.2.2 a ha).2
  have h6 : t = 36 → x.toInt ≤ 5 := fun z => by
    subst z
    obtain ⟨cA', ty, m', f', p1, p2, p3, p4, p5⟩ := k_arr hH hb (show gTT[36]? = some (.inr _) from rfl)
    have hs : (arrV cA m f).slots.size = (arrV cA' m' f').slots.size := by rw [Option.some.inj (h1.symm.trans p2)]
    rw [arrV_size, arrV_size] at hs
    have p4 : m' ≤ 6 := p4
    omega
  suffices iv c (vI g H' a) (vA g H' a) u.2.2.2.2.2.2 from ⟨fun z => absurd z hr0, Or.inr ⟨a, ha⟩, fun a2 ha2 => by
    have := huq a2 ha2
    subst this
    exact ⟨huq, this⟩⟩
  rw [← ex] at h6 hx0
  obtain ⟨u1, u2, u3, u4, u5, u6, u7⟩ := u
  dsimp only at hu hlo hhi hp h6 hx0 ⊢
  clear hr h11 hat hr0 hgi hfi hfa hx hfb ex eb hfb' eb' hnt ht hfi2
  simp only [gRAl, List.mem_cons, List.not_mem_nil, or_false, Prod.mk.injEq] at hm
  rcases hm with ⟨rfl, rfl, rfl, rfl, rfl, rfl, rfl, rfl⟩ | ⟨rfl, rfl, rfl, rfl, rfl, rfl, rfl, rfl⟩ | ⟨rfl, rfl, rfl, rfl, rfl, rfl, rfl, rfl⟩ | ⟨rfl, rfl, rfl, rfl, rfl, rfl, rfl, rfl⟩ | ⟨rfl, rfl, rfl, rfl, rfl, rfl, rfl, rfl⟩ | ⟨rfl, rfl, rfl, rfl, rfl, rfl, rfl, rfl⟩
  · exact s_32_33 hu (Or.inl (by omega)) hp
  · exact s_32_33 hu (Or.inr (by omega)) hp
  · exact s_51_52 hu (by omega) hp
  · exact s_1_62 hu (by omega) hx0 (h6 rfl)
  · exact s_1_1 hu (by omega) hp
  · exact s_62_63 hu (by omega) hp
theorem gEok (h0 : gE1 g) (c : gGh) : k_Eok (gE g tys B0 (gGI g c)) := ⟨h0, fun i τ mods H H' hm hf hH h => gGI_fr h0 hm hf hH h, gRlF h0 c, gRlA h0 c⟩
end
