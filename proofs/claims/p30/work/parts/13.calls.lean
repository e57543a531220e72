/-! ===== calls of the JDK's own: Math.min between bounds, System.arraycopy of ints ===== -/
theorem k_mminB {X : kX} {E : kE} {nL : Nat} {τ : kTau} {cc : ByteArray} {own : String} {pc idx : Nat} {lo hi1 hi2 : Int} (hh : hi2 ≤ hi1) (hF : k_Fx X cc nL own) (hlink : (Jvm.Cond.methodLink own idx Lib.Math.min.name).before X.2.2.2.2.2.2.1 X.2.2.2.2.1 = true) (hstat : (Jvm.Cond.static Lib.Math.min.name).before X.2.2.2.2.2.2.1 X.2.2.2.2.1 = true) (hini : (Jvm.Cond.initialized "java/lang/Math").before X.2.2.2.2.2.2.1 X.2.2.2.2.1 = true) (hcode : (Jvm.Cond.code Lib.Math.min.name Lib.Math.min.code 2 (some .int)).before X.2.2.2.2.2.2.1 X.2.2.2.2.1 = true)
    (hfr : 1 ≤ X.2.2.2.1.frames) (hlo : 21 ≤ X.2.2.2.1.locals) (hdg : decode cc pc = .ok (.invokestatic idx, 3)) : k_call X E nL τ ([.inl (lo, hi1), .inl (lo, hi2)], [], [(some (.inl (lo, hi2)), [], [])], [], [], []) pc := by
  intro H locs ls as rest hH hpre hsum hls hloc kk
  obtain ⟨h1, h2, -⟩ := hpre
  match as, h1 with
  | [a, b], _ =>
    obtain ⟨v, v1, x, v2, v3⟩ := h2 0 (.inl (lo, hi1)) rfl
    obtain ⟨w, w1, y, w2, w3⟩ := h2 1 (.inl (lo, hi2)) rfl
    have ea : a = .int x := by simpa [v2] using v1
    have eb : b = .int y := by simpa [w2] using w1
    subst ea; subst eb
    show kw X H locs pc ls (.int y :: .int x :: rest)
    refine va_mmin hF.1 hF.2.1 (by rw [hF.2.2.1]; exact hls.symm) hF.2.2.2 hlink hstat hini hcode hfr (by omega) (Nat.zero_le _) (Nat.zero_le _) hdg ?_
    have hin : k_in (lo, hi2) (if y < x then y else x).toInt := by
      by_cases c : y < x
      · rw [if_pos c]; exact w3
      · rw [if_neg c]
        have c' := Int32.le_iff_toInt_le.mp (Int32.not_lt.mp c)
        exact ⟨v3.1, Int.le_trans c' w3.2⟩
    have := kk H [] (some (.int (if y < x then y else x))) (k_post_same hH rfl ⟨_, List.mem_cons_self, ⟨_, rfl, _, rfl, hin⟩, fun _ h => (by cases h), fun _ h => (by cases h)⟩) (fun _ h => by cases h)
    rw [List.append_nil] at this
    exact this
def k_Kcp (t N : Nat) : kCtr := ([.inr (.inr (.inl (false, [t]))), .inl (0, 0), .inr (.inr (.inl (false, [t]))), .inl (0, 0), .inl (0, N)], [], [(none, [], [])], [(t, 0)], [], [])
theorem k_refOk {τ : kTau} {t : Nat} {v : Value} (h : k_ok τ (.inr (.inr (.inl (false, [t])))) v) : ∃ a, v = .ref a ∧ τ a = some t := by
  rcases h with ⟨h2, -⟩ | ⟨a, t2, h2, h3, h4⟩
  · cases h2
  · rw [List.mem_singleton.mp h3] at h4
    exact ⟨a, h2, h4⟩
theorem k_copyi {X : kX} {E : kE} {nL : Nat} {τ : kTau} {cc : ByteArray} {own : String} {pc idx t l0 l1 N : Nat} {q : kB} (hF : k_Fx X cc nL own) (hK : kK E.1 E.2.1 E.2.2.1 E.2.2.2.2.1 X.2.2.2.2.1) (hT : k_tys E) (hlink : (Jvm.Cond.methodLink own idx arraycopyName).before X.2.2.2.2.2.2.1 X.2.2.2.2.1 = true) (hnat : (Jvm.Cond.native arraycopyName).before X.2.2.2.2.2.2.1 X.2.2.2.2.1 = true) (hstat : (Jvm.Cond.static arraycopyName).before X.2.2.2.2.2.2.1 X.2.2.2.2.1 = true) (hini : (Jvm.Cond.initialized "java/lang/System").before X.2.2.2.2.2.2.1 X.2.2.2.2.1 = true)
    (htt : E.2.2.2.1[t]? = some (.inr (0, l0, l1, [], .inl q))) (hN : N ≤ l0)
    (hfr : 1 ≤ X.2.2.2.1.frames) (hlo : 26 ≤ X.2.2.2.1.locals) (hdg : decode cc pc = .ok (.invokestatic idx, 3)) : k_call X E nL τ (k_Kcp t N) pc := by
  intro H locs ls as rest hH hpre hsum hls hloc kk
  obtain ⟨h1, h2, -⟩ := hpre
  match as, h1 with
  | [v0, v1, v2, v3, v4], _ =>
    obtain ⟨w0, e0, o0⟩ := h2 0 _ rfl
    obtain ⟨w1, e1, x1, o1, b1⟩ := h2 1 _ rfl
    obtain ⟨w2, e2, o2⟩ := h2 2 _ rfl
    obtain ⟨w3, e3, x3, o3, b3⟩ := h2 3 _ rfl
    obtain ⟨w4, e4, x4, o4, b4⟩ := h2 4 _ rfl
    obtain ⟨a0, r0, t0⟩ := k_refOk o0
    obtain ⟨a, r2, t2⟩ := k_refOk o2
    have z0 : v0 = .ref a0 := by simpa [r0] using e0
    have z1 : v1 = .int x1 := by simpa [o1] using e1
    have z2 : v2 = .ref a := by simpa [r2] using e2
    have z3 : v3 = .int x3 := by simpa [o3] using e3
    have z4 : v4 = .int x4 := by simpa [o4] using e4
    subst z0; subst z1; subst z2; subst z3; subst z4
    have zz1 : x1.toInt = 0 := Int.le_antisymm b1.2 b1.1
    have zz3 : x3.toInt = 0 := Int.le_antisymm b3.2 b3.1
    have hx1 : x1 = 0 := Int32.toInt_inj.mp (by rw [zz1]; rfl)
    have hx3 : x3 = 0 := Int32.toInt_inj.mp (by rw [zz3]; rfl)
    subst hx1; subst hx3
    obtain ⟨cA, ty, n0, f, p1, p2, p3, p4, p5⟩ := k_arr hH t0 htt
    obtain ⟨cB, ty', n1, g, q1, q2, q3, q4, q5⟩ := k_arr hH t2 htt
    have := p1.symm.trans q1
    cases this
    have p3 : l0 ≤ n0 := p3
    have q3 : l0 ≤ n1 := q3
    have hty : ty = .int := (hT 0 cA ty p1).1 rfl
    subst hty
    have b41 : (0 : Int) ≤ x4.toInt := b4.1
    have b42 : x4.toInt ≤ (N : Int) := b4.2
    have hc4 : (x4.toNatClampNeg : Int) = x4.toInt := by show ((x4.toInt.toNat : Nat) : Int) = x4.toInt; omega
    have hc0 : (0 : Int32).toNatClampNeg = 0 := rfl
    show kw X H locs pc ls (.int x4 :: .int 0 :: .ref a :: .int 0 :: .ref a0 :: rest)
    intro T hTT Y
    obtain ⟨-, k0, hk0, cm0, hkk0⟩ := (hK.1.2 0 _ p1).1 n0 f
    obtain ⟨-, k1, hk1, cm1, hkk1⟩ := (hK.1.2 0 _ p1).1 n1 g
    obtain ⟨vm', Y', step⟩ := Y.arraycopy hF.1 hF.2.2.2 hlink hnat hstat hini (src := a0) (dst := a) (cs := arrV cA n0 f) (cd := arrV cA n1 g) (srcPos := 0) (destPos := 0) (n := x4) (by rw [hTT]; exact p2) (by rw [hTT]; exact q2)
      (fun _ h => by cases h) (fun _ h => by cases h) (fun h => by cases h) (fun h => by cases h) hk0 hk1 hkk0 hkk1 (by simp [refKind]) (by decide) (by decide) (by rw [Int32.lt_iff_toInt_lt]; show ¬ x4.toInt < 0; omega)
      (by show ¬ _ > ((arrV cA n0 f).slots.size : Int); rw [arrV_size]; show ¬ (0 : Int) + x4.toInt > _; omega)
      (by show ¬ _ > ((arrV cA n1 g).slots.size : Int); rw [arrV_size]; show ¬ (0 : Int) + x4.toInt > _; omega)
      (fun vm₁ _ i hi => by
        have e : (arrV cA n0 f).slots.getD ((0 : Int32).toNatClampNeg + i) .null = f i := by
          rw [hc0, Nat.zero_add, Array.getD_eq_getD_getElem?, arrV_read _ _ (by omega)]
          rfl
        obtain ⟨y, y1, -⟩ := p5 i (by omega)
        refine ⟨?_, ?_⟩
        · rw [e, y1]; rfl
        · rw [e, y1]; exact trivial)
      (g := F0 X.2.2.2.2.2.1 pc ls (.int x4 :: .int 0 :: .ref a :: .int 0 :: .ref a0 :: rest)) rfl (by rw [hF.2.2.1]; exact hls) (rest := rest) rfl (by rw [hF.2.1]; exact hdg) hfr (by show 2 * 0 + _ + (7 + 11) ≤ _; omega)
    have ec : copied (arrV cA n0 f) (arrV cA n1 g) 0 0 x4 = arrV cA n1 (fun j => va_cpy f g 0 0 x4.toNatClampNeg j) := va_copied (fun z => z) cA cA f g (by omega)
    rw [ec] at Y' step
    have hl : a < H.size := (Array.getElem?_eq_some_iff.mp q2).1
    have hheap : ((T.setVm vm').setCell a (arrV cA n1 (fun j => va_cpy f g 0 0 x4.toNatClampNeg j))).heap = H.setIfInBounds a (arrV cA n1 (fun j => va_cpy f g 0 0 x4.toNatClampNeg j)) := by rw [← hTT]; rfl
    have oq : ∀ q : Nat, q ≠ a → (H.setIfInBounds a (arrV cA n1 (fun j => va_cpy f g 0 0 x4.toNatClampNeg j)))[q]? = H[q]? := fun q hq => by simp [Array.getElem?_setIfInBounds, Ne.symm hq]
    have oa : (H.setIfInBounds a (arrV cA n1 (fun j => va_cpy f g 0 0 x4.toNatClampNeg j)))[a]? = some (arrV cA n1 (fun j => va_cpy f g 0 0 x4.toNatClampNeg j)) := by simp [Array.getElem?_setIfInBounds, hl]
    have hpost : k_post E τ H (H.setIfInBounds a (arrV cA n1 (fun j => va_cpy f g 0 0 x4.toNatClampNeg j))) (k_Kcp t N) [.ref a0, .int 0, .ref a, .int 0, .int x4] none := by
      refine ⟨k_HT_set hH t2 htt ⟨cA, .int, n1, _, p1, oa, q3, q4, fun j hj => ?_⟩ oq, ⟨by simp, fun b hb hn => oq b (fun z => by rw [z, t2] at hn; cases hn), fun b t' hb => ⟨fun q' hq' i hi hm => ?_, fun q' hq' hm => ?_⟩⟩, fun _ h => (by cases h), _, List.mem_cons_self, rfl, fun _ h => (by cases h), fun _ h => (by cases h)⟩
      · unfold va_cpy
        by_cases c : 0 ≤ j ∧ j < 0 + x4.toNatClampNeg
        · rw [if_pos c]
          have : 0 + (j - 0) = j := by omega
          rw [this]
          exact p5 j (by omega)
        · rw [if_neg c]; exact q5 j hj
      · by_cases c : b = a
        · subst c
          have et : t' = t := Option.some.inj (hb.symm.trans t2)
          subst et
          rw [htt] at hq'
          cases hq'
        · unfold k_fld; rw [oq b c]
      · by_cases c : b = a
        · subst c
          have et : t' = t := Option.some.inj (hb.symm.trans t2)
          subst et
          exact absurd (List.mem_singleton.mpr rfl) hm
        · exact oq b c
    obtain ⟨t', u1, u2⟩ := kk _ _ none hpost (fun z hz => by
      obtain ⟨y, -, hy⟩ := List.mem_map.mp hz
      rw [← hy]
      exact (hH a t t2).1) _ hheap Y'
    exact ⟨t', step t' u1, u2⟩
