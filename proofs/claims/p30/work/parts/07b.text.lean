/-! ===== the text constants, and two statics of the JDK's ===== -/
def sIx : List Nat := [57, 63, 65, 67, 69, 71, 73, 75, 77, 79, 81, 86, 88, 90, 92, 94, 96, 98, 100]
def sTx : List String := ["house", "says", "worth", "smoke", "fa\x72", "nea\x72", "fires", "lost", "been", "wate\x72", "hou\x72", "valley", "road", "beside", "go", "if", "o\x72", "and", "not"]
def sLen : List Nat := [5, 4, 5, 5, 3, 4, 5, 4, 4, 5, 4, 6, 4, 6, 2, 2, 2, 3, 3]
def sByt : List (List Int32) := [[104, 111, 117, 115, 101], [115, 97, 121, 115], [119, 111, 114, 116, 104], [115, 109, 111, 107, 101], [102, 97, 114], [110, 101, 97, 114], [102, 105, 114, 101, 115], [108, 111, 115, 116], [98, 101, 101, 110], [119, 97, 116, 101, 114], [104, 111, 117, 114], [118, 97, 108, 108, 101, 121], [114, 111, 97, 100], [98, 101, 115, 105, 100, 101], [103, 111], [105, 102], [111, 114], [97, 110, 100], [110, 111, 116]]
def gZ (g : va_G) (B0 : Nat) (s : State) : Prop :=
  vk_S 19 sLen sByt (g.2 100) (g.2 101) (fun q => B0 ≤ q) s s.heap ∧ (∀ i, i < 19 → vk_R "SmokeWord$Tape" (sIx.getD i 0) (sTx.getD i "") (g.2 100 i) s) ∧ va_Z "java/lang/String" "COMPACT_STRINGS" "Z" (.int 1) (fun q => B0 ≤ q) s s.heap ∧ va_Zq "jdk/internal/util/Preconditions" "SIOOBE_FORMATTE\x52" "Ljava/util/function/BiFunction;" (fun q => B0 ≤ q) s s.heap
theorem gZ_moved {g : va_G} {B0 : Nat} {s U : State} (hW : s.WarmedH U.vm) (hk : ∀ a : Nat, a < s.heap.size → ¬ B0 ≤ a → U.heap[a]? = s.heap[a]?) (h : gZ g B0 s) : gZ g B0 U :=
  ⟨(h.1.moved hW.alike).kept hk, fun i hi => (h.2.1 i hi).warm hW, (h.2.2.1.moved hW.alike).kept hk, (h.2.2.2.moved hW.alike).kept hk⟩
theorem k_below {p : Program} {l : Launch} {e : Env} {R : Room} {s : State} {m : MethodId} {args : Array Value} {below : List Frame} {meth : Method} {c : Code} {T : State} {locs : List Loc} {cells slots B0 : Nat} (Y : Stand p l e R s m args below meth c T locs cells slots) (hl : ∀ q ∈ locs, B0 ≤ q.base) : ∀ a : Nat, a < s.heap.size → ¬ B0 ≤ a → T.heap[a]? = s.heap[a]? := by
  intro a ha hn
  obtain ⟨c, hc⟩ : ∃ c, s.heap[a]? = some c := ⟨s.heap[a], Array.getElem?_eq_getElem ha⟩
  obtain ⟨c', hc', hce, hsz, hout⟩ := Y.same.2.2.2.2.2 a c hc
  have hslots : c'.slots = c.slots := Array.ext hsz fun i h1 h2 => by
    have := hout i (fun hi => hn (hl _ hi))
    rw [Array.getElem?_eq_getElem h1, Array.getElem?_eq_getElem h2] at this
    exact Option.some.inj this
  have heq : c' = c := by rw [hce, hslots]
  rw [hc, ← heq]
  exact hc'
/-- what a state's tables and its oldest cells must be -/
def kK (g : va_G) (cl : List vw_C) (tys : List (ClassId × FieldType)) (B0 : Nat) (U : State) : Prop := va_K g cl tys U ∧ gZ g B0 U
