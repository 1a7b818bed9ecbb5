/-! sets of BELLS in a long (rows turned from the kit's BITS to paste) -/
def lb (x : Int64) (i : Nat) : Bool := x.toBitVec.getLsbD i
theorem lb_ext {x y : Int64} (h : ∀ i, i < 64 → lb x i = lb y i) : x = y := Int64.toBitVec_inj.mp (BitVec.eq_of_getLsbD_eq (fun i hi => h i hi))
theorem lb_or (x y : Int64) (i : Nat) : lb (x ||| y) i = (lb x i || lb y i) := by unfold lb; rw [Int64.toBitVec_or, BitVec.getLsbD_or]
theorem lb_and (x y : Int64) (i : Nat) : lb (x &&& y) i = (lb x i && lb y i) := by unfold lb; rw [Int64.toBitVec_and, BitVec.getLsbD_and]
theorem lb_0 (i : Nat) : lb 0 i = false := BitVec.getLsbD_zero
theorem lb_big {x : Int64} {i : Nat} (h : 64 ≤ i) : lb x i = false := BitVec.getLsbD_of_ge _ _ h
theorem lb_1 (i : Nat) : lb 1 i = decide (i = 0) := by
  rcases Nat.lt_or_ge i 64 with h | h
  · exact (by decide +kernel : ∀ i, i < 64 → lb 1 i = decide (i = 0)) i h
  · rw [lb_big h, decide_eq_false (by omega)]
theorem ls_l : ∀ n, n < 64 → (((nI n).toInt64 &&& 63).toBitVec.smod 64).toNat = n := by decide +kernel
theorem ls_u : ∀ n, n < 64 → (((nI n).toInt64.toUInt64 &&& Int64.toUInt64 63).toBitVec % 64).toNat = n := by decide +kernel
theorem lb_shl (n : Nat) (hn : n < 64) (x : Int64) {i : Nat} (hi : i < 64) : lb (lshl x (nI n)) i = (decide (n ≤ i) && lb x (i - n)) := by
  unfold lb lshl
  rw [Int64.toBitVec_shiftLeft]
  show (x.toBitVec <<< (((nI n).toInt64 &&& 63).toBitVec.smod 64).toNat).getLsbD i = _
  rw [ls_l n hn, BitVec.getLsbD_shiftLeft]
  rcases Nat.lt_or_ge i n with h | h
  · simp [h, Nat.not_le.mpr h]
  · simp [hi, h, Nat.not_lt.mpr h]
theorem lb_ushr (n : Nat) (hn : n < 64) (x : Int64) (i : Nat) : lb (lushr x (nI n)) i = lb x (n + i) := by
  show (x.toUInt64 >>> ((nI n).toInt64.toUInt64 &&& Int64.toUInt64 63)).toBitVec.getLsbD i = x.toUInt64.toBitVec.getLsbD (n + i)
  rw [UInt64.toBitVec_shiftRight]
  show (x.toUInt64.toBitVec >>> (((nI n).toInt64.toUInt64 &&& Int64.toUInt64 63).toBitVec % 64).toNat).getLsbD i = _
  rw [ls_u n hn, BitVec.getLsbD_ushiftRight]
theorem lb_shr (n : Nat) (hn : n < 64) (x : Int64) {i : Nat} (hi : i < 64) : lb (lshr x (nI n)) i = if n + i < 64 then lb x (n + i) else lb x 63 := by
  unfold lb lshr
  rw [Int64.toBitVec_shiftRight]
  show (x.toBitVec.sshiftRight (((nI n).toInt64 &&& 63).toBitVec.smod 64).toNat).getLsbD i = _
  rw [ls_l n hn, BitVec.getLsbD_sshiftRight, BitVec.msb_eq_getLsbD_last]
  simp [hi]
theorem lb_low {x : Int64} : x &&& 1 = 0 ↔ lb x 0 = false := by
  constructor
  · intro h
    have := congrArg (fun z => lb z 0) h
    simp only [lb_and, lb_1, lb_0] at this
    simpa using this
  · intro h
    refine lb_ext (fun i hi => ?_)
    rw [lb_and, lb_1, lb_0]
    by_cases e : i = 0
    · rw [e, h]; rfl
    · rw [decide_eq_false e, Bool.and_false]
theorem on_u {z : Int64} {b : Nat} (h : b < 64) : lg_cmp (lushr z (nI b) &&& 1) 0 = 0 ↔ lb z b = false := by
  rw [lg_cmp_eq, lb_low, lb_ushr b h]
  rfl
theorem on_s {z : Int64} {b : Nat} (h : b < 64) : lg_cmp (lshr z (nI b) &&& 1) 0 = 0 ↔ lb z b = false := by
  rw [lg_cmp_eq, lb_low, lb_shr b h _ (by omega), if_pos (by omega)]
  rfl
theorem lb_put {z : Int64} {b i : Nat} (h : b < 64) (hi : i < 64) : lb (z ||| lshl 1 (nI b)) i = (lb z i || decide (i = b)) := by
  rw [lb_or, lb_shl b h 1 hi, lb_1]
  congr 1
  by_cases e : i = b
  · rw [e]; simp
  · rw [decide_eq_false e]
    by_cases g : b ≤ i
    · have : ¬ i - b = 0 := by omega
      rw [decide_eq_false this, Bool.and_false]
    · rw [decide_eq_false g, Bool.false_and]
/-- the set of those in a row that are so -/
def BO (f : Nat → Bool) : List Nat → Int64 → Int64
  | [], z => z
  | b :: t, z => BO f t (if f b = true then z ||| lshl 1 (nI b) else z)
theorem BO_app {f : Nat → Bool} : ∀ (L : List Nat) (b : Nat) (z : Int64), BO f (L ++ [b]) z = if f b = true then BO f L z ||| lshl 1 (nI b) else BO f L z := by
  intro L
  induction L with
  | nil => intro b z; rfl
  | cons a t ih => intro b z; exact ih b _
theorem BO_filter {f p : Nat → Bool} : ∀ (L : List Nat) (z : Int64), (∀ b ∈ L, p b = false → f b = false) → BO f (L.filter p) z = BO f L z := by
  intro L
  induction L with
  | nil => intro z _; rfl
  | cons a t ih =>
    intro z h
    by_cases e : p a = true
    · rw [List.filter_cons_of_pos e]
      exact ih _ (fun b hb => h b (List.mem_cons_of_mem _ hb))
    · rw [List.filter_cons_of_neg e]
      have : f a = false := h a (List.mem_cons_self ..) (by simpa using e)
      show _ = BO f t (if f a = true then _ else z)
      rw [this, if_neg (by decide)]
      exact ih _ (fun b hb => h b (List.mem_cons_of_mem _ hb))
theorem BO_congr {f g : Nat → Bool} : ∀ (L : List Nat) (z : Int64), (∀ b ∈ L, f b = g b) → BO f L z = BO g L z := by
  intro L
  induction L with
  | nil => intro z _; rfl
  | cons a t ih =>
    intro z h
    unfold BO
    rw [h a (List.mem_cons_self ..)]
    exact ih _ (fun b hb => h b (List.mem_cons_of_mem _ hb))
theorem lb_BO {f : Nat → Bool} {i : Nat} (hi : i < 64) : ∀ (L : List Nat) (z : Int64), (∀ b ∈ L, b < 64) → lb (BO f L z) i = (lb z i || (decide (i ∈ L) && f i)) := by
  intro L
  induction L with
  | nil => intro z _; simp [BO]
  | cons a t ih =>
    intro z h
    unfold BO
    rw [ih _ (fun b hb => h b (List.mem_cons_of_mem _ hb))]
    by_cases e : f a = true
    · rw [if_pos e, lb_put (h a (List.mem_cons_self ..)) hi]
      by_cases g : i = a
      · rw [g]; simp [e]
      · simp [g]
    · rw [if_neg e]
      by_cases g : i = a
      · rw [g]; simp [e]
      · simp [g]
/-- a row of cells holds a list -/
def Row (M : Mem) (c : Nat) (L : List Nat) : Prop := ∀ (i b : Nat), L[i]? = some b → gI M c i = nI b
theorem Row.put {M : Mem} {c : Nat} {L : List Nat} (h : Row M c L) {b : Nat} {M' : Mem} (h' : ∀ i, i < L.length → gI M' c i = gI M c i) (hb : gI M' c L.length = nI b) : Row M' c (L ++ [b]) := by
  intro i d e
  by_cases g : i < L.length
  · rw [List.getElem?_append_left g] at e
    rw [h' i g]; exact h i d e
  · have hl : i < (L ++ [b]).length := by
      apply Classical.byContradiction
      intro q
      rw [List.getElem?_eq_none (by omega)] at e
      cases e
    rw [List.length_append] at hl
    have : i = L.length := by simp at hl; omega
    subst this
    rw [List.getElem?_append_right (by omega), Nat.sub_self] at e
    cases e
    exact hb
theorem Row.fr {M M' : Mem} {c : Nat} {L : List Nat} (h : Row M c L) (h' : ∀ i, i < L.length → gI M' c i = gI M c i) : Row M' c L := by
  intro i d e
  rw [h' i (by
    apply Classical.byContradiction
    intro q
    rw [List.getElem?_eq_none (by omega)] at e
    cases e)]
  exact h i d e
theorem Row.at {M : Mem} {c : Nat} {L : List Nat} (h : Row M c L) {i : Nat} (hi : i < L.length) : gI M c i = nI L[i] := h i _ (List.getElem?_eq_getElem hi)
