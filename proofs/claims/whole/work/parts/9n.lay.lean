/-! heard: bits in rows of longs; the laying, purely -/
theorem sh6 : ∀ h, h < 161 → nI h >>> ((6 : Int32) &&& 31) = nI (h / 64) := by decide +kernel
theorem an63 : ∀ h, h < 161 → nI h &&& 63 = nI (h % 64) := by decide +kernel
theorem lb_m1 : ∀ i, i < 64 → lb (-1) i = true := by decide +kernel
theorem lb_xor (x y : Int64) (i : Nat) : lb (x ^^^ y) i = (lb x i ^^ lb y i) := by unfold lb; rw [Int64.toBitVec_xor, BitVec.getLsbD_xor]
/-- a bit of the table in the row of cell c -/
def bitAt (M : Mem) (c k h : Nat) : Bool := lb (gL M c (k * 3 + h / 64)) (h % 64)
theorem lb_set {z : Int64} {x : Int32} {b i : Nat} (hb : b < 64) (hi : i < 64) : lb (if x = 0 then z &&& (lshl 1 (nI b) ^^^ (-1)) else z ||| lshl 1 (nI b)) i = if i = b then decide (¬ x = 0) else lb z i := by
  by_cases c : x = 0
  · rw [if_pos c, lb_and, lb_xor, lb_m1 i hi, lb_shl b hb 1 hi, lb_1]
    by_cases e : i = b
    · rw [if_pos e, e]; simp [c]
    · rw [if_neg e]
      have : (decide (b ≤ i) && decide (i - b = 0)) = false := by
        by_cases g : b ≤ i
        · rw [decide_eq_false (show ¬ i - b = 0 by omega), Bool.and_false]
        · rw [decide_eq_false g, Bool.false_and]
      rw [this]; simp
  · rw [if_neg c, lb_put hb hi]
    by_cases e : i = b
    · rw [if_pos e, decide_eq_true e, Bool.or_true, decide_eq_true c]
    · rw [if_neg e, decide_eq_false e, Bool.or_false]
theorem bit_ix {k h : Nat} (hk : k ≤ 160) (hh : h ≤ 160) : nI k * 3 + nI h >>> ((6 : Int32) &&& 31) = nI (k * 3 + h / 64) := by
  rw [sh6 h (by omega), show (3 : Int32) = nI 3 from rfl, nI_mul, nI_add]
section Bits
variable {l : Launch} {D : va_G} {ad : Nat → Nat} {kA : Nat → ClassId} {M M0 : Mem} {Q : Outcome → Mem → Prop}
theorem bitAt_sL {c k h k' h' : Nat} {x : Int32} (hh : h ≤ 160) (hh' : h' ≤ 160) : bitAt (sL M c (k * 3 + h / 64) (if x = 0 then (gL M c (k * 3 + h / 64)) &&& (lshl 1 (nI (h % 64)) ^^^ (-1)) else (gL M c (k * 3 + h / 64)) ||| lshl 1 (nI (h % 64)))) c k' h' = if k' = k ∧ h' = h then decide (¬ x = 0) else bitAt M c k' h' := by
  unfold bitAt
  rw [gL_sL]
  by_cases e : k' * 3 + h' / 64 = k * 3 + h / 64
  · rw [if_pos ⟨rfl, e⟩, lb_set (by omega) (by omega)]
    by_cases e2 : h' % 64 = h % 64
    · rw [if_pos e2, if_pos (by omega)]
    · rw [if_neg e2, if_neg (fun z => e2 (by rw [z.2])), e]
  · rw [if_neg (fun z => e z.2), if_neg (fun z => e (by rw [z.1, z.2]))]
theorem ct_put40 {k h : Nat} {x : Int32} (hk : k ≤ 160) (hh : h ≤ 160) (K : ∀ M', Fr (fun c _ => c == 41) M M' → (∀ k' h', h' ≤ 160 → bitAt M' 41 k' h' = if k' = k ∧ h' = h then decide (¬ x = 0) else bitAt M 41 k' h') → Q (.returned none) M') : Cal l D ad kA mX1_put_40 [.ref (ad 40), .int (nI k), .int (nI h), .int x] M Q := by
  have ei := bit_ix hk hh
  have h0 : ¬ nI (k * 3 + h / 64) < 0 := nI_pos (by omega)
  have h1 : nI (k * 3 + h / 64) < nI 483 := nI_lt (by omega) (by omega)
  have hin : vp_in (nI (k * 3 + h / 64)) 483 := ixN (by omega) (by omega)
  refine en_X1_put_40 (t_X1_put_40_0 (fun _ _ _ => by rw [ei]; exact hin) (fun _ _ _ => by rw [ei]; exact hin) (fun _ _ => by rw [ei]; exact hin) (fun q => absurd (by rw [ei] at q; exact q) h0) (fun _ _ => ?_) (fun _ q => absurd (by rw [ei]; exact h1) q))
  rw [ei, nI_clamp (by omega), an63 h (by omega)]
  exact K _ (Fr.rf.sL rfl) (fun k' h' hh' => bitAt_sL hh hh')
theorem ct_put42 {k h : Nat} {x : Int32} (hk : k ≤ 160) (hh : h ≤ 160) (K : ∀ M', Fr (fun c _ => c == 43) M M' → (∀ k' h', h' ≤ 160 → bitAt M' 43 k' h' = if k' = k ∧ h' = h then decide (¬ x = 0) else bitAt M 43 k' h') → Q (.returned none) M') : Cal l D ad kA mX1_put_42 [.ref (ad 42), .int (nI k), .int (nI h), .int x] M Q := by
  have ei := bit_ix hk hh
  have h0 : ¬ nI (k * 3 + h / 64) < 0 := nI_pos (by omega)
  have h1 : nI (k * 3 + h / 64) < nI 483 := nI_lt (by omega) (by omega)
  have hin : vp_in (nI (k * 3 + h / 64)) 483 := ixN (by omega) (by omega)
  refine en_X1_put_42 (t_X1_put_42_0 (fun _ _ _ => by rw [ei]; exact hin) (fun _ _ _ => by rw [ei]; exact hin) (fun _ _ => by rw [ei]; exact hin) (fun q => absurd (by rw [ei] at q; exact q) h0) (fun _ _ => ?_) (fun _ q => absurd (by rw [ei]; exact h1) q))
  rw [ei, nI_clamp (by omega), an63 h (by omega)]
  exact K _ (Fr.rf.sL rfl) (fun k' h' hh' => bitAt_sL hh hh')
theorem v_has40 {k h : Nat} (hk : k ≤ 160) (hh : h ≤ 160) : (v_X1_has_40 M (nI k) (nI h) = 0 ↔ bitAt M 41 k h = false) ∧ g_X1_has_40 M (nI k) (nI h) := by
  have ei := bit_ix hk hh
  have h0 : ¬ nI (k * 3 + h / 64) < 0 := nI_pos (by omega)
  have h1 : ¬ (483 : Int32) ≤ nI (k * 3 + h / 64) := by rw [show (483 : Int32) = nI 483 from rfl, nI_leI (by omega) (by omega)]; omega
  constructor
  · unfold v_X1_has_40 bitAt
    rw [ei, if_neg h0, if_neg h1, nI_clamp (by omega), an63 h (by omega), ← on_u (by omega)]
    constructor
    · intro q
      apply Classical.byContradiction
      intro w
      rw [if_neg w] at q
      exact absurd q (by decide)
    · intro q; rw [if_pos q]
  · intro _ _
    rw [ei]; exact ixN (by omega) (by omega)
theorem v_has42 {k h : Nat} (hk : k ≤ 160) (hh : h ≤ 160) : (v_X1_has_42 M (nI k) (nI h) = 0 ↔ bitAt M 43 k h = false) ∧ g_X1_has_42 M (nI k) (nI h) := by
  have ei := bit_ix hk hh
  have h0 : ¬ nI (k * 3 + h / 64) < 0 := nI_pos (by omega)
  have h1 : ¬ (483 : Int32) ≤ nI (k * 3 + h / 64) := by rw [show (483 : Int32) = nI 483 from rfl, nI_leI (by omega) (by omega)]; omega
  constructor
  · unfold v_X1_has_42 bitAt
    rw [ei, if_neg h0, if_neg h1, nI_clamp (by omega), an63 h (by omega), ← on_u (by omega)]
    constructor
    · intro q
      apply Classical.byContradiction
      intro w
      rw [if_neg w] at q
      exact absurd q (by decide)
    · intro q; rw [if_pos q]
  · intro _ _
    rw [ei]; exact ixN (by omega) (by omega)
end Bits
/-- one row of the least points: a STROKE left, behind it the row prev -/
def rowW (pp prev : Nat → Nat) : Nat → Nat
  | 0 => 3 + prev 0
  | c + 1 => min (pp (c + 1) + prev c) (3 + min (prev (c + 1)) (rowW pp prev c))
/-- with so many STROKES and so many sounds left -/
def WW (pp : Nat → Nat → Nat) : Nat → Nat → Nat
  | 0 => fun c => 3 * c
  | a + 1 => rowW (pp (a + 1)) (WW pp a)
theorem WW_le {pp : Nat → Nat → Nat} : ∀ a c, WW pp a c ≤ 3 * (a + c) := by
  intro a
  induction a with
  | zero => intro c; show 3 * c ≤ _; omega
  | succ a ih =>
    intro c
    induction c with
    | zero => have := ih 0; show 3 + WW pp a 0 ≤ _; omega
    | succ c ihc =>
      have := ih (c + 1)
      show min _ (3 + min (WW pp a (c + 1)) _) ≤ _
      omega
theorem WW_s {pp : Nat → Nat → Nat} {a c : Nat} : WW pp (a + 1) (c + 1) = min (pp (a + 1) (c + 1) + WW pp a c) (3 + min (WW pp a (c + 1)) (WW pp (a + 1) c)) := rfl
def isPr (pp : Nat → Nat → Nat) (a c : Nat) : Bool := decide (1 ≤ a ∧ 1 ≤ c ∧ pp a c < 1000000 ∧ pp a c + WW pp (a - 1) (c - 1) = WW pp a c)
def isMs (pp : Nat → Nat → Nat) (a c : Nat) : Bool := decide (1 ≤ a ∧ 3 + WW pp (a - 1) c = WW pp a c)
/-- the way: what each STROKE is laid beside, which sounds are more, how many -/
def WK (pp : Nat → Nat → Nat) (s m : Nat) : Nat → Nat → Nat → (Nat → Int32) → (Nat → Int32) → Nat → (Nat → Int32) × (Nat → Int32) × Nat
  | 0, _, _, po, im, n => (po, im, n)
  | f + 1, a, c, po, im, n =>
    if a = 0 ∧ c = 0 then (po, im, n)
    else if isPr pp a c = true then WK pp s m f (a - 1) (c - 1) (updF po (s - a) (nI (m - c))) im n
    else if isMs pp a c = true then WK pp s m f (a - 1) c (updF po (s - a) (-1)) im n
    else WK pp s m f a (c - 1) po (updF im (m - c) 1) (n + 1)
