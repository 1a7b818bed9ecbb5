/-! HANDS: prices, purely -/
theorem nI_mul (a b : Nat) : nI a * nI b = nI (a * b) := (Int32.ofNat_mul a b).symm
theorem imin_nI {a b : Nat} (ha : a < 2 ^ 31) (hb : b < 2 ^ 31) : imin (nI a) (nI b) = nI (min a b) := by
  unfold imin
  by_cases h : b < a
  · rw [if_pos ((nI_ltI hb ha).mpr h), Nat.min_eq_right (by omega)]
  · rw [if_neg (fun z => h ((nI_ltI hb ha).mp z)), Nat.min_eq_left (by omega)]
def mo (mv : Nat → Nat → Nat) : Option Nat → Nat → Nat
  | none, _ => 0
  | some a, n => mv a n
def ho (hl : Nat → Nat → Bool) : Option Nat → Nat → Bool
  | none, _ => false
  | some a, n => hl a n
/-- the price of a hand's step from p to n, the other one having done q -/
def cs (mv : Nat → Nat → Nat) (hl : Nat → Nat → Bool) (p q : Option Nat) (n : Nat) : Nat := if ho hl q n = true then 1000000 else mo mv p n
/-- the fewest TAKES of the rest -/
def Ff (mv : Nat → Nat → Nat) (hl : Nat → Nat → Bool) : Option Nat → Option Nat → List Nat → Nat
  | _, _, [] => 0
  | p, q, n :: t => min (cs mv hl p q n + Ff mv hl (some n) q t) (cs mv hl q p n + Ff mv hl (some n) p t)
def okMv (mv : Nat → Nat → Nat) : Prop := ∀ a b, mv a b = 0 ∨ mv a b = 1 ∨ mv a b = 1000000
section Pure
variable {mv : Nat → Nat → Nat} {hl : Nat → Nat → Bool}
theorem mo_rng (h : okMv mv) (p : Option Nat) (n : Nat) : mo mv p n = 0 ∨ mo mv p n = 1 ∨ mo mv p n = 1000000 := by
  cases p with
  | none => exact .inl rfl
  | some a => exact h a n
theorem cs_rng (h : okMv mv) (p q : Option Nat) (n : Nat) : cs mv hl p q n = 0 ∨ cs mv hl p q n = 1 ∨ cs mv hl p q n = 1000000 := by
  unfold cs
  split
  · exact .inr (.inr rfl)
  · exact mo_rng h p n
theorem Ff_b (h : okMv mv) : ∀ (L : List Nat) (p q : Option Nat), Ff mv hl p q L ≤ L.length ∨ 1000000 ≤ Ff mv hl p q L := by
  intro L
  induction L with
  | nil => intro p q; exact .inl (Nat.le_refl _)
  | cons n t ih =>
    intro p q
    show min _ _ ≤ t.length + 1 ∨ 1000000 ≤ min _ _
    have h1 := ih (some n) q
    have h2 := ih (some n) p
    have h3 := cs_rng (hl := hl) h p q n
    have h4 := cs_rng (hl := hl) h q p n
    omega
theorem Ff_sym : ∀ (L : List Nat) (p q : Option Nat), Ff mv hl p q L = Ff mv hl q p L := by
  intro L p q
  cases L with
  | nil => rfl
  | cons n t => exact Nat.min_comm _ _
theorem Ff_first (n : Nat) (t : List Nat) : Ff mv hl none none (n :: t) = Ff mv hl (some n) none t := by
  show min (0 + _) (0 + _) = _
  rw [Nat.min_self, Nat.zero_add]
end Pure
/-- a price as the class writes it -/
def nE (x : Nat) : Int32 := if x < 1000000 then nI x else 16777216
theorem nE_lt {x : Nat} (h : x < 1000000) : nE x = nI x := if_pos h
theorem nE_ge {x : Nat} (h : 1000000 ≤ x) : nE x = 16777216 := if_neg (by omega)
theorem nE_toInt {x : Nat} : (nE x).toInt = if x < 1000000 then (x : Int) else 16777216 := by
  unfold nE
  split
  · rw [i_nI (by omega)]
  · exact nNEV
/-! the prices over the model's cells -/
def mvP (M : Mem) (a b : Nat) : Nat := if goN M a b = 0 then 0 else if goN M a b = 1 then 1 else 1000000
def hlP (M : Mem) (a n : Nat) : Bool := decide (¬ gI M 59 a = 1 ∧ gI M 57 a = gI M 57 n)
theorem okP (M : Mem) : okMv (mvP M) := by
  intro a b
  unfold mvP
  split
  · exact .inl rfl
  · split
    · exact .inr (.inl rfl)
    · exact .inr (.inr rfl)
theorem pk0 (P : Prop) [Decidable P] : (if P then (1000000 : Int32) else 0) = 0 ∨ (if P then (1000000 : Int32) else 0) = 1 ∨ (if P then (1000000 : Int32) else 0) = 1000000 := by
  by_cases h : P
  · rw [if_pos h]; exact .inr (.inr rfl)
  · rw [if_neg h]; exact .inl rfl
theorem pk1 (P : Prop) [Decidable P] : (if P then (1000000 : Int32) else 1) = 0 ∨ (if P then (1000000 : Int32) else 1) = 1 ∨ (if P then (1000000 : Int32) else 1) = 1000000 := by
  by_cases h : P
  · rw [if_pos h]; exact .inr (.inr rfl)
  · rw [if_neg h]; exact .inr (.inl rfl)
theorem pj0 (P : Prop) [Decidable P] : (if P then (16777216 : Int32) else 0) = if (if P then (1000000 : Int32) else 0) = 1000000 then 16777216 else if P then (1000000 : Int32) else 0 := by
  by_cases h : P
  · rw [if_pos h, if_pos h, if_pos rfl]
  · rw [if_neg h, if_neg h, if_neg (by decide)]
theorem pj1 (P : Prop) [Decidable P] : (if P then (16777216 : Int32) else 1) = if (if P then (1000000 : Int32) else 1) = 1000000 then 16777216 else if P then (1000000 : Int32) else 1 := by
  by_cases h : P
  · rw [if_pos h, if_pos h, if_pos rfl]
  · rw [if_neg h, if_neg h, if_neg (by decide)]
theorem goN_rng (M : Mem) (a b : Nat) : goN M a b = 0 ∨ goN M a b = 1 ∨ goN M a b = 1000000 := by
  unfold goN
  by_cases c1 : gI M 59 a = 1 ∧ gI M 59 b = 1
  · rw [if_pos c1]; exact pk0 _
  · rw [if_neg c1]
    by_cases c2 : ¬ gI M 59 a = 1 ∧ ¬ gI M 59 b = 1 ∧ gI M 57 a = gI M 57 b
    · rw [if_pos c2]; exact pk0 _
    · rw [if_neg c2]; exact pk1 _
theorem goN_mv (M : Mem) (a b : Nat) : goN M a b = nI (mvP M a b) := by
  have n1 : ¬ (1000000 : Int32) = 0 := by decide
  have n2 : ¬ (1000000 : Int32) = 1 := by decide
  have n3 : ¬ (1 : Int32) = 0 := by decide
  unfold mvP
  rcases goN_rng M a b with z | z | z
  · rw [z, if_pos rfl]; rfl
  · rw [z, if_neg n3, if_pos rfl]; rfl
  · rw [z, if_neg n1, if_neg n2]; rfl
/-- class and model see one row and one rule -/
def SameAt (M : Mem) (a : Nat) : Prop := gI M 10 a = gI M 56 a ∧ gI M 11 a = gI M 57 a ∧ gI M 12 a = gI M 58 a ∧ gI M 13 a = gI M 59 a
theorem mvN_mv {M : Mem} {a b : Nat} (ha : SameAt M a) (hb : SameAt M b) (h0 : gI M 15 0 = gI M 65 0) (h3 : gI M 15 3 = gI M 65 3) : mvN M a b = nE (mvP M a b) := by
  obtain ⟨a1, a2, a3, a4⟩ := ha
  obtain ⟨b1, b2, b3, b4⟩ := hb
  have n1 : ¬ (1000000 : Int32) = 0 := by decide
  have n2 : ¬ (1000000 : Int32) = 1 := by decide
  have n3 : ¬ (1 : Int32) = 0 := by decide
  have e0 : ∀ x : Int32, x + 0 = x := fun x => Int32.add_zero x
  have key : mvN M a b = if goN M a b = 1000000 then 16777216 else goN M a b := by
    unfold mvN goN mvWait goWait
    rw [a1, a2, a3, a4, b1, b2, b4, h0, h3, e0]
    by_cases c1 : gI M 59 a = 1 ∧ gI M 59 b = 1
    · rw [if_pos c1, if_pos c1]; exact pj0 _
    · rw [if_neg c1, if_neg c1]
      by_cases c2 : ¬ gI M 59 a = 1 ∧ ¬ gI M 59 b = 1 ∧ gI M 57 a = gI M 57 b
      · rw [if_pos c2, if_pos c2]; exact pj0 _
      · rw [if_neg c2, if_neg c2]; exact pj1 _
  rw [key]
  unfold mvP
  rcases goN_rng M a b with z | z | z
  · rw [z, if_pos rfl]; decide
  · rw [z, if_neg n3, if_pos rfl]; decide
  · rw [z, if_neg n1, if_neg n2]; decide
/-- what a hand did, as the class tells it -/
def oC : Option Nat → Int32
  | none => (-1)
  | some a => nI a
def inO (s : Nat) : Option Nat → Prop
  | none => True
  | some a => a < s
def SameAll (M : Mem) (s : Nat) : Prop := s ≤ 160 ∧ (∀ a, a < s → SameAt M a) ∧ gI M 15 0 = gI M 65 0 ∧ gI M 15 3 = gI M 65 3
theorem SameAll.of {M : Mem} (hs : RScore M) (hr : RRule M) {s : Nat} (hss : (s : Int) = (gI M 9 4).toInt) : SameAll M s :=
  ⟨by have := hs.2.1; omega, fun a ha => (hs.2.2.1 a (by omega)).1, hr.1 0 (by omega), hr.1 3 (by omega)⟩
theorem v_move {M : Mem} {s : Nat} (h : SameAll M s) {p : Option Nat} (hp : inO s p) {n : Nat} (hn : n < s) : v_X3_move M (oC p) (nI n) = nE (mo (mvP M) p n) := by
  obtain ⟨h0, h1, h2, h3⟩ := h
  unfold v_X3_move
  cases p with
  | none => exact (if_pos (show oC none = (-1) from rfl)).trans (show (0 : Int32) = nE 0 by decide)
  | some a =>
    have ha : a < s := hp
    show (if nI a = (-1) then 0 else _) = nE (mvP M a n)
    rw [if_neg (nI_ne (by omega))]
    show mvN M (nI a).toNatClampNeg _ = _
    rw [nI_clamp (by omega), nI_clamp (by omega)]
    exact mvN_mv (h1 a ha) (h1 n hn) h2 h3
theorem v_holds {M : Mem} {s : Nat} (h : SameAll M s) {q : Option Nat} (hq : inO s q) {n : Nat} (hn : n < s) : v_X3_holds M (oC q) (nI n) = if ho (hlP M) q n = true then 1 else 0 := by
  obtain ⟨h0, h1, h2, h3⟩ := h
  unfold v_X3_holds
  cases q with
  | none => exact (if_pos (show oC none = (-1) from rfl)).trans rfl
  | some a =>
    have ha : a < s := hq
    show (if nI a = (-1) then 0 else _) = _
    rw [if_neg (nI_ne (by omega))]
    show (if gI M 13 (nI a).toNatClampNeg = 1 then 0 else if gI M 11 (nI a).toNatClampNeg = _ then 1 else 0) = _
    rw [nI_clamp (by omega), nI_clamp (by omega), (h1 a ha).2.2.2, (h1 a ha).2.1, (h1 n hn).2.1]
    show _ = if hlP M a n = true then 1 else 0
    unfold hlP
    by_cases c1 : gI M 59 a = 1
    · rw [if_pos c1, if_neg (by rw [decide_eq_true_iff]; exact fun z => z.1 c1)]
    · rw [if_neg c1]
      by_cases c2 : gI M 57 a = gI M 57 n
      · rw [if_pos c2, if_pos (by rw [decide_eq_true_iff]; exact ⟨c1, c2⟩)]
      · rw [if_neg c2, if_neg (by rw [decide_eq_true_iff]; exact fun z => c2 z.2)]
theorem v_step {M : Mem} {s : Nat} (h : SameAll M s) {p q : Option Nat} (hp : inO s p) (hq : inO s q) {n : Nat} (hn : n < s) : v_X3_step M (oC p) (oC q) (nI n) = nE (cs (mvP M) (hlP M) p q n) := by
  unfold v_X3_step
  rw [v_holds h hq hn]
  unfold cs
  by_cases c : ho (hlP M) q n = true
  · rw [if_pos c, if_pos c, if_neg (by decide)]; decide
  · rw [if_neg c, if_neg c, if_pos rfl]; exact v_move h hp hn
theorem g_move {M : Mem} {s : Nat} (h : s ≤ 160) {p : Option Nat} (hp : inO s p) {n : Nat} (hn : n < s) : g_X3_move M (oC p) (nI n) := by
  intro c
  cases p with
  | none => exact absurd rfl c
  | some a =>
    have ha : a < s := hp
    exact ⟨ix (by omega), ix (by omega)⟩
theorem g_holds {M : Mem} {s : Nat} (h : s ≤ 160) {p : Option Nat} (hp : inO s p) {n : Nat} (hn : n < s) : g_X3_holds M (oC p) (nI n) := by
  cases p with
  | none => exact ⟨fun c => absurd rfl c, fun c => absurd rfl c⟩
  | some a =>
    have ha : a < s := hp
    exact ⟨fun _ => ix (by omega), fun _ _ => ix (by omega)⟩
theorem g_step {M : Mem} {s : Nat} (h : s ≤ 160) {p q : Option Nat} (hp : inO s p) (hq : inO s q) {n : Nat} (hn : n < s) : g_X3_step M (oC p) (oC q) (nI n) := ⟨g_holds h hq hn, fun _ => g_move h hp hn⟩
