/-! damp; measure -/
theorem nNEV : (16777216 : Int32).toInt = 16777216 := by decide
theorem i_min {x y : Int32} : (imin x y).toInt = if y.toInt < x.toInt then y.toInt else x.toInt := by
  unfold imin
  simp only [i_lt]
  split <;> rfl
/-- the next beat of a bell -/
def nx (beat bell : Nat → Int32) (b : Int32) : Nat → Nat → Int32
  | 0, _ => 16777216
  | j + 1, i => if bell i = b then beat i else nx beat bell b j (i + 1)
theorem enS_nx {beat bell : Nat → Int32} {b e : Int32} (he : e.toInt ≤ 2000) : ∀ j i, enS beat bell b e j i = imin e (nx beat bell b j i) := by
  intro j
  induction j with
  | zero =>
    intro i
    have := nNEV
    unfold enS nx imin
    rw [if_neg (by rw [i_lt]; omega)]
  | succ j ih =>
    intro i
    unfold enS nx
    split
    · rfl
    · exact ih (i + 1)
theorem enS_congr {beat bell beat' bell' : Nat → Int32} {b e : Int32} : ∀ j i, (∀ a, i ≤ a → a < i + j → beat a = beat' a ∧ bell a = bell' a) → enS beat bell b e j i = enS beat' bell' b e j i := by
  intro j
  induction j with
  | zero => intro i _; rfl
  | succ j ih =>
    intro i h
    unfold enS
    rw [(h i (by omega) (by omega)).1, (h i (by omega) (by omega)).2, ih (i + 1) (fun a h1 h2 => h a (by omega) (by omega))]
/-- the first that is so, or else e -/
def dl (p : Nat → Bool) (f : Nat → Int32) (e : Int32) : Nat → Nat → Int32
  | 0, _ => e
  | j + 1, i => if p i = true then f i else dl p f e j (i + 1)
theorem dl_none {p : Nat → Bool} {f : Nat → Int32} {e : Int32} : ∀ j i, (∀ a, i ≤ a → a < i + j → p a = false) → dl p f e j i = e := by
  intro j
  induction j with
  | zero => intro i _; rfl
  | succ j ih =>
    intro i h
    unfold dl
    rw [if_neg (by rw [h i (by omega) (by omega)]; decide)]
    exact ih (i + 1) (fun a h1 h2 => h a (by omega) (by omega))
theorem dl_cases {p : Nat → Bool} {f : Nat → Int32} {e : Int32} : ∀ j i, dl p f e j i = e ∨ ∃ a, i ≤ a ∧ a < i + j ∧ p a = true ∧ dl p f e j i = f a := by
  intro j
  induction j with
  | zero => intro i; exact .inl rfl
  | succ j ih =>
    intro i
    unfold dl
    split
    · rename_i c
      exact .inr ⟨i, by omega, by omega, c, rfl⟩
    · rcases ih (i + 1) with z | ⟨a, h1, h2, h3, h4⟩
      · exact .inl z
      · exact .inr ⟨a, by omega, by omega, h3, h4⟩
def dpB (M : Mem) (a i : Nat) : Bool := decide (clB M a i = true ∧ ¬ gI M 56 i ≤ gI M 56 a)
/-- a STROKE's length when damped -/
def dmp (M : Mem) (a : Nat) : Int32 := dl (dpB M a) (fun i => gI M 56 i - gI M 56 a) (gI M 58 a) ((gI M 54 10).toInt.toNat - (a + 1)) (a + 1)
def sm (f : Nat → Int32) : Nat → Int32
  | 0 => 0
  | n + 1 => sm f n + f n
def s12 (c i : Nat) : Bool := c == 12
def sMeas (c i : Nat) : Bool := c == 33 || c == 34
section Damp
variable {l : Launch} {D : va_G} {ad : Nat → Nat} {kA : Nat → ClassId} {M : Mem} {Q : Outcome → Mem → Prop}
theorem ix48 {i : Nat} (h : i < 48) : vp_in (nI i) 48 := vin_of (by rw [i_nI (by omega)]; omega) (by rw [i_nI (by omega)]; omega)
theorem lp_me2 {M0 : Mem} (K : ∀ M', Fr sMeas M0 M' → (∀ b, b < 48 → gI M' 34 b = 16777216) → Fw l D ad kA mX8_measure 32 [some (.ref (ad 32)), some (.int ((gI M' 9 4) - 1)), none] [] M' Q) : ∀ (j i : Nat) (M : Mem), i + j = 48 → Fr sMeas M0 M → (∀ b, b < i → gI M 34 b = 16777216) →
    Fw l D ad kA mX8_measure 2 [some (.ref (ad 32)), some (.int (nI i)), none] [] M Q := by
  have n48 : (48 : Int32).toInt = 48 := by decide
  intro j
  induction j with
  | zero =>
    intro i M hi hf hb
    have hle : 48 ≤ nI i := by rw [i_le, i_nI (by omega)]; omega
    exact t_X8_measure_2 (fun q => absurd hle q) (fun _ => K M hf (fun b h => hb b (by omega))) (fun q => absurd hle q)
  | succ j ih =>
    intro i M hi hf hb
    have hnle : ¬ 48 ≤ nI i := by rw [i_le, i_nI (by omega)]; omega
    have hcl : (nI i).toNatClampNeg = i := nI_clamp (by omega)
    refine t_X8_measure_2 (fun _ => ix48 (by omega)) (fun q => absurd q hnle) (fun _ => ?_)
    rw [nI_1, hcl]
    refine ih (i + 1) _ (by omega) (hf.sI rfl) (fun b h => ?_)
    by_cases e : b = i
    · rw [e, gI_self]
    · rw [gI_oi e]; exact hb b (by omega)
/-- the end of a STROKE's sound, over the class's rows -/
def endC (M : Mem) (a : Nat) : Int32 := enS (gI M 10) (gI M 11) (gI M 11 a) (gI M 10 a + gI M 12 a) ((gI M 9 4).toInt.toNat - (a + 1)) (a + 1)
theorem endC_fr {M M' : Mem} (hf : Fr sMeas M M') (a : Nat) : endC M' a = endC M a := by
  unfold endC
  rw [hf.1 9 4 rfl, hf.1 11 a rfl, hf.1 10 a rfl, hf.1 12 a rfl]
  exact enS_congr _ _ (fun b _ _ => ⟨hf.1 10 b rfl, hf.1 11 b rfl⟩)
def ScoreOk (M : Mem) : Prop := (0 ≤ (gI M 9 4).toInt ∧ (gI M 9 4).toInt ≤ 160) ∧ ∀ a : Nat, (a : Int) < (gI M 9 4).toInt → (0 ≤ (gI M 10 a).toInt ∧ (gI M 10 a).toInt ≤ 999) ∧ (0 ≤ (gI M 11 a).toInt ∧ (gI M 11 a).toInt ≤ 47) ∧ (1 ≤ (gI M 12 a).toInt ∧ (gI M 12 a).toInt ≤ 16)
theorem lp_me32 {M0 : Mem} (hs : ScoreOk M0) (s : Nat) (hss : (s : Int) = (gI M0 9 4).toInt) (K : ∀ M', Fr sMeas M0 M' → (∀ a : Nat, (a : Int) < (gI M0 9 4).toInt → gI M' 33 a = endC M0 a) → Q (.returned none) M') : ∀ (i : Nat) (M : Mem), i ≤ s → Fr sMeas M0 M → (∀ b, b < 48 → gI M 34 b = nx (gI M0 10) (gI M0 11) (nI b) (s - i) i) → (∀ a : Nat, i ≤ a → a < s → gI M 33 a = endC M0 a) →
    Fw l D ad kA mX8_measure 32 [some (.ref (ad 32)), some (.int (nI i - 1)), none] [] M Q := by
  have q0 := n0
  have q1 := n1
  obtain ⟨s1, s2⟩ := hs
  have hsn : (gI M0 9 4).toInt.toNat = s := by omega
  intro i
  induction i with
  | zero =>
    intro M hi hf hb he
    have hlt : nI 0 - 1 < 0 := by decide
    exact t_X8_measure_32 (fun q => absurd hlt q) (fun q => absurd hlt q) (fun _ => K M hf (fun a ha => he a (by omega) (by omega))) (fun q => absurd hlt q)
  | succ i ih =>
    intro M hi hf hb he
    have e1 : nI (i + 1) - 1 = nI i := by rw [i_eq, i_sub, i_nI, i_nI, q1] <;> (try rw [i_nI, q1]) <;> omega
    rw [e1]
    have hnlt : ¬ nI i < 0 := by rw [i_lt, i_nI (by omega)]; omega
    have hcl : (nI i).toNatClampNeg = i := nI_clamp (by omega)
    obtain ⟨⟨z1, z2⟩, ⟨z3, z4⟩, z5, z6⟩ := s2 i (by omega)
    have f10 : gI M 10 i = gI M0 10 i := hf.1 10 i rfl
    have f11 : gI M 11 i = gI M0 11 i := hf.1 11 i rfl
    have f12 : gI M 12 i = gI M0 12 i := hf.1 12 i rfl
    obtain ⟨b, hb1, hb2, hb3⟩ := i_nat z3
    have hclb : (nI b).toNatClampNeg = b := nI_clamp (by omega)
    refine t_X8_measure_32 (fun _ => ix (by omega)) (fun _ => by rw [hcl, f11]; exact vin_of (by omega) (by omega)) (fun q => absurd q hnlt) (fun _ => ?_)
    rw [hcl, f10, f11, f12, hb1, hclb]
    have e2 : nI i + (-1) = nI i - 1 := by rw [i_eq, i_sub, i_add, i_nI, nm1, q1] <;> (try rw [i_nI]) <;> (try rw [nm1]) <;> (try rw [q1]) <;> omega
    rw [e2]
    refine ih _ (by omega) ((hf.sI rfl).sI rfl) (fun c hc => ?_) (fun a ha1 ha2 => ?_)
    · have eq : s - i = (s - (i + 1)) + 1 := by omega
      rw [eq]
      unfold nx
      by_cases e : c = b
      · rw [e, gI_self, if_pos hb1]
      · rw [gI_oi e, if_neg (by rw [hb1]; exact fun z => e (nI_inj (by omega) (by omega) z.symm)), gI_o (by omega)]
        exact hb c hc
    · rw [gI_o (by omega)]
      by_cases e : a = i
      · rw [e, gI_self, hb b (by omega)]
        unfold endC
        rw [enS_nx (by rw [i_add] <;> omega), hsn, hb1]
      · rw [gI_oi e]
        exact he a (by omega) ha2
theorem ct_measure (hs : ScoreOk M) (K : ∀ M', Fr sMeas M M' → (∀ a : Nat, (a : Int) < (gI M 9 4).toInt → gI M' 33 a = endC M a) → Q (.returned none) M') : Cal l D ad kA mX8_measure [.ref (ad 32)] M Q := by
  obtain ⟨s, hs1, hs2, hs3⟩ := i_nat hs.1.1
  have := hs.1.2
  refine en_X8_measure (t_X8_measure_0 (lp_me2 (M0 := M) (fun M' hf hb => ?_) 48 0 M (by omega) Fr.rf (fun b h => by omega)))
  rw [hf.1 9 4 rfl, hs1]
  refine lp_me32 hs s hs2 K s M' (by omega) hf (fun b h => ?_) (fun a h1 h2 => by omega)
  rw [Nat.sub_self]
  exact hb b h
end Damp
