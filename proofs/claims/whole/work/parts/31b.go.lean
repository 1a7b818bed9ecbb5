/-! the model's go: the price of one hand's step, by hand over the printed walk -/
def goWait (M : Mem) (a b : Nat) : Int32 := if gI M 59 a = 1 then 1 + gI M 65 0 + gI M 65 3 else if gI M 59 b = 1 then gI M 58 a + gI M 65 0 + gI M 65 3 else gI M 58 a + gI M 65 0 + 0
/-- from the STROKE a to the STROKE b (numbers in the SCORE) -/
def goN (M : Mem) (a b : Nat) : Int32 :=
  if gI M 59 a = 1 ∧ gI M 59 b = 1 then (if gI M 56 b - gI M 56 a < 1 then 1000000 else 0)
  else if ¬ gI M 59 a = 1 ∧ ¬ gI M 59 b = 1 ∧ gI M 57 a = gI M 57 b then (if gI M 56 b - gI M 56 a < (if gI M 59 a = 2 then gI M 58 a else 1) then 1000000 else 0)
  else if gI M 56 b - gI M 56 a < goWait M a b then 1000000 else 1
def v_X13_go (M : Mem) (x1 x2 : Int32) : Int32 := if x1 = 160 then 0 else goN M (gI M 69 x1.toNatClampNeg).toNatClampNeg (gI M 69 x2.toNatClampNeg).toNatClampNeg
def g_X13_go (M : Mem) (x1 x2 : Int32) : Prop := ¬ x1 = 160 → (vp_in x1 160 ∧ vp_in x2 160) ∧ vp_in (gI M 69 x1.toNatClampNeg) 160 ∧ vp_in (gI M 69 x2.toNatClampNeg) 160
section W_go
variable {l : Launch} {D : va_G} {ad : Nat → Nat} {kA : Nat → ClassId} {M : Mem} {Q : Outcome → Mem → Prop}
theorem go_24 {x3 x4 : Int32} (g1 : vp_in x3 160) (g2 : vp_in x4 160) (h : Q (.returned (some (.int (goN M x3.toNatClampNeg x4.toNatClampNeg)))) M) : Fw l D ad kA mX13_go 24 [some (.ref (ad 54)), none, none, some (.int x3), some (.int x4), none, none, none, none] [] M Q := by
  refine t_X13_go_24 g2 g1 ?_
  have e0 : (0 : Int32).toNatClampNeg = 0 := by decide
  have e3 : (3 : Int32).toNatClampNeg = 3 := by decide
  have n10 : ¬ (1 : Int32) = 0 := by decide
  have z : (0 : Int32) = 0 := rfl
  by_cases hA : gI M 59 x3.toNatClampNeg = 1
  · by_cases hB : gI M 59 x4.toNatClampNeg = 1
    · simp only [if_pos hA, if_pos hB]
      refine t_X13_go_75 (fun q => absurd q n10) (fun q => absurd q n10) (fun q => absurd q n10) (fun q => absurd q n10) (fun q => absurd q n10) (fun _ q => absurd q n10) (fun _ _ => ?_)
      simp only [goN, hA, hB, and_self, if_true] at h
      exact h
    · simp only [if_pos hA, if_neg hB]
      refine t_X13_go_75 (fun q => absurd q n10) (fun q => absurd q n10) (fun q => absurd q n10) (fun q => absurd q n10) (fun q => absurd q n10) (fun _ _ => ?_) (fun _ q => absurd z q)
      refine t_X13_go_158 (fun q => absurd q n10) ?_
      simp only [goN, goWait, hA, hB, and_false, if_false, not_true_eq_false, false_and, if_true] at h
      simp only [e0, e3, if_neg n10]
      exact h
  · by_cases hB : gI M 59 x4.toNatClampNeg = 1
    · simp only [if_neg hA, if_pos hB]
      refine t_X13_go_75 (fun _ q => absurd q n10) (fun _ q => absurd q n10) (fun _ _ => ?_) (fun _ q => absurd q n10) (fun _ q => absurd q n10) (fun q => absurd z q) (fun q => absurd z q)
      refine t_X13_go_158 (fun _ => g1) ?_
      simp only [goN, goWait, hA, hB, and_true, if_false, not_true_eq_false, false_and, if_true, and_false] at h
      simp only [e0, e3, if_pos z, if_neg n10]
      exact h
    · simp only [if_neg hA, if_neg hB]
      by_cases hC : gI M 57 x3.toNatClampNeg = gI M 57 x4.toNatClampNeg
      · refine t_X13_go_75 (fun _ _ => g1) (fun _ _ => g2) (fun _ q => absurd z q) (fun _ _ q => absurd hC q) (fun _ _ _ => ?_) (fun q => absurd z q) (fun q => absurd z q)
        simp only [goN, hA, hB, hC, and_self, if_false, not_false_eq_true, if_true] at h
        exact h
      · refine t_X13_go_75 (fun _ _ => g1) (fun _ _ => g2) (fun _ q => absurd z q) (fun _ _ _ => ?_) (fun _ _ q => absurd q hC) (fun q => absurd z q) (fun q => absurd z q)
        refine t_X13_go_158 (fun _ => g1) ?_
        simp only [goN, goWait, hA, hB, hC, and_self, and_false, if_false] at h
        simp only [e0, e3, if_pos z]
        exact h
theorem ct_X13_go {x1 x2 : Int32} (g : g_X13_go M x1 x2) (h : Q (.returned (some (.int (v_X13_go M x1 x2)))) M) : Cal l D ad kA mX13_go [.ref (ad 54), .int x1, .int x2] M Q := by
  unfold v_X13_go at h
  refine en_X13_go (t_X13_go_0 (fun c => (g c).1.1) (fun c => (g c).1.2) (fun c => ?_) (fun c => by rw [if_pos c] at h; exact h))
  rw [if_neg c] at h
  exact go_24 (g c).2.1 (g c).2.2 h
end W_go
