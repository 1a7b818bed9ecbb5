/-! move: the prices of one hand's step, by hand over the printed walk -/
def mvStick (M : Mem) (k : Nat) : Prop := gI M 13 k = 1
def mvWait (M : Mem) (a b : Nat) : Int32 := if gI M 13 a = 1 then 1 + gI M 15 0 + gI M 15 3 else if gI M 13 b = 1 then gI M 12 a + gI M 15 0 + gI M 15 3 else gI M 12 a + gI M 15 0
/-- from the STROKE a to the STROKE b (numbers in the SCORE) -/
def mvN (M : Mem) (a b : Nat) : Int32 :=
  if gI M 13 a = 1 ∧ gI M 13 b = 1 then (if gI M 10 b - gI M 10 a < 1 then 16777216 else 0)
  else if ¬ gI M 13 a = 1 ∧ ¬ gI M 13 b = 1 ∧ gI M 11 a = gI M 11 b then (if gI M 10 b - gI M 10 a < (if gI M 13 a = 2 then gI M 12 a else 1) then 16777216 else 0)
  else if gI M 10 b - gI M 10 a < mvWait M a b then 16777216 else 1
def v_X3_move (M : Mem) (x1 x2 : Int32) : Int32 := if x1 = (-1) then 0 else mvN M x1.toNatClampNeg x2.toNatClampNeg
def g_X3_move (M : Mem) (x1 x2 : Int32) : Prop := ¬ x1 = (-1) → vp_in x1 160 ∧ vp_in x2 160
section W_move
variable {l : Launch} {D : va_G} {ad : Nat → Nat} {kA : Nat → ClassId} {M : Mem} {Q : Outcome → Mem → Prop}
theorem ct_X3_move {x1 x2 : Int32} (g : g_X3_move M x1 x2) (h : Q (.returned (some (.int (v_X3_move M x1 x2)))) M) : Cal l D ad kA mX3_move [.ref (ad 17), .int x1, .int x2] M Q := by
  unfold v_X3_move at h
  refine en_X3_move (t_X3_move_0 (fun c => (g c).1) (fun c => (g c).2) (fun c => ?_) (fun c => by rw [if_pos c] at h; exact h))
  rw [if_neg c] at h
  obtain ⟨g1, g2⟩ := g c
  have e0 : (0 : Int32).toNatClampNeg = 0 := by decide
  have e3 : (3 : Int32).toNatClampNeg = 3 := by decide
  have n10 : ¬ (1 : Int32) = 0 := by decide
  have z : (0 : Int32) = 0 := rfl
  by_cases hA : gI M 13 x1.toNatClampNeg = 1
  · by_cases hB : gI M 13 x2.toNatClampNeg = 1
    · simp only [if_pos hA, if_pos hB]
      refine t_X3_move_67 (fun q => absurd q n10) (fun q => absurd q n10) (fun q => absurd q n10) (fun q => absurd q n10) (fun q => absurd q n10) (fun _ q => absurd q n10) (fun _ _ => ?_)
      simp only [mvN, hA, hB, and_self, if_true] at h
      exact h
    · simp only [if_pos hA, if_neg hB]
      refine t_X3_move_67 (fun q => absurd q n10) (fun q => absurd q n10) (fun q => absurd q n10) (fun q => absurd q n10) (fun q => absurd q n10) (fun _ _ => ?_) (fun _ q => absurd z q)
      refine t_X3_move_161 (fun q => absurd q n10) (t_X3_move_190 ?_)
      simp only [mvN, mvWait, hA, hB, and_false, if_false, not_true_eq_false, false_and, if_true] at h
      simp only [e0, e3, if_neg n10]
      exact h
  · by_cases hB : gI M 13 x2.toNatClampNeg = 1
    · simp only [if_neg hA, if_pos hB]
      refine t_X3_move_67 (fun _ q => absurd q n10) (fun _ q => absurd q n10) (fun _ _ => ?_) (fun _ q => absurd q n10) (fun _ q => absurd q n10) (fun q => absurd z q) (fun q => absurd z q)
      refine t_X3_move_161 (fun _ => g1) (t_X3_move_190 ?_)
      simp only [mvN, mvWait, hA, hB, and_true, if_false, not_true_eq_false, false_and, if_true, and_false] at h
      simp only [e0, e3, if_pos z, if_neg n10]
      exact h
    · simp only [if_neg hA, if_neg hB]
      by_cases hC : gI M 11 x1.toNatClampNeg = gI M 11 x2.toNatClampNeg
      · refine t_X3_move_67 (fun _ _ => g1) (fun _ _ => g2) (fun _ q => absurd z q) (fun _ _ q => absurd hC q) (fun _ _ _ => ?_) (fun q => absurd z q) (fun q => absurd z q)
        simp only [mvN, hA, hB, hC, and_self, if_false, not_false_eq_true, if_true] at h
        exact h
      · refine t_X3_move_67 (fun _ _ => g1) (fun _ _ => g2) (fun _ q => absurd z q) (fun _ _ _ => ?_) (fun _ _ q => absurd q hC) (fun q => absurd z q) (fun q => absurd z q)
        refine t_X3_move_161 (fun _ => g1) (t_X3_move_190 ?_)
        simp only [mvN, mvWait, hA, hB, hC, and_self, and_false, if_false] at h
        simp only [e0, e3, if_pos z]
        exact h
end W_move
