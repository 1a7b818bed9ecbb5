/-! hand, helped, more, laid, stroke -/
def RHands (M : Mem) : Prop := gI M 17 3 = gI M 54 32 ∧ (¬ gI M 17 3 = 0 → ∀ a : Nat, (a : Int) < (gI M 9 4).toInt → gI M 18 a = gI M 71 a)
def RHelp (M : Mem) : Prop := (gI M 54 44 = 0 → gI M 28 3 = (-1) ∧ gI M 28 4 = (-1)) ∧ (¬ gI M 54 44 = 0 → gI M 28 3 = gI M 54 42 ∧ gI M 28 4 = gI M 54 43)
/-- what was heard, laid beside the SCORE -/
def RLaid (M : Mem) : Prop := gI M 35 4 = gI M 54 52 ∧ (¬ gI M 35 4 = 0 → gI M 35 3 = gI M 54 46 ∧ ∀ a : Nat, (a : Int) < (gI M 9 4).toInt →
  (gI M 82 a = (-1) ∧ gI M 37 a = (-1) ∧ gI M 36 a = 0) ∨ ((0 ≤ (gI M 82 a).toInt ∧ (gI M 82 a).toInt < 160) ∧ ¬ gI M 37 a = (-1) ∧ gI M 37 a = gI M 81 (gI M 82 a).toNatClampNeg ∧ gI M 36 a = gI M 80 (gI M 82 a).toNatClampNeg - gI M 56 a))
section Quick
variable {l : Launch} {D : va_G} {ad : Nat → Nat} {kA : Nat → ClassId} {M : Mem} {Q : Outcome → Mem → Prop}
theorem pr_hand {x : Int32} (h : RHands M) (hs : RScore M) : Two l D ad kA mX11_hand mX13_hand [.int x] M (fun M2 => M2 = M) := by
  obtain ⟨s1, s2, -, -⟩ := hs
  refine ct_X11_hand (fun _ c => ?_) ⟨_, rfl, ct_X13_hand (fun _ c => ?_) ⟨?_, rfl⟩⟩
  · rw [num0] at c; exact vin_of (by omega) (by omega)
  · rw [num0m, ← s1] at c; exact vin_of (by omega) (by omega)
  · unfold v_X11_hand v_X13_hand
    rw [← h.1]
    by_cases q : gI M 17 3 = 0
    · rw [if_pos q, if_pos q]
    · rw [if_neg q, if_neg q]
      by_cases r : v_X9_hasNumber M x = 0
      · have r2 : v_X13_isStroke M x = 0 := by rw [num0m, ← s1]; exact num0.mp r
        rw [if_pos r, if_pos r2]
      · have r2 : ¬ v_X13_isStroke M x = 0 := by rw [num0m, ← s1]; exact fun z => r (num0.mpr z)
        rw [if_neg r, if_neg r2]
        rw [num0] at r
        have := i_clamp (x := x) (by omega)
        rw [h.2 q _ (by omega)]
theorem pr_helped {x : Int32} (h : RHelp M) : Two l D ad kA mX11_helped mX13_helped [.int x] M (fun M2 => M2 = M) := by
  refine ct_X11_helped ⟨_, rfl, ct_X13_helped ⟨?_, rfl⟩⟩
  unfold v_X11_helped v_X13_helped
  by_cases q : gI M 54 44 = 0
  · rw [if_pos q, (h.1 q).1, (h.1 q).2]
    by_cases r : x = 0
    · rw [if_pos r]
    · rw [if_neg r]; split <;> rfl
  · rw [if_neg q, (h.2 q).1, (h.2 q).2]
theorem pr_more (h : RLaid M) : Two l D ad kA mX11_more mX13_more [] M (fun M2 => M2 = M) := by
  refine ct_X11_more ⟨_, rfl, ct_X13_more ⟨?_, rfl⟩⟩
  unfold v_X11_more v_X13_more
  rw [← h.1]
  by_cases q : gI M 35 4 = 0
  · rw [if_pos q, if_pos q]
  · rw [if_neg q, if_neg q, (h.2 q).1]
end Quick
