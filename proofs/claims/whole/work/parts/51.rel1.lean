/-! CLASS AND MODEL, part by part: the days, the ringers, the rules, the tape's length -/
theorem in0 {z a b : Int64} : v_X13_in z a b = 0 ↔ (z.toInt < a.toInt ∨ b.toInt < z.toInt) := by
  unfold v_X13_in
  simp only [lg_cmp_lt, lg_cmp_gt, Int64.lt_iff_toInt_lt]
  split
  · simp_all
  · split <;> simp_all
theorem in0i {x : Int32} {a b : Int64} : v_X13_in x.toInt64 a b = 0 ↔ (x.toInt < a.toInt ∨ b.toInt < x.toInt) := by
  rw [in0, Int32.toInt_toInt64]
theorem day0 {x : Int32} : v_X11_isDay x = 0 ↔ (x.toInt < 0 ∨ 999 < x.toInt) := by
  unfold v_X11_isDay
  simp only [i_lt, i_le]
  have : (1000 : Int32).toInt = 1000 := by decide
  have : (0 : Int32).toInt = 0 := by decide
  split
  · simp; omega
  · split
    · simp; omega
    · simp; omega
theorem day0m {x : Int32} : v_X13_isDay x = 0 ↔ (x.toInt < 0 ∨ 999 < x.toInt) := by
  unfold v_X13_isDay
  rw [in0i]
  have : (999 : Int64).toInt = 999 := by decide
  have : (0 : Int64).toInt = 0 := by decide
  omega
theorem bell0 {x : Int32} : v_X11_isBell x = 0 ↔ (x.toInt < 0 ∨ 47 < x.toInt) := by
  unfold v_X11_isBell
  simp only [i_lt, i_le]
  have : (48 : Int32).toInt = 48 := by decide
  have : (0 : Int32).toInt = 0 := by decide
  split
  · simp; omega
  · split
    · simp; omega
    · simp; omega
/-- the CLOCK, AWAY and BACK -/
def RDays (M : Mem) : Prop := gI M 44 1 = gI M 54 53 ∧ (0 ≤ (gI M 44 1).toInt ∧ (gI M 44 1).toInt ≤ 999) ∧ gI M 44 2 = gI M 54 54 ∧ (0 ≤ (gI M 44 2).toInt ∧ (gI M 44 2).toInt ≤ 60) ∧
  (∀ a : Nat, (a : Int) < (gI M 44 2).toInt → (gI M 45 a = gI M 85 a ∧ gI M 46 a = gI M 86 a ∧ gI M 47 a = gI M 87 a ∧ gI M 48 a = gI M 88 a) ∧ ((gI M 49 a = (-1) ∧ gI M 91 a = 0) ∨ (gI M 49 a = gI M 89 a ∧ 0 ≤ (gI M 49 a).toInt ∧ gI M 50 a = gI M 90 a ∧ gI M 91 a = 1))) ∧
  ∀ a : Nat, (gI M 44 2).toInt ≤ a → a < 60 → gI M 91 a = 0
def sDays (c i : Nat) : Bool := (c == 44 && (i == 1 || i == 2)) || (c == 54 && (i == 53 || i == 54)) || (45 ≤ c && c ≤ 50) || (85 ≤ c && c ≤ 91)
theorem RDays.fr {S : Nat → Nat → Bool} {M M' : Mem} (h : RDays M) (hf : Fr S M M') (hs : ∀ c i, sDays c i = true → S c i = false) : RDays M' := by
  have e : ∀ c i, sDays c i = true → gI M' c i = gI M c i := fun c i q => hf.1 c i (hs c i q)
  obtain ⟨h1, h2, h3, h4, h5, h6⟩ := h
  unfold RDays
  rw [e 44 1 rfl, e 44 2 rfl, e 54 53 rfl, e 54 54 rfl]
  refine ⟨h1, h2, h3, h4, fun a ha => ?_, fun a ha hb => ?_⟩
  · rw [e 45 a rfl, e 46 a rfl, e 47 a rfl, e 48 a rfl, e 49 a rfl, e 50 a rfl, e 85 a rfl, e 86 a rfl, e 87 a rfl, e 88 a rfl, e 89 a rfl, e 90 a rfl, e 91 a rfl]
    exact h5 a ha
  · rw [e 91 a rfl]; exact h6 a ha hb
section Days
variable {l : Launch} {D : va_G} {ad : Nat → Nat} {kA : Nat → ClassId} {M : Mem}
/-- what a pair of calls comes to: one answer, and what holds behind both -/
def Two (l : Launch) (D : va_G) (ad : Nat → Nat) (kA : Nat → ClassId) (mx mm : MI) (as : List Value) (M : Mem) (P : Mem → Prop) : Prop :=
  Cal l D ad kA mx (.ref (ad 0) :: as) M (fun oc M1 => ∃ r : Int32, oc = .returned (some (.int r)) ∧ Cal l D ad kA mm (.ref (ad 54) :: as) M1 (fun oc2 M2 => oc2 = .returned (some (.int r)) ∧ P M2))
def sPass (c i : Nat) : Bool := (c == 44 && i == 1) || (c == 54 && i == 53)
theorem pr_pass {x : Int32} (h : RDays M) : Two l D ad kA mX11_pass mX13_pass [.int x] M (fun M2 => Fr sPass M M2 ∧ RDays M2) := by
  have n1 : (1 : Int32).toInt = 1 := by decide
  have n500 : (500 : Int32).toInt = 500 := by decide
  have n999 : (999 : Int32).toInt = 999 := by decide
  have m1 : (1 : Int64).toInt = 1 := by decide
  have m500 : (500 : Int64).toInt = 500 := by decide
  have hr := i_rng x
  obtain ⟨h1, h2, h3, h4, h5, h6⟩ := id h
  refine en_X11_pass (t_X11_pass_0 (fun c1 => ?_) (fun c1 c2 => ?_) (fun c1 c2 c3 => ?_) (fun c1 c2 c3 => ?_))
  · rw [i_lt] at c1
    refine ⟨_, rfl, en_X13_pass (t_X13_pass_0 (fun _ => ⟨rfl, Fr.rf, h⟩) (fun d1 => absurd (in0i.mpr (by omega)) d1) (fun d1 => absurd (in0i.mpr (by omega)) d1))⟩
  · rw [i_lt] at c1 c2
    refine ⟨_, rfl, en_X13_pass (t_X13_pass_0 (fun _ => ⟨rfl, Fr.rf, h⟩) (fun d1 => absurd (in0i.mpr (by omega)) d1) (fun d1 => absurd (in0i.mpr (by omega)) d1))⟩
  · rw [i_lt] at c1 c2
    have ha : (gI M 44 1 + x).toInt = (gI M 44 1).toInt + x.toInt := i_add (by omega) (by omega)
    rw [day0, ha] at c3
    refine ⟨_, rfl, en_X13_pass (t_X13_pass_0 (fun d1 => ?_) (fun d1 d2 => ?_) (fun d1 d2 => ?_))⟩
    · rw [in0i] at d1; exfalso; omega
    · have hc : (gI M 54 53 + x) = (gI M 44 1 + x) := by rw [h1]
      refine ⟨by simp [gI_sI, h1], ?_, ?_⟩
      · exact (Fr.rf.sI rfl).sI rfl
      · refine ⟨by simp [gI_sI, h1], by simp only [gI_sI]; simp; omega, by simp [gI_sI, h3], by simp [gI_sI]; omega, fun a ha => ?_, fun a ha hb => ?_⟩
        · simp [gI_sI] at ha ⊢; simpa using h5 a ha
        · simp [gI_sI] at ha ⊢; exact h6 a ha hb
    · exfalso
      have e54 : gI (sI M 44 1 (gI M 44 1 + x)) 54 53 = gI M 44 1 := by simp [gI_sI, h1]
      rw [i_le, e54, ha] at d2
      omega
  · rw [i_lt] at c1 c2
    have ha : (gI M 44 1 + x).toInt = (gI M 44 1).toInt + x.toInt := i_add (by omega) (by omega)
    rw [day0, ha] at c3
    refine ⟨_, rfl, en_X13_pass (t_X13_pass_0 (fun d1 => ⟨rfl, Fr.rf, h⟩) (fun d1 d2 => ?_) (fun d1 d2 => ⟨rfl, Fr.rf, h⟩))⟩
    exfalso
    rw [← h1, i_le, ha] at d2
    omega
theorem a60 : (60 : Int32).toInt = 60 := by decide
end Days
