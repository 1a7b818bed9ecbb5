/-! CLASS AND MODEL, part by part: the days, the ringers, the rules, the tape's length -/
theorem n0 : (0 : Int32).toInt = 0 := by decide
theorem n1 : (1 : Int32).toInt = 1 := by decide
theorem n4 : (4 : Int32).toInt = 4 := by decide
theorem n12 : (12 : Int32).toInt = 12 := by decide
theorem n60 : (60 : Int32).toInt = 60 := by decide
theorem n500 : (500 : Int32).toInt = 500 := by decide
theorem n999 : (999 : Int32).toInt = 999 := by decide
theorem nm1 : (-1 : Int32).toInt = -1 := by decide
theorem m0 : (0 : Int64).toInt = 0 := by decide
theorem m1 : (1 : Int64).toInt = 1 := by decide
theorem m3 : (3 : Int64).toInt = 3 := by decide
theorem m12 : (12 : Int64).toInt = 12 := by decide
theorem m47 : (47 : Int64).toInt = 47 := by decide
theorem m500 : (500 : Int64).toInt = 500 := by decide
theorem m999 : (999 : Int64).toInt = 999 := by decide
theorem in0 {z a b : Int64} : v_X13_in z a b = 0 ↔ (z.toInt < a.toInt ∨ b.toInt < z.toInt) := by
  unfold v_X13_in
  simp only [lg_cmp_lt, lg_cmp_gt, Int64.lt_iff_toInt_lt]
  split
  · simp_all
  · split <;> simp_all
theorem in0i {x : Int32} {a b : Int64} : v_X13_in x.toInt64 a b = 0 ↔ (x.toInt < a.toInt ∨ b.toInt < x.toInt) := by
  rw [in0, Int32.toInt_toInt64]
theorem l_pred {x : Int32} : (x.toInt64 - 1).toInt = x.toInt - 1 := by
  have h := i_rng x
  rw [Int64.toInt_sub, Int32.toInt_toInt64, m1]
  exact Int.bmod_eq_of_le (by omega) (by omega)
theorem day0 {x : Int32} : v_X11_isDay x = 0 ↔ (x.toInt < 0 ∨ 999 < x.toInt) := by
  unfold v_X11_isDay
  simp only [i_lt, i_le]
  have : (1000 : Int32).toInt = 1000 := by decide
  have := n0
  split
  · simp; omega
  · split
    · simp; omega
    · simp; omega
theorem day0m {x : Int32} : v_X13_isDay x = 0 ↔ (x.toInt < 0 ∨ 999 < x.toInt) := by
  unfold v_X13_isDay
  rw [in0i, m0, m999]
theorem bell0 {x : Int32} : v_X11_isBell x = 0 ↔ (x.toInt < 0 ∨ 47 < x.toInt) := by
  unfold v_X11_isBell
  simp only [i_lt, i_le]
  have : (48 : Int32).toInt = 48 := by decide
  have := n0
  split
  · simp; omega
  · split
    · simp; omega
    · simp; omega
theorem gI_self {M : Mem} {c i : Nat} {v : Int32} : gI (sI M c i v) c i = v := by simp [gI_sI]
theorem gI_o {M : Mem} {c i a b : Nat} {v : Int32} (h : ¬ (a = c ∧ b = i)) : gI (sI M c i v) a b = gI M a b := by rw [gI_sI, if_neg h]
theorem gI_oi {M : Mem} {c i b : Nat} {v : Int32} (h : b ≠ i) : gI (sI M c i v) c b = gI M c b := gI_o (fun e => h e.2)
/-- the CLOCK, AWAY and BACK -/
def RDays (M : Mem) : Prop := gI M 44 1 = gI M 54 53 ∧ (0 ≤ (gI M 44 1).toInt ∧ (gI M 44 1).toInt ≤ 999) ∧ gI M 44 2 = gI M 54 54 ∧ (0 ≤ (gI M 44 2).toInt ∧ (gI M 44 2).toInt ≤ 60) ∧
  (∀ a : Nat, (a : Int) < (gI M 44 2).toInt → (gI M 45 a = gI M 85 a ∧ gI M 46 a = gI M 86 a ∧ gI M 47 a = gI M 87 a ∧ gI M 48 a = gI M 88 a) ∧ ((gI M 49 a = (-1) ∧ gI M 91 a = 0) ∨ (gI M 49 a = gI M 89 a ∧ 0 ≤ (gI M 49 a).toInt ∧ gI M 50 a = gI M 90 a ∧ gI M 91 a = 1))) ∧
  ∀ a : Nat, (gI M 44 2).toInt ≤ a → a < 60 → gI M 91 a = 0
def sDays (c i : Nat) : Bool := (c == 44 && (i == 1 || i == 2)) || (c == 54 && (i == 53 || i == 54)) || (45 ≤ c && c ≤ 50) || (85 ≤ c && c ≤ 91)
theorem RDays.fr {S : Nat → Nat → Bool} {M M' : Mem} (h : RDays M) (hf : Fr S M M') (hs : ∀ c i, sDays c i = true → S c i = false) : RDays M' := by
  have e : ∀ c i, sDays c i = true → gI M' c i = gI M c i := fun c i q => hf.1 c i (hs c i q)
  obtain ⟨h1, h2, h3, h4, h5, h6⟩ := h
  unfold RDays
  rw [e 44 1 rfl, e 44 2 rfl, e 54 53 rfl, e 54 54 rfl]
  refine ⟨h1, h2, h3, h4, fun a ha => ?_, fun a ha hb => ?_⟩
  · rw [e 45 a rfl, e 46 a rfl, e 47 a rfl, e 48 a rfl, e 49 a rfl, e 50 a rfl, e 85 a rfl, e 86 a rfl, e 87 a rfl, e 88 a rfl, e 89 a rfl, e 90 a rfl, e 91 a rfl]
    exact h5 a ha
  · rw [e 91 a rfl]; exact h6 a ha hb
/-- what a pair of calls comes to: one answer, and what holds behind both -/
def Two (l : Launch) (D : va_G) (ad : Nat → Nat) (kA : Nat → ClassId) (mx mm : MI) (as : List Value) (M : Mem) (P : Mem → Prop) : Prop :=
  Cal l D ad kA mx (.ref (ad 0) :: as) M (fun oc M1 => ∃ r : Int32, oc = .returned (some (.int r)) ∧ Cal l D ad kA mm (.ref (ad 54) :: as) M1 (fun oc2 M2 => oc2 = .returned (some (.int r)) ∧ P M2))
section Days
variable {l : Launch} {D : va_G} {ad : Nat → Nat} {kA : Nat → ClassId} {M : Mem}
def sPass (c i : Nat) : Bool := (c == 44 && i == 1) || (c == 54 && i == 53)
theorem pr_pass {x : Int32} (h : RDays M) : Two l D ad kA mX11_pass mX13_pass [.int x] M (fun M2 => Fr sPass M M2 ∧ RDays M2) := by
  have hr := i_rng x
  have q1 := n1
  have q2 := n500
  have q3 := n999
  obtain ⟨h1, h2, h3, h4, h5, h6⟩ := id h
  refine en_X11_pass (t_X11_pass_0 (fun c1 => ?_) (fun c1 c2 => ?_) (fun c1 c2 c3 => ?_) (fun c1 c2 c3 => ?_))
  · rw [i_lt] at c1
    refine ⟨_, rfl, en_X13_pass (t_X13_pass_0 (fun _ => ⟨rfl, Fr.rf, h⟩) (fun d1 => absurd (in0i.mpr (by rw [m1]; omega)) d1) (fun d1 => absurd (in0i.mpr (by rw [m1]; omega)) d1))⟩
  · rw [i_lt] at c1 c2
    refine ⟨_, rfl, en_X13_pass (t_X13_pass_0 (fun _ => ⟨rfl, Fr.rf, h⟩) (fun d1 => absurd (in0i.mpr (by rw [m500]; omega)) d1) (fun d1 => absurd (in0i.mpr (by rw [m500]; omega)) d1))⟩
  · rw [i_lt] at c1 c2
    have ha : (gI M 44 1 + x).toInt = (gI M 44 1).toInt + x.toInt := i_add (by omega) (by omega)
    rw [day0, ha] at c3
    have e54 : gI (sI M 44 1 (gI M 44 1 + x)) 54 53 = gI M 44 1 := h1.symm
    refine ⟨_, rfl, en_X13_pass (t_X13_pass_0 (fun d1 => ?_) (fun d1 d2 => ?_) (fun d1 d2 => ?_))⟩
    · rw [in0i, m1, m500] at d1; exfalso; omega
    · rw [e54]
      exact ⟨rfl, (Fr.rf.sI rfl).sI rfl, rfl, by show 0 ≤ (gI M 44 1 + x).toInt ∧ (gI M 44 1 + x).toInt ≤ 999; omega, h3, h4, h5, h6⟩
    · exfalso
      rw [i_le, e54, ha] at d2
      omega
  · rw [i_lt] at c1 c2
    have ha : (gI M 44 1 + x).toInt = (gI M 44 1).toInt + x.toInt := i_add (by omega) (by omega)
    rw [day0, ha] at c3
    refine ⟨_, rfl, en_X13_pass (t_X13_pass_0 (fun d1 => ⟨rfl, Fr.rf, h⟩) (fun d1 d2 => ?_) (fun d1 d2 => ⟨rfl, Fr.rf, h⟩))⟩
    exfalso
    rw [← h1, i_le, ha] at d2
    omega
theorem pr_away {x y z : Int32} (h : RDays M) : Two l D ad kA mX11_away mX13_away [.int x, .int y, .int z] M (fun M2 => Fr sDays M M2 ∧ RDays M2) := by
  have q1 := n60
  obtain ⟨h1, h2, h3, h4, h5, h6⟩ := id h
  have bad : ((x.toInt < 0 ∨ 47 < x.toInt) ∨ (y.toInt < 0 ∨ 999 < y.toInt) ∨ (z.toInt < y.toInt ∨ 999 < z.toInt)) → Cal l D ad kA mX13_away (.ref (ad 54) :: [.int x, .int y, .int z]) M (fun oc2 M2 => oc2 = .returned (some (.int (-2))) ∧ Fr sDays M M2 ∧ RDays M2) := by
    intro hb
    have w : ¬ ((¬ v_X13_in x.toInt64 0 47 = 0) ∧ (¬ v_X13_isDay y = 0) ∧ (¬ v_X13_in z.toInt64 y.toInt64 999 = 0)) := by
      rw [in0i, day0m, in0i, m0, m47, m999, Int32.toInt_toInt64]
      omega
    refine en_X13_away (t_X13_away_0 (fun d1 d2 d3 => absurd ⟨d1, d2, d3⟩ w) (fun _ => ⟨rfl, Fr.rf, h⟩) (fun _ _ => ⟨rfl, Fr.rf, h⟩) (fun d1 d2 d3 => absurd ⟨d1, d2, d3⟩ w) (fun d1 d2 d3 => absurd ⟨d1, d2, d3⟩ w) (fun _ _ _ => ⟨rfl, Fr.rf, h⟩))
  refine en_X11_away (t_X11_away_0 (fun c1 => ⟨_, rfl, bad (Or.inl (bell0.mp c1))⟩) (fun c1 c2 => ⟨_, rfl, bad (Or.inr (Or.inl (day0.mp c2)))⟩) (fun c1 c2 c3 => ?_) (fun c1 c2 c3 c4 c5 => ?_) (fun c1 c2 c3 c4 c5 => ?_) (fun c1 c2 c3 c4 => ?_))
  · rw [day0] at c2 c3
    exact ⟨_, rfl, bad (by omega)⟩
  · rw [day0] at c2 c3
    rw [bell0] at c1
    rw [i_le] at c4
    rw [i_lt] at c5
    have hn : ¬ v_X13_in x.toInt64 0 47 = 0 := by rw [in0i, m0, m47]; exact c1
    have hd : ¬ v_X13_isDay y = 0 := by rw [day0m]; exact c2
    have hz : ¬ v_X13_in z.toInt64 y.toInt64 999 = 0 := by rw [in0i, m999, Int32.toInt_toInt64]; omega
    obtain ⟨n, hn1, hn2, hn3⟩ := i_nat h4.1
    have hcl : (gI M 44 2).toNatClampNeg = n := by rw [hn1, nI_clamp (by omega)]
    refine en_X2_add (t_X2_add_0 (vin_of h4.1 (by omega)) ⟨_, rfl, t_X11_away_56 ⟨_, rfl, ?_⟩⟩)
    rw [hcl]
    generalize hM1 : sI (sI (sI (sI (sI (sI M 45 n x) 46 n y) 47 n z) 48 n (gI M 44 1)) 49 n (-1)) 44 2 (gI M 44 2 + 1) = M1
    have e1 : gI M1 54 54 = gI M 44 2 := by rw [← hM1]; exact h3.symm
    have e2 : gI M1 54 53 = gI M 44 1 := by rw [← hM1]; exact h1.symm
    have s60 : ¬ gI M 44 2 = 60 := by rw [i_eq]; omega
    refine en_X13_away (t_X13_away_0 (fun _ _ _ _ => by rw [e1]; exact vin_of h4.1 (by omega)) (fun d1 => absurd d1 hn) (fun _ d2 => absurd d2 hd) (fun _ _ _ _ => ?_) (fun _ _ _ d4 => absurd d4 (by rw [e1]; exact s60)) (fun _ _ d3 => absurd d3 hz))
    rw [e1, e2, hcl]
    have ha : (gI M 44 2 + 1).toInt = (gI M 44 2).toInt + 1 := by rw [i_add, n1] <;> rw [n1] <;> omega
    have hb : gI M 44 2 + 1 - 1 = gI M 44 2 := by rw [i_eq, i_sub, ha, n1] <;> (try rw [ha, n1]) <;> omega
    refine ⟨by rw [hb], ?_, ?_⟩
    · rw [← hM1]
      exact (((((((((((Fr.rf.sI rfl).sI rfl).sI rfl).sI rfl).sI rfl).sI rfl).sI rfl).sI rfl).sI rfl).sI rfl).sI rfl)
    · rw [← hM1]
      refine ⟨h1, h2, rfl, by show 0 ≤ (gI M 44 2 + 1).toInt ∧ (gI M 44 2 + 1).toInt ≤ 60; omega, fun a ha2 => ?_, fun a ha2 hb2 => ?_⟩
      · have ha3 : (a : Int) < (gI M 44 2).toInt + 1 := by rw [← ha]; exact ha2
        by_cases han : a = n
        · subst han
          refine ⟨?_, Or.inl ⟨?_, ?_⟩⟩
          · simp [gI_sI]
          · simp [gI_sI]
          · simp [gI_sI]; exact h6 a (by omega) (by omega)
        · have := h5 a (by omega)
          simp [gI_sI, han]
          exact this
      · have ha3 : (gI M 44 2).toInt + 1 ≤ a := by rw [← ha]; exact ha2
        have := h6 a (by omega) hb2
        simp [gI_sI]; exact this
  · rw [day0] at c2 c3
    rw [bell0] at c1
    rw [i_le] at c4
    rw [i_lt] at c5
    have hn : ¬ v_X13_in x.toInt64 0 47 = 0 := by rw [in0i, m0, m47]; exact c1
    have hd : ¬ v_X13_isDay y = 0 := by rw [day0m]; exact c2
    have hz : ¬ v_X13_in z.toInt64 y.toInt64 999 = 0 := by rw [in0i, m999, Int32.toInt_toInt64]; omega
    have s60 : gI M 54 54 = 60 := by rw [← h3, i_eq]; omega
    exact ⟨_, rfl, en_X13_away (t_X13_away_0 (fun _ _ _ q => absurd s60 q) (fun d1 => absurd d1 hn) (fun _ d2 => absurd d2 hd) (fun _ _ _ q => absurd s60 q) (fun _ _ _ _ => ⟨rfl, Fr.rf, h⟩) (fun _ _ d3 => absurd d3 hz))⟩
  · rw [day0] at c2 c3
    rw [i_le] at c4
    exact ⟨_, rfl, bad (by omega)⟩
end Days
