/-! back; the ringers; rules, faults, the tape's length, the key as it was told -/
section Back
variable {l : Launch} {D : va_G} {ad : Nat → Nat} {kA : Nat → ClassId} {M : Mem}
theorem pr_back {x y : Int32} (h : RDays M) : Two l D ad kA mX11_back mX13_back [.int x, .int y] M (fun M2 => Fr sDays M M2 ∧ RDays M2) := by
  have q0 := n0
  obtain ⟨h1, h2, h3, h4, h5, h6⟩ := id h
  have bad : ((x.toInt < 0 ∨ (gI M 44 2).toInt ≤ x.toInt) ∨ (y.toInt < 0 ∨ 999 < y.toInt)) → Cal l D ad kA mX13_back (.ref (ad 54) :: [.int x, .int y]) M (fun oc2 M2 => oc2 = .returned (some (.int (-2))) ∧ Fr sDays M M2 ∧ RDays M2) := by
    intro hb
    have w : ¬ ((¬ v_X13_in x.toInt64 0 ((gI M 54 54).toInt64 - 1) = 0) ∧ (¬ v_X13_isDay y = 0)) := by
      rw [in0i, day0m, m0, l_pred, ← h3]
      omega
    exact en_X13_back (t_X13_back_0 (fun d1 d2 => absurd ⟨d1, d2⟩ w) (fun _ => ⟨rfl, Fr.rf, h⟩) (fun d1 d2 => absurd ⟨d1, d2⟩ w) (fun d1 d2 => absurd ⟨d1, d2⟩ w) (fun _ _ => ⟨rfl, Fr.rf, h⟩))
  refine en_X11_back (t_X11_back_0 (fun c1 => ⟨_, rfl, bad ?_⟩) (fun c1 c2 => ⟨_, rfl, bad ?_⟩) (fun c1 c2 c3 => ?_) (fun c1 c2 c3 => ⟨_, rfl, bad (Or.inr (day0.mp c3))⟩))
  · rw [i_lt] at c1; omega
  · rw [i_le] at c2; omega
  · rw [i_lt] at c1
    rw [i_le] at c2
    rw [day0] at c3
    have hi : ¬ v_X13_in x.toInt64 0 ((gI M 54 54).toInt64 - 1) = 0 := by rw [in0i, m0, l_pred, ← h3]; omega
    have hd : ¬ v_X13_isDay y = 0 := by rw [day0m]; exact c3
    obtain ⟨n, rfl, hn2, hn3⟩ := i_nat (x := x) (by omega)
    have hcl : (nI n).toNatClampNeg = n := nI_clamp (by omega)
    have hin : vp_in (nI n) 60 := vin_of (by omega) (by omega)
    obtain ⟨hA, hB⟩ := h5 n (by omega)
    refine en_X2_addBack (t_X2_addBack_0 hin (fun d1 => ?_) (fun d1 => ?_))
    · rw [hcl] at d1 ⊢
      refine ⟨_, rfl, t_X11_back_34 ⟨_, rfl, ?_⟩⟩
      have hz : gI M 91 n = 0 := by
        rcases hB with hB | hB
        · exact hB.2
        · exfalso
          have := hB.2.1
          rw [d1, nm1] at this
          omega
      have e0 : gI (sI (sI M 49 n y) 50 n (gI M 44 1)) 91 n = 0 := hz
      have e1 : gI (sI (sI M 49 n y) 50 n (gI M 44 1)) 54 53 = gI M 44 1 := h1.symm
      refine en_X13_back (t_X13_back_0 (fun _ _ => hin) (fun d2 => absurd d2 hi) (fun _ _ _ => ?_) (fun _ _ d3 => absurd e0 (by rw [hcl] at d3; exact d3)) (fun _ d3 => absurd d3 hd))
      rw [hcl, e1]
      refine ⟨rfl, ?_, ?_⟩
      · exact (((((Fr.rf.sI rfl).sI rfl).sI rfl).sI rfl).sI rfl)
      · refine ⟨h1, h2, h3, h4, fun a ha => ?_, fun a ha hb => ?_⟩
        · have ha2 : (a : Int) < (gI M 44 2).toInt := ha
          by_cases han : a = n
          · subst han
            refine ⟨hA, Or.inr ?_⟩
            simp [gI_sI]; omega
          · have := h5 a ha2
            simp [gI_sI, han]
            exact this
        · have ha2 : (gI M 44 2).toInt ≤ (a : Int) := ha
          have han : a ≠ n := by omega
          have := h6 a ha2 hb
          simp [gI_sI, han]; exact this
    · rw [hcl] at d1
      refine ⟨_, rfl, t_X11_back_34 ⟨_, rfl, ?_⟩⟩
      have hz : ¬ gI M 91 n = 0 := by
        rcases hB with hB | hB
        · exact absurd hB.1 d1
        · rw [hB.2.2.2]; decide
      exact en_X13_back (t_X13_back_0 (fun _ _ => hin) (fun d2 => absurd d2 hi) (fun _ _ d3 => absurd (by rw [hcl] at d3; exact d3) hz) (fun _ _ _ => ⟨rfl, Fr.rf, h⟩) (fun _ d3 => absurd d3 hd))
end Back
/-- those who stand there -/
def RRing (M : Mem) : Prop := gI M 0 11 = gI M 54 23 ∧ (1 ≤ (gI M 0 11).toInt ∧ (gI M 0 11).toInt ≤ 12) ∧ ∀ a : Nat, a < 12 → gI M 52 a = gI M 67 a ∧ (gI M 52 a = 0 ∨ gI M 52 a = 1)
theorem ring0 {M : Mem} {x : Int32} : v_X11_isRinger M x = 0 ↔ (x.toInt < 0 ∨ (gI M 0 11).toInt ≤ x.toInt) := by
  unfold v_X11_isRinger
  simp only [i_lt, i_le]
  have := n0
  split
  · simp; omega
  · split
    · simp; omega
    · simp; omega
theorem ring0m {M : Mem} {x : Int32} : v_X13_isRinger M x = 0 ↔ (x.toInt < 0 ∨ (gI M 54 23).toInt ≤ x.toInt) := by
  unfold v_X13_isRinger
  rw [in0i, m0, l_pred]
  omega
theorem num0 {M : Mem} {x : Int32} : v_X9_hasNumber M x = 0 ↔ (x.toInt < 0 ∨ (gI M 9 4).toInt ≤ x.toInt) := by
  unfold v_X9_hasNumber
  simp only [i_lt, i_le]
  have := n0
  split
  · simp; omega
  · split
    · simp; omega
    · simp; omega
theorem num0m {M : Mem} {x : Int32} : v_X13_isStroke M x = 0 ↔ (x.toInt < 0 ∨ (gI M 54 10).toInt ≤ x.toInt) := by
  unfold v_X13_isStroke
  rw [in0i, m0, l_pred]
  omega
section Ringers
variable {l : Launch} {D : va_G} {ad : Nat → Nat} {kA : Nat → ClassId} {M : Mem} {Q : Outcome → Mem → Prop}
def sAbs (c i : Nat) : Bool := (c == 52) || (c == 67)
theorem pr_absent {x b : Int32} (hb : b = 0 ∨ b = 1) (h : RRing M) : Two l D ad kA mX11_absent mX13_absent [.int x, .int b] M (fun M2 => Fr sAbs M M2 ∧ RRing M2) := by
  obtain ⟨h1, h2, h3⟩ := id h
  refine en_X11_absent (t_X11_absent_0 (fun c1 => ?_) (fun _ => hb) (fun c1 => ?_) (fun c1 => ?_))
  · rw [ring0] at c1
    exact vin_of (by omega) (by omega)
  · rw [ring0] at c1
    obtain ⟨n, rfl, hn2, hn3⟩ := i_nat (x := x) (by omega)
    have hcl : (nI n).toNatClampNeg = n := nI_clamp (by omega)
    rw [hcl]
    have e1 : gI (sI M 52 n b) 54 23 = gI M 0 11 := h1.symm
    have e2 : gI (sI M 52 n b) 67 n = gI M 52 n := (h3 n (by omega)).1.symm
    have hr : ¬ v_X13_isRinger (sI M 52 n b) (nI n) = 0 := by rw [ring0m, e1]; exact c1
    refine ⟨_, rfl, en_X13_absent (t_X13_absent_0 (fun _ => vin_of (by omega) (by omega)) (fun _ => hb) (fun _ => ?_) (fun d => absurd d hr))⟩
    rw [hcl, e2]
    refine ⟨?_, (Fr.rf.sI rfl).sI rfl, h1, h2, fun a ha => ?_⟩
    · by_cases q : gI M 52 n = b
      · simp [q]
      · simp [q]
    · by_cases han : a = n
      · subst han
        simp [gI_sI]; exact hb
      · have := h3 a ha
        simp [gI_sI, han]; exact this
  · have hr : v_X13_isRinger M x = 0 := by rw [ring0m, ← h1]; exact ring0.mp c1
    exact ⟨_, rfl, en_X13_absent (t_X13_absent_0 (fun d => absurd hr d) (fun d => absurd hr d) (fun d => absurd hr d) (fun _ => ⟨rfl, Fr.rf, h⟩))⟩
def s52 (c i : Nat) : Bool := c == 52
def s67 (c i : Nat) : Bool := c == 67
theorem lp_ringers {x2 : Int32} {M0 : Mem} : ∀ (j i : Nat), i + j = 12 → ∀ M, Fr s52 M0 M → (∀ a, a < i → gI M 52 a = 0) →
    (∀ M1, Fr s52 M0 M1 → (∀ a, a < 12 → gI M1 52 a = 0) → Q (.returned (some (.int x2))) (sI M1 22 4 0)) → Fw l D ad kA mX11_ringers 26 [some (.ref (ad 0)), none, some (.int x2), some (.int (nI i))] [] M Q
  | 0, i, hi, M, hF, hz, K => by
    have hi : i = 12 := by omega
    subst hi
    exact t_X11_ringers_26 (fun c => absurd (show (12 : Int32) ≤ nI 12 by decide) c) (fun _ => en_X7_dropParting (t_X7_dropParting_0 ⟨rfl, t_X11_ringers_52 (K M hF hz)⟩)) (fun c => absurd (show (12 : Int32) ≤ nI 12 by decide) c)
  | j + 1, i, hi, M, hF, hz, K => by
    have hlt : ¬ (12 : Int32) ≤ nI i := by rw [i_le, i_nI (by omega), n12]; omega
    refine t_X11_ringers_26 (fun _ => vin_of (by rw [i_nI (by omega)]; omega) (by rw [i_nI (by omega)]; omega)) (fun c => absurd c hlt) (fun _ => ?_)
    rw [nI_1, nI_clamp (by omega)]
    refine lp_ringers j (i + 1) (by omega) _ (hF.sI rfl) (fun a ha => ?_) K
    by_cases han : a = i
    · subst han; exact gI_self
    · rw [gI_oi han]; exact hz a (by omega)
theorem lp_ringersM {x2 : Int32} {M0 : Mem} : ∀ (j i : Nat), i + j = 12 → ∀ M, Fr s67 M0 M → (∀ a, a < i → gI M 67 a = 0) →
    (∀ M1, Fr s67 M0 M1 → (∀ a, a < 12 → gI M1 67 a = 0) → Q (.returned (some (.int x2))) M1) → Fw l D ad kA mX13_ringers 32 [some (.ref (ad 54)), none, some (.int x2), some (.int (nI i))] [] M Q
  | 0, i, hi, M, hF, hz, K => by
    have hi : i = 12 := by omega
    subst hi
    exact t_X13_ringers_32 (fun c => absurd (show (12 : Int32) ≤ nI 12 by decide) c) (fun _ => K M hF hz) (fun c => absurd (show (12 : Int32) ≤ nI 12 by decide) c)
  | j + 1, i, hi, M, hF, hz, K => by
    have hlt : ¬ (12 : Int32) ≤ nI i := by rw [i_le, i_nI (by omega), n12]; omega
    refine t_X13_ringers_32 (fun _ => vin_of (by rw [i_nI (by omega)]; omega) (by rw [i_nI (by omega)]; omega)) (fun c => absurd c hlt) (fun _ => ?_)
    rw [nI_1, nI_clamp (by omega)]
    refine lp_ringersM j (i + 1) (by omega) _ (hF.sI rfl) (fun a ha => ?_) K
    by_cases han : a = i
    · subst han; exact gI_self
    · rw [gI_oi han]; exact hz a (by omega)
/-- ringers(): the PARTING is none then -/
def sRing (c i : Nat) : Bool := (c == 0 && i == 11) || (c == 54 && (i == 23 || i == 26)) || (c == 22 && i == 4) || (c == 52) || (c == 67)
theorem pr_ringers {x : Int32} (h : RRing M) : Two l D ad kA mX11_ringers mX13_ringers [.int x] M (fun M2 => Fr sRing M M2 ∧ RRing M2 ∧ (M2 = M ∨ (gI M2 22 4 = 0 ∧ gI M2 54 26 = 0))) := by
  have q1 := n1
  have q2 := n12
  obtain ⟨h1, h2, h3⟩ := id h
  have bad : (x.toInt < 1 ∨ 12 < x.toInt) → Cal l D ad kA mX13_ringers (.ref (ad 54) :: [.int x]) M (fun oc2 M2 => oc2 = .returned (some (.int (-2))) ∧ Fr sRing M M2 ∧ RRing M2 ∧ (M2 = M ∨ (gI M2 22 4 = 0 ∧ gI M2 54 26 = 0))) := by
    intro hb
    have w : v_X13_in x.toInt64 1 12 = 0 := by rw [in0i, m1, m12]; exact hb
    exact en_X13_ringers (t_X13_ringers_0 (fun d => absurd w d) (fun _ => ⟨rfl, Fr.rf, h, Or.inl rfl⟩))
  refine en_X11_ringers (t_X11_ringers_0 (fun c1 => ⟨_, rfl, bad ?_⟩) (fun c1 c2 => ?_) (fun c1 c2 => ⟨_, rfl, bad ?_⟩))
  · rw [i_lt] at c1; omega
  · rw [i_lt] at c1
    rw [i_le] at c2
    have w : ¬ v_X13_in x.toInt64 1 12 = 0 := by rw [in0i, m1, m12]; omega
    refine lp_ringers 12 0 rfl _ (M0 := sI M 0 11 x) Fr.rf (fun a ha => by omega) (fun M1 hF hz => ⟨_, rfl, ?_⟩)
    have e1 : gI (sI M1 22 4 0) 54 23 = gI M 0 11 := (hF.1 54 23 rfl).trans h1.symm
    refine en_X13_ringers (t_X13_ringers_0 (fun _ => ?_) (fun d => absurd d w))
    rw [e1]
    refine lp_ringersM 12 0 rfl _ (M0 := sI (sI (sI M1 22 4 0) 54 23 x) 54 26 0) Fr.rf (fun a ha => by omega) (fun M2 hF2 hz2 => ⟨rfl, ?_, ?_, Or.inr ⟨?_, ?_⟩⟩)
    · have a1 : Fr sRing M M1 := (Fr.tr ((Fr.rf (S := sRing) (M := M)).sI (c := 0) (i := 11) (v := x) rfl) (hF.mono (fun c i q => by simp [sRing] at q; simp [s52]; omega)))
      exact (((a1.sI (c := 22) (i := 4) (v := 0) rfl).sI (c := 54) (i := 23) (v := x) rfl).sI (c := 54) (i := 26) (v := 0) rfl).tr (hF2.mono (fun c i q => by simp [sRing] at q; simp [s67]; omega))
    · have b1 : gI M2 0 11 = x := (hF2.1 0 11 rfl).trans ((hF.1 0 11 rfl).trans gI_self)
      have b2 : gI M2 54 23 = x := hF2.1 54 23 rfl
      refine ⟨b1.trans b2.symm, by rw [b1]; omega, fun a ha => ?_⟩
      have b3 : gI M2 52 a = 0 := (hF2.1 52 a rfl).trans (hz a ha)
      exact ⟨b3.trans (hz2 a ha).symm, Or.inl b3⟩
    · exact hF2.1 22 4 rfl
    · exact hF2.1 54 26 rfl
  · rw [i_le] at c2; omega
end Ringers
