/-! laid, and stroke with the ends -/
/-- the end of a STROKE's sound, over the model's rows -/
def enS (beat bell : Nat → Int32) (b e : Int32) : Nat → Nat → Int32
  | 0, _ => e
  | j + 1, i => if bell i = b then imin e (beat i) else enS beat bell b e j (i + 1)
def endS (M : Mem) (a : Nat) : Int32 := enS (gI M 56) (gI M 57) (gI M 57 a) (gI M 56 a + gI M 58 a) ((gI M 54 10).toInt.toNat - (a + 1)) (a + 1)
def REnds (M : Mem) : Prop := ∀ a : Nat, (a : Int) < (gI M 9 4).toInt → gI M 33 a = endS M a
section Laid
variable {l : Launch} {D : va_G} {ad : Nat → Nat} {kA : Nat → ClassId} {M : Mem} {Q : Outcome → Mem → Prop}
theorem pr_laid {x y : Int32} (h : RLaid M) (hs : RScore M) : Two l D ad kA mX11_laid mX13_laid [.int x, .int y] M (fun M2 => M2 = M) := by
  obtain ⟨s1, s2, -, -⟩ := hs
  have m2 : (2 : Int64).toInt = 2 := by decide
  have n2 : (2 : Int32).toInt = 2 := by decide
  have q0 := n0
  have q1 := n1
  have inx : ¬ v_X9_hasNumber M x = 0 → vp_in x 160 := fun c => by rw [num0] at c; exact vin_of (by omega) (by omega)
  have inm : ¬ v_X13_isStroke M x = 0 → vp_in x 160 := fun c => by rw [num0m, ← s1] at c; exact vin_of (by omega) (by omega)
  have pr : ¬ gI M 54 52 = 0 → ¬ v_X13_isStroke M x = 0 → ¬ gI M 82 x.toNatClampNeg = (-1) → vp_in (gI M 82 x.toNatClampNeg) 160 := by
    intro c1 c2 c3
    rw [num0m, ← s1] at c2
    have hx := i_clamp (x := x) (by omega)
    rcases (h.2 (by rw [h.1]; exact c1)).2 x.toNatClampNeg (by omega) with z | z
    · exact absurd z.1 c3
    · exact vin_of z.1.1 z.1.2
  refine ct_X11_laid ⟨fun _ c _ => inx c, fun _ c _ _ => inx c, fun _ c _ _ _ => inx c⟩ ⟨_, rfl, ct_X13_laid ⟨fun _ c _ => inm c, fun c1 c2 _ c4 _ _ => pr c1 c2 c4, fun c1 c2 _ c4 _ _ => pr c1 c2 c4⟩ ⟨?_, rfl⟩⟩
  unfold v_X11_laid v_X13_laid
  rw [← h.1]
  by_cases a1 : gI M 35 4 = 0
  · rw [if_pos a1, if_pos a1]
  rw [if_neg a1, if_neg a1]
  by_cases a2 : v_X9_hasNumber M x = 0
  · have b2 : v_X13_isStroke M x = 0 := by rw [num0m, ← s1]; exact num0.mp a2
    rw [if_pos a2, if_pos b2]
  have b2 : ¬ v_X13_isStroke M x = 0 := by rw [num0m, ← s1]; exact fun z => a2 (num0.mpr z)
  rw [if_neg a2, if_neg b2]
  rw [num0] at a2
  have hx := i_clamp (x := x) (by omega)
  have z := (h.2 a1).2 x.toNatClampNeg (by omega)
  by_cases c0 : y = 0
  · have w : ¬ v_X13_in y.toInt64 0 2 = 0 := by rw [in0i, m0, m2, c0]; omega
    have w2 : ¬ y = 2 := by rw [c0]; decide
    rcases z with z | z
    · simp only [if_neg w, if_pos c0, if_pos z.1, if_pos z.2.1, if_neg w2]
    · have : ¬ gI M 82 x.toNatClampNeg = (-1) := fun e => by have := z.1.1; rw [e, nm1] at this; omega
      simp only [if_neg w, if_neg this, if_neg z.2.1, if_pos c0]
  · by_cases c1 : y = 1
    · have w : ¬ v_X13_in y.toInt64 0 2 = 0 := by rw [in0i, m0, m2, c1]; omega
      have w2 : ¬ y = 2 := by rw [c1]; decide
      rcases z with z | z
      · simp only [if_neg w, if_neg c0, if_pos c1, if_pos z.1, if_neg w2, z.2.2]
      · have : ¬ gI M 82 x.toNatClampNeg = (-1) := fun e => by have := z.1.1; rw [e, nm1] at this; omega
        simp only [if_neg w, if_neg this, if_neg c0, if_pos c1, z.2.2.2]
    · by_cases c2 : y = 2
      · have w : ¬ v_X13_in y.toInt64 0 2 = 0 := by rw [in0i, m0, m2, c2]; omega
        rcases z with z | z
        · simp only [if_neg w, if_neg c0, if_neg c1, if_pos c2, if_pos z.1, z.2.1]
        · have : ¬ gI M 82 x.toNatClampNeg = (-1) := fun e => by have := z.1.1; rw [e, nm1] at this; omega
          simp only [if_neg w, if_neg this, if_neg c0, if_neg c1, if_pos c2, z.2.2.1]
      · have w : v_X13_in y.toInt64 0 2 = 0 := by
          rw [i_eq] at c0 c1 c2
          rw [in0i, m0, m2]; omega
        simp only [if_pos w, if_neg c0, if_neg c1, if_neg c2]
theorem lp_endOf {x1 e : Int32} (hs : 0 ≤ (gI M 54 10).toInt ∧ (gI M 54 10).toInt ≤ 160) (hx : vp_in x1 160) : ∀ (j i : Nat), (i : Int) + j = (gI M 54 10).toInt → Q (.returned (some (.int (enS (gI M 56) (gI M 57) (gI M 57 x1.toNatClampNeg) e j i)))) M →
    Fw l D ad kA mX13_endOf 18 [some (.ref (ad 54)), some (.int x1), some (.int e), some (.int (nI i))] [] M Q := by
  intro j
  induction j with
  | zero =>
    intro i hi K
    have hle : gI M 54 10 ≤ nI i := by rw [i_le, i_nI (by omega)]; omega
    exact t_X13_endOf_18 (fun q => absurd hle q) (fun q => absurd hle q) (fun _ => K) (fun q => absurd hle q) (fun q => absurd hle q)
  | succ j ih =>
    intro i hi K
    have hnle : ¬ gI M 54 10 ≤ nI i := by rw [i_le, i_nI (by omega)]; omega
    have hcl : (nI i).toNatClampNeg = i := nI_clamp (by omega)
    unfold enS at K
    refine t_X13_endOf_18 (fun _ => vin_of (by rw [i_nI (by omega)]; omega) (by rw [i_nI (by omega)]; omega)) (fun _ => hx) (fun q => absurd q hnle) (fun _ q => ?_) (fun _ q => ?_)
    · rw [hcl] at q
      rw [if_neg q] at K
      rw [nI_1]
      exact ih (i + 1) (by omega) K
    · rw [hcl] at q ⊢
      rw [if_pos q] at K
      exact K
theorem ct_endOf {a : Nat} (hs : 0 ≤ (gI M 54 10).toInt ∧ (gI M 54 10).toInt ≤ 160) (ha : (a : Int) < (gI M 54 10).toInt) (K : Q (.returned (some (.int (endS M a)))) M) : Cal l D ad kA mX13_endOf [.ref (ad 54), .int (nI a)] M Q := by
  have hin : vp_in (nI a) 160 := vin_of (by rw [i_nI (by omega)]; omega) (by rw [i_nI (by omega)]; omega)
  have hcl : (nI a).toNatClampNeg = a := nI_clamp (by omega)
  refine en_X13_endOf (t_X13_endOf_0 hin ?_)
  rw [nI_1, hcl]
  refine lp_endOf hs hin ((gI M 54 10).toInt.toNat - (a + 1)) (a + 1) (by omega) ?_
  rw [hcl]
  exact K
theorem pr_stroke {x y : Int32} (h : RScore M) (he : REnds M) : Two l D ad kA mX11_stroke mX13_stroke [.int x, .int y] M (fun M2 => M2 = M) := by
  obtain ⟨s1, s2, s3, -⟩ := h
  have inx : ¬ v_X9_hasNumber M x = 0 → vp_in x 160 := fun c => by rw [num0] at c; exact vin_of (by omega) (by omega)
  refine ct_X11_stroke ⟨fun c _ => inx c, fun c _ _ => inx c, fun c _ _ _ => inx c, fun c _ _ _ _ => inx c, fun c _ _ _ _ _ => inx c⟩ ⟨_, rfl, ?_⟩
  unfold v_X11_stroke
  by_cases a : v_X9_hasNumber M x = 0
  · have b : v_X13_isStroke M x = 0 := by rw [num0m, ← s1]; exact num0.mp a
    rw [if_pos a]
    exact en_X13_stroke (t_X13_stroke_0 (fun c => absurd b c) (fun c => absurd b c) (fun c => absurd b c) (fun c => absurd b c) (fun c => absurd b c) (fun c => absurd b c) (fun c => absurd b c) (fun c => absurd b c) (fun c => absurd b c) (fun c => absurd b c) (fun _ => ⟨rfl, rfl⟩))
  have b : ¬ v_X13_isStroke M x = 0 := by rw [num0m, ← s1]; exact fun z => a (num0.mpr z)
  have hi := inx a
  rw [if_neg a]
  rw [num0] at a
  obtain ⟨n, rfl, hn2, hn3⟩ := i_nat (x := x) (by omega)
  have hcl : (nI n).toNatClampNeg = n := nI_clamp (by omega)
  obtain ⟨⟨e0, e1, e2, e3⟩, -⟩ := s3 n (by omega)
  have e4 := he n (by omega)
  rw [hcl]
  refine en_X13_stroke (t_X13_stroke_0 (fun _ _ => hi) (fun _ _ _ => hi) (fun _ _ _ _ => hi) (fun _ _ _ _ _ => hi) (fun _ c => ?_) (fun _ c0 c => ?_) (fun _ c0 c1 c => ?_) (fun _ c0 c1 c2 c => ?_) (fun _ c0 c1 c2 c3 c => ?_) (fun _ c0 c1 c2 c3 c => ?_) (fun q => absurd q b))
  · rw [if_pos c, hcl, e0]; exact ⟨rfl, rfl⟩
  · rw [if_neg c0, if_pos c, hcl, e1]; exact ⟨rfl, rfl⟩
  · rw [if_neg c0, if_neg c1, if_pos c, hcl, e2]; exact ⟨rfl, rfl⟩
  · rw [if_neg c0, if_neg c1, if_neg c2, if_pos c, hcl, e3]; exact ⟨rfl, rfl⟩
  · rw [if_neg c0, if_neg c1, if_neg c2, if_neg c3, if_pos c, e4]
    exact ct_endOf (by rw [← s1]; exact s2) (by rw [← s1]; omega) ⟨_, rfl, t_X13_stroke_77 ⟨rfl, rfl⟩⟩
  · rw [if_neg c0, if_neg c1, if_neg c2, if_neg c3, if_neg c]; exact ⟨rfl, rfl⟩
end Laid
