/-! THERE: class and model -/
/-- the AWAY a keeps the BELL away on that day, as KNOWN then -/
def hit (M : Mem) (b d k : Int32) (a : Nat) : Prop := gI M 45 a = b ∧ ((gI M 46 a).toInt ≤ d.toInt ∧ d.toInt ≤ (gI M 47 a).toInt) ∧ (gI M 48 a).toInt ≤ k.toInt ∧ ¬ (¬ gI M 49 a = (-1) ∧ (gI M 50 a).toInt ≤ k.toInt ∧ (gI M 49 a).toInt ≤ d.toInt)
def noHit (M : Mem) (b d k : Int32) : Nat → Nat → Prop
  | 0, _ => True
  | j + 1, i => ¬ hit M b d k i ∧ noHit M b d k j (i + 1)
def thr (M : Mem) (b d k : Int32) : Prop := noHit M b d k (gI M 44 2).toInt.toNat 0
section There
variable {l : Launch} {D : va_G} {ad : Nat → Nat} {kA : Nat → ClassId} {M : Mem} {Q : Outcome → Mem → Prop}
theorem lp_lies {b d k : Int32} (h : RDays M) : ∀ (j i : Nat) (z : Int32), (i : Int) + j = (gI M 44 2).toInt → (z = 0 ∨ z = 1) →
    (z = 0 → Q (.returned (some (.int 0))) M) → (z = 1 → noHit M b d k j i → Q (.returned (some (.int 1))) M) → (z = 1 → ¬ noHit M b d k j i → Q (.returned (some (.int 0))) M) →
    Fw l D ad kA mX2_lies 6 [some (.ref (ad 44)), some (.int b), some (.int d), some (.int k), some (.int z), some (.int (nI i)), none] [] M Q := by
  obtain ⟨-, -, -, h4, -, -⟩ := h
  have n10 : ¬ (1 : Int32) = 0 := by decide
  have e01 : ¬ (0 : Int32) = 1 := by decide
  intro j
  induction j with
  | zero =>
    intro i z hi hz K0 K1 K2
    have hle : gI M 44 2 ≤ nI i := by rw [i_le, i_nI (by omega)]; omega
    refine t_X2_lies_6 (fun _ => hz) (fun _ _ => hz) (fun c => absurd hle c) (fun c => absurd hle c) (fun _ => ?_) (fun c => absurd hle c) (fun c => absurd hle c)
    rcases hz with rfl | rfl
    · exact K0 rfl
    · exact K1 rfl trivial
  | succ j ih =>
    intro i z hi hz K0 K1 K2
    have hnle : ¬ gI M 44 2 ≤ nI i := by rw [i_le, i_nI (by omega)]; omega
    have hin : vp_in (nI i) 60 := vin_of (by rw [i_nI (by omega)]; omega) (by rw [i_nI (by omega)]; omega)
    have hcl : (nI i).toNatClampNeg = i := nI_clamp (by omega)
    refine t_X2_lies_6 (fun c => absurd c hnle) (fun _ _ => hz) (fun _ _ => hin) (fun _ _ _ _ => hin) (fun c => absurd c hnle) (fun _ c => by have := K0 c; rw [c]; exact this) (fun _ c => ?_)
    have hz1 : z = 1 := by rcases hz with q | q; exact absurd q c; exact q
    rw [hcl, nI_1]
    -- the new value
    have val : (if (if gI M 45 i = b then if d < gI M 46 i then 0 else if gI M 47 i < d then 0 else 1 else 0 : Int32) = 0 then 1 else if k < gI M 48 i then 1 else if v_X2_isBackBy M (nI i) d k = 0 then (0 : Int32) else 1) = 1 ∧ ¬ hit M b d k i ∨ (if (if gI M 45 i = b then if d < gI M 46 i then 0 else if gI M 47 i < d then 0 else 1 else 0 : Int32) = 0 then 1 else if k < gI M 48 i then 1 else if v_X2_isBackBy M (nI i) d k = 0 then (0 : Int32) else 1) = 0 ∧ hit M b d k i := by
      have vb : v_X2_isBackBy M (nI i) d k = 0 ↔ ¬ (¬ gI M 49 i = (-1) ∧ (gI M 50 i).toInt ≤ k.toInt ∧ (gI M 49 i).toInt ≤ d.toInt) := by
        unfold v_X2_isBackBy
        rw [hcl]
        by_cases q1 : gI M 49 i = (-1)
        · rw [if_pos q1]; simp [q1]
        · rw [if_neg q1]
          simp only [i_lt]
          split
          · simp; omega
          · split
            · simp; omega
            · simp only [n10, false_iff]
              intro q
              exact q ⟨q1, by omega, by omega⟩
      unfold hit
      by_cases q1 : gI M 45 i = b
      · rw [if_pos q1]
        by_cases q2 : d < gI M 46 i
        · rw [if_pos q2, if_pos rfl]
          rw [i_lt] at q2
          exact Or.inl ⟨rfl, fun z => by omega⟩
        · rw [if_neg q2]
          rw [i_lt] at q2
          by_cases q3 : gI M 47 i < d
          · rw [if_pos q3, if_pos rfl]
            rw [i_lt] at q3
            exact Or.inl ⟨rfl, fun z => by omega⟩
          · rw [if_neg q3, if_neg n10]
            rw [i_lt] at q3
            by_cases q4 : k < gI M 48 i
            · rw [if_pos q4]
              rw [i_lt] at q4
              exact Or.inl ⟨rfl, fun z => by omega⟩
            · rw [if_neg q4]
              rw [i_lt] at q4
              by_cases q5 : v_X2_isBackBy M (nI i) d k = 0
              · rw [if_pos q5]
                exact Or.inr ⟨rfl, q1, by omega, by omega, vb.mp q5⟩
              · rw [if_neg q5]
                exact Or.inl ⟨rfl, fun z => q5 (vb.mpr z.2.2.2)⟩
      · rw [if_neg q1, if_pos rfl]
        exact Or.inl ⟨rfl, fun z => q1 z.1⟩
    rcases val with ⟨v1, v2⟩ | ⟨v1, v2⟩
    · rw [v1]
      exact ih (i + 1) 1 (by omega) (Or.inr rfl) (fun q => absurd q n10) (fun _ q => K1 hz1 ⟨v2, q⟩) (fun _ q => K2 hz1 (fun r => q r.2))
    · rw [v1]
      exact ih (i + 1) 0 (by omega) (Or.inl rfl) (fun _ => K2 hz1 (fun r => r.1 v2)) (fun q => absurd q e01) (fun q => absurd q e01)
theorem ct_lies {b d k : Int32} (h : RDays M) (K1 : thr M b d k → Q (.returned (some (.int 1))) M) (K0 : ¬ thr M b d k → Q (.returned (some (.int 0))) M) : Cal l D ad kA mX2_lies [.ref (ad 44), .int b, .int d, .int k] M Q := by
  have h4 := h.2.2.2.1
  exact en_X2_lies (t_X2_lies_0 (lp_lies h _ 0 1 (by omega) (Or.inr rfl) (fun q => absurd q (by decide)) (fun _ q => K1 q) (fun _ q => K0 q)))
theorem lp_isThere {b d k : Int32} (h : RDays M) : ∀ (j i : Nat), (i : Int) + j = (gI M 44 2).toInt →
    (noHit M b d k j i → Q (.returned (some (.int 1))) M) → (¬ noHit M b d k j i → Q (.returned (some (.int 0))) M) →
    Fw l D ad kA mX13_isThere 17 [some (.ref (ad 54)), some (.int b), some (.int d), some (.int k), some (.int (nI i))] [] M Q := by
  obtain ⟨-, -, h3, h4, h5, -⟩ := h
  intro j
  induction j with
  | zero =>
    intro i hi K1 K0
    have hle : gI M 54 54 ≤ nI i := by rw [← h3, i_le, i_nI (by omega)]; omega
    exact t_X13_isThere_17 (fun c => absurd hle c) (fun _ => K1 trivial) (fun c => absurd hle c) (fun c => absurd hle c) (fun c => absurd hle c) (fun c => absurd hle c) (fun c => absurd hle c) (fun c => absurd hle c) (fun c => absurd hle c)
  | succ j ih =>
    intro i hi K1 K0
    have hnle : ¬ gI M 54 54 ≤ nI i := by rw [← h3, i_le, i_nI (by omega)]; omega
    have hin : vp_in (nI i) 60 := vin_of (by rw [i_nI (by omega)]; omega) (by rw [i_nI (by omega)]; omega)
    have hcl : (nI i).toNatClampNeg = i := nI_clamp (by omega)
    obtain ⟨⟨a1, a2, a3, a4⟩, a5⟩ := h5 i (by omega)
    have go : ¬ hit M b d k i → Fw l D ad kA mX13_isThere 17 [some (.ref (ad 54)), some (.int b), some (.int d), some (.int k), some (.int (nI i + 1))] [] M Q := by
      intro hn
      rw [nI_1]
      exact ih (i + 1) (by omega) (fun q => K1 ⟨hn, q⟩) (fun q => K0 (fun r => q r.2))
    have no : hit M b d k i → Q (.returned (some (.int 0))) M := fun hh => K0 (fun r => r.1 hh)
    refine t_X13_isThere_17 (fun _ => hin) (fun c => absurd c hnle) (fun _ c1 => go ?_) (fun _ c1 c2 => go ?_) (fun _ c1 c2 c3 c4 => no ?_) (fun _ c1 c2 c3 c4 c5 => no ?_) (fun _ c1 c2 c3 c4 c5 c6 => go ?_) (fun _ c1 c2 c3 c4 c5 c6 => no ?_) (fun _ c1 c2 c3 => go ?_)
    all_goals (rw [hcl] at *)
    · rw [← a1] at c1
      exact fun z => c1 z.1
    · rw [← a4, i_lt] at c2
      exact fun z => by have := z.2.2.1; omega
    · rw [← a1] at c1
      rw [← a4, i_lt] at c2
      rw [in0i, ← a2, ← a3, Int32.toInt_toInt64, Int32.toInt_toInt64] at c3
      rcases a5 with q | q
      · exact ⟨c1, by omega, by omega, fun z => z.1 q.1⟩
      · exact absurd c4 (by rw [q.2.2.2]; decide)
    · rw [← a1] at c1
      rw [← a4, i_lt] at c2
      rw [in0i, ← a2, ← a3, Int32.toInt_toInt64, Int32.toInt_toInt64] at c3
      rcases a5 with q | q
      · exact absurd q.2 c4
      · rw [← q.2.2.1, i_lt] at c5
        exact ⟨c1, by omega, by omega, fun z => by have := z.2.1; omega⟩
    · rcases a5 with q | q
      · exact absurd q.2 c4
      · rw [← q.2.2.1, i_lt] at c5
        rw [← q.1, i_le] at c6
        refine fun z => z.2.2.2 ⟨fun e => ?_, by omega, c6⟩
        have := q.2.1
        rw [e, nm1] at this
        omega
    · rw [← a1] at c1
      rw [← a4, i_lt] at c2
      rw [in0i, ← a2, ← a3, Int32.toInt_toInt64, Int32.toInt_toInt64] at c3
      rcases a5 with q | q
      · exact absurd q.2 c4
      · rw [← q.1, i_le] at c6
        exact ⟨c1, by omega, by omega, fun z => c6 z.2.2⟩
    · rw [in0i, ← a2, ← a3, Int32.toInt_toInt64, Int32.toInt_toInt64] at c3
      exact fun z => by have := z.2.1; omega
theorem ct_isThere {b d k : Int32} (h : RDays M) (K1 : (0 ≤ b.toInt ∧ b.toInt ≤ 47) → thr M b d k → Q (.returned (some (.int 1))) M) (K0 : ¬ ((0 ≤ b.toInt ∧ b.toInt ≤ 47) ∧ thr M b d k) → Q (.returned (some (.int 0))) M) : Cal l D ad kA mX13_isThere [.ref (ad 54), .int b, .int d, .int k] M Q := by
  have h4 := h.2.2.2.1
  refine en_X13_isThere (t_X13_isThere_0 (fun c => ?_) (fun c => K0 (fun z => ?_)))
  · rw [in0i, m0, m47] at c
    exact lp_isThere h _ 0 (by omega) (fun q => K1 (by omega) q) (fun q => K0 (fun z => q z.2))
  · rw [in0i, m0, m47] at c
    omega
theorem pr_there {x y z : Int32} (h : RDays M) : Two l D ad kA mX11_there mX13_there [.int x, .int y, .int z] M (fun M2 => M2 = M) := by
  have bad : ((x.toInt < 0 ∨ 47 < x.toInt) ∨ (y.toInt < 0 ∨ 999 < y.toInt) ∨ (z.toInt < 0 ∨ 999 < z.toInt)) → Cal l D ad kA mX13_there (.ref (ad 54) :: [.int x, .int y, .int z]) M (fun oc2 M2 => oc2 = .returned (some (.int (-2))) ∧ M2 = M) := by
    intro hb
    have w : ¬ ((¬ v_X13_in x.toInt64 0 47 = 0) ∧ (¬ v_X13_isDay y = 0) ∧ (¬ v_X13_isDay z = 0)) := by
      rw [in0i, day0m, day0m, m0, m47]
      omega
    exact en_X13_there (t_X13_there_0 (fun _ => ⟨rfl, rfl⟩) (fun _ _ => ⟨rfl, rfl⟩) (fun a b c => absurd ⟨a, b, c⟩ w) (fun _ _ _ => ⟨rfl, rfl⟩))
  refine en_X11_there (t_X11_there_0 (fun c1 => ⟨_, rfl, bad (Or.inl (bell0.mp c1))⟩) (fun c1 c2 => ⟨_, rfl, bad (Or.inr (Or.inl (day0.mp c2)))⟩) (fun c1 c2 c3 => ?_) (fun c1 c2 c3 => ⟨_, rfl, bad (Or.inr (Or.inr (day0.mp c3)))⟩))
  rw [bell0] at c1
  rw [day0] at c2 c3
  have d1 : ¬ v_X13_in x.toInt64 0 47 = 0 := by rw [in0i, m0, m47]; omega
  have d2 : ¬ v_X13_isDay y = 0 := by rw [day0m]; omega
  have d3 : ¬ v_X13_isDay z = 0 := by rw [day0m]; omega
  have mod : ∀ r : Int32, (thr M x y z → r = 1) → (¬ thr M x y z → r = 0) → Cal l D ad kA mX13_there (.ref (ad 54) :: [.int x, .int y, .int z]) M (fun oc2 M2 => oc2 = .returned (some (.int r)) ∧ M2 = M) := by
    intro r r1 r0
    refine en_X13_there (t_X13_there_0 (fun q => absurd q d1) (fun _ q => absurd q d2) (fun _ _ _ => ?_) (fun _ _ q => absurd q d3))
    exact ct_isThere h (fun _ t => ⟨_, rfl, t_X13_there_38 ⟨by rw [r1 t]; rfl, rfl⟩⟩) (fun t => ⟨_, rfl, t_X13_there_38 ⟨by rw [r0 (fun q => t ⟨by omega, q⟩)]; rfl, rfl⟩⟩)
  exact ct_lies h (fun t => ⟨_, rfl, t_X11_there_34 ⟨_, rfl, mod _ (fun _ => rfl) (fun q => absurd t q)⟩⟩) (fun t => ⟨_, rfl, t_X11_there_34 ⟨_, rfl, mod _ (fun q => absurd q t) (fun _ => rfl)⟩⟩)
end There
