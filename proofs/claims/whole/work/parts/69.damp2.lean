/-! damp: both -/
section Damp2
variable {l : Launch} {D : va_G} {ad : Nat → Nat} {kA : Nat → ClassId} {M : Mem} {Q : Outcome → Mem → Prop}
theorem dmp_rng (hs : RScore M) {a : Nat} (ha : (a : Int) < (gI M 9 4).toInt) : 1 ≤ (dmp M a).toInt ∧ (dmp M a).toInt ≤ 16 := by
  obtain ⟨s1, s2, s3, s4⟩ := id hs
  obtain ⟨⟨e0, e1, e2, e3⟩, d1, d2, d3, d4⟩ := s3 a ha
  unfold dmp
  rcases dl_cases (p := dpB M a) (f := fun i => gI M 56 i - gI M 56 a) (e := gI M 58 a) ((gI M 54 10).toInt.toNat - (a + 1)) (a + 1) with z | ⟨i, h1, h2, h3, h4⟩
  · rw [z, ← e2]; omega
  · rw [h4]
    rw [← s1] at h2
    obtain ⟨⟨f0, -, -, -⟩, g1, -, -, -⟩ := s3 i (by omega)
    unfold dpB clB at h3
    rw [decide_eq_true_iff, decide_eq_true_iff, i_le, i_le] at h3
    have hen : (endS M a).toInt ≤ (gI M 56 a).toInt + (gI M 58 a).toInt := by
      unfold endS
      have : (gI M 56 a + gI M 58 a).toInt = (gI M 56 a).toInt + (gI M 58 a).toInt := by rw [i_add] <;> rw [← e0, ← e2] <;> omega
      rw [enS_nx (by rw [this, ← e0, ← e2]; omega), i_min]
      rw [this]
      split <;> omega
    rw [← e0, ← e2] at hen
    rw [← f0, ← e0] at h3
    rw [i_sub] <;> rw [← f0, ← e0] <;> omega
theorem lp_ld6 {M0 : Mem} (hs : RScore M0) (he : REnds M0) (hf : Fr s12 M0 M) {a : Nat} (ha : (a : Int) < (gI M0 9 4).toInt) (h12 : gI M 12 a = gI M0 12 a) : ∀ (j i : Nat), (i : Int) + j = (gI M0 9 4).toInt → a < i →
    Q (.returned (some (.int (dl (dpB M0 a) (fun i => gI M0 56 i - gI M0 56 a) (gI M0 58 a) j i)))) M →
    Fw l D ad kA mX8_lengthDamped 6 [some (.ref (ad 32)), some (.int (nI a)), some (.int (-1)), some (.int (nI i))] [] M Q := by
  obtain ⟨s1, s2, s3, s4⟩ := id hs
  have hcla : (nI a).toNatClampNeg = a := nI_clamp (by omega)
  have f9 : gI M 9 4 = gI M0 9 4 := hf.1 9 4 rfl
  obtain ⟨⟨e0, e1, e2, -⟩, d1, -, -, -⟩ := s3 a ha
  intro j
  induction j with
  | zero =>
    intro i hi hai K
    have hle : gI M 9 4 ≤ nI i := by rw [f9, i_le, i_nI (by omega)]; omega
    refine t_X8_lengthDamped_6 (fun _ _ => ix (by omega)) (fun q => absurd hle q) (fun q => absurd hle q) (fun q => absurd hle q) (fun _ => ?_) (fun q => absurd hle q) (fun q => absurd hle q) (fun q => absurd hle q)
    rw [if_pos rfl, hcla, h12, e2]
    exact K
  | succ j ih =>
    intro i hi hai K
    have hnle : ¬ gI M 9 4 ≤ nI i := by rw [f9, i_le, i_nI (by omega)]; omega
    have hcl : (nI i).toNatClampNeg = i := nI_clamp (by omega)
    have hend := he a ha
    obtain ⟨⟨f0, f1, -, -⟩, d2, -, -, -⟩ := s3 i (by omega)
    have hv : v_X8_areNext M (nI a) (nI i) = if iabs (gI M0 57 a - gI M0 57 i) = 1 then 1 else 0 := by
      unfold v_X8_areNext
      rw [hcla, hcl, hf.1 11 a rfl, hf.1 11 i rfl, e1, f1]
    have x33 : gI M 33 a = endS M0 a := by rw [hf.1 33 a rfl]; exact hend
    have x10 : gI M 10 i = gI M0 56 i := by rw [hf.1 10 i rfl]; exact f0
    have x10a : gI M 10 a = gI M0 56 a := by rw [hf.1 10 a rfl]; exact e0
    refine t_X8_lengthDamped_6 (fun _ _ => ix (by omega)) (fun _ => ix (by omega)) (fun _ => ix (by omega)) (fun _ _ _ => ⟨ix (by omega), ix (by omega)⟩) (fun q => absurd q hnle) (fun _ c => ?_) (fun _ _ c => absurd rfl c) (fun _ c _ => ?_)
    · rw [hcla, hcl, x33, x10] at c
      rw [if_pos rfl, hcla, h12, e2]
      rw [dl_none] at K
      · exact K
      · intro b hb1 hb2
        unfold dpB clB
        rw [decide_eq_false_iff_not, decide_eq_true_iff]
        intro z
        apply z.1.2
        obtain ⟨⟨g0, -, -, -⟩, -⟩ := s3 b (by omega)
        have := s4 i b hb1 (by omega)
        rw [i_le] at c ⊢
        rw [← g0]
        rw [← f0] at c
        omega
    · rw [hcla, hcl, x33, x10] at c
      rw [hcla, hcl, x10, x10a, hv, nI_1]
      unfold dl at K
      by_cases q : dpB M0 a i = true
      · rw [if_pos q] at K
        unfold dpB clB at q
        rw [decide_eq_true_iff, decide_eq_true_iff] at q
        rw [if_pos q.1.1, if_neg (by decide), if_neg q.2]
        have hne : ¬ gI M0 56 i - gI M0 56 a = (-1) := by
          have := q.2
          rw [i_le, ← f0, ← e0] at this
          rw [i_eq, nm1, i_sub, ← f0, ← e0] <;> (try rw [← f0, ← e0]) <;> omega
        refine t_X8_lengthDamped_6 (fun _ z => absurd z hne) (fun z => ?_) (fun _ => ix (by omega)) (fun _ _ z => absurd z hne) (fun _ => ?_) (fun _ _ => ?_) (fun _ _ _ => K) (fun _ _ z => absurd z hne)
        · rw [f9, i_le, i_nI (by omega)] at z
          exact ix (by omega)
        · rw [if_neg hne]; exact K
        · rw [if_neg hne]; exact K
      · rw [if_neg q] at K
        have : (if (if iabs (gI M0 57 a - gI M0 57 i) = 1 then (1 : Int32) else 0) = 0 then (-1 : Int32) else if gI M0 56 i ≤ gI M0 56 a then (-1) else gI M0 56 i - gI M0 56 a) = (-1) := by
          by_cases q1 : iabs (gI M0 57 a - gI M0 57 i) = 1
          · rw [if_pos q1, if_neg (by decide)]
            by_cases q2 : gI M0 56 i ≤ gI M0 56 a
            · rw [if_pos q2]
            · exfalso
              apply q
              unfold dpB clB
              rw [decide_eq_true_iff, decide_eq_true_iff]
              exact ⟨⟨q1, c⟩, q2⟩
          · rw [if_neg q1, if_pos rfl]
        rw [this]
        exact ih (i + 1) (by omega) (by omega) K
theorem ct_lengthDamped {M0 : Mem} (hs : RScore M0) (he : REnds M0) (hf : Fr s12 M0 M) {a : Nat} (ha : (a : Int) < (gI M0 9 4).toInt) (h12 : gI M 12 a = gI M0 12 a) (K : Q (.returned (some (.int (dmp M0 a)))) M) : Cal l D ad kA mX8_lengthDamped [.ref (ad 32), .int (nI a)] M Q := by
  refine en_X8_lengthDamped (t_X8_lengthDamped_0 ?_)
  rw [nI_1]
  have s1 := hs.1
  exact lp_ld6 hs he hf ha h12 _ (a + 1) (by rw [s1] at ha ⊢; omega) (by omega) K
theorem lp_cd4 {M0 : Mem} (hs : RScore M0) (he : REnds M0) (s : Nat) (hss : (s : Int) = (gI M0 9 4).toInt)
    (K : ∀ M', Fr s12 M0 M' → (∀ b, b < s → gI M' 12 b = dmp M0 b) → Cal l D ad kA mX8_measure [.ref (ad 32)] M' (fun oc M2 => oc = .returned none ∧ Q (.returned (some (.int (sm (fun a => gI M0 58 a - dmp M0 a) s)))) M2)) : ∀ (j i : Nat) (M : Mem), i + j = s → Fr s12 M0 M → (∀ b, b < i → gI M 12 b = dmp M0 b) → (∀ b, i ≤ b → b < s → gI M 12 b = gI M0 12 b) →
    Fw l D ad kA mX8_cutDown 4 [some (.ref (ad 32)), some (.int (sm (fun a => gI M0 58 a - dmp M0 a) i)), some (.int (nI i)), none] [] M Q := by
  have s2 := hs.2.1
  intro j
  induction j with
  | zero =>
    intro i M hi hf h1 h2
    have f9 : gI M 9 4 = gI M0 9 4 := hf.1 9 4 rfl
    have hle : gI M 9 4 ≤ nI i := by rw [f9, i_le, i_nI (by omega)]; omega
    have : i = s := by omega
    subst this
    refine t_X8_cutDown_4 (fun _ => ?_) (fun q => absurd hle q)
    exact (K M hf h1).imp (fun oc M2 ⟨z1, z2⟩ => ⟨z1, t_X8_cutDown_55 z2⟩)
  | succ j ih =>
    intro i M hi hf h1 h2
    have f9 : gI M 9 4 = gI M0 9 4 := hf.1 9 4 rfl
    have hnle : ¬ gI M 9 4 ≤ nI i := by rw [f9, i_le, i_nI (by omega)]; omega
    have hcl : (nI i).toNatClampNeg = i := nI_clamp (by omega)
    refine t_X8_cutDown_4 (fun q => absurd q hnle) (fun _ => ct_lengthDamped hs he hf (a := i) (by omega) (h2 i (by omega) (by omega)) ⟨_, rfl, t_X8_cutDown_20 (ix (by omega)) ?_⟩)
    rw [hcl, h2 i (by omega) (by omega), (hs.2.2.1 i (by omega)).1.2.2.1, nI_1]
    refine ih (i + 1) _ (by omega) (hf.sI rfl) (fun b hb => ?_) (fun b hb1 hb2 => ?_)
    · by_cases e : b = i
      · rw [e, gI_self]
      · rw [gI_oi e]; exact h1 b (by omega)
    · rw [gI_oi (by omega)]; exact h2 b (by omega) hb2
def s62 (c i : Nat) : Bool := c == 62
theorem clB_fr {M M' : Mem} (hf : Fr s62 M M') : clB M' = clB M := by
  funext a b
  unfold clB
  have : endS M' a = endS M a := by
    unfold endS
    rw [hf.1 54 10 rfl, hf.1 57 a rfl, hf.1 56 a rfl, hf.1 58 a rfl]
    exact enS_congr _ _ (fun b _ _ => ⟨hf.1 56 b rfl, hf.1 57 b rfl⟩)
  rw [this, hf.1 57 a rfl, hf.1 57 b rfl, hf.1 56 b rfl]
theorem lp_da34 {M0 : Mem} (hs : 0 ≤ (gI M0 54 10).toInt ∧ (gI M0 54 10).toInt ≤ 160) (s : Nat) (hss : (s : Int) = (gI M0 54 10).toInt) {a : Nat} (ha : a < s)
    (K : ∀ M', Fr s62 M0 M' → gI M' 62 a = dl (dpB M0 a) (fun i => gI M0 56 i - gI M0 56 a) (gI M0 58 a) (s - (a + 1)) (a + 1) → (∀ b, b ≠ a → gI M' 62 b = gI M 62 b) → Fw l D ad kA mX13_damp 7 [some (.ref (ad 54)), some (.int (nI (a + 1))), none] [] M' Q) : ∀ (j : Nat) (M' : Mem), a + 1 + j ≤ s → Fr s62 M0 M' → gI M' 62 a = dl (dpB M0 a) (fun i => gI M0 56 i - gI M0 56 a) (gI M0 58 a) (s - (a + 1 + j)) (a + 1 + j) → (∀ b, b ≠ a → gI M' 62 b = gI M 62 b) →
    Fw l D ad kA mX13_damp 34 [some (.ref (ad 54)), some (.int (nI a)), some (.int (nI (a + j)))] [] M' Q := by
  have hcla : (nI a).toNatClampNeg = a := nI_clamp (by omega)
  intro j
  induction j with
  | zero =>
    intro M' hj hf h1 h2
    refine t_X13_damp_34 (fun _ => ?_) (fun q => absurd (by rw [i_le]; exact Int.le_refl _) q)
    rw [nI_1]
    exact K M' hf h1 h2
  | succ j ih =>
    intro M' hj hf h1 h2
    have hn : ¬ nI (a + (j + 1)) ≤ nI a := by rw [i_le, i_nI (by omega), i_nI (by omega)]; omega
    have hcl : (nI (a + (j + 1))).toNatClampNeg = a + (j + 1) := nI_clamp (by omega)
    have e2 : nI (a + (j + 1)) + (-1) = nI (a + j) := by rw [i_eq, i_add, i_nI, i_nI, nm1] <;> (try rw [i_nI]) <;> (try rw [nm1]) <;> omega
    have f10 : gI M' 54 10 = gI M0 54 10 := hf.1 54 10 rfl
    have fb : gI M' 56 (a + (j + 1)) = gI M0 56 (a + (j + 1)) := hf.1 56 _ rfl
    have fa : gI M' 56 a = gI M0 56 a := hf.1 56 _ rfl
    have hc : clB M' = clB M0 := clB_fr hf
    have es : s - (a + 1 + j) = (s - (a + 1 + (j + 1))) + 1 := by omega
    refine t_X13_damp_34 (fun q => absurd q hn) (fun _ => ct_isClash (by rw [f10]; exact hs) (by rw [f10]; omega) (by omega) ⟨_, rfl, ?_⟩)
    refine t_X13_damp_45 (fun _ => ix (by omega)) (fun _ => ix (by omega)) (fun c => ?_) (fun c1 c2 => ?_) (fun c1 c2 => ?_)
    · rw [e2]
      refine ih M' (by omega) hf ?_ h2
      rw [es]
      unfold dl
      rw [if_neg, h1]
      · rfl
      · intro z
        unfold dpB at z
        rw [decide_eq_true_iff] at z
        rw [hc, show a + (j + 1) = a + 1 + j by omega, if_pos z.1] at c
        exact absurd c (by decide)
    · rw [hcl, hcla, fb, fa] at c2
      rw [e2]
      refine ih M' (by omega) hf ?_ h2
      rw [es]
      unfold dl
      rw [if_neg, h1]
      · rfl
      · intro z
        unfold dpB at z
        rw [decide_eq_true_iff] at z
        apply z.2
        rw [show a + 1 + j = a + (j + 1) by omega]
        exact c2
    · rw [hcl, hcla, fb, fa] at c2
      rw [hcl, hcla, fb, fa, e2]
      refine ih _ (by omega) (hf.sI rfl) ?_ (fun b hb => ?_)
      · rw [gI_self, es]
        unfold dl
        have hq : clB M0 a (a + (j + 1)) = true := by
          apply Classical.byContradiction
          intro z
          rw [hc, if_neg z] at c1
          exact c1 rfl
        rw [if_pos]
        · rw [show a + 1 + j = a + (j + 1) by omega]
        · unfold dpB
          rw [decide_eq_true_iff, show a + 1 + j = a + (j + 1) by omega]
          exact ⟨hq, c2⟩
      · rw [gI_oi hb]; exact h2 b hb
theorem lp_da7 {M0 : Mem} (hs : 0 ≤ (gI M0 54 10).toInt ∧ (gI M0 54 10).toInt ≤ 160) (s : Nat) (hss : (s : Int) = (gI M0 54 10).toInt)
    (K : ∀ M', Fr s62 M0 M' → (∀ b, b < s → gI M' 62 b = dmp M0 b) → Fw l D ad kA mX13_damp 98 [some (.ref (ad 54)), some (.int 0), some (.int 0)] [] M' Q) : ∀ (j i : Nat) (M : Mem), i + j = s → Fr s62 M0 M → (∀ b, b < i → gI M 62 b = dmp M0 b) →
    Fw l D ad kA mX13_damp 7 [some (.ref (ad 54)), some (.int (nI i)), none] [] M Q := by
  have q1 := n1
  have hsn : (gI M0 54 10).toInt.toNat = s := by omega
  intro j
  induction j with
  | zero =>
    intro i M hi hf h1
    have f9 : gI M 54 10 = gI M0 54 10 := hf.1 54 10 rfl
    have hle : gI M 54 10 ≤ nI i := by rw [f9, i_le, i_nI (by omega)]; omega
    have : i = s := by omega
    subst this
    exact t_X13_damp_7 (fun q => absurd hle q) (fun _ => K M hf h1) (fun q => absurd hle q)
  | succ j ih =>
    intro i M hi hf h1
    have f9 : gI M 54 10 = gI M0 54 10 := hf.1 54 10 rfl
    have hnle : ¬ gI M 54 10 ≤ nI i := by rw [f9, i_le, i_nI (by omega)]; omega
    have hcl : (nI i).toNatClampNeg = i := nI_clamp (by omega)
    refine t_X13_damp_7 (fun _ => ix (by omega)) (fun q => absurd q hnle) (fun _ => ?_)
    have e1 : gI M 54 10 - 1 = nI (i + j) := by rw [f9, i_eq, i_sub, i_nI, q1] <;> (try rw [q1]) <;> omega
    rw [hcl, e1, hf.1 58 i rfl]
    refine lp_da34 (M := sI M 62 i (gI M0 58 i)) hs s hss (a := i) (by omega) (fun M' hf' g1 g2 => ?_) j _ (by omega) (hf.sI rfl) ?_ (fun b _ => rfl)
    · refine ih (i + 1) M' (by omega) hf' (fun b hb => ?_)
      by_cases e : b = i
      · rw [e, g1]; unfold dmp; rw [hsn]
      · rw [g2 b e, gI_oi e]; exact h1 b (by omega)
    · rw [gI_self, show s - (i + 1 + j) = 0 by omega]; rfl
def s58 (c i : Nat) : Bool := c == 58
theorem lp_da98 {M0 : Mem} (hs : 0 ≤ (gI M0 54 10).toInt ∧ (gI M0 54 10).toInt ≤ 160) (s : Nat) (hss : (s : Int) = (gI M0 54 10).toInt)
    (K : ∀ M', Fr s58 M0 M' → (∀ b, b < s → gI M' 58 b = gI M0 62 b) → Q (.returned (some (.int (sm (fun a => gI M0 58 a - gI M0 62 a) s)))) M') : ∀ (j i : Nat) (M : Mem), i + j = s → Fr s58 M0 M → (∀ b, b < i → gI M 58 b = gI M0 62 b) → (∀ b, i ≤ b → gI M 58 b = gI M0 58 b) →
    Fw l D ad kA mX13_damp 98 [some (.ref (ad 54)), some (.int (sm (fun a => gI M0 58 a - gI M0 62 a) i)), some (.int (nI i))] [] M Q := by
  intro j
  induction j with
  | zero =>
    intro i M hi hf h1 h2
    have f9 : gI M 54 10 = gI M0 54 10 := hf.1 54 10 rfl
    have hle : gI M 54 10 ≤ nI i := by rw [f9, i_le, i_nI (by omega)]; omega
    have : i = s := by omega
    subst this
    exact t_X13_damp_98 (fun q => absurd hle q) (fun _ => K M hf h1) (fun q => absurd hle q)
  | succ j ih =>
    intro i M hi hf h1 h2
    have f9 : gI M 54 10 = gI M0 54 10 := hf.1 54 10 rfl
    have hnle : ¬ gI M 54 10 ≤ nI i := by rw [f9, i_le, i_nI (by omega)]; omega
    have hcl : (nI i).toNatClampNeg = i := nI_clamp (by omega)
    refine t_X13_damp_98 (fun _ => ix (by omega)) (fun q => absurd q hnle) (fun _ => ?_)
    rw [hcl, h2 i (by omega), hf.1 62 i rfl, nI_1]
    refine ih (i + 1) _ (by omega) (hf.sI rfl) (fun b hb => ?_) (fun b hb => ?_)
    · by_cases e : b = i
      · rw [e, gI_self]
      · rw [gI_oi e]; exact h1 b (by omega)
    · rw [gI_oi (by omega)]; exact h2 b (by omega)
end Damp2
