/-! clashes, clash -/
/-- the clash of number w among those from i on, n being passed -/
def fi (q : Nat → Bool) (w : Int) : Nat → Nat → Nat → Nat × Option Nat
  | 0, _, n => (n, none)
  | j + 1, i, n => if q i = true then (if (n : Int) = w then (n, some i) else fi q w j (i + 1) (n + 1)) else fi q w j (i + 1) n
def fo (p : Nat → Nat → Bool) (w : Int) (s : Nat) : Nat → Nat → Nat → Nat × Option (Nat × Nat)
  | 0, _, n => (n, none)
  | j + 1, a, n => match fi (p a) w (s - (a + 1)) (a + 1) n with
    | (n', some b) => (n', some (a, b))
    | (n', none) => fo p w s j (a + 1) n'
theorem fi_none {q : Nat → Bool} {w : Int} : ∀ (j i n : Nat), (∀ b, i ≤ b → b < i + j → q b = false) → fi q w j i n = (n, none) := by
  intro j
  induction j with
  | zero => intro i n _; rfl
  | succ j ih =>
    intro i n h
    unfold fi
    rw [if_neg (by rw [h i (by omega) (by omega)]; decide)]
    exact ih (i + 1) n (fun b h1 h2 => h b (by omega) (by omega))
theorem fi_le {q : Nat → Bool} {w : Int} : ∀ (j i n : Nat), (fi q w j i n).1 ≤ n + j := by
  intro j
  induction j with
  | zero => intro i n; exact Nat.le_refl _
  | succ j ih =>
    intro i n
    unfold fi
    have h1 := ih (i + 1) n
    have h2 := ih (i + 1) (n + 1)
    split
    · split
      · omega
      · omega
    · omega
theorem fi_some {q : Nat → Bool} {w : Int} : ∀ (j i n b : Nat), (fi q w j i n).2 = some b → ((fi q w j i n).1 : Int) = w ∧ i ≤ b ∧ b < i + j := by
  intro j
  induction j with
  | zero => intro i n b h; cases h
  | succ j ih =>
    intro i n b h
    unfold fi at h ⊢
    split at h
    · split at h
      · rename_i c1 c2
        rw [if_pos c1, if_pos c2]
        cases h
        exact ⟨c2, by omega, by omega⟩
      · rename_i c1 c2
        rw [if_pos c1, if_neg c2]
        have := ih _ _ _ h
        exact ⟨this.1, by omega, by omega⟩
    · rename_i c1
      rw [if_neg c1]
      have := ih _ _ _ h
      exact ⟨this.1, by omega, by omega⟩
def clB (M : Mem) (a b : Nat) : Bool := decide (iabs (gI M 57 a - gI M 57 b) = 1 ∧ ¬ endS M a ≤ gI M 56 b)
section Clash
variable {l : Launch} {D : va_G} {ad : Nat → Nat} {kA : Nat → ClassId} {M : Mem} {Q : Outcome → Mem → Prop}
theorem ix {i : Nat} (h : i < 160) : vp_in (nI i) 160 := vin_of (by rw [i_nI (by omega)]; omega) (by rw [i_nI (by omega)]; omega)
theorem nI_inj {a b : Nat} (h : a < 2147483648) (h' : b < 2147483648) (e : nI a = nI b) : a = b := by
  rw [i_eq, i_nI h, i_nI h'] at e
  omega
theorem nI_ne {a : Nat} (h : a < 2147483648) : ¬ nI a = (-1) := by
  rw [i_eq, i_nI h, nm1]; omega
theorem lp_wk38 {x1 : Int32} {a : Nat} (hs : RScore M) (he : REnds M) (hf : gI M 32 2 = (-1)) (ha : (a : Int) < (gI M 9 4).toInt) : ∀ (j i n : Nat), (i : Int) + j = (gI M 9 4).toInt → a < i → n + j ≤ 100000 →
    ((fi (clB M a) x1.toInt j i n).2 = none → Fw l D ad kA mX8_walkTo 14 [some (.ref (ad 32)), some (.int x1), some (.int (nI (fi (clB M a) x1.toInt j i n).1)), some (.int (nI (a + 1))), none, none] [] M Q) →
    (∀ b, (fi (clB M a) x1.toInt j i n).2 = some b → Q (.returned (some (.int (nI (fi (clB M a) x1.toInt j i n).1)))) (sI (sI M 32 2 (nI a)) 32 3 (nI b))) →
    Fw l D ad kA mX8_walkTo 38 [some (.ref (ad 32)), some (.int x1), some (.int (nI n)), some (.int (nI a)), some (.int (nI i)), none] [] M Q := by
  obtain ⟨s1, s2, s3, s4⟩ := id hs
  have hcla : (nI a).toNatClampNeg = a := nI_clamp (by omega)
  have hna := nI_ne (a := a) (by omega)
  intro j
  induction j with
  | zero =>
    intro i n hi hai hn K1 K2
    have hle : gI M 9 4 ≤ nI i := by rw [i_le, i_nI (by omega)]; omega
    refine t_X8_walkTo_38 (fun q => absurd hle q) (fun q => absurd hle q) (fun q => absurd hle q) (fun _ => ?_) (fun q => absurd hle q) (fun q => absurd hle q) (fun q => absurd hle q) (fun q => absurd hle q) (fun q => absurd hle q)
    rw [nI_1]
    exact K1 rfl
  | succ j ih =>
    intro i n hi hai hn K1 K2
    have hnle : ¬ gI M 9 4 ≤ nI i := by rw [i_le, i_nI (by omega)]; omega
    have hcl : (nI i).toNatClampNeg = i := nI_clamp (by omega)
    have hend := he a ha
    obtain ⟨⟨e0, e1, -, -⟩, -⟩ := s3 a ha
    obtain ⟨⟨f0, f1, -, -⟩, -⟩ := s3 i (by omega)
    have hv : v_X8_areNext M (nI a) (nI i) = if iabs (gI M 57 a - gI M 57 i) = 1 then 1 else 0 := by
      unfold v_X8_areNext
      rw [hcla, hcl, e1, f1]
    refine t_X8_walkTo_38 (fun _ => ix (by omega)) (fun _ => ix (by omega)) (fun _ _ _ => ⟨ix (by omega), ix (by omega)⟩) (fun q => absurd q hnle) (fun _ c => ?_) (fun _ _ c => absurd hf c) (fun _ c _ v => ?_) (fun _ c _ v w => ?_) (fun _ c _ v w => ?_)
    · rw [hcla, hcl, hend] at c
      have hfn : fi (clB M a) x1.toInt (j + 1) i n = (n, none) := by
        refine fi_none _ _ _ (fun b hb1 hb2 => ?_)
        unfold clB
        rw [decide_eq_false_iff_not]
        intro z
        apply z.2
        obtain ⟨⟨g0, -, -, -⟩, -⟩ := s3 b (by omega)
        have := s4 i b hb1 (by omega)
        rw [i_le] at c ⊢
        rw [← g0]
        omega
      rw [hfn] at K1
      rw [nI_1]
      exact K1 rfl
    · rw [hcla, hcl, hend, f0] at c
      have hq : ¬ clB M a i = true := by
        unfold clB
        rw [decide_eq_true_iff]
        intro z
        rw [hv, if_pos z.1] at v
        exact absurd v (by decide)
      unfold fi at K1 K2
      simp only [if_neg hq] at K1 K2
      rw [nI_1]
      exact ih (i + 1) n (by omega) (by omega) (by omega) K1 K2
    · rw [hcla, hcl, hend, f0] at c
      have hq : clB M a i = true := by
        unfold clB
        rw [decide_eq_true_iff]
        refine ⟨Classical.byContradiction (fun z => v (by rw [hv, if_neg z])), c⟩
      have hw : ¬ (n : Int) = x1.toInt := by
        rw [i_eq, i_nI (by omega)] at w; exact w
      unfold fi at K1 K2
      simp only [if_pos hq, if_neg hw] at K1 K2
      rw [nI_1, nI_1]
      exact ih (i + 1) (n + 1) (by omega) (by omega) (by omega) K1 K2
    · rw [hcla, hcl, hend, f0] at c
      have hq : clB M a i = true := by
        unfold clB
        rw [decide_eq_true_iff]
        refine ⟨Classical.byContradiction (fun z => v (by rw [hv, if_neg z])), c⟩
      have hw : (n : Int) = x1.toInt := by
        rw [i_eq, i_nI (by omega)] at w; exact w
      unfold fi at K2
      simp only [if_pos hq, if_pos hw] at K2
      have K3 := K2 i rfl
      have out : Fw l D ad kA mX8_walkTo 14 [some (.ref (ad 32)), some (.int x1), some (.int (nI n)), some (.int (nI a + 1)), none, none] [] (sI (sI M 32 2 (nI a)) 32 3 (nI i)) Q :=
        t_X8_walkTo_14 (fun _ => K3) (fun _ _ => K3) (fun _ z => absurd (show nI a = (-1) from z) hna)
      exact t_X8_walkTo_38 (fun q => by
        have : ¬ gI M 9 4 ≤ nI i + 1 := q
        rw [nI_1, i_le, i_nI (by omega)] at this
        rw [nI_1]; exact ix (by omega)) (fun _ => ix (by omega)) (fun _ _ z => absurd (show nI a = (-1) from z) hna) (fun _ => out) (fun _ _ => out) (fun _ _ _ => out) (fun _ _ z => absurd (show nI a = (-1) from z) hna) (fun _ _ z => absurd (show nI a = (-1) from z) hna) (fun _ _ z => absurd (show nI a = (-1) from z) hna)
theorem lp_wk14 {x1 : Int32} (hs : RScore M) (he : REnds M) (hf : gI M 32 2 = (-1)) (s : Nat) (hss : (s : Int) = (gI M 9 4).toInt) : ∀ (j a n : Nat), a + j = s → n + 160 * j ≤ 50000 →
    ((fo (clB M) x1.toInt s j a n).2 = none → Q (.returned (some (.int (nI (fo (clB M) x1.toInt s j a n).1)))) M) →
    (∀ b c, (fo (clB M) x1.toInt s j a n).2 = some (b, c) → Q (.returned (some (.int (nI (fo (clB M) x1.toInt s j a n).1)))) (sI (sI M 32 2 (nI b)) 32 3 (nI c))) →
    Fw l D ad kA mX8_walkTo 14 [some (.ref (ad 32)), some (.int x1), some (.int (nI n)), some (.int (nI a)), none, none] [] M Q := by
  have s2 := hs.2.1
  intro j
  induction j with
  | zero =>
    intro a n hi hn K1 K2
    have hle : gI M 9 4 ≤ nI a := by rw [i_le, i_nI (by omega)]; omega
    exact t_X8_walkTo_14 (fun _ => K1 rfl) (fun q => absurd hle q) (fun q => absurd hle q)
  | succ j ih =>
    intro a n hi hn K1 K2
    have hnle : ¬ gI M 9 4 ≤ nI a := by rw [i_le, i_nI (by omega)]; omega
    refine t_X8_walkTo_14 (fun q => absurd q hnle) (fun _ q => absurd hf q) (fun _ _ => ?_)
    rw [nI_1]
    have hb := fi_le (q := clB M a) (w := x1.toInt) (s - (a + 1)) (a + 1) n
    unfold fo at K1 K2
    refine lp_wk38 hs he hf (by omega) (s - (a + 1)) (a + 1) n (by omega) (by omega) (by omega) (fun z => ?_) (fun b z => ?_)
    · generalize fi (clB M a) x1.toInt (s - (a + 1)) (a + 1) n = r at z K1 K2 hb ⊢
      obtain ⟨n', o⟩ := r
      subst z
      exact ih (a + 1) n' (by omega) (by simp only at hb; omega) K1 K2
    · generalize fi (clB M a) x1.toInt (s - (a + 1)) (a + 1) n = r at z K1 K2 hb ⊢
      obtain ⟨n', o⟩ := r
      subst z
      exact K2 a b rfl
theorem ct_walkTo {x1 : Int32} (hs : RScore M) (he : REnds M) (s : Nat) (hss : (s : Int) = (gI M 9 4).toInt)
    (K1 : (fo (clB M) x1.toInt s s 0 0).2 = none → Q (.returned (some (.int (nI (fo (clB M) x1.toInt s s 0 0).1)))) (sI (sI M 32 2 (-1)) 32 3 (-1)))
    (K2 : ∀ b c, (fo (clB M) x1.toInt s s 0 0).2 = some (b, c) → Q (.returned (some (.int (nI (fo (clB M) x1.toInt s s 0 0).1)))) (sI (sI (sI (sI M 32 2 (-1)) 32 3 (-1)) 32 2 (nI b)) 32 3 (nI c))) : Cal l D ad kA mX8_walkTo [.ref (ad 32), .int x1] M Q := by
  have s2 := hs.2.1
  refine en_X8_walkTo (t_X8_walkTo_0 ?_)
  exact lp_wk14 (M := sI (sI M 32 2 (-1)) 32 3 (-1)) hs he rfl s hss s 0 0 (by omega) (by omega) K1 K2
theorem ct_isClash {a b : Nat} (hs : 0 ≤ (gI M 54 10).toInt ∧ (gI M 54 10).toInt ≤ 160) (ha : (a : Int) < (gI M 54 10).toInt) (hb : b < 160) (K : Q (.returned (some (.int (if clB M a b = true then 1 else 0)))) M) : Cal l D ad kA mX13_isClash [.ref (ad 54), .int (nI a), .int (nI b)] M Q := by
  have hcla : (nI a).toNatClampNeg = a := nI_clamp (by omega)
  have hclb : (nI b).toNatClampNeg = b := nI_clamp (by omega)
  refine en_X13_isClash (t_X13_isClash_0 (ix (by omega)) (ix hb) (fun c => ?_) (fun c => ?_))
  · rw [hcla, hclb] at c
    have : ¬ clB M a b = true := by
      unfold clB
      rw [decide_eq_true_iff]
      exact fun z => c z.1
    rw [if_neg this] at K
    exact K
  · rw [hcla, hclb] at c
    rw [hclb]
    refine ct_endOf hs ha ⟨_, rfl, t_X13_isClash_31 ?_⟩
    by_cases z : endS M a ≤ gI M 56 b
    · rw [if_pos z]
      have : ¬ clB M a b = true := by
        unfold clB
        rw [decide_eq_true_iff]
        exact fun y => y.2 z
      rw [if_neg this] at K
      exact K
    · rw [if_neg z]
      have : clB M a b = true := by
        unfold clB
        rw [decide_eq_true_iff]
        exact ⟨c, z⟩
      rw [if_pos this] at K
      exact K
theorem lp_cs16 {a : Nat} (hs : 0 ≤ (gI M 54 10).toInt ∧ (gI M 54 10).toInt ≤ 160) (ha : (a : Int) < (gI M 54 10).toInt) : ∀ (j i n : Nat), (i : Int) + j = (gI M 54 10).toInt → n + j ≤ 100000 →
    ((fi (clB M a) (-1) j i n).2 = none → Fw l D ad kA mX13_clashes 4 [some (.ref (ad 54)), some (.int (nI (fi (clB M a) (-1) j i n).1)), some (.int (nI (a + 1))), none] [] M Q) →
    Fw l D ad kA mX13_clashes 16 [some (.ref (ad 54)), some (.int (nI n)), some (.int (nI a)), some (.int (nI i))] [] M Q := by
  intro j
  induction j with
  | zero =>
    intro i n hi hn K
    have hle : gI M 54 10 ≤ nI i := by rw [i_le, i_nI (by omega)]; omega
    refine t_X13_clashes_16 (fun _ => ?_) (fun q => absurd hle q)
    rw [nI_1]
    exact K rfl
  | succ j ih =>
    intro i n hi hn K
    have hnle : ¬ gI M 54 10 ≤ nI i := by rw [i_le, i_nI (by omega)]; omega
    refine t_X13_clashes_16 (fun q => absurd q hnle) (fun _ => ct_isClash hs ha (by omega) ⟨_, rfl, t_X13_clashes_31 ?_⟩)
    unfold fi at K
    have hw : ¬ (n : Int) = -1 := by omega
    by_cases q : clB M a i = true
    · simp only [if_pos q, if_neg hw] at K
      rw [if_pos q, if_neg (by decide), nI_1, nI_1]
      exact ih (i + 1) (n + 1) (by omega) (by omega) K
    · simp only [if_neg q] at K
      rw [if_neg q, if_pos rfl, nI_1]
      have : nI n + 0 = nI n := by rw [i_eq, i_add, n0] <;> (try rw [i_nI (by omega), n0]) <;> omega
      rw [this]
      exact ih (i + 1) n (by omega) (by omega) K
theorem lp_cs4 (hs : 0 ≤ (gI M 54 10).toInt ∧ (gI M 54 10).toInt ≤ 160) (s : Nat) (hss : (s : Int) = (gI M 54 10).toInt) : ∀ (j a n : Nat), a + j = s → n + 160 * j ≤ 50000 →
    Q (.returned (some (.int (nI (fo (clB M) (-1) s j a n).1)))) M →
    Fw l D ad kA mX13_clashes 4 [some (.ref (ad 54)), some (.int (nI n)), some (.int (nI a)), none] [] M Q := by
  intro j
  induction j with
  | zero =>
    intro a n hi hn K
    have hle : gI M 54 10 ≤ nI a := by rw [i_le, i_nI (by omega)]; omega
    exact t_X13_clashes_4 (fun _ => K) (fun q => absurd hle q)
  | succ j ih =>
    intro a n hi hn K
    have hnle : ¬ gI M 54 10 ≤ nI a := by rw [i_le, i_nI (by omega)]; omega
    refine t_X13_clashes_4 (fun q => absurd q hnle) (fun _ => ?_)
    rw [nI_1]
    have hb := fi_le (q := clB M a) (w := -1) (s - (a + 1)) (a + 1) n
    unfold fo at K
    refine lp_cs16 hs (by omega) (s - (a + 1)) (a + 1) n (by omega) (by omega) (fun z => ?_)
    generalize fi (clB M a) (-1) (s - (a + 1)) (a + 1) n = r at z K hb ⊢
    obtain ⟨n', o⟩ := r
    subst z
    exact ih (a + 1) n' (by omega) (by simp only at hb; omega) K
def sClash (c i : Nat) : Bool := c == 32 && (i == 2 || i == 3)
theorem sc_of {M' : Mem} (s1 : gI M 9 4 = gI M 54 10) (hf : Fr sClash M M') : gI M' 54 10 = gI M 9 4 := (hf.1 54 10 rfl).trans s1.symm
theorem pr_clashes (hs : RScore M) (he : REnds M) : Two l D ad kA mX11_clashes mX13_clashes [] M (fun M2 => Fr sClash M M2) := by
  have s1 := hs.1
  have s2 := hs.2.1
  obtain ⟨s, -, hss, -⟩ := i_nat s2.1
  have q1 := nm1
  refine en_X11_clashes (t_X11_clashes_0 (ct_walkTo hs he s hss (fun z => ?_) (fun b c z => ?_)))
  · refine ⟨_, rfl, t_X11_clashes_8 ⟨_, rfl, en_X13_clashes (t_X13_clashes_0 ?_)⟩⟩
    rw [nm1]
    refine lp_cs4 (M := sI (sI M 32 2 (-1)) 32 3 (-1)) (by rw [sc_of s1 ((Fr.rf.sI rfl).sI rfl)]; exact s2) s (by rw [sc_of s1 ((Fr.rf.sI rfl).sI rfl)]; exact hss) s 0 0 (by omega) (by omega) ⟨rfl, (Fr.rf.sI rfl).sI rfl⟩
  · refine ⟨_, rfl, t_X11_clashes_8 ⟨_, rfl, en_X13_clashes (t_X13_clashes_0 ?_)⟩⟩
    rw [nm1]
    refine lp_cs4 (M := sI (sI (sI (sI M 32 2 (-1)) 32 3 (-1)) 32 2 (nI b)) 32 3 (nI c)) (by rw [sc_of s1 ((((Fr.rf.sI rfl).sI rfl).sI rfl).sI rfl)]; exact s2) s (by rw [sc_of s1 ((((Fr.rf.sI rfl).sI rfl).sI rfl).sI rfl)]; exact hss) s 0 0 (by omega) (by omega) ⟨rfl, (((Fr.rf.sI rfl).sI rfl).sI rfl).sI rfl⟩
end Clash
