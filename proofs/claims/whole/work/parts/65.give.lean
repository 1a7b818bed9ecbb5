/-! give, parted -/
def usedM (M : Mem) (b : Int32) : Prop := ∃ a : Nat, (a : Int) < (gI M 54 10).toInt ∧ gI M 57 a = b
/-- the class's bits are the USED BELLS -/
def RUse (M : Mem) : Prop := ∀ b : Nat, b < 48 → (v_X7_uses M (nI b) = 0 ↔ ¬ usedM M (nI b))
def RPart (M : Mem) : Prop := gI M 22 4 = gI M 54 26 ∧ (¬ gI M 22 4 = 0 → ∀ b : Nat, b < 48 → (usedM M (nI b) → gI M 23 b = gI M 68 b) ∧ (¬ usedM M (nI b) → gI M 68 b = (-1)))
section Give
variable {l : Launch} {D : va_G} {ad : Nat → Nat} {kA : Nat → ClassId} {M : Mem} {Q : Outcome → Mem → Prop}
theorem lp_isUsed {b : Int32} (hs : 0 ≤ (gI M 54 10).toInt ∧ (gI M 54 10).toInt ≤ 160) (K1 : usedM M b → Q (.returned (some (.int 1))) M) (K0 : ¬ usedM M b → Q (.returned (some (.int 0))) M) : ∀ (j i : Nat), (i : Int) + j = (gI M 54 10).toInt → (∀ a : Nat, a < i → ¬ gI M 57 a = b) →
    Fw l D ad kA mX13_isUsed 2 [some (.ref (ad 54)), some (.int b), some (.int (nI i))] [] M Q := by
  intro j
  induction j with
  | zero =>
    intro i hi hn
    have hle : gI M 54 10 ≤ nI i := by rw [i_le, i_nI (by omega)]; omega
    exact t_X13_isUsed_2 (fun q => absurd hle q) (fun _ => K0 (fun ⟨a, h1, h2⟩ => hn a (by omega) h2)) (fun q => absurd hle q) (fun q => absurd hle q)
  | succ j ih =>
    intro i hi hn
    have hnle : ¬ gI M 54 10 ≤ nI i := by rw [i_le, i_nI (by omega)]; omega
    have hcl : (nI i).toNatClampNeg = i := nI_clamp (by omega)
    refine t_X13_isUsed_2 (fun _ => vin_of (by rw [i_nI (by omega)]; omega) (by rw [i_nI (by omega)]; omega)) (fun q => absurd q hnle) (fun _ q => ?_) (fun _ q => ?_)
    · rw [hcl] at q
      rw [nI_1]
      exact ih (i + 1) (by omega) (fun a ha => by
        by_cases e : a = i
        · rw [e]; exact q
        · exact hn a (by omega))
    · rw [hcl] at q
      exact K1 ⟨i, by omega, q⟩
theorem ct_isUsed {b : Int32} (hs : 0 ≤ (gI M 54 10).toInt ∧ (gI M 54 10).toInt ≤ 160) (K1 : usedM M b → Q (.returned (some (.int 1))) M) (K0 : ¬ usedM M b → Q (.returned (some (.int 0))) M) : Cal l D ad kA mX13_isUsed [.ref (ad 54), .int b] M Q :=
  en_X13_isUsed (t_X13_isUsed_0 (lp_isUsed hs K1 K0 (gI M 54 10).toInt.toNat 0 (by omega) (fun a ha => by omega)))
theorem uses_out {x : Int32} (h : x.toInt < 0 ∨ 47 < x.toInt) : v_X7_uses M x = 0 := by
  unfold v_X7_uses
  rw [if_pos (bell0.mpr h)]
theorem pr_parted {x : Int32} (hs : RScore M) (hu : RUse M) (hp : RPart M) : Two l D ad kA mX11_parted mX13_parted [.int x] M (fun M2 => M2 = M) := by
  obtain ⟨s1, s2, -, -⟩ := hs
  have n10 : ¬ (1 : Int32) = 0 := by decide
  refine ct_X11_parted (fun _ c => ?_) ⟨_, rfl, ?_⟩
  · by_cases q : x.toInt < 0 ∨ 47 < x.toInt
    · exact absurd (uses_out q) c
    · exact vin_of (by omega) (by omega)
  · unfold v_X11_parted
    by_cases a : gI M 22 4 = 0
    · rw [if_pos a]
      have a2 : gI M 54 26 = 0 := by rw [← hp.1]; exact a
      exact en_X13_parted (t_X13_parted_0 (fun _ => ⟨rfl, rfl⟩) (fun q => absurd a2 q) (fun q => absurd a2 q))
    · rw [if_neg a]
      have a2 : ¬ gI M 54 26 = 0 := by rw [← hp.1]; exact a
      by_cases q : x.toInt < 0 ∨ 47 < x.toInt
      · rw [if_pos (uses_out q)]
        have w : v_X13_in x.toInt64 0 47 = 0 := by rw [in0i, m0, m47]; exact q
        exact en_X13_parted (t_X13_parted_0 (fun z => absurd z a2) (fun _ _ => ⟨rfl, rfl⟩) (fun _ z => absurd w z))
      · have w : ¬ v_X13_in x.toInt64 0 47 = 0 := by rw [in0i, m0, m47]; exact q
        obtain ⟨n, rfl, hn2, hn3⟩ := i_nat (x := x) (by omega)
        have hcl : (nI n).toNatClampNeg = n := nI_clamp (by omega)
        have hin : vp_in (nI n) 48 := vin_of (by omega) (by omega)
        refine en_X13_parted (t_X13_parted_0 (fun z => absurd z a2) (fun _ z => absurd z w) (fun _ _ => ct_isUsed (by rw [← s1]; exact s2) (fun u => ⟨_, rfl, t_X13_parted_24 (fun _ => hin) ⟨?_, rfl⟩⟩) (fun u => ⟨_, rfl, t_X13_parted_24 (fun _ => hin) ⟨?_, rfl⟩⟩)))
        · rw [if_neg n10, if_neg (fun z => (hu n (by omega)).mp z u), hcl, ((hp.2 a n (by omega)).1 u)]
        · rw [if_pos rfl, if_pos ((hu n (by omega)).mpr u)]
def sGive (c i : Nat) : Bool := c == 23 || c == 68
theorem pr_give {x y : Int32} (hs : RScore M) (hr : RRing M) (hu : RUse M) (hp : RPart M) : Two l D ad kA mX11_give mX13_give [.int x, .int y] M (fun M2 => Fr sGive M M2 ∧ RPart M2) := by
  obtain ⟨s1, s2, -, -⟩ := hs
  obtain ⟨r1, -, -⟩ := hr
  have n10 : ¬ (1 : Int32) = 0 := by decide
  have ring : ∀ M', gI M' 54 23 = gI M 54 23 → (v_X13_isRinger M' y = 0 ↔ v_X11_isRinger M y = 0) := by
    intro M' e
    rw [ring0m, ring0, e, r1]
  have mod : ∀ M' : Mem, Fr (fun c _ => c == 23) M M' → ∀ r : Int32, ¬ v_X11_isRinger M y = 0 → (¬ (0 ≤ x.toInt ∧ x.toInt ≤ 47 ∧ usedM M x) → r = (-2) ∧ M' = M) → ((0 ≤ x.toInt ∧ x.toInt ≤ 47) → usedM M x → gI M 22 4 = 0 → r = (-4) ∧ M' = M) →
      ((0 ≤ x.toInt ∧ x.toInt ≤ 47) → usedM M x → ¬ gI M 22 4 = 0 → r = gI M 68 x.toNatClampNeg ∧ M' = sI M 23 x.toNatClampNeg y) →
      Cal l D ad kA mX13_give (.ref (ad 54) :: [.int x, .int y]) M' (fun oc2 M2 => oc2 = .returned (some (.int r)) ∧ Fr sGive M M2 ∧ RPart M2) := by
    intro M' hF r hry k1 k2 k3
    have hry2 : ¬ v_X13_isRinger M' y = 0 := fun z => hry ((ring M' (hF.1 54 23 rfl)).mp z)
    have hF2 : Fr sGive M M' := hF.mono (fun c i q => by simp [sGive] at q; simp; omega)
    have eu : ∀ b, usedM M' b ↔ usedM M b := by
      intro b
      unfold usedM
      rw [hF.1 54 10 rfl]
      constructor
      · exact fun ⟨a, h1, h2⟩ => ⟨a, h1, by rw [← h2]; exact (hF.1 57 a rfl).symm⟩
      · exact fun ⟨a, h1, h2⟩ => ⟨a, h1, by rw [← h2]; exact hF.1 57 a rfl⟩
    have e26 : gI M' 54 26 = gI M 22 4 := by rw [hF.1 54 26 rfl]; exact hp.1.symm
    refine en_X13_give (t_X13_give_0 (fun z => absurd z hry2) (fun _ z => ?_) (fun _ z => ?_))
    · rw [in0i, m0, m47] at z
      obtain ⟨rfl, rfl⟩ := k1 (fun q => by omega)
      exact ⟨rfl, Fr.rf, hp⟩
    · rw [in0i, m0, m47] at z
      have hx : 0 ≤ x.toInt ∧ x.toInt ≤ 47 := by omega
      have hin : vp_in x 48 := vin_of (by omega) (by omega)
      refine ct_isUsed (by rw [hF.1 54 10 rfl, ← s1]; exact s2) (fun u => ⟨_, rfl, t_X13_give_25 (fun _ _ => hin) (fun _ c => ?_) (fun _ c => ?_) (fun q => absurd q n10)⟩) (fun u => ⟨_, rfl, t_X13_give_25 (fun q => absurd rfl q) (fun q => absurd rfl q) (fun q => absurd rfl q) (fun _ => ?_)⟩)
      · rw [e26] at c
        have u' := (eu x).mp u
        obtain ⟨hr1, hr2⟩ := k3 hx u' c
        have e68 : gI M' 68 x.toNatClampNeg = gI M 68 x.toNatClampNeg := hF.1 68 _ rfl
        refine ⟨by rw [e68, hr1], hF2.sI rfl, ?_, fun _ b hb => ?_⟩
        · rw [hr2]; exact hp.1
        · have hu2 : ∀ v, usedM (sI M' 68 x.toNatClampNeg y) v ↔ usedM M v := fun v => eu v
          rw [hu2]
          obtain ⟨h1, h2⟩ := hp.2 c b hb
          rw [hr2]
          by_cases e : b = x.toNatClampNeg
          · subst e
            refine ⟨fun _ => by simp [gI_sI], fun q => ?_⟩
            have : nI x.toNatClampNeg = x := by
              rw [i_eq, i_nI (by have := i_clamp hx.1; omega)]; exact i_clamp hx.1
            rw [this] at q
            exact absurd u' q
          · simp [gI_sI, e]
            exact ⟨h1, h2⟩
      · rw [e26] at c
        obtain ⟨rfl, rfl⟩ := k2 hx ((eu x).mp u) c
        exact ⟨rfl, Fr.rf, hp⟩
      · obtain ⟨rfl, rfl⟩ := k1 (fun q => u ((eu x).mpr q.2.2))
        exact ⟨rfl, Fr.rf, hp⟩
  have use : v_X7_uses M x = 0 ↔ ¬ (0 ≤ x.toInt ∧ x.toInt ≤ 47 ∧ usedM M x) := by
    by_cases q : x.toInt < 0 ∨ 47 < x.toInt
    · rw [uses_out q]
      simp only [true_iff]
      intro z; omega
    · obtain ⟨n, rfl, hn2, hn3⟩ := i_nat (x := x) (by omega)
      rw [hu n (by omega)]
      constructor
      · exact fun z w => z w.2.2
      · exact fun z w => z ⟨by omega, by omega, w⟩
  refine en_X11_give (t_X11_give_0 (fun _ c _ => ?_) (fun c => ?_) (fun c1 c2 c3 => ?_) (fun c1 c2 c3 => ?_) (fun c1 c2 => ?_))
  · rw [use] at c
    have : 0 ≤ x.toInt ∧ x.toInt ≤ 47 ∧ usedM M x := Classical.byContradiction c
    exact vin_of (by omega) (by omega)
  · exact ⟨_, rfl, en_X13_give (t_X13_give_0 (fun _ => ⟨rfl, Fr.rf, hp⟩) (fun z => absurd ((ring M rfl).mpr c) z) (fun z => absurd ((ring M rfl).mpr c) z))⟩
  · rw [use] at c2
    have u : 0 ≤ x.toInt ∧ x.toInt ≤ 47 ∧ usedM M x := Classical.byContradiction c2
    refine ⟨_, rfl, mod _ (Fr.rf.sI rfl) _ c1 (fun q => absurd u q) (fun _ _ q => absurd q c3) (fun _ _ _ => ⟨?_, rfl⟩)⟩
    have hc := i_clamp (x := x) u.1
    have e : nI x.toNatClampNeg = x := by rw [i_eq, i_nI (by omega)]; exact hc
    exact (hp.2 c3 x.toNatClampNeg (by omega)).1 (by rw [e]; exact u.2.2)
  · rw [use] at c2
    have u : 0 ≤ x.toInt ∧ x.toInt ≤ 47 ∧ usedM M x := Classical.byContradiction c2
    exact ⟨_, rfl, mod M Fr.rf _ c1 (fun q => absurd u q) (fun _ _ _ => ⟨rfl, rfl⟩) (fun _ _ q => absurd c3 q)⟩
  · rw [use] at c2
    exact ⟨_, rfl, mod M Fr.rf _ c1 (fun _ => ⟨rfl, rfl⟩) (fun a b _ => absurd ⟨a.1, a.2, b⟩ c2) (fun a b _ => absurd ⟨a.1, a.2, b⟩ c2)⟩
end Give
