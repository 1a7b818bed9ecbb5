/-! give, parted -/
def usedM (M : Mem) (b : Int32) : Prop := ∃ a : Nat, (a : Int) < (gI M 54 10).toInt ∧ gI M 57 a = b
/-- the class's bits are the USED BELLS -/
def RUse (M : Mem) : Prop := ∀ b : Nat, b < 48 → (v_X7_uses M (nI b) = 0 ↔ ¬ usedM M (nI b))
def RPart (M : Mem) : Prop := gI M 22 4 = gI M 54 26 ∧ (¬ gI M 22 4 = 0 → ∀ b : Nat, b < 48 → (usedM M (nI b) → gI M 23 b = gI M 68 b) ∧ (¬ usedM M (nI b) → gI M 68 b = (-1)))
section Give
variable {l : Launch} {D : va_G} {ad : Nat → Nat} {kA : Nat → ClassId} {M : Mem} {Q : Outcome → Mem → Prop}
theorem lp_isUsed {b : Int32} (hs : 0 ≤ (gI M 54 10).toInt ∧ (gI M 54 10).toInt ≤ 160) (K1 : usedM M b → Q (.returned (some (.int 1))) M) (K0 : ¬ usedM M b → Q (.returned (some (.int 0))) M) : ∀ (j i : Nat), (i : Int) + j = (gI M 54 10).toInt → (∀ a : Nat, a < i → ¬ gI M 57 a = b) →
    Fw l D ad kA mX13_isUsed 2 [some (.ref (ad 54)), some (.int b), some (.int (nI i))] [] M Q := by
  intro j
  induction j with
  | zero =>
    intro i hi hn
    have hle : gI M 54 10 ≤ nI i := by rw [i_le, i_nI (by omega)]; omega
    exact t_X13_isUsed_2 (fun q => absurd hle q) (fun _ => K0 (fun ⟨a, h1, h2⟩ => hn a (by omega) h2)) (fun q => absurd hle q) (fun q => absurd hle q)
  | succ j ih =>
    intro i hi hn
    have hnle : ¬ gI M 54 10 ≤ nI i := by rw [i_le, i_nI (by omega)]; omega
    have hcl : (nI i).toNatClampNeg = i := nI_clamp (by omega)
    refine t_X13_isUsed_2 (fun _ => vin_of (by rw [i_nI (by omega)]; omega) (by rw [i_nI (by omega)]; omega)) (fun q => absurd q hnle) (fun _ q => ?_) (fun _ q => ?_)
    · rw [hcl] at q
      rw [nI_1]
      exact ih (i + 1) (by omega) (fun a ha => by
        by_cases e : a = i
        · rw [e]; exact q
        · exact hn a (by omega))
    · rw [hcl] at q
      exact K1 ⟨i, by omega, q⟩
theorem ct_isUsed {b : Int32} (hs : 0 ≤ (gI M 54 10).toInt ∧ (gI M 54 10).toInt ≤ 160) (K1 : usedM M b → Q (.returned (some (.int 1))) M) (K0 : ¬ usedM M b → Q (.returned (some (.int 0))) M) : Cal l D ad kA mX13_isUsed [.ref (ad 54), .int b] M Q :=
  en_X13_isUsed (t_X13_isUsed_0 (lp_isUsed hs K1 K0 (gI M 54 10).toInt.toNat 0 (by omega) (fun a ha => by omega)))
theorem uses_out {x : Int32} (h : x.toInt < 0 ∨ 47 < x.toInt) : v_X7_uses M x = 0 := by
  unfold v_X7_uses
  rw [if_pos (bell0.mpr h)]
theorem pr_parted {x : Int32} (hs : RScore M) (hu : RUse M) (hp : RPart M) : Two l D ad kA mX11_parted mX13_parted [.int x] M (fun M2 => M2 = M) := by
  obtain ⟨s1, s2, -, -⟩ := hs
  have n10 : ¬ (1 : Int32) = 0 := by decide
  refine ct_X11_parted (fun _ c => ?_) ⟨_, rfl, ?_⟩
  · by_cases q : x.toInt < 0 ∨ 47 < x.toInt
    · exact absurd (uses_out q) c
    · exact vin_of (by omega) (by omega)
  · unfold v_X11_parted
    by_cases a : gI M 22 4 = 0
    · rw [if_pos a]
      have a2 : gI M 54 26 = 0 := by rw [← hp.1]; exact a
      exact en_X13_parted (t_X13_parted_0 (fun _ => ⟨rfl, rfl⟩) (fun q => absurd a2 q) (fun q => absurd a2 q))
    · rw [if_neg a]
      have a2 : ¬ gI M 54 26 = 0 := by rw [← hp.1]; exact a
      by_cases q : x.toInt < 0 ∨ 47 < x.toInt
      · rw [if_pos (uses_out q)]
        have w : v_X13_in x.toInt64 0 47 = 0 := by rw [in0i, m0, m47]; exact q
        exact en_X13_parted (t_X13_parted_0 (fun z => absurd z a2) (fun _ _ => ⟨rfl, rfl⟩) (fun _ z => absurd w z))
      · have w : ¬ v_X13_in x.toInt64 0 47 = 0 := by rw [in0i, m0, m47]; exact q
        obtain ⟨n, rfl, hn2, hn3⟩ := i_nat (x := x) (by omega)
        have hcl : (nI n).toNatClampNeg = n := nI_clamp (by omega)
        have hin : vp_in (nI n) 48 := vin_of (by omega) (by omega)
        refine en_X13_parted (t_X13_parted_0 (fun z => absurd z a2) (fun _ z => absurd z w) (fun _ _ => ct_isUsed (by rw [← s1]; exact s2) (fun u => ⟨_, rfl, t_X13_parted_24 (fun _ => hin) ⟨?_, rfl⟩⟩) (fun u => ⟨_, rfl, t_X13_parted_24 (fun _ => hin) ⟨?_, rfl⟩⟩)))
        · rw [if_neg n10, if_neg (fun z => (hu n (by omega)).mp z u), hcl, ((hp.2 a n (by omega)).1 u)]
        · rw [if_pos rfl, if_pos ((hu n (by omega)).mpr u)]
end Give
