/-! count -/
section Count
variable {l : Launch} {D : va_G} {ad : Nat → Nat} {kA : Nat → ClassId} {M : Mem} {Q : Outcome → Mem → Prop}
theorem ix12 {i : Nat} (h : i < 12) : vp_in (nI i) 12 := vin_of (by rw [i_nI (by omega)]; omega) (by rw [i_nI (by omega)]; omega)
theorem lp_cmC (s : Nat) (hs : gI M 0 11 = nI s) (hs2 : s ≤ 12) (K : Q (.returned (some (.int (sm (fun a => if gI M 52 a = 0 then 0 else 1) s)))) M) : ∀ (j i : Nat), i + j = s →
    Fw l D ad kA mX11_countMissing 4 [some (.ref (ad 0)), some (.int (sm (fun a => if gI M 52 a = 0 then 0 else 1) i)), some (.int (nI i))] [] M Q := by
  intro j
  induction j with
  | zero =>
    intro i hi
    have : i = s := by omega
    subst this
    have hle : gI M 0 11 ≤ nI i := by rw [hs, i_le]; exact Int.le_refl _
    exact t_X11_countMissing_4 (fun q => absurd hle q) (fun _ => K) (fun q => absurd hle q)
  | succ j ih =>
    intro i hi
    have hnle : ¬ gI M 0 11 ≤ nI i := by rw [hs, i_le, i_nI (by omega), i_nI (by omega)]; omega
    refine t_X11_countMissing_4 (fun _ => ix12 (by omega)) (fun q => absurd q hnle) (fun _ => ?_)
    rw [nI_clamp (by omega), nI_1]
    exact ih (i + 1) (by omega)
theorem lp_cmM (s : Nat) (hs : gI M 54 23 = nI s) (hs2 : s ≤ 12) (K : Q (.returned (some (.int (sm (fun a => if gI M 67 a = 0 then 0 else 1) s)))) M) : ∀ (j i : Nat), i + j = s →
    Fw l D ad kA mX13_count 73 [some (.ref (ad 54)), none, some (.int (sm (fun a => if gI M 67 a = 0 then 0 else 1) i)), some (.int (nI i))] [] M Q := by
  intro j
  induction j with
  | zero =>
    intro i hi
    have : i = s := by omega
    subst this
    have hle : gI M 54 23 ≤ nI i := by rw [hs, i_le]; exact Int.le_refl _
    exact t_X13_count_73 (fun q => absurd hle q) (fun _ => K) (fun q => absurd hle q)
  | succ j ih =>
    intro i hi
    have hnle : ¬ gI M 54 23 ≤ nI i := by rw [hs, i_le, i_nI (by omega), i_nI (by omega)]; omega
    refine t_X13_count_73 (fun _ => ix12 (by omega)) (fun q => absurd q hnle) (fun _ => ?_)
    rw [nI_clamp (by omega), nI_1]
    exact ih (i + 1) (by omega)
theorem lp_cbC (s : Nat) (hs : gI M 0 11 = nI s) (hs2 : s ≤ 12) (hu : RUsed M) (hp : RPart M) (h0 : ¬ gI M 22 4 = 0) (K : Q (.returned (some (.int (sm (fun a => if lg_cmp (bo M (nI a)) 0 = 0 then 0 else 1) s)))) M) : ∀ (j i : Nat), i + j = s →
    Fw l D ad kA mX11_countWithBell 4 [some (.ref (ad 0)), some (.int (sm (fun a => if lg_cmp (bo M (nI a)) 0 = 0 then 0 else 1) i)), some (.int (nI i))] [] M Q := by
  intro j
  induction j with
  | zero =>
    intro i hi
    have : i = s := by omega
    subst this
    have hle : gI M 0 11 ≤ nI i := by rw [hs, i_le]; exact Int.le_refl _
    exact t_X11_countWithBell_4 (fun q => absurd q h0) (fun _ _ => K) (fun _ q => absurd hle q)
  | succ j ih =>
    intro i hi
    have hnle : ¬ gI M 0 11 ≤ nI i := by rw [hs, i_le, i_nI (by omega), i_nI (by omega)]; omega
    refine t_X11_countWithBell_4 (fun q => absurd q h0) (fun _ q => absurd q hnle) (fun _ _ => ct_bellsOfC hu ⟨_, rfl, t_X11_countWithBell_31 ?_⟩)
    rw [bo_eq hp h0 (nI_ne (by omega)), nI_1]
    exact ih (i + 1) (by omega)
theorem lp_cbM (s : Nat) (hs : gI M 54 23 = nI s) (hs2 : s ≤ 12) (h0 : ¬ gI M 54 26 = 0) (K : Q (.returned (some (.int (sm (fun a => if lg_cmp (bo M (nI a)) 0 = 0 then 0 else 1) s)))) M) : ∀ (j i : Nat), i + j = s →
    Fw l D ad kA mX13_count 121 [some (.ref (ad 54)), none, some (.int (sm (fun a => if lg_cmp (bo M (nI a)) 0 = 0 then 0 else 1) i)), some (.int (nI i))] [] M Q := by
  intro j
  induction j with
  | zero =>
    intro i hi
    have : i = s := by omega
    subst this
    have hle : gI M 54 23 ≤ nI i := by rw [hs, i_le]; exact Int.le_refl _
    exact t_X13_count_121 (fun _ => K) (fun q => absurd hle q) (fun q => absurd hle q)
  | succ j ih =>
    intro i hi
    have hnle : ¬ gI M 54 23 ≤ nI i := by rw [hs, i_le, i_nI (by omega), i_nI (by omega)]; omega
    refine t_X13_count_121 (fun q => absurd q hnle) (fun _ q => absurd q h0) (fun _ _ => ct_bellsOfM ⟨_, rfl, t_X13_count_142 ?_⟩)
    rw [nI_1]
    exact ih (i + 1) (by omega)
theorem pr_count {x : Int32} (hs : RScore M) (hr : RRing M) (hd : RDays M) (ht : RTape M) (hu : RUsed M) (hp : RPart M) : Two l D ad kA mX11_count mX13_count [.int x] M (fun M2 => Fr sFU M M2) := by
  have s1 := hs.1
  have s2 := hs.2.1
  obtain ⟨r1, r2, r3⟩ := hr
  obtain ⟨s, hs1, hs2, -⟩ := i_nat (x := gI M 0 11) (by omega)
  have d : ∀ a b : Int32, ¬ a = b → x = a → ¬ x = b := fun a b h e z => h (e.symm.trans z)
  refine en_X11_count (t_X11_count_0 (fun c0 => ?_) (fun c0 c1 => ?_) (fun c0 c1 c2 => ?_) (fun c0 c1 c2 c3 => ?_) (fun c0 c1 c2 c3 c4 => ?_) (fun c0 c1 c2 c3 c4 c5 => ?_) (fun c0 c1 c2 c3 c4 c5 c6 => ?_) (fun c0 c1 c2 c3 c4 c5 c6 c7 => ?_) (fun c0 c1 c2 c3 c4 c5 c6 c7 c8 => ?_) (fun c0 c1 c2 c3 c4 c5 c6 c7 c8 => ?_))
  · refine ⟨_, rfl, en_X13_count (t_X13_count_0 (fun _ => ⟨by rw [s1], Fr.rf⟩) (fun q => absurd c0 q) (fun q => absurd c0 q) (fun q => absurd c0 q) (fun q => absurd c0 q) (fun q => absurd c0 q) (fun q => absurd c0 q) (fun q => absurd c0 q) (fun q => absurd c0 q) (fun q => absurd c0 q))⟩
  · refine ⟨_, rfl, en_X13_count (t_X13_count_0 (fun q => absurd q c0) (fun _ _ => ct_findUsed (by rw [← s1]; exact s2) (fun M' hf h1 h2 => ⟨rfl, t_X13_count_61 ⟨by rw [h1, hu.1], hf⟩⟩)) (fun _ q => absurd c1 q) (fun _ q => absurd c1 q) (fun _ q => absurd c1 q) (fun _ q => absurd c1 q) (fun _ q => absurd c1 q) (fun _ q => absurd c1 q) (fun _ q => absurd c1 q) (fun _ q => absurd c1 q))⟩
  · refine ⟨_, rfl, en_X13_count (t_X13_count_0 (fun q => absurd q c0) (fun _ q => absurd q c1) (fun _ _ _ => ⟨by rw [r1], Fr.rf⟩) (fun _ _ q => absurd c2 q) (fun _ _ q => absurd c2 q) (fun _ _ q => absurd c2 q) (fun _ _ q => absurd c2 q) (fun _ _ q => absurd c2 q) (fun _ _ q => absurd c2 q) (fun _ _ q => absurd c2 q))⟩
  · refine en_X11_countMissing (t_X11_countMissing_0 (lp_cmC s hs1 (by omega) ⟨_, rfl, t_X11_count_77 ⟨_, rfl, en_X13_count (t_X13_count_0 (fun q => absurd q c0) (fun _ q => absurd q c1) (fun _ _ q => absurd q c2) (fun _ _ _ _ => ?_) (fun _ _ _ q => absurd c3 q) (fun _ _ _ q => absurd c3 q) (fun _ _ _ q => absurd c3 q) (fun _ _ _ q => absurd c3 q) (fun _ _ _ q => absurd c3 q) (fun _ _ _ q => absurd c3 q))⟩⟩ s 0 (by omega)))
    refine lp_cmM s (by rw [← r1]; exact hs1) (by omega) ⟨?_, Fr.rf⟩ s 0 (by omega)
    have : ∀ n, n ≤ s → sm (fun a => if gI M 67 a = 0 then 0 else 1) n = sm (fun a => if gI M 52 a = 0 then 0 else 1) n := by
      intro n
      induction n with
      | zero => intro _; rfl
      | succ n ih =>
        intro hn
        unfold sm
        rw [ih (by omega), (r3 n (by omega)).1]
    rw [this s (by omega)]
  · refine ⟨_, rfl, en_X13_count (t_X13_count_0 (fun q => absurd q c0) (fun _ q => absurd q c1) (fun _ _ q => absurd q c2) (fun _ _ _ q => absurd q c3) (fun _ _ _ _ _ => ⟨by rw [hp.1], Fr.rf⟩) (fun _ _ _ _ q => absurd c4 q) (fun _ _ _ _ q => absurd c4 q) (fun _ _ _ _ q => absurd c4 q) (fun _ _ _ _ q => absurd c4 q) (fun _ _ _ _ q => absurd c4 q))⟩
  · have mod : ∀ r, (gI M 22 4 = 0 → r = 0) → (¬ gI M 22 4 = 0 → r = sm (fun a => if lg_cmp (bo M (nI a)) 0 = 0 then 0 else 1) s) → Cal l D ad kA mX13_count (.ref (ad 54) :: [.int x]) M (fun oc2 M2 => oc2 = .returned (some (.int r)) ∧ Fr sFU M M2) := by
      intro r k1 k2
      refine en_X13_count (t_X13_count_0 (fun q => absurd q c0) (fun _ q => absurd q c1) (fun _ _ q => absurd q c2) (fun _ _ _ q => absurd q c3) (fun _ _ _ _ q => absurd q c4) (fun _ _ _ _ _ _ => ?_) (fun _ _ _ _ _ q => absurd c5 q) (fun _ _ _ _ _ q => absurd c5 q) (fun _ _ _ _ _ q => absurd c5 q) (fun _ _ _ _ _ q => absurd c5 q))
      by_cases h0 : gI M 22 4 = 0
      · have h1 : gI M 54 26 = 0 := by rw [← hp.1]; exact h0
        exact t_X13_count_121 (fun _ => ⟨by rw [k1 h0], Fr.rf⟩) (fun _ _ => ⟨by rw [k1 h0], Fr.rf⟩) (fun _ q => absurd h1 q)
      · exact lp_cbM s (by rw [← r1]; exact hs1) (by omega) (by rw [← hp.1]; exact h0) ⟨by rw [k2 h0], Fr.rf⟩ s 0 (by omega)
    refine en_X11_countWithBell (t_X11_countWithBell_0 ?_)
    by_cases h0 : gI M 22 4 = 0
    · have k : ∃ r : Int32, (Outcome.returned (some (.int 0)) = .returned (some (.int r))) ∧ Fw l D ad kA mX11_count 98 [none, none] [.int r] M (fun oc M1 => ∃ r : Int32, oc = .returned (some (.int r)) ∧ Cal l D ad kA mX13_count (.ref (ad 54) :: [.int x]) M1 (fun oc2 M2 => oc2 = .returned (some (.int r)) ∧ Fr sFU M M2)) := ⟨_, rfl, t_X11_count_98 ⟨_, rfl, mod 0 (fun _ => rfl) (fun q => absurd h0 q)⟩⟩
      exact t_X11_countWithBell_4 (fun _ => k) (fun _ _ => k) (fun q => absurd h0 q)
    · exact lp_cbC s hs1 (by omega) hu hp h0 ⟨_, rfl, t_X11_count_98 ⟨_, rfl, mod _ (fun q => absurd q h0) (fun _ => rfl)⟩⟩ s 0 (by omega)
  · refine ⟨_, rfl, en_X13_count (t_X13_count_0 (fun q => absurd q c0) (fun _ q => absurd q c1) (fun _ _ q => absurd q c2) (fun _ _ _ q => absurd q c3) (fun _ _ _ _ q => absurd q c4) (fun _ _ _ _ _ q => absurd q c5) (fun _ _ _ _ _ _ _ => ⟨by rw [hd.1], Fr.rf⟩) (fun _ _ _ _ _ _ q => absurd c6 q) (fun _ _ _ _ _ _ q => absurd c6 q) (fun _ _ _ _ _ _ q => absurd c6 q))⟩
  · refine ⟨_, rfl, en_X13_count (t_X13_count_0 (fun q => absurd q c0) (fun _ q => absurd q c1) (fun _ _ q => absurd q c2) (fun _ _ _ q => absurd q c3) (fun _ _ _ _ q => absurd q c4) (fun _ _ _ _ _ q => absurd q c5) (fun _ _ _ _ _ _ q => absurd q c6) (fun _ _ _ _ _ _ _ _ => ⟨by rw [hd.2.2.1], Fr.rf⟩) (fun _ _ _ _ _ _ _ q => absurd c7 q) (fun _ _ _ _ _ _ _ q => absurd c7 q))⟩
  · refine ⟨_, rfl, en_X13_count (t_X13_count_0 (fun q => absurd q c0) (fun _ q => absurd q c1) (fun _ _ q => absurd q c2) (fun _ _ _ q => absurd q c3) (fun _ _ _ _ q => absurd q c4) (fun _ _ _ _ _ q => absurd q c5) (fun _ _ _ _ _ _ q => absurd q c6) (fun _ _ _ _ _ _ _ q => absurd q c7) (fun _ _ _ _ _ _ _ _ _ => ⟨by rw [ht.1], Fr.rf⟩) (fun _ _ _ _ _ _ _ _ q => absurd c8 q))⟩
  · exact ⟨_, rfl, en_X13_count (t_X13_count_0 (fun q => absurd q c0) (fun _ q => absurd q c1) (fun _ _ q => absurd q c2) (fun _ _ _ q => absurd q c3) (fun _ _ _ _ q => absurd q c4) (fun _ _ _ _ _ q => absurd q c5) (fun _ _ _ _ _ _ q => absurd q c6) (fun _ _ _ _ _ _ _ q => absurd q c7) (fun _ _ _ _ _ _ _ _ q => absurd q c8) (fun _ _ _ _ _ _ _ _ _ => ⟨rfl, Fr.rf⟩))⟩
end Count
