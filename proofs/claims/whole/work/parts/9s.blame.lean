/-! blame: the pair -/
def sN (f : Nat → Nat) : Nat → Nat
  | 0 => 0
  | n + 1 => sN f n + f n
theorem sN_congr {f g : Nat → Nat} : ∀ n, (∀ i, i < n → f i = g i) → sN f n = sN g n := by
  intro n
  induction n with
  | zero => intro _; rfl
  | succ n ih => intro h; unfold sN; rw [ih (fun i hi => h i (by omega)), h n (by omega)]
theorem sN_zero : ∀ n, sN (fun _ => 0) n = 0 := by
  intro n
  induction n with
  | zero => rfl
  | succ n ih => unfold sN; rw [ih]
theorem sN_add {f g : Nat → Nat} : ∀ n, sN (fun i => f i + g i) n = sN f n + sN g n := by
  intro n
  induction n with
  | zero => rfl
  | succ n ih => unfold sN; rw [ih]; omega
theorem sN_pt {bb v : Nat} : ∀ n, sN (fun b => if b = bb then v else 0) n = if bb < n then v else 0 := by
  intro n
  induction n with
  | zero => rfl
  | succ n ih =>
    unfold sN
    rw [ih]
    by_cases e : n = bb
    · rw [if_pos e, if_neg (by omega), if_pos (by omega)]; omega
    · rw [if_neg e]
      by_cases q : bb < n
      · rw [if_pos q, if_pos (by omega), Nat.add_zero]
      · rw [if_neg q, if_neg (by omega)]
/-- counted by bell, or by sound -/
theorem two_ways {P : Nat → Prop} [DecidablePred P] {im bl : Nat → Int32} : ∀ m, (∀ h, h < m → 0 ≤ (bl h).toInt ∧ (bl h).toInt ≤ 47) → sN (fun b => if P b then 3 * cntM im bl (nI b) m else 0) 48 = sN (fun h => if im h = 0 then 0 else if P (bl h).toNatClampNeg then 3 else 0) m := by
  intro m
  induction m with
  | zero =>
    intro _
    show _ = 0
    rw [← sN_zero 48]
    exact sN_congr _ (fun b _ => by show (if P b then 3 * 0 else 0) = 0; split <;> rfl)
  | succ m ih =>
    intro hb
    show _ = sN (fun h => if im h = 0 then 0 else if P (bl h).toNatClampNeg then 3 else 0) m + (if im m = 0 then 0 else if P (bl m).toNatClampNeg then 3 else 0)
    rw [← ih (fun h hh => hb h (by omega))]
    obtain ⟨bb, eb, h1, -⟩ := i_nat (hb m (by omega)).1
    have hb47 := (hb m (by omega)).2
    have cl : (bl m).toNatClampNeg = bb := by rw [eb, nI_clamp (by omega)]
    have pt := sN_pt (bb := bb) (v := if im m = 0 then 0 else if P bb then 3 else 0) 48
    rw [if_pos (show bb < 48 by omega)] at pt
    rw [cl, ← pt, ← sN_add]
    refine sN_congr _ (fun b hb' => ?_)
    show (if P b then 3 * (cntM im bl (nI b) m + (if ¬ im m = 0 ∧ bl m = nI b then 1 else 0)) else 0) = _
    rw [eb]
    by_cases e : b = bb
    · subst e
      rw [if_pos (show b = b from rfl)]
      by_cases z : im m = 0
      · rw [if_neg (show ¬ (¬ im m = 0 ∧ nI b = nI b) from fun w => w.1 z), if_pos z]; rfl
      · rw [if_pos (⟨z, rfl⟩ : ¬ im m = 0 ∧ nI b = nI b), if_neg z]
        by_cases p : P b
        · rw [if_pos p, if_pos p, if_pos p]; omega
        · rw [if_neg p, if_neg p, if_neg p]
    · rw [if_neg (show ¬ (¬ im m = 0 ∧ nI bb = nI b) from fun w => e ((nI_eq (by omega) (by omega)).mp w.2).symm), if_neg e]; rfl
section Blame
variable {l : Launch} {D : va_G} {ad : Nat → Nat} {kA : Nat → ClassId} {M : Mem} {Q : Outcome → Mem → Prop}
/-- the points of a STROKE -/
def ptK (M : Mem) (r : Int32) (k : Nat) : Int32 := if gI M 68 (gI M 57 k).toNatClampNeg = r then (if gI M 82 k = (-1) then 3 else v_X13_pairPoints M (nI k) (gI M 82 k)) else 0
def ptB (M : Mem) (r : Int32) (m b : Nat) : Nat := if gI M 68 b = r then 3 * cntM (gI M 84) (gI M 81) (nI b) m else 0
def ptH (M : Mem) (r : Int32) (h : Nat) : Nat := if gI M 84 h = 0 then 0 else if gI M 68 (gI M 81 h).toNatClampNeg = r then 3 else 0
theorem pt_k {k : Nat} (hs : RScore M) (hl : RLaid M) (hb : RBlame M) (h0 : ¬ gI M 35 4 = 0) (hk : (k : Int) < (gI M 9 4).toInt) : v_X5_pointsOf M (nI k) = (if gI M 82 k = (-1) then 3 else v_X13_pairPoints M (nI k) (gI M 82 k)) ∧ (gI M 82 k = (-1) ∨ vp_in (gI M 82 k) 160) := by
  obtain ⟨s1, s2, s3, -⟩ := hs
  obtain ⟨m, m1, m2, m3, m4, m5⟩ := hb h0
  obtain ⟨⟨e1, e2, -, -⟩, -⟩ := s3 k hk
  unfold v_X5_pointsOf v_X13_pairPoints
  rw [nI_clamp (by omega)]
  rcases (hl.2 h0).2 k hk with ⟨w1, w2, w3⟩ | ⟨w0, w1, w2, w3⟩
  · rw [if_pos w2, if_pos w1]; exact ⟨rfl, .inl w1⟩
  · rcases m5 k hk with v1 | ⟨h, hh, v1, v2⟩
    · rw [v1, nm1] at w0; omega
    · have n1 : ¬ gI M 82 k = (-1) := fun z => by rw [z, nm1] at w0; omega
      rw [if_neg w1, if_neg n1]
      rw [w2, w3, v1, nI_clamp (by omega), e2]
      refine ⟨?_, .inr (ix (by omega))⟩
      unfold pq at v2
      by_cases c1 : gI M 81 h = gI M 57 k
      · rw [if_pos c1] at v2
        rw [if_pos c1, if_pos c1]
        by_cases c2 : 2 < iabs (gI M 80 h - gI M 56 k)
        · rw [if_pos c2] at v2; omega
        · rw [if_neg c2]
      · rw [if_neg c1] at v2
        rw [if_neg c1, if_neg c1]
        by_cases c2 : iabs (gI M 80 h - gI M 56 k) = 0
        · rw [if_pos c2]
        · rw [if_neg c2] at v2; omega
theorem pr_blame {x : Int32} (hs : RScore M) (hr : RRing M) (hu : RUsed M) (hp : RPart M) (hl : RLaid M) (hb : RBlame M) : Two l D ad kA mX11_blame mX13_blame [.int x] M (fun M2 => M2 = M) := by
  have er : v_X11_isRinger M x = 0 ↔ v_X13_isRinger M x = 0 := by rw [ring0, ring0m, hr.1]
  have e26 := hp.1
  have e52 := hl.1
  have noR : ∀ v : Int32, (v_X11_isRinger M x = 0 → v = (-2)) → (¬ v_X11_isRinger M x = 0 → (gI M 22 4 = 0 ∨ gI M 35 4 = 0) ∧ v = (-4)) → Cal l D ad kA mX13_blame [.ref (ad 54), .int x] M (fun oc2 M2 => oc2 = .returned (some (.int v)) ∧ M2 = M) := by
    intro v k1 k2
    refine en_X13_blame (t_X13_blame_0 (fun q _ => ⟨by rw [(k2 (fun z => q (er.mp z))).2], rfl⟩) (fun q q1 q2 => ?_) (fun q _ _ => ⟨by rw [(k2 (fun z => q (er.mp z))).2], rfl⟩) (fun q => ⟨by rw [k1 (er.mpr q)], rfl⟩))
    rcases (k2 (fun z => q (er.mp z))).1 with w | w
    · exact absurd (e26.symm.trans w) q1
    · exact absurd (e52.symm.trans w) q2
  refine en_X11_blame (t_X11_blame_0 (fun q q1 => ⟨_, rfl, noR _ (fun z => absurd z q) (fun _ => ⟨.inl q1, rfl⟩)⟩) (fun q q1 q2 => ?_) (fun q _ q2 => ⟨_, rfl, noR _ (fun z => absurd z q) (fun _ => ⟨.inr q2, rfl⟩)⟩) (fun q => ⟨_, rfl, noR _ (fun _ => rfl) (fun z => absurd q z)⟩))
  have q0 : ¬ x.toInt < 0 := fun z => q (ring0.mpr (.inl z))
  have hx : ¬ x = (-1) := fun z => q0 (by rw [z, nm1]; omega)
  refine ct_bellsOfC hu ?_
  rw [bo_eq hp q1 hx]
  refine ⟨_, rfl, t_X11_blame_46 (en_X5_pointsOn (t_X5_pointsOn_0 ?_))⟩
  obtain ⟨s1, s2, s3, -⟩ := id hs
  obtain ⟨s, es, hsn, -⟩ := i_nat s2.1
  obtain ⟨m, m1, m2, m3, m4, m5⟩ := hb q2
  have cs : (nI s).toInt = s := i_nI (by omega)
  have n48 : (48 : Int32) = nI 48 := rfl
  -- the model's second loop
  have mod2 : ∀ (j i : Nat), i + j = m → Fw l D ad kA mX13_blame 91 [some (.ref (ad 54)), some (.int x), some (.int (sm (ptK M x) s + nI (sN (ptH M x) i))), some (.int (nI i))] [] M (fun oc2 M2 => oc2 = .returned (some (.int (sm (ptK M x) s + nI (sN (ptH M x) m)))) ∧ M2 = M) := by
    intro j
    induction j with
    | zero =>
      intro i hi
      have hle : gI M 54 45 ≤ nI i := by rw [m2, nI_leI (by omega) (by omega)]; omega
      exact t_X13_blame_91 (fun q => absurd hle q) (fun q => absurd hle q) (fun _ => ⟨by rw [show i = m by omega], rfl⟩) (fun q => absurd hle q)
    | succ j ih =>
      intro i hi
      have hnle : ¬ gI M 54 45 ≤ nI i := by rw [m2, nI_leI (by omega) (by omega)]; omega
      refine t_X13_blame_91 (fun _ => ix (by omega)) (fun _ _ => by rw [nI_clamp (by omega)]; have := (m3 i (by omega)).2; exact vin_of (by omega) (by omega)) (fun q => absurd q hnle) (fun _ => ?_)
      have st : (if gI M 84 (nI i).toNatClampNeg = 0 then sm (ptK M x) s + nI (sN (ptH M x) i) else if gI M 68 (gI M 81 (nI i).toNatClampNeg).toNatClampNeg = x then sm (ptK M x) s + nI (sN (ptH M x) i) + 3 else sm (ptK M x) s + nI (sN (ptH M x) i)) = sm (ptK M x) s + nI (sN (ptH M x) (i + 1)) := by
        rw [nI_clamp (by omega)]
        show _ = sm (ptK M x) s + nI (sN (ptH M x) i + ptH M x i)
        unfold ptH
        by_cases c1 : gI M 84 i = 0
        · rw [if_pos c1, if_pos c1]; rfl
        · rw [if_neg c1, if_neg c1]
          by_cases c2 : gI M 68 (gI M 81 i).toNatClampNeg = x
          · rw [if_pos c2, if_pos c2, ← nI_add, ← Int32.add_assoc]; rfl
          · rw [if_neg c2, if_neg c2]; rfl
      rw [st, nI_1]
      exact ih (i + 1) (by omega)
  have mod1 : ∀ (j i : Nat), i + j = s → Fw l D ad kA mX13_blame 32 [some (.ref (ad 54)), some (.int x), some (.int (sm (ptK M x) i)), some (.int (nI i))] [] M (fun oc2 M2 => oc2 = .returned (some (.int (sm (ptK M x) s + nI (sN (ptH M x) m)))) ∧ M2 = M) := by
    intro j
    induction j with
    | zero =>
      intro i hi
      have hle : gI M 54 10 ≤ nI i := by rw [← s1, es, nI_leI (by omega) (by omega)]; omega
      refine t_X13_blame_32 (fun q => absurd hle q) (fun q => absurd hle q) (fun q => absurd hle q) (fun _ => ?_) (fun q => absurd hle q)
      have := mod2 m 0 (by omega)
      rw [show sm (ptK M x) s + nI (sN (ptH M x) 0) = sm (ptK M x) s from Int32.add_zero _] at this
      rw [show i = s by omega]
      exact this
    | succ j ih =>
      intro i hi
      have hnle : ¬ gI M 54 10 ≤ nI i := by rw [← s1, es, nI_leI (by omega) (by omega)]; omega
      obtain ⟨⟨w1, w2, -, -⟩, -, w3, -⟩ := s3 i (by omega)
      obtain ⟨pv, pg⟩ := pt_k (k := i) hs hl hb q2 (by omega)
      refine t_X13_blame_32 (fun _ => ix (by omega)) (fun _ => by rw [nI_clamp (by omega), ← w2]; exact vin_of (by omega) (by omega)) (fun _ _ z => ?_) (fun q => absurd q hnle) (fun _ => ?_)
      · rw [nI_clamp (by omega)] at z ⊢
        rcases pg with w | w
        · exact absurd w z
        · exact ⟨w, ix (by omega)⟩
      · have st : (if gI M 68 (gI M 57 (nI i).toNatClampNeg).toNatClampNeg = x then sm (ptK M x) i + (if gI M 82 (nI i).toNatClampNeg = (-1) then 3 else v_X13_pairPoints M (nI i) (gI M 82 (nI i).toNatClampNeg)) else sm (ptK M x) i) = sm (ptK M x) (i + 1) := by
          rw [nI_clamp (by omega)]
          show _ = sm (ptK M x) i + ptK M x i
          unfold ptK
          by_cases c1 : gI M 68 (gI M 57 i).toNatClampNeg = x
          · rw [if_pos c1, if_pos c1]
          · rw [if_neg c1, if_neg c1, Int32.add_zero]
        rw [st, nI_1]
        exact ih (i + 1) (by omega)
  -- both ways of counting
  have both : sN (ptB M x m) 48 = sN (ptH M x) m := two_ways (P := fun b => gI M 68 b = x) m (fun h hh => (m3 h hh).2)
  have cls2 : ∀ (j i : Nat), i + j = 48 → Fw l D ad kA mX5_pointsOn 48 [some (.ref (ad 35)), some (.long (bo M x)), none, some (.int (sm (ptK M x) s + nI (sN (ptB M x m) i))), some (.int (nI i))] [] M (fun oc M2 => ∃ r : Int32, oc = .returned (some (.int r)) ∧ Fw l D ad kA mX11_blame 49 [none, none] [.int r] M2 (fun oc M1 => ∃ r : Int32, oc = .returned (some (.int r)) ∧ Cal l D ad kA mX13_blame (.ref (ad 54) :: [.int x]) M1 (fun oc2 M2 => oc2 = .returned (some (.int r)) ∧ M2 = M))) := by
    intro j
    induction j with
    | zero =>
      intro i hi
      have hle : 48 ≤ nI i := by rw [n48, nI_leI (by omega) (by omega)]; omega
      refine t_X5_pointsOn_48 (fun q => absurd hle q) (fun _ => ⟨_, rfl, t_X11_blame_49 ⟨_, rfl, ?_⟩⟩) (fun q => absurd hle q)
      rw [show i = 48 by omega, both]
      exact en_X13_blame (t_X13_blame_0 (fun _ w => absurd (e26.trans w) q1) (fun _ _ _ => mod1 s 0 (by omega)) (fun _ _ w => absurd (e52.trans w) q2) (fun w => absurd (er.mpr w) q))
    | succ j ih =>
      intro i hi
      have hnle : ¬ 48 ≤ nI i := by rw [n48, nI_leI (by omega) (by omega)]; omega
      refine t_X5_pointsOn_48 (fun _ _ => ixN (by omega) (by omega)) (fun q => absurd q hnle) (fun _ => ?_)
      have st : (if lg_cmp (lushr (bo M x) (nI i) &&& 1) 0 = 0 then sm (ptK M x) s + nI (sN (ptB M x m) i) else sm (ptK M x) s + nI (sN (ptB M x m) i) + gI M 38 (nI i).toNatClampNeg * 3) = sm (ptK M x) s + nI (sN (ptB M x m) (i + 1)) := by
        rw [nI_clamp (by omega)]
        show _ = sm (ptK M x) s + nI (sN (ptB M x m) i + ptB M x m i)
        unfold ptB
        by_cases c1 : gI M 68 i = x
        · rw [if_neg (by rw [on_u (by omega), lb_bo (by omega), c1]; simp), if_pos c1, ← nI_add, ← Int32.add_assoc, m4 i (by omega), show (3 : Int32) = nI 3 from rfl, nI_mul, Nat.mul_comm]
        · rw [if_pos (by rw [on_u (by omega), lb_bo (by omega)]; simp [c1]), if_neg c1]; rfl
      rw [st, nI_1]
      exact ih (i + 1) (by omega)
  have cls1 : ∀ (j i : Nat), i + j = s → Fw l D ad kA mX5_pointsOn 5 [some (.ref (ad 35)), some (.long (bo M x)), none, some (.int (sm (ptK M x) i)), some (.int (nI i))] [] M (fun oc M2 => ∃ r : Int32, oc = .returned (some (.int r)) ∧ Fw l D ad kA mX11_blame 49 [none, none] [.int r] M2 (fun oc M1 => ∃ r : Int32, oc = .returned (some (.int r)) ∧ Cal l D ad kA mX13_blame (.ref (ad 54) :: [.int x]) M1 (fun oc2 M2 => oc2 = .returned (some (.int r)) ∧ M2 = M))) := by
    intro j
    induction j with
    | zero =>
      intro i hi
      have hle : gI M 9 4 ≤ nI i := by rw [es, nI_leI (by omega) (by omega)]; omega
      refine t_X5_pointsOn_5 (fun q => absurd hle q) (fun q => absurd hle q) (fun _ => ?_) (fun q => absurd hle q)
      have := cls2 48 0 (by omega)
      rw [show sm (ptK M x) s + nI (sN (ptB M x m) 0) = sm (ptK M x) s from Int32.add_zero _] at this
      rw [show i = s by omega]
      exact this
    | succ j ih =>
      intro i hi
      have hnle : ¬ gI M 9 4 ≤ nI i := by rw [es, nI_leI (by omega) (by omega)]; omega
      obtain ⟨⟨w1, w2, -, -⟩, -, w3, -⟩ := s3 i (by omega)
      obtain ⟨pv, pg⟩ := pt_k (k := i) hs hl hb q2 (by omega)
      refine t_X5_pointsOn_5 (fun _ => ix (by omega)) (fun _ _ => ix (by omega)) (fun q => absurd q hnle) (fun _ => ?_)
      have st : (if v_X9_isOn M (bo M x) (nI i) = 0 then sm (ptK M x) i else sm (ptK M x) i + v_X5_pointsOf M (nI i)) = sm (ptK M x) (i + 1) := by
        show _ = sm (ptK M x) i + ptK M x i
        obtain ⟨bb, eb, h1, -⟩ := i_nat w3.1
        have on : v_X9_isOn M (bo M x) (nI i) = 0 ↔ ¬ gI M 68 (gI M 57 i).toNatClampNeg = x := by
          unfold v_X9_isOn
          rw [nI_clamp (by omega), ← w2, eb, nI_clamp (by omega)]
          by_cases c : gI M 68 bb = x
          · rw [if_neg (by rw [on_u (by omega), lb_bo (by omega), c]; simp)]; exact ⟨fun w => absurd w (by decide), fun w => absurd c w⟩
          · rw [if_pos (by rw [on_u (by omega), lb_bo (by omega)]; simp [c])]; exact ⟨fun _ => c, fun _ => rfl⟩
        rw [pv]
        unfold ptK
        by_cases c1 : gI M 68 (gI M 57 i).toNatClampNeg = x
        · rw [if_neg (fun w => on.mp w c1), if_pos c1]
        · rw [if_pos (on.mpr c1), if_neg c1, Int32.add_zero]
      rw [st, nI_1]
      exact ih (i + 1) (by omega)
  exact cls1 s 0 (by omega)
end Blame
