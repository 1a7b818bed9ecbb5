/-! heard: the model lays -/
section LayM
variable {l : Launch} {D : va_G} {ad : Nat → Nat} {kA : Nat → ClassId} {M M0 : Mem} {Q : Outcome → Mem → Prop} {s m : Nat} {pp : Nat → Nat → Nat}
/-- what the laying rests on, in the model -/
def okLM (M : Mem) (pp : Nat → Nat → Nat) (s m : Nat) : Prop := gI M 54 10 = nI s ∧ gI M 54 45 = nI m ∧ s ≤ 160 ∧ m ≤ 160 ∧ (∀ k, k < s → 0 ≤ (gI M 56 k).toInt ∧ (gI M 56 k).toInt ≤ 999) ∧ (∀ h, h < m → 0 ≤ (gI M 80 h).toInt ∧ (gI M 80 h).toInt ≤ 999) ∧ ∀ k h, k < s → h < m → pq (gI M 56 k) (gI M 57 k) (gI M 80 h) (gI M 81 h) = pp (s - k) (m - h)
theorem okLM.fr {S : Nat → Nat → Bool} (h : okLM M0 pp s m) (hf : Fr S M0 M) (h1 : S 54 10 = false ∧ S 54 45 = false) (h2 : ∀ i, S 56 i = false ∧ S 57 i = false ∧ S 80 i = false ∧ S 81 i = false) : okLM M pp s m := by
  obtain ⟨l1, l2, l3, l4, l5, l6, l7⟩ := h
  exact ⟨by rw [hf.1 54 10 h1.1]; exact l1, by rw [hf.1 54 45 h1.2]; exact l2, l3, l4, fun k hk => by rw [hf.1 56 k (h2 k).1]; exact l5 k hk, fun k hk => by rw [hf.1 80 k (h2 k).2.2.1]; exact l6 k hk, fun k h a1 a2 => by rw [hf.1 56 k (h2 k).1, hf.1 57 k (h2 k).2.1, hf.1 80 h (h2 h).2.2.1, hf.1 81 h (h2 h).2.2.2]; exact l7 k h a1 a2⟩
def t83 (M : Mem) (pp : Nat → Nat → Nat) (s m k h : Nat) : Prop := gI M 83 (161 * k + h) = nI (WW pp (s - k) (m - h))
theorem v_pl {k h : Nat} : v_X13_place (nI k) (nI h) = nI (161 * k + h) := by
  unfold v_X13_place
  rw [show (161 : Int32) = nI 161 from rfl, nI_mul, nI_add]
def PFn (pp : Nat → Nat → Nat) (a c : Nat) : Nat := if 1 ≤ a ∧ 1 ≤ c ∧ pp a c < 1000000 then pp a c + WW pp (a - 1) (c - 1) else 1000000
def MFn (pp : Nat → Nat → Nat) (a c : Nat) : Nat := if 1 ≤ a then 3 + WW pp (a - 1) c else 1000000
def RFn (pp : Nat → Nat → Nat) (a c : Nat) : Nat := if 1 ≤ c then 3 + WW pp a (c - 1) else 1000000
theorem v_pp (h0 : okLM M pp s m) {k h : Nat} (hk : k < s) (hh : h < m) : v_X13_pairPoints M (nI k) (nI h) = (if pp (s - k) (m - h) < 1000000 then nI (pp (s - k) (m - h)) else 1000000) ∧ (pp (s - k) (m - h) ≤ 2 ∨ pp (s - k) (m - h) = 1000000) := by
  obtain ⟨l1, l2, l3, l4, l5, l6, l7⟩ := h0
  have := pq_v (tb := gI M 56 k) (tl := gI M 57 k) (hb := gI M 80 h) (hl := gI M 81 h) (l5 k hk) (l6 h hh) 1000000
  rw [l7 k h hk hh] at this
  unfold v_X13_pairPoints
  rw [nI_clamp (by omega), nI_clamp (by omega)]
  exact ⟨this.2, this.1⟩
theorem v_pf (h0 : okLM M pp s m) {k h : Nat} (hk : k ≤ s) (hh : h ≤ m) (hc : k < s → h < m → t83 M pp s m (k + 1) (h + 1)) : v_X13_pairFrom M (nI k) (nI h) = nI (PFn pp (s - k) (m - h)) ∧ g_X13_pairFrom M (nI k) (nI h) ∧ PFn pp (s - k) (m - h) ≤ 1000000 := by
  obtain ⟨l1, l2, l3, l4, l5, l6, l7⟩ := id h0
  unfold v_X13_pairFrom g_X13_pairFrom PFn
  rw [l1, l2, nI_1, nI_1, v_pl]
  by_cases c1 : s ≤ k
  · have q1 : nI s ≤ nI k := by rw [nI_leI (by omega) (by omega)]; exact c1
    rw [if_pos q1, if_neg (by omega)]
    exact ⟨rfl, ⟨fun q => absurd q1 q, fun q => absurd q1 q⟩, Nat.le_refl _⟩
  · have q1 : ¬ nI s ≤ nI k := by rw [nI_leI (by omega) (by omega)]; exact c1
    rw [if_neg q1]
    by_cases c2 : m ≤ h
    · have q2 : nI m ≤ nI h := by rw [nI_leI (by omega) (by omega)]; exact c2
      rw [if_pos q2, if_neg (by omega)]
      exact ⟨rfl, ⟨fun _ q => absurd q2 q, fun _ q => absurd q2 q⟩, Nat.le_refl _⟩
    · have q2 : ¬ nI m ≤ nI h := by rw [nI_leI (by omega) (by omega)]; exact c2
      rw [if_neg q2]
      obtain ⟨pv, pr⟩ := v_pp h0 (k := k) (h := h) (by omega) (by omega)
      have bW := WW_le (pp := pp) (s - k - 1) (m - h - 1)
      have hin : vp_in (nI (161 * (k + 1) + (h + 1))) 25921 := ixN (by omega) (by omega)
      rw [pv]
      by_cases c3 : pp (s - k) (m - h) < 1000000
      · have cell := hc (by omega) (by omega)
        unfold t83 at cell
        rw [if_pos c3, if_neg (by rw [show (1000000 : Int32) = nI 1000000 from rfl, nI_leI (by omega) (by omega)]; omega), if_pos ⟨by omega, by omega, c3⟩, nI_clamp (by omega), cell, nI_add, show s - (k + 1) = s - k - 1 by omega, show m - (h + 1) = m - h - 1 by omega]
        exact ⟨rfl, ⟨fun _ _ => ⟨ix (by omega), ix (by omega)⟩, fun _ _ _ => hin⟩, by omega⟩
      · rw [if_neg c3, if_pos (by rw [i_le]; exact Int.le_refl _), if_neg (by omega)]
        exact ⟨rfl, ⟨fun _ _ => ⟨ix (by omega), ix (by omega)⟩, fun _ _ _ => hin⟩, Nat.le_refl _⟩
theorem v_mf (h0 : okLM M pp s m) {k h : Nat} (hk : k ≤ s) (hh : h ≤ m) (hc : k < s → t83 M pp s m (k + 1) h) : v_X13_missedFrom M (nI k) (nI h) = nI (MFn pp (s - k) (m - h)) ∧ g_X13_missedFrom M (nI k) (nI h) ∧ MFn pp (s - k) (m - h) ≤ 1000000 := by
  obtain ⟨l1, l2, l3, l4, -, -, -⟩ := id h0
  unfold v_X13_missedFrom g_X13_missedFrom MFn
  rw [l1, nI_1, v_pl]
  by_cases c1 : s ≤ k
  · have q1 : nI s ≤ nI k := by rw [nI_leI (by omega) (by omega)]; exact c1
    rw [if_pos q1, if_neg (by omega)]
    exact ⟨rfl, fun q => absurd q1 q, Nat.le_refl _⟩
  · have q1 : ¬ nI s ≤ nI k := by rw [nI_leI (by omega) (by omega)]; exact c1
    have cell := hc (by omega)
    unfold t83 at cell
    have bW := WW_le (pp := pp) (s - k - 1) (m - h)
    rw [if_neg q1, if_pos (by omega), nI_clamp (by omega), cell, show (3 : Int32) = nI 3 from rfl, nI_add, show s - (k + 1) = s - k - 1 by omega]
    exact ⟨rfl, fun _ => ixN (by omega) (by omega), by omega⟩
theorem v_rf (h0 : okLM M pp s m) {k h : Nat} (hk : k ≤ s) (hh : h ≤ m) (hc : h < m → t83 M pp s m k (h + 1)) : v_X13_moreFrom M (nI k) (nI h) = nI (RFn pp (s - k) (m - h)) ∧ g_X13_moreFrom M (nI k) (nI h) ∧ RFn pp (s - k) (m - h) ≤ 1000000 := by
  obtain ⟨l1, l2, l3, l4, -, -, -⟩ := id h0
  unfold v_X13_moreFrom g_X13_moreFrom RFn
  rw [l2, nI_1, v_pl]
  by_cases c1 : m ≤ h
  · have q1 : nI m ≤ nI h := by rw [nI_leI (by omega) (by omega)]; exact c1
    rw [if_pos q1, if_neg (by omega)]
    exact ⟨rfl, fun q => absurd q1 q, Nat.le_refl _⟩
  · have q1 : ¬ nI m ≤ nI h := by rw [nI_leI (by omega) (by omega)]; exact c1
    have cell := hc (by omega)
    unfold t83 at cell
    have bW := WW_le (pp := pp) (s - k) (m - h - 1)
    rw [if_neg q1, if_pos (by omega), nI_clamp (by omega), cell, show (3 : Int32) = nI 3 from rfl, nI_add, show m - (h + 1) = m - h - 1 by omega]
    exact ⟨rfl, fun _ => ixN (by omega) (by omega), by omega⟩
theorem least3 {a c : Nat} (ha : a ≤ 160) (hc : c ≤ 160) : (if min (PFn pp a c) (min (MFn pp a c) (RFn pp a c)) < 1000000 then min (PFn pp a c) (min (MFn pp a c) (RFn pp a c)) else 0) = WW pp a c := by
  have b0 := WW_le (pp := pp) a c
  cases a with
  | zero =>
    have e1 : PFn pp 0 c = 1000000 := if_neg (by omega)
    have e2 : MFn pp 0 c = 1000000 := if_neg (by omega)
    rw [e1, e2]
    cases c with
    | zero =>
      have e3 : RFn pp 0 0 = 1000000 := if_neg (by omega)
      rw [e3]; rfl
    | succ c =>
      have e3 : RFn pp 0 (c + 1) = 3 + 3 * c := if_pos (by omega)
      rw [e3]
      show _ = 3 * (c + 1)
      rw [if_pos (by omega)]; omega
  | succ a =>
    have e2 : MFn pp (a + 1) c = 3 + WW pp a c := if_pos (by omega)
    have b1 := WW_le (pp := pp) a c
    rw [e2]
    cases c with
    | zero =>
      have e1 : PFn pp (a + 1) 0 = 1000000 := if_neg (by omega)
      have e3 : RFn pp (a + 1) 0 = 1000000 := if_neg (by omega)
      rw [e1, e3]
      show _ = 3 + WW pp a 0
      rw [if_pos (by omega)]; omega
    | succ c =>
      have b2 := WW_le (pp := pp) (a + 1) c
      have e3 : RFn pp (a + 1) (c + 1) = 3 + WW pp (a + 1) c := if_pos (by omega)
      rw [e3]
      by_cases q : pp (a + 1) (c + 1) < 1000000
      · have e1 : PFn pp (a + 1) (c + 1) = pp (a + 1) (c + 1) + WW pp a c := if_pos ⟨by omega, by omega, q⟩
        have w := WW_s (pp := pp) (a := a) (c := c)
        rw [e1, w]
        rw [if_pos (by omega)]; omega
      · have e1 : PFn pp (a + 1) (c + 1) = 1000000 := if_neg (fun z => q z.2.2)
        have w := WW_s (pp := pp) (a := a) (c := c)
        rw [e1, w]
        rw [if_pos (by omega)]; omega
theorem pf_is {a c : Nat} (ha : a ≤ 160) (hc : c ≤ 160) : (PFn pp a c = WW pp a c ↔ isPr pp a c = true) ∧ (MFn pp a c = WW pp a c ↔ isMs pp a c = true) := by
  have b0 := WW_le (pp := pp) a c
  unfold PFn MFn isPr isMs
  rw [decide_eq_true_iff, decide_eq_true_iff]
  constructor
  · by_cases q : 1 ≤ a ∧ 1 ≤ c ∧ pp a c < 1000000
    · rw [if_pos q]
      exact ⟨fun z => ⟨q.1, q.2.1, q.2.2, z⟩, fun z => z.2.2.2⟩
    · rw [if_neg q]
      exact ⟨fun z => by omega, fun z => absurd ⟨z.1, z.2.1, z.2.2.1⟩ q⟩
  · by_cases q : 1 ≤ a
    · rw [if_pos q]; exact ⟨fun z => ⟨q, z⟩, fun z => z.2⟩
    · rw [if_neg q]; exact ⟨fun z => by omega, fun z => absurd z.1 q⟩
def s83 (c i : Nat) : Bool := c == 83
theorem lp_hd84 (h0 : okLM M0 pp s m) {k : Nat} (hk : k ≤ s) (K : ∀ M', Fr s83 M0 M' → (∀ k' h', k ≤ k' → k' ≤ s → h' ≤ m → t83 M' pp s m k' h') → Fw l D ad kA mX13_heard 75 [some (.ref (ad 54)), some (.int (nI k + (-1))), none, none] [] M' Q) : ∀ (h : Nat) (M : Mem), h ≤ m + 1 → Fr s83 M0 M → (∀ k' h', k < k' → k' ≤ s → h' ≤ m → t83 M pp s m k' h') → (∀ h', h ≤ h' → h' ≤ m → t83 M pp s m k h') →
    Fw l D ad kA mX13_heard 84 [some (.ref (ad 54)), some (.int (nI k)), some (.int (nI h - 1)), none] [] M Q := by
  have l3 := h0.2.2.1
  have l4 := h0.2.2.2.1
  intro h
  induction h with
  | zero =>
    intro M hh hf h1 h2
    have hlt : nI 0 - 1 < 0 := by decide
    refine t_X13_heard_84 (fun q => absurd hlt q) (fun q => absurd hlt q) (fun q => absurd hlt q) (fun q => absurd hlt q) (fun _ => K M hf (fun k' h' a1 a2 a3 => ?_)) (fun q => absurd hlt q)
    by_cases e : k' = k
    · subst e; exact h2 h' (by omega) a3
    · exact h1 k' h' (by omega) a2 a3
  | succ h ih =>
    intro M hh hf h1 h2
    have h0' := h0.fr hf ⟨rfl, rfl⟩ (fun _ => ⟨rfl, rfl, rfl, rfl⟩)
    have hnlt : ¬ nI h < 0 := nI_pos (by omega)
    rw [nI_pred]
    obtain ⟨p1, p2, p3⟩ := v_pf h0' (k := k) (h := h) hk (by omega) (fun q1 q2 => h1 (k + 1) (h + 1) (by omega) (by omega) (by omega))
    obtain ⟨m1, m2, m3⟩ := v_mf h0' (k := k) (h := h) hk (by omega) (fun q1 => h1 (k + 1) h (by omega) (by omega) (by omega))
    obtain ⟨r1, r2, r3⟩ := v_rf h0' (k := k) (h := h) hk (by omega) (fun q1 => h2 (h + 1) (Nat.le_refl _) (by omega))
    refine t_X13_heard_84 (fun _ => p2) (fun _ => m2) (fun _ => r2) (fun _ => by rw [v_pl]; exact ixN (by omega) (by omega)) (fun q => absurd q hnlt) (fun _ => ?_)
    have em : nI h + (-1) = nI h - 1 := by rw [i_eq, i_sub, i_add, i_nI, nm1, n1] <;> (try rw [i_nI]) <;> (try rw [nm1]) <;> (try rw [n1]) <;> omega
    have val : (if imin (v_X13_pairFrom M (nI k) (nI h)) (imin (v_X13_missedFrom M (nI k) (nI h)) (v_X13_moreFrom M (nI k) (nI h))) < 1000000 then imin (v_X13_pairFrom M (nI k) (nI h)) (imin (v_X13_missedFrom M (nI k) (nI h)) (v_X13_moreFrom M (nI k) (nI h))) else 0) = nI (WW pp (s - k) (m - h)) := by
      rw [p1, m1, r1, imin_nI (by omega) (by omega), imin_nI (by omega) (by omega), ← least3 (pp := pp) (a := s - k) (c := m - h) (by omega) (by omega)]
      by_cases q : min (PFn pp (s - k) (m - h)) (min (MFn pp (s - k) (m - h)) (RFn pp (s - k) (m - h))) < 1000000
      · rw [if_pos q, if_pos (by rw [show (1000000 : Int32) = nI 1000000 from rfl, nI_ltI (by omega) (by omega)]; exact q)]
      · rw [if_neg q, if_neg (by rw [show (1000000 : Int32) = nI 1000000 from rfl, nI_ltI (by omega) (by omega)]; exact q)]; rfl
    rw [val, v_pl, nI_clamp (by omega), em]
    refine ih _ (by omega) (hf.sI rfl) (fun k' h' a1 a2 a3 => ?_) (fun h' a1 a2 => ?_)
    · unfold t83
      rw [gI_oi (by omega)]; exact h1 k' h' a1 a2 a3
    · unfold t83
      by_cases e : h' = h
      · subst e; rw [gI_self]
      · rw [gI_oi (by omega)]; exact h2 h' (by omega) a2
theorem lp_hd75 (h0 : okLM M0 pp s m) (K : ∀ M', Fr s83 M0 M' → (∀ k' h', k' ≤ s → h' ≤ m → t83 M' pp s m k' h') → Fw l D ad kA mX13_heard 156 [some (.ref (ad 54)), some (.int 0), some (.int 0), none] [] (sI M' 54 46 0) Q) : Fw l D ad kA mX13_heard 75 [some (.ref (ad 54)), some (.int (nI s)), none, none] [] M0 Q := by
  have l2 := h0.2.1
  have l3 := h0.2.2.1
  have l4 := h0.2.2.2.1
  have loop : ∀ (k : Nat) (M1 : Mem), k ≤ s → Fr s83 M0 M1 → (∀ k' h', k < k' → k' ≤ s → h' ≤ m → t83 M1 pp s m k' h') → Fw l D ad kA mX13_heard 75 [some (.ref (ad 54)), some (.int (nI k)), none, none] [] M1 Q := by
    intro k
    induction k with
    | zero =>
      intro M1 hk hf h1
      refine t_X13_heard_75 (fun q => absurd q (by decide)) (fun _ => ?_)
      rw [hf.1 54 45 rfl, l2]
      have := lp_hd84 (l := l) (D := D) (ad := ad) (kA := kA) (Q := Q) h0 (k := 0) hk (fun M2 hf2 h2 => t_X13_heard_75 (fun _ => K M2 hf2 (fun k' h' a1 a2 => h2 k' h' (by omega) a1 a2)) (fun q => absurd (by decide) q)) (m + 1) M1 (Nat.le_refl _) hf h1 (fun h' a1 a2 => by omega)
      rw [nI_pred] at this
      exact this
    | succ k ih =>
      intro M1 hk hf h1
      have e3 : nI (k + 1) + (-1) = nI k := by rw [i_eq, i_add, i_nI, i_nI, nm1] <;> (try rw [i_nI]) <;> (try rw [nm1]) <;> omega
      refine t_X13_heard_75 (fun q => absurd q (nI_pos (by omega))) (fun _ => ?_)
      rw [hf.1 54 45 rfl, l2]
      have := lp_hd84 (l := l) (D := D) (ad := ad) (kA := kA) (Q := Q) h0 (k := k + 1) hk (fun M2 hf2 h2 => by rw [e3]; exact ih M2 (by omega) hf2 (fun k' h' a1 a2 a3 => h2 k' h' (by omega) a2 a3)) (m + 1) M1 (Nat.le_refl _) hf h1 (fun h' a1 a2 => by omega)
      rw [nI_pred] at this
      exact this
  exact loop s M0 (Nat.le_refl _) Fr.rf (fun k' h' a1 => by omega)
def sWkM (c i : Nat) : Bool := c == 82 || c == 84 || (c == 54 && i == 46)
theorem lp_hd156 (h0 : okLM M0 pp s m) (ht : ∀ k' h', k' ≤ s → h' ≤ m → t83 M0 pp s m k' h') {PO IM : Nat → Int32} {N : Nat}
    (K : ∀ M', Fr sWkM M0 M' → (∀ k, k < s → gI M' 82 k = PO k) → (∀ h, h < m → gI M' 84 h = IM h) → gI M' 54 46 = nI N → Q (.returned (some (.int (nI (WW pp s m))))) (sI M' 54 52 1)) : ∀ (f a c : Nat) (po im : Nat → Int32) (nn : Nat) (M : Mem), a + c ≤ f → a ≤ s → c ≤ m → Fr sWkM M0 M → (∀ k, k < s - a → gI M 82 k = po k) → (∀ h, h < m → gI M 84 h = im h) → gI M 54 46 = nI nn → WK pp s m f a c po im nn = (PO, IM, N) →
    Fw l D ad kA mX13_heard 156 [some (.ref (ad 54)), some (.int (nI (s - a))), some (.int (nI (m - c))), none] [] M Q := by
  have l3 := h0.2.2.1
  have l4 := h0.2.2.2.1
  have fin : ∀ (po im : Nat → Int32) (nn : Nat) (M : Mem), Fr sWkM M0 M → (∀ k, k < s → gI M 82 k = po k) → (∀ h, h < m → gI M 84 h = im h) → gI M 54 46 = nI nn → (po, im, nn) = (PO, IM, N) → Fw l D ad kA mX13_heard 156 [some (.ref (ad 54)), some (.int (nI s)), some (.int (nI m)), none] [] M Q := by
    intro po im nn M hf h1 h2 h3 e
    cases e
    have e10 : gI M 54 10 = nI s := by rw [hf.1 54 10 rfl]; exact h0.1
    have e45 : gI M 54 45 = nI m := by rw [hf.1 54 45 rfl]; exact h0.2.1
    have q1 : ¬ nI s < gI M 54 10 := by rw [e10]; exact nI_nlt (Nat.le_refl _) (by omega)
    have q2 : gI M 54 45 ≤ nI m := by rw [e45, i_le]; exact Int.le_refl _
    have k := K M hf h1 h2 h3
    have e83 : gI M 83 (0 : Int32).toNatClampNeg = nI (WW pp s m) := by
      show gI M 83 0 = _
      rw [hf.1 83 0 rfl]
      exact ht 0 0 (by omega) (by omega)
    exact t_X13_heard_156 (fun q => absurd q q1) (fun q => absurd q q1) (fun q => absurd q q1) (fun q => absurd q q1) (fun q => absurd q q1) (fun q => absurd q q1) (fun _ q => absurd q2 q) (fun _ q => absurd q2 q) (fun _ q => absurd q2 q) (fun _ q => absurd q2 q) (fun _ q => absurd q2 q) (fun _ q => absurd q2 q) (fun q => absurd q q1) (fun q => absurd q q1) (fun q => absurd q q1) (fun _ _ => by rw [e83]; exact k) (fun _ q => absurd q2 q) (fun _ q => absurd q2 q) (fun _ q => absurd q2 q)
  intro f
  induction f with
  | zero =>
    intro a c po im nn M hac ha hc hf h1 h2 h3 hW
    have ea : a = 0 := by omega
    have ec : c = 0 := by omega
    subst ea
    subst ec
    exact fin po im nn M hf h1 h2 h3 hW
  | succ f ih =>
    intro a c po im nn M hac ha hc hf h1 h2 h3 hW
    have hW : (if a = 0 ∧ c = 0 then (po, im, nn) else if isPr pp a c = true then WK pp s m f (a - 1) (c - 1) (updF po (s - a) (nI (m - c))) im nn else if isMs pp a c = true then WK pp s m f (a - 1) c (updF po (s - a) (-1)) im nn else WK pp s m f a (c - 1) po (updF im (m - c) 1) (nn + 1)) = (PO, IM, N) := hW
    by_cases z : a = 0 ∧ c = 0
    · rw [if_pos z] at hW
      obtain ⟨rfl, rfl⟩ := z
      exact fin po im nn M hf h1 h2 h3 hW
    · rw [if_neg z] at hW
      have h0' := h0.fr hf ⟨rfl, rfl⟩ (fun _ => ⟨rfl, rfl, rfl, rfl⟩)
      have ht' : ∀ k' h', k' ≤ s → h' ≤ m → t83 M pp s m k' h' := fun k' h' a1 a2 => by unfold t83; rw [hf.1 83 _ rfl]; exact ht k' h' a1 a2
      have e10 : gI M 54 10 = nI s := h0'.1
      have e45 : gI M 54 45 = nI m := h0'.2.1
      obtain ⟨p1, p2, p3⟩ := v_pf h0' (k := s - a) (h := m - c) (by omega) (by omega) (fun q1 q2 => ht' _ _ (by omega) (by omega))
      obtain ⟨m1, m2, m3⟩ := v_mf h0' (k := s - a) (h := m - c) (by omega) (by omega) (fun q1 => ht' _ _ (by omega) (by omega))
      rw [show s - (s - a) = a by omega, show m - (m - c) = c by omega] at p1 p3 m1 m3
      have cell : gI M 83 (v_X13_place (nI (s - a)) (nI (m - c))).toNatClampNeg = nI (WW pp a c) := by
        rw [v_pl, nI_clamp (by omega)]
        have := ht' (s - a) (m - c) (by omega) (by omega)
        unfold t83 at this
        rw [this, show s - (s - a) = a by omega, show m - (m - c) = c by omega]
      have gpl : vp_in (v_X13_place (nI (s - a)) (nI (m - c))) 25921 := by rw [v_pl]; exact ixN (by omega) (by omega)
      have bW := WW_le (pp := pp) a c
      obtain ⟨ip, im'⟩ := pf_is (pp := pp) (a := a) (c := c) (by omega) (by omega)
      have cp : v_X13_pairFrom M (nI (s - a)) (nI (m - c)) = gI M 83 (v_X13_place (nI (s - a)) (nI (m - c))).toNatClampNeg ↔ isPr pp a c = true := by rw [p1, cell, nI_eq (by omega) (by omega)]; exact ip
      have cm : v_X13_missedFrom M (nI (s - a)) (nI (m - c)) = gI M 83 (v_X13_place (nI (s - a)) (nI (m - c))).toNatClampNeg ↔ isMs pp a c = true := by rw [m1, cell, nI_eq (by omega) (by omega)]; exact im'
      have k10 : nI (s - a) < gI M 54 10 ↔ 1 ≤ a := by rw [e10, nI_ltI (by omega) (by omega)]; omega
      have k45 : gI M 54 45 ≤ nI (m - c) ↔ c = 0 := by rw [e45, nI_leI (by omega) (by omega)]; omega
      have hclk : (nI (s - a)).toNatClampNeg = s - a := nI_clamp (by omega)
      have hclh : (nI (m - c)).toNatClampNeg = m - c := nI_clamp (by omega)
      have prA : isPr pp a c = true → 1 ≤ a ∧ 1 ≤ c := fun q => by unfold isPr at q; rw [decide_eq_true_iff] at q; exact ⟨q.1, q.2.1⟩
      have msA : isMs pp a c = true → 1 ≤ a := fun q => by unfold isMs at q; rw [decide_eq_true_iff] at q; exact q.1
      have c0m : 1 ≤ a → c = 0 → isMs pp a c = true := by
        intro q1 q2
        subst q2
        unfold isMs
        rw [decide_eq_true_iff]
        refine ⟨q1, ?_⟩
        rw [show a = (a - 1) + 1 by omega]
        rfl
      have x1 : isPr pp a c = true → vp_in (nI (s - a)) 160 := fun q => ix (by have := prA q; omega)
      have x1m : isMs pp a c = true → vp_in (nI (s - a)) 160 := fun q => ix (by have := msA q; omega)
      have x2 : ¬ isMs pp a c = true → vp_in (nI (m - c)) 160 := fun q => ix (by
        have : ¬ c = 0 := fun w => by
          by_cases a1 : 1 ≤ a
          · exact q (c0m a1 w)
          · omega
        omega)
      have pairC : isPr pp a c = true → Fw l D ad kA mX13_heard 156 [some (.ref (ad 54)), some (.int (nI (s - a) + 1)), some (.int (nI (m - c) + 1)), none] [] (sI M 82 (nI (s - a)).toNatClampNeg (nI (m - c))) Q := by
        intro q
        rw [if_pos q] at hW
        have := prA q
        rw [hclk, nI_1, nI_1, show s - a + 1 = s - (a - 1) by omega, show m - c + 1 = m - (c - 1) by omega]
        refine ih (a - 1) (c - 1) _ im nn _ (by omega) (by omega) (by omega) (hf.sI rfl) (fun k hk => ?_) h2 h3 hW
        unfold updF
        by_cases e : k = s - a
        · rw [if_pos e, e, gI_self]
        · rw [if_neg e, gI_oi e]; exact h1 k (by omega)
      have missC : ¬ isPr pp a c = true → isMs pp a c = true → Fw l D ad kA mX13_heard 156 [some (.ref (ad 54)), some (.int (nI (s - a) + 1)), some (.int (nI (m - c))), none] [] (sI M 82 (nI (s - a)).toNatClampNeg (-1)) Q := by
        intro q1 q
        rw [if_neg q1, if_pos q] at hW
        have := msA q
        rw [hclk, nI_1, show s - a + 1 = s - (a - 1) by omega]
        refine ih (a - 1) c _ im nn _ (by omega) (by omega) hc (hf.sI rfl) (fun k hk => ?_) h2 h3 hW
        unfold updF
        by_cases e : k = s - a
        · rw [if_pos e, e, gI_self]
        · rw [if_neg e, gI_oi e]; exact h1 k (by omega)
      have moreC : ¬ isPr pp a c = true → ¬ isMs pp a c = true → Fw l D ad kA mX13_heard 156 [some (.ref (ad 54)), some (.int (nI (s - a))), some (.int (nI (m - c) + 1)), none] [] (sI (sI M 84 (nI (m - c)).toNatClampNeg 1) 54 46 ((gI M 54 46) + 1)) Q := by
        intro q1 q
        rw [if_neg q1, if_neg q] at hW
        have hc0 : ¬ c = 0 := fun w => by
          by_cases a1 : 1 ≤ a
          · exact q (c0m a1 w)
          · omega
        rw [hclh, nI_1, h3, nI_1, show m - c + 1 = m - (c - 1) by omega]
        refine ih a (c - 1) po _ (nn + 1) _ (by omega) ha (by omega) ((hf.sI rfl).sI rfl) (fun k hk => h1 k hk) (fun h hh => ?_) rfl hW
        rw [gI_o (by omega)]
        unfold updF
        by_cases e : h = m - c
        · rw [if_pos e, e, gI_self]
        · rw [if_neg e, gI_oi e]; exact h2 h hh
      exact t_X13_heard_156 (fun _ => gpl) (fun _ => p2) (fun _ _ => m2) (fun _ _ q => x2 (fun w => q (cm.mpr w))) (fun _ _ q => x1m (cm.mp q)) (fun _ q => x1 (cp.mp q)) (fun _ _ => gpl) (fun _ _ => p2) (fun _ _ _ => m2) (fun _ _ _ q => x2 (fun w => q (cm.mpr w))) (fun _ _ _ q => x1m (cm.mp q)) (fun _ _ q => x1 (cp.mp q)) (fun _ q1 q2 => moreC (fun w => q1 (cp.mpr w)) (fun w => q2 (cm.mpr w))) (fun _ q1 q2 => missC (fun w => q1 (cp.mpr w)) (cm.mp q2)) (fun _ q => pairC (cp.mp q)) (fun q1 q2 => absurd ⟨by have : ¬ 1 ≤ a := fun w => q1 (k10.mpr w); omega, k45.mp q2⟩ z) (fun _ _ q1 q2 => moreC (fun w => q1 (cp.mpr w)) (fun w => q2 (cm.mpr w))) (fun _ _ q1 q2 => missC (fun w => q1 (cp.mpr w)) (cm.mp q2)) (fun _ _ q => pairC (cp.mp q))
end LayM
