/-! heard: the class weighs -/
theorem i_abs {x : Int32} (h : -1000000 ≤ x.toInt ∧ x.toInt ≤ 1000000) : (iabs x).toInt = if x.toInt < 0 then - x.toInt else x.toInt := by
  unfold iabs
  have q0 := n0
  by_cases c : 0 ≤ x
  · rw [if_pos c]
    rw [i_le, q0] at c
    rw [if_neg (by omega)]
  · rw [if_neg c]
    rw [i_le, q0] at c
    rw [if_pos (by omega), i_sub, q0] <;> (try rw [q0]) <;> omega
/-- points of a pair: beat and BELL of the STROKE, of the sound -/
def pq (tb tl hb hl : Int32) : Nat := if hl = tl then (if 2 < iabs (hb - tb) then 1000000 else (iabs (hb - tb)).toNatClampNeg) else if iabs (hb - tb) = 0 then 2 else 1000000
theorem pq_v {tb tl hb hl : Int32} (h1 : 0 ≤ tb.toInt ∧ tb.toInt ≤ 999) (h2 : 0 ≤ hb.toInt ∧ hb.toInt ≤ 999) (N : Int32) : (pq tb tl hb hl ≤ 2 ∨ pq tb tl hb hl = 1000000) ∧ (if hl = tl then if 2 < iabs (hb - tb) then N else iabs (hb - tb) else if iabs (hb - tb) = 0 then 2 else N) = if pq tb tl hb hl < 1000000 then nI (pq tb tl hb hl) else N := by
  have hs : (hb - tb).toInt = hb.toInt - tb.toInt := i_sub (by omega) (by omega)
  have ha := i_abs (x := hb - tb) (by omega)
  have n2 : (2 : Int32).toInt = 2 := by decide
  have hpos : 0 ≤ (iabs (hb - tb)).toInt := by rw [ha]; split <;> omega
  obtain ⟨n, e1, e2, e3⟩ := i_nat hpos
  unfold pq
  by_cases c1 : hl = tl
  · rw [if_pos c1, if_pos c1]
    by_cases c2 : 2 < iabs (hb - tb)
    · rw [if_pos c2, if_pos c2, if_neg (by omega)]; exact ⟨.inr rfl, rfl⟩
    · rw [if_neg c2, if_neg c2]
      rw [i_lt, n2] at c2
      rw [e1, nI_clamp (by omega), if_pos (by omega)]
      exact ⟨.inl (by omega), rfl⟩
  · rw [if_neg c1, if_neg c1]
    by_cases c2 : iabs (hb - tb) = 0
    · rw [if_pos c2, if_pos c2, if_pos (by omega)]; exact ⟨.inl (by omega), rfl⟩
    · rw [if_neg c2, if_neg c2, if_neg (by omega)]; exact ⟨.inr rfl, rfl⟩
/-- the pair's points by how many are left -/
def ppA (tb tl hb hl : Nat → Int32) (s m a c : Nat) : Nat := pq (tb (s - a)) (tl (s - a)) (hb (m - c)) (hl (m - c))
section WeighL
variable {l : Launch} {D : va_G} {ad : Nat → Nat} {kA : Nat → ClassId} {M M0 : Mem} {Q : Outcome → Mem → Prop} {s m : Nat}
def sWg (c i : Nat) : Bool := c == 39 || c == 41 || c == 43
/-- what the laying rests on, in the class -/
def okL (M : Mem) (s m : Nat) : Prop := gI M 9 4 = nI s ∧ gI M 4 4 = nI m ∧ s ≤ 160 ∧ m ≤ 160 ∧ (∀ k, k < s → 0 ≤ (gI M 10 k).toInt ∧ (gI M 10 k).toInt ≤ 999) ∧ (∀ h, h < m → (0 ≤ (gI M 5 h).toInt ∧ (gI M 5 h).toInt ≤ 999) ∧ (0 ≤ (gI M 6 h).toInt ∧ (gI M 6 h).toInt ≤ 47))
def ppC (M : Mem) (s m : Nat) : Nat → Nat → Nat := ppA (gI M 10) (gI M 11) (gI M 5) (gI M 6) s m
/-- the bits of what is weighed: the rows behind k, and in row k those behind h -/
def bitsOk (M0 M : Mem) (s m k h : Nat) : Prop := ∀ k' h', k' < s → h' ≤ m → (k < k' ∨ (k' = k ∧ h ≤ h')) → (h' < m → bitAt M 41 k' h' = isPr (ppC M0 s m) (s - k') (m - h')) ∧ bitAt M 43 k' h' = isMs (ppC M0 s m) (s - k') (m - h')
theorem lp_wg21 (h0 : okL M0 s m) {k : Nat} (hk : k ≤ s)
    (K : ∀ M', Fr sWg M0 M' → (∀ h', h' ≤ m → gI M' 39 h' = nI (WW (ppC M0 s m) (s - k) (m - h'))) → bitsOk M0 M' s m k 0 → Fw l D ad kA mX5_weigh 8 [some (.ref (ad 35)), some (.ref (ad 4)), some (.int (nI k + (-1))), none, none, none, none, none, none, none, none] [] M' Q) : ∀ (h : Nat) (x3 : Int32) (M : Mem), h ≤ m + 1 → Fr sWg M0 M → (k < s → h ≤ m → x3 = nI (WW (ppC M0 s m) (s - k - 1) (m - h))) → (k < s → ∀ h', h' < h → gI M 39 h' = nI (WW (ppC M0 s m) (s - k - 1) (m - h'))) → (∀ h', h ≤ h' → h' ≤ m → gI M 39 h' = nI (WW (ppC M0 s m) (s - k) (m - h'))) → bitsOk M0 M s m k h →
    Fw l D ad kA mX5_weigh 21 [some (.ref (ad 35)), some (.ref (ad 4)), some (.int (nI k)), some (.int x3), some (.int (nI h - 1)), none, none, none, none, none, none] [] M Q := by
  obtain ⟨l1, l2, l3, l4, l5, l6⟩ := id h0
  have nw := nNEV
  have n3 : (3 : Int32).toInt = 3 := by decide
  intro h
  induction h with
  | zero =>
    intro x3 M hh hf hx hb ha hbits
    have hlt : nI 0 - 1 < 0 := by decide
    exact t_X5_weigh_21 (fun q => absurd hlt q) (fun q => absurd hlt q) (fun q => absurd hlt q) (fun _ => K M hf (fun h' hh' => ha h' (by omega) hh') hbits) (fun q => absurd hlt q)
  | succ h ih =>
    intro x3 M hh hf hx hb ha hbits
    have e9 : gI M 9 4 = nI s := by rw [hf.1 9 4 rfl]; exact l1
    have e4 : gI M 4 4 = nI m := by rw [hf.1 4 4 rfl]; exact l2
    have hnlt : ¬ nI h < 0 := nI_pos (by omega)
    have hcl : (nI h).toNatClampNeg = h := nI_clamp (by omega)
    have hcl1 : (nI h + 1).toNatClampNeg = h + 1 := by rw [nI_1]; exact nI_clamp (by omega)
    have k9 : gI M 9 4 ≤ nI k ↔ s ≤ k := by rw [e9, nI_leI (by omega) (by omega)]
    have k4 : gI M 4 4 ≤ nI h ↔ m ≤ h := by rw [e4, nI_leI (by omega) (by omega)]
    rw [nI_pred]
    have ppv : k < s → h < m → v_X5_pairPoints M (nI k) (nI h) = (if ppC M0 s m (s - k) (m - h) < 1000000 then nI (ppC M0 s m (s - k) (m - h)) else 16777216) ∧ (ppC M0 s m (s - k) (m - h) ≤ 2 ∨ ppC M0 s m (s - k) (m - h) = 1000000) := by
      intro c1 c2
      have := pq_v (tb := gI M0 10 k) (tl := gI M0 11 k) (hb := gI M0 5 h) (hl := gI M0 6 h) (l5 k c1) (l6 h c2).1 16777216
      unfold v_X5_pairPoints
      rw [hcl, nI_clamp (by omega), hf.1 6 h rfl, hf.1 11 k rfl, hf.1 5 h rfl, hf.1 10 k rfl]
      have e : ppC M0 s m (s - k) (m - h) = pq (gI M0 10 k) (gI M0 11 k) (gI M0 5 h) (gI M0 6 h) := by
        unfold ppC ppA
        rw [show s - (s - k) = k by omega, show m - (m - h) = h by omega]
      rw [e]
      exact ⟨this.2, this.1⟩
    -- the three roads
    have facts : (¬ (k = s ∧ h = m) → imin (if (if gI M 9 4 ≤ nI k then 0 else if gI M 4 4 ≤ nI h then 0 else 1 : Int32) = 0 then 16777216 else x3 + v_X5_pairPoints M (nI k) (nI h)) (3 + imin (if gI M 9 4 ≤ nI k then 16777216 else gI M 39 (nI h).toNatClampNeg) (if gI M 4 4 ≤ nI h then 16777216 else gI M 39 (nI h + 1).toNatClampNeg)) = nI (WW (ppC M0 s m) (s - k) (m - h))) ∧
        (k < s → h < m → ((if (if gI M 9 4 ≤ nI k then 0 else if gI M 4 4 ≤ nI h then 0 else 1 : Int32) = 0 then 16777216 else x3 + v_X5_pairPoints M (nI k) (nI h)) = nI (WW (ppC M0 s m) (s - k) (m - h)) ↔ isPr (ppC M0 s m) (s - k) (m - h) = true)) ∧
        (k < s → ((if gI M 9 4 ≤ nI k then 16777216 else gI M 39 (nI h).toNatClampNeg) + 3 = nI (WW (ppC M0 s m) (s - k) (m - h)) ↔ isMs (ppC M0 s m) (s - k) (m - h) = true)) := by
      have bW := WW_le (pp := ppC M0 s m) (s - k) (m - h)
      by_cases c1 : s ≤ k
      · have ek : k = s := by omega
        subst ek
        refine ⟨fun q => ?_, fun q => by omega, fun q => by omega⟩
        have c2 : ¬ m ≤ h := by omega
        rw [if_pos (k9.mpr c1), if_pos rfl, if_pos (k9.mpr c1), if_neg (fun z => c2 (k4.mp z)), hcl1, ha (h + 1) (Nat.le_refl _) (by omega), Nat.sub_self]
        have bW2 := WW_le (pp := ppC M0 k m) 0 (m - (h + 1))
        have w0 : WW (ppC M0 k m) 0 (m - (h + 1)) = 3 * (m - (h + 1)) := rfl
        have w1 : WW (ppC M0 k m) 0 (m - h) = 3 * (m - h) := rfl
        rw [w0, w1, show (16777216 : Int32) = nI 16777216 from rfl, show (3 : Int32) = nI 3 from rfl, imin_nI (by omega) (by omega), nI_add, imin_nI (by omega) (by omega)]
        exact congrArg nI (by omega)
      · have hks : k < s := by omega
        have bW1 := WW_le (pp := ppC M0 s m) (s - k - 1) (m - h)
        have eS : gI M 39 h = nI (WW (ppC M0 s m) (s - k - 1) (m - h)) := hb hks h (by omega)
        by_cases c2 : m ≤ h
        · have eh : h = m := by omega
          subst eh
          rw [if_neg (fun z => c1 (k9.mp z)), if_pos (k4.mpr c2), if_pos rfl, if_neg (fun z => c1 (k9.mp z)), if_pos (k4.mpr c2), hcl, eS]
          have eW : WW (ppC M0 s h) (s - k) (h - h) = 3 + WW (ppC M0 s h) (s - k - 1) (h - h) := by
            rw [Nat.sub_self, show s - k = (s - k - 1) + 1 by omega]
            rfl
          refine ⟨fun _ => ?_, fun _ q => by omega, fun _ => ?_⟩
          · rw [eW]
            generalize WW (ppC M0 s h) (s - k - 1) (h - h) = w at bW1 ⊢
            rw [i_eq, i_min, i_add, i_min, nw, n3, i_nI (by omega), i_nI (by omega)] <;> (try rw [i_min, nw, n3, i_nI (by omega)])
            · repeat' split
              all_goals omega
            · split <;> omega
            · split <;> omega
          · unfold isMs
            rw [decide_eq_true_iff, eW]
            constructor
            · intro _; exact ⟨by omega, rfl⟩
            · intro _
              rw [show (3 : Int32) = nI 3 from rfl, nI_add, Nat.add_comm]
        · have hhm : h < m := by omega
          obtain ⟨pv, pr⟩ := ppv hks hhm
          have ex := hx hks (by omega)
          have eSo : gI M 39 (h + 1) = nI (WW (ppC M0 s m) (s - k) (m - (h + 1))) := ha (h + 1) (Nat.le_refl _) (by omega)
          rw [if_neg (fun z => c1 (k9.mp z)), if_neg (fun z => c2 (k4.mp z)), if_neg (by decide), if_neg (fun z => c1 (k9.mp z)), if_neg (fun z => c2 (k4.mp z)), hcl, hcl1, eS, eSo, ex, pv]
          have bW2 := WW_le (pp := ppC M0 s m) (s - k) (m - (h + 1))
          have bW3 := WW_le (pp := ppC M0 s m) (s - k - 1) (m - (h + 1))
          have eW : WW (ppC M0 s m) (s - k) (m - h) = min (ppC M0 s m (s - k) (m - h) + WW (ppC M0 s m) (s - k - 1) (m - (h + 1))) (3 + min (WW (ppC M0 s m) (s - k - 1) (m - h)) (WW (ppC M0 s m) (s - k) (m - (h + 1)))) := by
            rw [show s - k = (s - k - 1) + 1 by omega, show m - h = (m - (h + 1)) + 1 by omega]
            exact WW_s
          have ePr : isPr (ppC M0 s m) (s - k) (m - h) = true ↔ (ppC M0 s m (s - k) (m - h) < 1000000 ∧ ppC M0 s m (s - k) (m - h) + WW (ppC M0 s m) (s - k - 1) (m - (h + 1)) = WW (ppC M0 s m) (s - k) (m - h)) := by
            unfold isPr
            rw [decide_eq_true_iff, show m - h - 1 = m - (h + 1) by omega]
            constructor
            · intro z; exact ⟨z.2.2.1, z.2.2.2⟩
            · intro z; exact ⟨by omega, by omega, z.1, z.2⟩
          have eMs : isMs (ppC M0 s m) (s - k) (m - h) = true ↔ 3 + WW (ppC M0 s m) (s - k - 1) (m - h) = WW (ppC M0 s m) (s - k) (m - h) := by
            unfold isMs
            rw [decide_eq_true_iff]
            exact ⟨fun z => z.2, fun z => ⟨by omega, z⟩⟩
          rw [ePr, eMs]
          generalize WW (ppC M0 s m) (s - k) (m - h) = w0 at bW eW ⊢
          generalize WW (ppC M0 s m) (s - k - 1) (m - h) = w1 at bW1 eW ⊢
          generalize WW (ppC M0 s m) (s - k) (m - (h + 1)) = w2 at bW2 eW ⊢
          generalize WW (ppC M0 s m) (s - k - 1) (m - (h + 1)) = w3 at bW3 eW ⊢
          generalize ppC M0 s m (s - k) (m - h) = q at pr eW ⊢
          have ep : (nI w3 + (if q < 1000000 then nI q else 16777216)).toInt = w3 + (if q < 1000000 then (q : Int) else 16777216) := by
            by_cases cq : q < 1000000
            · rw [if_pos cq, if_pos cq, nI_add, i_nI (by omega)]; omega
            · rw [if_neg cq, if_neg cq, i_add, i_nI, nw] <;> (try rw [i_nI, nw]) <;> omega
          refine ⟨fun _ => ?_, fun _ _ => ?_, fun _ => ?_⟩
          · rw [i_eq, i_min, ep, imin_nI (by omega) (by omega), show (3 : Int32) = nI 3 from rfl, nI_add, i_nI (by omega), i_nI (by omega)]
            repeat' split
            all_goals omega
          · rw [i_eq, ep, i_nI (by omega)]
            split <;> omega
          · rw [show (3 : Int32) = nI 3 from rfl, nI_add, nI_eq (by omega) (by omega)]; omega
    obtain ⟨F1, F2, F3⟩ := facts
    refine t_X5_weigh_21 (fun _ _ => ixN (by omega) (by omega)) (fun _ q => by rw [nI_1]; exact ixN (by have : ¬ m ≤ h := fun z => q (k4.mpr z); omega) (by omega)) (fun _ q => ?_) (fun q => absurd q hnlt) (fun _ => ?_)
    · by_cases c1 : s ≤ k
      · rw [if_pos (k9.mpr c1)] at q; exact absurd rfl q
      · rw [if_neg (fun z => c1 (k9.mp z))] at q
        by_cases c2 : m ≤ h
        · rw [if_pos (k4.mpr c2)] at q; exact absurd rfl q
        · exact ⟨ix (by omega), ix (by omega)⟩
    · refine ct_put40 (by omega) (by omega) (fun M1 hf1 hb1 => ⟨rfl, t_X5_weigh_190 (ct_put42 (by omega) (by omega) (fun M2 hf2 hb2 => ⟨rfl, t_X5_weigh_214 (ixN (by omega) (by omega)) ?_⟩))⟩)
      have F12 : Fr sWg M0 M2 := (hf.tr (hf1.mono (fun c i q => by simp [sWg] at q; simp; omega))).tr (hf2.mono (fun c i q => by simp [sWg] at q; simp; omega))
      have r39 : ∀ i, gI M2 39 i = gI M 39 i := fun i => by rw [hf2.1 39 i rfl, hf1.1 39 i rfl]
      have em : nI h + (-1) = nI h - 1 := by rw [i_eq, i_sub, i_add, i_nI, nm1, n1] <;> (try rw [i_nI]) <;> (try rw [nm1]) <;> (try rw [n1]) <;> omega
      simp only [hcl, hcl1] at F1 F3 hb1 hb2 ⊢
      rw [em, r39]
      have hval : (if (if nI k = gI M 9 4 then if nI h = gI M 4 4 then 1 else 0 else 0 : Int32) = 0 then imin (if (if gI M 9 4 ≤ nI k then 0 else if gI M 4 4 ≤ nI h then 0 else 1 : Int32) = 0 then 16777216 else x3 + v_X5_pairPoints M (nI k) (nI h)) (3 + imin (if gI M 9 4 ≤ nI k then 16777216 else gI M 39 h) (if gI M 4 4 ≤ nI h then 16777216 else gI M 39 (h + 1))) else 0) = nI (WW (ppC M0 s m) (s - k) (m - h)) := by
        have lastV : (if nI k = gI M 9 4 then if nI h = gI M 4 4 then 1 else 0 else 0 : Int32) = if k = s ∧ h = m then 1 else 0 := by
          rw [e9, e4]
          by_cases c1 : k = s
          · by_cases c2 : h = m
            · rw [if_pos (show nI k = nI s by rw [c1]), if_pos (show nI h = nI m by rw [c2]), if_pos ⟨c1, c2⟩]
            · rw [if_pos (show nI k = nI s by rw [c1]), if_neg (show ¬ nI h = nI m by rw [nI_eq (by omega) (by omega)]; exact c2), if_neg (fun z => c2 z.2)]
          · rw [if_neg (show ¬ nI k = nI s by rw [nI_eq (by omega) (by omega)]; exact c1), if_neg (fun z => c1 z.1)]
        rw [lastV]
        by_cases c : k = s ∧ h = m
        · rw [if_pos c, if_neg (show ¬ (1 : Int32) = 0 by decide), c.1, c.2, Nat.sub_self, Nat.sub_self]; rfl
        · rw [if_neg c, if_pos rfl]; exact F1 c
      rw [hval]
      refine ih _ _ (by omega) (F12.sI rfl) (fun c1 c2 => hb c1 h (by omega)) (fun c1 h' hh' => ?_) (fun h' a1 a2 => ?_) ?_
      · rw [gI_oi (by omega), r39]; exact hb c1 h' (by omega)
      · by_cases e : h' = h
        · subst e; rw [gI_self]
        · rw [gI_oi e, r39]; exact ha h' (by omega) a2
      · intro k' h' a1 a2 a3
        have old := fun (z : k < k' ∨ (k' = k ∧ h + 1 ≤ h')) => hbits k' h' a1 a2 z
        have e41 : bitAt (sI M2 39 h (nI (WW (ppC M0 s m) (s - k) (m - h)))) 41 k' h' = bitAt M1 41 k' h' := by
          unfold bitAt
          show lb (gL M2 41 _) _ = _
          rw [hf2.2 41 _ rfl]
        have e43 : bitAt (sI M2 39 h (nI (WW (ppC M0 s m) (s - k) (m - h)))) 43 k' h' = bitAt M2 43 k' h' := rfl
        have e43o : bitAt M1 43 k' h' = bitAt M 43 k' h' := by
          unfold bitAt
          rw [hf1.2 43 _ rfl]
        rw [e41, e43, hb1 k' h' (by omega), hb2 k' h' (by omega), e43o]
        by_cases e : k' = k ∧ h' = h
        · obtain ⟨rfl, rfl⟩ := e
          rw [if_pos (show k' = k' ∧ h' = h' from ⟨rfl, rfl⟩), if_pos (show k' = k' ∧ h' = h' from ⟨rfl, rfl⟩)]
          have nl : ¬ (k' = s ∧ h' = m) := by omega
          rw [F1 nl]
          refine ⟨fun z => ?_, ?_⟩
          · have := F2 a1 z
            by_cases q : isPr (ppC M0 s m) (s - k') (m - h') = true
            · rw [if_pos (this.mpr q), q]; rfl
            · rw [if_neg (fun w => q (this.mp w))]
              have q : isPr (ppC M0 s m) (s - k') (m - h') = false := by simpa using q
              rw [q]; rfl
          · have := F3 a1
            by_cases q : isMs (ppC M0 s m) (s - k') (m - h') = true
            · rw [if_pos (this.mpr q), q]; rfl
            · rw [if_neg (fun w => q (this.mp w))]
              have q : isMs (ppC M0 s m) (s - k') (m - h') = false := by simpa using q
              rw [q]; rfl
        · rw [if_neg e, if_neg e]
          exact old (by omega)
theorem ct_weigh (h0 : okL M s m) (K : ∀ M', Fr sWg M M' → (∀ h', h' ≤ m → gI M' 39 h' = nI (WW (ppC M s m) s (m - h'))) → bitsOk M M' s m 0 0 → Q (.returned none) M') : Cal l D ad kA mX5_weigh [.ref (ad 35), .ref (ad 4)] M Q := by
  obtain ⟨l1, l2, l3, l4, l5, l6⟩ := id h0
  refine en_X5_weigh (t_X5_weigh_0 ?_)
  rw [l1]
  have loop : ∀ (k : Nat) (M1 : Mem), k ≤ s → Fr sWg M M1 → (k < s → ∀ h', h' ≤ m → gI M1 39 h' = nI (WW (ppC M s m) (s - k - 1) (m - h'))) → bitsOk M M1 s m k (m + 1) → Fw l D ad kA mX5_weigh 8 [some (.ref (ad 35)), some (.ref (ad 4)), some (.int (nI k)), none, none, none, none, none, none, none, none] [] M1 Q := by
    intro k
    induction k with
    | zero =>
      intro M1 hk hf hp hb
      refine t_X5_weigh_8 (fun q => absurd q (by decide)) (fun _ => ?_)
      have e4 : gI M1 4 4 = nI m := by rw [hf.1 4 4 rfl]; exact l2
      rw [e4]
      have := lp_wg21 (l := l) (D := D) (ad := ad) (kA := kA) (Q := Q) h0 (k := 0) hk (fun M2 hf2 h39 hb2 => t_X5_weigh_8 (fun _ => K M2 hf2 (fun h' hh' => by rw [h39 h' hh']; rfl) hb2) (fun q => absurd (by decide) q)) (m + 1) 16777216 M1 (Nat.le_refl _) hf (fun _ q => by omega) (fun c h' hh' => hp c h' (by omega)) (fun h' a1 a2 => by omega) hb
      rw [nI_pred] at this
      exact this
    | succ k ih =>
      intro M1 hk hf hp hb
      have e3 : nI (k + 1) + (-1) = nI k := by rw [i_eq, i_add, i_nI, i_nI, nm1] <;> (try rw [i_nI]) <;> (try rw [nm1]) <;> omega
      refine t_X5_weigh_8 (fun q => absurd q (nI_pos (by omega))) (fun _ => ?_)
      have e4 : gI M1 4 4 = nI m := by rw [hf.1 4 4 rfl]; exact l2
      rw [e4]
      have := lp_wg21 (l := l) (D := D) (ad := ad) (kA := kA) (Q := Q) h0 (k := k + 1) hk (fun M2 hf2 h39 hb2 => by
        rw [e3]
        refine ih M2 (by omega) hf2 (fun _ h' hh' => by rw [h39 h' hh', show s - k - 1 = s - (k + 1) by omega]) (fun k' h' a1 a2 a3 => hb2 k' h' a1 a2 (by omega))) (m + 1) 16777216 M1 (Nat.le_refl _) hf (fun _ q => by omega) (fun c h' hh' => hp c h' (by omega)) (fun h' a1 a2 => by omega) hb
      rw [nI_pred] at this
      exact this
  exact loop s M (Nat.le_refl _) Fr.rf (fun q => by omega) (fun k' h' a1 a2 a3 => by omega)
end WeighL
