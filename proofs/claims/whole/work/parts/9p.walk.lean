/-! heard: the class walks -/
def cntM (im bl : Nat → Int32) (b : Int32) : Nat → Nat
  | 0 => 0
  | h + 1 => cntM im bl b h + (if ¬ im h = 0 ∧ bl h = b then 1 else 0)
theorem cntM_le {im bl : Nat → Int32} {b : Int32} : ∀ h, cntM im bl b h ≤ h := by
  intro h
  induction h with
  | zero => exact Nat.le_refl _
  | succ h ih => unfold cntM; split <;> omega
theorem cntM_congr {im im' bl bl' : Nat → Int32} {b : Int32} : ∀ h, (∀ h', h' < h → im h' = im' h' ∧ bl h' = bl' h') → cntM im bl b h = cntM im' bl' b h := by
  intro h
  induction h with
  | zero => intro _; rfl
  | succ h ih =>
    intro e
    unfold cntM
    rw [ih (fun h' q => e h' (by omega)), (e h (by omega)).1, (e h (by omega)).2]
section WalkL
variable {l : Launch} {D : va_G} {ad : Nat → Nat} {kA : Nat → ClassId} {M M0 : Mem} {Q : Outcome → Mem → Prop} {s m : Nat}
def sWk (c i : Nat) : Bool := c == 36 || c == 37 || c == 38 || (c == 35 && i == 3)
/-- the STROKES up to k are laid as po says -/
def laidC (M0 M : Mem) (m : Nat) (po : Nat → Int32) (k : Nat) : Prop := ∀ k', k' < k → (po k' = (-1) ∧ gI M 37 k' = (-1) ∧ gI M 36 k' = 0) ∨ ∃ h', h' < m ∧ po k' = nI h' ∧ gI M 37 k' = gI M0 6 h' ∧ gI M 36 k' = gI M0 5 h' - gI M0 10 k' ∧ pq (gI M0 10 k') (gI M0 11 k') (gI M0 5 h') (gI M0 6 h') < 1000000
theorem lp_wk33 (h0 : okL M0 s m) (hb0 : bitsOk M0 M0 s m 0 0) {PO IM : Nat → Int32} {N : Nat}
    (K : ∀ M', Fr sWk M0 M' → laidC M0 M' m PO s → (∀ b, b < 48 → gI M' 38 b = nI (cntM IM (gI M0 6) (nI b) m)) → gI M' 35 3 = nI N → Q (.returned none) M') : ∀ (f i a c : Nat) (po im : Nat → Int32) (nn : Nat) (M : Mem), a + c ≤ f → i ≤ (s - a) + (m - c) → a ≤ s → c ≤ m → Fr sWk M0 M → laidC M0 M m po (s - a) → (∀ b, b < 48 → gI M 38 b = nI (cntM im (gI M0 6) (nI b) (m - c))) → (∀ h', m - c ≤ h' → im h' = 0) → gI M 35 3 = nI nn → WK (ppC M0 s m) s m f a c po im nn = (PO, IM, N) →
    Fw l D ad kA mX5_walk 33 [some (.ref (ad 35)), some (.ref (ad 4)), some (.int (nI (s - a))), some (.int (nI (m - c))), some (.int (nI i)), none, none] [] M Q := by
  obtain ⟨l1, l2, l3, l4, l5, l6⟩ := id h0
  have n10 : ¬ (1 : Int32) = 0 := by decide
  have n320 : (320 : Int32) = nI 320 := rfl
  have fin : ∀ (i : Nat) (po im : Nat → Int32) (nn : Nat) (M : Mem), i ≤ s + m → Fr sWk M0 M → laidC M0 M m po s → (∀ b, b < 48 → gI M 38 b = nI (cntM im (gI M0 6) (nI b) m)) → gI M 35 3 = nI nn → (po, im, nn) = (PO, IM, N) → Fw l D ad kA mX5_walk 33 [some (.ref (ad 35)), some (.ref (ad 4)), some (.int (nI s)), some (.int (nI m)), some (.int (nI i)), none, none] [] M Q := by
    intro i po im nn M hi hf hl hm hn e
    cases e
    have e9 : gI M 9 4 = nI s := by rw [hf.1 9 4 rfl]; exact l1
    have e4 : gI M 4 4 = nI m := by rw [hf.1 4 4 rfl]; exact l2
    have q1 : ¬ nI s < gI M 9 4 := by rw [e9]; exact nI_nlt (Nat.le_refl _) (by omega)
    have q2 : gI M 4 4 ≤ nI m := by rw [e4, i_le]; exact Int.le_refl _
    have k := K M hf hl hm hn
    exact t_X5_walk_33 (fun _ q => absurd q q1) (fun _ q => absurd q q1) (fun _ q => absurd q q1) (fun _ q => absurd q q1) (fun _ q => absurd q q1) (fun _ q => absurd q q1) (fun _ q => absurd q q1) (fun _ q => absurd q q1) (fun _ q => absurd q q1) (fun _ q => absurd q q1) (fun _ q => absurd q q1) (fun _ q => absurd q q1) (fun _ q => absurd q q1) (fun _ _ q => absurd q2 q) (fun _ _ q => absurd q2 q) (fun _ _ q => absurd q2 q) (fun _ _ q => absurd q2 q) (fun _ _ q => absurd q2 q) (fun _ _ q => absurd q2 q) (fun _ _ q => absurd q2 q) (fun _ _ q => absurd q2 q) (fun _ _ q => absurd q2 q) (fun _ => k) (fun _ q => absurd q q1) (fun _ q => absurd q q1) (fun _ q => absurd q q1) (fun _ q => absurd q q1) (fun _ q => absurd q q1) (fun _ q => absurd q q1) (fun _ q => absurd q q1) (fun _ _ _ => k) (fun _ _ q => absurd q2 q) (fun _ _ q => absurd q2 q) (fun _ _ q => absurd q2 q) (fun _ _ q => absurd q2 q)
  intro f
  induction f with
  | zero =>
    intro i a c po im nn M hac hi ha hc hf hl hm him hn hW
    have ea : a = 0 := by omega
    have ec : c = 0 := by omega
    subst ea
    subst ec
    exact fin i po im nn M (by omega) hf hl hm hn hW
  | succ f ih =>
    intro i a c po im nn M hac hi ha hc hf hl hm him hn hW
    have hW : (if a = 0 ∧ c = 0 then (po, im, nn) else if isPr (ppC M0 s m) a c = true then WK (ppC M0 s m) s m f (a - 1) (c - 1) (updF po (s - a) (nI (m - c))) im nn else if isMs (ppC M0 s m) a c = true then WK (ppC M0 s m) s m f (a - 1) c (updF po (s - a) (-1)) im nn else WK (ppC M0 s m) s m f a (c - 1) po (updF im (m - c) 1) (nn + 1)) = (PO, IM, N) := hW
    by_cases z : a = 0 ∧ c = 0
    · rw [if_pos z] at hW
      obtain ⟨rfl, rfl⟩ := z
      exact fin i po im nn M (by omega) hf hl hm hn hW
    · rw [if_neg z] at hW
      have e9 : gI M 9 4 = nI s := by rw [hf.1 9 4 rfl]; exact l1
      have e4 : gI M 4 4 = nI m := by rw [hf.1 4 4 rfl]; exact l2
      have k9 : nI (s - a) < gI M 9 4 ↔ 1 ≤ a := by rw [e9, nI_ltI (by omega) (by omega)]; omega
      have k9' : gI M 9 4 ≤ nI (s - a) ↔ a = 0 := by rw [e9, nI_leI (by omega) (by omega)]; omega
      have k4 : gI M 4 4 ≤ nI (m - c) ↔ c = 0 := by rw [e4, nI_leI (by omega) (by omega)]; omega
      have i9 : (if gI M 9 4 ≤ nI (s - a) then 0 else 1 : Int32) = 0 ↔ a = 0 := by
        by_cases q : a = 0
        · rw [if_pos (k9'.mpr q)]; exact ⟨fun _ => q, fun _ => rfl⟩
        · rw [if_neg (fun w => q (k9'.mp w))]; exact ⟨fun w => absurd w n10, fun w => absurd w q⟩
      have i4 : (if gI M 4 4 ≤ nI (m - c) then 0 else 1 : Int32) = 0 ↔ c = 0 := by
        by_cases q : c = 0
        · rw [if_pos (k4.mpr q)]; exact ⟨fun _ => q, fun _ => rfl⟩
        · rw [if_neg (fun w => q (k4.mp w))]; exact ⟨fun w => absurd w n10, fun w => absurd w q⟩
      have hb41 : ∀ k h, bitAt M 41 k h = bitAt M0 41 k h := fun k h => by unfold bitAt; rw [hf.2 41 _ rfl]
      have hb43 : ∀ k h, bitAt M 43 k h = bitAt M0 43 k h := fun k h => by unfold bitAt; rw [hf.2 43 _ rfl]
      obtain ⟨v40, g40⟩ := v_has40 (M := M) (k := s - a) (h := m - c) (by omega) (by omega)
      obtain ⟨v42, g42⟩ := v_has42 (M := M) (k := s - a) (h := m - c) (by omega) (by omega)
      have b40 : 1 ≤ a → 1 ≤ c → (v_X1_has_40 M (nI (s - a)) (nI (m - c)) = 0 ↔ isPr (ppC M0 s m) a c = false) := by
        intro q1 q2
        have := (hb0 (s - a) (m - c) (by omega) (by omega) (by omega)).1 (by omega)
        rw [v40, hb41, this, show s - (s - a) = a by omega, show m - (m - c) = c by omega]
      have b42 : 1 ≤ a → (v_X1_has_42 M (nI (s - a)) (nI (m - c)) = 0 ↔ isMs (ppC M0 s m) a c = false) := by
        intro q1
        have := (hb0 (s - a) (m - c) (by omega) (by omega) (by omega)).2
        rw [v42, hb43, this, show s - (s - a) = a by omega, show m - (m - c) = c by omega]
      have hclk : (nI (s - a)).toNatClampNeg = s - a := nI_clamp (by omega)
      have hclh : (nI (m - c)).toNatClampNeg = m - c := nI_clamp (by omega)
      have inX2 : nI (s - a) < gI M 9 4 → vp_in (nI (s - a)) 160 := fun q => ix (by have := k9.mp q; omega)
      have inX3' : ¬ (if gI M 4 4 ≤ nI (m - c) then 0 else 1 : Int32) = 0 → vp_in (nI (m - c)) 160 := fun q => ix (by have : ¬ c = 0 := fun w => q (i4.mpr w); omega)
      have inX3 : ¬ gI M 4 4 ≤ nI (m - c) → vp_in (nI (m - c)) 160 := fun q => ix (by have : ¬ c = 0 := fun w => q (k4.mpr w); omega)
      have b6 : ¬ c = 0 → (0 ≤ (gI M0 6 (m - c)).toInt ∧ (gI M0 6 (m - c)).toInt ≤ 47) := fun q => (l6 (m - c) (by omega)).2
      have in6' : ¬ (if gI M 4 4 ≤ nI (m - c) then 0 else 1 : Int32) = 0 → vp_in (gI M 6 (nI (m - c)).toNatClampNeg) 48 := fun q => by
        have := b6 (fun w => q (i4.mpr w))
        rw [hclh, hf.1 6 _ rfl]; exact vin_of (by omega) (by omega)
      have in6 : ¬ gI M 4 4 ≤ nI (m - c) → vp_in (gI M 6 (nI (m - c)).toNatClampNeg) 48 := fun q => in6' (fun w => q (k4.mpr (i4.mp w)))
      have ct9 : ¬ nI (s - a) < gI M 9 4 → ¬ (if gI M 9 4 ≤ nI (s - a) then 0 else 1 : Int32) = 0 → False := fun q1 q2 => q2 (i9.mpr (by have : ¬ 1 ≤ a := fun w => q1 (k9.mpr w); omega))
      have ct9b : nI (s - a) < gI M 9 4 → (if gI M 9 4 ≤ nI (s - a) then 0 else 1 : Int32) = 0 → False := fun q1 q2 => by have := k9.mp q1; have := i9.mp q2; omega
      have n3 : ¬ 320 ≤ nI i := by rw [n320, nI_leI (by omega) (by omega)]; omega
      -- the three steps
      have missC : 1 ≤ a → isPr (ppC M0 s m) a c = false → isMs (ppC M0 s m) a c = true → Fw l D ad kA mX5_walk 33 [some (.ref (ad 35)), some (.ref (ad 4)), some (.int (nI (s - a) + 1)), some (.int (nI (m - c))), some (.int (nI i + 1)), none, none] [] (sI (sI M 37 (nI (s - a)).toNatClampNeg (-1)) 36 (nI (s - a)).toNatClampNeg 0) Q := by
        intro q1 q2 q3
        rw [if_neg (by rw [q2]; decide), if_pos q3] at hW
        rw [hclk, nI_1, nI_1, show s - a + 1 = s - (a - 1) by omega]
        refine ih (i + 1) (a - 1) c _ im nn _ (by omega) (by omega) (by omega) hc ((hf.sI rfl).sI rfl) (fun k' hk' => ?_) hm him hn hW
        unfold updF
        by_cases e : k' = s - a
        · subst e
          rw [if_pos rfl]
          exact .inl ⟨rfl, by rw [gI_o (by omega), gI_self], by rw [gI_self]⟩
        · rw [if_neg e]
          have g37 : gI (sI (sI M 37 (s - a) (-1)) 36 (s - a) 0) 37 k' = gI M 37 k' := by rw [gI_o (by omega), gI_oi e]
          have g36 : gI (sI (sI M 37 (s - a) (-1)) 36 (s - a) 0) 36 k' = gI M 36 k' := by rw [gI_oi e, gI_o (by omega)]
          rw [g37, g36]
          exact hl k' (by omega)
      have moreC : ¬ c = 0 → isPr (ppC M0 s m) a c = false → isMs (ppC M0 s m) a c = false → Fw l D ad kA mX5_walk 33 [some (.ref (ad 35)), some (.ref (ad 4)), some (.int (nI (s - a))), some (.int (nI (m - c) + 1)), some (.int (nI i + 1)), none, none] [] (sI (sI M 38 (gI M 6 (nI (m - c)).toNatClampNeg).toNatClampNeg ((gI M 38 (gI M 6 (nI (m - c)).toNatClampNeg).toNatClampNeg) + 1)) 35 3 ((gI M 35 3) + 1)) Q := by
        intro q1 q2 q3
        rw [if_neg (by rw [q2]; decide), if_neg (by rw [q3]; decide)] at hW
        obtain ⟨bb, eb, hb1, hb2⟩ := i_nat (b6 q1).1
        have hb47 := (b6 q1).2
        rw [hclh, hf.1 6 _ rfl, eb, nI_clamp (by omega), hm bb (by omega), hn, nI_1, nI_1, nI_1, nI_1, show m - c + 1 = m - (c - 1) by omega]
        have old : ∀ b, cntM (updF im (m - c) 1) (gI M0 6) (nI b) (m - c) = cntM im (gI M0 6) (nI b) (m - c) := fun b => cntM_congr _ (fun h' hh' => ⟨by unfold updF; rw [if_neg (by omega)], rfl⟩)
        refine ih (i + 1) a (c - 1) po _ (nn + 1) _ (by omega) (by omega) ha (by omega) ((hf.sI rfl).sI rfl) (fun k' hk' => hl k' hk') (fun b hb => ?_) (fun h' hh' => ?_) rfl hW
        · rw [gI_o (by omega), show m - (c - 1) = (m - c) + 1 by omega]
          show _ = nI (cntM (updF im (m - c) 1) (gI M0 6) (nI b) (m - c) + (if ¬ updF im (m - c) 1 (m - c) = 0 ∧ gI M0 6 (m - c) = nI b then 1 else 0))
          rw [old b]
          have eu : updF im (m - c) 1 (m - c) = 1 := if_pos rfl
          rw [eu, eb]
          by_cases e : b = bb
          · subst e
            rw [gI_self, if_pos ⟨n10, rfl⟩]
          · rw [gI_oi e, if_neg (fun w => e ((nI_eq (by omega) (by omega)).mp w.2).symm), Nat.add_zero]
            exact hm b hb
        · unfold updF
          rw [if_neg (by omega)]
          exact him h' (by omega)
      have pairC : 1 ≤ a → ¬ c = 0 → isPr (ppC M0 s m) a c = true → Fw l D ad kA mX5_walk 33 [some (.ref (ad 35)), some (.ref (ad 4)), some (.int (nI (s - a) + 1)), some (.int (nI (m - c) + 1)), some (.int (nI i + 1)), none, none] [] (sI (sI M 37 (nI (s - a)).toNatClampNeg (gI M 6 (nI (m - c)).toNatClampNeg)) 36 (nI (s - a)).toNatClampNeg ((gI M 5 (nI (m - c)).toNatClampNeg) - (gI M 10 (nI (s - a)).toNatClampNeg))) Q := by
        intro q1 q2 q3
        rw [if_pos q3] at hW
        have hfin : pq (gI M0 10 (s - a)) (gI M0 11 (s - a)) (gI M0 5 (m - c)) (gI M0 6 (m - c)) < 1000000 := by
          unfold isPr at q3
          rw [decide_eq_true_iff] at q3
          exact q3.2.2.1
        rw [hclk, hclh, nI_1, nI_1, nI_1, show s - a + 1 = s - (a - 1) by omega, show m - c + 1 = m - (c - 1) by omega, hf.1 6 _ rfl, hf.1 5 _ rfl, hf.1 10 _ rfl]
        refine ih (i + 1) (a - 1) (c - 1) _ im nn _ (by omega) (by omega) (by omega) (by omega) ((hf.sI rfl).sI rfl) (fun k' hk' => ?_) (fun b hb => ?_) (fun h' hh' => him h' (by omega)) hn hW
        · unfold updF
          by_cases e : k' = s - a
          · subst e
            rw [if_pos rfl]
            exact .inr ⟨m - c, by omega, rfl, by rw [gI_o (by omega), gI_self], by rw [gI_self], hfin⟩
          · rw [if_neg e]
            have g37 : ∀ v w, gI (sI (sI M 37 (s - a) v) 36 (s - a) w) 37 k' = gI M 37 k' := fun v w => by rw [gI_o (by omega), gI_oi e]
            have g36 : ∀ v w, gI (sI (sI M 37 (s - a) v) 36 (s - a) w) 36 k' = gI M 36 k' := fun v w => by rw [gI_oi e, gI_o (by omega)]
            rw [g37, g36]
            exact hl k' (by omega)
        · rw [show m - (c - 1) = (m - c) + 1 by omega]
          unfold cntM
          rw [if_neg (fun w => w.1 (him (m - c) (Nat.le_refl _))), Nat.add_zero]
          exact hm b hb
      have bf : ∀ {x : Bool}, ¬ x = false → x = true := fun {x} q => by cases x; exact absurd rfl q; rfl
      have c0 : 1 ≤ a → c = 0 → isPr (ppC M0 s m) a c = false ∧ isMs (ppC M0 s m) a c = true := by
        intro q1 q2
        subst q2
        constructor
        · unfold isPr; rw [decide_eq_false_iff_not]; omega
        · unfold isMs
          rw [decide_eq_true_iff]
          refine ⟨q1, ?_⟩
          rw [show a = (a - 1) + 1 by omega]
          rfl
      have a0 : a = 0 → isPr (ppC M0 s m) a c = false ∧ isMs (ppC M0 s m) a c = false := by
        intro q1
        constructor
        · unfold isPr; rw [decide_eq_false_iff_not]; omega
        · unfold isMs; rw [decide_eq_false_iff_not]; omega
      refine t_X5_walk_33 (fun _ _ _ q => inX3' q) (fun _ _ _ q => in6' q) (fun _ q _ _ => inX2 q) (fun _ _ _ _ => g42) (fun _ q _ _ _ => inX2 q) (fun _ q _ _ _ => inX2 q) (fun _ _ _ _ => g40) (fun _ _ _ _ _ => g42) (fun _ q _ _ _ _ => inX2 q) (fun _ _ _ q _ _ => inX3' q) (fun _ _ _ q _ _ => in6' q) (fun _ _ _ q _ => inX3' q) (fun _ q _ _ _ => inX2 q) (fun _ _ q _ => inX3 q) (fun _ _ q _ => in6 q) (fun _ _ _ _ => g40) (fun _ _ _ _ _ => g42) (fun _ q1 _ q2 _ _ => absurd (ct9 q1 q2) id) (fun _ _ q _ _ _ => inX3 q) (fun _ _ q _ _ _ => in6 q) (fun _ _ q _ _ => inX3 q) (fun _ q1 _ q2 _ => absurd (ct9 q1 q2) id) (fun q => absurd q n3) (fun _ q1 q2 _ => absurd (ct9b q1 q2) id) (fun _ q1 q2 _ => absurd (ct9b q1 q2) id) (fun _ q1 _ q3 _ => ?_) (fun _ q1 _ q3 _ => ?_) (fun _ q1 _ q3 q4 q5 => ?_) (fun _ q1 _ q3 q4 q5 => ?_) (fun _ q1 _ q3 q4 => ?_) (fun _ q1 q2 => ?_) (fun _ q1 q2 _ => ?_) (fun _ q1 _ q2 => absurd (ct9 q1 q2) id) (fun _ q1 _ q2 => absurd (ct9 q1 q2) id) (fun _ q1 _ q2 => absurd (ct9 q1 q2) id)
      · have w := c0 (k9.mp q1) (i4.mp q3); exact missC (k9.mp q1) w.1 w.2
      · have w := c0 (k9.mp q1) (i4.mp q3); exact missC (k9.mp q1) w.1 w.2
      · have hc0 : ¬ c = 0 := fun w => q3 (i4.mpr w)
        exact missC (k9.mp q1) ((b40 (k9.mp q1) (by omega)).mp q4) (bf (fun w => q5 ((b42 (k9.mp q1)).mpr w)))
      · have hc0 : ¬ c = 0 := fun w => q3 (i4.mpr w)
        exact moreC hc0 ((b40 (k9.mp q1) (by omega)).mp q4) ((b42 (k9.mp q1)).mp q5)
      · have hc0 : ¬ c = 0 := fun w => q3 (i4.mpr w)
        exact pairC (k9.mp q1) hc0 (bf (fun w => q4 ((b40 (k9.mp q1) (by omega)).mpr w)))
      · exfalso
        have : ¬ 1 ≤ a := fun w => q1 (k9.mpr w)
        have := k4.mp q2
        omega
      · have : ¬ 1 ≤ a := fun w => q1 (k9.mpr w)
        have hc0 : ¬ c = 0 := fun w => q2 (k4.mpr w)
        have w := a0 (by omega)
        exact moreC hc0 w.1 w.2
theorem ct_walk (h0 : okL M s m) (hb0 : bitsOk M M s m 0 0) {PO IM : Nat → Int32} {N : Nat} (hW : WK (ppC M s m) s m (s + m) s m (fun _ => (-1)) (fun _ => 0) 0 = (PO, IM, N))
    (K : ∀ M', Fr sWk M M' → laidC M M' m PO s → (∀ b, b < 48 → gI M' 38 b = nI (cntM IM (gI M 6) (nI b) m)) → gI M' 35 3 = nI N → Q (.returned none) M') : Cal l D ad kA mX5_walk [.ref (ad 35), .ref (ad 4)] M Q := by
  have n48 : (48 : Int32) = nI 48 := rfl
  refine en_X5_walk (t_X5_walk_0 ?_)
  have loop : ∀ (j i : Nat) (M1 : Mem), i + j = 48 → Fr (fun c _ => c == 38) M M1 → (∀ b, b < i → gI M1 38 b = 0) → Fw l D ad kA mX5_walk 2 [some (.ref (ad 35)), some (.ref (ad 4)), some (.int (nI i)), none, none, none, none] [] M1 Q := by
    intro j
    induction j with
    | zero =>
      intro i M1 hi hf h38
      have hle : 48 ≤ nI i := by rw [n48, nI_leI (by omega) (by omega)]; omega
      refine t_X5_walk_2 (fun q => absurd hle q) (fun _ => ?_) (fun q => absurd hle q)
      have F1 : Fr sWk M (sI M1 35 3 0) := (hf.mono (fun c i q => by simp [sWk] at q; simp; omega)).sI rfl
      have := lp_wk33 (l := l) (D := D) (ad := ad) (kA := kA) (Q := Q) h0 hb0 K (s + m) 0 s m (fun _ => (-1)) (fun _ => 0) 0 (sI M1 35 3 0) (by omega) (by omega) (by omega) (by omega) F1 (fun k' hk' => by omega) (fun b hb => by
        rw [Nat.sub_self]
        show gI M1 38 b = nI 0
        rw [h38 b (by omega)]; rfl) (fun _ _ => rfl) rfl hW
      rw [Nat.sub_self, Nat.sub_self] at this
      exact this
    | succ j ih =>
      intro i M1 hi hf h38
      have hnle : ¬ 48 ≤ nI i := by rw [n48, nI_leI (by omega) (by omega)]; omega
      refine t_X5_walk_2 (fun _ => ixN (by omega) (by omega)) (fun q => absurd q hnle) (fun _ => ?_)
      rw [nI_clamp (by omega), nI_1]
      refine ih (i + 1) _ (by omega) (hf.sI rfl) (fun b hb => ?_)
      by_cases e : b = i
      · rw [e, gI_self]
      · rw [gI_oi e]; exact h38 b (by omega)
  exact loop 48 0 M (by omega) Fr.rf (fun b hb => by omega)
end WalkL
