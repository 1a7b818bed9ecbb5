/-! RANGES: the model's pieces -/
def sFP (c i : Nat) : Bool := c == 75 || c == 69 || c == 70 || (c == 54 && i == 31)
section PiecesM
variable {l : Launch} {D : va_G} {ad : Nat → Nat} {kA : Nat → ClassId} {M M0 : Mem} {Q : Outcome → Mem → Prop}
/-- what the model's weighing rests on -/
def okM (M : Mem) : Prop := (1 ≤ (gI M 65 1).toInt ∧ (gI M 65 1).toInt ≤ 12) ∧ gI M 54 40 = nI (ub M).length ∧ Row M 73 (ub M) ∧ szM M ≤ 160 ∧ (szM M : Int) = (gI M 54 10).toInt ∧ ∀ a, a < szM M → 0 ≤ (gI M 57 a).toInt ∧ (gI M 57 a).toInt ≤ 47
theorem okM.fr {S : Nat → Nat → Bool} (h : okM M0) (hf : Fr S M0 M) (hS : ∀ i, S 56 i = false ∧ S 57 i = false ∧ S 58 i = false ∧ S 59 i = false ∧ S 65 i = false) (h1 : S 54 10 = false) (h2 : S 54 40 = false) (h3 : ∀ i, S 73 i = false) : okM M := by
  obtain ⟨k1, k2, k3, k4, k5, k6⟩ := h
  obtain ⟨e1, e2, e3, e4⟩ := pure_fr hf hS h1
  refine ⟨by rw [hf.1 65 1 (hS 1).2.2.2.2]; exact k1, by rw [hf.1 54 40 h2, e1]; exact k2, by rw [e1]; exact k3.fr (fun i _ => hf.1 73 i (h3 i)), by rw [e3]; exact k4, by rw [e3, hf.1 54 10 h1]; exact k5, ?_⟩
  rw [e3]; intro a ha; rw [hf.1 57 a (hS a).2.1]; exact k6 a ha
theorem lp_fp15 (h : okM M0) {i : Nat} (hi : i < (ub M0).length)
    (K : ∀ M', Fr sFP M0 M' → (∀ i' j' : Nat, i' < i + 1 → i' < j' → j' ≤ (ub M0).length → gI M' 75 (49 * i' + j') = nI (PP M0 i' j')) → Fw l D ad kA mX13_findPieces 2 [some (.ref (ad 54)), some (.int (nI (i + 1))), none, none, none, none] [] M' Q) : ∀ (j n : Nat) (M : Mem), i + n + j = (ub M0).length → Fr sFP M0 M → (∀ i' j' : Nat, i' < i + 1 → i' < j' → j' ≤ (ub M0).length → (i' < i ∨ j' ≤ i + n) → gI M 75 (49 * i' + j') = nI (PP M0 i' j')) →
    Fw l D ad kA mX13_findPieces 15 [some (.ref (ad 54)), some (.int (nI i)), some (.long (zP M0 i n)), none, some (.int (nI (i + n))), none] [] M Q := by
  have hl := ub_len (M := M0)
  have hmost := h.1
  intro j
  induction j with
  | zero =>
    intro n M hn hf hd
    have e5 : gI M 54 40 = nI (ub M0).length := by rw [hf.1 54 40 rfl]; exact h.2.1
    have hle : gI M 54 40 ≤ nI (i + n) := by rw [e5, nI_leI (by omega) (by omega)]; omega
    refine t_X13_findPieces_15 (fun q => absurd hle q) (fun q => absurd hle q) (fun q => absurd hle q) (fun _ => ?_) (fun q => absurd hle q) (fun q => absurd hle q)
    rw [nI_1]
    exact K M hf (fun i' j' a1 a2 a3 => hd i' j' a1 a2 a3 (by omega))
  | succ j ih =>
    intro n M hn hf hd
    have hw := h.fr hf (fun _ => ⟨rfl, rfl, rfl, rfl, rfl⟩) rfl rfl (fun _ => rfl)
    obtain ⟨e1, e2, e3, e4⟩ := pure_fr hf (fun _ => ⟨rfl, rfl, rfl, rfl, rfl⟩) rfl
    have e5 : gI M 54 40 = nI (ub M0).length := by rw [hf.1 54 40 rfl]; exact h.2.1
    have hnle : ¬ gI M 54 40 ≤ nI (i + n) := by rw [e5, nI_leI (by omega) (by omega)]; omega
    have g73 : ∀ k, k < (ub M0).length → gI M 73 k = nI (uu M0 k) := by
      intro k hk
      rw [uu_get hk, hf.1 73 k rfl]; exact h.2.2.1.at hk
    have u1 := uu_lt (M := M0) (k := i + n) (by omega)
    have u2 := uu_lt (M := M0) (k := i) (by omega)
    have ec : 49 * nI i + nI (i + n) + 1 = nI (49 * i + (i + n + 1)) := by rw [show (49 : Int32) = nI 49 from rfl, nI_mul, nI_add, nI_1]; rfl
    have hin : vp_in (49 * nI i + nI (i + n) + 1) 2352 := by rw [ec]; exact ixN (by omega) (by omega)
    have cond : (if (gI M 65 (1 : Int32).toNatClampNeg) ≤ (nI (i + n) - nI i) then 0 else if (gI M 65 (2 : Int32).toNatClampNeg) < ((gI M 73 (nI (i + n)).toNatClampNeg) - (gI M 73 (nI i).toNatClampNeg)) then 0 else 1 : Int32) = 0 ↔ ¬ inP M0 i (i + n + 1) (uu M0 i) (uu M0 (i + n + 1 - 1)) := by
      rw [nI_clamp (by omega), nI_clamp (by omega), g73 _ (by omega), g73 _ (by omega), show (2 : Int32).toNatClampNeg = 2 from rfl, show (1 : Int32).toNatClampNeg = 1 from rfl, hf.1 65 2 rfl, hf.1 65 1 rfl]
      unfold inP
      rw [show i + n + 1 - 1 = i + n by omega]
      have w1 : (nI (uu M0 (i + n)) - nI (uu M0 i)).toInt = (uu M0 (i + n) : Int) - uu M0 i := by rw [i_sub, i_nI, i_nI] <;> (try rw [i_nI, i_nI]) <;> omega
      have w2 : (nI (i + n) - nI i).toInt = (n : Int) := by rw [nI_sub (by omega) (by omega)]; omega
      have hlt : gI M0 65 2 < nI (uu M0 (i + n)) - nI (uu M0 i) ↔ (gI M0 65 2).toInt < (uu M0 (i + n) : Int) - uu M0 i := by rw [i_lt, w1]
      have hle : gI M0 65 1 ≤ nI (i + n) - nI i ↔ (gI M0 65 1).toInt ≤ (n : Int) := by rw [i_le, w2]
      by_cases c1 : (gI M0 65 1).toInt ≤ (n : Int)
      · rw [if_pos (hle.mpr c1)]
        exact ⟨fun _ w => by omega, fun _ => rfl⟩
      · rw [if_neg (fun y => c1 (hle.mp y))]
        by_cases c2 : (gI M0 65 2).toInt < (uu M0 (i + n) : Int) - uu M0 i
        · rw [if_pos (hlt.mpr c2)]
          exact ⟨fun _ w => by omega, fun _ => rfl⟩
        · rw [if_neg (fun y => c2 (hlt.mp y))]
          exact ⟨fun z => absurd z (by decide), fun z => absurd ⟨by omega, by omega⟩ z⟩
    have zs : zP M0 i n ||| lshl 1 (gI M 73 (nI (i + n)).toNatClampNeg) = zP M0 i (n + 1) := by
      rw [nI_clamp (by omega), g73 _ (by omega), zP_succ (by omega)]
    refine t_X13_findPieces_15 (fun _ => ixN (by omega) (by omega)) (fun _ _ => ixN (by omega) (by omega)) (fun _ _ => hin) (fun q => absurd q hnle) (fun _ c => ?_) (fun _ c => ?_)
    · rw [cond] at c
      rw [zs, ec, nI_clamp (by omega), nI_1]
      refine ih (n + 1) _ (by omega) (hf.sI rfl) (fun i' j' a1 a2 a3 a4 => ?_)
      by_cases e : i' = i ∧ j' = i + n + 1
      · obtain ⟨rfl, rfl⟩ := e
        rw [gI_self, PP_f c]; rfl
      · rw [gI_oi (by omega)]
        exact hd i' j' a1 a2 a3 (by omega)
    · rw [cond] at c
      have c := Classical.not_not.mp c
      rw [zs, ec]
      refine ct_takesOfM (M := M) (s := szM M) hw.2.2.2.2.1 hw.2.2.2.1 hw.2.2.2.2.2 (fun M1 hf1 _ _ => ⟨_, rfl, t_X13_findPieces_102 (ixN (by omega) (by omega)) ?_⟩)
      have F1 : Fr sFP M0 M1 := hf.tr (hf1.mono (fun c i q => by simp [sFP] at q; simp [sTakesM]; omega))
      rw [nI_clamp (by omega), nI_1]
      refine ih (n + 1) _ (by omega) (F1.sI rfl) (fun i' j' a1 a2 a3 a4 => ?_)
      by_cases e : i' = i ∧ j' = i + n + 1
      · obtain ⟨rfl, rfl⟩ := e
        rw [gI_self, PP_t c, show i' + n + 1 - i' = n + 1 by omega]
        have : Ff (mvP M) (hlP M) none none (ons M (zP M0 i' (n + 1)) (szM M)) = tk M0 (zP M0 i' (n + 1)) := e2 _
        rw [this]
      · rw [gI_oi (by omega), hf1.1 75 _ rfl]
        exact hd i' j' a1 a2 a3 (by omega)
theorem lp_fp2 (h : okM M0) (K : ∀ M', Fr sFP M0 M' → (∀ i' j' : Nat, i' < j' → j' ≤ (ub M0).length → gI M' 75 (49 * i' + j') = nI (PP M0 i' j')) → Q (.returned none) M') : ∀ (j i : Nat) (M : Mem), i + j = (ub M0).length → Fr sFP M0 M → (∀ i' j' : Nat, i' < i → i' < j' → j' ≤ (ub M0).length → gI M 75 (49 * i' + j') = nI (PP M0 i' j')) →
    Fw l D ad kA mX13_findPieces 2 [some (.ref (ad 54)), some (.int (nI i)), none, none, none, none] [] M Q := by
  have hl := ub_len (M := M0)
  intro j
  induction j with
  | zero =>
    intro i M hi hf hd
    have e5 : gI M 54 40 = nI (ub M0).length := by rw [hf.1 54 40 rfl]; exact h.2.1
    have hle : gI M 54 40 ≤ nI i := by rw [e5, nI_leI (by omega) (by omega)]; omega
    exact t_X13_findPieces_2 (fun _ => K M hf (fun i' j' a1 a2 => hd i' j' (by omega) a1 a2)) (fun q => absurd hle q)
  | succ j ih =>
    intro i M hi hf hd
    have e5 : gI M 54 40 = nI (ub M0).length := by rw [hf.1 54 40 rfl]; exact h.2.1
    have hnle : ¬ gI M 54 40 ≤ nI i := by rw [e5, nI_leI (by omega) (by omega)]; omega
    refine t_X13_findPieces_2 (fun q => absurd q hnle) (fun _ => ?_)
    have z0 : zP M0 i 0 = 0 := by unfold zP; rw [List.take_zero]; rfl
    have := lp_fp15 (l := l) (D := D) (ad := ad) (kA := kA) (Q := Q) h (i := i) (by omega) (fun M1 hf1 hd1 => ih (i + 1) M1 (by omega) hf1 hd1) (j + 1) 0 M (by omega) hf (fun i' j' a1 a2 a3 a4 => hd i' j' (by omega) a2 a3)
    rw [z0] at this
    exact this
theorem ct_findPieces (h : okM M) (K : ∀ M', Fr sFP M M' → (∀ i' j' : Nat, i' < j' → j' ≤ (ub M).length → gI M' 75 (49 * i' + j') = nI (PP M i' j')) → Q (.returned none) M') : Cal l D ad kA mX13_findPieces [.ref (ad 54)] M Q :=
  en_X13_findPieces (t_X13_findPieces_0 (lp_fp2 h K (ub M).length 0 M (by omega) Fr.rf (fun i' j' a1 => by omega)))
end PiecesM
