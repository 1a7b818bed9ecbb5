/-! hands: the pair -/
theorem lb_zero {z : Int64} : z = 0 ↔ ∀ i, i < 64 → lb z i = false := by
  constructor
  · intro h i hi; rw [h, lb_0]
  · intro h; exact lb_ext (fun i hi => by rw [h i hi, lb_0])
theorem lneg {z : Int64} : z.toInt < 0 ↔ lb z 63 = true := by
  have h := BitVec.msb_eq_toInt (x := z.toBitVec)
  rw [BitVec.msb_eq_getLsbD_last] at h
  have e : z.toInt = z.toBitVec.toInt := rfl
  unfold lb
  rw [e]
  have h' : z.toBitVec.getLsbD 63 = decide (z.toBitVec.toInt < 0) := h
  rw [h', decide_eq_true_iff]
theorem hi_u {z : Int64} : lg_cmp (lushr z 48) 0 = 0 ↔ ∀ i, 48 ≤ i → i < 64 → lb z i = false := by
  rw [lg_cmp_eq, lb_zero]
  constructor
  · intro h i h1 h2
    have := h (i - 48) (by omega)
    rw [show (48 : Int32) = nI 48 from rfl, lb_ushr 48 (by omega), show 48 + (i - 48) = i by omega] at this
    exact this
  · intro h i hi
    rw [show (48 : Int32) = nI 48 from rfl, lb_ushr 48 (by omega)]
    by_cases c : 48 + i < 64
    · exact h _ (by omega) c
    · exact lb_big (by omega)
theorem hi_s {z : Int64} : lg_cmp (lshr z 48) 0 = 0 ↔ ∀ i, 48 ≤ i → i < 64 → lb z i = false := by
  rw [lg_cmp_eq, lb_zero]
  constructor
  · intro h i h1 h2
    have := h (i - 48) (by omega)
    rw [show (48 : Int32) = nI 48 from rfl, lb_shr 48 (by omega) _ (by omega), if_pos (by omega), show 48 + (i - 48) = i by omega] at this
    exact this
  · intro h i hi
    rw [show (48 : Int32) = nI 48 from rfl, lb_shr 48 (by omega) _ (by omega)]
    split
    · exact h _ (by omega) (by omega)
    · exact h 63 (by omega) (by omega)
def sHands (c i : Nat) : Bool := c == 19 || c == 20 || (c == 17 && (i == 3 || i == 5 || i == 7)) || c == 18 || c == 69 || c == 70 || c == 71 || c == 72 || (c == 54 && (i == 31 || i == 32))
section HandsT
variable {l : Launch} {D : va_G} {ad : Nat → Nat} {kA : Nat → ClassId} {M M0 : Mem} {Q : Outcome → Mem → Prop} {L : List Nat} {s : Nat}
theorem lp_hm36 {r : Int32} (K : ∀ M', Fr sHM M0 M' → (∀ a, a < 160 → gI M' 71 a = (-1)) → Fw l D ad kA mX13_hands 82 [some (.ref (ad 54)), none, none, some (.int r), some (.int 0), some (.int r), none] [] (sI (sI M' 72 (0 : Int32).toNatClampNeg 160) 72 (1 : Int32).toNatClampNeg 160) Q) : ∀ (j i : Nat) (M : Mem), i + j = 160 → Fr sHM M0 M → (∀ a, a < i → gI M 71 a = (-1)) →
    Fw l D ad kA mX13_hands 36 [some (.ref (ad 54)), none, none, some (.int r), some (.int (nI i)), none, none] [] M Q := by
  intro j
  induction j with
  | zero =>
    intro i M hi hf ha
    have hle : 160 ≤ nI i := by rw [n160, nI_leI (by omega) (by omega)]; omega
    exact t_X13_hands_36 (fun q => absurd hle q) (fun _ => K M hf (fun a h => ha a (by omega))) (fun q => absurd hle q)
  | succ j ih =>
    intro i M hi hf ha
    have hnle : ¬ 160 ≤ nI i := by rw [n160, nI_leI (by omega) (by omega)]; omega
    refine t_X13_hands_36 (fun _ => ix (by omega)) (fun q => absurd q hnle) (fun _ => ?_)
    rw [nI_clamp (by omega), nI_1]
    refine ih (i + 1) _ (by omega) (hf.sI rfl) (fun a h => ?_)
    by_cases e : a = i
    · rw [e, gI_self]
    · rw [gI_oi e]; exact ha a (by omega)
theorem pr_hands {z : Int64} (hs : RScore M) (hr : RRule M) (hh : RHands M) : Two l D ad kA mX11_hands mX13_hands [.long z] M (fun M2 => Fr sHands M M2 ∧ RHands M2) := by
  obtain ⟨s, -, hss, -⟩ := i_nat hs.2.1.1
  have hsm := SameAll.of hs hr hss
  have hneg : (∀ i, 48 ≤ i → i < 64 → lb z i = false) → ¬ lg_cmp z 0 < 0 := by
    intro h
    rw [lg_cmp_lt, Int64.lt_iff_toInt_lt, m0, lneg, h 63 (by omega) (by omega)]
    decide
  refine en_X11_hands (t_X11_hands_0 (fun c => ?_) (fun c => ?_))
  · rw [hi_u] at c
    have cn := hneg c
    refine en_X3_choose (t_X3_choose_0 (ct_takesOfC hss hsm (bells_ok hs hss) (fun M1 hf1 ho1 hr1 => ⟨_, rfl, ?_⟩)))
    obtain ⟨e1, e2⟩ := costs_fr hf1 (fun i => ⟨rfl, rfl, rfl, rfl, rfl⟩)
    have hb := bells_ok hs hss
    have hF1 : Fr sHands M M1 := hf1.mono (fun c i q => by simp [sHands] at q; simp [sTakesC]; omega)
    -- the model, behind the class
    have mod : ∀ M2, Fr sHands M M2 → (∀ i, gI M2 57 i = gI M 57 i) → (Ff (mvP M) (hlP M) none none (ons M z s) < 1000000 → gI M2 17 3 = 1 ∧ ∃ f : Nat → Int32, (∀ a, a < 160 → f a = (-1)) ∧ ∀ a, gI M2 18 a = HF (mvP M) (hlP M) none none (ons M z s) f a) → (¬ Ff (mvP M) (hlP M) none none (ons M z s) < 1000000 → M2 = M1) → Cal l D ad kA mX13_hands (.ref (ad 54) :: [.long z]) M2 (fun oc2 M3 => oc2 = .returned (some (.int (v_X11_orNone (nE (Ff (mvP M) (hlP M) none none (ons M z s)))))) ∧ Fr sHands M M3 ∧ RHands M3) := by
      intro M2 hf2 h57 k1 k2
      obtain ⟨e3, e4⟩ := costs_fr hf2 (fun i => ⟨rfl, rfl, rfl, rfl, rfl⟩)
      have eo : ons M2 z s = ons M z s := ons_congr h57
      refine en_X13_hands (t_X13_hands_0 (fun q => absurd q cn) (fun _ _ => ct_takesOfM (M := M2) (s := s) (by rw [hf2.1 54 10 rfl, ← hs.1]; exact hss) hsm.1 (fun a ha => by rw [h57]; exact hb a ha) (fun M3 hf3 ho3 hc3 => ⟨_, rfl, ?_⟩)) (fun _ q => absurd (hi_s.mpr c) q))
      rw [e3, e4, eo, or_eq]
      rw [eo] at ho3 hc3
      have hf3' : Fr sHands M M3 := hf2.tr (hf3.mono (fun c i q => by simp [sHands] at q; simp [sTakesM]; omega))
      have key : nI (min 1000000 (Ff (mvP M) (hlP M) none none (ons M z s))) < 1000000 ↔ Ff (mvP M) (hlP M) none none (ons M z s) < 1000000 := by
        rw [show (1000000 : Int32) = nI 1000000 from rfl, nI_ltI (by omega) (by omega)]; omega
      refine t_X13_hands_23 (fun q => ?_) (fun q => ?_)
      · rw [if_pos q]
        rw [key] at q
        obtain ⟨w1, f, w2, w3⟩ := k1 q
        obtain ⟨e5, e6⟩ := costs_fr (hf3'.mono (S' := sHands) (fun _ _ q => q)) (fun i => ⟨rfl, rfl, rfl, rfl, rfl⟩)
        refine lp_hm36 (M0 := M3) (fun M4 hf4 ha4 => ?_) 160 0 M3 (by omega) Fr.rf (fun a ha => by omega)
        generalize hM5 : sI (sI M4 72 (0 : Int32).toNatClampNeg 160) 72 (1 : Int32).toNatClampNeg 160 = M5
        have hf5 : Fr sHM M3 M5 := by rw [← hM5]; exact (hf4.sI rfl).sI rfl
        have g0 : gI M5 72 0 = nI 160 := by rw [← hM5]; rfl
        have g1 : gI M5 72 1 = nI 160 := by rw [← hM5]; rfl
        have g71 : ∀ a, a < 160 → gI M5 71 a = (-1) := fun a ha => by rw [← hM5]; exact ha4 a ha
        have hck : allCk M3 M3 (ons M z s) := by
          intro n hd q a1 a2 a3 a4
          have := hc3 n hd q a1 a2 a3 a4
          unfold ck at this ⊢
          rw [e3, e4] at this
          rw [e5, e6]; exact this
        have g160 := get160 ho3
        have fin := lp_hm82 (l := l) (D := D) (ad := ad) (kA := kA) (r := nI (min 1000000 (Ff (mvP M) (hlP M) none none (ons M z s)))) (T := HF (mvP M) (hlP M) none none (ons M z s) (gI M5 71)) (Q := fun oc2 M3 => oc2 = .returned (some (.int (nI (min 1000000 (Ff (mvP M) (hlP M) none none (ons M z s)))))) ∧ Fr sHands M M3 ∧ RHands M3) ho3 (fun a ha => by rw [hf3'.1 57 a rfl]; exact (hb a ha).1) hck (fun M6 hf6 ht => ?_) (ons M z s).length 0 160 160 M5 (by omega) hf5 g0 g1 (.inr rfl) (.inr rfl) (by rw [g160, e5, e6]; exact q) (by rw [g160, e5, e6]; rfl)
        · rw [g160, e5, e6] at fin
          have em : min 1000000 (Ff (mvP M) (hlP M) none none (ons M z s)) = Ff (mvP M) (hlP M) none none (ons M z s) := by omega
          rw [em] at fin ⊢
          exact fin
        · have F6 : Fr sHands M (sI M6 54 32 1) := (hf3'.tr (hf6.mono (fun c i q => by simp [sHands] at q; simp [sHM]; omega))).sI rfl
          refine ⟨rfl, F6, ?_, fun _ a ha => ?_⟩
          · show gI M6 17 3 = 1
            rw [hf6.1 17 3 rfl, hf3.1 17 3 rfl]; exact w1
          · rw [F6.1 9 4 rfl] at ha
            have := hsm.1
            show gI M6 18 a = gI M6 71 a
            rw [ht a, hf6.1 18 a rfl, hf3.1 18 a rfl, w3 a]
            exact HF_congr _ _ _ _ _ (by rw [w2 a (by omega), g71 a (by omega)])
      · rw [if_neg q]
        rw [key] at q
        have w := k2 q
        subst w
        refine ⟨rfl, hf3', ?_⟩
        unfold RHands
        rw [hf3'.1 9 4 rfl, hf3.1 17 3 rfl, hf1.1 17 3 rfl, hf3.1 54 32 rfl, hf1.1 54 32 rfl]
        refine ⟨hh.1, fun w a ha => ?_⟩
        rw [hf3.1 18 a rfl, hf1.1 18 a rfl, hf3.1 71 a rfl, hf1.1 71 a rfl]
        exact hh.2 w a ha
    refine t_X3_choose_5 (fun q => ⟨_, rfl, t_X11_hands_20 ⟨_, rfl, mod M1 hF1 (fun i => hf1.1 57 i rfl) (fun w => ?_) (fun _ => rfl)⟩⟩) (fun q => ?_)
    · rw [i_le, nNEV, nE_toInt, if_pos w] at q
      omega
    · have w : Ff (mvP M) (hlP M) none none (ons M z s) < 1000000 := by
        apply Classical.byContradiction
        intro w
        apply q
        rw [i_le, nNEV, nE_toInt, if_neg w]
        exact Int.le_refl _
      refine ct_keepHands ho1 (hsm.fr hf1 (fun _ => ⟨⟨rfl, rfl, rfl, rfl, rfl⟩, rfl, rfl, rfl, rfl, rfl⟩)) (by unfold RestOk at hr1 ⊢; rw [e1, e2]; exact hr1) (by rw [e1, e2]; exact w) (fun M2 hf2 g3 ⟨f, hf, ht⟩ => ⟨rfl, t_X3_choose_16 ⟨_, rfl, t_X11_hands_20 ⟨_, rfl, mod M2 (hF1.tr (hf2.mono (fun c i q => by simp [sHands] at q; simp [sKeep]; omega))) (fun i => (hf2.1 57 i rfl).trans (hf1.1 57 i rfl)) (fun _ => ⟨g3, f, hf, fun a => by rw [ht a, e1, e2]⟩) (fun q => absurd w q)⟩⟩⟩)
  · rw [hi_u] at c
    refine ⟨_, rfl, en_X13_hands (t_X13_hands_0 (fun _ => ⟨rfl, Fr.rf, hh⟩) (fun _ q => absurd (hi_s.mp q) c) (fun _ _ => ⟨rfl, Fr.rf, hh⟩))⟩
end HandsT
