/-! part, cover: those who stand there; the searches as contracts -/
def stR (M : Mem) (x : Int32) (t : Nat) : List Nat := (List.range t).filter (fun r => decide (gI M 52 r = 0 ∧ ¬ nI r = x))
theorem stR_len {M : Mem} {x : Int32} {t : Nat} : (stR M x t).length ≤ t := rfl_len
theorem stR_lt {M : Mem} {x : Int32} {t a : Nat} (h : a ∈ stR M x t) : a < t := List.mem_range.mp (List.mem_filter.mp h).1
theorem stR_y {M : Mem} {x : Int32} {i : Nat} (h : gI M 52 i = 0 ∧ ¬ nI i = x) : stR M x (i + 1) = stR M x i ++ [i] := by
  unfold stR
  rw [List.range_succ, List.filter_append, List.filter_cons_of_pos (by rw [decide_eq_true_iff]; exact h), List.filter_nil]
theorem stR_n {M : Mem} {x : Int32} {i : Nat} (h : ¬ (gI M 52 i = 0 ∧ ¬ nI i = x)) : stR M x (i + 1) = stR M x i := by
  unfold stR
  rw [List.range_succ, List.filter_append, List.filter_cons_of_neg (by rw [decide_eq_true_iff]; exact h), List.filter_nil, List.append_nil]
theorem nI_div {a b : Nat} (ha : a < 2147483648) (hb : b < 2147483648) : nI a / nI b = nI (a / b) := by
  have h : a / b ≤ a := Nat.div_le_self a b
  have e : (a : Int).tdiv b = ((a / b : Nat) : Int) := (Int.ofNat_tdiv a b).symm
  rw [i_eq, Int32.toInt_div, i_nI ha, i_nI hb, i_nI (by omega), e]
  generalize a / b = q at h ⊢
  exact Int.bmod_eq_of_le (by omega) (by omega)
theorem ArrR_congr {nn : Nat → Nat → Nat} {R R' : Nat → Int32} : ∀ j r i k, (∀ a, r ≤ a → a < r + j → R a = R' a) → ArrR nn R j r i k = ArrR nn R' j r i k := by
  intro j
  induction j with
  | zero => intro r i k _; rfl
  | succ j ih =>
    intro r i k h
    unfold ArrR
    rw [h r (by omega) (by omega), ih (r + 1) _ k (fun a a1 a2 => h a (by omega) (by omega))]
section Part1
variable {l : Launch} {D : va_G} {ad : Nat → Nat} {kA : Nat → ClassId} {M M0 : Mem} {Q : Outcome → Mem → Prop}
def sSt (c i : Nat) : Bool := c == 25 || (c == 22 && i == 6)
theorem lp_sa10 {x : Int32} {t : Nat} (ht : gI M0 0 11 = nI t) (ht2 : t ≤ 12) (K : ∀ M', Fr sSt M0 M' → gI M' 22 6 = nI (stR M0 x t).length → Row M' 25 (stR M0 x t) → Q (.returned none) M') : ∀ (j i : Nat) (M : Mem), i + j = t → Fr sSt M0 M → gI M 22 6 = nI (stR M0 x i).length → Row M 25 (stR M0 x i) →
    Fw l D ad kA mX11_standAllBut 10 [some (.ref (ad 0)), some (.int x), some (.int (nI i))] [] M Q := by
  intro j
  induction j with
  | zero =>
    intro i M hi hf h1 h2
    have e : gI M 0 11 = nI t := by rw [hf.1 0 11 rfl]; exact ht
    have hle : gI M 0 11 ≤ nI i := by rw [e, nI_leI (by omega) (by omega)]; omega
    have : i = t := by omega
    subst this
    exact t_X11_standAllBut_10 (fun q => absurd hle q) (fun _ => K M hf h1 h2) (fun q => absurd hle q) (fun q => absurd hle q) (fun q => absurd hle q)
  | succ j ih =>
    intro i M hi hf h1 h2
    have e : gI M 0 11 = nI t := by rw [hf.1 0 11 rfl]; exact ht
    have hnle : ¬ gI M 0 11 ≤ nI i := by rw [e, nI_leI (by omega) (by omega)]; omega
    have e52 : gI M 52 i = gI M0 52 i := hf.1 52 i rfl
    have hlen := stR_len (M := M0) (x := x) (t := i)
    refine t_X11_standAllBut_10 (fun _ => ix12 (by omega)) (fun q => absurd q hnle) (fun _ c => ?_) (fun _ c1 c2 => ?_) (fun _ c1 c2 => ?_)
    · rw [nI_clamp (by omega), e52] at c
      rw [nI_1]
      exact ih (i + 1) M (by omega) hf (by rw [stR_n (fun z => c z.1)]; exact h1) (by rw [stR_n (fun z => c z.1)]; exact h2)
    · rw [nI_1]
      exact ih (i + 1) M (by omega) hf (by rw [stR_n (fun z => z.2 c2)]; exact h1) (by rw [stR_n (fun z => z.2 c2)]; exact h2)
    · rw [nI_clamp (by omega), e52] at c1
      have hy := stR_y (M := M0) (x := x) (i := i) ⟨c1, c2⟩
      have hn12 : ¬ 12 ≤ gI M 22 6 := by rw [h1, show (12 : Int32) = nI 12 from rfl, nI_leI (by omega) (by omega)]; omega
      refine en_X7_stand (t_X7_stand_0 (fun _ => by rw [h1]; exact ix12 (by omega)) (fun q => absurd q hn12) (fun _ => ⟨rfl, t_X11_standAllBut_40 ?_⟩))
      rw [h1, nI_clamp (by omega), nI_1, nI_1]
      refine ih (i + 1) _ (by omega) ((hf.sI rfl).sI rfl) ?_ ?_
      · rw [hy, List.length_append]; rfl
      · rw [hy]
        refine h2.put (fun k hk => ?_) ?_
        · rw [gI_o (by omega), gI_oi (by omega)]
        · rw [gI_o (by omega), gI_self]
theorem ct_standAllBut {x : Int32} {t : Nat} (ht : gI M 0 11 = nI t) (ht2 : t ≤ 12) (K : ∀ M', Fr sSt M M' → gI M' 22 6 = nI (stR M x t).length → Row M' 25 (stR M x t) → Q (.returned none) M') : Cal l D ad kA mX11_standAllBut [.ref (ad 0), .int x] M Q :=
  en_X11_standAllBut (t_X11_standAllBut_0 (lp_sa10 (M0 := M) ht ht2 K t 0 (sI M 22 6 0) (by omega) (Fr.rf.sI rfl) rfl (fun i b e => by cases e)))
def sTh (c i : Nat) : Bool := c == 74 || (c == 54 && i == 41)
theorem lp_ft7 {x : Int32} {t : Nat} (ht : gI M0 54 23 = nI t) (ht2 : t ≤ 12) (h67 : ∀ a, a < 12 → gI M0 52 a = gI M0 67 a) (K : ∀ M', Fr sTh M0 M' → gI M' 54 41 = nI (stR M0 x t).length → Row M' 74 (stR M0 x t) → Q (.returned none) M') : ∀ (j i : Nat) (M : Mem), i + j = t → Fr sTh M0 M → gI M 54 41 = nI (stR M0 x i).length → Row M 74 (stR M0 x i) →
    Fw l D ad kA mX13_findThere 7 [some (.ref (ad 54)), some (.int x), some (.int (nI i))] [] M Q := by
  intro j
  induction j with
  | zero =>
    intro i M hi hf h1 h2
    have e : gI M 54 23 = nI t := by rw [hf.1 54 23 rfl]; exact ht
    have hle : gI M 54 23 ≤ nI i := by rw [e, nI_leI (by omega) (by omega)]; omega
    have : i = t := by omega
    subst this
    exact t_X13_findThere_7 (fun q => absurd hle q) (fun q => absurd hle q) (fun _ => K M hf h1 h2) (fun q => absurd hle q) (fun q => absurd hle q) (fun q => absurd hle q)
  | succ j ih =>
    intro i M hi hf h1 h2
    have e : gI M 54 23 = nI t := by rw [hf.1 54 23 rfl]; exact ht
    have hnle : ¬ gI M 54 23 ≤ nI i := by rw [e, nI_leI (by omega) (by omega)]; omega
    have e67 : gI M 67 i = gI M0 52 i := by rw [hf.1 67 i rfl]; exact (h67 i (by omega)).symm
    have hlen := stR_len (M := M0) (x := x) (t := i)
    refine t_X13_findThere_7 (fun _ => ix12 (by omega)) (fun _ _ _ => by rw [h1]; exact ix12 (by omega)) (fun q => absurd q hnle) (fun _ c => ?_) (fun _ c1 c2 => ?_) (fun _ c1 c2 => ?_)
    · rw [nI_clamp (by omega), e67] at c
      rw [nI_1]
      exact ih (i + 1) M (by omega) hf (by rw [stR_n (fun z => c z.1)]; exact h1) (by rw [stR_n (fun z => c z.1)]; exact h2)
    · rw [nI_clamp (by omega), e67] at c1
      have hy := stR_y (M := M0) (x := x) (i := i) ⟨c1, c2⟩
      rw [h1, nI_clamp (by omega), nI_1, nI_1]
      refine ih (i + 1) _ (by omega) ((hf.sI rfl).sI rfl) ?_ ?_
      · rw [hy, List.length_append]; rfl
      · rw [hy]
        refine h2.put (fun k hk => ?_) ?_
        · rw [gI_o (by omega), gI_oi (by omega)]
        · rw [gI_o (by omega), gI_self]
    · rw [nI_1]
      exact ih (i + 1) M (by omega) hf (by rw [stR_n (fun z => z.2 c2)]; exact h1) (by rw [stR_n (fun z => z.2 c2)]; exact h2)
theorem ct_findThere {x : Int32} {t : Nat} (ht : gI M 54 23 = nI t) (ht2 : t ≤ 12) (h67 : ∀ a, a < 12 → gI M 52 a = gI M 67 a) (K : ∀ M', Fr sTh M M' → gI M' 54 41 = nI (stR M x t).length → Row M' 74 (stR M x t) → Q (.returned none) M') : Cal l D ad kA mX13_findThere [.ref (ad 54), .int x] M Q :=
  en_X13_findThere (t_X13_findThere_0 (lp_ft7 (M0 := M) ht ht2 h67 K t 0 (sI M 54 41 0) (by omega) (Fr.rf.sI rfl) rfl (fun i b e => by cases e)))
def s79 (c i : Nat) : Bool := c == 79
theorem lp_fo2 {u : Nat} (hu : u ≤ 48) (e40 : gI M0 54 40 = nI u) (K : ∀ M', Fr s79 M0 M' → (∀ a, a < u → gI M' 79 a = (-1)) → Q (.returned none) M') : ∀ (j i : Nat) (M : Mem), i + j = u → Fr s79 M0 M → (∀ a, a < i → gI M 79 a = (-1)) →
    Fw l D ad kA mX13_forgetHad 2 [some (.ref (ad 54)), some (.int (nI i))] [] M Q := by
  intro j
  induction j with
  | zero =>
    intro i M hi hf ha
    have hle : gI M 54 40 ≤ nI i := by rw [hf.1 54 40 rfl, e40, nI_leI (by omega) (by omega)]; omega
    exact t_X13_forgetHad_2 (fun q => absurd hle q) (fun _ => K M hf (fun a h => ha a (by omega))) (fun q => absurd hle q)
  | succ j ih =>
    intro i M hi hf ha
    have hnle : ¬ gI M 54 40 ≤ nI i := by rw [hf.1 54 40 rfl, e40, nI_leI (by omega) (by omega)]; omega
    refine t_X13_forgetHad_2 (fun _ => ixN (by omega) (by omega)) (fun q => absurd q hnle) (fun _ => ?_)
    rw [nI_clamp (by omega), nI_1]
    refine ih (i + 1) _ (by omega) (hf.sI rfl) (fun a h => ?_)
    by_cases e : a = i
    · rw [e, gI_self]
    · rw [gI_oi e]; exact ha a (by omega)
def sFR (c i : Nat) : Bool := c == 75 || c == 69 || c == 70 || (c == 54 && i == 31) || c == 76 || c == 77 || c == 78
theorem ct_findRanges {w : Nat} {h : Nat → Nat → Nat → Nat} {off : Nat → Nat} (hM : okM M) (hub : ub M = ub M0) (hPP : ∀ i j, PP M i j = PP M0 i j) (hR : okR (ub M0).length (PP M0) h (nSt M0)) (hw : w ≤ 12) (h41 : gI M 54 41 = nI w) (ho1 : ∀ i, off i ≤ 48) (ho2 : off (ub M0).length = 0) (hch : ∀ r i j, r < w → i ≤ j → j ≤ (ub M0).length → chN (gI M 79) (gI M 74 r) (j - i) i + off j = h r i j + off i)
    (K : ∀ M', Fr sFR M M' → okG M0 M' w h off → (∀ r', r' ≤ w → ∀ j, j ≤ (ub M0).length → tblOk M0 M' w h off r' j) → Q (.returned (some (.int (if GG (ub M0).length w (PP M0) h w 0 = none then 0 else 1)))) M') : Cal l D ad kA mX13_findRanges [.ref (ad 54)] M Q := by
  refine en_X13_findRanges (t_X13_findRanges_0 (ct_findPieces hM (fun M1 hf1 hp => ⟨rfl, t_X13_findRanges_4 ?_⟩)))
  have e79 : gI M1 79 = gI M 79 := funext (fun i => hf1.1 79 i rfl)
  have k1 : okG M0 M1 w h off := ⟨hR, hw, by rw [hf1.1 54 40 rfl, ← hub]; exact hM.2.1, by rw [hf1.1 54 41 rfl]; exact h41, fun i j a1 a2 => by rw [hp i j a1 (by rw [hub]; exact a2), hPP], ho1, ho2, fun r i j a1 a2 a3 => by rw [e79, hf1.1 74 r rfl]; exact hch r i j a1 a2 a3⟩
  have hl := ub_len (M := M0)
  refine lp_fr6 k1 (fun M2 hf2 ht2 => ?_) ((ub M0).length + 1) 0 M1 (by omega) Fr.rf (fun j' a1 => by omega)
  refine lp_fr83 k1 (fun M3 hf3 ht3 => ?_) w M2 (Nat.le_refl _) hf2 (fun r' a1 a2 j' a3 => by
    have : r' = w := by omega
    subst this
    exact ht2 j' a3)
  refine K M3 ?_ (k1.fr hf3 ⟨rfl, rfl⟩ (fun _ => ⟨rfl, rfl, rfl⟩)) ht3
  exact (hf1.mono (fun c i q => by simp [sFR] at q; simp [sFP]; omega)).tr (hf3.mono (fun c i q => by simp [sFR] at q; simp [sR3]; omega))
def sTR (c i : Nat) : Bool := c == 68 || (c == 54 && i == 26)
theorem ct_takeRanges {w : Nat} {h : Nat → Nat → Nat → Nat} {off : Nat → Nat} (k : okG M0 M w h off) (hm : 1 ≤ (gI M0 65 1).toInt) (h73 : ∀ k, k < (ub M0).length → gI M 73 k = nI (uu M0 k)) (ht : ∀ r', r' ≤ w → ∀ j, j ≤ (ub M0).length → tblOk M0 M w h off r' j) (hg : ¬ GG (ub M0).length w (PP M0) h w 0 = none)
    (K : ∀ M', Fr sTR M M' → gI M' 54 26 = 1 → (∀ k, k < (ub M0).length → gI M' 68 (uu M0 k) = ArrR (nnR M0 w h) (gI M 74) w 0 0 k) → (∀ b, b < 48 → (∀ k, k < (ub M0).length → ¬ uu M0 k = b) → gI M' 68 b = (-1)) → Q (.returned none) M') : Cal l D ad kA mX13_takeRanges [.ref (ad 54)] M Q := by
  refine en_X13_takeRanges (t_X13_takeRanges_0 (lp_tr2 (M := M) (fun M1 hf1 h1 => ?_) 48 0 M (by omega) Fr.rf (fun a ha => by omega)))
  have k1 := k.fr hf1 ⟨rfl, rfl⟩ (fun _ => ⟨rfl, rfl, rfl⟩)
  have ht1 : ∀ r', r' ≤ w → ∀ j, j ≤ (ub M0).length → tblOk M0 M1 w h off r' j := by
    intro r' a1 j' a2
    have := ht r' a1 j' a2
    unfold tblOk at this ⊢
    rw [hf1.1 76 _ rfl, hf1.1 77 _ rfl, hf1.1 78 _ rfl]
    exact this
  have e74 : gI M1 74 = gI M 74 := funext (fun i => hf1.1 74 i rfl)
  refine lp_tr25 k1 hm (fun k hk => by rw [hf1.1 73 k rfl]; exact h73 k hk) ht1 (fun M2 hf2 hA ho => ?_) w 0 0 M1 (by omega) (by omega) Fr.rf (by
    rw [Nat.sub_zero]
    cases e : GG (ub M0).length w (PP M0) h w 0 with
    | none => exact absurd e hg
    | some x => exact ⟨x, rfl⟩) (fun k hk => by omega) (fun _ _ => rfl) (fun k _ => rfl)
  refine K _ ?_ rfl (fun k hk => ?_) (fun b hb hn => ?_)
  · exact ((hf1.tr hf2).mono (fun c i q => by simp [sTR] at q; simp [s68]; omega)).sI rfl
  · show gI M2 68 _ = _
    rw [hA k hk, e74]
  · show gI M2 68 _ = _
    rw [ho b hn]; exact h1 b hb
end Part1
