/-! the model's scan, by the same value -/
theorem and255_all : ∀ k : Fin 256, ((Int32.ofInt ((k.val : Int) - 128)) &&& 255).toInt = if (k.val : Int) - 128 < 0 then (k.val : Int) - 128 + 256 else (k.val : Int) - 128 := by decide +kernel
theorem and255 {v : Int32} (h : -128 ≤ v.toInt ∧ v.toInt ≤ 127) : (v &&& 255).toInt = if v.toInt < 0 then v.toInt + 256 else v.toInt := by
  have h1 := and255_all ⟨(v.toInt + 128).toNat, by omega⟩
  have h2 : (((v.toInt + 128).toNat : Nat) : Int) - 128 = v.toInt := by omega
  have h3 : Int32.ofInt v.toInt = v := Int32.ofInt_toInt v
  simp only [h2, h3] at h1
  exact h1
theorem let0m {v : Int32} (h : -128 ≤ v.toInt ∧ v.toInt ≤ 127) : v_X13_isSmall (v &&& 255) = 0 ↔ isL v = false := by
  have a : (97 : Int32).toInt = 97 := by decide
  have b : (122 : Int32).toInt = 122 := by decide
  have e := and255 h
  unfold v_X13_isSmall isL
  simp only [i_lt, a, b, e, decide_eq_false_iff_not]
  split at e <;> (split <;> first | (simp; omega) | (split <;> (simp; omega)))
theorem dig0m {v : Int32} (h : -128 ≤ v.toInt ∧ v.toInt ≤ 127) : v_X13_isDigit (v &&& 255) = 0 ↔ isD v = false := by
  have a : (48 : Int32).toInt = 48 := by decide
  have b : (57 : Int32).toInt = 57 := by decide
  have e := and255 h
  unfold v_X13_isDigit isD
  simp only [i_lt, a, b, e, decide_eq_false_iff_not]
  split at e <;> (split <;> first | (simp; omega) | (split <;> (simp; omega)))
theorem sem0m {v : Int32} (h : -128 ≤ v.toInt ∧ v.toInt ≤ 127) : (v &&& 255) = 59 ↔ v.toInt = 59 := by
  have a : (59 : Int32).toInt = 59 := by decide
  have e := and255 h
  rw [i_eq, a, e]
  split <;> omega
theorem dig_255 {v : Int32} (h : isD v = true) : v &&& 255 = v := by
  have : 48 ≤ v.toInt ∧ v.toInt ≤ 57 := by simpa [isD] using h
  rw [i_eq, and255 (by omega), if_neg (by omega)]
theorem byteAtM_in {M : Mem} {n i : Nat} (h : gI M 54 3 = nI n) (hi : i < n) (hn : n ≤ 1200) : v_X13_byteAt M (nI i) = gI M 55 i &&& 255 := by
  unfold v_X13_byteAt
  rw [h, if_neg (by rw [i_le, i_nI (by omega), i_nI (by omega)]; omega), nI_clamp (by omega)]
theorem byteAtM_end {M : Mem} {n : Nat} (h : gI M 54 3 = nI n) : v_X13_byteAt M (nI n) = 0 := by
  unfold v_X13_byteAt
  rw [h, if_pos (Int32.le_refl _)]
theorem byteAtM_g {M : Mem} {n i : Nat} (h : gI M 54 3 = nI n) (hi : i ≤ n) (hn : n ≤ 1200) : g_X13_byteAt M (nI i) := by
  intro h1
  rw [h, i_le, i_nI (by omega), i_nI (by omega)] at h1
  exact vin_of (by rw [i_nI (by omega)]; omega) (by rw [i_nI (by omega)]; omega)
section Scan
variable {l : Launch} {D : va_G} {ad : Nat → Nat} {kA : Nat → ClassId} {Q : Outcome → Mem → Prop}
def sScan (c i : Nat) : Bool := c == 54 && (i == 4 || i == 5 || i == 6 || i == 7)
theorem lp_wordM {n s : Nat} {M0 : Mem} (hn : n ≤ 1200) (hr : ∀ a : Nat, a < n → -128 ≤ (gI M0 55 a).toInt ∧ (gI M0 55 a).toInt ≤ 127) : ∀ (j i : Nat), n - i = j → s ≤ i → i ≤ n → ∀ M, gI M 54 3 = nI n → gI M 54 5 = nI i → gI M 54 4 = nI s → Fr sScan M0 M →
    (∀ M', Fr sScan M0 M' → gI M' 54 6 = (if run isL (gI M0 55) n i - s ≤ 8 then 1 else 4) → gI M' 54 4 = nI s → gI M' 54 5 = nI (run isL (gI M0 55) n i) → Q (.returned none) M') →
    Fw l D ad kA mX13_scan 95 [some (.ref (ad 54)), none] [] M Q := by
  intro j
  have a : (8 : Int32).toInt = 8 := by decide
  have fin : ∀ (i : Nat) (M : Mem), s ≤ i → i ≤ n → gI M 54 5 = nI i → gI M 54 4 = nI s → (if gI M 54 5 - gI M 54 4 ≤ 8 then (1 : Int32) else 4) = (if i - s ≤ 8 then 1 else 4) := by
    intro i M hs hi h5 h4
    rw [h5, h4]
    simp only [i_le, nI_sub hs (show i < 2147483648 by omega), a]
    by_cases q : i - s ≤ 8
    · rw [if_pos (by omega), if_pos q]
    · rw [if_neg (by omega), if_neg q]
  induction j with
  | zero =>
    intro i hj hs hi M h3 h5 h4 hF K
    have hin : i = n := by omega
    have hg : g_X13_byteAt M (gI M 54 5) := by rw [h5]; exact byteAtM_g h3 hi hn
    have hb : v_X13_byteAt M (gI M 54 5) = 0 := by rw [h5, hin]; exact byteAtM_end h3
    rw [run_stop (by omega)] at K
    exact t_X13_scan_95 hg (fun _ => K _ (hF.sI rfl) (fin i M hs hi h5 h4) h4 h5) (fun c => absurd (by rw [hb]; decide) c)
  | succ j ih =>
    intro i hj hs hi M h3 h5 h4 hF K
    have hlt : i < n := by omega
    have hg : g_X13_byteAt M (gI M 54 5) := by rw [h5]; exact byteAtM_g h3 hi hn
    have hb : v_X13_byteAt M (gI M 54 5) = gI M0 55 i &&& 255 := by rw [h5, byteAtM_in h3 hlt hn, hF.1 55 i rfl]
    refine t_X13_scan_95 hg (fun c => ?_) (fun c => ?_)
    · rw [hb, let0m (hr i hlt)] at c
      rw [run_stop (fun q => by rw [c] at q; cases q.2)] at K
      exact K _ (hF.sI rfl) (fin i M hs hi h5 h4) h4 h5
    · rw [hb, let0m (hr i hlt)] at c
      rw [run_go hlt (by simpa using c)] at K
      refine ih (i + 1) (by omega) (by omega) (by omega) _ h3 ?_ h4 (hF.sI rfl) K
      show gI M 54 5 + 1 = _
      rw [h5, nI_1]
theorem lp_numM {n s : Nat} {M0 : Mem} (hn : n ≤ 1200) (hr : ∀ a : Nat, a < n → -128 ≤ (gI M0 55 a).toInt ∧ (gI M0 55 a).toInt ≤ 127) : ∀ (j i : Nat), n - i = j → s ≤ i → i ≤ n → (∀ k, s ≤ k → k < i → isD (gI M0 55 k) = true) → ∀ M, gI M 54 3 = nI n → gI M 54 5 = nI i → gI M 54 4 = nI s → (i - s ≤ 3 → gI M 54 7 = nI (dec (gI M0 55) s (i - s))) → Fr sScan M0 M →
    (∀ M', Fr sScan M0 M' → gI M' 54 6 = (if run isD (gI M0 55) n i - s ≤ 3 then 2 else 4) → gI M' 54 4 = nI s → gI M' 54 5 = nI (run isD (gI M0 55) n i) → (run isD (gI M0 55) n i - s ≤ 3 → gI M' 54 7 = nI (dec (gI M0 55) s (run isD (gI M0 55) n i - s))) → Q (.returned none) M') →
    Fw l D ad kA mX13_scan 160 [some (.ref (ad 54)), none] [] M Q := by
  intro j
  have a : (3 : Int32).toInt = 3 := by decide
  have fin : ∀ (i : Nat) (M : Mem), s ≤ i → i ≤ n → gI M 54 5 = nI i → gI M 54 4 = nI s → (if gI M 54 5 - gI M 54 4 ≤ 3 then (2 : Int32) else 4) = (if i - s ≤ 3 then 2 else 4) := by
    intro i M hs hi h5 h4
    rw [h5, h4]
    simp only [i_le, nI_sub hs (show i < 2147483648 by omega), a]
    by_cases q : i - s ≤ 3
    · rw [if_pos (by omega), if_pos q]
    · rw [if_neg (by omega), if_neg q]
  induction j with
  | zero =>
    intro i hj hs hi hd M h3 h5 h4 h7 hF K
    have hin : i = n := by omega
    have hg : g_X13_byteAt M (gI M 54 5) := by rw [h5]; exact byteAtM_g h3 hi hn
    have hb : v_X13_byteAt M (gI M 54 5) = 0 := by rw [h5, hin]; exact byteAtM_end h3
    rw [run_stop (by omega)] at K
    exact t_X13_scan_160 hg (fun _ => K _ (hF.sI rfl) (fin i M hs hi h5 h4) h4 h5 h7) (fun c => absurd (by rw [hb]; decide) c) (fun c => absurd (by rw [hb]; decide) c)
  | succ j ih =>
    intro i hj hs hi hd M h3 h5 h4 h7 hF K
    have hlt : i < n := by omega
    have hg : g_X13_byteAt M (gI M 54 5) := by rw [h5]; exact byteAtM_g h3 hi hn
    have hb : v_X13_byteAt M (gI M 54 5) = gI M0 55 i &&& 255 := by rw [h5, byteAtM_in h3 hlt hn, hF.1 55 i rfl]
    have hsub : (gI M 54 5 - gI M 54 4).toInt = (i : Int) - s := by rw [h5, h4]; exact nI_sub hs (by omega)
    have nxt : ∀ k, s ≤ k → k < i + 1 → isD (gI M0 55 i) = true → isD (gI M0 55 k) = true := fun k h1 h2 cl => by
      by_cases q : k = i
      · rw [q]; exact cl
      · exact hd k h1 (by omega)
    refine t_X13_scan_160 hg (fun c => ?_) (fun c d => ?_) (fun c d => ?_)
    · rw [hb, dig0m (hr i hlt)] at c
      rw [run_stop (fun q => by rw [c] at q; cases q.2)] at K
      exact K _ (hF.sI rfl) (fin i M hs hi h5 h4) h4 h5 h7
    · rw [hb, dig0m (hr i hlt)] at c
      have cl : isD (gI M0 55 i) = true := by simpa using c
      rw [i_le, hsub, a] at d
      rw [run_go hlt cl] at K
      refine ih (i + 1) (by omega) (by omega) (by omega) (fun k h1 h2 => nxt k h1 h2 cl) _ h3 ?_ h4 (fun q => by omega) (hF.sI rfl) K
      show gI M 54 5 + 1 = _
      rw [h5, nI_1]
    · rw [hb, dig0m (hr i hlt)] at c
      have cl : isD (gI M0 55 i) = true := by simpa using c
      rw [i_le, hsub, a] at d
      rw [run_go hlt cl] at K
      rw [hb, dig_255 cl]
      refine ih (i + 1) (by omega) (by omega) (by omega) (fun k h1 h2 => nxt k h1 h2 cl) _ h3 ?_ h4 (fun hle => ?_) ((hF.sI rfl).sI rfl) K
      · show gI M 54 5 + 1 = _
        rw [h5, nI_1]
      · show 10 * gI M 54 7 + gI M0 55 i - 48 = _
        rw [h7 (by omega), show i + 1 - s = (i - s) + 1 by omega]
        have hdig : 48 ≤ (gI M0 55 i).toInt ∧ (gI M0 55 i).toInt ≤ 57 := by simpa [isD] using cl
        have hbnd : dec (gI M0 55) s (i - s) ≤ 99 := by
          have dg : ∀ k, k < i - s → ((gI M0 55 (s + k)).toInt - 48).toNat ≤ 9 := fun k hk => by
            have := hd (s + k) (by omega) (by omega)
            have : 48 ≤ (gI M0 55 (s + k)).toInt ∧ (gI M0 55 (s + k)).toInt ≤ 57 := by simpa [isD] using this
            omega
          match hk : i - s with
          | 0 => simp [dec]
          | 1 => have := dg 0 (by omega); simp [dec] at this ⊢; omega
          | 2 =>
            have a1 := dg 0 (by omega)
            have a2 := dg 1 (by omega)
            simp [dec] at a1 a2 ⊢; omega
          | q + 3 => omega
        have ev : s + (i - s) = i := by omega
        show _ = nI (10 * dec (gI M0 55) s (i - s) + ((gI M0 55 (s + (i - s))).toInt - 48).toNat)
        rw [ev]
        generalize dec (gI M0 55) s (i - s) = w at hbnd
        have t10 : (10 : Int32).toInt = 10 := by decide
        have t48 : (48 : Int32).toInt = 48 := by decide
        have s1 : (10 * nI w).toInt = 10 * (w : Int) := by rw [i_mul, i_nI (by omega), t10] <;> rw [i_nI (by omega), t10] <;> omega
        have s2 : (10 * nI w + gI M0 55 i).toInt = 10 * (w : Int) + (gI M0 55 i).toInt := by rw [i_add, s1] <;> rw [s1] <;> omega
        rw [i_eq, i_sub, s2, t48, i_nI (by omega)]
        · omega
        · rw [s2, t48]; omega
        · rw [s2, t48]; omega
theorem ct_scan {n p : Nat} {M : Mem} (h3 : gI M 54 3 = nI n) (h5 : gI M 54 5 = nI p) (hp : p ≤ n) (hn : n ≤ 1200) (hr : ∀ a : Nat, a < n → -128 ≤ (gI M 55 a).toInt ∧ (gI M 55 a).toInt ≤ 127)
    (K : ∀ M', Fr sScan M M' → gI M' 54 6 = nI (tkK (gI M 55) n (tkS (gI M 55) n p)) → gI M' 54 4 = nI (tkS (gI M 55) n p) → gI M' 54 5 = nI (tkN (gI M 55) n (tkS (gI M 55) n p)) → (tkK (gI M 55) n (tkS (gI M 55) n p) = 2 → gI M' 54 7 = nI (tkV (gI M 55) n (tkS (gI M 55) n p))) → Q (.returned none) M') :
    Cal l D ad kA mX13_scan [.ref (ad 54)] M Q := by
  refine en_X13_scan ?_
  have a32 : (32 : Int32).toInt = 32 := by decide
  have a10 : (10 : Int32).toInt = 10 := by decide
  have fin : ∀ (s : Nat) (M1 : Mem), s ≤ n → gI M1 54 3 = nI n → gI M1 54 5 = nI s → Fr sScan M M1 → tkS (gI M 55) n p = s → ¬ (s < n ∧ isW (gI M 55 s) = true) → Fw l D ad kA mX13_scan 0 [some (.ref (ad 54)), none] [] M1 Q := by
    intro s M1 hs g3 g5 hF hS hW
    rw [hS] at K
    have hg2 : g_X13_byteAt (sI M1 54 4 (gI M1 54 5)) (gI M1 54 5) := by rw [g5]; exact byteAtM_g (M := sI M1 54 4 (nI s)) g3 hs hn
    by_cases hsn : s < n
    · have c0 : ¬ gI M1 54 3 ≤ gI M1 54 5 := by rw [g3, g5, i_le, i_nI (by omega), i_nI (by omega)]; omega
      have c1 : ¬ gI M1 54 5 = gI M1 54 3 := by rw [g3, g5, i_eq, i_nI (by omega), i_nI (by omega)]; omega
      have hb2 : v_X13_byteAt (sI M1 54 4 (gI M1 54 5)) (gI M1 54 5) = gI M 55 s &&& 255 := by rw [g5, byteAtM_in (M := sI M1 54 4 (nI s)) g3 hsn hn]; exact congrArg (fun v => v &&& 255) (hF.1 55 s rfl)
      have hbs : gI M1 55 (gI M1 54 5).toNatClampNeg = gI M 55 s := by rw [g5, nI_clamp (by omega), hF.1 55 s rfl]
      have hwF : isW (gI M 55 s) = false := by
        cases hq : isW (gI M 55 s) with
        | false => rfl
        | true => exact absurd ⟨hsn, hq⟩ hW
      have hw2 : ¬ ((gI M 55 s).toInt = 32 ∨ (gI M 55 s).toInt = 10) := by simpa [isW] using hwF
      have w32 : ¬ gI M1 55 (gI M1 54 5).toNatClampNeg = 32 := by rw [hbs, i_eq, a32]; omega
      have w10 : ¬ gI M1 55 (gI M1 54 5).toNatClampNeg = 10 := by rw [hbs, i_eq, a10]; omega
      have hin : vp_in (gI M1 54 5) 1200 := by rw [g5]; exact vin_of (by rw [i_nI (by omega)]; omega) (by rw [i_nI (by omega)]; omega)
      have kN : ¬ n ≤ s := by omega
      refine t_X13_scan_0 (fun _ => hg2) (fun _ => hin) (fun _ _ _ => hg2) (fun c => absurd c c0) (fun c => absurd c c0) (fun c => absurd c c0) (fun c => absurd c c0) (fun _ c => absurd c w32) (fun _ _ _ _ d1 d2 => ?_) (fun _ _ _ _ d1 d2 => ?_) (fun _ _ _ _ d1 => ?_) (fun _ _ _ c => absurd c c1) (fun _ _ c => absurd c w10)
      · rw [hb2, let0m (hr s hsn)] at d1
        rw [hb2, dig0m (hr s hsn)] at d2
        have e1 : tkK (gI M 55) n s = if (gI M 55 s).toInt = 59 then 3 else 4 := by unfold tkK; rw [if_neg kN, if_neg (by rw [d1]; decide), if_neg (by rw [d2]; decide)]
        have e2 : tkN (gI M 55) n s = s + 1 := by unfold tkN; rw [if_neg kN, if_neg (by rw [d1]; decide), if_neg (by rw [d2]; decide)]
        refine K _ (((hF.sI rfl).sI rfl).sI rfl) ?_ ?_ ?_ (fun q => ?_)
        · show (if v_X13_byteAt (sI M1 54 4 (gI M1 54 5)) (gI M1 54 5) = 59 then (3 : Int32) else 4) = _
          rw [hb2, e1]
          by_cases q : (gI M 55 s).toInt = 59
          · rw [if_pos ((sem0m (hr s hsn)).mpr q), if_pos q]; rfl
          · rw [if_neg (fun z => q ((sem0m (hr s hsn)).mp z)), if_neg q]; rfl
        · exact g5
        · show gI M1 54 5 + 1 = _
          rw [g5, nI_1, e2]
        · rw [e1] at q; split at q <;> omega
      · rw [hb2, let0m (hr s hsn)] at d1
        have d2' := d2
        rw [hb2, dig0m (hr s hsn)] at d2'
        have d3 : isD (gI M 55 s) = true := by simpa using d2'
        have e1 : tkK (gI M 55) n s = if run isD (gI M 55) n s - s ≤ 3 then 2 else 4 := by unfold tkK; rw [if_neg kN, if_neg (by rw [d1]; decide), if_pos d3]
        have e2 : tkN (gI M 55) n s = run isD (gI M 55) n s := by unfold tkN; rw [if_neg kN, if_neg (by rw [d1]; decide), if_pos d3]
        refine lp_numM (M0 := M) (s := s) hn hr (n - s) s rfl (Nat.le_refl s) hs (fun k h1 h2 => by omega) _ g3 g5 g5 (fun _ => ?_) ((hF.sI rfl).sI rfl) (fun M' f1 f2 f3 f4 f5 => K M' f1 ?_ f3 (by rw [f4, e2]) (fun q => ?_))
        · rw [Nat.sub_self]; rfl
        · rw [f2, e1]; split <;> rfl
        · rw [e1] at q
          exact f5 (by split at q <;> omega)
      · have d1' := d1
        rw [hb2, let0m (hr s hsn)] at d1'
        have d3 : isL (gI M 55 s) = true := by simpa using d1'
        have e1 : tkK (gI M 55) n s = if run isL (gI M 55) n s - s ≤ 8 then 1 else 4 := by unfold tkK; rw [if_neg kN, if_pos d3]
        have e2 : tkN (gI M 55) n s = run isL (gI M 55) n s := by unfold tkN; rw [if_neg kN, if_pos d3]
        refine lp_wordM (M0 := M) (s := s) hn hr (n - s) s rfl (Nat.le_refl s) hs _ g3 g5 g5 (hF.sI rfl) (fun M' f1 f2 f3 f4 => K M' f1 ?_ f3 (by rw [f4, e2]) (fun q => ?_))
        · rw [f2, e1]; split <;> rfl
        · rw [e1] at q; split at q <;> omega
    · have hsn' : s = n := by omega
      have c0 : gI M1 54 3 ≤ gI M1 54 5 := by rw [g3, g5, hsn']; exact Int32.le_refl _
      have c1 : gI M1 54 5 = gI M1 54 3 := by rw [g3, g5, hsn']
      have e1 : tkK (gI M 55) n s = 0 := by unfold tkK; rw [if_pos (by omega)]
      have e2 : tkN (gI M 55) n s = s := by unfold tkN; rw [if_pos (by omega)]
      refine t_X13_scan_0 (fun _ => hg2) (fun c => absurd c0 c) (fun c => absurd c0 c) (fun _ c => absurd c1 c) (fun _ c => absurd c1 c) (fun _ c => absurd c1 c) (fun _ _ => ?_) (fun c => absurd c0 c) (fun c => absurd c0 c) (fun c => absurd c0 c) (fun c => absurd c0 c) (fun c => absurd c0 c) (fun c => absurd c0 c)
      exact K _ ((hF.sI rfl).sI rfl) (by rw [e1]; rfl) g5 (by rw [e2]; exact g5) (fun q => by rw [e1] at q; omega)
  have lp : ∀ (j i : Nat) (M1 : Mem), n - i = j → i ≤ n → gI M1 54 3 = nI n → gI M1 54 5 = nI i → Fr sScan M M1 → tkS (gI M 55) n p = run isW (gI M 55) n i → Fw l D ad kA mX13_scan 0 [some (.ref (ad 54)), none] [] M1 Q := by
    intro j
    induction j with
    | zero =>
      intro i M1 hj hi g3 g5 hF hS
      rw [run_stop (by omega)] at hS
      exact fin i M1 hi g3 g5 hF hS (by omega)
    | succ j ih =>
      intro i M1 hj hi g3 g5 hF hS
      by_cases cw : isW (gI M 55 i) = true
      · have hlt : i < n := by omega
        rw [run_go hlt cw] at hS
        have c0 : ¬ gI M1 54 3 ≤ gI M1 54 5 := by rw [g3, g5, i_le, i_nI (by omega), i_nI (by omega)]; omega
        have hin : vp_in (gI M1 54 5) 1200 := by rw [g5]; exact vin_of (by rw [i_nI (by omega)]; omega) (by rw [i_nI (by omega)]; omega)
        have hbs : gI M1 55 (gI M1 54 5).toNatClampNeg = gI M 55 i := by rw [g5, nI_clamp (by omega), hF.1 55 i rfl]
        have hw2 : (gI M 55 i).toInt = 32 ∨ (gI M 55 i).toInt = 10 := by simpa [isW] using cw
        have step : Fw l D ad kA mX13_scan 0 [some (.ref (ad 54)), none] [] (sI M1 54 5 (gI M1 54 5 + 1)) Q := ih (i + 1) _ (by omega) (by omega) g3 (by show gI M1 54 5 + 1 = _; rw [g5, nI_1]) (hF.sI rfl) hS
        have no : (¬ gI M1 55 (gI M1 54 5).toNatClampNeg = 32) → (¬ gI M1 55 (gI M1 54 5).toNatClampNeg = 10) → False := by
          rw [hbs, i_eq, i_eq, a32, a10]; omega
        exact t_X13_scan_0 (fun c => absurd c c0) (fun _ => hin) (fun _ x y => (no x y).elim) (fun c => absurd c c0) (fun c => absurd c c0) (fun c => absurd c c0) (fun c => absurd c c0) (fun _ _ => step) (fun _ x y => (no x y).elim) (fun _ x y => (no x y).elim) (fun _ x y => (no x y).elim) (fun _ x y => (no x y).elim) (fun _ _ _ => step)
      · rw [run_stop (fun q => cw q.2)] at hS
        exact fin i M1 hi g3 g5 hF hS (fun q => cw q.2)
  exact lp (n - p) p M rfl hp h3 h5 Fr.rf rfl
end Scan
