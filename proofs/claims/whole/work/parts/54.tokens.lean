/-! TOKENS: one value for the class's readToken and the model's scan -/
def isL (v : Int32) : Bool := decide (97 ≤ v.toInt ∧ v.toInt ≤ 122)
def isD (v : Int32) : Bool := decide (48 ≤ v.toInt ∧ v.toInt ≤ 57)
def isW (v : Int32) : Bool := decide (v.toInt = 32 ∨ v.toInt = 10)
/-- where a run ends -/
def rn (p : Int32 → Bool) (b : Nat → Int32) (n : Nat) : Nat → Nat → Nat
  | 0, i => i
  | f + 1, i => if i < n ∧ p (b i) = true then rn p b n f (i + 1) else i
def run (p : Int32 → Bool) (b : Nat → Int32) (n i : Nat) : Nat := rn p b n (n - i) i
theorem run_go {p : Int32 → Bool} {b : Nat → Int32} {n i : Nat} (h : i < n) (hp : p (b i) = true) : run p b n i = run p b n (i + 1) := by
  unfold run
  rw [show n - i = (n - (i + 1)) + 1 by omega, rn, if_pos ⟨h, hp⟩]
theorem run_stop {p : Int32 → Bool} {b : Nat → Int32} {n i : Nat} (h : ¬ (i < n ∧ p (b i) = true)) : run p b n i = i := by
  unfold run
  cases hf : n - i with
  | zero => rfl
  | succ f => rw [rn, if_neg h]
theorem run_ge {p : Int32 → Bool} {b : Nat → Int32} {n : Nat} : ∀ (j i : Nat), n - i = j → i ≤ run p b n i ∧ (i ≤ n → run p b n i ≤ n)
  | 0, i, h => by rw [run_stop (by omega)]; omega
  | j + 1, i, h => by
    by_cases c : i < n ∧ p (b i) = true
    · rw [run_go c.1 c.2]
      have := run_ge (p := p) (b := b) (n := n) j (i + 1) (by omega)
      omega
    · rw [run_stop c]; omega
/-- the digits' value -/
def dec (b : Nat → Int32) (s : Nat) : Nat → Nat
  | 0 => 0
  | k + 1 => 10 * dec b s k + ((b (s + k)).toInt - 48).toNat
def tkS (b : Nat → Int32) (n p : Nat) : Nat := run isW b n p
def tkK (b : Nat → Int32) (n s : Nat) : Nat := if n ≤ s then 0 else if isL (b s) = true then (if run isL b n s - s ≤ 8 then 1 else 4) else if isD (b s) = true then (if run isD b n s - s ≤ 3 then 2 else 4) else if (b s).toInt = 59 then 3 else 4
def tkN (b : Nat → Int32) (n s : Nat) : Nat := if n ≤ s then s else if isL (b s) = true then run isL b n s else if isD (b s) = true then run isD b n s else s + 1
def tkV (b : Nat → Int32) (n s : Nat) : Nat := dec b s (run isD b n s - s)
theorem let0 {v : Int32} : v_X10_isLetter v = 0 ↔ isL v = false := by
  have a : (97 : Int32).toInt = 97 := by decide
  have b : (122 : Int32).toInt = 122 := by decide
  unfold v_X10_isLetter isL
  simp only [i_lt, a, b, decide_eq_false_iff_not]
  split
  · simp; omega
  · split
    · simp; omega
    · simp; omega
theorem dig0 {v : Int32} : v_X10_isDigit v = 0 ↔ isD v = false := by
  have a : (48 : Int32).toInt = 48 := by decide
  have b : (57 : Int32).toInt = 57 := by decide
  unfold v_X10_isDigit isD
  simp only [i_lt, a, b, decide_eq_false_iff_not]
  split
  · simp; omega
  · split
    · simp; omega
    · simp; omega
theorem bla0 {v : Int32} : v_X10_isBlank v = 0 ↔ isW v = false := by
  have a : (32 : Int32).toInt = 32 := by decide
  have b : (10 : Int32).toInt = 10 := by decide
  unfold v_X10_isBlank isW
  simp only [i_eq, a, b, decide_eq_false_iff_not]
  split
  · simp; omega
  · split
    · simp; omega
    · simp; omega
theorem byteAt_in {M : Mem} {n i : Nat} (h : gI M 1 0 = nI n) (hi : i < n) (hn : n ≤ 1200) : v_X10_byteAt M (nI i) = gI M 2 i := by
  have a : (1200 : Int32).toInt = 1200 := by decide
  unfold v_X10_byteAt
  rw [if_neg (by rw [i_lt, i_nI (by omega), n0]; omega), h, if_neg (by rw [i_le, i_nI (by omega), i_nI (by omega)]; omega), if_neg (by rw [i_le, i_nI (by omega), a]; omega), nI_clamp (by omega)]
theorem byteAt_g {M : Mem} {x : Int32} : g_X10_byteAt M x := by
  have a : (1200 : Int32).toInt = 1200 := by decide
  intro h1 _ h3
  rw [i_lt, n0] at h1
  rw [i_le, a] at h3
  exact vin_of (by omega) (by omega)
section Tok
variable {l : Launch} {D : va_G} {ad : Nat → Nat} {kA : Nat → ClassId} {Q : Outcome → Mem → Prop}
def sTok (c i : Nat) : Bool := c == 1 && (i == 1 || i == 2 || i == 6 || i == 7)
theorem nI_sub {a b : Nat} (h : b ≤ a) (ha : a < 2147483648) : (nI a - nI b).toInt = (a : Int) - b := by
  rw [i_sub, i_nI ha, i_nI (by omega)] <;> rw [i_nI ha, i_nI (by omega)] <;> omega
theorem lp_word {n s : Nat} {M0 : Mem} (hn : n ≤ 1200) : ∀ (j i : Nat), n - i = j → s ≤ i → i ≤ n → ∀ M, gI M 1 0 = nI n → gI M 1 7 = nI i → gI M 1 6 = nI s → Fr sTok M0 M →
    (∀ M', Fr sTok M0 M' → gI M' 1 1 = (if run isL (gI M0 2) n i - s ≤ 8 then 1 else 4) → gI M' 1 6 = nI s → gI M' 1 7 = nI (run isL (gI M0 2) n i) → Q (.returned none) M') →
    Fw l D ad kA mX10_readWord 0 [some (.ref (ad 1))] [] M Q := by
  intro j
  induction j with
  | zero =>
    intro i hj hs hi M h0 h7 h6 hF K
    have hin : i = n := by omega
    subst hin
    have e : run isL (gI M0 2) i i = i := run_stop (by omega)
    rw [e] at K
    refine t_X10_readWord_0 (fun _ => byteAt_g) (fun _ => K _ (hF.sI rfl) ?_ h6 h7) (fun c => absurd (by rw [h0, h7]; exact Int32.le_refl _) c) (fun c => absurd (by rw [h0, h7]; exact Int32.le_refl _) c)
    show (if gI M 1 7 - gI M 1 6 ≤ 8 then (1 : Int32) else 4) = _
    have a : (8 : Int32).toInt = 8 := by decide
    rw [h7, h6]
    simp only [i_le, nI_sub hs (show i < 2147483648 by omega), a]
    by_cases q : i - s ≤ 8
    · rw [if_pos (by omega), if_pos q]
    · rw [if_neg (by omega), if_neg q]
  | succ j ih =>
    intro i hj hs hi M h0 h7 h6 hF K
    have hlt : i < n := by omega
    have c0 : ¬ gI M 1 0 ≤ gI M 1 7 := by rw [h0, h7, i_le, i_nI (by omega), i_nI (by omega)]; omega
    have hb : v_X10_byteAt M (gI M 1 7) = gI M0 2 i := by rw [h7, byteAt_in h0 hlt hn]; exact hF.1 2 i rfl
    refine t_X10_readWord_0 (fun _ => byteAt_g) (fun c => absurd c c0) (fun _ c => ?_) (fun _ c => ?_)
    · rw [hb, let0] at c
      have e : run isL (gI M0 2) n i = i := run_stop (fun q => by rw [c] at q; cases q.2)
      rw [e] at K
      refine K _ (hF.sI rfl) ?_ h6 h7
      show (if gI M 1 7 - gI M 1 6 ≤ 8 then (1 : Int32) else 4) = _
      have a : (8 : Int32).toInt = 8 := by decide
      rw [h7, h6]
      simp only [i_le, nI_sub hs (show i < 2147483648 by omega), a]
      by_cases q : i - s ≤ 8
      · rw [if_pos (by omega), if_pos q]
      · rw [if_neg (by omega), if_neg q]
    · rw [hb, let0] at c
      have cl : isL (gI M0 2 i) = true := by simpa using c
      rw [run_go hlt cl] at K
      refine ih (i + 1) (by omega) (by omega) (by omega) _ h0 ?_ h6 (hF.sI rfl) K
      show gI M 1 7 + 1 = _
      rw [h7, nI_1]
theorem lp_num {n s : Nat} {M0 : Mem} (hn : n ≤ 1200) : ∀ (j i : Nat), n - i = j → s ≤ i → i ≤ n → (∀ k, s ≤ k → k < i → isD (gI M0 2 k) = true) → ∀ M, gI M 1 0 = nI n → gI M 1 7 = nI i → gI M 1 6 = nI s → (i - s ≤ 3 → gI M 1 2 = nI (dec (gI M0 2) s (i - s))) → Fr sTok M0 M →
    (∀ M', Fr sTok M0 M' → gI M' 1 1 = (if run isD (gI M0 2) n i - s ≤ 3 then 2 else 4) → gI M' 1 6 = nI s → gI M' 1 7 = nI (run isD (gI M0 2) n i) → (run isD (gI M0 2) n i - s ≤ 3 → gI M' 1 2 = nI (dec (gI M0 2) s (run isD (gI M0 2) n i - s))) → Q (.returned none) M') →
    Fw l D ad kA mX10_readNumber 5 [some (.ref (ad 1))] [] M Q := by
  intro j
  induction j with
  | zero =>
    intro i hj hs hi hd M h0 h7 h6 h2 hF K
    have hin : i = n := by omega
    subst hin
    have e : run isD (gI M0 2) i i = i := run_stop (by omega)
    rw [e] at K
    refine t_X10_readNumber_5 (fun _ => byteAt_g) (fun _ => K _ (hF.sI rfl) ?_ h6 h7 h2) (fun c => absurd (by rw [h0, h7]; exact Int32.le_refl _) c) (fun c => absurd (by rw [h0, h7]; exact Int32.le_refl _) c)
    show (if gI M 1 7 - gI M 1 6 ≤ 3 then (2 : Int32) else 4) = _
    have a : (3 : Int32).toInt = 3 := by decide
    rw [h7, h6]
    simp only [i_le, nI_sub hs (show i < 2147483648 by omega), a]
    by_cases q : i - s ≤ 3
    · rw [if_pos (by omega), if_pos q]
    · rw [if_neg (by omega), if_neg q]
  | succ j ih =>
    intro i hj hs hi hd M h0 h7 h6 h2 hF K
    have hlt : i < n := by omega
    have c0 : ¬ gI M 1 0 ≤ gI M 1 7 := by rw [h0, h7, i_le, i_nI (by omega), i_nI (by omega)]; omega
    have hb : v_X10_byteAt M (gI M 1 7) = gI M0 2 i := by rw [h7, byteAt_in h0 hlt hn]; exact hF.1 2 i rfl
    refine t_X10_readNumber_5 (fun _ => byteAt_g) (fun c => absurd c c0) (fun _ c => ?_) (fun _ c => ?_)
    · rw [hb, dig0] at c
      have e : run isD (gI M0 2) n i = i := run_stop (fun q => by rw [c] at q; cases q.2)
      rw [e] at K
      refine K _ (hF.sI rfl) ?_ h6 h7 h2
      show (if gI M 1 7 - gI M 1 6 ≤ 3 then (2 : Int32) else 4) = _
      have a : (3 : Int32).toInt = 3 := by decide
      rw [h7, h6]
      simp only [i_le, nI_sub hs (show i < 2147483648 by omega), a]
      by_cases q : i - s ≤ 3
      · rw [if_pos (by omega), if_pos q]
      · rw [if_neg (by omega), if_neg q]
    · have c' := c
      rw [hb, dig0] at c'
      have cl : isD (gI M0 2 i) = true := by simpa using c'
      rw [run_go hlt cl] at K
      rw [hb]
      refine ih (i + 1) (by omega) (by omega) (by omega) (fun k h1 h3 => ?_) _ h0 ?_ h6 (fun hle => ?_) ((hF.sI rfl).sI rfl) K
      · by_cases q : k = i
        · rw [q]; exact cl
        · exact hd k h1 (by omega)
      · show gI M 1 7 + 1 = _
        rw [h7, nI_1]
      · show gI M 1 2 * 10 + gI M0 2 i - 48 = _
        rw [h2 (by omega), show i + 1 - s = (i - s) + 1 by omega]
        have hdig : 48 ≤ (gI M0 2 i).toInt ∧ (gI M0 2 i).toInt ≤ 57 := by simpa [isD] using cl
        obtain ⟨v, hv1, hv2, hv3⟩ := i_nat (x := gI M0 2 i) (by omega)
        have hbnd : dec (gI M0 2) s (i - s) ≤ 99 := by
          have hi3 : i - s ≤ 2 := by omega
          have dg : ∀ k, k < i - s → ((gI M0 2 (s + k)).toInt - 48).toNat ≤ 9 := fun k hk => by
            have := hd (s + k) (by omega) (by omega)
            have : 48 ≤ (gI M0 2 (s + k)).toInt ∧ (gI M0 2 (s + k)).toInt ≤ 57 := by simpa [isD] using this
            omega
          match hk : i - s with
          | 0 => simp [dec]
          | 1 => have := dg 0 (by omega); simp [dec] at this ⊢; omega
          | 2 =>
            have a1 := dg 0 (by omega)
            have a2 := dg 1 (by omega)
            simp [dec] at a1 a2 ⊢; omega
          | q + 3 => omega
        have ev : s + (i - s) = i := by omega
        show _ = nI (10 * dec (gI M0 2) s (i - s) + ((gI M0 2 (s + (i - s))).toInt - 48).toNat)
        rw [ev]
        generalize dec (gI M0 2) s (i - s) = w at hbnd
        have t10 : (10 : Int32).toInt = 10 := by decide
        have t48 : (48 : Int32).toInt = 48 := by decide
        have s1 : (nI w * 10).toInt = (w : Int) * 10 := by rw [i_mul, i_nI (by omega), t10] <;> rw [i_nI (by omega), t10] <;> omega
        have s2 : (nI w * 10 + gI M0 2 i).toInt = (w : Int) * 10 + (gI M0 2 i).toInt := by rw [i_add, s1] <;> rw [s1] <;> omega
        rw [i_eq, i_sub, s2, t48, i_nI (by omega)]
        · omega
        · rw [s2, t48]; omega
        · rw [s2, t48]; omega
theorem ct_readToken {n p : Nat} {M : Mem} (h0 : gI M 1 0 = nI n) (h7 : gI M 1 7 = nI p) (hp : p ≤ n) (hn : n ≤ 1200)
    (K : ∀ M', Fr sTok M M' → gI M' 1 1 = nI (tkK (gI M 2) n (tkS (gI M 2) n p)) → gI M' 1 6 = nI (tkS (gI M 2) n p) → gI M' 1 7 = nI (tkN (gI M 2) n (tkS (gI M 2) n p)) → (tkK (gI M 2) n (tkS (gI M 2) n p) = 2 → gI M' 1 2 = nI (tkV (gI M 2) n (tkS (gI M 2) n p))) → Q (.returned none) M') :
    Cal l D ad kA mX10_readToken [.ref (ad 1)] M Q := by
  refine en_X10_readToken ?_
  have fin : ∀ (s : Nat) (M1 : Mem), s ≤ n → gI M1 1 0 = nI n → gI M1 1 7 = nI s → Fr sTok M M1 → tkS (gI M 2) n p = s → ¬ (s < n ∧ isW (gI M 2 s) = true) → Fw l D ad kA mX10_readToken 0 [some (.ref (ad 1)), none] [] M1 Q := by
    intro s M1 hs g0 g7 hF hS hW
    rw [hS] at K
    by_cases hsn : s < n
    · have c0 : ¬ gI M1 1 0 ≤ gI M1 1 7 := by rw [g0, g7, i_le, i_nI (by omega), i_nI (by omega)]; omega
      have c1 : gI M1 1 7 < gI M1 1 0 := by rw [g0, g7, i_lt, i_nI (by omega), i_nI (by omega)]; omega
      have hb : v_X10_byteAt M1 (gI M1 1 7) = gI M 2 s := by rw [g7, byteAt_in g0 hsn hn]; exact hF.1 2 s rfl
      have hb2 : v_X10_byteAt (sI M1 1 6 (gI M1 1 7)) (gI M1 1 7) = gI M 2 s := by rw [g7, byteAt_in (M := sI M1 1 6 (nI s)) g0 hsn hn]; exact hF.1 2 s rfl
      have hwF : isW (gI M 2 s) = false := by
        cases hq : isW (gI M 2 s) with
        | false => rfl
        | true => exact absurd ⟨hsn, hq⟩ hW
      have kN : ¬ n ≤ s := by omega
      refine t_X10_readToken_0 (fun _ => byteAt_g) (fun _ => byteAt_g) (fun _ _ => byteAt_g) (fun c => absurd c c0) (fun c => absurd c c0) (fun c => absurd c c0) (fun c => absurd c c0) (fun _ _ _ d1 d2 => ?_) (fun _ _ _ d1 d2 => ?_) (fun _ _ _ d1 => ?_) (fun _ _ c => absurd c1 c) (fun _ c => absurd (by rw [hb, bla0]; exact hwF) c)
      · rw [hb2, let0] at d1
        rw [hb2, dig0] at d2
        have e1 : tkK (gI M 2) n s = if (gI M 2 s).toInt = 59 then 3 else 4 := by unfold tkK; rw [if_neg kN, if_neg (by rw [d1]; decide), if_neg (by rw [d2]; decide)]
        have e2 : tkN (gI M 2) n s = s + 1 := by unfold tkN; rw [if_neg kN, if_neg (by rw [d1]; decide), if_neg (by rw [d2]; decide)]
        refine K _ (((hF.sI rfl).sI rfl).sI rfl) ?_ ?_ ?_ (fun q => ?_)
        · show (if v_X10_byteAt (sI M1 1 6 (gI M1 1 7)) (gI M1 1 7) = 59 then (3 : Int32) else 4) = _
          have a : (59 : Int32).toInt = 59 := by decide
          rw [hb2, e1]
          simp only [i_eq, a]
          split <;> rfl
        · exact g7
        · show gI M1 1 7 + 1 = _
          rw [g7, nI_1, e2]
        · rw [e1] at q; split at q <;> omega
      · rw [hb2, let0] at d1
        have d2' := d2
        rw [hb2, dig0] at d2'
        have d3 : isD (gI M 2 s) = true := by simpa using d2'
        have e1 : tkK (gI M 2) n s = if run isD (gI M 2) n s - s ≤ 3 then 2 else 4 := by unfold tkK; rw [if_neg kN, if_neg (by rw [d1]; decide), if_pos d3]
        have e2 : tkN (gI M 2) n s = run isD (gI M 2) n s := by unfold tkN; rw [if_neg kN, if_neg (by rw [d1]; decide), if_pos d3]
        refine en_X10_readNumber (t_X10_readNumber_0 (lp_num (M0 := M) (s := s) hn (n - s) s rfl (Nat.le_refl s) hs (fun k h1 h2 => by omega) _ g0 g7 g7 (fun _ => ?_) ((hF.sI rfl).sI rfl) (fun M' f1 f2 f3 f4 f5 => ⟨rfl, t_X10_readToken_99 (K M' f1 ?_ f3 (by rw [f4, e2]) (fun q => ?_))⟩)))
        · rw [Nat.sub_self]; rfl
        · rw [f2, e1]; split <;> rfl
        · rw [e1] at q
          exact f5 (by split at q <;> omega)
      · have d1' := d1
        rw [hb2, let0] at d1'
        have d3 : isL (gI M 2 s) = true := by simpa using d1'
        have e1 : tkK (gI M 2) n s = if run isL (gI M 2) n s - s ≤ 8 then 1 else 4 := by unfold tkK; rw [if_neg kN, if_pos d3]
        have e2 : tkN (gI M 2) n s = run isL (gI M 2) n s := by unfold tkN; rw [if_neg kN, if_pos d3]
        refine en_X10_readWord (lp_word (M0 := M) (s := s) hn (n - s) s rfl (Nat.le_refl s) hs _ g0 g7 g7 (hF.sI rfl) (fun M' f1 f2 f3 f4 => ⟨rfl, t_X10_readToken_85 (K M' f1 ?_ f3 (by rw [f4, e2]) (fun q => ?_))⟩))
        · rw [f2, e1]; split <;> rfl
        · rw [e1] at q; split at q <;> omega
    · have hsn' : s = n := by omega
      have c0 : gI M1 1 0 ≤ gI M1 1 7 := by rw [g0, g7, hsn']; exact Int32.le_refl _
      have c1 : ¬ gI M1 1 7 < gI M1 1 0 := by rw [g0, g7, hsn', i_lt]; omega
      have e1 : tkK (gI M 2) n s = 0 := by unfold tkK; rw [if_pos (by omega)]
      have e2 : tkN (gI M 2) n s = s := by unfold tkN; rw [if_pos (by omega)]
      refine t_X10_readToken_0 (fun _ => byteAt_g) (fun _ => byteAt_g) (fun _ _ => byteAt_g) (fun _ c => absurd c c1) (fun _ c => absurd c c1) (fun _ c => absurd c c1) (fun _ _ => ?_) (fun c => absurd c0 c) (fun c => absurd c0 c) (fun c => absurd c0 c) (fun c => absurd c0 c) (fun c => absurd c0 c)
      exact K _ ((hF.sI rfl).sI rfl) (by rw [e1]; rfl) g7 (by rw [e2]; exact g7) (fun q => by rw [e1] at q; omega)
  have lp : ∀ (j i : Nat) (M1 : Mem), n - i = j → i ≤ n → gI M1 1 0 = nI n → gI M1 1 7 = nI i → Fr sTok M M1 → tkS (gI M 2) n p = run isW (gI M 2) n i → Fw l D ad kA mX10_readToken 0 [some (.ref (ad 1)), none] [] M1 Q := by
    intro j
    induction j with
    | zero =>
      intro i M1 hj hi g0 g7 hF hS
      rw [run_stop (by omega)] at hS
      exact fin i M1 hi g0 g7 hF hS (by omega)
    | succ j ih =>
      intro i M1 hj hi g0 g7 hF hS
      by_cases cw : isW (gI M 2 i) = true
      · have hlt : i < n := by omega
        rw [run_go hlt cw] at hS
        have c0 : ¬ gI M1 1 0 ≤ gI M1 1 7 := by rw [g0, g7, i_le, i_nI (by omega), i_nI (by omega)]; omega
        have hb : v_X10_byteAt M1 (gI M1 1 7) = gI M 2 i := by rw [g7, byteAt_in g0 hlt hn]; exact hF.1 2 i rfl
        have nb : ¬ v_X10_isBlank (v_X10_byteAt M1 (gI M1 1 7)) = 0 := by rw [hb, bla0, cw]; decide
        refine t_X10_readToken_0 (fun _ => byteAt_g) (fun _ => byteAt_g) (fun _ _ => byteAt_g) (fun c => absurd c c0) (fun c => absurd c c0) (fun c => absurd c c0) (fun c => absurd c c0) (fun _ c => absurd c nb) (fun _ c => absurd c nb) (fun _ c => absurd c nb) (fun _ c => absurd c nb) (fun _ _ => ?_)
        refine ih (i + 1) _ (by omega) (by omega) g0 ?_ (hF.sI rfl) hS
        show gI M1 1 7 + 1 = _
        rw [g7, nI_1]
      · rw [run_stop (fun q => cw q.2)] at hS
        exact fin i M1 hi g0 g7 hF hS (fun q => cw q.2)
  exact lp (n - p) p M rfl hp h0 h7 Fr.rf rfl
end Tok
