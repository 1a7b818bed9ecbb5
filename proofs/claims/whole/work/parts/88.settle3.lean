/-! RANGES in the class: handing out; settle -/
theorem uu_inj {M : Mem} {a b : Nat} (ha : a < (ub M).length) (hb : b < (ub M).length) (e : uu M a = uu M b) : a = b := by
  rw [uu_get ha, uu_get hb] at e
  have nd := List.pairwise_iff_getElem.mp (ub_nodup (M := M))
  rcases Nat.lt_trichotomy a b with c | c | c
  · exact absurd e (nd a b ha hb c)
  · exact c
  · exact absurd e.symm (nd b a hb ha c)
theorem cand_congr {G : Nat → Option (Nat × Nat × Nat)} {P h h' : Nat → Nat → Nat} {i n : Nat} (e : h i (i + n) = h' i (i + n)) : cand G P h i n = cand G P h' i n := by
  unfold cand
  rw [e]
section Settle3
variable {l : Launch} {D : va_G} {ad : Nat → Nat} {kA : Nat → ClassId} {M M0 : Mem} {Q : Outcome → Mem → Prop} {cov : Int32} {w : Nat}
def s23 (c i : Nat) : Bool := c == 23
theorem lp_ho61 (hc : okC M0 M w) {r i n : Nat} (hr : r < w) (hin : i + n ≤ (ub M0).length)
    (K : ∀ M', Fr s23 M M' → (∀ k, k < (ub M0).length → gI M' 23 (uu M0 k) = if i ≤ k ∧ k < i + n then gI M 25 r else gI M 23 (uu M0 k)) → Fw l D ad kA mX7_handOut 4 [some (.ref (ad 22)), some (.int cov), some (.int (nI (i + n))), some (.int (nI (r + 1))), none, none, none] [] M' Q) : ∀ (j k : Nat) (M' : Mem), k + j = i + n → i ≤ k → Fr s23 M M' → (∀ a, a < (ub M0).length → gI M' 23 (uu M0 a) = if i ≤ a ∧ a < k then gI M 25 r else gI M 23 (uu M0 a)) →
    Fw l D ad kA mX7_handOut 61 [some (.ref (ad 22)), some (.int cov), some (.int (nI i)), some (.int (nI r)), none, some (.int (nI n)), some (.int (nI k))] [] M' Q := by
  have hl := ub_len (M := M0)
  have hw := hc.2.1
  intro j
  induction j with
  | zero =>
    intro k M' hk hik hf hd
    have hle : nI i + nI n ≤ nI k := by rw [nI_add, nI_leI (by omega) (by omega)]; omega
    refine t_X7_handOut_61 (fun q => absurd hle q) (fun q => absurd hle q) (fun q => absurd hle q) (fun _ => ?_) (fun q => absurd hle q)
    rw [nI_add, nI_1]
    have : k = i + n := by omega
    subst this
    exact K M' hf hd
  | succ j ih =>
    intro k M' hk hik hf hd
    have hnle : ¬ nI i + nI n ≤ nI k := by rw [nI_add, nI_leI (by omega) (by omega)]; omega
    have e24 : gI M' 24 k = nI (uu M0 k) := by rw [hf.1 24 k rfl]; exact hc.2.2.2.2.2.2.1 k (by omega)
    have hu := uu_lt (M := M0) (k := k) (by omega)
    refine t_X7_handOut_61 (fun _ => ixN (by omega) (by omega)) (fun _ => ixN (by omega) (by omega)) (fun _ => by rw [nI_clamp (by omega), e24]; exact ixN hu (by omega)) (fun q => absurd q hnle) (fun _ => ?_)
    rw [nI_clamp (by omega), e24, nI_clamp (by omega), nI_clamp (by omega), hf.1 25 r rfl, nI_1]
    refine ih (k + 1) _ (by omega) (by omega) (hf.sI rfl) (fun a ha => ?_)
    by_cases e : a = k
    · subst e; rw [gI_self, if_pos (by omega)]
    · rw [gI_oi (fun z => e (uu_inj ha (by omega) z)), hd a ha]
      by_cases c : i ≤ a ∧ a < k
      · rw [if_pos c, if_pos (by omega)]
      · rw [if_neg c, if_neg (by omega)]
theorem lp_ho28 {h : Nat → Nat → Nat → Nat} (hc : okC M0 M w) (ok : ∀ H, okR (ub M0).length (PP M0) (hh cov H (gI M 25)) (nSt M0)) {r i N : Nat} {e : Nat} (hr : r < w) (hi : i + N ≤ (ub M0).length) (hN : (N : Int) ≤ (gI M0 65 1).toInt) (hrow : rowOk M0 M w h (r + 1)) (okh : okR (ub M0).length (PP M0) h (nSt M0)) (he : e < 16777216)
    (hh1 : ∀ n, i + n ≤ (ub M0).length → hh cov (fun k => gI M 23 (uu M0 k)) (gI M 25) r i (i + n) = h r i (i + n))
    (h1 : encO (cand (GG (ub M0).length w (PP M0) h (w - (r + 1))) (PP M0) (h r) i N) = e) (h2 : ∀ n, n < N → ¬ encO (cand (GG (ub M0).length w (PP M0) h (w - (r + 1))) (PP M0) (h r) i n) = e)
    (K : Fw l D ad kA mX7_handOut 61 [some (.ref (ad 22)), some (.int cov), some (.int (nI i)), some (.int (nI r)), none, some (.int (nI N)), some (.int (nI i))] [] M Q) : ∀ (j n : Nat), n + j = N →
    Fw l D ad kA mX7_handOut 28 [some (.ref (ad 22)), some (.int cov), some (.int (nI i)), some (.int (nI r)), some (.int (nI e)), some (.int (nI n)), none] [] M Q := by
  have hl := ub_len (M := M0)
  have hw := hc.2.1
  have n12' := hc.1.1.2.2.1
  rw [hc.1.1.1 1 (by omega)] at n12'
  have hlong := hc.long (i := i) (by omega)
  have price : ∀ n, i + n ≤ (ub M0).length → (n : Int) ≤ (gI M0 65 1).toInt → ∀ Q', Q' (.returned (some (.int (nI (encO (cand (GG (ub M0).length w (PP M0) h (w - (r + 1))) (PP M0) (h r) i n)))))) M → Cal l D ad kA mX7_priceWith [.ref (ad 22), .int (nI r), .int (nI i), .int (nI n), .int cov] M Q' := by
    intro n a1 a2 Q' k
    refine ct_priceWith (G := GG (ub M0).length w (PP M0) h (w - (r + 1))) hc (ok _) hr a1 a2 (hrow (i + n) a1) (fun x hx => GG_small okh (by omega) a1 hx) ?_
    rw [cand_congr (h' := h r) (hh1 n a1)]
    exact k
  have cb : ∀ n, i + n ≤ (ub M0).length → encO (cand (GG (ub M0).length w (PP M0) h (w - (r + 1))) (PP M0) (h r) i n) ≤ 16777216 := by
    intro n a1
    cases hx : cand (GG (ub M0).length w (PP M0) h (w - (r + 1))) (PP M0) (h r) i n with
    | none => exact Nat.le_refl _
    | some x => exact Nat.le_of_lt (enc_small (cand_small okh (by omega) a1 hx))
  intro j
  induction j with
  | zero =>
    intro n hn
    have : n = N := by omega
    subst this
    by_cases c : v_X7_longestFrom M (nI i) ≤ nI n
    · exact t_X7_handOut_28 (fun _ => K) (fun q => absurd c q)
    · refine t_X7_handOut_28 (fun q => absurd q c) (fun _ => price n hi hN _ ⟨_, rfl, t_X7_handOut_47 (fun _ => K) (fun q => absurd (by rw [h1]) q)⟩)
  | succ j ih =>
    intro n hn
    have c : ¬ v_X7_longestFrom M (nI i) ≤ nI n := by rw [hlong, nI_leI (by omega) (by omega)]; omega
    refine t_X7_handOut_28 (fun q => absurd q c) (fun _ => price n (by omega) (by omega) _ ⟨_, rfl, t_X7_handOut_47 (fun q => ?_) (fun _ => ?_)⟩)
    · have := cb n (by omega)
      rw [nI_eq (by omega) (by omega)] at q
      exact absurd q (h2 n (by omega))
    · rw [nI_1]; exact ih (n + 1) (by omega)
theorem lp_ho4 {h : Nat → Nat → Nat → Nat} (hc : okC M0 M w) (hok : ∀ H Rr, okR (ub M0).length (PP M0) (hh cov H Rr) (nSt M0)) (eh : h = hh cov (fun k => gI M 23 (uu M0 k)) (gI M 25)) (hrows : ∀ r, r ≤ w → rowOk M0 M w h r)
    (K : ∀ M', Fr s23 M M' → (∀ k, k < (ub M0).length → gI M' 23 (uu M0 k) = ArrR (nnR M0 w h) (gI M 25) w 0 0 k) → Q (.returned none) (sI M' 22 4 1)) : ∀ (j r i : Nat) (M' : Mem), r + j = w → i ≤ (ub M0).length → Fr s23 M M' → (∃ x, GG (ub M0).length w (PP M0) h (w - r) i = some x) → (∀ k, k < i → gI M' 23 (uu M0 k) = ArrR (nnR M0 w h) (gI M 25) w 0 0 k) → (∀ k, i ≤ k → k < (ub M0).length → gI M' 23 (uu M0 k) = gI M 23 (uu M0 k)) → (∀ k, i ≤ k → ArrR (nnR M0 w h) (gI M 25) w 0 0 k = ArrR (nnR M0 w h) (gI M 25) j r i k) →
    Fw l D ad kA mX7_handOut 4 [some (.ref (ad 22)), some (.int cov), some (.int (nI i)), some (.int (nI r)), none, none, none] [] M' Q := by
  have hl := ub_len (M := M0)
  have hw := hc.2.1
  have n12' := hc.1.1.2.2.1
  rw [hc.1.1.1 1 (by omega)] at n12'
  have okh : okR (ub M0).length (PP M0) h (nSt M0) := by rw [eh]; exact hok _ _
  intro j
  induction j with
  | zero =>
    intro r i M' hr hi hf hx hd1 hd2 hA
    have e6 : gI M' 22 6 = nI w := by rw [hf.1 22 6 rfl]; exact hc.2.2.2.2.1
    have hle : gI M' 22 6 ≤ nI r := by rw [e6, nI_leI (by omega) (by omega)]; omega
    refine t_X7_handOut_4 (fun q => absurd hle q) (fun _ => K M' hf (fun k hk => ?_)) (fun q => absurd hle q)
    obtain ⟨x, hx⟩ := hx
    rw [show w - r = 0 by omega] at hx
    have hx : (if i = (ub M0).length then some (0, 0, 0) else none) = some x := hx
    by_cases e : i = (ub M0).length
    · exact hd1 k (by omega)
    · rw [if_neg e] at hx; cases hx
  | succ j ih =>
    intro r i M' hr hi hf hx hd1 hd2 hA
    have hc' : okC M0 M' w := hc.fr hf (fun _ => ⟨rfl, rfl, rfl, rfl, rfl⟩) ⟨rfl, rfl, rfl⟩
    have e6 : gI M' 22 6 = nI w := hc'.2.2.2.2.1
    have hnle : ¬ gI M' 22 6 ≤ nI r := by rw [e6, nI_leI (by omega) (by omega)]; omega
    have ec : nI r * 49 + nI i = nI (r * 49 + i) := by rw [show (49 : Int32) = nI 49 from rfl, nI_mul, nI_add]
    have e25 : gI M' 25 = gI M 25 := funext (fun k => hf.1 25 _ rfl)
    obtain ⟨x, hx⟩ := hx
    obtain ⟨n1', n2', ⟨y, n3', n4'⟩, n5', n6'⟩ := nnR_spec okh (by omega) (r := r) (i := i) (by omega) hw hi hx
    refine t_X7_handOut_4 (fun _ => by rw [ec]; exact ixN (by omega) (by omega)) (fun q => absurd q hnle) (fun _ => ?_)
    have ed : gI M' 27 (r * 49 + i) = nI (enc3 x) := by
      rw [hf.1 27 _ rfl, hrows r (by omega) i hi, hx]; rfl
    rw [ec, nI_clamp (by omega), ed]
    refine lp_ho28 (h := h) (N := nnR M0 w h r i) hc' (fun H => by rw [e25]; exact hok H _) (by omega) n1' n2' (fun j' hj' => by rw [hf.1 27 _ rfl]; exact hrows (r + 1) (by omega) j' hj') okh (enc_small (GG_small okh (by omega) hi hx)) (fun n hn => ?_) (by rw [n3']; exact n4') n6' ?_ (nnR M0 w h r i) 0 (by omega)
    · rw [eh, e25]
      unfold hh
      by_cases cv : cov = 0
      · rw [if_pos cv, if_pos cv]
      · rw [if_neg cv, if_neg cv]
        exact chN_congr _ _ (fun a a1 a2 => hd2 a a1 (by omega))
    · refine lp_ho61 hc' (by omega) n1' (fun M2 hf2 hd => ?_) (nnR M0 w h r i) i M' rfl (Nat.le_refl _) Fr.rf (fun a ha => by rw [if_neg (by omega)])
      refine ih (r + 1) (i + nnR M0 w h r i) M2 (by omega) n1' (hf.tr hf2) n5' (fun k hk => ?_) (fun k a1 a2 => ?_) (fun k a1 => ?_)
      · rw [hd k (by omega)]
        by_cases c : i ≤ k
        · rw [if_pos ⟨c, hk⟩, hA k c, e25]
          exact (if_pos hk).symm
        · rw [if_neg (fun z => c z.1)]; exact hd1 k (by omega)
      · rw [hd k a2, if_neg (by omega)]; exact hd2 k (by omega) a2
      · rw [hA k (by omega)]
        exact if_neg (by omega)
def sSet (c i : Nat) : Bool := c == 26 || c == 19 || c == 20 || (c == 17 && (i == 5 || i == 7)) || (c == 22 && (i == 4 || i == 11)) || c == 27 || c == 23
theorem ct_settle (hk : okW M) (hw : RWeighed M) (hw12 : w ≤ 12) (h6 : gI M 22 6 = nI w) {h : Nat → Nat → Nat → Nat} (eh : h = hh cov (fun k => gI M 23 (uu M k)) (gI M 25))
    (K : ∀ M', Fr sSet M M' → gI M' 22 11 = 1 → (∀ i' n : Nat, i' < (ub M).length → 1 ≤ n → (n : Int) ≤ (gI M 65 1).toInt → i' + n ≤ (ub M).length → gI M' 26 (i' * 13 + n) = nE (PP M i' (i' + n))) → (GG (ub M).length w (PP M) h w 0 = none → gI M' 22 4 = gI M 22 4 ∧ ∀ i, gI M' 23 i = gI M 23 i) → (¬ GG (ub M).length w (PP M) h w 0 = none → gI M' 22 4 = 1 ∧ ∀ k, k < (ub M).length → gI M' 23 (uu M k) = ArrR (nnR M w h) (gI M 25) w 0 0 k) → Q (.returned (some (.int (nI (encO (GG (ub M).length w (PP M) h w 0)))))) M') : Cal l D ad kA mX7_settle [.ref (ad 22), .int cov] M Q := by
  have hl := ub_len (M := M)
  have hok : ∀ H Rr, okR (ub M).length (PP M) (hh cov H Rr) (nSt M) := fun H Rr => okR_of hk.2.2.2.2.2 hk.2.2.2.1.1
  have okh : okR (ub M).length (PP M) h (nSt M) := by rw [eh]; exact hok _ _
  refine en_X7_settle (t_X7_settle_0 (ct_weighPieces hk hw (fun M1 hf1 h11 hp => ⟨rfl, t_X7_settle_4 ?_⟩)))
  have F1 : Fr sSet M M1 := hf1.mono (fun c i q => by simp [sSet] at q; simp [sWP]; omega)
  have hc1 : okC M M1 w := by
    refine ⟨hk, hw12, ?_, by rw [hf1.1 22 5 rfl]; exact hk.2.1, by rw [hf1.1 22 6 rfl]; exact h6, ⟨hf1.1 65 1 rfl, ub_congr (hf1.1 54 10 rfl) (fun i => hf1.1 57 i rfl)⟩, fun k hk' => by rw [hf1.1 24 k rfl, uu_get hk']; exact hk.2.2.1.at hk', hp⟩
    have := hk.fr hf1 (fun _ => ⟨⟨rfl, rfl, rfl, rfl, rfl⟩, rfl, rfl, rfl, rfl, rfl⟩) rfl rfl (fun _ => rfl) rfl
    exact this.1
  have eh1 : h = hh cov (fun k => gI M1 23 (uu M k)) (gI M1 25) := by
    rw [eh]
    have e1 : (fun k => gI M1 23 (uu M k)) = fun k => gI M 23 (uu M k) := funext (fun k => hf1.1 23 _ rfl)
    have e2 : gI M1 25 = gI M 25 := funext (fun k => hf1.1 25 _ rfl)
    rw [e1, e2]
  have e25 : gI M1 25 = gI M 25 := funext (fun k => hf1.1 25 _ rfl)
  -- from a number of RINGERS down
  have loop : ∀ (r : Nat) (M2 : Mem), r ≤ w → Fr s27 M1 M2 → (∀ r', r < r' → r' ≤ w → rowOk M M2 w h r') → Fw l D ad kA mX7_settle 9 [some (.ref (ad 22)), some (.int cov), some (.int (nI r)), none] [] M2 Q := by
    have stp : ∀ (M2 : Mem), Fr s27 M1 M2 → (∀ r', r' ≤ w → rowOk M M2 w h r') → Fw l D ad kA mX7_settle 9 [some (.ref (ad 22)), some (.int cov), some (.int (nI 0 + (-1))), none] [] M2 Q := by
      intro M2 hf2 hrows
      have hlt : nI 0 + (-1) < 0 := by decide
      have F2 : Fr sSet M M2 := F1.tr (hf2.mono (fun c i q => by simp [sSet] at q; simp [s27]; omega))
      have hc2 : okC M M2 w := hc1.fr hf2 (fun _ => ⟨rfl, rfl, rfl, rfl, rfl⟩) ⟨rfl, rfl, rfl⟩
      have g0 : gI M2 27 (0 : Int32).toNatClampNeg = nI (encO (GG (ub M).length w (PP M) h w 0)) := by
        have := hrows 0 (by omega) 0 (by omega)
        rw [Nat.sub_zero] at this
        exact this
      have hp2 : ∀ i' n : Nat, i' < (ub M).length → 1 ≤ n → (n : Int) ≤ (gI M 65 1).toInt → i' + n ≤ (ub M).length → gI M2 26 (i' * 13 + n) = nE (PP M i' (i' + n)) := fun i' n a1 a2 a3 a4 => by rw [hf2.1 26 _ rfl]; exact hp i' n a1 a2 a3 a4
      have h112 : gI M2 22 11 = 1 := by rw [hf2.1 22 11 rfl]; exact h11
      cases hg : GG (ub M).length w (PP M) h w 0 with
      | none =>
        have g0' : gI M2 27 (0 : Int32).toNatClampNeg = 16777216 := by rw [g0, hg]; rfl
        rw [hg] at K
        refine t_X7_settle_9 (fun _ _ => ?_) (fun _ q => absurd (by rw [g0']; decide) q) (fun q => absurd hlt q)
        rw [g0']
        exact K M2 F2 h112 hp2 (fun _ => ⟨by rw [hf2.1 22 4 rfl, hf1.1 22 4 rfl], fun i => by rw [hf2.1 23 i rfl, hf1.1 23 i rfl]⟩) (fun q => absurd rfl q)
      | some x =>
        have hsx := enc_small (GG_small okh (k := w) (by omega) (by omega) hg)
        have g0' : gI M2 27 (0 : Int32).toNatClampNeg = nI (enc3 x) := by rw [g0, hg]; rfl
        have hn : ¬ 16777216 ≤ nI (enc3 x) := by rw [show (16777216 : Int32) = nI 16777216 from rfl, nI_leI (by omega) (by omega)]; omega
        refine t_X7_settle_9 (fun _ q => absurd q (by rw [g0']; exact hn)) (fun _ _ => ?_) (fun q => absurd hlt q)
        have eh2 : h = hh cov (fun k => gI M2 23 (uu M k)) (gI M2 25) := by
          rw [eh1]
          have e1 : (fun k => gI M2 23 (uu M k)) = fun k => gI M1 23 (uu M k) := funext (fun k => hf2.1 23 _ rfl)
          have e2 : gI M2 25 = gI M1 25 := funext (fun k => hf2.1 25 _ rfl)
          rw [e1, e2]
        refine en_X7_handOut (t_X7_handOut_0 (lp_ho4 hc2 hok eh2 hrows (fun M3 hf3 hA => ⟨rfl, t_X7_settle_70 ?_⟩) w 0 0 M2 (by omega) (by omega) Fr.rf ⟨x, by rw [Nat.sub_zero]; exact hg⟩ (fun k hk => by omega) (fun k _ _ => rfl) (fun k _ => rfl)))
        rw [g0', show nI (enc3 x) = nI (encO (GG (ub M).length w (PP M) h w 0)) by rw [hg]; rfl]
        refine K _ ((F2.tr (hf3.mono (fun c i q => by simp [sSet] at q; simp [s23]; omega))).sI rfl) (by show gI M3 22 11 = 1; rw [hf3.1 22 11 rfl]; exact h112) (fun i' n a1 a2 a3 a4 => ?_) (fun q => by rw [hg] at q; cases q) (fun _ => ⟨rfl, fun k hk => ?_⟩)
        · show gI M3 26 _ = _
          rw [hf3.1 26 _ rfl]; exact hp2 i' n a1 a2 a3 a4
        · show gI M3 23 _ = _
          rw [hA k hk]
          have e2 : gI M2 25 = gI M 25 := funext (fun k => (hf2.1 25 _ rfl).trans (hf1.1 25 _ rfl))
          rw [e2]
    intro r
    induction r with
    | zero =>
      intro M2 hr hf2 hrows
      have hc2 : okC M M2 w := hc1.fr hf2 (fun _ => ⟨rfl, rfl, rfl, rfl, rfl⟩) ⟨rfl, rfl, rfl⟩
      have eh2 : h = hh cov (fun k => gI M2 23 (uu M k)) (gI M2 25) := by
        rw [eh1]
        have e1 : (fun k => gI M2 23 (uu M k)) = fun k => gI M1 23 (uu M k) := funext (fun k => hf2.1 23 _ rfl)
        have e2 : gI M2 25 = gI M1 25 := funext (fun k => hf2.1 25 _ rfl)
        rw [e1, e2]
      refine t_X7_settle_9 (fun q => absurd q (by decide)) (fun q => absurd q (by decide)) (fun _ => ?_)
      have := lp_se18 (l := l) (D := D) (ad := ad) (kA := kA) (Q := Q) hc2 eh2 okh hr (fun M3 hf3 hr3 => stp M3 (hf2.tr hf3) (fun r' a1 => hr3 r' (by omega) a1)) ((ub M).length + 1) M2 (by omega) Fr.rf hrows (fun j a1 a2 => by omega)
      rw [nI_pred] at this
      rw [hc2.2.2.2.1]
      exact this
    | succ r ih =>
      intro M2 hr hf2 hrows
      have hc2 : okC M M2 w := hc1.fr hf2 (fun _ => ⟨rfl, rfl, rfl, rfl, rfl⟩) ⟨rfl, rfl, rfl⟩
      have eh2 : h = hh cov (fun k => gI M2 23 (uu M k)) (gI M2 25) := by
        rw [eh1]
        have e1 : (fun k => gI M2 23 (uu M k)) = fun k => gI M1 23 (uu M k) := funext (fun k => hf2.1 23 _ rfl)
        have e2 : gI M2 25 = gI M1 25 := funext (fun k => hf2.1 25 _ rfl)
        rw [e1, e2]
      have hnl : ¬ nI (r + 1) < 0 := nI_pos (by omega)
      have e3 : nI (r + 1) + (-1) = nI r := by rw [i_eq, i_add, i_nI, i_nI, nm1] <;> (try rw [i_nI]) <;> (try rw [nm1]) <;> omega
      refine t_X7_settle_9 (fun q => absurd q hnl) (fun q => absurd q hnl) (fun _ => ?_)
      have := lp_se18 (l := l) (D := D) (ad := ad) (kA := kA) (Q := Q) hc2 eh2 okh hr (fun M3 hf3 hr3 => by rw [e3]; exact ih M3 (by omega) (hf2.tr hf3) (fun r' a1 a2 => hr3 r' (by omega) a2)) ((ub M).length + 1) M2 (by omega) Fr.rf hrows (fun j a1 a2 => by omega)
      rw [nI_pred] at this
      rw [hc2.2.2.2.1]
      exact this
  rw [hc1.2.2.2.2.1]
  exact loop w M1 (Nat.le_refl _) Fr.rf (fun r' a1 a2 => by omega)
end Settle3
