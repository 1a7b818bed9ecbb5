/-! RANGES in the class: the prices of what is left -/
/-- how many change hands -/
def chN (H : Nat → Int32) (x : Int32) : Nat → Nat → Nat
  | 0, _ => 0
  | n + 1, k => (if H k = x then 0 else 1) + chN H x n (k + 1)
theorem chN_le {H : Nat → Int32} {x : Int32} : ∀ n k, chN H x n k ≤ n := by
  intro n
  induction n with
  | zero => intro k; exact Nat.le_refl _
  | succ n ih =>
    intro k
    unfold chN
    have := ih (k + 1)
    split <;> omega
theorem chN_congr {H H' : Nat → Int32} {x : Int32} : ∀ n k, (∀ a, k ≤ a → a < k + n → H a = H' a) → chN H x n k = chN H' x n k := by
  intro n
  induction n with
  | zero => intro k _; rfl
  | succ n ih =>
    intro k h
    unfold chN
    rw [h k (by omega) (by omega), ih (k + 1) (fun a h1 h2 => h a (by omega) (by omega))]
theorem chN_all {H : Nat → Int32} {x : Int32} : ∀ n k, (∀ a, k ≤ a → a < k + n → ¬ H a = x) → chN H x n k = n := by
  intro n
  induction n with
  | zero => intro k _; rfl
  | succ n ih =>
    intro k h
    unfold chN
    rw [if_neg (h k (by omega) (by omega)), ih (k + 1) (fun a h1 h2 => h a (by omega) (by omega))]
    omega
/-- changes as the class counts them -/
def hh (cov : Int32) (H Rr : Nat → Int32) (r i j : Nat) : Nat := if cov = 0 then 0 else chN H (Rr r) (j - i) i
theorem hh_le {cov : Int32} {H Rr : Nat → Int32} {r i j : Nat} : hh cov H Rr r i j ≤ j - i := by
  unfold hh
  split
  · omega
  · exact chN_le _ _
theorem okR_of {M : Mem} {cov : Int32} {H Rr : Nat → Int32} (hb : ∀ a, a < szM M → 0 ≤ (gI M 57 a).toInt ∧ (gI M 57 a).toInt ≤ 47) (hs : szM M ≤ 160) : okR (ub M).length (PP M) (hh cov H Rr) (nSt M) :=
  ⟨ub_len, by have := nSt_le (M := M) (i := (ub M).length); omega, fun i j h1 _ h3 => PP_nS hb h1 h3, fun r i j _ _ => hh_le⟩
theorem cand_far {M : Mem} {G : Nat → Option (Nat × Nat × Nat)} {h : Nat → Nat → Nat} {i n : Nat} (hn : ¬ n = 0) (hm : (gI M 65 1).toInt < n) : cand G (PP M) h i n = none := by
  unfold cand
  cases G (i + n) with
  | none => rfl
  | some x =>
    show (if n = 0 then _ else if PP M i (i + n) < 1000000 then _ else none) = none
    rw [if_neg hn, PP_f (by unfold inP; intro z; omega), if_neg (by omega)]
section Settle
variable {l : Launch} {D : va_G} {ad : Nat → Nat} {kA : Nat → ClassId} {M M0 : Mem} {Q : Outcome → Mem → Prop} {cov : Int32} {w : Nat}
/-- what the class's settling rests on, over the BELLS of M0 -/
def okC (M0 M : Mem) (w : Nat) : Prop := okW M0 ∧ w ≤ 12 ∧ RRule M ∧ gI M 22 5 = nI (ub M0).length ∧ gI M 22 6 = nI w ∧ (gI M 65 1 = gI M0 65 1 ∧ ub M = ub M0) ∧ (∀ k, k < (ub M0).length → gI M 24 k = nI (uu M0 k)) ∧ ∀ i n : Nat, i < (ub M0).length → 1 ≤ n → (n : Int) ≤ (gI M0 65 1).toInt → i + n ≤ (ub M0).length → gI M 26 (i * 13 + n) = nE (PP M0 i (i + n))
theorem okC.fr {S : Nat → Nat → Bool} {M' : Mem} (h : okC M0 M w) (hf : Fr S M M') (h15 : ∀ i, S 15 i = false ∧ S 65 i = false ∧ S 24 i = false ∧ S 26 i = false ∧ S 57 i = false) (h22 : S 22 5 = false ∧ S 22 6 = false ∧ S 54 10 = false) : okC M0 M' w := by
  obtain ⟨k1, k2, k3, k4, k5, k6, k7, k8⟩ := h
  refine ⟨k1, k2, ?_, by rw [hf.1 22 5 h22.1]; exact k4, by rw [hf.1 22 6 h22.2.1]; exact k5, ⟨by rw [hf.1 65 1 (h15 1).2.1]; exact k6.1, by rw [ub_congr (hf.1 54 10 h22.2.2) (fun i => hf.1 57 i (h15 i).2.2.2.2)]; exact k6.2⟩, fun k hk => by rw [hf.1 24 k (h15 k).2.2.1]; exact k7 k hk, fun i n a1 a2 a3 a4 => by rw [hf.1 26 _ (h15 _).2.2.2.1]; exact k8 i n a1 a2 a3 a4⟩
  unfold RRule
  rw [hf.1 15 0 (h15 0).1, hf.1 15 1 (h15 1).1, hf.1 15 2 (h15 2).1, hf.1 15 3 (h15 3).1]
  exact ⟨fun a ha => by rw [hf.1 15 a (h15 a).1, hf.1 65 a (h15 a).2.1]; exact k3.1 a ha, k3.2⟩
theorem okC.long (h : okC M0 M w) {i : Nat} (hi : i ≤ (ub M0).length) : v_X7_longestFrom M (nI i) = nI (min (gI M0 65 1).toInt.toNat ((ub M0).length - i)) := by
  obtain ⟨k1, k2, k3, k4, k5, k6, k7, k8⟩ := h
  rw [v_longest k3 (by rw [k6.2]; exact k4) (by rw [k6.2]; exact hi), k6.1, k6.2]
theorem lp_cc6 (h : okC M0 M w) {x : Int32} {i n : Nat} (hin : i + n ≤ (ub M0).length) : ∀ (j k acc : Nat), k + j = i + n → acc + j ≤ 1000 → Q (.returned (some (.int (nI (acc + chN (fun k => gI M 23 (uu M0 k)) x j k))))) M →
    Fw l D ad kA mX7_countChanges 6 [some (.ref (ad 22)), some (.int (nI i)), some (.int (nI n)), some (.int x), some (.int (nI acc)), some (.int (nI k))] [] M Q := by
  have hl := ub_len (M := M0)
  intro j
  induction j with
  | zero =>
    intro k acc hk ha K
    have hle : nI i + nI n ≤ nI k := by rw [nI_add, nI_leI (by omega) (by omega)]; omega
    exact t_X7_countChanges_6 (fun q => absurd hle q) (fun q => absurd hle q) (fun _ => K) (fun q => absurd hle q)
  | succ j ih =>
    intro k acc hk ha K
    have hnle : ¬ nI i + nI n ≤ nI k := by rw [nI_add, nI_leI (by omega) (by omega)]; omega
    have e := h.2.2.2.2.2.2.1 k (by omega)
    have hu := uu_lt (M := M0) (k := k) (by omega)
    refine t_X7_countChanges_6 (fun _ => ixN (by omega) (by omega)) (fun _ => by rw [nI_clamp (by omega), e]; exact ixN hu (by omega)) (fun q => absurd q hnle) (fun _ => ?_)
    rw [nI_clamp (by omega), e, nI_clamp (by omega), nI_1]
    unfold chN at K
    by_cases c : gI M 23 (uu M0 k) = x
    · rw [if_pos c]
      simp only [if_pos c] at K
      have : nI acc + 0 = nI acc := Int32.add_zero _
      rw [this]
      exact ih (k + 1) acc (by omega) (by omega) (by rw [show acc + (0 + chN (fun k => gI M 23 (uu M0 k)) x j (k + 1)) = acc + chN (fun k => gI M 23 (uu M0 k)) x j (k + 1) by omega] at K; exact K)
    · rw [if_neg c, nI_1]
      simp only [if_neg c] at K
      exact ih (k + 1) (acc + 1) (by omega) (by omega) (by rw [show acc + (1 + chN (fun k => gI M 23 (uu M0 k)) x j (k + 1)) = acc + 1 + chN (fun k => gI M 23 (uu M0 k)) x j (k + 1) by omega] at K; exact K)
theorem ct_priceWith (h : okC M0 M w) (ok : okR (ub M0).length (PP M0) (hh cov (fun k => gI M 23 (uu M0 k)) (gI M 25)) (nSt M0)) {r i n : Nat} {G : Nat → Option (Nat × Nat × Nat)} (hr : r < w) (hin : i + n ≤ (ub M0).length) (hn : (n : Int) ≤ (gI M0 65 1).toInt)
    (hG : gI M 27 ((r + 1) * 49 + (i + n)) = nI (encO (G (i + n)))) (hGs : ∀ x, G (i + n) = some x → small3 x)
    (K : Q (.returned (some (.int (nI (encO (cand G (PP M0) (hh cov (fun k => gI M 23 (uu M0 k)) (gI M 25) r) i n)))))) M) : Cal l D ad kA mX7_priceWith [.ref (ad 22), .int (nI r), .int (nI i), .int (nI n), .int cov] M Q := by
  have hl := ub_len (M := M0)
  have hw := h.2.1
  have ec : (nI r + 1) * 49 + nI i + nI n = nI ((r + 1) * 49 + (i + n)) := by rw [nI_1, show (49 : Int32) = nI 49 from rfl, nI_mul, nI_add, nI_add, Nat.add_assoc]
  have ec2 : nI i * 13 + nI n = nI (i * 13 + n) := by rw [show (13 : Int32) = nI 13 from rfl, nI_mul, nI_add]
  have hcl : (nI ((r + 1) * 49 + (i + n))).toNatClampNeg = (r + 1) * 49 + (i + n) := nI_clamp (by omega)
  have n12' := h.1.1.2.2.1
  rw [h.1.1.1 1 (by omega)] at n12'
  have hcl2 : (nI (i * 13 + n)).toNatClampNeg = i * 13 + n := nI_clamp (by omega)
  unfold cand at K
  cases hg : G (i + n) with
  | none =>
    rw [hg] at hG K
    have k5 : gI M 27 ((nI r + 1) * 49 + nI i + nI n).toNatClampNeg = 16777216 := by rw [ec, hcl, hG]; rfl
    have nl : ¬ (16777216 : Int32) < 16777216 := by decide
    refine en_X7_priceWith (t_X7_priceWith_0 (by rw [ec]; exact ixN (by omega) (by omega)) (fun _ q => absurd q (by rw [k5]; exact nl)) (fun _ q => absurd q (by rw [k5]; exact nl)) (fun _ => by rw [k5]; exact K) (fun _ q => absurd q (by rw [k5]; exact nl)) (fun _ q => absurd q (by rw [k5]; exact nl)) (fun _ q => absurd q (by rw [k5]; exact nl)) (fun _ _ => by rw [k5]; exact K))
  | some y =>
    obtain ⟨c, t, kk⟩ := y
    rw [hg] at hG K
    have hsm := hGs _ hg
    have hen : enc3 (c, t, kk) < 16777216 := enc_small hsm
    have hs1 : c ≤ 48 ∧ t ≤ 160 ∧ kk ≤ 12 := hsm
    have he : enc3 (c, t, kk) = c * 100000 + t * 100 + kk := rfl
    have k5 : gI M 27 ((nI r + 1) * 49 + nI i + nI n).toNatClampNeg = nI (c * 100000 + t * 100 + kk) := by rw [ec, hcl, hG]; rfl
    have lt5 : nI (c * 100000 + t * 100 + kk) < 16777216 := by rw [show (16777216 : Int32) = nI 16777216 from rfl, nI_ltI (by omega) (by omega)]; omega
    have K : Q (.returned (some (.int (nI (encO (if n = 0 then some (c, t, kk) else if PP M0 i (i + n) < 1000000 then some (c + hh cov (fun k => gI M 23 (uu M0 k)) (gI M 25) r i (i + n), t + PP M0 i (i + n), kk + 1) else none)))))) M := K
    by_cases c0 : n = 0
    · rw [if_pos c0] at K
      have e0 : nI n = 0 := by rw [c0]; rfl
      exact en_X7_priceWith (t_X7_priceWith_0 (by rw [ec]; exact ixN (by omega) (by omega)) (fun q => absurd e0 q) (fun q => absurd e0 q) (fun _ => by rw [k5]; exact K) (fun q => absurd e0 q) (fun q => absurd e0 q) (fun q => absurd e0 q) (fun q => absurd e0 q))
    · rw [if_neg c0] at K
      have e0 : ¬ nI n = 0 := nI_ne0 (by omega) (by omega)
      have k8 := h.2.2.2.2.2.2.2 i n (by omega) (by omega) hn hin
      have k6 : gI M 26 (nI i * 13 + nI n).toNatClampNeg = nE (PP M0 i (i + n)) := by rw [ec2, hcl2, k8]
      by_cases c1 : PP M0 i (i + n) < 1000000
      · rw [if_pos c1] at K
        have hP := ok.2.2.1 i (i + n) (by omega) hin c1
        have hP2 := ok.2.1
        have hP3 : nSt M0 (i + n) ≤ 160 := by
          have := nSt_le (M := M0) (i := i + n)
          have := h.1.2.2.2.1.1
          omega
        have lt6 : nE (PP M0 i (i + n)) < 16777216 := by rw [i_lt, nNEV, nE_toInt, if_pos c1]; omega
        have fin : ∀ ch : Nat, ch ≤ 48 → ((nI (c * 100000 + t * 100 + kk) + nI ch * 100000) + nE (PP M0 i (i + n)) * 100) + 1 = nI (encO (some (c + ch, t + PP M0 i (i + n), kk + 1))) := by
          intro ch hch
          rw [nE_lt c1, show (100000 : Int32) = nI 100000 from rfl, show (100 : Int32) = nI 100 from rfl, nI_mul, nI_mul, nI_add, nI_add, nI_1]
          show nI _ = nI ((c + ch) * 100000 + (t + PP M0 i (i + n)) * 100 + (kk + 1))
          exact congrArg nI (by omega)
        by_cases cv : cov = 0
        · have h0 : hh cov (fun k => gI M 23 (uu M0 k)) (gI M 25) r i (i + n) = 0 := if_pos cv
          rw [h0, ← fin 0 (by omega)] at K
          exact en_X7_priceWith (t_X7_priceWith_0 (by rw [ec]; exact ixN (by omega) (by omega)) (fun _ _ => by rw [ec2]; exact ixN (by omega) (by omega)) (fun _ _ _ q => absurd cv q) (fun q => absurd q e0) (fun _ _ _ _ => by rw [k5, k6]; exact K) (fun _ _ _ q => absurd cv q) (fun _ _ q => absurd (by rw [k6]; exact lt6) q) (fun _ q => absurd (by rw [k5]; exact lt5) q))
        · have h0 : hh cov (fun k => gI M 23 (uu M0 k)) (gI M 25) r i (i + n) = chN (fun k => gI M 23 (uu M0 k)) (gI M 25 r) n i := by
            unfold hh
            rw [if_neg cv, show i + n - i = n by omega]
          have hch := chN_le (H := fun k => gI M 23 (uu M0 k)) (x := gI M 25 r) n i
          rw [h0, ← fin _ (by omega)] at K
          refine en_X7_priceWith (t_X7_priceWith_0 (by rw [ec]; exact ixN (by omega) (by omega)) (fun _ _ => by rw [ec2]; exact ixN (by omega) (by omega)) (fun _ _ _ _ => ixN (by omega) (by omega)) (fun q => absurd q e0) (fun _ _ _ q => absurd q cv) (fun _ _ _ _ => ?_) (fun _ _ q => absurd (by rw [k6]; exact lt6) q) (fun _ q => absurd (by rw [k5]; exact lt5) q))
          rw [nI_clamp (by omega)]
          refine en_X7_countChanges (t_X7_countChanges_0 (lp_cc6 h hin n i 0 rfl (by omega) ⟨_, rfl, t_X7_priceWith_71 ?_⟩))
          rw [k5, k6, Nat.zero_add]
          exact K
      · rw [if_neg c1] at K
        have lt6 : ¬ nE (PP M0 i (i + n)) < 16777216 := by rw [i_lt, nNEV, nE_toInt, if_neg c1]; omega
        exact en_X7_priceWith (t_X7_priceWith_0 (by rw [ec]; exact ixN (by omega) (by omega)) (fun _ _ => by rw [ec2]; exact ixN (by omega) (by omega)) (fun _ _ q => absurd q (by rw [k6]; exact lt6)) (fun q => absurd q e0) (fun _ _ q => absurd q (by rw [k6]; exact lt6)) (fun _ _ q => absurd q (by rw [k6]; exact lt6)) (fun _ _ _ => K) (fun _ q => absurd (by rw [k5]; exact lt5) q))
end Settle
