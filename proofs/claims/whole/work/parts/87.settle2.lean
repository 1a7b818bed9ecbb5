/-! RANGES in the class: settling, and handing out -/
section Settle2
variable {l : Launch} {D : va_G} {ad : Nat → Nat} {kA : Nat → ClassId} {M M0 : Mem} {Q : Outcome → Mem → Prop} {cov : Int32} {w : Nat}
/-- the row of prices behind a number of RINGERS is right -/
def rowOk (M0 M : Mem) (w : Nat) (h : Nat → Nat → Nat → Nat) (r : Nat) : Prop := ∀ j, j ≤ (ub M0).length → gI M 27 (r * 49 + j) = nI (encO (GG (ub M0).length w (PP M0) h (w - r) j))
theorem lp_lf30 {h : Nat → Nat → Nat → Nat} (hc : okC M0 M w) (eh : h = hh cov (fun k => gI M 23 (uu M0 k)) (gI M 25)) (ok : okR (ub M0).length (PP M0) h (nSt M0)) {r i : Nat} (hr : r < w) (hi : i ≤ (ub M0).length) (hrow : rowOk M0 M w h (r + 1))
    (K : Q (.returned (some (.int (nI (encO (GG (ub M0).length w (PP M0) h (w - r) i)))))) M) : ∀ (j n : Nat), n + j = min (gI M0 65 1).toInt.toNat ((ub M0).length - i) + 1 →
    Fw l D ad kA mX7_leastFrom 30 [some (.ref (ad 22)), some (.int (nI r)), some (.int (nI i)), some (.int cov), some (.int (nI (encO (foldB (cand (GG (ub M0).length w (PP M0) h (w - (r + 1))) (PP M0) (h r) i) n)))), some (.int (nI n))] [] M Q := by
  have hl := ub_len (M := M0)
  have hw := hc.2.1
  have n12' := hc.1.1.2.2.1
  rw [hc.1.1.1 1 (by omega)] at n12'
  have hlong := hc.long hi
  have bnd : ∀ n, n ≤ (ub M0).length - i + 1 → ∀ x, foldB (cand (GG (ub M0).length w (PP M0) h (w - (r + 1))) (PP M0) (h r) i) n = some x → small3 x := by
    intro n hn x e
    obtain ⟨m, h1, h2⟩ := fold_mem n e
    exact cand_small ok (by omega) (by omega) h2
  intro j
  induction j with
  | zero =>
    intro n hn
    have hlt : v_X7_longestFrom M (nI i) < nI n := by rw [hlong]; exact nI_lt (by omega) (by omega)
    refine t_X7_leastFrom_30 (fun _ => ?_) (fun q => absurd hlt q)
    have ek : w - r = (w - (r + 1)) + 1 := by omega
    have er : w - (w - (r + 1) + 1) = r := by omega
    rw [ek] at K
    have K : Q (.returned (some (.int (nI (encO (foldB (cand (GG (ub M0).length w (PP M0) h (w - (r + 1))) (PP M0) (h (w - (w - (r + 1) + 1))) i) ((ub M0).length - i + 1)))))) ) M := K
    rw [er] at K
    have ex : (ub M0).length - i + 1 = n + ((ub M0).length - i + 1 - n) := by omega
    rw [ex, fold_ext _ (fun m a1 a2 => cand_far (by omega) (by omega))] at K
    exact K
  | succ j ih =>
    intro n hn
    have hnlt : ¬ v_X7_longestFrom M (nI i) < nI n := by rw [hlong]; exact nI_nlt (by omega) (by omega)
    refine t_X7_leastFrom_30 (fun q => absurd q hnlt) (fun _ => ?_)
    have hG := hrow (i + n) (by omega)
    refine ct_priceWith (cov := cov) hc (by rw [← eh]; exact ok) hr (by omega) (by omega) hG (fun x e => GG_small ok (by omega) (by omega) e) ⟨_, rfl, t_X7_leastFrom_51 ?_⟩
    rw [← eh]
    have b1 : encO (foldB (cand (GG (ub M0).length w (PP M0) h (w - (r + 1))) (PP M0) (h r) i) n) ≤ 16777216 := by
      cases e : foldB (cand (GG (ub M0).length w (PP M0) h (w - (r + 1))) (PP M0) (h r) i) n with
      | none => exact Nat.le_refl _
      | some x => exact Nat.le_of_lt (enc_small (bnd n (by omega) x e))
    have b2 : encO (cand (GG (ub M0).length w (PP M0) h (w - (r + 1))) (PP M0) (h r) i n) ≤ 16777216 := by
      cases e : cand (GG (ub M0).length w (PP M0) h (w - (r + 1))) (PP M0) (h r) i n with
      | none => exact Nat.le_refl _
      | some x => exact Nat.le_of_lt (enc_small (cand_small ok (by omega) (by omega) e))
    rw [imin_nI (by omega) (by omega), ← encO_better (bnd n (by omega)) (fun x e => cand_small ok (by omega) (by omega) e), nI_1]
    exact ih (n + 1) (by omega)
theorem ct_leastFrom {h : Nat → Nat → Nat → Nat} (hc : okC M0 M w) (eh : h = hh cov (fun k => gI M 23 (uu M0 k)) (gI M 25)) (ok : okR (ub M0).length (PP M0) h (nSt M0)) {r i : Nat} (hr : r ≤ w) (hi : i ≤ (ub M0).length) (hrow : r < w → rowOk M0 M w h (r + 1))
    (K : Q (.returned (some (.int (nI (encO (GG (ub M0).length w (PP M0) h (w - r) i)))))) M) : Cal l D ad kA mX7_leastFrom [.ref (ad 22), .int (nI r), .int (nI i), .int cov] M Q := by
  have hl := ub_len (M := M0)
  have hw := hc.2.1
  have e6 := hc.2.2.2.2.1
  have e5 := hc.2.2.2.1
  by_cases c : r < w
  · have hlt : nI r < gI M 22 6 := by rw [e6]; exact nI_lt c (by omega)
    refine en_X7_leastFrom (t_X7_leastFrom_0 (fun _ => ?_) (fun q => absurd hlt q))
    exact lp_lf30 hc eh ok c hi (hrow c) K _ 0 (Nat.zero_add _)
  · have : r = w := by omega
    subst this
    have hnlt : ¬ nI r < gI M 22 6 := by rw [e6]; exact nI_nlt (Nat.le_refl _) (by omega)
    refine en_X7_leastFrom (t_X7_leastFrom_0 (fun q => absurd q hnlt) (fun _ => ?_))
    rw [Nat.sub_self] at K
    have K : Q (.returned (some (.int (nI (encO (if i = (ub M0).length then some (0, 0, 0) else none)))))) M := K
    rw [e5]
    by_cases c2 : i = (ub M0).length
    · rw [if_pos c2] at K
      rw [if_neg (nI_nlt (by omega) (by omega))]
      exact K
    · rw [if_neg c2] at K
      rw [if_pos (nI_lt (by omega) (by omega))]
      exact K
def s27 (c i : Nat) : Bool := c == 27
theorem lp_se18 {h : Nat → Nat → Nat → Nat} (hc : okC M0 M w) (eh : h = hh cov (fun k => gI M 23 (uu M0 k)) (gI M 25)) (ok : okR (ub M0).length (PP M0) h (nSt M0)) {r : Nat} (hr : r ≤ w)
    (K : ∀ M', Fr s27 M M' → (∀ r', r ≤ r' → r' ≤ w → rowOk M0 M' w h r') → Fw l D ad kA mX7_settle 9 [some (.ref (ad 22)), some (.int cov), some (.int (nI r + (-1))), none] [] M' Q) : ∀ (i : Nat) (M' : Mem), i ≤ (ub M0).length + 1 → Fr s27 M M' → (∀ r', r < r' → r' ≤ w → rowOk M0 M' w h r') → (∀ j, i ≤ j → j ≤ (ub M0).length → gI M' 27 (r * 49 + j) = nI (encO (GG (ub M0).length w (PP M0) h (w - r) j))) →
    Fw l D ad kA mX7_settle 18 [some (.ref (ad 22)), some (.int cov), some (.int (nI r)), some (.int (nI i - 1))] [] M' Q := by
  have hl := ub_len (M := M0)
  have hw := hc.2.1
  intro i
  induction i with
  | zero =>
    intro M' hi hf hr1 hr2
    have hlt : nI 0 - 1 < 0 := by decide
    refine t_X7_settle_18 (fun _ => K M' hf (fun r' a1 a2 => ?_)) (fun q => absurd hlt q)
    by_cases e : r' = r
    · subst e; exact fun j hj => hr2 j (by omega) hj
    · exact hr1 r' (by omega) a2
  | succ i ih =>
    intro M' hi hf hr1 hr2
    have hnlt : ¬ nI (i + 1) - 1 < 0 := by rw [nI_pred]; exact nI_pos (by omega)
    have hc' : okC M0 M' w := hc.fr hf (fun _ => ⟨rfl, rfl, rfl, rfl, rfl⟩) ⟨rfl, rfl, rfl⟩
    have eh' : h = hh cov (fun k => gI M' 23 (uu M0 k)) (gI M' 25) := by
      rw [eh]
      have e1 : (fun k => gI M' 23 (uu M0 k)) = fun k => gI M 23 (uu M0 k) := funext (fun k => hf.1 23 _ rfl)
      have e2 : gI M' 25 = gI M 25 := funext (fun k => hf.1 25 _ rfl)
      rw [e1, e2]
    refine t_X7_settle_18 (fun q => absurd q hnlt) (fun _ => ?_)
    rw [nI_pred]
    refine ct_leastFrom hc' eh' ok hr (by omega) (fun z => hr1 (r + 1) (by omega) (by omega)) ⟨_, rfl, ?_⟩
    have ec : nI r * 49 + nI i = nI (r * 49 + i) := by rw [show (49 : Int32) = nI 49 from rfl, nI_mul, nI_add]
    rw [ec]
    refine t_X7_settle_39 (ixN (by omega) (by omega)) ?_
    have e2 : nI i + (-1) = nI i - 1 := by rw [i_eq, i_sub, i_add, i_nI, nm1, n1] <;> (try rw [i_nI]) <;> (try rw [nm1]) <;> (try rw [n1]) <;> omega
    rw [nI_clamp (by omega), e2]
    refine ih _ (by omega) (hf.sI rfl) (fun r' a1 a2 j hj => ?_) (fun j a1 a2 => ?_)
    · rw [gI_oi (by omega)]; exact hr1 r' a1 a2 j hj
    · by_cases e : j = i
      · subst e; rw [gI_self]
      · rw [gI_oi (by omega)]; exact hr2 j (by omega) a2
/-- how many BELLS the next RINGER has -/
noncomputable def nnR (M0 : Mem) (w : Nat) (h : Nat → Nat → Nat → Nat) (r i : Nat) : Nat := fnd (fun n => encO (cand (GG (ub M0).length w (PP M0) h (w - (r + 1))) (PP M0) (h r) i n)) (encO (GG (ub M0).length w (PP M0) h (w - r) i)) ((ub M0).length - i) 0
theorem nnR_spec {h : Nat → Nat → Nat → Nat} (ok : okR (ub M0).length (PP M0) h (nSt M0)) (hm : 1 ≤ (gI M0 65 1).toInt) {r i : Nat} (hr : r < w) (hw : w ≤ 12) (hi : i ≤ (ub M0).length) {x : Nat × Nat × Nat} (hx : GG (ub M0).length w (PP M0) h (w - r) i = some x) :
    i + nnR M0 w h r i ≤ (ub M0).length ∧ ((nnR M0 w h r i : Nat) : Int) ≤ (gI M0 65 1).toInt ∧ (∃ y, cand (GG (ub M0).length w (PP M0) h (w - (r + 1))) (PP M0) (h r) i (nnR M0 w h r i) = some y ∧ enc3 y = enc3 x) ∧ (∃ y, GG (ub M0).length w (PP M0) h (w - (r + 1)) (i + nnR M0 w h r i) = some y) ∧ ∀ n, n < nnR M0 w h r i → ¬ encO (cand (GG (ub M0).length w (PP M0) h (w - (r + 1))) (PP M0) (h r) i n) = enc3 x := by
  have ek : w - r = (w - (r + 1)) + 1 := by omega
  have er : w - (w - (r + 1) + 1) = r := by omega
  have hx' := hx
  rw [ek] at hx'
  have hx' : foldB (cand (GG (ub M0).length w (PP M0) h (w - (r + 1))) (PP M0) (h (w - (w - (r + 1) + 1))) i) ((ub M0).length - i + 1) = some x := hx'
  rw [er] at hx'
  obtain ⟨m, m1, m2⟩ := fold_hit hx'
  rw [hx'] at m2
  obtain ⟨s1, s2, s3, s4⟩ := fnd_spec (f := fun n => encO (cand (GG (ub M0).length w (PP M0) h (w - (r + 1))) (PP M0) (h r) i n)) (e := enc3 x) ((ub M0).length - i) 0 ⟨m, by omega, by omega, m2⟩
  have en : nnR M0 w h r i = fnd (fun n => encO (cand (GG (ub M0).length w (PP M0) h (w - (r + 1))) (PP M0) (h r) i n)) (enc3 x) ((ub M0).length - i) 0 := by
    unfold nnR; rw [hx]; rfl
  rw [← en] at s1 s2 s3 s4
  have s1 : encO (cand (GG (ub M0).length w (PP M0) h (w - (r + 1))) (PP M0) (h r) i (nnR M0 w h r i)) = enc3 x := s1
  have hsx := enc_small (GG_small ok (by omega) hi hx)
  cases hcd : cand (GG (ub M0).length w (PP M0) h (w - (r + 1))) (PP M0) (h r) i (nnR M0 w h r i) with
  | none =>
    rw [hcd] at s1
    have s1 : 16777216 = enc3 x := s1
    omega
  | some y =>
    rw [hcd] at s1
    have s1 : enc3 y = enc3 x := s1
    obtain ⟨c, t, kk, g1, -⟩ := cand_some hcd
    refine ⟨by omega, ?_, ⟨y, rfl, s1⟩, ⟨_, g1⟩, fun n hn => s4 n (by omega) hn⟩
    apply Classical.byContradiction
    intro q
    rw [cand_far (by omega) (by omega)] at hcd
    cases hcd
def ArrR (nn : Nat → Nat → Nat) (Rr : Nat → Int32) : Nat → Nat → Nat → Nat → Int32
  | 0, _, _, _ => 0
  | j + 1, r, i, k => if k < i + nn r i then Rr r else ArrR nn Rr j (r + 1) (i + nn r i) k
end Settle2
