/-! RANGES in the model: all rows of the table; taking them -/
section RangeM2
variable {l : Launch} {D : va_G} {ad : Nat → Nat} {kA : Nat → ClassId} {M M0 : Mem} {Q : Outcome → Mem → Prop} {w : Nat} {h : Nat → Nat → Nat → Nat} {off : Nat → Nat}
theorem lp_fr6 (k : okG M0 M w h off)
    (K : ∀ M', Fr sR3 M M' → (∀ j, j ≤ (ub M0).length → tblOk M0 M' w h off w j) → Fw l D ad kA mX13_findRanges 83 [some (.ref (ad 54)), some (.int (nI w - 1)), none, none, none, none] [] M' Q) : ∀ (j i : Nat) (M' : Mem), i + j = (ub M0).length + 1 → Fr sR3 M M' → (∀ j', j' < i → tblOk M0 M' w h off w j') →
    Fw l D ad kA mX13_findRanges 6 [some (.ref (ad 54)), some (.int (nI i)), none, none, none, none] [] M' Q := by
  have hl := ub_len (M := M0)
  have hw := k.2.1
  intro j
  induction j with
  | zero =>
    intro i M' hi hf hd
    have k' := k.fr hf ⟨rfl, rfl⟩ (fun _ => ⟨rfl, rfl, rfl⟩)
    have hlt : gI M' 54 40 < nI i := by rw [k'.2.2.1]; exact nI_lt (by omega) (by omega)
    refine t_X13_findRanges_6 (fun q => absurd hlt q) (fun _ => ?_) (fun q => absurd hlt q)
    rw [k'.2.2.2.1]
    exact K M' hf (fun j' a1 => hd j' (by omega))
  | succ j ih =>
    intro i M' hi hf hd
    have k' := k.fr hf ⟨rfl, rfl⟩ (fun _ => ⟨rfl, rfl, rfl⟩)
    have hnlt : ¬ gI M' 54 40 < nI i := by rw [k'.2.2.1]; exact nI_nlt (by omega) (by omega)
    refine t_X13_findRanges_6 (fun _ => by rw [k'.2.2.2.1, v_spot]; exact ixN (by omega) (by omega)) (fun q => absurd q hnlt) (fun _ => ?_)
    rw [k'.2.2.2.1, v_spot, nI_clamp (by omega), k'.2.2.1, nI_1]
    refine ih (i + 1) _ (by omega) (((hf.sI rfl).sI rfl).sI rfl) (fun j' a1 => ?_)
    by_cases e : j' = i
    · subst e
      unfold tblOk
      rw [Nat.sub_self]
      show (∀ x, (if j' = (ub M0).length then some (0, 0, 0) else none) = some x → _) ∧ ((if j' = (ub M0).length then some (0, 0, 0) else none) = none → _)
      by_cases c : j' = (ub M0).length
      · rw [if_pos c, if_pos (by rw [c])]
        refine ⟨fun x hx => ?_, fun hx => by cases hx⟩
        cases hx
        refine ⟨?_, ?_, ?_⟩
        · rw [gI_o (by omega), gI_o (by omega), gI_self, c, k.2.2.2.2.2.2.1]; rfl
        · rw [gI_self]; rfl
        · rw [gI_o (by omega), gI_self]; rfl
      · rw [if_neg c, if_neg (by rw [nI_eq (by omega) (by omega)]; exact c)]
        refine ⟨fun x hx => (by cases hx), fun _ => ?_⟩
        rw [gI_self]; rfl
    · have := hd j' (by omega)
      have ne : ¬ 49 * w + j' = 49 * w + i := by omega
      have o1 : ∀ v : Int32, gI (sI (sI (sI M' 76 (49 * w + i) 0) 78 (49 * w + i) 0) 77 (49 * w + i) v) 76 (49 * w + j') = gI M' 76 (49 * w + j') := fun v => by rw [gI_o (by omega), gI_o (by omega), gI_oi ne]
      have o2 : ∀ v : Int32, gI (sI (sI (sI M' 76 (49 * w + i) 0) 78 (49 * w + i) 0) 77 (49 * w + i) v) 77 (49 * w + j') = gI M' 77 (49 * w + j') := fun v => by rw [gI_oi ne, gI_o (by omega), gI_o (by omega)]
      have o3 : ∀ v : Int32, gI (sI (sI (sI M' 76 (49 * w + i) 0) 78 (49 * w + i) 0) 77 (49 * w + i) v) 78 (49 * w + j') = gI M' 78 (49 * w + j') := fun v => by rw [gI_o (by omega), gI_oi ne, gI_o (by omega)]
      unfold tblOk at this ⊢
      rw [o1, o2, o3]
      exact this
theorem lp_fr89 (k : okG M0 M w h off) {r : Nat} (hr : r < w)
    (K : ∀ M', Fr sR3 M M' → (∀ r', r ≤ r' → r' ≤ w → ∀ j, j ≤ (ub M0).length → tblOk M0 M' w h off r' j) → Fw l D ad kA mX13_findRanges 83 [some (.ref (ad 54)), some (.int (nI r + (-1))), none, none, none, none] [] M' Q) : ∀ (j i : Nat) (M' : Mem), i + j = (ub M0).length + 1 → Fr sR3 M M' → (∀ r', r < r' → r' ≤ w → ∀ j', j' ≤ (ub M0).length → tblOk M0 M' w h off r' j') → (∀ j', j' < i → tblOk M0 M' w h off r j') →
    Fw l D ad kA mX13_findRanges 89 [some (.ref (ad 54)), some (.int (nI r)), some (.int (nI i)), none, none, none] [] M' Q := by
  have hl := ub_len (M := M0)
  have hw := k.2.1
  intro j
  induction j with
  | zero =>
    intro i M' hi hf h1 h2
    have k' := k.fr hf ⟨rfl, rfl⟩ (fun _ => ⟨rfl, rfl, rfl⟩)
    have hlt : gI M' 54 40 < nI i := by rw [k'.2.2.1]; exact nI_lt (by omega) (by omega)
    refine t_X13_findRanges_89 (fun q => absurd hlt q) (fun _ => K M' hf (fun r' a1 a2 j' a3 => ?_)) (fun q => absurd hlt q)
    by_cases e : r' = r
    · subst e; exact h2 j' (by omega)
    · exact h1 r' (by omega) a2 j' a3
  | succ j ih =>
    intro i M' hi hf h1 h2
    have k' := k.fr hf ⟨rfl, rfl⟩ (fun _ => ⟨rfl, rfl, rfl⟩)
    have hnlt : ¬ gI M' 54 40 < nI i := by rw [k'.2.2.1]; exact nI_nlt (by omega) (by omega)
    refine t_X13_findRanges_89 (fun _ => by rw [v_spot]; exact ixN (by omega) (by omega)) (fun q => absurd q hnlt) (fun _ => ?_)
    rw [v_spot, nI_clamp (by omega)]
    generalize hM2 : sI (sI (sI M' 76 (49 * r + i) 1000000) 77 (49 * r + i) 1000000) 78 (49 * r + i) 1000000 = M2
    have hf2 : Fr sR3 M M2 := by rw [← hM2]; exact ((hf.sI rfl).sI rfl).sI rfl
    have oth : ∀ a, ¬ a = 49 * r + i → gI M2 76 a = gI M' 76 a ∧ gI M2 77 a = gI M' 77 a ∧ gI M2 78 a = gI M' 78 a := by
      intro a ha
      rw [← hM2]
      refine ⟨?_, ?_, ?_⟩
      · rw [gI_o (by omega), gI_o (by omega), gI_oi ha]
      · rw [gI_o (by omega), gI_oi ha, gI_o (by omega)]
      · rw [gI_oi ha, gI_o (by omega), gI_o (by omega)]
    have mv : ∀ (M3 : Mem), (∀ a, ¬ a = 49 * r + i → gI M3 76 a = gI M' 76 a ∧ gI M3 77 a = gI M' 77 a ∧ gI M3 78 a = gI M' 78 a) → ∀ r' j', (¬ 49 * r' + j' = 49 * r + i) → tblOk M0 M' w h off r' j' → tblOk M0 M3 w h off r' j' := by
      intro M3 ho r' j' hne ht
      obtain ⟨o1, o2, o3⟩ := ho _ hne
      unfold tblOk at ht ⊢
      rw [o1, o2, o3]
      exact ht
    have k2 := k.fr hf2 ⟨rfl, rfl⟩ (fun _ => ⟨rfl, rfl, rfl⟩)
    refine lp_fr133 k2 hr (by omega) (fun j' a1 => mv M2 oth (r + 1) j' (by omega) (h1 (r + 1) (by omega) (by omega) j' a1)) (fun M3 hf3 ho3 ht3 => ?_) ((ub M0).length + 1 - i) 0 M2 (by omega) Fr.rf (fun _ _ => ⟨rfl, rfl, rfl⟩) ?_
    · have ho : ∀ a, ¬ a = 49 * r + i → gI M3 76 a = gI M' 76 a ∧ gI M3 77 a = gI M' 77 a ∧ gI M3 78 a = gI M' 78 a := by
        intro a ha
        obtain ⟨p1, p2, p3⟩ := ho3 a ha
        obtain ⟨q1, q2, q3⟩ := oth a ha
        exact ⟨p1.trans q1, p2.trans q2, p3.trans q3⟩
      refine ih (i + 1) M3 (by omega) (hf2.tr hf3) (fun r' a1 a2 j' a3 => mv M3 ho r' j' (by omega) (h1 r' a1 a2 j' a3)) (fun j' a1 => ?_)
      by_cases e : j' = i
      · subst e; exact ht3
      · exact mv M3 ho r j' (by omega) (h2 j' (by omega))
    · refine ⟨fun x hx => (by cases hx), fun _ => ?_⟩
      rw [← hM2]
      refine ⟨?_, ?_, ?_⟩
      · rw [gI_o (by omega), gI_o (by omega), gI_self]; rfl
      · rw [gI_o (by omega), gI_self]; rfl
      · rw [gI_self]; rfl
theorem lp_fr83 (k : okG M0 M w h off)
    (K : ∀ M', Fr sR3 M M' → (∀ r', r' ≤ w → ∀ j, j ≤ (ub M0).length → tblOk M0 M' w h off r' j) → Q (.returned (some (.int (if GG (ub M0).length w (PP M0) h w 0 = none then 0 else 1)))) M') : ∀ (r : Nat) (M' : Mem), r ≤ w → Fr sR3 M M' → (∀ r', r ≤ r' → r' ≤ w → ∀ j', j' ≤ (ub M0).length → tblOk M0 M' w h off r' j') →
    Fw l D ad kA mX13_findRanges 83 [some (.ref (ad 54)), some (.int (nI r - 1)), none, none, none, none] [] M' Q := by
  have hl := ub_len (M := M0)
  have hw := k.2.1
  intro r
  induction r with
  | zero =>
    intro M' hr hf h1
    have hlt : nI 0 - 1 < 0 := by decide
    have ht := h1 0 (by omega) (by omega) 0 (by omega)
    have e0 : (v_X13_spot 0 0).toNatClampNeg = 0 := by decide
    refine t_X13_findRanges_83 (fun _ => show vp_in (nI 0) 637 from ixN (by omega) (by omega)) (fun _ => ?_) (fun q => absurd hlt q)
    rw [e0]
    have k1 := K M' hf (fun r' a1 j a2 => h1 r' (by omega) a1 j a2)
    unfold tblOk at ht
    rw [Nat.sub_zero] at ht
    cases hg : GG (ub M0).length w (PP M0) h w 0 with
    | none =>
      rw [hg] at k1
      rw [if_pos rfl] at k1
      rw [show gI M' 77 0 = nI 1000000 from ht.2 hg, if_pos (by decide)]
      exact k1
    | some x =>
      have hs := (GG_small k.1 (k := w) hw (by omega) hg).2.1
      rw [hg] at k1
      rw [if_neg (by intro z; cases z)] at k1
      rw [show gI M' 77 0 = nI x.2.1 from (ht.1 x hg).2.1, if_neg (by rw [show (1000000 : Int32) = nI 1000000 from rfl, nI_leI (by omega) (by omega)]; omega)]
      exact k1
  | succ r ih =>
    intro M' hr hf h1
    have hnlt : ¬ nI (r + 1) - 1 < 0 := by rw [nI_pred]; exact nI_pos (by omega)
    have k' := k.fr hf ⟨rfl, rfl⟩ (fun _ => ⟨rfl, rfl, rfl⟩)
    refine t_X13_findRanges_83 (fun q => absurd q hnlt) (fun q => absurd q hnlt) (fun _ => ?_)
    rw [nI_pred]
    refine lp_fr89 k' (by omega) (fun M2 hf2 h2 => ?_) ((ub M0).length + 1) 0 M' (by omega) Fr.rf (fun r' a1 a2 j' a3 => h1 r' (by omega) a2 j' a3) (fun j' a1 => by omega)
    have e2 : nI r + (-1) = nI r - 1 := by rw [i_eq, i_sub, i_add, i_nI, nm1, n1] <;> (try rw [i_nI]) <;> (try rw [nm1]) <;> (try rw [n1]) <;> omega
    rw [e2]
    exact ih M2 (by omega) (hf.tr hf2) h2
def s68 (c i : Nat) : Bool := c == 68
theorem lp_tr91 {r n i : Nat} (hr : r < 12) (h73 : ∀ k, k < (ub M0).length → gI M 73 k = nI (uu M0 k)) (hin : i + n ≤ (ub M0).length)
    (K : ∀ M', Fr s68 M M' → (∀ k, k < (ub M0).length → gI M' 68 (uu M0 k) = if i ≤ k ∧ k < i + n then gI M 74 r else gI M 68 (uu M0 k)) → (∀ b, (∀ k, k < (ub M0).length → ¬ uu M0 k = b) → gI M' 68 b = gI M 68 b) → Fw l D ad kA mX13_takeRanges 25 [some (.ref (ad 54)), some (.int (nI (i + n))), some (.int (nI (r + 1))), none, none, none] [] M' Q) : ∀ (j k : Nat) (M' : Mem), k + j = i + n → i ≤ k → Fr s68 M M' → (∀ a, a < (ub M0).length → gI M' 68 (uu M0 a) = if i ≤ a ∧ a < k then gI M 74 r else gI M 68 (uu M0 a)) → (∀ b, (∀ k, k < (ub M0).length → ¬ uu M0 k = b) → gI M' 68 b = gI M 68 b) →
    Fw l D ad kA mX13_takeRanges 91 [some (.ref (ad 54)), none, some (.int (nI r)), none, some (.int (nI (i + n))), some (.int (nI k))] [] M' Q := by
  have hl := ub_len (M := M0)
  intro j
  induction j with
  | zero =>
    intro k M' hk hik hf hd ho
    have hle : nI (i + n) ≤ nI k := by rw [nI_leI (by omega) (by omega)]; omega
    refine t_X13_takeRanges_91 (fun q => absurd hle q) (fun q => absurd hle q) (fun q => absurd hle q) (fun _ => ?_) (fun q => absurd hle q)
    rw [nI_1]
    have : k = i + n := by omega
    subst this
    exact K M' hf hd ho
  | succ j ih =>
    intro k M' hk hik hf hd ho
    have hnle : ¬ nI (i + n) ≤ nI k := by rw [nI_leI (by omega) (by omega)]; omega
    have e73 : gI M' 73 k = nI (uu M0 k) := by rw [hf.1 73 k rfl]; exact h73 k (by omega)
    have hu := uu_lt (M := M0) (k := k) (by omega)
    refine t_X13_takeRanges_91 (fun _ => ixN (by omega) (by omega)) (fun _ => ixN (by omega) (by omega)) (fun _ => by rw [nI_clamp (by omega), e73]; exact ixN hu (by omega)) (fun q => absurd q hnle) (fun _ => ?_)
    rw [nI_clamp (by omega), e73, nI_clamp (by omega), nI_clamp (by omega), hf.1 74 r rfl, nI_1]
    refine ih (k + 1) _ (by omega) (by omega) (hf.sI rfl) (fun a ha => ?_) (fun b hb => ?_)
    · by_cases e : a = k
      · subst e; rw [gI_self, if_pos (by omega)]
      · rw [gI_oi (fun z => e (uu_inj ha (by omega) z)), hd a ha]
        by_cases c : i ≤ a ∧ a < k
        · rw [if_pos c, if_pos (by omega)]
        · rw [if_neg c, if_neg (by omega)]
    · rw [gI_oi (fun z => hb k (by omega) z.symm)]; exact ho b hb
theorem lp_tr42 (k : okG M0 M w h off) {r i N : Nat} {x : Nat × Nat × Nat} (hr : r < w) (hi : i + N ≤ (ub M0).length) (ht : ∀ r', r' ≤ w → ∀ j, j ≤ (ub M0).length → tblOk M0 M w h off r' j) (hx : GG (ub M0).length w (PP M0) h (w - r) i = some x)
    (h1 : ∃ y, cnd M0 w h r i N = some y ∧ enc3 y = enc3 x) (h2 : ∀ n, n < N → ¬ encO (cnd M0 w h r i n) = enc3 x)
    (K : Fw l D ad kA mX13_takeRanges 91 [some (.ref (ad 54)), none, some (.int (nI r)), none, some (.int (nI (i + N))), some (.int (nI i))] [] M Q) : ∀ (j n : Nat), n + j = N →
    Fw l D ad kA mX13_takeRanges 42 [some (.ref (ad 54)), some (.int (nI i)), some (.int (nI r)), some (.int (nI (49 * r + i))), some (.int (nI (i + n))), none] [] M Q := by
  have hl := ub_len (M := M0)
  have hw := k.2.1
  have ho6 := k.2.2.2.2.2.1 i
  have hsx := GG_small k.1 (k := w - r) (by omega) (by omega) hx
  obtain ⟨u1, u2, u3⟩ := (ht r (by omega) i (by omega)).1 x hx
  intro j
  induction j with
  | zero =>
    intro n hn
    have : n = N := by omega
    subst this
    obtain ⟨y, hy1, hy2⟩ := h1
    obtain ⟨m1, m2⟩ := v_mayHave k hr hi (ht (r + 1) (by omega) (i + n) hi)
    have hsy : small3 y := cand_small k.1 (by omega) hi hy1
    refine t_X13_takeRanges_42 m2 (fun _ => ixN (by omega) (by omega)) (fun q => absurd (m1.mp q) (by rw [hy1]; intro z; cases z)) (fun _ => ?_)
    refine ct_compare k hr hi (ht (r + 1) (by omega) (i + n) hi) hy1 ⟨_, rfl, ?_⟩
    rw [nI_clamp (by omega), u1, u2, u3]
    exact t_X13_takeRanges_79 (fun _ => K) (fun q => absurd ((cmp_val hsy hsx ho6).2.mpr hy2) q)
  | succ j ih =>
    intro n hn
    obtain ⟨m1, m2⟩ := v_mayHave k hr (by omega) (ht (r + 1) (by omega) (i + n) (by omega))
    refine t_X13_takeRanges_42 m2 (fun _ => ixN (by omega) (by omega)) (fun _ => by rw [nI_1]; exact ih (n + 1) (by omega)) (fun c => ?_)
    cases hy : cnd M0 w h r i n with
    | none => exact absurd (m1.mpr hy) c
    | some y =>
      have hsy : small3 y := cand_small k.1 (by omega) (by omega) hy
      refine ct_compare k hr (by omega) (ht (r + 1) (by omega) (i + n) (by omega)) hy ⟨_, rfl, ?_⟩
      rw [nI_clamp (by omega), u1, u2, u3]
      refine t_X13_takeRanges_79 (fun q => ?_) (fun _ => by rw [nI_1]; exact ih (n + 1) (by omega))
      have := (cmp_val hsy hsx ho6).2.mp q
      exact absurd (by rw [hy]; exact this) (h2 n (by omega))
theorem lp_tr25 (k : okG M0 M w h off) (hm : 1 ≤ (gI M0 65 1).toInt) (h73 : ∀ k, k < (ub M0).length → gI M 73 k = nI (uu M0 k)) (ht : ∀ r', r' ≤ w → ∀ j, j ≤ (ub M0).length → tblOk M0 M w h off r' j)
    (K : ∀ M', Fr s68 M M' → (∀ k, k < (ub M0).length → gI M' 68 (uu M0 k) = ArrR (nnR M0 w h) (gI M 74) w 0 0 k) → (∀ b, (∀ k, k < (ub M0).length → ¬ uu M0 k = b) → gI M' 68 b = gI M 68 b) → Q (.returned none) (sI M' 54 26 1)) : ∀ (j r i : Nat) (M' : Mem), r + j = w → i ≤ (ub M0).length → Fr s68 M M' → (∃ x, GG (ub M0).length w (PP M0) h (w - r) i = some x) → (∀ k, k < i → gI M' 68 (uu M0 k) = ArrR (nnR M0 w h) (gI M 74) w 0 0 k) → (∀ b, (∀ k, k < (ub M0).length → ¬ uu M0 k = b) → gI M' 68 b = gI M 68 b) → (∀ k, i ≤ k → ArrR (nnR M0 w h) (gI M 74) w 0 0 k = ArrR (nnR M0 w h) (gI M 74) j r i k) →
    Fw l D ad kA mX13_takeRanges 25 [some (.ref (ad 54)), some (.int (nI i)), some (.int (nI r)), none, none, none] [] M' Q := by
  have hl := ub_len (M := M0)
  have hw := k.2.1
  intro j
  induction j with
  | zero =>
    intro r i M' hr hi hf hx hd1 ho hA
    have k' := k.fr hf ⟨rfl, rfl⟩ (fun _ => ⟨rfl, rfl, rfl⟩)
    have hle : gI M' 54 41 ≤ nI r := by rw [k'.2.2.2.1, nI_leI (by omega) (by omega)]; omega
    refine t_X13_takeRanges_25 (fun _ => K M' hf (fun k hk => ?_) ho) (fun q => absurd hle q)
    obtain ⟨x, hx⟩ := hx
    rw [show w - r = 0 by omega] at hx
    have hx : (if i = (ub M0).length then some (0, 0, 0) else none) = some x := hx
    by_cases e : i = (ub M0).length
    · exact hd1 k (by omega)
    · rw [if_neg e] at hx; cases hx
  | succ j ih =>
    intro r i M' hr hi hf hx hd1 ho hA
    have k' := k.fr hf ⟨rfl, rfl⟩ (fun _ => ⟨rfl, rfl, rfl⟩)
    have hnle : ¬ gI M' 54 41 ≤ nI r := by rw [k'.2.2.2.1, nI_leI (by omega) (by omega)]; omega
    obtain ⟨x, hx⟩ := hx
    obtain ⟨n1', n2', n3', n5', n6'⟩ := nnR_spec k.1 hm (r := r) (i := i) (by omega) hw hi hx
    refine t_X13_takeRanges_25 (fun q => absurd q hnle) (fun _ => ?_)
    rw [v_spot]
    have ht' : ∀ r', r' ≤ w → ∀ j, j ≤ (ub M0).length → tblOk M0 M' w h off r' j := by
      intro r' a1 j' a2
      have := ht r' a1 j' a2
      unfold tblOk at this ⊢
      rw [hf.1 76 _ rfl, hf.1 77 _ rfl, hf.1 78 _ rfl]
      exact this
    refine lp_tr42 (N := nnR M0 w h r i) k' (by omega) n1' ht' hx n3' n6' ?_ (nnR M0 w h r i) 0 (by omega)
    refine lp_tr91 (M := M') (by omega) (fun k hk => by rw [hf.1 73 k rfl]; exact h73 k hk) n1' (fun M2 hf2 hd ho2 => ?_) (nnR M0 w h r i) i M' rfl (Nat.le_refl _) Fr.rf (fun a ha => by rw [if_neg (by omega)]) (fun _ _ => rfl)
    refine ih (r + 1) (i + nnR M0 w h r i) M2 (by omega) n1' (hf.tr hf2) n5' (fun k hk => ?_) (fun b hb => (ho2 b hb).trans (ho b hb)) (fun k a1 => ?_)
    · rw [hd k (by omega)]
      by_cases c : i ≤ k
      · rw [if_pos ⟨c, hk⟩, hA k c, hf.1 74 r rfl]
        exact (if_pos hk).symm
      · rw [if_neg (fun z => c z.1)]; exact hd1 k (by omega)
    · rw [hA k (by omega)]
      exact if_neg (by omega)
theorem lp_tr2 (K : ∀ M', Fr s68 M M' → (∀ a, a < 48 → gI M' 68 a = (-1)) → Fw l D ad kA mX13_takeRanges 25 [some (.ref (ad 54)), some (.int 0), some (.int 0), none, none, none] [] M' Q) : ∀ (j i : Nat) (M' : Mem), i + j = 48 → Fr s68 M M' → (∀ a, a < i → gI M' 68 a = (-1)) →
    Fw l D ad kA mX13_takeRanges 2 [some (.ref (ad 54)), some (.int (nI i)), none, none, none, none] [] M' Q := by
  intro j
  induction j with
  | zero =>
    intro i M' hi hf ha
    have hle : 48 ≤ nI i := by rw [show (48 : Int32) = nI 48 from rfl, nI_leI (by omega) (by omega)]; omega
    exact t_X13_takeRanges_2 (fun q => absurd hle q) (fun _ => K M' hf (fun a h => ha a (by omega))) (fun q => absurd hle q)
  | succ j ih =>
    intro i M' hi hf ha
    have hnle : ¬ 48 ≤ nI i := by rw [show (48 : Int32) = nI 48 from rfl, nI_leI (by omega) (by omega)]; omega
    refine t_X13_takeRanges_2 (fun _ => ixN (by omega) (by omega)) (fun q => absurd q hnle) (fun _ => ?_)
    rw [nI_clamp (by omega), nI_1]
    refine ih (i + 1) _ (by omega) (hf.sI rfl) (fun a h => ?_)
    by_cases e : a = i
    · rw [e, gI_self]
    · rw [gI_oi e]; exact ha a (by omega)
end RangeM2
