/-! RANGES: the pieces and their TAKES -/
noncomputable def uu (M : Mem) (k : Nat) : Nat := (ub M).getD k 0
theorem uu_get {M : Mem} {k : Nat} (h : k < (ub M).length) : uu M k = (ub M)[k] := by
  unfold uu
  rw [List.getD_eq_getElem?_getD, List.getElem?_eq_getElem h]
  rfl
theorem uu_lt {M : Mem} {k : Nat} (h : k < (ub M).length) : uu M k < 48 := by
  rw [uu_get h]; exact ub_lt (List.getElem_mem h)
noncomputable def zP (M : Mem) (i n : Nat) : Int64 := BO (fun _ => true) (((ub M).drop i).take n) 0
def szM (M : Mem) : Nat := (gI M 54 10).toInt.toNat
/-- TAKES of a set of BELLS -/
def tk (M : Mem) (z : Int64) : Nat := Ff (mvP M) (hlP M) none none (ons M z (szM M))
def inP (M : Mem) (i j a b : Nat) : Prop := (j : Int) - i ≤ (gI M 65 1).toInt ∧ (b : Int) - a ≤ (gI M 65 2).toInt
/-- TAKES of a piece, or a million -/
noncomputable def PP (M : Mem) (i j : Nat) : Nat := @ite _ (inP M i j (uu M i) (uu M (j - 1))) (Classical.propDecidable _) (min 1000000 (tk M (zP M i (j - i)))) 1000000
theorem PP_t {M : Mem} {i j : Nat} (h : inP M i j (uu M i) (uu M (j - 1))) : PP M i j = min 1000000 (tk M (zP M i (j - i))) := @if_pos _ (Classical.propDecidable _) h _ _ _
theorem PP_f {M : Mem} {i j : Nat} (h : ¬ inP M i j (uu M i) (uu M (j - 1))) : PP M i j = 1000000 := @if_neg _ (Classical.propDecidable _) h _ _ _
theorem PP_le {M : Mem} {i j : Nat} : PP M i j ≤ 1000000 := by
  by_cases h : inP M i j (uu M i) (uu M (j - 1))
  · rw [PP_t h]; omega
  · rw [PP_f h]; omega
noncomputable def nSt (M : Mem) (i : Nat) : Nat := ((List.range (szM M)).filter (fun k => decide ((gI M 57 k).toNatClampNeg ∈ (ub M).take i))).length
theorem filt_add {p q r : Nat → Bool} : ∀ (L : List Nat), (∀ x ∈ L, p x = true → r x = true) → (∀ x ∈ L, q x = true → r x = true) → (∀ x ∈ L, p x = true → q x = true → False) → (L.filter p).length + (L.filter q).length ≤ (L.filter r).length := by
  intro L
  induction L with
  | nil => intro _ _ _; exact Nat.le_refl _
  | cons a t ih =>
    intro h1 h2 h3
    have := ih (fun x hx => h1 x (List.mem_cons_of_mem _ hx)) (fun x hx => h2 x (List.mem_cons_of_mem _ hx)) (fun x hx => h3 x (List.mem_cons_of_mem _ hx))
    have k1 := h1 a (List.mem_cons_self ..)
    have k2 := h2 a (List.mem_cons_self ..)
    have k3 := h3 a (List.mem_cons_self ..)
    rw [List.filter_cons, List.filter_cons, List.filter_cons]
    by_cases c1 : p a = true
    · have c2 : ¬ q a = true := fun z => k3 c1 z
      rw [if_pos c1, if_neg c2, if_pos (k1 c1), List.length_cons, List.length_cons]
      omega
    · rw [if_neg c1]
      by_cases c2 : q a = true
      · rw [if_pos c2, if_pos (k2 c2), List.length_cons, List.length_cons]; omega
      · rw [if_neg c2]
        split
        · rw [List.length_cons]; omega
        · exact this
theorem ub_nodup {M : Mem} : (ub M).Nodup := List.Pairwise.filter _ List.nodup_range
theorem zP_bit {M : Mem} {i n b : Nat} (hb : b < 48) : lb (zP M i n) b = decide (b ∈ ((ub M).drop i).take n) := by
  unfold zP
  rw [lb_BO (by omega) _ _ (fun c hc => by
    have := ub_lt (List.mem_of_mem_drop (List.mem_of_mem_take hc)); omega), lb_0]
  simp
theorem PP_nS {M : Mem} (hb : ∀ a, a < szM M → 0 ≤ (gI M 57 a).toInt ∧ (gI M 57 a).toInt ≤ 47) {i j : Nat} (hij : i < j) (h : PP M i j < 1000000) : nSt M i + PP M i j ≤ nSt M j := by
  by_cases c : inP M i j (uu M i) (uu M (j - 1))
  · rw [PP_t c] at h ⊢
    have h1 := Ff_b (hl := hlP M) (okP M) (ons M (zP M i (j - i)) (szM M)) none none
    have h2 : Ff (mvP M) (hlP M) none none (ons M (zP M i (j - i)) (szM M)) = tk M (zP M i (j - i)) := rfl
    have h3 : nSt M i + (ons M (zP M i (j - i)) (szM M)).length ≤ nSt M j := by
      unfold nSt ons
      have nd := ub_nodup (M := M)
      rw [← List.take_append_drop i (ub M), List.nodup_append] at nd
      refine filt_add _ (fun x hx q => ?_) (fun x hx q => ?_) (fun x hx q1 q2 => ?_)
      · rw [decide_eq_true_iff] at q ⊢
        rw [show j = i + (j - i) by omega, List.take_add]
        exact List.mem_append_left _ q
      · have hx := hb x (List.mem_range.mp hx)
        have hc := i_clamp hx.1
        rw [zP_bit (by omega), decide_eq_true_iff] at q
        rw [decide_eq_true_iff, show j = i + (j - i) by omega, List.take_add]
        exact List.mem_append_right _ q
      · have hx := hb x (List.mem_range.mp hx)
        have hc := i_clamp hx.1
        rw [zP_bit (by omega), decide_eq_true_iff] at q2
        rw [decide_eq_true_iff] at q1
        exact nd.2.2 _ q1 _ (List.mem_of_mem_take q2) rfl
    omega
  · rw [PP_f c] at h; omega
theorem nSt_le {M : Mem} {i : Nat} : nSt M i ≤ szM M := by
  unfold nSt
  have := List.length_filter_le (fun k => decide ((gI M 57 k).toNatClampNeg ∈ (ub M).take i)) (List.range (szM M))
  rw [List.length_range] at this
  exact this
theorem zP_succ {M : Mem} {i n : Nat} (h : i + n < (ub M).length) : zP M i (n + 1) = zP M i n ||| lshl 1 (nI (uu M (i + n))) := by
  unfold zP
  have hd : n < ((ub M).drop i).length := by rw [List.length_drop]; omega
  rw [List.take_succ_eq_append_getElem hd, BO_app, if_pos rfl, List.getElem_drop, uu_get h]
/-- the class's prices of pieces stand -/
def RWeighed (M : Mem) : Prop := ¬ gI M 22 11 = 0 → ∀ i n : Nat, i < (ub M).length → 1 ≤ n → (n : Int) ≤ (gI M 65 1).toInt → i + n ≤ (ub M).length → gI M 26 (i * 13 + n) = nE (PP M i (i + n))
def sWP (c i : Nat) : Bool := c == 26 || c == 19 || c == 20 || (c == 17 && (i == 5 || i == 7)) || (c == 22 && i == 11)
theorem pure_fr {S : Nat → Nat → Bool} {M M' : Mem} (hf : Fr S M M') (hS : ∀ i, S 56 i = false ∧ S 57 i = false ∧ S 58 i = false ∧ S 59 i = false ∧ S 65 i = false) (h10 : S 54 10 = false) : ub M' = ub M ∧ (∀ z, tk M' z = tk M z) ∧ szM M' = szM M ∧ (∀ i j, PP M' i j = PP M i j) := by
  obtain ⟨c1, c2⟩ := costs_fr hf hS
  have e1 : ub M' = ub M := ub_congr (hf.1 54 10 h10) (fun i => hf.1 57 i (hS i).2.1)
  have e2 : szM M' = szM M := by unfold szM; rw [hf.1 54 10 h10]
  have e3 : ∀ z, tk M' z = tk M z := by
    intro z
    unfold tk
    rw [c1, c2, e2, ons_congr (fun i => hf.1 57 i (hS i).2.1)]
  refine ⟨e1, e3, e2, fun i j => ?_⟩
  have e4 : ∀ k, uu M' k = uu M k := fun k => by unfold uu; rw [e1]
  have e5 : zP M' i (j - i) = zP M i (j - i) := by unfold zP; rw [e1]
  have e6 : inP M' i j (uu M' i) (uu M' (j - 1)) ↔ inP M i j (uu M i) (uu M (j - 1)) := by
    unfold inP
    rw [e4, e4, hf.1 65 1 (hS 1).2.2.2.2, hf.1 65 2 (hS 2).2.2.2.2]
  by_cases c : inP M i j (uu M i) (uu M (j - 1))
  · rw [PP_t c, PP_t (e6.mpr c), e3, e5]
  · rw [PP_f c, PP_f (fun z => c (e6.mp z))]
section Pieces
variable {l : Launch} {D : va_G} {ad : Nat → Nat} {kA : Nat → ClassId} {M M0 : Mem} {Q : Outcome → Mem → Prop}
theorem v_longest (hr : RRule M) (hu : gI M 22 5 = nI (ub M).length) {i : Nat} (hi : i ≤ (ub M).length) : v_X7_longestFrom M (nI i) = nI (min (gI M 65 1).toInt.toNat ((ub M).length - i)) := by
  have hl := ub_len (M := M)
  have e := hr.1 1 (by omega)
  have := hr.2.2.1
  rw [e] at this
  obtain ⟨n, e1, e2, e3⟩ := i_nat (x := gI M 65 1) (by omega)
  unfold v_X7_longestFrom
  rw [show (1 : Int32).toNatClampNeg = 1 from rfl, e, hu]
  have e4 : nI (ub M).length - nI i = nI ((ub M).length - i) := by rw [i_eq, nI_sub hi (by omega), i_nI (by omega)]; omega
  rw [e4, e1, imin_nI (by omega) (by omega), i_nI (by omega)]
  congr 1
/-- what the weighing rests on -/
def okW (M : Mem) : Prop := RRule M ∧ gI M 22 5 = nI (ub M).length ∧ Row M 24 (ub M) ∧ SameAll M (szM M) ∧ (szM M : Int) = (gI M 9 4).toInt ∧ ∀ a, a < szM M → 0 ≤ (gI M 57 a).toInt ∧ (gI M 57 a).toInt ≤ 47
theorem okW.of (hs : RScore M) (hr : RRule M) (hu : RUsed M) : okW M := by
  have h := hs.2.1
  have e : (szM M : Int) = (gI M 9 4).toInt := by unfold szM; rw [← hs.1]; omega
  exact ⟨hr, hu.1, hu.2, SameAll.of hs hr e, e, bells_ok hs e⟩
theorem okW.fr {S : Nat → Nat → Bool} (h : okW M0) (hf : Fr S M0 M) (hS : ∀ i, (S 10 i = false ∧ S 11 i = false ∧ S 12 i = false ∧ S 13 i = false ∧ S 15 i = false) ∧ S 56 i = false ∧ S 57 i = false ∧ S 58 i = false ∧ S 59 i = false ∧ S 65 i = false) (h1 : S 54 10 = false) (h2 : S 22 5 = false) (h3 : ∀ i, S 24 i = false) (h4 : S 9 4 = false) : okW M := by
  obtain ⟨k1, k2, k3, k4, k5, k6⟩ := h
  obtain ⟨e1, e2, e3, e4⟩ := pure_fr hf (fun i => (hS i).2) h1
  refine ⟨?_, ?_, ?_, ?_, ?_, ?_⟩
  · unfold RRule
    rw [hf.1 15 0 (hS 0).1.2.2.2.2, hf.1 15 1 (hS 1).1.2.2.2.2, hf.1 15 2 (hS 2).1.2.2.2.2, hf.1 15 3 (hS 3).1.2.2.2.2]
    exact ⟨fun a ha => by rw [hf.1 15 a (hS a).1.2.2.2.2, hf.1 65 a (hS a).2.2.2.2.2]; exact k1.1 a ha, k1.2⟩
  · rw [hf.1 22 5 h2, e1]; exact k2
  · rw [e1]; exact k3.fr (fun i _ => hf.1 24 i (h3 i))
  · rw [e3]; exact k4.fr hf hS
  · rw [e3, hf.1 9 4 h4]; exact k5
  · rw [e3]; intro a ha; rw [hf.1 57 a (hS a).2.2.1]; exact k6 a ha
theorem lp_wp22 (h : okW M0) {i : Nat} (hi : i < (ub M0).length)
    (K : ∀ M', Fr sWP M0 M' → gI M' 22 11 = 0 → (∀ i' n : Nat, i' < i + 1 → 1 ≤ n → (n : Int) ≤ (gI M0 65 1).toInt → i' + n ≤ (ub M0).length → gI M' 26 (i' * 13 + n) = nE (PP M0 i' (i' + n))) → Fw l D ad kA mX7_weighPieces 2 [some (.ref (ad 22)), some (.int (nI (i + 1))), none, none, none, none, none] [] M' Q) : ∀ (j n : Nat) (M : Mem), n + j = min (gI M0 65 1).toInt.toNat ((ub M0).length - i) → Fr sWP M0 M → gI M 22 11 = 0 → (∀ i' n' : Nat, i' < i + 1 → 1 ≤ n' → (n' : Int) ≤ (gI M0 65 1).toInt → i' + n' ≤ (ub M0).length → (i' < i ∨ n' ≤ n) → gI M 26 (i' * 13 + n') = nE (PP M0 i' (i' + n'))) →
    Fw l D ad kA mX7_weighPieces 22 [some (.ref (ad 22)), some (.int (nI i)), some (.long (zP M0 i n)), none, some (.int (nI (n + 1))), none, none] [] M Q := by
  have hl := ub_len (M := M0)
  have hmost := h.1.2.2.1
  rw [h.1.1 1 (by omega)] at hmost
  have hreach := h.1.2.2.2.1
  intro j
  induction j with
  | zero =>
    intro n M hn hf h11 hd
    have hw := h.fr hf (fun _ => ⟨⟨rfl, rfl, rfl, rfl, rfl⟩, rfl, rfl, rfl, rfl, rfl⟩) rfl rfl (fun _ => rfl) rfl
    obtain ⟨e1, e2, e3, e4⟩ := pure_fr hf (fun _ => ⟨rfl, rfl, rfl, rfl, rfl⟩) rfl
    have hlong : v_X7_longestFrom M (nI i) = nI n := by
      rw [v_longest hw.1 hw.2.1 (by rw [e1]; omega), e1, hf.1 65 1 rfl, ← hn]
      rfl
    have hlt : v_X7_longestFrom M (nI i) < nI (n + 1) := by rw [hlong]; exact nI_lt (by omega) (by omega)
    refine t_X7_weighPieces_22 (fun q => absurd hlt q) (fun q => absurd hlt q) (fun q => absurd hlt q) (fun _ => ?_) (fun q => absurd hlt q) (fun q => absurd hlt q)
    rw [nI_1]
    refine K M hf h11 (fun i' n' a1 a2 a3 a4 => hd i' n' a1 a2 a3 a4 ?_)
    by_cases e : i' = i
    · subst e; exact .inr (by omega)
    · exact .inl (by omega)
  | succ j ih =>
    intro n M hn hf h11 hd
    have hw := h.fr hf (fun _ => ⟨⟨rfl, rfl, rfl, rfl, rfl⟩, rfl, rfl, rfl, rfl, rfl⟩) rfl rfl (fun _ => rfl) rfl
    obtain ⟨e1, e2, e3, e4⟩ := pure_fr hf (fun _ => ⟨rfl, rfl, rfl, rfl, rfl⟩) rfl
    have hnm : n + 1 ≤ min (gI M0 65 1).toInt.toNat ((ub M0).length - i) := by omega
    have hnlt : ¬ v_X7_longestFrom M (nI i) < nI (n + 1) := by
      rw [v_longest hw.1 hw.2.1 (by rw [e1]; omega), e1, hf.1 65 1 rfl]
      exact nI_nlt hnm (by omega)
    have ep : nI i + nI (n + 1) - 1 = nI (i + n) := by rw [nI_add, show i + (n + 1) = i + n + 1 by omega, nI_pred]
    have g24 : ∀ k, k < (ub M0).length → gI M 24 k = nI (uu M0 k) := by
      intro k hk
      rw [uu_get hk, hf.1 24 k rfl]; exact h.2.2.1.at hk
    have u1 := uu_lt (M := M0) (k := i + n) (by omega)
    have u2 := uu_lt (M := M0) (k := i) (by omega)
    have ec : nI i * 13 + nI (n + 1) = nI (i * 13 + (n + 1)) := by rw [show (13 : Int32) = nI 13 from rfl, nI_mul, nI_add]
    have hin : vp_in (nI i * 13 + nI (n + 1)) 624 := by rw [ec]; exact ixN (by omega) (by omega)
    have cond : (if (gI M 15 (2 : Int32).toNatClampNeg) < ((gI M 24 (nI i + nI (n + 1) - 1).toNatClampNeg) - (gI M 24 (nI i).toNatClampNeg)) then 0 else 1 : Int32) = 0 ↔ ¬ inP M0 i (i + n + 1) (uu M0 i) (uu M0 (i + n + 1 - 1)) := by
      rw [ep, nI_clamp (by omega), nI_clamp (by omega), g24 _ (by omega), g24 _ (by omega), show (2 : Int32).toNatClampNeg = 2 from rfl, hf.1 15 2 rfl, h.1.1 2 (by omega)]
      unfold inP
      rw [show i + n + 1 - 1 = i + n by omega]
      have : (nI (uu M0 (i + n)) - nI (uu M0 i)).toInt = (uu M0 (i + n) : Int) - uu M0 i := by rw [i_sub, i_nI, i_nI] <;> (try rw [i_nI, i_nI]) <;> omega
      have hlt : gI M0 65 2 < nI (uu M0 (i + n)) - nI (uu M0 i) ↔ (gI M0 65 2).toInt < (uu M0 (i + n) : Int) - uu M0 i := by rw [i_lt, this]
      constructor
      · intro z w
        rw [if_neg (fun y => by have := hlt.mp y; omega)] at z
        exact absurd z (by decide)
      · intro z
        rw [if_pos]
        apply Classical.byContradiction
        intro y
        have y2 : ¬ (gI M0 65 2).toInt < (uu M0 (i + n) : Int) - uu M0 i := fun w => y (hlt.mpr w)
        exact z ⟨by omega, by omega⟩
    have zs : zP M0 i n ||| lshl 1 (gI M 24 (nI i + nI (n + 1) - 1).toNatClampNeg) = zP M0 i (n + 1) := by
      rw [ep, nI_clamp (by omega), g24 _ (by omega), zP_succ (by omega)]
    refine t_X7_weighPieces_22 (fun _ => by rw [ep]; exact ixN (by omega) (by omega)) (fun _ => ixN (by omega) (by omega)) (fun _ _ => hin) (fun q => absurd q hnlt) (fun _ c => ?_) (fun _ c => ?_)
    · rw [cond] at c
      rw [zs, ec, nI_clamp (by omega), nI_1]
      refine ih (n + 1) _ (by omega) (hf.sI rfl) (by show gI M 22 11 = 0; exact h11) (fun i' n' a1 a2 a3 a4 a5 => ?_)
      by_cases e : i' = i ∧ n' = n + 1
      · obtain ⟨rfl, rfl⟩ := e
        rw [gI_self, show i' + (n + 1) = i' + n + 1 by omega, PP_f c]; exact nE_B.symm
      · rw [gI_oi (by omega)]
        exact hd i' n' a1 a2 a3 a4 (by omega)
    · rw [cond] at c
      have c := Classical.not_not.mp c
      rw [zs, ec]
      refine ct_takesOfC (M := M) hw.2.2.2.2.1 hw.2.2.2.1 hw.2.2.2.2.2 (fun M1 hf1 _ _ => ⟨_, rfl, t_X7_weighPieces_104 (ixN (by omega) (by omega)) ?_⟩)
      have F1 : Fr sWP M0 M1 := hf.tr (hf1.mono (fun c i q => by simp [sWP] at q; simp [sTakesC]; omega))
      rw [nI_clamp (by omega), nI_1]
      refine ih (n + 1) _ (by omega) (F1.sI rfl) (by show gI M1 22 11 = 0; rw [hf1.1 22 11 rfl]; exact h11) (fun i' n' a1 a2 a3 a4 a5 => ?_)
      by_cases e : i' = i ∧ n' = n + 1
      · obtain ⟨rfl, rfl⟩ := e
        rw [gI_self, show i' + (n + 1) = i' + n + 1 by omega, PP_t c, show i' + n + 1 - i' = n + 1 by omega]
        have : Ff (mvP M) (hlP M) none none (ons M (zP M0 i' (n + 1)) (szM M)) = tk M0 (zP M0 i' (n + 1)) := e2 _
        rw [this]
        unfold nE
        by_cases w : tk M0 (zP M0 i' (n + 1)) < 1000000
        · rw [if_pos w, if_pos (by omega), Nat.min_eq_right (by omega)]
        · rw [if_neg w, if_neg (by omega)]
      · rw [gI_oi (by omega), hf1.1 26 _ rfl]
        exact hd i' n' a1 a2 a3 a4 (by omega)
theorem lp_wp2 (h : okW M0) (K : ∀ M', Fr sWP M0 M' → gI M' 22 11 = 1 → (∀ i' n : Nat, i' < (ub M0).length → 1 ≤ n → (n : Int) ≤ (gI M0 65 1).toInt → i' + n ≤ (ub M0).length → gI M' 26 (i' * 13 + n) = nE (PP M0 i' (i' + n))) → Q (.returned none) M') : ∀ (j i : Nat) (M : Mem), i + j = (ub M0).length → Fr sWP M0 M → gI M 22 11 = 0 → (∀ i' n : Nat, i' < i → 1 ≤ n → (n : Int) ≤ (gI M0 65 1).toInt → i' + n ≤ (ub M0).length → gI M 26 (i' * 13 + n) = nE (PP M0 i' (i' + n))) →
    Fw l D ad kA mX7_weighPieces 2 [some (.ref (ad 22)), some (.int (nI i)), none, none, none, none, none] [] M Q := by
  have hl := ub_len (M := M0)
  have hmost := h.1.2.2.1
  rw [h.1.1 1 (by omega)] at hmost
  intro j
  induction j with
  | zero =>
    intro i M hi hf h11 hd
    have e5 : gI M 22 5 = nI (ub M0).length := by rw [hf.1 22 5 rfl]; exact h.2.1
    have hle : gI M 22 5 ≤ nI i := by rw [e5, nI_leI (by omega) (by omega)]; omega
    exact t_X7_weighPieces_2 (fun _ => K _ (hf.sI rfl) rfl (fun i' n a1 a2 a3 a4 => hd i' n (by omega) a2 a3 a4)) (fun q => absurd hle q) (fun q => absurd hle q)
  | succ j ih =>
    intro i M hi hf h11 hd
    have e5 : gI M 22 5 = nI (ub M0).length := by rw [hf.1 22 5 rfl]; exact h.2.1
    have hnle : ¬ gI M 22 5 ≤ nI i := by rw [e5, nI_leI (by omega) (by omega)]; omega
    refine t_X7_weighPieces_2 (fun q => absurd q hnle) (fun _ q => absurd h11 q) (fun _ _ => ?_)
    have z0 : zP M0 i 0 = 0 := by unfold zP; rw [List.take_zero]; rfl
    have := lp_wp22 (l := l) (D := D) (ad := ad) (kA := kA) (Q := Q) h (i := i) (by omega) (fun M1 hf1 h1 hd1 => ih (i + 1) M1 (by omega) hf1 h1 hd1) (min (gI M0 65 1).toInt.toNat ((ub M0).length - i)) 0 M (by omega) hf h11 (fun i' n' a1 a2 a3 a4 a5 => hd i' n' (by omega) a2 a3 a4)
    rw [z0] at this
    exact this
theorem ct_weighPieces (h : okW M) (hw : RWeighed M) (K : ∀ M', Fr sWP M M' → gI M' 22 11 = 1 → (∀ i' n : Nat, i' < (ub M).length → 1 ≤ n → (n : Int) ≤ (gI M 65 1).toInt → i' + n ≤ (ub M).length → gI M' 26 (i' * 13 + n) = nE (PP M i' (i' + n))) → Q (.returned none) M') : Cal l D ad kA mX7_weighPieces [.ref (ad 22)] M Q := by
  refine en_X7_weighPieces (t_X7_weighPieces_0 ?_)
  by_cases c : gI M 22 11 = 0
  · exact lp_wp2 h K (ub M).length 0 M (by omega) Fr.rf c (fun i' n a1 => by omega)
  · have k := K (sI M 22 11 1) (Fr.rf.sI rfl) rfl (hw c)
    exact t_X7_weighPieces_2 (fun _ => k) (fun _ _ => k) (fun _ q => absurd q c)
end Pieces
