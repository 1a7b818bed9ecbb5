/-! the USED BELLS in a row; the BELLS of a RINGER; count -/
noncomputable def uB (M : Mem) (b : Nat) : Bool := @decide (usedM M (nI b)) (Classical.propDecidable _)
theorem uB_t {M : Mem} {b : Nat} : uB M b = true ↔ usedM M (nI b) := by
  unfold uB
  exact @decide_eq_true_iff _ (Classical.propDecidable _)
noncomputable def ub (M : Mem) : List Nat := (List.range 48).filter (uB M)
theorem ub_congr {M M' : Mem} (h1 : gI M' 54 10 = gI M 54 10) (h2 : ∀ i, gI M' 57 i = gI M 57 i) : ub M' = ub M := by
  have : ∀ b, usedM M' b = usedM M b := by
    intro b
    unfold usedM
    rw [h1]
    congr 1
    funext a
    rw [h2]
  unfold ub
  congr 1
  funext b
  unfold uB
  rw [this]
theorem ub_len {M : Mem} : (ub M).length ≤ 48 := by
  have := List.length_filter_le (uB M) (List.range 48)
  rw [List.length_range] at this
  exact this
theorem ub_lt {M : Mem} {b : Nat} (h : b ∈ ub M) : b < 48 := List.mem_range.mp (List.mem_filter.mp h).1
def RUsed (M : Mem) : Prop := gI M 22 5 = nI (ub M).length ∧ Row M 24 (ub M)
section Used
variable {l : Launch} {D : va_G} {ad : Nat → Nat} {kA : Nat → ClassId} {M : Mem} {Q : Outcome → Mem → Prop}
def sFU (c i : Nat) : Bool := c == 73 || (c == 54 && i == 40)
theorem n48 : (48 : Int32).toInt = 48 := by decide
theorem rfl_len {p : Nat → Bool} {i : Nat} : ((List.range i).filter p).length ≤ i := by
  have := List.length_filter_le p (List.range i)
  rw [List.length_range] at this
  exact this
theorem lp_fu7 {M0 : Mem} (hs : 0 ≤ (gI M0 54 10).toInt ∧ (gI M0 54 10).toInt ≤ 160) (K : ∀ M', Fr sFU M0 M' → gI M' 54 40 = nI (ub M0).length → Row M' 73 (ub M0) → Q (.returned none) M') : ∀ (j i : Nat) (M : Mem), i + j = 48 → Fr sFU M0 M → gI M 54 40 = nI ((List.range i).filter (uB M0)).length → Row M 73 ((List.range i).filter (uB M0)) →
    Fw l D ad kA mX13_findUsed 7 [some (.ref (ad 54)), some (.int (nI i))] [] M Q := by
  have q48 := n48
  intro j
  induction j with
  | zero =>
    intro i M hi hf h1 h2
    have hle : 48 ≤ nI i := by rw [i_le, i_nI (by omega)]; omega
    have : i = 48 := by omega
    subst this
    exact t_X13_findUsed_7 (fun _ => K M hf h1 h2) (fun q => absurd hle q)
  | succ j ih =>
    intro i M hi hf h1 h2
    have hnle : ¬ 48 ≤ nI i := by rw [i_le, i_nI (by omega)]; omega
    have hlen := rfl_len (p := uB M0) (i := i)
    have eu : usedM M (nI i) ↔ usedM M0 (nI i) := by
      unfold usedM
      rw [hf.1 54 10 rfl]
      constructor
      · exact fun ⟨a, h1, h2⟩ => ⟨a, h1, by rw [← h2]; exact (hf.1 57 a rfl).symm⟩
      · exact fun ⟨a, h1, h2⟩ => ⟨a, h1, by rw [← h2]; exact hf.1 57 a rfl⟩
    refine t_X13_findUsed_7 (fun q => absurd q hnle) (fun _ => ct_isUsed (by rw [hf.1 54 10 rfl]; exact hs) (fun u => ⟨_, rfl, t_X13_findUsed_18 (fun _ => ?_) (fun _ => ?_) (fun q => absurd q (by decide))⟩) (fun u => ⟨_, rfl, t_X13_findUsed_18 (fun q => absurd rfl q) (fun q => absurd rfl q) (fun _ => ?_)⟩))
    · rw [h1]; exact ix48 (by omega)
    · have e : (List.range (i + 1)).filter (uB M0) = (List.range i).filter (uB M0) ++ [i] := by
        rw [List.range_succ, List.filter_append, List.filter_cons_of_pos (uB_t.mpr (eu.mp u)), List.filter_nil]
      rw [h1, nI_clamp (by omega), nI_1, nI_1]
      refine ih (i + 1) _ (by omega) ((hf.sI rfl).sI rfl) ?_ ?_
      · rw [e, List.length_append]; rfl
      · rw [e]
        refine h2.put (fun k hk => ?_) ?_
        · rw [gI_o (by omega), gI_oi (by omega)]
        · rw [gI_o (by omega), gI_self]
    · have e : (List.range (i + 1)).filter (uB M0) = (List.range i).filter (uB M0) := by
        rw [List.range_succ, List.filter_append, List.filter_cons_of_neg (fun z => u (eu.mpr (uB_t.mp z))), List.filter_nil, List.append_nil]
      rw [nI_1]
      exact ih (i + 1) M (by omega) hf (by rw [e]; exact h1) (by rw [e]; exact h2)
theorem ct_findUsed (hs : 0 ≤ (gI M 54 10).toInt ∧ (gI M 54 10).toInt ≤ 160) (K : ∀ M', Fr sFU M M' → gI M' 54 40 = nI (ub M).length → Row M' 73 (ub M) → Q (.returned none) M') : Cal l D ad kA mX13_findUsed [.ref (ad 54)] M Q :=
  en_X13_findUsed (t_X13_findUsed_0 (lp_fu7 (M0 := M) hs K 48 0 (sI M 54 40 0) (by omega) (Fr.rf.sI rfl) rfl (fun i b e => by cases e)))
theorem lp_boC {r : Int32} (hu : RUsed M) (K : Q (.returned (some (.long (BO (fun b => decide (gI M 23 b = r)) (ub M) 0)))) M) : ∀ (j i : Nat), i + j = (ub M).length →
    Fw l D ad kA mX7_bellsOf 5 [some (.ref (ad 22)), some (.int r), some (.long (BO (fun b => decide (gI M 23 b = r)) ((ub M).take i) 0)), none, some (.int (nI i))] [] M Q := by
  obtain ⟨u1, u2⟩ := hu
  have hl := ub_len (M := M)
  intro j
  induction j with
  | zero =>
    intro i hi
    have hle : gI M 22 5 ≤ nI i := by rw [u1, i_le, i_nI (by omega), i_nI (by omega)]; omega
    refine t_X7_bellsOf_5 (fun q => absurd hle q) (fun q => absurd hle q) (fun _ => ?_) (fun q => absurd hle q)
    rw [List.take_of_length_le (by omega)]
    exact K
  | succ j ih =>
    intro i hi
    have hlt : i < (ub M).length := by omega
    have hnle : ¬ gI M 22 5 ≤ nI i := by rw [u1, i_le, i_nI (by omega), i_nI (by omega)]; omega
    have hcl : (nI i).toNatClampNeg = i := nI_clamp (by omega)
    have hb := ub_lt (List.getElem_mem hlt)
    have e := u2.at hlt
    refine t_X7_bellsOf_5 (fun _ => ix48 (by omega)) (fun _ => by rw [hcl, e]; exact ix48 hb) (fun q => absurd q hnle) (fun _ => ?_)
    have hi2 := ih (i + 1) (by omega)
    rw [List.take_succ_eq_append_getElem hlt, BO_app] at hi2
    rw [hcl, e, nI_clamp (by omega), nI_1]
    simp only [decide_eq_true_eq] at hi2
    exact hi2
theorem ct_bellsOfC {r : Int32} (hu : RUsed M) (K : Q (.returned (some (.long (BO (fun b => decide (gI M 23 b = r)) (ub M) 0)))) M) : Cal l D ad kA mX7_bellsOf [.ref (ad 22), .int r] M Q :=
  en_X7_bellsOf (t_X7_bellsOf_0 (lp_boC hu K (ub M).length 0 (by omega)))
theorem lp_boM {r : Int32} (K : Q (.returned (some (.long (BO (fun b => decide (gI M 68 b = r)) (List.range 48) 0)))) M) : ∀ (j i : Nat), i + j = 48 →
    Fw l D ad kA mX13_bellsOf 5 [some (.ref (ad 54)), some (.int r), some (.long (BO (fun b => decide (gI M 68 b = r)) (List.range i) 0)), none, some (.int (nI i))] [] M Q := by
  have q48 := n48
  intro j
  induction j with
  | zero =>
    intro i hi
    have hle : 48 ≤ nI i := by rw [i_le, i_nI (by omega)]; omega
    have : i = 48 := by omega
    subst this
    exact t_X13_bellsOf_5 (fun q => absurd hle q) (fun _ => K) (fun q => absurd hle q)
  | succ j ih =>
    intro i hi
    have hnle : ¬ 48 ≤ nI i := by rw [i_le, i_nI (by omega)]; omega
    have hcl : (nI i).toNatClampNeg = i := nI_clamp (by omega)
    refine t_X13_bellsOf_5 (fun _ => ix48 (by omega)) (fun q => absurd q hnle) (fun _ => ?_)
    have hi2 := ih (i + 1) (by omega)
    rw [List.range_succ, BO_app] at hi2
    rw [hcl, nI_1]
    simp only [decide_eq_true_eq] at hi2
    exact hi2
theorem ct_bellsOfM {r : Int32} (K : Q (.returned (some (.long (BO (fun b => decide (gI M 68 b = r)) (List.range 48) 0)))) M) : Cal l D ad kA mX13_bellsOf [.ref (ad 54), .int r] M Q :=
  en_X13_bellsOf (t_X13_bellsOf_0 (lp_boM K 48 0 (by omega)))
/-- the BELLS of a RINGER -/
def bo (M : Mem) (r : Int32) : Int64 := BO (fun b => decide (gI M 68 b = r)) (List.range 48) 0
theorem bo_eq {r : Int32} (hp : RPart M) (h0 : ¬ gI M 22 4 = 0) (hr : ¬ r = (-1)) : BO (fun b => decide (gI M 23 b = r)) (ub M) 0 = bo M r := by
  unfold bo
  rw [← BO_filter (p := uB M) (List.range 48)]
  · refine BO_congr _ _ (fun b hb => ?_)
    obtain ⟨h1, h2⟩ := List.mem_filter.mp hb
    rw [(hp.2 h0 b (List.mem_range.mp h1)).1 (uB_t.mp h2)]
  · intro b hb hn
    rw [decide_eq_false_iff_not, (hp.2 h0 b (List.mem_range.mp hb)).2 (fun z => by rw [uB_t.mpr z] at hn; cases hn)]
    exact fun z => hr z.symm
theorem lb_bo {r : Int32} {b : Nat} (h : b < 48) : lb (bo M r) b = decide (gI M 68 b = r) := by
  unfold bo
  rw [lb_BO (by omega) _ _ (fun c hc => by have := List.mem_range.mp hc; omega), lb_0]
  simp [h]
end Used
