/-! score -/
def sText (c i : Nat) : Bool := (c == 1 && (i == 0 || i == 1 || i == 2 || i == 3 || i == 4 || i == 6 || i == 7)) || (c == 3 && (i == 2 || i == 3 || i == 4)) || (c == 4 && i == 4) || c == 5 || c == 6 || c == 7 || c == 8 || (c == 54 && (i == 2 || i == 3 || i == 4 || i == 5 || i == 6 || i == 7 || i == 8 || i == 9 || i == 11)) || c == 60 || c == 61 || c == 62 || c == 63
def sTSc (c i : Nat) : Bool := (c == 22 && (i == 4 || i == 5 || i == 7 || i == 11)) || c == 24
section Score
variable {l : Launch} {D : va_G} {ad : Nat → Nat} {kA : Nat → ClassId} {M M0 : Mem} {Q : Outcome → Mem → Prop} {n : Nat}
theorem uses_lb {b : Nat} (h : b < 48) : v_X7_uses M (nI b) = 0 ↔ lb (gL M 22 7) b = false := by
  unfold v_X7_uses
  have hb : ¬ v_X11_isBell (nI b) = 0 := by rw [bell0, i_nI (by omega)]; omega
  rw [if_neg hb, ← on_u (by omega)]
  constructor
  · intro q
    apply Classical.byContradiction
    intro w
    rw [if_neg w] at q
    exact absurd q (by decide)
  · intro q; rw [if_pos q]
/-- the bells of the class's rows -/
def bellsC (M : Mem) (s : Nat) : List Nat := (List.range s).map (fun k => (gI M 11 k).toNatClampNeg)
def ubC (M : Mem) (s : Nat) : List Nat := flP (fun b => decide (b ∈ bellsC M s)) 48
theorem ct_takeScore {s : Nat} (hs : gI M 9 4 = nI s) (hs2 : s ≤ 160) (hb : ∀ a, a < s → 0 ≤ (gI M 11 a).toInt ∧ (gI M 11 a).toInt ≤ 47)
    (K : ∀ M', Fr sTSc M M' → gI M' 22 4 = 0 → gI M' 22 11 = 0 → (∀ b, b < 48 → (v_X7_uses M' (nI b) = 0 ↔ ¬ b ∈ bellsC M s)) → gI M' 22 5 = nI (ubC M s).length → Row M' 24 (ubC M s) → Q (.returned none) M') : Cal l D ad kA mX7_takeScore [.ref (ad 22)] M Q := by
  have n48 : (48 : Int32) = nI 48 := rfl
  refine en_X7_takeScore (t_X7_takeScore_0 ?_)
  have loop2 : ∀ (M1 : Mem), Fr sTSc M M1 → (∀ b, b < 48 → (lb (gL M1 22 7) b = decide (b ∈ bellsC M s))) → ∀ (j i : Nat) (M2 : Mem), i + j = 48 → Fr (fun c i => c == 24 || (c == 22 && i == 5)) M1 M2 → gI M2 22 5 = nI (flP (fun b => decide (b ∈ bellsC M s)) i).length → Row M2 24 (flP (fun b => decide (b ∈ bellsC M s)) i) → Fw l D ad kA mX7_takeScore 51 [some (.ref (ad 22)), some (.int (nI i))] [] M2 Q := by
    intro M1 hf1 hlb j
    induction j with
    | zero =>
      intro i M2 hi hf2 h5 h24
      have hle : 48 ≤ nI i := by rw [n48, nI_leI (by omega) (by omega)]; omega
      have : i = 48 := by omega
      subst this
      refine t_X7_takeScore_51 (fun q => absurd hle q) (fun _ => ?_) (fun q => absurd hle q) (fun q => absurd hle q)
      refine K _ (((hf1.tr (hf2.mono (fun c i q => by simp [sTSc] at q; simp; omega))).sI rfl).sI rfl) rfl rfl (fun b hb' => ?_) h5 h24
      rw [uses_lb hb']
      show lb (gL M2 22 7) b = false ↔ _
      rw [hf2.2 22 7 rfl, hlb b hb', decide_eq_false_iff_not]
    | succ j ih =>
      intro i M2 hi hf2 h5 h24
      have hnle : ¬ 48 ≤ nI i := by rw [n48, nI_leI (by omega) (by omega)]; omega
      have hl : (flP (fun b => decide (b ∈ bellsC M s)) i).length ≤ i := rfl_len
      have hu : v_X7_uses M2 (nI i) = 0 ↔ ¬ i ∈ bellsC M s := by rw [uses_lb (by omega), hf2.2 22 7 rfl, hlb i (by omega), decide_eq_false_iff_not]
      refine t_X7_takeScore_51 (fun _ _ => by rw [h5]; exact ix48 (by omega)) (fun q => absurd q hnle) (fun _ c => ?_) (fun _ c => ?_)
      · have c := hu.mp c
        have e : flP (fun b => decide (b ∈ bellsC M s)) (i + 1) = flP (fun b => decide (b ∈ bellsC M s)) i := fl_succ_n (decide_eq_false c)
        rw [nI_1]
        exact ih (i + 1) M2 (by omega) hf2 (by rw [e]; exact h5) (by rw [e]; exact h24)
      · have c : i ∈ bellsC M s := Classical.byContradiction (fun z => c (hu.mpr z))
        have e : flP (fun b => decide (b ∈ bellsC M s)) (i + 1) = flP (fun b => decide (b ∈ bellsC M s)) i ++ [i] := fl_succ_y (decide_eq_true c)
        rw [h5, nI_clamp (by omega), nI_1, nI_1]
        refine ih (i + 1) _ (by omega) ((hf2.sI rfl).sI rfl) ?_ ?_
        · rw [e, List.length_append]; rfl
        · rw [e]
          refine h24.put (fun k hk => ?_) ?_
          · rw [gI_o (by omega), gI_oi (by omega)]
          · rw [gI_o (by omega), gI_self]
  have loop1 : ∀ (j i : Nat) (M1 : Mem), i + j = s → Fr (fun c i => c == 22 && i == 7) M M1 → gL M1 22 7 = BO (fun _ => true) (bellsC M i) 0 → Fw l D ad kA mX7_takeScore 7 [some (.ref (ad 22)), some (.int (nI i))] [] M1 Q := by
    intro j
    induction j with
    | zero =>
      intro i M1 hi hf1 hL
      have hle : gI M1 9 4 ≤ nI i := by rw [hf1.1 9 4 rfl, hs, nI_leI (by omega) (by omega)]; omega
      have : i = s := by omega
      subst this
      refine t_X7_takeScore_7 (fun q => absurd hle q) (fun _ => ?_) (fun q => absurd hle q)
      refine loop2 (sI M1 22 5 0) ((hf1.mono (fun c i q => by simp [sTSc] at q; simp; omega)).sI rfl) (fun b hb' => ?_) 48 0 (sI M1 22 5 0) (by omega) Fr.rf rfl (fun i b e => by cases e)
      show lb (gL M1 22 7) b = _
      rw [hL, lb_BO (by omega) _ _ (fun c hc => ?_), lb_0, Bool.and_true, Bool.false_or]
      obtain ⟨k, hk, rfl⟩ := List.mem_map.mp hc
      have hk := List.mem_range.mp hk
      have := hb k hk
      have := i_clamp this.1
      omega
    | succ j ih =>
      intro i M1 hi hf1 hL
      have hnle : ¬ gI M1 9 4 ≤ nI i := by rw [hf1.1 9 4 rfl, hs, nI_leI (by omega) (by omega)]; omega
      obtain ⟨bb, e1, e2, e3⟩ := i_nat (hb i (by omega)).1
      refine t_X7_takeScore_7 (fun _ => ix (by omega)) (fun q => absurd q hnle) (fun _ => ?_)
      rw [nI_clamp (by omega), nI_1, hf1.1 11 i rfl, hL]
      refine ih (i + 1) _ (by omega) (hf1.sL rfl) ?_
      have e : bellsC M (i + 1) = bellsC M i ++ [bb] := by
        unfold bellsC
        rw [List.range_succ, List.map_append, List.map_cons, List.map_nil, e1, nI_clamp (by omega)]
      rw [e, BO_app, if_pos rfl, e1]
      show gL (sL M1 22 7 _) 22 7 = _
      rw [gL_sL, if_pos ⟨rfl, rfl⟩]
  exact loop1 s 0 (sL M 22 7 0) (by omega) (Fr.rf.sL rfl) (by rw [gL_sL, if_pos ⟨rfl, rfl⟩]; rfl)
end Score
