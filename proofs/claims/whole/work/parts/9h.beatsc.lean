/-! SCORES' and heard texts: the class's rows -/
section BeatsC
variable {l : Launch} {D : va_G} {ad : Nat → Nat} {kA : Nat → ClassId} {M M0 : Mem} {Q : Outcome → Mem → Prop} {n : Nat}
theorem lp_ha10 {r : Rw} {a : Nat} {bb : Int32} (hr : rowsAt M 5 6 7 8 r) (ok : okRw r a) : ∀ (k : Nat), k ≤ r.1 → Q (.returned (some (.int (if twB r.2.1 r.2.2.1 (nI a) bb k = true then 1 else 0)))) M →
    Fw l D ad kA mX9_hasAt 10 [some (.ref (ad 4)), some (.int (nI a)), some (.int bb), some (.int 0), some (.int (nI k - 1))] [] M Q := by
  obtain ⟨o1, o2, o3, o4⟩ := ok
  intro k
  induction k with
  | zero =>
    intro hk K
    have hlt : nI 0 - 1 < 0 := by decide
    exact t_X9_hasAt_10 (fun _ => .inl rfl) (fun q => absurd hlt q) (fun q => absurd hlt q) (fun q => absurd hlt q) (fun _ => K) (fun q => absurd hlt q) (fun q => absurd hlt q) (fun q => absurd hlt q)
  | succ k ih =>
    intro hk K
    obtain ⟨e5, e6, -, -⟩ := hr k (by omega)
    have hnlt : ¬ nI k < 0 := nI_pos (by omega)
    have hcl : (nI k).toNatClampNeg = k := nI_clamp (by omega)
    rw [nI_pred]
    unfold twB at K
    refine t_X9_hasAt_10 (fun q => absurd q hnlt) (fun _ => ix (by omega)) (fun _ _ => .inl rfl) (fun _ _ q => absurd rfl q) (fun q => absurd q hnlt) (fun _ c => ?_) (fun _ _ q => absurd rfl q) (fun _ c _ => ?_)
    · rw [hcl, e5] at c
      have no : twB r.2.1 r.2.2.1 (nI a) bb k = false := by
        cases e : twB r.2.1 r.2.2.1 (nI a) bb k with
        | false => rfl
        | true =>
          obtain ⟨j, j1, j2, -⟩ := (twB_t k).mp e
          exfalso
          apply c
          have h1 := o4 j k (by omega) (by omega)
          have h2 := (o3 k (by omega)).1.2
          rw [j2, i_nI (by omega)] at h1
          rw [i_eq, i_nI (by omega)]
          omega
      rw [decide_eq_false c, no] at K
      exact K
    · rw [hcl, e5] at c
      rw [hcl, e6]
      have em : nI k + (-1) = nI k - 1 := by rw [i_eq, i_sub, i_add, i_nI, nm1, n1] <;> (try rw [i_nI]) <;> (try rw [nm1]) <;> (try rw [n1]) <;> omega
      rw [em]
      by_cases d : r.2.2.1 k = bb
      · rw [if_pos d]
        rw [decide_eq_true c, decide_eq_true d] at K
        have K : Q (.returned (some (.int 1))) M := K
        have n10 : ¬ (1 : Int32) = 0 := by decide
        refine t_X9_hasAt_10 (fun _ => .inr rfl) (fun q => ?_) (fun _ _ => .inr rfl) (fun _ _ _ => .inr rfl) (fun _ => K) (fun _ _ => K) (fun _ _ _ => K) (fun _ _ q => absurd q n10)
        cases k with
        | zero => exact absurd (by decide) q
        | succ k => rw [nI_pred]; exact ix (by omega)
      · rw [if_neg d]
        rw [decide_eq_true c, decide_eq_false d] at K
        exact ih (by omega) K
theorem ct_hasAt {r : Rw} {a : Nat} {bb : Int32} (h4 : gI M 4 4 = nI r.1) (hr : rowsAt M 5 6 7 8 r) (ok : okRw r a) (K : Q (.returned (some (.int (if twB r.2.1 r.2.2.1 (nI a) bb r.1 = true then 1 else 0)))) M) : Cal l D ad kA mX9_hasAt [.ref (ad 4), .int (nI a), .int bb] M Q := by
  refine en_X9_hasAt (t_X9_hasAt_0 ?_)
  rw [h4]
  exact lp_ha10 hr ok r.1 (Nat.le_refl _) K
def sRow (c i : Nat) : Bool := c == 5 || c == 6 || c == 7 || c == 8 || (c == 4 && i == 4)
/-- rows with a gap at k -/
def gapAt (M : Mem) (c1 c2 c3 c4 : Nat) (r : Rw) (k : Nat) : Prop := (∀ i, i < k → gI M c1 i = r.2.1 i ∧ gI M c2 i = r.2.2.1 i ∧ gI M c3 i = r.2.2.2.1 i ∧ gI M c4 i = r.2.2.2.2 i) ∧ ∀ i, k < i → i ≤ r.1 → gI M c1 i = r.2.1 (i - 1) ∧ gI M c2 i = r.2.2.1 (i - 1) ∧ gI M c3 i = r.2.2.2.1 (i - 1) ∧ gI M c4 i = r.2.2.2.2 (i - 1)
theorem lp_in5 {r : Rw} {a bb : Int32} (hm : r.1 < 160)
    (K : ∀ M', Fr sRow M0 M' → gI M' 4 4 = nI (r.1 + 1) → rowsAt M' 5 6 7 8 (insRw r a bb (ipos r.2.1 r.2.2.1 a bb r.1)) → Q (.returned (some (.int (nI (ipos r.2.1 r.2.2.1 a bb r.1))))) M') : ∀ (k : Nat) (M : Mem), k ≤ r.1 → Fr sRow M0 M → gI M 4 4 = nI r.1 → gapAt M 5 6 7 8 r k → ipos r.2.1 r.2.2.1 a bb r.1 = ipos r.2.1 r.2.2.1 a bb k →
    Fw l D ad kA mX9_insert 5 [some (.ref (ad 4)), some (.int a), some (.int bb), some (.int (nI k))] [] M Q := by
  have fin : ∀ (k : Nat) (M : Mem), k ≤ r.1 → Fr sRow M0 M → gI M 4 4 = nI r.1 → gapAt M 5 6 7 8 r k → ipos r.2.1 r.2.2.1 a bb r.1 = k → Q (.returned (some (.int (nI k)))) (sI (sI (sI (sI (sI M 5 (nI k).toNatClampNeg a) 6 (nI k).toNatClampNeg bb) 7 (nI k).toNatClampNeg 1) 8 (nI k).toNatClampNeg 0) 4 4 ((gI M 4 4) + 1)) := by
    intro k M hk hf h4 hg hp
    rw [nI_clamp (by omega), h4, nI_1]
    have := K (sI (sI (sI (sI (sI M 5 k a) 6 k bb) 7 k 1) 8 k 0) 4 4 (nI (r.1 + 1))) (((((hf.sI rfl).sI rfl).sI rfl).sI rfl).sI rfl) rfl (by
      rw [hp]
      intro i hi
      have hi : i < r.1 + 1 := hi
      show gI (sI (sI (sI (sI (sI M 5 k a) 6 k bb) 7 k 1) 8 k 0) 4 4 (nI (r.1 + 1))) 5 i = insF r.2.1 k a i ∧ gI (sI (sI (sI (sI (sI M 5 k a) 6 k bb) 7 k 1) 8 k 0) 4 4 (nI (r.1 + 1))) 6 i = insF r.2.2.1 k bb i ∧ gI (sI (sI (sI (sI (sI M 5 k a) 6 k bb) 7 k 1) 8 k 0) 4 4 (nI (r.1 + 1))) 7 i = insF r.2.2.2.1 k 1 i ∧ gI (sI (sI (sI (sI (sI M 5 k a) 6 k bb) 7 k 1) 8 k 0) 4 4 (nI (r.1 + 1))) 8 i = insF r.2.2.2.2 k 0 i
      have g5 : gI (sI (sI (sI (sI (sI M 5 k a) 6 k bb) 7 k 1) 8 k 0) 4 4 (nI (r.1 + 1))) 5 i = if i = k then a else gI M 5 i := by
        rw [gI_o (by omega), gI_o (by omega), gI_o (by omega), gI_o (by omega)]
        by_cases e : i = k
        · rw [if_pos e, e, gI_self]
        · rw [if_neg e, gI_oi e]
      have g6 : gI (sI (sI (sI (sI (sI M 5 k a) 6 k bb) 7 k 1) 8 k 0) 4 4 (nI (r.1 + 1))) 6 i = if i = k then bb else gI M 6 i := by
        rw [gI_o (by omega), gI_o (by omega), gI_o (by omega)]
        by_cases e : i = k
        · rw [if_pos e, e, gI_self]
        · rw [if_neg e, gI_oi e, gI_o (by omega)]
      have g7 : gI (sI (sI (sI (sI (sI M 5 k a) 6 k bb) 7 k 1) 8 k 0) 4 4 (nI (r.1 + 1))) 7 i = if i = k then 1 else gI M 7 i := by
        rw [gI_o (by omega), gI_o (by omega)]
        by_cases e : i = k
        · rw [if_pos e, e, gI_self]
        · rw [if_neg e, gI_oi e, gI_o (by omega), gI_o (by omega)]
      have g8 : gI (sI (sI (sI (sI (sI M 5 k a) 6 k bb) 7 k 1) 8 k 0) 4 4 (nI (r.1 + 1))) 8 i = if i = k then 0 else gI M 8 i := by
        rw [gI_o (by omega)]
        by_cases e : i = k
        · rw [if_pos e, e, gI_self]
        · rw [if_neg e, gI_oi e, gI_o (by omega), gI_o (by omega), gI_o (by omega)]
      rw [g5, g6, g7, g8]
      unfold insF
      by_cases c1 : i < k
      · rw [if_pos c1, if_pos c1, if_pos c1, if_pos c1, if_neg (by omega), if_neg (by omega), if_neg (by omega), if_neg (by omega)]
        exact hg.1 i c1
      · rw [if_neg c1, if_neg c1, if_neg c1, if_neg c1]
        by_cases c2 : i = k
        · simp only [if_pos c2]; exact ⟨trivial, trivial, trivial, trivial⟩
        · simp only [if_neg c2]; exact hg.2 i (by omega) (by omega))
    rw [hp] at this
    exact this
  intro k
  induction k with
  | zero =>
    intro M hk hf h4 hg hp
    have hle : nI 0 ≤ 0 := by decide
    exact t_X9_insert_5 (fun _ => ix (by omega)) (fun q => absurd hle q) (fun q => absurd hle q) (fun q => absurd hle q) (fun q => absurd hle q) (fun _ => fin 0 M hk hf h4 hg hp) (fun q => absurd hle q) (fun q => absurd hle q) (fun q => absurd hle q)
  | succ k ih =>
    intro M hk hf h4 hg hp
    have hnle : ¬ nI (k + 1) ≤ 0 := nI_nle (by omega) (by omega)
    have hcl : (nI k).toNatClampNeg = k := nI_clamp (by omega)
    obtain ⟨e5, e6, e7, e8⟩ := hg.1 k (by omega)
    have hp : ipos r.2.1 r.2.2.1 a bb r.1 = (if r.2.1 k = a ∧ ¬ r.2.2.1 k ≤ bb then ipos r.2.1 r.2.2.1 a bb k else k + 1) := hp
    refine t_X9_insert_5 (fun q => absurd q hnle) (fun _ => by rw [nI_pred]; exact ix (by omega)) (fun _ _ => ix (by omega)) (fun _ _ _ => ix (by omega)) (fun _ _ _ => ix (by omega)) (fun q => absurd q hnle) (fun _ c => ?_) (fun _ c1 c2 => ?_) (fun _ c1 c2 => ?_)
    · rw [nI_pred, hcl, e5] at c
      rw [if_neg (fun z => c z.1)] at hp
      exact fin (k + 1) M hk hf h4 hg hp
    · rw [nI_pred, hcl, e6] at c2
      rw [if_neg (fun z => z.2 c2)] at hp
      exact fin (k + 1) M hk hf h4 hg hp
    · rw [nI_pred, hcl, e5] at c1
      rw [nI_pred, hcl, e6] at c2
      rw [if_pos ⟨c1, c2⟩] at hp
      have em : nI (k + 1) + (-1) = nI k := by rw [i_eq, i_add, i_nI, i_nI, nm1] <;> (try rw [i_nI]) <;> (try rw [nm1]) <;> omega
      rw [em, nI_pred, hcl, nI_clamp (by omega), e5, e6, e7, e8]
      refine ih _ (by omega) ((((hf.sI rfl).sI rfl).sI rfl).sI rfl) h4 ⟨fun i hi => ?_, fun i hi hi2 => ?_⟩ hp
      · obtain ⟨q5, q6, q7, q8⟩ := hg.1 i (by omega)
        refine ⟨?_, ?_, ?_, ?_⟩
        · rw [gI_o (by omega), gI_o (by omega), gI_oi (by omega), gI_o (by omega)]; exact q5
        · rw [gI_o (by omega), gI_o (by omega), gI_o (by omega), gI_oi (by omega)]; exact q6
        · rw [gI_o (by omega), gI_oi (by omega), gI_o (by omega), gI_o (by omega)]; exact q7
        · rw [gI_oi (by omega), gI_o (by omega), gI_o (by omega), gI_o (by omega)]; exact q8
      · by_cases e : i = k + 1
        · subst e
          rw [show k + 1 - 1 = k by omega]
          refine ⟨?_, ?_, ?_, ?_⟩
          · rw [gI_o (by omega), gI_o (by omega), gI_self]
          · rw [gI_o (by omega), gI_o (by omega), gI_o (by omega), gI_self]
          · rw [gI_o (by omega), gI_self]
          · rw [gI_self]
        · obtain ⟨q5, q6, q7, q8⟩ := hg.2 i (by omega) hi2
          refine ⟨?_, ?_, ?_, ?_⟩
          · rw [gI_o (by omega), gI_o (by omega), gI_oi (by omega), gI_o (by omega)]; exact q5
          · rw [gI_o (by omega), gI_o (by omega), gI_o (by omega), gI_oi (by omega)]; exact q6
          · rw [gI_o (by omega), gI_oi (by omega), gI_o (by omega), gI_o (by omega)]; exact q7
          · rw [gI_oi (by omega), gI_o (by omega), gI_o (by omega), gI_o (by omega)]; exact q8
theorem ct_insert {r : Rw} {a bb : Int32} (hm : r.1 < 160) (h4 : gI M 4 4 = nI r.1) (hr : rowsAt M 5 6 7 8 r)
    (K : ∀ M', Fr sRow M M' → gI M' 4 4 = nI (r.1 + 1) → rowsAt M' 5 6 7 8 (insRw r a bb (ipos r.2.1 r.2.2.1 a bb r.1)) → Q (.returned (some (.int (nI (ipos r.2.1 r.2.2.1 a bb r.1))))) M') : Cal l D ad kA mX9_insert [.ref (ad 4), .int a, .int bb] M Q := by
  refine en_X9_insert (t_X9_insert_0 ?_)
  rw [h4]
  exact lp_in5 hm K r.1 M (Nat.le_refl _) Fr.rf h4 ⟨hr, fun i h1 h2 => by omega⟩ rfl
end BeatsC
