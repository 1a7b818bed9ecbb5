/-! HANDS in the model: the table, the row -/
theorem costs_fr {S : Nat → Nat → Bool} {M M' : Mem} (hf : Fr S M M') (hS : ∀ i, S 56 i = false ∧ S 57 i = false ∧ S 58 i = false ∧ S 59 i = false ∧ S 65 i = false) : mvP M' = mvP M ∧ hlP M' = hlP M := by
  have e : ∀ a b, goN M' a b = goN M a b := by
    intro a b
    unfold goN goWait
    rw [hf.1 56 a (hS a).1, hf.1 56 b (hS b).1, hf.1 57 a (hS a).2.1, hf.1 57 b (hS b).2.1, hf.1 58 a (hS a).2.2.1, hf.1 59 a (hS a).2.2.2.1, hf.1 59 b (hS b).2.2.2.1, hf.1 65 0 (hS 0).2.2.2.2, hf.1 65 3 (hS 3).2.2.2.2]
  constructor
  · funext a b
    unfold mvP
    rw [e]
  · funext a b
    unfold hlP
    rw [hf.1 59 a (hS a).2.2.2.1, hf.1 57 a (hS a).2.1, hf.1 57 b (hS b).2.1]
def s70 (c i : Nat) : Bool := c == 70
def allCk (M M' : Mem) (L : List Nat) : Prop := ∀ n hd q, 1 ≤ n → n ≤ L.length → hd < 2 → (q < n - 1 ∨ q = 160) → ck M M' L n hd q
def doneCk (M M' : Mem) (L : List Nat) (n hd q : Nat) : Prop := ∀ n' hd' q', 1 ≤ n' → n' ≤ L.length → hd' < 2 → (q' < n' - 1 ∨ q' = 160) → (n < n' ∨ (n' = n ∧ (hd' < hd ∨ (hd' = hd ∧ q' < q)))) → ck M M' L n' hd' q'
section DeftM2
variable {l : Launch} {D : va_G} {ad : Nat → Nat} {kA : Nat → ClassId} {M M0 : Mem} {Q : Outcome → Mem → Prop} {L : List Nat} {s : Nat}
theorem OwnM.fr {S : Nat → Nat → Bool} (h : OwnM M0 L s) (hf : Fr S M0 M) (h1 : S 54 31 = false) (h2 : ∀ i, S 69 i = false) : OwnM M L s :=
  ⟨by rw [hf.1 54 31 h1]; exact h.1, h.2.1.fr (fun i _ => hf.1 69 i (h2 i)), h.2.2⟩
theorem fh_val (h : OwnM M0 L s) (hb : ∀ a, a < s → 0 ≤ (gI M0 57 a).toInt) (hf : Fr s70 M0 M) {n hd p q : Nat} (hn : n ≤ L.length) (hh : hd < 2) (hp : posOk L p) (hq : posOk L q) (hc : n < L.length → ck M0 M L (n + 1) hd q ∧ ck M0 M L (n + 1) (1 - hd) p) : v_X13_takesFrom M (nI n) (nI hd) (nI p) (nI q) = nI (min 1000000 (Ff (mvP M0) (hlP M0) L[p]? L[q]? (L.drop n))) ∧ g_X13_takesFrom M (nI n) (nI hd) (nI p) (nI q) := by
  obtain ⟨e1, e2⟩ := costs_fr hf (fun i => ⟨rfl, rfl, rfl, rfl, rfl⟩)
  have := v_takesFrom (h.fr hf rfl (fun _ => rfl)) (fun a ha => by rw [hf.1 57 a rfl]; exact hb a ha) hn hh hp hq (fun z => by
    have := hc z
    unfold ck at this ⊢
    rw [e1, e2]; exact this)
  rw [e1, e2] at this
  exact this
theorem lp_fh18 (h : OwnM M0 L s) (hb : ∀ a, a < s → 0 ≤ (gI M0 57 a).toInt) {n hd : Nat} (h1 : 1 ≤ n) (hn : n ≤ L.length) (hh : hd < 2)
    (K : ∀ M', Fr s70 M0 M' → doneCk M0 M' L n (hd + 1) 0 → Fw l D ad kA mX13_findHands 11 [some (.ref (ad 54)), some (.int (nI n)), some (.int (nI (hd + 1))), none] [] M' Q) : ∀ (j q : Nat) (M : Mem), q + j = n - 1 → Fr s70 M0 M → doneCk M0 M L n hd q →
    Fw l D ad kA mX13_findHands 18 [some (.ref (ad 54)), some (.int (nI n)), some (.int (nI hd)), some (.int (nI q))] [] M Q := by
  have h4 := h.2.2.1
  have e1 : nI n - 1 = nI (n - 1) := by
    obtain ⟨k, rfl⟩ : ∃ k, n = k + 1 := ⟨n - 1, by omega⟩
    exact nI_pred k
  have wr : ∀ (M : Mem) (q : Nat), Fr s70 M0 M → doneCk M0 M L n hd (if q = 160 then n - 1 else q) → (q < n - 1 ∨ q = 160) → v_X13_takesFrom M (nI n) (nI hd) (nI (n - 1)) (nI q) = nI (min 1000000 (Ff (mvP M0) (hlP M0) L[n - 1]? L[q]? (L.drop n))) ∧ g_X13_takesFrom M (nI n) (nI hd) (nI (n - 1)) (nI q) := by
    intro M q hf hd1 hq
    refine fh_val h hb hf hn hh (.inr (by omega)) (by rcases hq with z | z; exact .inr (by omega); exact .inl z) (fun hlt => ⟨hd1 (n + 1) hd q (by omega) (by omega) hh (by omega) (.inl (by omega)), hd1 (n + 1) (1 - hd) (n - 1) (by omega) (by omega) (by omega) (by omega) (.inl (by omega))⟩)
  intro j
  induction j with
  | zero =>
    intro q M hq hf hdn
    have hle : nI n - 1 ≤ nI q := by rw [e1, nI_leI (by omega) (by omega)]; omega
    obtain ⟨w1, w2⟩ := wr M 160 hf (by rw [if_pos rfl, show n - 1 = q by omega]; exact hdn) (.inr rfl)
    refine t_X13_findHands_18 (fun _ => by rw [e1]; exact w2) (fun _ => by rw [n160, v_cell]; exact ixN (fce_lt (by omega) hh (by omega)) (by omega)) (fun q => absurd hle q) (fun q => absurd hle q) (fun _ => ?_) (fun q => absurd hle q)
    rw [e1, n160, v_cell, nI_clamp (by have := fce_lt (n := n) (h := hd) (q := 160) (by omega) hh (by omega); omega), w1, nI_1]
    refine K _ (hf.sI rfl) (fun n' hd' q' a1 a2 a3 a4 a5 => ?_)
    unfold ck
    by_cases e : n' = n ∧ hd' = hd ∧ q' = 160
    · obtain ⟨rfl, rfl, rfl⟩ := e
      rw [gI_self]
    · rw [gI_oi (fun z => e (fce_inj a3 hh (by omega) (by omega) z))]
      exact hdn n' hd' q' a1 a2 a3 a4 (by omega)
  | succ j ih =>
    intro q M hq hf hdn
    have hnle : ¬ nI n - 1 ≤ nI q := by rw [e1, nI_leI (by omega) (by omega)]; omega
    obtain ⟨w1, w2⟩ := wr M q hf (by rw [if_neg (by omega)]; exact hdn) (.inl (by omega))
    refine t_X13_findHands_18 (fun q => absurd q hnle) (fun q => absurd q hnle) (fun _ => by rw [e1]; exact w2) (fun _ => by rw [v_cell]; exact ixN (fce_lt (by omega) hh (by omega)) (by omega)) (fun q => absurd q hnle) (fun _ => ?_)
    rw [e1, v_cell, nI_clamp (by have := fce_lt (n := n) (h := hd) (q := q) (by omega) hh (by omega); omega), w1, nI_1]
    refine ih (q + 1) _ (by omega) (hf.sI rfl) (fun n' hd' q' a1 a2 a3 a4 a5 => ?_)
    unfold ck
    by_cases e : n' = n ∧ hd' = hd ∧ q' = q
    · obtain ⟨rfl, rfl, rfl⟩ := e
      rw [gI_self]
    · rw [gI_oi (fun z => e (fce_inj a3 hh (by omega) (by omega) z))]
      exact hdn n' hd' q' a1 a2 a3 a4 (by omega)
theorem lp_fh5 (h : OwnM M0 L s) (hb : ∀ a, a < s → 0 ≤ (gI M0 57 a).toInt)
    (K : ∀ M', Fr s70 M0 M' → allCk M0 M' L → Q (.returned (some (.int (nI (min 1000000 (Ff (mvP M0) (hlP M0) none none L)))))) M') : ∀ (n : Nat) (M : Mem), n ≤ L.length → Fr s70 M0 M → doneCk M0 M L n 0 0 →
    Fw l D ad kA mX13_findHands 5 [some (.ref (ad 54)), some (.int (nI n)), none, none] [] M Q := by
  have h4 := h.2.2.1
  intro n
  induction n with
  | zero =>
    intro M hn hf hdn
    have hle : nI 0 ≤ 0 := by decide
    have g160 := get160 h
    obtain ⟨w1, w2⟩ := fh_val h hb hf (n := 0) (hd := 0) (p := 160) (q := 160) (by omega) (by omega) (.inl rfl) (.inl rfl) (fun hlt => ⟨hdn 1 0 160 (by omega) (by omega) (by omega) (.inr rfl) (.inl (by omega)), hdn 1 1 160 (by omega) (by omega) (by omega) (.inr rfl) (.inl (by omega))⟩)
    refine t_X13_findHands_5 (fun _ => w2) (fun _ => ?_) (fun q => absurd hle q)
    rw [g160] at w1
    rw [show v_X13_takesFrom M 0 0 160 160 = nI (min 1000000 (Ff (mvP M0) (hlP M0) none none L)) from w1]
    exact K M hf (fun n' hd' q' a1 a2 a3 a4 => hdn n' hd' q' a1 a2 a3 a4 (.inl (by omega)))
  | succ n ih =>
    intro M hn hf hdn
    have hnle : ¬ nI (n + 1) ≤ 0 := nI_nle (by omega) (by omega)
    have n2 : (2 : Int32) = nI 2 := rfl
    refine t_X13_findHands_5 (fun q => absurd q hnle) (fun q => absurd q hnle) (fun _ => ?_)
    refine t_X13_findHands_11 (fun q => absurd q (by decide)) (fun _ => ?_)
    refine lp_fh18 h hb (n := n + 1) (hd := 0) (by omega) hn (by omega) (fun M1 hf1 hd1 => ?_) n 0 M (by omega) hf hdn
    refine t_X13_findHands_11 (fun q => absurd q (by decide)) (fun _ => ?_)
    refine lp_fh18 h hb (n := n + 1) (hd := 1) (by omega) hn (by omega) (fun M2 hf2 hd2 => ?_) n 0 M1 (by omega) hf1 hd1
    refine t_X13_findHands_11 (fun _ => ?_) (fun q => absurd (by decide) q)
    have e2 : nI (n + 1) + (-1) = nI n := by rw [i_eq, i_add, i_nI, i_nI, nm1] <;> (try rw [i_nI]) <;> (try rw [nm1]) <;> omega
    rw [e2]
    exact ih M2 (by omega) hf2 (fun n' hd' q' a1 a2 a3 a4 a5 => hd2 n' hd' q' a1 a2 a3 a4 (by omega))
theorem ct_findHands (h : OwnM M L s) (hb : ∀ a, a < s → 0 ≤ (gI M 57 a).toInt)
    (K : ∀ M', Fr s70 M M' → allCk M M' L → Q (.returned (some (.int (nI (min 1000000 (Ff (mvP M) (hlP M) none none L)))))) M') : Cal l D ad kA mX13_findHands [.ref (ad 54)] M Q := by
  refine en_X13_findHands (t_X13_findHands_0 ?_)
  rw [h.1]
  exact lp_fh5 h hb K L.length M (Nat.le_refl _) Fr.rf (fun n' hd' q' a1 a2 a3 a4 a5 => absurd a5 (by omega))
def sOwn (c i : Nat) : Bool := c == 69 || (c == 54 && i == 31)
/-- the numbers of the STROKES on a set of BELLS -/
def ons (M : Mem) (z : Int64) (s : Nat) : List Nat := (List.range s).filter (fun k => lb z (gI M 57 k).toNatClampNeg)
theorem ons_lt {z : Int64} {s a : Nat} (h : a ∈ ons M z s) : a < s := List.mem_range.mp (List.mem_filter.mp h).1
theorem lp_tb7 {z : Int64} (hs : (s : Int) = (gI M0 54 10).toInt) (hs2 : s ≤ 160) (hb : ∀ a, a < s → 0 ≤ (gI M0 57 a).toInt ∧ (gI M0 57 a).toInt ≤ 47)
    (K : ∀ M', Fr sOwn M0 M' → OwnM M' (ons M0 z s) s → Q (.returned none) M') : ∀ (j i : Nat) (M : Mem), i + j = s → Fr sOwn M0 M → gI M 54 31 = nI (ons M0 z i).length → Row M 69 (ons M0 z i) →
    Fw l D ad kA mX13_takeBells 7 [some (.ref (ad 54)), some (.long z), none, some (.int (nI i))] [] M Q := by
  intro j
  induction j with
  | zero =>
    intro i M hi hf h1 h2
    have hle : gI M 54 10 ≤ nI i := by rw [hf.1 54 10 rfl, i_le, i_nI (by omega)]; omega
    have : i = s := by omega
    subst this
    have hl := rfl_len (p := fun k => lb z (gI M0 57 k).toNatClampNeg) (i := i)
    exact t_X13_takeBells_7 (fun q => absurd hle q) (fun q => absurd hle q) (fun _ => K M hf ⟨h1, h2, by unfold ons; omega, hs2, fun a ha => ons_lt ha⟩) (fun q => absurd hle q) (fun q => absurd hle q)
  | succ j ih =>
    intro i M hi hf h1 h2
    have hnle : ¬ gI M 54 10 ≤ nI i := by rw [hf.1 54 10 rfl, i_le, i_nI (by omega)]; omega
    have hcl : (nI i).toNatClampNeg = i := nI_clamp (by omega)
    have hlen : (ons M0 z i).length ≤ i := rfl_len
    obtain ⟨b, eb, hb1, -⟩ := i_nat (hb i (by omega)).1
    have hb2 := (hb i (by omega)).2
    have f57 : gI M 57 i = nI b := by rw [hf.1 57 i rfl]; exact eb
    have hon : lg_cmp (lshr z (gI M 57 (nI i).toNatClampNeg) &&& 1) 0 = 0 ↔ lb z (gI M0 57 i).toNatClampNeg = false := by
      rw [hcl, f57, on_s (by omega), eb, nI_clamp (by omega)]
    refine t_X13_takeBells_7 (fun _ => ix (by omega)) (fun _ _ => by rw [h1]; exact ix (by omega)) (fun q => absurd q hnle) (fun _ c => ?_) (fun _ c => ?_)
    · rw [hon] at c
      have e : ons M0 z (i + 1) = ons M0 z i ++ [i] := by
        unfold ons
        rw [List.range_succ, List.filter_append, List.filter_cons_of_pos (by simpa using c), List.filter_nil]
      rw [h1, nI_clamp (by omega), nI_1, nI_1]
      refine ih (i + 1) _ (by omega) ((hf.sI rfl).sI rfl) ?_ ?_
      · rw [e, List.length_append]; rfl
      · rw [e]
        refine h2.put (fun k hk => ?_) ?_
        · rw [gI_o (by omega), gI_oi (by omega)]
        · rw [gI_o (by omega), gI_self]
    · rw [hon] at c
      have e : ons M0 z (i + 1) = ons M0 z i := by
        unfold ons
        rw [List.range_succ, List.filter_append, List.filter_cons_of_neg (by rw [c]; decide), List.filter_nil, List.append_nil]
      rw [nI_1]
      exact ih (i + 1) M (by omega) hf (by rw [e]; exact h1) (by rw [e]; exact h2)
def sTakesM (c i : Nat) : Bool := c == 69 || c == 70 || (c == 54 && i == 31)
theorem ct_takesOfM {z : Int64} (hs : (s : Int) = (gI M 54 10).toInt) (hs2 : s ≤ 160) (hb : ∀ a, a < s → 0 ≤ (gI M 57 a).toInt ∧ (gI M 57 a).toInt ≤ 47)
    (K : ∀ M', Fr sTakesM M M' → OwnM M' (ons M z s) s → allCk M M' (ons M z s) → Q (.returned (some (.int (nI (min 1000000 (Ff (mvP M) (hlP M) none none (ons M z s))))))) M') : Cal l D ad kA mX13_takesOf [.ref (ad 54), .long z] M Q := by
  refine en_X13_takesOf (t_X13_takesOf_0 (en_X13_takeBells (t_X13_takeBells_0 (lp_tb7 (M0 := M) hs hs2 hb (fun M1 hf1 ho1 => ⟨rfl, t_X13_takesOf_5 ?_⟩) s 0 (sI M 54 31 0) (by omega) (Fr.rf.sI rfl) rfl (fun i b e => by cases e)))))
  refine ct_findHands ho1 (fun a ha => by rw [hf1.1 57 a rfl]; exact (hb a ha).1) (fun M2 hf2 hc => ⟨_, rfl, t_X13_takesOf_9 ?_⟩)
  obtain ⟨e1, e2⟩ := costs_fr hf1 (fun i => ⟨rfl, rfl, rfl, rfl, rfl⟩)
  rw [e1, e2]
  refine K M2 ?_ (ho1.fr hf2 rfl (fun _ => rfl)) (fun n hd q a1 a2 a3 a4 => ?_)
  · refine Fr.tr (hf1.mono ?_) (hf2.mono ?_)
    · intro c i q; simp [sTakesM] at q; simp [sOwn]; omega
    · intro c i q; simp [sTakesM] at q; simp [s70]; omega
  · have := hc n hd q a1 a2 a3 a4
    unfold ck at this ⊢
    rw [e1, e2] at this
    exact this
end DeftM2
