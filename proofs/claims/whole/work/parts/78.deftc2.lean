/-! HANDS in the class: the rest, the row -/
section DeftC2
variable {l : Launch} {D : va_G} {ad : Nat → Nat} {kA : Nat → ClassId} {M M0 : Mem} {Q : Outcome → Mem → Prop} {L : List Nat} {s : Nat}
theorem dO_pos {d : Nat} (h : 1 ≤ d) : dO L d = L[d - 1]? := by
  obtain ⟨k, rfl⟩ : ∃ k, d = k + 1 := ⟨d - 1, by omega⟩
  rfl
theorem stuck_all {mv : Nat → Nat → Nat} {hl : Nat → Nat → Bool} {k : Nat} (hk : k ≤ L.length) (h : ∀ o, o < k → 1000000 ≤ Ff mv hl L[k - 1]? (dO L o) (L.drop k)) : ∀ (j d : Nat), d + j = k → 1 ≤ d → ∀ o, o < d → 1000000 ≤ Ff mv hl L[d - 1]? (dO L o) (L.drop d) := by
  intro j
  induction j with
  | zero =>
    intro d hd h1 o ho
    have : d = k := by omega
    subst this
    exact h o ho
  | succ j ih =>
    intro d hd h1 o ho
    have hlt : d < L.length := by omega
    have i1 := ih (d + 1) (by omega) (by omega) o (by omega)
    have i2 := ih (d + 1) (by omega) (by omega) d (by omega)
    rw [dO_pos h1] at i2
    rw [show d + 1 - 1 = d by omega, List.getElem?_eq_getElem hlt] at i1 i2
    rw [List.drop_eq_getElem_cons hlt]
    show 1000000 ≤ min (_ + Ff mv hl (some L[d]) (dO L o) (L.drop (d + 1))) (_ + Ff mv hl (some L[d]) L[d - 1]? (L.drop (d + 1)))
    omega
def sRest (c i : Nat) : Bool := c == 20 || (c == 17 && i == 7)
/-- what restOf answers is right -/
def RestOk (M M' : Mem) (L : List Nat) : Prop := ∀ d o, 1 ≤ d → d ≤ L.length → o < d → v_X3_restOf M' (nI d) (nI o) = nE (Ff (mvP M) (hlP M) L[d - 1]? (dO L o) (L.drop d)) ∧ g_X3_restOf M' (nI d) (nI o)
theorem g_rest (hl : L.length ≤ 160) {d o : Nat} (hd : d ≤ L.length) (ho : o < d) : g_X3_restOf M (nI d) (nI o) := by
  intro _
  rw [v_place (by omega)]
  exact ixN (tri_lt (by omega) ho) (by omega)
theorem rest_of (hl : L.length ≤ 160) {k : Nat} (hk : k ≤ L.length) (h7 : gI M 17 7 = nI k) (hst : k = 0 ∨ ∀ o, o < k → 1000000 ≤ Ff (mvP M0) (hlP M0) L[k - 1]? (dO L o) (L.drop k)) (hc : ∀ d o, k < d → d ≤ L.length → o < d → cc M0 M L d o) : RestOk M0 M L := by
  intro d o h1 hd ho
  refine ⟨?_, g_rest hl hd ho⟩
  unfold v_X3_restOf
  rw [h7]
  by_cases c : k < d
  · have := tri_lt (d := d) (o := o) (by omega) ho
    rw [if_pos ((nI_ltI (by omega) (by omega)).mpr c), v_place (by omega), nI_clamp (by omega)]
    exact hc d o c hd ho
  · rw [if_neg (fun z => c ((nI_ltI (by omega) (by omega)).mp z))]
    rcases hst with z | z
    · omega
    · exact (nE_ge (stuck_all hk z (k - d) d (by omega) h1 o ho)).symm
theorem wr_end (h : RowC M L s) (hr : RestOk M0 M L) (K : Q (.returned (some (.int (nE (Ff (mvP M0) (hlP M0) none none L))))) M) : (¬ gI M 17 5 = 0 → g_X3_restOf M 1 0) ∧ Q (.returned (some (.int (if gI M 17 5 = 0 then 0 else v_X3_restOf M 1 0)))) M := by
  have hl := h.2.2.1
  rw [h.1]
  cases L with
  | nil =>
    refine ⟨fun q => absurd rfl q, ?_⟩
    have e : nE (Ff (mvP M0) (hlP M0) none none []) = 0 := nE_0
    rw [e] at K
    rw [if_pos (show nI ([] : List Nat).length = 0 from rfl)]
    exact K
  | cons a t =>
    obtain ⟨r1, r2⟩ := hr 1 0 (by omega) (by simp) (by omega)
    refine ⟨fun _ => r2, ?_⟩
    rw [if_neg (nI_ne0 (by simp) (by omega)), show v_X3_restOf M 1 0 = _ from r1]
    rw [Ff_first] at K
    exact K
theorem lp_wr7 (h : RowC M0 L s) (K : ∀ M', Fr s20 M0 M' → (∀ o, o < L.length → cc M0 M' L L.length o) → Fw l D ad kA mX3_weighRest 42 [some (.ref (ad 17)), some (.int (nI L.length - 1))] [] M' Q) : ∀ (j o : Nat) (M : Mem), o + j = L.length → Fr s20 M0 M → (∀ o', o' < o → cc M0 M L L.length o') →
    Fw l D ad kA mX3_weighRest 7 [some (.ref (ad 17)), some (.int (nI o))] [] M Q := by
  have hl := h.2.2.1
  intro j
  induction j with
  | zero =>
    intro o M ho hf hd
    have e5 : gI M 17 5 = nI L.length := by rw [hf.1 17 5 rfl]; exact h.1
    have : o = L.length := by omega
    subst this
    have hle : gI M 17 5 ≤ nI L.length := by rw [e5, i_le]; exact Int.le_refl _
    refine t_X3_weighRest_7 (fun q => absurd hle q) (fun _ => ?_) (fun q => absurd hle q)
    rw [e5]
    exact K M hf hd
  | succ j ih =>
    intro o M ho hf hd
    have e5 : gI M 17 5 = nI L.length := by rw [hf.1 17 5 rfl]; exact h.1
    have hnle : ¬ gI M 17 5 ≤ nI o := by rw [e5, nI_leI (by omega) (by omega)]; omega
    have ht := tri_lt (d := L.length) (o := o) hl (by omega)
    refine t_X3_weighRest_7 (fun _ => by rw [e5, v_place (by omega)]; exact ixN ht (by omega)) (fun q => absurd q hnle) (fun _ => ?_)
    rw [e5, v_place (by omega), nI_clamp (by omega), nI_1]
    refine ih (o + 1) _ (by omega) (hf.sI rfl) (fun o' ho' => ?_)
    unfold cc
    by_cases e : o' = o
    · rw [e, gI_self, List.drop_of_length_le (Nat.le_refl _)]; exact nE_0.symm
    · rw [gI_oi (by omega)]; exact hd o' (by omega)
theorem lp_wr42 (h : RowC M0 L s) (hsm : SameAll M0 s) (h7 : gI M0 17 7 = 0) (K : ∀ M', Fr sRest M0 M' → RestOk M0 M' L → Q (.returned (some (.int (nE (Ff (mvP M0) (hlP M0) none none L))))) M') : ∀ (d : Nat) (M : Mem), d < L.length → Fr s20 M0 M → (∀ d' o, d < d' → d' ≤ L.length → o < d' → cc M0 M L d' o) →
    Fw l D ad kA mX3_weighRest 42 [some (.ref (ad 17)), some (.int (nI d))] [] M Q := by
  have hl := h.2.2.1
  have mono : ∀ M', Fr s20 M0 M' → Fr sRest M0 M' := fun M' hf => hf.mono (fun c i q => by simp [sRest] at q; simp [s20]; omega)
  intro d
  induction d with
  | zero =>
    intro M hd hf hc
    have hrow := h.fr hf rfl (fun _ => rfl)
    have hle : nI 0 ≤ 0 := by decide
    have hr : RestOk M0 M L := rest_of hl (k := 0) (by omega) (by rw [hf.1 17 7 rfl]; exact h7) (.inl rfl) hc
    obtain ⟨w1, w2⟩ := wr_end hrow hr (K M (mono M hf) hr)
    exact t_X3_weighRest_42 (fun _ => w1) (fun q => absurd hle q) (fun _ => w2) (fun q => absurd hle q) (fun q => absurd hle q)
  | succ d ih =>
    intro M hd hf hc
    have hrow := h.fr hf rfl (fun _ => rfl)
    have hnle : ¬ nI (d + 1) ≤ 0 := nI_nle (by omega) (by omega)
    have e7 : gI M 17 7 = 0 := by rw [hf.1 17 7 rfl]; exact h7
    have e2 : nI (d + 1) + (-1) = nI d := by rw [i_eq, i_add, i_nI, i_nI, nm1] <;> (try rw [i_nI]) <;> (try rw [nm1]) <;> omega
    refine t_X3_weighRest_42 (fun q => absurd q hnle) (fun _ q => absurd e7 q) (fun q => absurd q hnle) (fun _ q => absurd e7 q) (fun _ _ => ?_)
    refine ct_stepBack h hsm hf (d := d + 1) (by omega) hd (fun o ho => hc (d + 1 + 1) o (by omega) (by omega) ho) (fun M1 hf1 hk1 hc1 => ⟨_, rfl, ?_⟩)
    have cell : ∀ d' o, d < d' → d' ≤ L.length → o < d' → cc M0 M1 L d' o := by
      intro d' o a1 a2 a3
      by_cases e : d' = d + 1
      · subst e; exact hc1 o a3
      · have := tri_le (a := d + 1 + 1) (b := d') (by omega)
        unfold cc
        rw [hk1 _ (by omega)]
        exact hc d' o (by omega) a2 a3
    refine t_X3_weighRest_58 (fun _ => ?_) (fun c => ?_)
    · rw [e2]; exact ih M1 (by omega) hf1 cell
    · rw [e2]
      have hst := gsF_0 _ c
      have hr : RestOk M0 (sI M1 17 7 (nI (d + 1))) L := rest_of (M := sI M1 17 7 (nI (d + 1))) hl (k := d + 1) (by omega) rfl (.inr hst) (fun d' o a1 a2 a3 => cell d' o (by omega) a2 a3)
      have hrow1 : RowC (sI M1 17 7 (nI (d + 1))) L s := h.fr ((mono M1 hf1).sI rfl) rfl (fun _ => rfl)
      obtain ⟨w1, w2⟩ := wr_end hrow1 hr (K _ ((mono M1 hf1).sI rfl) hr)
      have n7 : ¬ gI (sI M1 17 7 (nI (d + 1))) 17 7 = 0 := nI_ne0 (n := d + 1) (by omega) (by omega)
      exact t_X3_weighRest_42 (fun _ => w1) (fun _ _ => w1) (fun _ => w2) (fun _ _ => w2) (fun _ q => absurd q n7)
theorem ct_weighRest (h : RowC M L s) (hsm : SameAll M s) (K : ∀ M', Fr sRest M M' → RestOk M M' L → Q (.returned (some (.int (nE (Ff (mvP M) (hlP M) none none L))))) M') : Cal l D ad kA mX3_weighRest [.ref (ad 17)] M Q := by
  have hl := h.2.2.1
  have F0 : Fr sRest M (sI M 17 7 0) := Fr.rf.sI rfl
  obtain ⟨c1, c2⟩ := costs_fr F0 (fun i => ⟨rfl, rfl, rfl, rfl, rfl⟩)
  have h' : RowC (sI M 17 7 0) L s := h.fr F0 rfl (fun _ => rfl)
  have hsm' : SameAll (sI M 17 7 0) s := hsm.fr F0 (fun _ => ⟨⟨rfl, rfl, rfl, rfl, rfl⟩, rfl, rfl, rfl, rfl, rfl⟩)
  have K' : ∀ M', Fr sRest (sI M 17 7 0) M' → RestOk (sI M 17 7 0) M' L → Q (.returned (some (.int (nE (Ff (mvP (sI M 17 7 0)) (hlP (sI M 17 7 0)) none none L))))) M' := by
    intro M' hf hr
    rw [c1, c2]
    refine K M' (F0.tr hf) ?_
    unfold RestOk at hr ⊢
    rw [c1, c2] at hr
    exact hr
  refine en_X3_weighRest (t_X3_weighRest_0 (lp_wr7 h' (fun M1 hf1 hc1 => ?_) L.length 0 (sI M 17 7 0) (by omega) Fr.rf (fun o ho => by omega)))
  have mono : Fr sRest (sI M 17 7 0) M1 := hf1.mono (fun c i q => by simp [sRest] at q; simp [s20]; omega)
  by_cases e : L.length = 0
  · have hrow := h'.fr hf1 rfl (fun _ => rfl)
    have hr : RestOk (sI M 17 7 0) M1 L := fun d o a1 a2 a3 => by omega
    obtain ⟨w1, w2⟩ := wr_end hrow hr (K' M1 mono hr)
    have hle : nI L.length - 1 ≤ 0 := by rw [e]; decide
    exact t_X3_weighRest_42 (fun _ => w1) (fun q => absurd hle q) (fun _ => w2) (fun q => absurd hle q) (fun q => absurd hle q)
  · obtain ⟨k, ek⟩ : ∃ k, L.length = k + 1 := ⟨L.length - 1, by omega⟩
    rw [ek, nI_pred]
    refine lp_wr42 h' hsm' rfl K' k M1 (by omega) hf1 (fun d' o a1 a2 a3 => ?_)
    have : d' = L.length := by omega
    subst this
    exact hc1 o a3
def sGath (c i : Nat) : Bool := c == 19 || (c == 17 && i == 5)
theorem lp_ga7 {z : Int64} (hs : (s : Int) = (gI M0 9 4).toInt) (hsm : SameAll M0 s) (hb : ∀ a, a < s → 0 ≤ (gI M0 57 a).toInt ∧ (gI M0 57 a).toInt ≤ 47)
    (K : ∀ M', Fr sGath M0 M' → RowC M' (ons M0 z s) s → Q (.returned none) M') : ∀ (j i : Nat) (M : Mem), i + j = s → Fr sGath M0 M → gI M 17 5 = nI (ons M0 z i).length → Row M 19 (ons M0 z i) →
    Fw l D ad kA mX3_gather 7 [some (.ref (ad 17)), some (.long z), none, some (.int (nI i))] [] M Q := by
  have hs2 := hsm.1
  intro j
  induction j with
  | zero =>
    intro i M hi hf h1 h2
    have hle : gI M 9 4 ≤ nI i := by rw [hf.1 9 4 rfl, i_le, i_nI (by omega)]; omega
    have : i = s := by omega
    subst this
    have hl := rfl_len (p := fun k => lb z (gI M0 57 k).toNatClampNeg) (i := i)
    exact t_X3_gather_7 (fun q => absurd hle q) (fun q => absurd hle q) (fun _ => K M hf ⟨h1, h2, by unfold ons; omega, fun a ha => ons_lt ha⟩) (fun q => absurd hle q) (fun q => absurd hle q)
  | succ j ih =>
    intro i M hi hf h1 h2
    have hnle : ¬ gI M 9 4 ≤ nI i := by rw [hf.1 9 4 rfl, i_le, i_nI (by omega)]; omega
    have hcl : (nI i).toNatClampNeg = i := nI_clamp (by omega)
    have hlen : (ons M0 z i).length ≤ i := rfl_len
    obtain ⟨b, eb, hb1, -⟩ := i_nat (hb i (by omega)).1
    have hb2 := (hb i (by omega)).2
    have f11 : gI M 11 i = nI b := by rw [hf.1 11 i rfl, (hsm.2.1 i (by omega)).2.1]; exact eb
    have hon : v_X9_isOn M z (nI i) = 0 ↔ lb z (gI M0 57 i).toNatClampNeg = false := by
      unfold v_X9_isOn
      rw [hcl, f11, eb, nI_clamp (by omega), ← on_u (by omega)]
      constructor
      · intro q
        apply Classical.byContradiction
        intro w
        rw [if_neg w] at q
        exact absurd q (by decide)
      · intro q; rw [if_pos q]
    refine t_X3_gather_7 (fun _ => ix (by omega)) (fun _ _ => by rw [h1]; exact ix (by omega)) (fun q => absurd q hnle) (fun _ c => ?_) (fun _ c => ?_)
    · rw [hon] at c
      have e : ons M0 z (i + 1) = ons M0 z i := by
        unfold ons
        rw [List.range_succ, List.filter_append, List.filter_cons_of_neg (by rw [c]; decide), List.filter_nil, List.append_nil]
      rw [nI_1]
      exact ih (i + 1) M (by omega) hf (by rw [e]; exact h1) (by rw [e]; exact h2)
    · rw [hon] at c
      have e : ons M0 z (i + 1) = ons M0 z i ++ [i] := by
        unfold ons
        rw [List.range_succ, List.filter_append, List.filter_cons_of_pos (by simpa using c), List.filter_nil]
      rw [h1, nI_clamp (by omega), nI_1, nI_1]
      refine ih (i + 1) _ (by omega) ((hf.sI rfl).sI rfl) ?_ ?_
      · rw [e, List.length_append]; rfl
      · rw [e]
        refine h2.put (fun k hk => ?_) ?_
        · rw [gI_o (by omega), gI_oi (by omega)]
        · rw [gI_o (by omega), gI_self]
def sTakesC (c i : Nat) : Bool := c == 19 || c == 20 || (c == 17 && (i == 5 || i == 7))
theorem ct_takesOfC {z : Int64} (hs : (s : Int) = (gI M 9 4).toInt) (hsm : SameAll M s) (hb : ∀ a, a < s → 0 ≤ (gI M 57 a).toInt ∧ (gI M 57 a).toInt ≤ 47)
    (K : ∀ M', Fr sTakesC M M' → RowC M' (ons M z s) s → RestOk M M' (ons M z s) → Q (.returned (some (.int (nE (Ff (mvP M) (hlP M) none none (ons M z s)))))) M') : Cal l D ad kA mX3_takesOf [.ref (ad 17), .long z] M Q := by
  refine en_X3_takesOf (t_X3_takesOf_0 (en_X3_gather (t_X3_gather_0 (lp_ga7 (M0 := M) hs hsm hb (fun M1 hf1 ho1 => ⟨rfl, t_X3_takesOf_5 ?_⟩) s 0 (sI M 17 5 0) (by omega) (Fr.rf.sI rfl) rfl (fun i b e => by cases e)))))
  obtain ⟨e1, e2⟩ := costs_fr hf1 (fun i => ⟨rfl, rfl, rfl, rfl, rfl⟩)
  refine ct_weighRest ho1 (hsm.fr hf1 (fun _ => ⟨⟨rfl, rfl, rfl, rfl, rfl⟩, rfl, rfl, rfl, rfl, rfl⟩)) (fun M2 hf2 hr => ⟨_, rfl, t_X3_takesOf_9 ?_⟩)
  rw [e1, e2]
  unfold RestOk at hr
  rw [e1, e2] at hr
  refine K M2 ?_ (ho1.fr hf2 rfl (fun _ => rfl)) hr
  refine Fr.tr (hf1.mono ?_) (hf2.mono ?_)
  · intro c i q; simp [sTakesC] at q; simp [sGath]; omega
  · intro c i q; simp [sTakesC] at q; simp [sRest]; omega
end DeftC2
