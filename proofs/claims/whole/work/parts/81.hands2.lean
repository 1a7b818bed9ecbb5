/-! hands: the class keeps the hands -/
section HandsC
variable {l : Launch} {D : va_G} {ad : Nat → Nat} {kA : Nat → ClassId} {M M0 : Mem} {Q : Outcome → Mem → Prop} {L : List Nat} {s : Nat}
theorem restOf_fr {S : Nat → Nat → Bool} (hf : Fr S M0 M) (h7 : S 17 7 = false) (h20 : ∀ i, S 20 i = false) (x y : Int32) : v_X3_restOf M x y = v_X3_restOf M0 x y := by
  unfold v_X3_restOf
  rw [hf.1 17 7 h7, hf.1 20 _ (h20 _)]
/-- the two hands: the one that did the last, and the other -/
def h0 (h : Nat) (a b : Option Nat) : Option Nat := if h = 0 then a else b
theorem lp_kh33 {T : Nat → Int32} (h : RowC M0 L s) (hsm : SameAll M0 s) (hr : RestOk M0 M0 L)
    (K : ∀ M', Fr sHC M0 M' → (∀ a, gI M' 18 a = T a) → Q (.returned none) M') : ∀ (j d hd o : Nat) (M : Mem), d + j = L.length → 1 ≤ d → hd < 2 → o < d → Fr sHC M0 M → Ff (mvP M0) (hlP M0) L[d - 1]? (dO L o) (L.drop d) < 1000000 → HF (mvP M0) (hlP M0) (h0 hd L[d - 1]? (dO L o)) (h0 hd (dO L o) L[d - 1]?) (L.drop d) (gI M 18) = T →
    Fw l D ad kA mX3_keepHands 33 [some (.ref (ad 17)), some (.int (nI hd)), some (.int (nI o)), some (.int (nI d))] [] M Q := by
  have h3 := h.2.2.1
  have hs160 := hsm.1
  intro j
  induction j with
  | zero =>
    intro d hd o M hj h1 hh hod hf hF hT
    have e5 : gI M 17 5 = nI L.length := by rw [hf.1 17 5 rfl]; exact h.1
    have hle : gI M 17 5 ≤ nI d := by rw [e5, nI_leI (by omega) (by omega)]; omega
    refine t_X3_keepHands_33 (fun q => absurd hle q) (fun q => absurd hle q) (fun q => absurd hle q) (fun _ => K M hf (fun a => ?_)) (fun q => absurd hle q)
    rw [← hT, List.drop_of_length_le (by omega)]
    rfl
  | succ j ih =>
    intro d hd o M hj h1 hh hod hf hF hT
    have hlt : d < L.length := by omega
    have hd1 : d - 1 < L.length := by omega
    have e5 : gI M 17 5 = nI L.length := by rw [hf.1 17 5 rfl]; exact h.1
    have hnle : ¬ gI M 17 5 ≤ nI d := by rw [e5, nI_leI (by omega) (by omega)]; omega
    have hn0 : ¬ nI d ≤ 0 := nI_nle (by omega) (by omega)
    obtain ⟨c1, c2⟩ := costs_fr hf (fun i => ⟨rfl, rfl, rfl, rfl, rfl⟩)
    have hrow := h.fr hf rfl (fun _ => rfl)
    have hsm' := hsm.fr hf (fun _ => ⟨⟨rfl, rfl, rfl, rfl, rfl⟩, rfl, rfl, rfl, rfl, rfl⟩)
    obtain ⟨d1, d2⟩ := v_did hrow (o := o) (by omega)
    obtain ⟨en, ln⟩ := hrow.at hlt
    have p1 : gI M 19 (d - 1) = oC L[d - 1]? := by rw [(hrow.at hd1).1, List.getElem?_eq_getElem hd1]; rfl
    have hpl := inO_pos (s := s) h.2.2.2 (d - 1)
    have hpb := inO_d (s := s) h.2.2.2 o
    have e1 : nI d - 1 = nI (d - 1) := by
      obtain ⟨k, rfl⟩ : ∃ k, d = k + 1 := ⟨d - 1, by omega⟩
      exact nI_pred k
    have hgn : L[d]? = some L[d] := List.getElem?_eq_getElem hlt
    have r1 := (hr d o h1 (by omega) hod).1
    have r2 := (hr (d + 1) o (by omega) (by omega) (by omega)).1
    have r3 := (hr (d + 1) d (by omega) (by omega) (by omega)).1
    rw [show d + 1 - 1 = d by omega, hgn] at r2 r3
    rw [dO_pos h1] at r3
    have rf := restOf_fr hf rfl (fun _ => rfl)
    have gs : g_X3_swapsFor M (nI hd) (nI d) (nI o) := by
      unfold g_X3_swapsFor
      rw [e1, nI_clamp (by omega), nI_clamp (by omega), p1, en, d1, nI_1]
      exact ⟨ix (by omega), ix (by omega), d2, g_rest h3 (by omega) hod, fun _ => g_step hs160 hpb hpl ln, fun _ => g_rest h3 (by omega) (by omega), fun _ => g_step hs160 hpl hpb ln, fun _ => g_rest h3 (by omega) (by omega)⟩
    rw [List.drop_eq_getElem_cons hlt] at hF hT r1
    have hbd := Ff_b (hl := hlP M0) (okP M0) (L.drop (d + 1)) (some L[d]) L[d - 1]?
    have hbd2 := Ff_b (hl := hlP M0) (okP M0) (L.drop (d + 1)) (some L[d]) (dO L o)
    have hlen : (L.drop (d + 1)).length ≤ 160 := by rw [List.length_drop]; omega
    have m1 := cs_rng (hl := hlP M0) (okP M0) L[d - 1]? (dO L o) L[d]
    have m2 := cs_rng (hl := hlP M0) (okP M0) (dO L o) L[d - 1]? L[d]
    have hFe : Ff (mvP M0) (hlP M0) L[d - 1]? (dO L o) (L[d] :: L.drop (d + 1)) = min (cs (mvP M0) (hlP M0) L[d - 1]? (dO L o) L[d] + Ff (mvP M0) (hlP M0) (some L[d]) (dO L o) (L.drop (d + 1))) (cs (mvP M0) (hlP M0) (dO L o) L[d - 1]? L[d] + Ff (mvP M0) (hlP M0) (some L[d]) L[d - 1]? (L.drop (d + 1))) := rfl
    have k1 := nE_eq m1 (f := Ff (mvP M0) (hlP M0) (some L[d]) (dO L o) (L.drop (d + 1))) (by omega) hF
    have k2 := nE_eq m2 (f := Ff (mvP M0) (hlP M0) (some L[d]) L[d - 1]? (L.drop (d + 1))) (by omega) hF
    have e10 : (1 : Int32) - nI hd = nI (1 - hd) := by
      rcases (show hd = 0 ∨ hd = 1 by omega) with z | z <;> subst z <;> decide
    refine t_X3_keepHands_33 (fun _ _ => gs) (fun _ => ix (by omega)) (fun _ => by rw [nI_clamp (by omega), en]; exact ix (by omega)) (fun q => absurd q hnle) (fun _ => ?_)
    rw [if_neg hn0, if_neg hn0, nI_clamp (by omega), en, nI_clamp (by omega), nI_1, e10]
    have sv : v_X3_swapsFor M (nI hd) (nI d) (nI o) = if hd = 0 then (if cs (mvP M0) (hlP M0) L[d - 1]? (dO L o) L[d] + Ff (mvP M0) (hlP M0) (some L[d]) (dO L o) (L.drop (d + 1)) = Ff (mvP M0) (hlP M0) L[d - 1]? (dO L o) (L[d] :: L.drop (d + 1)) then 0 else 1) else (if cs (mvP M0) (hlP M0) (dO L o) L[d - 1]? L[d] + Ff (mvP M0) (hlP M0) (some L[d]) L[d - 1]? (L.drop (d + 1)) = Ff (mvP M0) (hlP M0) L[d - 1]? (dO L o) (L[d] :: L.drop (d + 1)) then 1 else 0) := by
      unfold v_X3_swapsFor
      rw [e1, nI_clamp (by omega), nI_clamp (by omega), p1, en, d1, nI_1, v_step hsm' hpl hpb ln, v_step hsm' hpb hpl ln, rf, rf, rf, r1, r2, r3, c1, c2]
      simp only [k1, k2]
      rcases (show hd = 0 ∨ hd = 1 by omega) with z | z
      · rw [if_pos z, if_pos (by rw [z]; rfl)]
      · rw [if_neg (show ¬ hd = 0 by omega), if_neg (by rw [z]; decide)]
    rw [sv]
    rcases (show hd = 0 ∨ hd = 1 by omega) with z | z
    · subst z
      rw [if_pos rfl]
      unfold HF at hT
      by_cases c : cs (mvP M0) (hlP M0) L[d - 1]? (dO L o) L[d] + Ff (mvP M0) (hlP M0) (some L[d]) (dO L o) (L.drop (d + 1)) = Ff (mvP M0) (hlP M0) L[d - 1]? (dO L o) (L[d] :: L.drop (d + 1))
      · rw [show h0 0 L[d - 1]? (dO L o) = L[d - 1]? from rfl, show h0 0 (dO L o) L[d - 1]? = dO L o from rfl, if_pos c] at hT
        rw [if_pos c, if_pos rfl, if_pos rfl]
        refine ih (d + 1) 0 o _ (by omega) (by omega) (by omega) (by omega) (hf.sI rfl) ?_ ?_
        · rw [show d + 1 - 1 = d by omega, hgn]; omega
        · rw [show d + 1 - 1 = d by omega, hgn, gI_upd, ← hT]; rfl
      · rw [show h0 0 L[d - 1]? (dO L o) = L[d - 1]? from rfl, show h0 0 (dO L o) L[d - 1]? = dO L o from rfl, if_neg c] at hT
        rw [if_neg c, if_neg (by decide), if_neg (by decide)]
        refine ih (d + 1) 1 d _ (by omega) (by omega) (by omega) (by omega) (hf.sI rfl) ?_ ?_
        · rw [show d + 1 - 1 = d by omega, hgn, dO_pos h1]; omega
        · rw [show d + 1 - 1 = d by omega, hgn, dO_pos h1, gI_upd, ← hT]; rfl
    · subst z
      rw [if_neg (show ¬ (1 : Nat) = 0 by omega)]
      unfold HF at hT
      rw [show h0 1 L[d - 1]? (dO L o) = dO L o from rfl, show h0 1 (dO L o) L[d - 1]? = L[d - 1]? from rfl, Ff_sym (L[d] :: L.drop (d + 1)) (dO L o)] at hT
      by_cases c : cs (mvP M0) (hlP M0) (dO L o) L[d - 1]? L[d] + Ff (mvP M0) (hlP M0) (some L[d]) L[d - 1]? (L.drop (d + 1)) = Ff (mvP M0) (hlP M0) L[d - 1]? (dO L o) (L[d] :: L.drop (d + 1))
      · rw [if_pos c] at hT
        rw [if_pos c, if_neg (by decide), if_neg (by decide)]
        refine ih (d + 1) 0 d _ (by omega) (by omega) (by omega) (by omega) (hf.sI rfl) ?_ ?_
        · rw [show d + 1 - 1 = d by omega, hgn, dO_pos h1]; omega
        · rw [show d + 1 - 1 = d by omega, hgn, dO_pos h1, gI_upd, ← hT]; rfl
      · rw [if_neg c] at hT
        rw [if_neg c, if_pos rfl, if_pos rfl]
        refine ih (d + 1) 1 o _ (by omega) (by omega) (by omega) (by omega) (hf.sI rfl) ?_ ?_
        · rw [show d + 1 - 1 = d by omega, hgn]; omega
        · rw [show d + 1 - 1 = d by omega, hgn, gI_upd, ← hT]; rfl
theorem lp_kh2 (K : ∀ M', Fr sHC M0 M' → (∀ a, a < 160 → gI M' 18 a = (-1)) → Fw l D ad kA mX3_keepHands 33 [some (.ref (ad 17)), some (.int 0), some (.int 0), some (.int 0)] [] (sI M' 17 3 1) Q) : ∀ (j i : Nat) (M : Mem), i + j = 160 → Fr sHC M0 M → (∀ a, a < i → gI M 18 a = (-1)) →
    Fw l D ad kA mX3_keepHands 2 [some (.ref (ad 17)), some (.int (nI i)), none, none] [] M Q := by
  intro j
  induction j with
  | zero =>
    intro i M hi hf ha
    have hle : 160 ≤ nI i := by rw [n160, nI_leI (by omega) (by omega)]; omega
    exact t_X3_keepHands_2 (fun q => absurd hle q) (fun _ => K M hf (fun a h => ha a (by omega))) (fun q => absurd hle q)
  | succ j ih =>
    intro i M hi hf ha
    have hnle : ¬ 160 ≤ nI i := by rw [n160, nI_leI (by omega) (by omega)]; omega
    refine t_X3_keepHands_2 (fun _ => ix (by omega)) (fun q => absurd q hnle) (fun _ => ?_)
    rw [nI_clamp (by omega), nI_1]
    refine ih (i + 1) _ (by omega) (hf.sI rfl) (fun a h => ?_)
    by_cases e : a = i
    · rw [e, gI_self]
    · rw [gI_oi e]; exact ha a (by omega)
def sKeep (c i : Nat) : Bool := c == 18 || (c == 17 && i == 3)
theorem ct_keepHands (h : RowC M L s) (hsm : SameAll M s) (hr : RestOk M M L) (hF : Ff (mvP M) (hlP M) none none L < 1000000)
    (K : ∀ M', Fr sKeep M M' → gI M' 17 3 = 1 → (∃ f : Nat → Int32, (∀ a, a < 160 → f a = (-1)) ∧ ∀ a, gI M' 18 a = HF (mvP M) (hlP M) none none L f a) → Q (.returned none) M') : Cal l D ad kA mX3_keepHands [.ref (ad 17)] M Q := by
  have h3 := h.2.2.1
  refine en_X3_keepHands (t_X3_keepHands_0 (lp_kh2 (M0 := M) (fun M1 hf1 ha1 => ?_) 160 0 M (by omega) Fr.rf (fun a ha => by omega)))
  generalize hM2 : sI M1 17 3 1 = M2
  have hf2 : Fr sKeep M M2 := by
    rw [← hM2]
    exact (hf1.mono (fun c i q => by simp [sKeep] at q; simp [sHC]; omega)).sI rfl
  have g3 : gI M2 17 3 = 1 := by rw [← hM2]; rfl
  have g18 : ∀ a, a < 160 → gI M2 18 a = (-1) := fun a ha => by rw [← hM2]; exact ha1 a ha
  obtain ⟨c1, c2⟩ := costs_fr hf2 (fun i => ⟨rfl, rfl, rfl, rfl, rfl⟩)
  have hrow := h.fr hf2 rfl (fun _ => rfl)
  have hsm' := hsm.fr hf2 (fun _ => ⟨⟨rfl, rfl, rfl, rfl, rfl⟩, rfl, rfl, rfl, rfl, rfl⟩)
  have hr' : RestOk M2 M2 L := by
    intro d o a1 a2 a3
    rw [restOf_fr hf2 rfl (fun _ => rfl), c1, c2]
    exact ⟨(hr d o a1 a2 a3).1, g_rest h3 a2 a3⟩
  have KK : ∀ M', Fr sHC M2 M' → (∀ a, gI M' 18 a = HF (mvP M2) (hlP M2) none none L (gI M2 18) a) → Q (.returned none) M' := by
    intro M' hf' ht
    rw [c1, c2] at ht
    refine K M' (hf2.tr (hf'.mono (fun c i q => by simp [sKeep] at q; simp [sHC]; omega))) ?_ ⟨gI M2 18, g18, ht⟩
    rw [hf'.1 17 3 rfl]; exact g3
  cases hL : L with
  | nil =>
    subst hL
    have e5 : gI M2 17 5 = nI 0 := hrow.1
    have hle : gI M2 17 5 ≤ 0 := by rw [e5]; decide
    exact t_X3_keepHands_33 (fun q => absurd hle q) (fun q => absurd hle q) (fun q => absurd hle q) (fun _ => KK M2 Fr.rf (fun a => rfl)) (fun q => absurd hle q)
  | cons n t =>
    subst hL
    have hlt : 0 < (n :: t).length := by simp
    have e5 : gI M2 17 5 = nI (n :: t).length := hrow.1
    have hnle : ¬ gI M2 17 5 ≤ 0 := by rw [e5]; exact nI_nle hlt (by omega)
    have en := (hrow.at hlt).1
    have ln : n < s := (hrow.at hlt).2
    have hs160 := hsm.1
    have i0 : (0 : Int32).toNatClampNeg = 0 := rfl
    refine t_X3_keepHands_33 (fun _ q => absurd (by decide) q) (fun _ => show vp_in (nI 0) 160 from ix (by omega)) (fun _ => by rw [i0, en]; exact ix (by show n < 160; omega)) (fun q => absurd q hnle) (fun _ => ?_)
    rw [if_pos (by decide), if_pos (by decide), i0, en]
    show Fw l D ad kA mX3_keepHands 33 [some (.ref (ad 17)), some (.int (nI 0)), some (.int (nI 0)), some (.int (nI 1))] [] (sI M2 18 (nI n).toNatClampNeg 0) Q
    rw [nI_clamp (by omega)]
    have c0 : cs (mvP M2) (hlP M2) none none n + Ff (mvP M2) (hlP M2) (some n) none t = Ff (mvP M2) (hlP M2) none none (n :: t) := by
      rw [Ff_first]; exact Nat.zero_add _
    have F2 : Fr sHC M2 (sI M2 18 n 0) := Fr.rf.sI rfl
    refine lp_kh33 (M0 := M2) hrow hsm' hr' KK t.length 1 0 0 (sI M2 18 n 0) (by simp; omega) (by omega) (by omega) (by omega) F2 ?_ ?_
    · rw [c1, c2]
      rw [Ff_first] at hF
      exact hF
    · have : HF (mvP M2) (hlP M2) none none (n :: t) (gI M2 18) = HF (mvP M2) (hlP M2) (some n) none t (updF (gI M2 18) n 0) := by
        show (if _ then _ else _) = _
        rw [if_pos c0]
      rw [this, gI_upd]
      rfl
end HandsC
