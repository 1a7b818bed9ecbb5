/-! hands: which hand takes which STROKE -/
def updF (f : Nat → Int32) (n : Nat) (v : Int32) : Nat → Int32 := fun a => if a = n then v else f a
theorem gI_upd {M : Mem} {c i : Nat} {v : Int32} : gI (sI M c i v) c = updF (gI M c) i v := by
  funext a
  unfold updF
  by_cases e : a = i
  · rw [e, gI_self, if_pos rfl]
  · rw [gI_oi e, if_neg e]
def HF (mv : Nat → Nat → Nat) (hl : Nat → Nat → Bool) : Option Nat → Option Nat → List Nat → (Nat → Int32) → Nat → Int32
  | _, _, [], f => f
  | p0, p1, n :: t, f => if cs mv hl p0 p1 n + Ff mv hl (some n) p1 t = Ff mv hl p0 p1 (n :: t) then HF mv hl (some n) p1 t (updF f n 0) else HF mv hl p0 (some n) t (updF f n 1)
theorem HF_congr {mv : Nat → Nat → Nat} {hl : Nat → Nat → Bool} {a : Nat} : ∀ (L : List Nat) (p q : Option Nat) (f g : Nat → Int32), f a = g a → HF mv hl p q L f a = HF mv hl p q L g a := by
  intro L
  induction L with
  | nil => intro p q f g h; exact h
  | cons n t ih =>
    intro p q f g h
    unfold HF
    split
    · exact ih _ _ _ _ (by unfold updF; rw [h])
    · exact ih _ _ _ _ (by unfold updF; rw [h])
theorem nE_eq {c f F : Nat} (r : c = 0 ∨ c = 1 ∨ c = 1000000) (z : f ≤ 160 ∨ 1000000 ≤ f) (w : F < 1000000) : nE c + nE f = nE F ↔ c + f = F := by
  rw [i_eq, nE_add, nE_toInt, nE_toInt, nE_toInt, if_pos w]
  constructor
  · intro h
    split at h <;> split at h <;> omega
  · intro h
    rw [if_pos (by omega), if_pos (by omega)]
    omega
def sHM (c i : Nat) : Bool := c == 71 || c == 72
def sHC (c i : Nat) : Bool := c == 18
section HandsP
variable {l : Launch} {D : va_G} {ad : Nat → Nat} {kA : Nat → ClassId} {M M0 : Mem} {Q : Outcome → Mem → Prop} {L : List Nat} {s : Nat}
theorem lp_hm82 {r : Int32} {T : Nat → Int32} (h : OwnM M0 L s) (hb : ∀ a, a < s → 0 ≤ (gI M0 57 a).toInt) (hc : allCk M0 M0 L)
    (K : ∀ M', Fr sHM M0 M' → (∀ a, gI M' 71 a = T a) → Q (.returned (some (.int r))) (sI M' 54 32 1)) : ∀ (j n l0 l1 : Nat) (M : Mem), n + j = L.length → Fr sHM M0 M → gI M 72 0 = nI l0 → gI M 72 1 = nI l1 → (l0 < n ∨ l0 = 160) → (l1 < n ∨ l1 = 160) → Ff (mvP M0) (hlP M0) L[l0]? L[l1]? (L.drop n) < 1000000 → HF (mvP M0) (hlP M0) L[l0]? L[l1]? (L.drop n) (gI M 71) = T →
    Fw l D ad kA mX13_hands 82 [some (.ref (ad 54)), none, none, some (.int r), some (.int (nI n)), some (.int (nI (Ff (mvP M0) (hlP M0) L[l0]? L[l1]? (L.drop n)))), none] [] M Q := by
  have h4 := h.2.2.1
  have h5 := h.2.2.2.1
  intro j
  induction j with
  | zero =>
    intro n l0 l1 M hn hf g0 g1 b0 b1 hF hT
    have e31 : gI M 54 31 = nI L.length := by rw [hf.1 54 31 rfl]; exact h.1
    have hle : gI M 54 31 ≤ nI n := by rw [e31, nI_leI (by omega) (by omega)]; omega
    refine t_X13_hands_82 (fun q => absurd hle q) (fun _ => ?_) (fun q => absurd hle q)
    refine K M hf (fun a => ?_)
    rw [← hT, List.drop_of_length_le (by omega)]
    rfl
  | succ j ih =>
    intro n l0 l1 M hn hf g0 g1 b0 b1 hF hT
    have hlt : n < L.length := by omega
    have e31 : gI M 54 31 = nI L.length := by rw [hf.1 54 31 rfl]; exact h.1
    have hnle : ¬ gI M 54 31 ≤ nI n := by rw [e31, nI_leI (by omega) (by omega)]; omega
    obtain ⟨c1, c2⟩ := costs_fr hf (fun i => ⟨rfl, rfl, rfl, rfl, rfl⟩)
    have hown := h.fr hf rfl (fun _ => rfl)
    have hb' : ∀ a, a < s → 0 ≤ (gI M 57 a).toInt := fun a ha => by rw [hf.1 57 a rfl]; exact hb a ha
    have p0 : posOk L l0 := by rcases b0 with z | z; exact .inr (by omega); exact .inl z
    have p1 : posOk L l1 := by rcases b1 with z | z; exact .inr (by omega); exact .inl z
    have hck : ck M M L (n + 1) 0 l1 := by
      have := hc (n + 1) 0 l1 (by omega) (by omega) (by omega) (by omega)
      unfold ck at this ⊢
      rw [c1, c2, hf.1 70 _ rfl]; exact this
    obtain ⟨t1, t2⟩ := v_takesBy hown hb' hlt (hd := 0) (by omega) p0 p1 hck
    have i0 : (0 : Int32).toNatClampNeg = 0 := rfl
    have i1 : (1 : Int32).toNatClampNeg = 1 := rfl
    obtain ⟨eo, lo⟩ := hown.at hlt
    rw [List.drop_eq_getElem_cons hlt] at hF hT ⊢
    have hbd := Ff_b (hl := hlP M0) (okP M0) (L.drop (n + 1)) (some L[n]) L[l1]?
    have hbd2 := Ff_b (hl := hlP M0) (okP M0) (L.drop (n + 1)) (some L[n]) L[l0]?
    have hlen : (L.drop (n + 1)).length ≤ 160 := by rw [List.length_drop]; omega
    have m0 := mo_rng (okP M0) L[l0]? L[n]
    have m1 := mo_rng (okP M0) L[l1]? L[n]
    have hFe : Ff (mvP M0) (hlP M0) L[l0]? L[l1]? (L[n] :: L.drop (n + 1)) = min (cs (mvP M0) (hlP M0) L[l0]? L[l1]? L[n] + Ff (mvP M0) (hlP M0) (some L[n]) L[l1]? (L.drop (n + 1))) (cs (mvP M0) (hlP M0) L[l1]? L[l0]? L[n] + Ff (mvP M0) (hlP M0) (some L[n]) L[l0]? (L.drop (n + 1))) := rfl
    have etb : tb M L n l0 l1 = if ho (hlP M0) L[l1]? L[n] = true then 1000000 else if mo (mvP M0) L[l0]? L[n] < 1000000 then mo (mvP M0) L[l0]? L[n] + min 1000000 (Ff (mvP M0) (hlP M0) (some L[n]) L[l1]? (L.drop (n + 1))) else 1000000 := by
      unfold tb
      rw [dif_pos hlt, c1, c2, List.getElem?_eq_getElem hlt]
    have hiff : v_X13_takesBy M (nI n) (nI 0) (nI l0) (nI l1) = nI (Ff (mvP M0) (hlP M0) L[l0]? L[l1]? (L[n] :: L.drop (n + 1))) ↔ cs (mvP M0) (hlP M0) L[l0]? L[l1]? L[n] + Ff (mvP M0) (hlP M0) (some L[n]) L[l1]? (L.drop (n + 1)) = Ff (mvP M0) (hlP M0) L[l0]? L[l1]? (L[n] :: L.drop (n + 1)) := by
      have := tb_le (M := M) (L := L) n l0 l1
      rw [t1, nI_eq (by omega) (by omega), etb]
      unfold cs
      split
      · omega
      · split <;> omega
    refine t_X13_hands_82 (fun _ => by rw [i0, i1, g0, g1]; exact t2) (fun q => absurd q hnle) (fun _ => ?_)
    rw [i0, i1, g0, g1]
    unfold HF at hT
    by_cases c : cs (mvP M0) (hlP M0) L[l0]? L[l1]? L[n] + Ff (mvP M0) (hlP M0) (some L[n]) L[l1]? (L.drop (n + 1)) = Ff (mvP M0) (hlP M0) L[l0]? L[l1]? (L[n] :: L.drop (n + 1))
    · rw [if_pos c] at hT
      rw [show v_X13_takesBy M (nI n) 0 (nI l0) (nI l1) = nI (Ff (mvP M0) (hlP M0) L[l0]? L[l1]? (L[n] :: L.drop (n + 1))) from hiff.mpr c, if_pos rfl]
      refine t_X13_hands_122 (show vp_in (nI 0) 2 from ixN (by omega) (by omega)) (by rw [i0, g0]; exact g_go hown p0 hlt) (ix (by omega)) (by rw [nI_clamp (by omega), eo]; exact ix (by omega)) ?_
      rw [i0, g0, v_go hown p0 hlt, nI_clamp (by omega), eo, nI_clamp (by omega), c1, nI_1]
      have hcs : cs (mvP M0) (hlP M0) L[l0]? L[l1]? L[n] = mo (mvP M0) L[l0]? L[n] := by
        unfold cs at c ⊢
        split at c
        · omega
        · rename_i w; rw [if_neg w]
      have ef : nI (Ff (mvP M0) (hlP M0) L[l0]? L[l1]? (L[n] :: L.drop (n + 1))) - nI (mo (mvP M0) L[l0]? L[n]) = nI (Ff (mvP M0) (hlP M0) (some L[n]) L[l1]? (L.drop (n + 1))) := by
        rw [i_eq, nI_sub (by omega) (by omega), i_nI (by omega)]; omega
      rw [ef]
      have hgn : L[n]? = some L[n] := List.getElem?_eq_getElem hlt
      have := ih (n + 1) n l1 (sI (sI M 72 0 (nI n)) 71 L[n] 0) (by omega) ((hf.sI rfl).sI rfl) rfl (by show gI M 72 1 = _; exact g1) (by omega) (by omega) (by rw [hgn]; omega) (by
        rw [hgn, gI_upd, ← hT]
        rfl)
      rw [hgn] at this
      exact this
    · rw [if_neg c] at hT
      rw [if_neg (show ¬ v_X13_takesBy M (nI n) 0 (nI l0) (nI l1) = nI (Ff (mvP M0) (hlP M0) L[l0]? L[l1]? (L[n] :: L.drop (n + 1))) from fun z => c (hiff.mp z))]
      refine t_X13_hands_122 (show vp_in (nI 1) 2 from ixN (by omega) (by omega)) (by rw [i1, g1]; exact g_go hown p1 hlt) (ix (by omega)) (by rw [nI_clamp (by omega), eo]; exact ix (by omega)) ?_
      rw [i1, g1, v_go hown p1 hlt, nI_clamp (by omega), eo, nI_clamp (by omega), c1, nI_1]
      have c' : cs (mvP M0) (hlP M0) L[l1]? L[l0]? L[n] + Ff (mvP M0) (hlP M0) (some L[n]) L[l0]? (L.drop (n + 1)) = Ff (mvP M0) (hlP M0) L[l0]? L[l1]? (L[n] :: L.drop (n + 1)) := by omega
      have hcs : cs (mvP M0) (hlP M0) L[l1]? L[l0]? L[n] = mo (mvP M0) L[l1]? L[n] := by
        unfold cs at c' ⊢
        split at c'
        · omega
        · rename_i w; rw [if_neg w]
      have ef : nI (Ff (mvP M0) (hlP M0) L[l0]? L[l1]? (L[n] :: L.drop (n + 1))) - nI (mo (mvP M0) L[l1]? L[n]) = nI (Ff (mvP M0) (hlP M0) L[l0]? (some L[n]) (L.drop (n + 1))) := by
        rw [Ff_sym (L.drop (n + 1)) L[l0]?, i_eq, nI_sub (by omega) (by omega), i_nI (by omega)]; omega
      rw [ef]
      have hgn : L[n]? = some L[n] := List.getElem?_eq_getElem hlt
      have := ih (n + 1) l0 n (sI (sI M 72 1 (nI n)) 71 L[n] 1) (by omega) ((hf.sI rfl).sI rfl) (by show gI M 72 0 = _; exact g0) rfl (by omega) (by omega) (by rw [hgn, Ff_sym]; omega) (by
        rw [hgn, gI_upd, ← hT]
        rfl)
      rw [hgn] at this
      exact this
end HandsP
