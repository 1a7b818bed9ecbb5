/-! HANDS in the class: places, prices, a step back -/
def tri : Nat → Nat
  | 0 => 0
  | n + 1 => tri n + n
theorem tri_le {a b : Nat} (h : a ≤ b) : tri a ≤ tri b := by
  induction b with
  | zero => rw [show a = 0 by omega]; exact Nat.le_refl _
  | succ b ih =>
    by_cases e : a = b + 1
    · rw [e]; exact Nat.le_refl _
    · have := ih (by omega)
      show tri a ≤ tri b + b
      omega
theorem tri_161 : tri 161 = 12880 := by decide +kernel
theorem tri_lt {d o : Nat} (hd : d ≤ 160) (ho : o < d) : tri d + o < 12880 := by
  have := tri_le (a := d + 1) (b := 161) (by omega)
  rw [tri_161] at this
  have e : tri (d + 1) = tri d + d := rfl
  omega
theorem tri_2 : ∀ k, (k + 1) * k = 2 * tri (k + 1) := by
  intro k
  induction k with
  | zero => rfl
  | succ k ih =>
    show (k + 1 + 1) * (k + 1) = 2 * (tri (k + 1) + (k + 1))
    rw [Nat.mul_comm (k + 1 + 1), show k + 1 + 1 = k + 2 from rfl, Nat.mul_add (k + 1) k 2, ih]
    omega
theorem nI_half {t : Nat} (h : t < 1000000) : nI (2 * t) / 2 = nI t := by
  rw [i_eq, Int32.toInt_div, i_nI (by omega), i_nI (by omega), show (2 : Int32).toInt = 2 by decide]
  rw [show ((2 * t : Nat) : Int) = 2 * (t : Int) by omega, Int.mul_tdiv_cancel_left _ (by omega)]
  exact Int.bmod_eq_of_le (by omega) (by omega)
theorem v_place {d o : Nat} (hd : d ≤ 161) : v_X3_place (nI d) (nI o) = nI (tri d + o) := by
  unfold v_X3_place
  cases d with
  | zero =>
    rw [show (nI 0 * (nI 0 - 1)) / 2 = nI 0 by decide, nI_add]
    rfl
  | succ k =>
    have := tri_le (a := k + 1) (b := 161) (by omega)
    rw [tri_161] at this
    rw [nI_pred, nI_mul, tri_2, nI_half (by omega), nI_add]
def dO (L : List Nat) : Nat → Option Nat
  | 0 => none
  | i + 1 => L[i]?
/-- the class's row of STROKES in question -/
def RowC (M : Mem) (L : List Nat) (s : Nat) : Prop := gI M 17 5 = nI L.length ∧ Row M 19 L ∧ L.length ≤ 160 ∧ ∀ a ∈ L, a < s
theorem RowC.at {M : Mem} {L : List Nat} {s : Nat} (h : RowC M L s) {i : Nat} (hi : i < L.length) : gI M 19 i = nI L[i] ∧ L[i] < s := ⟨h.2.1.at hi, h.2.2.2 _ (List.getElem_mem hi)⟩
theorem inO_d {L : List Nat} {s : Nat} (h : ∀ a ∈ L, a < s) (o : Nat) : inO s (dO L o) := by
  cases o with
  | zero => exact trivial
  | succ i => exact inO_pos h i
theorem v_did {M : Mem} {L : List Nat} {s : Nat} (h : RowC M L s) {o : Nat} (ho : o ≤ L.length) : v_X3_did M (nI o) = oC (dO L o) ∧ g_X3_did M (nI o) := by
  have h3 := h.2.2.1
  unfold v_X3_did g_X3_did
  cases o with
  | zero => exact ⟨if_neg (by decide), fun q => absurd q (by decide)⟩
  | succ i =>
    have c : nI 0 < nI (i + 1) := nI_lt (by omega) (by omega)
    have c : 0 < nI (i + 1) := c
    rw [if_pos c, nI_pred, nI_clamp (by omega), (h.at (i := i) (by omega)).1]
    refine ⟨?_, fun _ => ix (by omega)⟩
    show nI L[i] = oC L[i]?
    rw [List.getElem?_eq_getElem (by omega)]
    rfl
theorem nE_0 : nE 0 = 0 := by decide
theorem nE_B : nE 1000000 = 16777216 := by decide
theorem nE_rng (x : Nat) : 0 ≤ (nE x).toInt ∧ (nE x).toInt ≤ 16777216 := by
  rw [nE_toInt]; split <;> omega
theorem nE_add (x y : Nat) : (nE x + nE y).toInt = (nE x).toInt + (nE y).toInt := by
  have := nE_rng x
  have := nE_rng y
  rw [i_add] <;> omega
theorem st_stay (b : Bool) (m f : Nat) : (if (if b = true then (1 : Int32) else 0) = 0 then nE m + nE f else 16777216).toInt = if b = true then 16777216 else (nE m).toInt + (nE f).toInt := by
  cases b with
  | true => exact nNEV
  | false => exact nE_add m f
theorem st_swap (b : Bool) (m f : Nat) : (if (if (if b = true then (1 : Int32) else 0) = 0 then nE f else 16777216) < 16777216 then (if (if b = true then (1 : Int32) else 0) = 0 then nE f else 16777216) + nE m else 16777216).toInt = if b = true then 16777216 else if f < 1000000 then (nE f).toInt + (nE m).toInt else 16777216 := by
  cases b with
  | true =>
    have e : (if (if true = true then (1 : Int32) else 0) = 0 then nE f else 16777216) = 16777216 := if_neg (by decide)
    rw [e, if_neg (by rw [i_lt]; omega), if_pos rfl]
    exact nNEV
  | false =>
    show (if nE f < 16777216 then nE f + nE m else 16777216).toInt = if f < 1000000 then _ else _
    by_cases c : f < 1000000
    · rw [if_pos c, if_pos (by rw [i_lt, nNEV, nE_toInt, if_pos c]; omega)]
      exact nE_add f m
    · rw [if_neg c, if_neg (by rw [i_lt, nNEV, nE_toInt, if_neg c]; omega)]
      exact nNEV
theorem st_val {b1 b2 : Bool} {m1 m2 f1 f2 : Nat} (r1 : m1 = 0 ∨ m1 = 1 ∨ m1 = 1000000) (r2 : m2 = 0 ∨ m2 = 1 ∨ m2 = 1000000) (z1 : f1 ≤ 160 ∨ 1000000 ≤ f1) (z2 : f2 ≤ 160 ∨ 1000000 ≤ f2) :
    imin 16777216 (imin (if (if b1 = true then (1 : Int32) else 0) = 0 then nE m1 + nE f1 else 16777216) (if (if (if b2 = true then (1 : Int32) else 0) = 0 then nE f2 else 16777216) < 16777216 then (if (if b2 = true then (1 : Int32) else 0) = 0 then nE f2 else 16777216) + nE m2 else 16777216)) = nE (min ((if b1 = true then 1000000 else m1) + f1) ((if b2 = true then 1000000 else m2) + f2)) := by
  rw [i_eq, i_min, i_min, st_stay, st_swap, nE_toInt, nE_toInt, nE_toInt, nE_toInt, nE_toInt, nNEV]
  cases b1 <;> cases b2 <;> simp only [if_true, Bool.false_eq_true, if_false] <;> (repeat' split) <;> omega
/-- whether one of the first few is no NEVER -/
def gsF (f : Nat → Nat) : Nat → Int32
  | 0 => 0
  | o + 1 => if gsF f o = 0 then (if 16777216 ≤ nE (f o) then 0 else 1) else 1
theorem gsF_01 (f : Nat → Nat) : ∀ o, gsF f o = 0 ∨ gsF f o = 1 := by
  intro o
  cases o with
  | zero => exact .inl rfl
  | succ o =>
    unfold gsF
    split
    · split
      · exact .inl rfl
      · exact .inr rfl
    · exact .inr rfl
theorem gsF_0 {f : Nat → Nat} : ∀ o, gsF f o = 0 → ∀ o', o' < o → 1000000 ≤ f o' := by
  intro o
  induction o with
  | zero => intro _ o' h; omega
  | succ o ih =>
    intro h o' ho'
    have h : (if gsF f o = 0 then (if 16777216 ≤ nE (f o) then (0 : Int32) else 1) else 1) = 0 := h
    by_cases c : gsF f o = 0
    · rw [if_pos c] at h
      by_cases c2 : 16777216 ≤ nE (f o)
      · by_cases e : o' = o
        · rw [i_le, nNEV, nE_toInt] at c2
          split at c2
          · omega
          · subst e; omega
        · exact ih c o' (by omega)
      · rw [if_neg c2] at h; exact absurd h (by decide)
    · rw [if_neg c] at h; exact absurd h (by decide)
/-- a cell of the class's table is right -/
def cc (M M' : Mem) (L : List Nat) (d o : Nat) : Prop := gI M' 20 (tri d + o) = nE (Ff (mvP M) (hlP M) L[d - 1]? (dO L o) (L.drop d))
def s20 (c i : Nat) : Bool := c == 20
section DeftC
variable {l : Launch} {D : va_G} {ad : Nat → Nat} {kA : Nat → ClassId} {M M0 : Mem} {Q : Outcome → Mem → Prop} {L : List Nat} {s : Nat}
theorem RowC.fr {S : Nat → Nat → Bool} (h : RowC M0 L s) (hf : Fr S M0 M) (h1 : S 17 5 = false) (h2 : ∀ i, S 19 i = false) : RowC M L s :=
  ⟨by rw [hf.1 17 5 h1]; exact h.1, h.2.1.fr (fun i _ => hf.1 19 i (h2 i)), h.2.2⟩
theorem SameAll.fr {S : Nat → Nat → Bool} (h : SameAll M0 s) (hf : Fr S M0 M) (hS : ∀ i, (S 10 i = false ∧ S 11 i = false ∧ S 12 i = false ∧ S 13 i = false ∧ S 15 i = false) ∧ S 56 i = false ∧ S 57 i = false ∧ S 58 i = false ∧ S 59 i = false ∧ S 65 i = false) : SameAll M s := by
  obtain ⟨h0, h1, h2, h3⟩ := h
  refine ⟨h0, fun a ha => ?_, ?_, ?_⟩
  · obtain ⟨⟨a1, a2, a3, a4, -⟩, b1, b2, b3, b4, -⟩ := hS a
    unfold SameAt
    rw [hf.1 10 a a1, hf.1 11 a a2, hf.1 12 a a3, hf.1 13 a a4, hf.1 56 a b1, hf.1 57 a b2, hf.1 58 a b3, hf.1 59 a b4]
    exact h1 a ha
  · rw [hf.1 15 0 (hS 0).1.2.2.2.2, hf.1 65 0 (hS 0).2.2.2.2.2]; exact h2
  · rw [hf.1 15 3 (hS 3).1.2.2.2.2, hf.1 65 3 (hS 3).2.2.2.2.2]; exact h3
theorem lp_sb71 (h : RowC M0 L s) (hsm : SameAll M0 s) {d : Nat} (h1 : 1 ≤ d) (hd : d < L.length)
    (K : ∀ M', Fr s20 M0 M' → (∀ i, tri (d + 1) ≤ i → gI M' 20 i = gI M 20 i) → (∀ o, o < d → cc M0 M' L d o) → Q (.returned (some (.int (gsF (fun o => Ff (mvP M0) (hlP M0) L[d - 1]? (dO L o) (L.drop d)) d)))) M') (hc : ∀ o, o < d + 1 → cc M0 M L (d + 1) o) : ∀ (j o : Nat) (M' : Mem), o + j = d → Fr s20 M0 M' → (∀ i, tri (d + 1) ≤ i → gI M' 20 i = gI M 20 i) → (∀ o', o' < o → cc M0 M' L d o') →
    Fw l D ad kA mX3_stepBack 71 [some (.ref (ad 17)), some (.int (nI d)), some (.int (nI L[d])), none, some (.int (nI (tri d))), some (.int (nI (tri (d + 1)))), some (.int (nE (mo (mvP M0) L[d - 1]? L[d]))), some (.int (if (if ho (hlP M0) L[d - 1]? L[d] = true then (1 : Int32) else 0) = 0 then nE (Ff (mvP M0) (hlP M0) (some L[d]) L[d - 1]? (L.drop (d + 1))) else 16777216)), some (.int (gsF (fun o => Ff (mvP M0) (hlP M0) L[d - 1]? (dO L o) (L.drop d)) o)), some (.int (nI o)), none, none, none, none] [] M' Q := by
  have h3 := h.2.2.1
  have hld := (h.at hd).2
  have hs160 := hsm.1
  have ht := tri_lt (d := d + 1) (o := d) (by omega) (by omega)
  have et : tri (d + 1) = tri d + d := rfl
  intro j
  induction j with
  | zero =>
    intro o M' hod hf hi hdn
    have : o = d := by omega
    subst this
    have hle : nI o ≤ nI o := by rw [i_le]; exact Int.le_refl _
    exact t_X3_stepBack_71 (fun _ => gsF_01 _ _) (fun q => absurd hle q) (fun q => absurd hle q) (fun q => absurd hle q) (fun q => absurd hle q) (fun q => absurd hle q) (fun _ => K M' hf hi hdn) (fun q => absurd hle q)
  | succ j ih =>
    intro o M' hod hf hi hdn
    have hnle : ¬ nI d ≤ nI o := by rw [nI_leI (by omega) (by omega)]; omega
    obtain ⟨c1, c2⟩ := costs_fr hf (fun i => ⟨rfl, rfl, rfl, rfl, rfl⟩)
    have hrow := h.fr hf rfl (fun _ => rfl)
    have hsm' := hsm.fr hf (fun _ => ⟨⟨rfl, rfl, rfl, rfl, rfl⟩, rfl, rfl, rfl, rfl, rfl⟩)
    obtain ⟨d1, d2⟩ := v_did hrow (o := o) (by omega)
    have hq := inO_d (s := s) h.2.2.2 o
    have cell : gI M' 20 (tri (d + 1) + o) = nE (Ff (mvP M0) (hlP M0) (some L[d]) (dO L o) (L.drop (d + 1))) := by
      rw [hi _ (by omega)]
      have := hc o (by omega)
      unfold cc at this
      rw [show d + 1 - 1 = d by omega, List.getElem?_eq_getElem hd] at this
      exact this
    have val : imin 16777216 (imin (if v_X3_holds M' (v_X3_did M' (nI o)) (nI L[d]) = 0 then nE (mo (mvP M0) L[d - 1]? L[d]) + gI M' 20 (nI (tri (d + 1)) + nI o).toNatClampNeg else 16777216) (if (if (if ho (hlP M0) L[d - 1]? L[d] = true then (1 : Int32) else 0) = 0 then nE (Ff (mvP M0) (hlP M0) (some L[d]) L[d - 1]? (L.drop (d + 1))) else 16777216) < 16777216 then (if (if ho (hlP M0) L[d - 1]? L[d] = true then (1 : Int32) else 0) = 0 then nE (Ff (mvP M0) (hlP M0) (some L[d]) L[d - 1]? (L.drop (d + 1))) else 16777216) + v_X3_move M' (v_X3_did M' (nI o)) (nI L[d]) else 16777216)) = nE (Ff (mvP M0) (hlP M0) L[d - 1]? (dO L o) (L.drop d)) := by
      rw [d1, v_holds hsm' hq hld, v_move hsm' hq hld, nI_add, nI_clamp (by omega), cell, c1, c2]
      rw [List.drop_eq_getElem_cons hd]
      have hlen : (L.drop (d + 1)).length ≤ 160 := by rw [List.length_drop]; omega
      refine st_val (mo_rng (okP M0) _ _) (mo_rng (okP M0) _ _) ?_ ?_
      · have := Ff_b (hl := hlP M0) (okP M0) (L.drop (d + 1)) (some L[d]) (dO L o); omega
      · have := Ff_b (hl := hlP M0) (okP M0) (L.drop (d + 1)) (some L[d]) L[d - 1]?; omega
    refine t_X3_stepBack_71 (fun q => absurd q hnle) (fun _ => d2) (fun _ => by rw [d1]; exact g_holds hs160 hq hld) (fun _ _ => by rw [nI_add]; exact ixN (by omega) (by omega)) (fun _ _ => by rw [d1]; exact g_move hs160 hq hld) (fun _ => by rw [nI_add]; exact ixN (by omega) (by omega)) (fun q => absurd q hnle) (fun _ => ?_)
    rw [val, nI_add, nI_clamp (by omega), nI_1]
    refine ih (o + 1) _ (by omega) (hf.sI rfl) (fun i hi2 => ?_) (fun o' ho' => ?_)
    · rw [gI_oi (by omega)]; exact hi i hi2
    · unfold cc
      by_cases e : o' = o
      · rw [e, gI_self]
      · rw [gI_oi (by omega)]; exact hdn o' (by omega)
theorem ct_stepBack (h : RowC M0 L s) (hsm : SameAll M0 s) (hf : Fr s20 M0 M) {d : Nat} (h1 : 1 ≤ d) (hd : d < L.length) (hc : ∀ o, o < d + 1 → cc M0 M L (d + 1) o)
    (K : ∀ M', Fr s20 M0 M' → (∀ i, tri (d + 1) ≤ i → gI M' 20 i = gI M 20 i) → (∀ o, o < d → cc M0 M' L d o) → Q (.returned (some (.int (gsF (fun o => Ff (mvP M0) (hlP M0) L[d - 1]? (dO L o) (L.drop d)) d)))) M') : Cal l D ad kA mX3_stepBack [.ref (ad 17), .int (nI d)] M Q := by
  have h3 := h.2.2.1
  have hs160 := hsm.1
  have hrow := h.fr hf rfl (fun _ => rfl)
  have hsm' := hsm.fr hf (fun _ => ⟨⟨rfl, rfl, rfl, rfl, rfl⟩, rfl, rfl, rfl, rfl, rfl⟩)
  obtain ⟨c1, c2⟩ := costs_fr hf (fun i => ⟨rfl, rfl, rfl, rfl, rfl⟩)
  have ht := tri_lt (d := d + 1) (o := d) (by omega) (by omega)
  have et : tri (d + 1) = tri d + d := rfl
  have e1 : nI d - 1 = nI (d - 1) := by
    obtain ⟨k, rfl⟩ : ∃ k, d = k + 1 := ⟨d - 1, by omega⟩
    exact nI_pred k
  have hld := (hrow.at hd).2
  have hd1 : d - 1 < L.length := by omega
  have p1 : gI M 19 (d - 1) = oC L[d - 1]? := by rw [(hrow.at hd1).1, List.getElem?_eq_getElem hd1]; rfl
  have hp := inO_pos (s := s) h.2.2.2 (d - 1)
  have n0' : (0 : Int32) = nI 0 := rfl
  have pl : v_X3_place (nI (d + 1)) 0 = nI (tri (d + 1)) := by rw [n0', v_place (by omega), Nat.add_zero]
  have pl0 : v_X3_place (nI d) 0 = nI (tri d) := by rw [n0', v_place (by omega), Nat.add_zero]
  have cell : gI M 20 (tri (d + 1) + d) = nE (Ff (mvP M0) (hlP M0) (some L[d]) L[d - 1]? (L.drop (d + 1))) := by
    have := hc d (by omega)
    unfold cc at this
    rw [show d + 1 - 1 = d by omega, List.getElem?_eq_getElem hd] at this
    rw [this]
    have : dO L d = L[d - 1]? := by
      obtain ⟨k, rfl⟩ : ∃ k, d = k + 1 := ⟨d - 1, by omega⟩
      rfl
    rw [this]
  refine en_X3_stepBack (t_X3_stepBack_0 (ix (by omega)) (by rw [e1]; exact ix (by omega)) ?_ ?_ (fun _ => ?_) ?_)
  · rw [e1, nI_clamp (by omega), nI_clamp (by omega), (hrow.at hd).1, p1]; exact g_move hs160 hp hld
  · rw [e1, nI_clamp (by omega), nI_clamp (by omega), (hrow.at hd).1, p1]; exact g_holds hs160 hp hld
  · rw [nI_1, pl, nI_add]; exact ixN ht (by omega)
  · rw [e1, nI_clamp (by omega), nI_clamp (by omega), (hrow.at hd).1, p1, nI_1, pl, pl0, nI_add, nI_clamp (by omega), cell, v_move hsm' hp hld, v_holds hsm' hp hld, c1, c2]
    exact lp_sb71 (M := M) h hsm h1 hd K hc d 0 M (by omega) hf (fun i _ => rfl) (fun o' ho' => by omega)
end DeftC
