/-! HELP, purely: what is done and what is left -/
/-- the least of the first few, no more than a million -/
def mnF (f : Nat → Nat) : Nat → Nat
  | 0 => 1000000
  | n + 1 => min (mnF f n) (f n)
theorem mnF_le {f : Nat → Nat} : ∀ n, mnF f n ≤ 1000000 := by
  intro n
  induction n with
  | zero => exact Nat.le_refl _
  | succ n ih => show min _ _ ≤ _; omega
theorem mnF_cap {f g : Nat → Nat} : ∀ n, (∀ o, o < n → min 1000000 (f o) = min 1000000 (g o)) → mnF f n = mnF g n := by
  intro n
  induction n with
  | zero => intro _; rfl
  | succ n ih =>
    intro h
    have h1 := ih (fun o ho => h o (by omega))
    have h2 := h n (by omega)
    have h3 := mnF_le (f := f) n
    have h4 := mnF_le (f := g) n
    show min _ _ = min _ _
    omega
theorem mnF_min {f g : Nat → Nat} : ∀ n, mnF (fun o => min (f o) (g o)) n = min (mnF f n) (mnF g n) := by
  intro n
  induction n with
  | zero => exact (Nat.min_self _).symm
  | succ n ih =>
    show min (mnF (fun o => min (f o) (g o)) n) (min (f n) (g n)) = min (min (mnF f n) (f n)) (min (mnF g n) (g n))
    rw [ih]; omega
theorem mnF_add {f : Nat → Nat} {x : Nat} : ∀ n, mnF (fun o => f o + x) n = min 1000000 (mnF f n + x) := by
  intro n
  induction n with
  | zero => show 1000000 = min 1000000 (1000000 + x); omega
  | succ n ih =>
    show min (mnF (fun o => f o + x) n) (f n + x) = min 1000000 (min (mnF f n) (f n) + x)
    rw [ih]; omega
theorem mnF_ext {f g : Nat → Nat} (n : Nat) (h : ∀ o, o < n → f o = g o) : mnF f n = mnF g n := mnF_cap n (fun o ho => by rw [h o ho])
section Forth
variable (mv : Nat → Nat → Nat) (hl : Nat → Nat → Bool) (L : List Nat)
/-- the fewest TAKES of the first d, by what the other hand did -/
def Pw : Nat → Nat → Nat
  | 0, _ => 0
  | d + 1, o => if 1 ≤ d ∧ o = d then mnF (fun o' => Pw d o' + cs mv hl (dO L o') (dO L d) (L.getD d 0)) d else Pw d o + cs mv hl (dO L d) (dO L o) (L.getD d 0)
end Forth
section Forth2
variable {mv : Nat → Nat → Nat} {hl : Nat → Nat → Bool} {L : List Nat}
theorem Pw_b (h : okMv mv) : ∀ d o, Pw mv hl L d o ≤ d ∨ 1000000 ≤ Pw mv hl L d o := by
  intro d
  induction d with
  | zero => intro o; exact .inl (Nat.le_refl _)
  | succ d ih =>
    intro o
    unfold Pw
    split
    · have : ∀ n, mnF (fun o' => Pw mv hl L d o' + cs mv hl (dO L o') (dO L d) (L.getD d 0)) n ≤ d + 1 ∨ 1000000 ≤ mnF (fun o' => Pw mv hl L d o' + cs mv hl (dO L o') (dO L d) (L.getD d 0)) n := by
        intro n
        induction n with
        | zero => exact .inr (Nat.le_refl _)
        | succ n ihn =>
          have h1 := ih n
          have h2 := cs_rng (hl := hl) h (dO L n) (dO L d) (L.getD d 0)
          show min (mnF _ n) (Pw mv hl L d n + cs mv hl (dO L n) (dO L d) (L.getD d 0)) ≤ d + 1 ∨ 1000000 ≤ min (mnF _ n) (Pw mv hl L d n + cs mv hl (dO L n) (dO L d) (L.getD d 0))
          omega
      exact this d
    · have h1 := ih o
      have h2 := cs_rng (hl := hl) h (dO L d) (dO L o) (L.getD d 0)
      omega
theorem decomp : ∀ (d : Nat), d ≤ L.length → ∀ t, min 1000000 (Ff mv hl none none (L.take d ++ t)) = mnF (fun o => Pw mv hl L d o + Ff mv hl (dO L d) (dO L o) t) (max 1 d) := by
  intro d
  induction d with
  | zero =>
    intro _ t
    show min 1000000 (Ff mv hl none none t) = min 1000000 (0 + Ff mv hl none none t)
    rw [Nat.zero_add]
  | succ d ih =>
    intro hd t
    have hlt : d < L.length := by omega
    have hgd : L.getD d 0 = L[d] := by rw [List.getD_eq_getElem?_getD, List.getElem?_eq_getElem hlt]; rfl
    have hd1 : dO L (d + 1) = some L[d] := List.getElem?_eq_getElem hlt
    rw [List.take_succ_eq_append_getElem hlt, List.append_assoc]
    show min 1000000 (Ff mv hl none none (L.take d ++ (L[d] :: t))) = _
    rw [ih (by omega)]
    have e1 : mnF (fun o => Pw mv hl L d o + Ff mv hl (dO L d) (dO L o) (L[d] :: t)) (max 1 d) = min (mnF (fun o => Pw mv hl L d o + cs mv hl (dO L d) (dO L o) L[d] + Ff mv hl (some L[d]) (dO L o) t) (max 1 d)) (mnF (fun o => Pw mv hl L d o + cs mv hl (dO L o) (dO L d) L[d] + Ff mv hl (some L[d]) (dO L d) t) (max 1 d)) := by
      rw [← mnF_min]
      refine mnF_ext _ (fun o _ => ?_)
      show Pw mv hl L d o + min _ _ = _
      omega
    rw [e1, hd1]
    by_cases c : d = 0
    · subst c
      show min (min 1000000 (0 + cs mv hl none none L[0] + Ff mv hl (some L[0]) none t)) (min 1000000 (0 + cs mv hl none none L[0] + Ff mv hl (some L[0]) none t)) = min 1000000 (Pw mv hl L 1 0 + Ff mv hl (some L[0]) none t)
      have : Pw mv hl L 1 0 = 0 + cs mv hl none none L[0] := by
        show (if 1 ≤ 0 ∧ 0 = 0 then _ else Pw mv hl L 0 0 + cs mv hl (dO L 0) (dO L 0) (L.getD 0 0)) = _
        rw [if_neg (by omega), hgd]
        rfl
      rw [this]; omega
    · have hm : max 1 d = d := by omega
      have hm2 : max 1 (d + 1) = d + 1 := by omega
      rw [hm, hm2]
      have eP : ∀ o, o < d → Pw mv hl L (d + 1) o = Pw mv hl L d o + cs mv hl (dO L d) (dO L o) L[d] := by
        intro o ho
        show (if 1 ≤ d ∧ o = d then _ else _) = _
        rw [if_neg (by omega), hgd]
      have eS : Pw mv hl L (d + 1) d = mnF (fun o' => Pw mv hl L d o' + cs mv hl (dO L o') (dO L d) L[d]) d := by
        show (if 1 ≤ d ∧ d = d then mnF (fun o' => Pw mv hl L d o' + cs mv hl (dO L o') (dO L d) (L.getD d 0)) d else _) = _
        rw [if_pos (by omega), hgd]
      show _ = min (mnF (fun o => Pw mv hl L (d + 1) o + Ff mv hl (some L[d]) (dO L o) t) d) (Pw mv hl L (d + 1) d + Ff mv hl (some L[d]) (dO L d) t)
      have a1 : mnF (fun o => Pw mv hl L (d + 1) o + Ff mv hl (some L[d]) (dO L o) t) d = mnF (fun o => Pw mv hl L d o + cs mv hl (dO L d) (dO L o) L[d] + Ff mv hl (some L[d]) (dO L o) t) d := mnF_ext _ (fun o ho => by rw [eP o ho])
      have a2 := mnF_add (f := fun o => Pw mv hl L d o + cs mv hl (dO L o) (dO L d) L[d]) (x := Ff mv hl (some L[d]) (dO L d) t) d
      rw [a1, eS]
      have a3 := mnF_le (f := fun o => Pw mv hl L d o + cs mv hl (dO L d) (dO L o) L[d] + Ff mv hl (some L[d]) (dO L o) t) d
      have a2' : mnF (fun o => Pw mv hl L d o + cs mv hl (dO L o) (dO L d) L[d] + Ff mv hl (some L[d]) (dO L d) t) d = min 1000000 (mnF (fun o => Pw mv hl L d o + cs mv hl (dO L o) (dO L d) L[d]) d + Ff mv hl (some L[d]) (dO L d) t) := a2
      rw [a2']
      omega
end Forth2
/-! arithmetic of prices as the class writes them -/
theorem nE_cap {x y : Nat} (h : min 1000000 x = min 1000000 y) : nE x = nE y := by
  unfold nE
  by_cases c : x < 1000000
  · have : x = y := by omega
    rw [this]
  · rw [if_neg c, if_neg (by omega)]
/-- small, or never -/
def okN (x : Nat) : Prop := x ≤ 1000 ∨ 1000000 ≤ x
theorem nE_min {x y : Nat} : imin (nE x) (nE y) = nE (min x y) := by
  rw [i_eq, i_min, nE_toInt, nE_toInt, nE_toInt]
  repeat' split
  all_goals omega
theorem nE_cap1 {x : Nat} : imin 16777216 (nE x) = nE x := by
  rw [i_eq, i_min, nNEV, nE_toInt]
  repeat' split
  all_goals omega
/-- two sums against never -/
theorem nE_sum2 {x y : Nat} (hx : okN x) (hy : okN y) : imin 16777216 (nE x + nE y) = nE (x + y) := by
  unfold okN at hx hy
  rw [i_eq, i_min, nNEV, nE_add, nE_toInt, nE_toInt, nE_toInt]
  repeat' split
  all_goals omega
/-- a sum within a least that is at most never -/
theorem nE_least2 {b x y : Nat} (hx : okN x) (hy : okN y) : imin (nE b) (nE x + nE y) = nE (min b (x + y)) := by
  unfold okN at hx hy
  rw [i_eq, i_min, nE_add, nE_toInt, nE_toInt, nE_toInt, nE_toInt]
  repeat' split
  all_goals omega
/-- a price that may be as much as two nevers -/
def bigE (z : Int32) (x : Nat) : Prop := 0 ≤ z.toInt ∧ z.toInt ≤ 67108864 ∧ (x < 1000000 → z.toInt = x) ∧ (1000000 ≤ x → 16777216 ≤ z.toInt)
theorem bigE_nE (x : Nat) : bigE (nE x) x := by
  unfold bigE
  rw [nE_toInt]
  split <;> omega
theorem bigE_add {a b : Int32} {x y : Nat} (ha : bigE a x) (hb : bigE b y) (hx : okN x) (hy : okN y) (h : a.toInt + b.toInt ≤ 67108864) : bigE (a + b) (x + y) := by
  obtain ⟨a1, a2, a3, a4⟩ := ha
  obtain ⟨b1, b2, b3, b4⟩ := hb
  unfold okN at hx hy
  unfold bigE
  rw [i_add (by omega) (by omega)]
  omega
theorem bigE_min {a b : Int32} {x y : Nat} (ha : bigE a x) (hb : bigE b y) : bigE (imin a b) (min x y) := by
  obtain ⟨a1, a2, a3, a4⟩ := ha
  obtain ⟨b1, b2, b3, b4⟩ := hb
  unfold bigE
  rw [i_min]
  split <;> omega
theorem bigE_least {b x : Nat} {z : Int32} (hz : bigE z x) : imin (nE b) z = nE (min b x) := by
  obtain ⟨a1, a2, a3, a4⟩ := hz
  rw [i_eq, i_min, nE_toInt, nE_toInt]
  repeat' split
  all_goals omega
