/-! SCORES' and heard texts, purely: rows of beat, BELL, length, manner -/
abbrev Rw := Nat × (Nat → Int32) × (Nat → Int32) × (Nat → Int32) × (Nat → Int32)
def insF (f : Nat → Int32) (k : Nat) (v : Int32) : Nat → Int32 := fun i => if i < k then f i else if i = k then v else f (i - 1)
/-- where a STROKE goes among those of its beat -/
def ipos (bt bl : Nat → Int32) (a b : Int32) : Nat → Nat
  | 0 => 0
  | k + 1 => if bt k = a ∧ ¬ bl k ≤ b then ipos bt bl a b k else k + 1
theorem ipos_le {bt bl : Nat → Int32} {a b : Int32} : ∀ k, ipos bt bl a b k ≤ k := by
  intro k
  induction k with
  | zero => exact Nat.le_refl _
  | succ k ih => unfold ipos; split <;> omega
/-- the same BELL at the same beat -/
def twB (bt bl : Nat → Int32) (a b : Int32) : Nat → Bool
  | 0 => false
  | k + 1 => (decide (bt k = a) && decide (bl k = b)) || twB bt bl a b k
theorem twB_t {bt bl : Nat → Int32} {a b : Int32} : ∀ m, twB bt bl a b m = true ↔ ∃ k, k < m ∧ bt k = a ∧ bl k = b := by
  intro m
  induction m with
  | zero =>
    constructor
    · intro z; cases z
    · intro z; obtain ⟨k, h, -⟩ := z; omega
  | succ m ih =>
    unfold twB
    rw [Bool.or_eq_true, Bool.and_eq_true, decide_eq_true_iff, decide_eq_true_iff, ih]
    constructor
    · rintro (z | ⟨k, h1, h2⟩)
      · exact ⟨m, by omega, z⟩
      · exact ⟨k, by omega, h2⟩
    · rintro ⟨k, h1, h2⟩
      by_cases e : k = m
      · subst e; exact .inl h2
      · exact .inr ⟨k, by omega, h2⟩
def insRw (r : Rw) (a b : Int32) (k : Nat) : Rw := (r.1 + 1, insF r.2.1 k a, insF r.2.2.1 k b, insF r.2.2.2.1 k 1, insF r.2.2.2.2 k 0)
def lenRw (r : Rw) (k : Nat) (v : Int32) : Rw := (r.1, r.2.1, r.2.2.1, updF r.2.2.2.1 k v, r.2.2.2.2)
def manRw (r : Rw) (k : Nat) (v : Int32) : Rw := (r.1, r.2.1, r.2.2.1, r.2.2.2.1, updF r.2.2.2.2 k v)
/-- is the token the WORD w -/
def wd (b : Nat → Int32) (n p w : Nat) : Bool := isWd b (tK b n p) (tS b n p) (tE b n p) w
/-- token by token, by what is awaited -/
def PT (b : Nat → Int32) (n : Nat) (all : Bool) : Nat → Nat → Nat → Nat → Rw → Nat → (Nat × Nat) ⊕ Rw
  | 0, _, _, _, _, _ => .inl (1, 0)
  | f + 1, w, p, a, r, k =>
    if w = 0 then (if tK b n p = 0 then .inr r else if wd b n p 0 = true then PT b n all f 1 (tE b n p) a r k else .inl (1, tS b n p))
    else if w = 1 then (if tK b n p = 2 then (if a ≤ tV b n p then PT b n all f 2 (tE b n p) (tV b n p) r k else .inl (2, tS b n p)) else .inl (1, tS b n p))
    else if w = 4 then (if tK b n p = 2 then (if 1 ≤ tV b n p ∧ tV b n p ≤ 16 then PT b n all f 5 (tE b n p) a (lenRw r k (nI (tV b n p))) k else .inl (2, tS b n p)) else .inl (1, tS b n p))
    else if tK b n p = 2 then
      (if 47 < tV b n p then .inl (2, tS b n p)
      else if twB r.2.1 r.2.2.1 (nI a) (nI (tV b n p)) r.1 = true then .inl (3, tS b n p)
      else if 160 ≤ r.1 then .inl (4, tS b n p)
      else PT b n all f (if all = true then 3 else 6) (tE b n p) a (insRw r (nI a) (nI (tV b n p)) (ipos r.2.1 r.2.2.1 (nI a) (nI (tV b n p)) r.1)) (ipos r.2.1 r.2.2.1 (nI a) (nI (tV b n p)) r.1))
    else if tK b n p = 3 then (if w = 2 then .inl (1, tS b n p) else PT b n all f 0 (tE b n p) a r k)
    else if w = 3 ∧ wd b n p 1 = true then PT b n all f 4 (tE b n p) a r k
    else if (w = 3 ∨ w = 5) ∧ wd b n p 2 = true then PT b n all f 6 (tE b n p) a (manRw r k 1) k
    else if (w = 3 ∨ w = 5) ∧ wd b n p 3 = true then PT b n all f 6 (tE b n p) a (manRw r k 2) k
    else .inl (1, tS b n p)
theorem wd_1 {b : Nat → Int32} {n p w : Nat} (h : wd b n p w = true) : tK b n p = 1 := by
  unfold wd isWd at h
  rw [Bool.and_eq_true, decide_eq_true_iff] at h
  exact h.1
theorem wd_congr {b b' : Nat → Int32} {n p w : Nat} (h : ∀ a, a < n → b a = b' a) (hp : p ≤ n) : wd b n p w = wd b' n p w := by
  obtain ⟨e1, e2, e3, -⟩ := t_congr h p hp
  obtain ⟨f1, f2, f3, -, -⟩ := t_facts (b := b') (n := n) hp
  unfold wd
  rw [e1, e2, e3, isWd_congr h f2 f3]
/-- what a row of STROKES keeps to, up to a beat -/
def okRw (r : Rw) (a : Nat) : Prop := r.1 ≤ 160 ∧ a ≤ 999 ∧ (∀ i, i < r.1 → (0 ≤ (r.2.1 i).toInt ∧ (r.2.1 i).toInt ≤ a) ∧ (0 ≤ (r.2.2.1 i).toInt ∧ (r.2.2.1 i).toInt ≤ 47) ∧ (1 ≤ (r.2.2.2.1 i).toInt ∧ (r.2.2.2.1 i).toInt ≤ 16) ∧ (0 ≤ (r.2.2.2.2 i).toInt ∧ (r.2.2.2.2 i).toInt ≤ 2)) ∧ ∀ i j, i ≤ j → j < r.1 → (r.2.1 i).toInt ≤ (r.2.1 j).toInt
theorem ipos_same {bt bl : Nat → Int32} {a b : Int32} : ∀ m i, ipos bt bl a b m ≤ i → i < m → bt i = a := by
  intro m
  induction m with
  | zero => intro i _ h; omega
  | succ m ih =>
    intro i h1 h2
    unfold ipos at h1
    split at h1
    · rename_i c
      by_cases e : i = m
      · rw [e]; exact c.1
      · exact ih i h1 (by omega)
    · omega
theorem okRw_ins {r : Rw} {a v : Nat} (h : okRw r a) (hm : r.1 < 160) (hv : v ≤ 47) : okRw (insRw r (nI a) (nI v) (ipos r.2.1 r.2.2.1 (nI a) (nI v) r.1)) a := by
  obtain ⟨h1, h2, h3, h4⟩ := h
  have hk := ipos_le (bt := r.2.1) (bl := r.2.2.1) (a := nI a) (b := nI v) r.1
  have hs := ipos_same (bt := r.2.1) (bl := r.2.2.1) (a := nI a) (b := nI v) r.1
  generalize ipos r.2.1 r.2.2.1 (nI a) (nI v) r.1 = k at hk hs
  have ea : (nI a).toInt = a := i_nI (by omega)
  have ev : (nI v).toInt = v := i_nI (by omega)
  refine ⟨by show r.1 + 1 ≤ 160; omega, h2, fun i hi => ?_, fun i j hij hj => ?_⟩
  · have hi : i < r.1 + 1 := hi
    show (0 ≤ (insF r.2.1 k (nI a) i).toInt ∧ (insF r.2.1 k (nI a) i).toInt ≤ a) ∧ (0 ≤ (insF r.2.2.1 k (nI v) i).toInt ∧ (insF r.2.2.1 k (nI v) i).toInt ≤ 47) ∧ (1 ≤ (insF r.2.2.2.1 k 1 i).toInt ∧ (insF r.2.2.2.1 k 1 i).toInt ≤ 16) ∧ (0 ≤ (insF r.2.2.2.2 k 0 i).toInt ∧ (insF r.2.2.2.2 k 0 i).toInt ≤ 2)
    unfold insF
    by_cases c1 : i < k
    · rw [if_pos c1, if_pos c1, if_pos c1, if_pos c1]; exact h3 i (by omega)
    · rw [if_neg c1, if_neg c1, if_neg c1, if_neg c1]
      by_cases c2 : i = k
      · rw [if_pos c2, if_pos c2, if_pos c2, if_pos c2, ea, ev, n1, n0]; omega
      · rw [if_neg c2, if_neg c2, if_neg c2, if_neg c2]; exact h3 (i - 1) (by omega)
  · have hj : j < r.1 + 1 := hj
    show (insF r.2.1 k (nI a) i).toInt ≤ (insF r.2.1 k (nI a) j).toInt
    unfold insF
    by_cases c1 : i < k
    · rw [if_pos c1]
      by_cases c3 : j < k
      · rw [if_pos c3]; exact h4 i j hij (by omega)
      · rw [if_neg c3]
        by_cases c4 : j = k
        · rw [if_pos c4, ea]; exact (h3 i (by omega)).1.2
        · rw [if_neg c4]; exact h4 i (j - 1) (by omega) (by omega)
    · rw [if_neg c1, if_neg (show ¬ j < k by omega)]
      by_cases c2 : i = k
      · rw [if_pos c2]
        by_cases c4 : j = k
        · rw [if_pos c4]; exact Int.le_refl _
        · rw [if_neg c4, hs (j - 1) (by omega) (by omega)]; exact Int.le_refl _
      · rw [if_neg c2, if_neg (show ¬ j = k by omega)]
        exact h4 (i - 1) (j - 1) (by omega) (by omega)
theorem okRw_len {r : Rw} {a k v : Nat} (h : okRw r a) (hv : 1 ≤ v ∧ v ≤ 16) : okRw (lenRw r k (nI v)) a := by
  obtain ⟨h1, h2, h3, h4⟩ := h
  refine ⟨h1, h2, fun i hi => ?_, h4⟩
  obtain ⟨q1, q2, q3, q4⟩ := h3 i hi
  refine ⟨q1, q2, ?_, q4⟩
  show 1 ≤ (updF r.2.2.2.1 k (nI v) i).toInt ∧ (updF r.2.2.2.1 k (nI v) i).toInt ≤ 16
  unfold updF
  split
  · rw [i_nI (by omega)]; omega
  · exact q3
theorem okRw_man {r : Rw} {a k v : Nat} (h : okRw r a) (hv : v ≤ 2) : okRw (manRw r k (nI v)) a := by
  obtain ⟨h1, h2, h3, h4⟩ := h
  refine ⟨h1, h2, fun i hi => ?_, h4⟩
  obtain ⟨q1, q2, q3, q4⟩ := h3 i hi
  refine ⟨q1, q2, q3, ?_⟩
  show 0 ≤ (updF r.2.2.2.2 k (nI v) i).toInt ∧ (updF r.2.2.2.2 k (nI v) i).toInt ≤ 2
  unfold updF
  split
  · rw [i_nI (by omega)]; omega
  · exact q4
theorem okRw_up {r : Rw} {a a' : Nat} (h : okRw r a) (ha : a ≤ a') (ha' : a' ≤ 999) : okRw r a' := by
  obtain ⟨h1, h2, h3, h4⟩ := h
  exact ⟨h1, ha', fun i hi => by obtain ⟨q1, q2⟩ := h3 i hi; exact ⟨by omega, q2⟩, h4⟩
/-- the rows in memory -/
def rowsAt (M : Mem) (c1 c2 c3 c4 : Nat) (r : Rw) : Prop := ∀ i, i < r.1 → gI M c1 i = r.2.1 i ∧ gI M c2 i = r.2.2.1 i ∧ gI M c3 i = r.2.2.2.1 i ∧ gI M c4 i = r.2.2.2.2 i
