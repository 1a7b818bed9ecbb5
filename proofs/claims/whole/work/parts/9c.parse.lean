/-! TEXTS: tokens by their place; the MANNERS' text, purely -/
def tS (b : Nat → Int32) (n p : Nat) : Nat := tkS b n p
def tK (b : Nat → Int32) (n p : Nat) : Nat := tkK b n (tkS b n p)
def tE (b : Nat → Int32) (n p : Nat) : Nat := tkN b n (tkS b n p)
def tV (b : Nat → Int32) (n p : Nat) : Nat := tkV b n (tkS b n p)
theorem run_all {p : Int32 → Bool} {b : Nat → Int32} {n : Nat} : ∀ (j i : Nat), n - i = j → ∀ a, i ≤ a → a < run p b n i → p (b a) = true
  | 0, i, h => by intro a h1 h2; rw [run_stop (by omega)] at h2; omega
  | j + 1, i, h => by
    intro a h1 h2
    by_cases c : i < n ∧ p (b i) = true
    · rw [run_go c.1 c.2] at h2
      by_cases e : a = i
      · rw [e]; exact c.2
      · exact run_all j (i + 1) (by omega) a (by omega) h2
    · rw [run_stop c] at h2; omega
theorem t_facts {b : Nat → Int32} {n p : Nat} (hp : p ≤ n) : p ≤ tS b n p ∧ tS b n p ≤ tE b n p ∧ tE b n p ≤ n ∧ tK b n p ≤ 4 ∧ (¬ tK b n p = 0 → tS b n p < tE b n p) := by
  have h1 := run_ge (p := isW) (b := b) (n := n) (n - p) p rfl
  have h2 := h1.2 hp
  unfold tE tK tS tkS
  generalize run isW b n p = s at h1 h2 ⊢
  unfold tkN tkK
  by_cases c : n ≤ s
  · rw [if_pos c, if_pos c]; omega
  · rw [if_neg c, if_neg c]
    have r1 := run_ge (p := isL) (b := b) (n := n) (n - s) s rfl
    have r2 := run_ge (p := isD) (b := b) (n := n) (n - s) s rfl
    by_cases cl : isL (b s) = true
    · rw [if_pos cl, if_pos cl]
      have r3 := run_ge (p := isL) (b := b) (n := n) (n - (s + 1)) (s + 1) rfl
      rw [run_go (by omega) cl] at r1 ⊢
      refine ⟨by omega, by omega, by omega, by split <;> omega, fun _ => by omega⟩
    · rw [if_neg cl, if_neg cl]
      by_cases cd : isD (b s) = true
      · rw [if_pos cd, if_pos cd]
        have r3 := run_ge (p := isD) (b := b) (n := n) (n - (s + 1)) (s + 1) rfl
        rw [run_go (by omega) cd] at r2 ⊢
        refine ⟨by omega, by omega, by omega, by split <;> omega, fun _ => by omega⟩
      · rw [if_neg cd, if_neg cd]
        refine ⟨by omega, by omega, by omega, by split <;> omega, fun _ => by omega⟩
theorem dec_lt {b : Nat → Int32} {s : Nat} : ∀ k, (∀ a, s ≤ a → a < s + k → isD (b a) = true) → dec b s k < 10 ^ k := by
  intro k
  induction k with
  | zero => intro _; show 0 < 1; omega
  | succ k ih =>
    intro h
    have i1 := ih (fun a h1 h2 => h a h1 (by omega))
    have i2 := h (s + k) (by omega) (by omega)
    unfold isD at i2
    rw [decide_eq_true_iff] at i2
    show 10 * dec b s k + ((b (s + k)).toInt - 48).toNat < 10 ^ (k + 1)
    rw [Nat.pow_succ]
    omega
theorem tV_lt {b : Nat → Int32} {n p : Nat} (h : tK b n p = 2) : tV b n p < 1000 := by
  unfold tV tkV
  unfold tK tkK at h
  generalize tkS b n p = s at h ⊢
  have ra := run_all (p := isD) (b := b) (n := n) (n - s) s rfl
  have rg := run_ge (p := isD) (b := b) (n := n) (n - s) s rfl
  have hd := dec_lt (b := b) (s := s) (run isD b n s - s) (fun a h1 h2 => ra a h1 (by omega))
  have hle : run isD b n s - s ≤ 3 := by
    split at h
    · omega
    · split at h
      · split at h <;> omega
      · split at h
        · split at h
          · assumption
          · omega
        · split at h <;> omega
  have : (10 : Nat) ^ (run isD b n s - s) ≤ 10 ^ 3 := Nat.pow_le_pow_right (by omega) hle
  have e : (10 : Nat) ^ 3 = 1000 := by decide
  omega
theorem rn_congr {p : Int32 → Bool} {b b' : Nat → Int32} {n : Nat} (h : ∀ a, a < n → b a = b' a) : ∀ f i, rn p b n f i = rn p b' n f i := by
  intro f
  induction f with
  | zero => intro i; rfl
  | succ f ih =>
    intro i
    unfold rn
    by_cases c : i < n
    · rw [h i c, ih (i + 1)]
    · rw [if_neg (fun z => c z.1), if_neg (fun z => c z.1)]
theorem run_congr {p : Int32 → Bool} {b b' : Nat → Int32} {n i : Nat} (h : ∀ a, a < n → b a = b' a) : run p b n i = run p b' n i := rn_congr h _ _
theorem dec_congr {b b' : Nat → Int32} {s : Nat} : ∀ k, (∀ a, a < s + k → b a = b' a) → dec b s k = dec b' s k := by
  intro k
  induction k with
  | zero => intro _; rfl
  | succ k ih =>
    intro h
    unfold dec
    rw [ih (fun a ha => h a (by omega)), h (s + k) (by omega)]
theorem mt_congr {b b' : Nat → Int32} : ∀ (cs : List Int32) (s : Nat), (∀ a, s ≤ a → a < s + cs.length → b a = b' a) → mt b s cs = mt b' s cs := by
  intro cs
  induction cs with
  | nil => intro s _; rfl
  | cons c t ih =>
    intro s h
    unfold mt
    rw [h s (by omega) (by rw [List.length_cons]; omega), ih (s + 1) (fun a h1 h2 => h a (by omega) (by rw [List.length_cons]; omega))]
theorem isWd_congr {b b' : Nat → Int32} {n k s e w : Nat} (h : ∀ a, a < n → b a = b' a) (hse : s ≤ e) (he : e ≤ n) : isWd b k s e w = isWd b' k s e w := by
  unfold isWd
  by_cases c : e - s = (wB w).length
  · rw [mt_congr (wB w) s (fun a h1 h2 => h a (by omega))]
  · rw [decide_eq_false c, Bool.false_and, Bool.false_and]
theorem t_congr {b b' : Nat → Int32} {n : Nat} (h : ∀ a, a < n → b a = b' a) (p : Nat) (hp : p ≤ n) : tS b n p = tS b' n p ∧ tK b n p = tK b' n p ∧ tE b n p = tE b' n p ∧ tV b n p = tV b' n p := by
  have e1 : tkS b n p = tkS b' n p := run_congr h
  unfold tS tK tE tV
  rw [e1]
  have hs : tkS b' n p ≤ n := (run_ge (p := isW) (b := b') (n := n) (n - p) p rfl).2 hp
  generalize tkS b' n p = s at hs ⊢
  have eL : run isL b n s = run isL b' n s := run_congr h
  have eD : run isD b n s = run isD b' n s := run_congr h
  refine ⟨rfl, ?_, ?_, ?_⟩
  · unfold tkK
    by_cases c : n ≤ s
    · rw [if_pos c, if_pos c]
    · rw [if_neg c, if_neg c, eL, eD, h s (by omega)]
  · unfold tkN
    by_cases c : n ≤ s
    · rw [if_pos c, if_pos c]
    · rw [if_neg c, if_neg c, eL, eD, h s (by omega)]
  · unfold tkV
    rw [eD]
    have := run_ge (p := isD) (b := b') (n := n) (n - s) s rfl
    exact dec_congr _ (fun a ha => h a (by omega))
/-- the rule that a token names -/
def rlN (b : Nat → Int32) (n p : Nat) : Nat := if isWd b (tK b n p) (tS b n p) (tE b n p) 4 = true then 0 else if isWd b (tK b n p) (tS b n p) (tE b n p) 5 = true then 1 else if isWd b (tK b n p) (tS b n p) (tE b n p) 6 = true then 2 else if isWd b (tK b n p) (tS b n p) (tE b n p) 7 = true then 3 else 4
def loR (r : Nat) : Nat := if r = 1 then 1 else 0
def hiR (r : Nat) : Nat := if r = 1 then 12 else if r = 2 then 47 else 9
def r0 (r : Nat) : Int32 := if r = 1 then 4 else if r = 2 then 12 else 1
/-- what a MANNERS' text comes to: a FAULT of a kind at a place, or how many clauses and what they tell -/
def PM (b : Nat → Int32) (n : Nat) : Nat → Nat → (Nat → Int32) → Nat → (Nat × Nat) ⊕ (Nat × (Nat → Int32))
  | 0, _, _, _ => .inl (1, 0)
  | f + 1, p, fr, c =>
    if tK b n p = 0 then .inr (c, fr)
    else if rlN b n p = 4 then .inl (1, tS b n p)
    else if ¬ fr (rlN b n p) = (-1) then .inl (3, tS b n p)
    else if ¬ tK b n (tE b n p) = 2 then .inl (1, tS b n (tE b n p))
    else if ¬ (loR (rlN b n p) ≤ tV b n (tE b n p) ∧ tV b n (tE b n p) ≤ hiR (rlN b n p)) then .inl (2, tS b n (tE b n p))
    else if ¬ tK b n (tE b n (tE b n p)) = 3 then .inl (1, tS b n (tE b n (tE b n p)))
    else PM b n f (tE b n (tE b n (tE b n p))) (updF fr (rlN b n p) (nI (tV b n (tE b n p)))) (c + 1)
theorem rlN_congr {b b' : Nat → Int32} {n p : Nat} (h : ∀ a, a < n → b a = b' a) (hp : p ≤ n) : rlN b n p = rlN b' n p := by
  obtain ⟨e1, e2, e3, -⟩ := t_congr h p hp
  obtain ⟨f1, f2, f3, -, -⟩ := t_facts (b := b') (n := n) hp
  unfold rlN
  rw [e1, e2, e3, isWd_congr h f2 f3, isWd_congr h f2 f3, isWd_congr h f2 f3, isWd_congr h f2 f3]
theorem PM_congr {b b' : Nat → Int32} {n : Nat} (h : ∀ a, a < n → b a = b' a) : ∀ f p fr c, p ≤ n → PM b n f p fr c = PM b' n f p fr c := by
  intro f
  induction f with
  | zero => intro p fr c _; rfl
  | succ f ih =>
    intro p fr c hp
    obtain ⟨a1, a2, a3, a4⟩ := t_congr h p hp
    obtain ⟨-, -, f3, -, -⟩ := t_facts (b := b') (n := n) hp
    obtain ⟨b1, b2, b3, b4⟩ := t_congr h (tE b' n p) f3
    obtain ⟨-, -, g3, -, -⟩ := t_facts (b := b') (n := n) f3
    obtain ⟨c1, c2, c3, c4⟩ := t_congr h (tE b' n (tE b' n p)) g3
    obtain ⟨-, -, h3, -, -⟩ := t_facts (b := b') (n := n) g3
    unfold PM
    rw [a1, a2, a3, b1, b2, b3, b4, c1, c2, c3, rlN_congr h hp, ih _ _ _ h3]
