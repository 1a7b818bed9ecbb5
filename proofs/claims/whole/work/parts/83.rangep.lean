/-! RANGES, purely: the best of what is left, as changes, TAKES, RINGERS with a BELL -/
def enc3 (x : Nat × Nat × Nat) : Nat := x.1 * 100000 + x.2.1 * 100 + x.2.2
def encO : Option (Nat × Nat × Nat) → Nat
  | none => 16777216
  | some x => enc3 x
/-- all digits are small -/
def small3 (x : Nat × Nat × Nat) : Prop := x.1 ≤ 48 ∧ x.2.1 ≤ 160 ∧ x.2.2 ≤ 12
def cand (G : Nat → Option (Nat × Nat × Nat)) (P h : Nat → Nat → Nat) (i n : Nat) : Option (Nat × Nat × Nat) :=
  match G (i + n) with
  | none => none
  | some (c, t, k) => if n = 0 then some (c, t, k) else if P i (i + n) < 1000000 then some (c + h i (i + n), t + P i (i + n), k + 1) else none
def better (b c : Option (Nat × Nat × Nat)) : Option (Nat × Nat × Nat) :=
  match c with
  | none => b
  | some x => match b with
    | none => some x
    | some y => if enc3 x < enc3 y then some x else some y
def foldB (f : Nat → Option (Nat × Nat × Nat)) : Nat → Option (Nat × Nat × Nat)
  | 0 => none
  | n + 1 => better (foldB f n) (f n)
/-- with so many RINGERS left, from the BELL number i on -/
def GG (u w : Nat) (P : Nat → Nat → Nat) (h : Nat → Nat → Nat → Nat) : Nat → Nat → Option (Nat × Nat × Nat)
  | 0, i => if i = u then some (0, 0, 0) else none
  | k + 1, i => foldB (cand (GG u w P h k) P (h (w - (k + 1))) i) (u - i + 1)
theorem enc_small {x : Nat × Nat × Nat} (h : small3 x) : enc3 x < 16777216 := by
  unfold small3 at h; unfold enc3; omega
theorem enc_lex {x y : Nat × Nat × Nat} (hx : small3 x) (hy : small3 y) : (enc3 x < enc3 y ↔ x.1 < y.1 ∨ (x.1 = y.1 ∧ (x.2.1 < y.2.1 ∨ (x.2.1 = y.2.1 ∧ x.2.2 < y.2.2)))) ∧ (enc3 x = enc3 y ↔ x.1 = y.1 ∧ x.2.1 = y.2.1 ∧ x.2.2 = y.2.2) := by
  unfold small3 at hx hy; unfold enc3; omega
theorem encO_better {b c : Option (Nat × Nat × Nat)} (hb : ∀ x, b = some x → small3 x) (hc : ∀ x, c = some x → small3 x) : encO (better b c) = min (encO b) (encO c) := by
  cases c with
  | none =>
    cases b with
    | none => rfl
    | some y =>
      have := enc_small (hb y rfl)
      show enc3 y = min (enc3 y) 16777216
      omega
  | some x =>
    have h1 := enc_small (hc x rfl)
    cases b with
    | none =>
      show enc3 x = min 16777216 (enc3 x)
      omega
    | some y =>
      show encO (if enc3 x < enc3 y then some x else some y) = min (enc3 y) (enc3 x)
      split
      · show enc3 x = _; omega
      · show enc3 y = _; omega
theorem better_mem {b c : Option (Nat × Nat × Nat)} {x : Nat × Nat × Nat} (h : better b c = some x) : b = some x ∨ c = some x := by
  cases c with
  | none => exact .inl h
  | some z =>
    cases b with
    | none => exact .inr h
    | some y =>
      have h : (if enc3 z < enc3 y then some z else some y) = some x := h
      split at h
      · exact .inr h
      · exact .inl h
theorem fold_mem {f : Nat → Option (Nat × Nat × Nat)} {x : Nat × Nat × Nat} : ∀ n, foldB f n = some x → ∃ m, m < n ∧ f m = some x := by
  intro n
  induction n with
  | zero => intro h; cases h
  | succ n ih =>
    intro h
    rcases better_mem h with z | z
    · obtain ⟨m, h1, h2⟩ := ih z
      exact ⟨m, by omega, h2⟩
    · exact ⟨n, by omega, z⟩
theorem fold_ext {f : Nat → Option (Nat × Nat × Nat)} {a : Nat} : ∀ k, (∀ n, a ≤ n → n < a + k → f n = none) → foldB f (a + k) = foldB f a := by
  intro k
  induction k with
  | zero => intro _; rfl
  | succ k ih =>
    intro h
    show better (foldB f (a + k)) (f (a + k)) = _
    rw [h (a + k) (by omega) (by omega), ih (fun n h1 h2 => h n h1 (by omega))]
    rfl
theorem fold_congr {f g : Nat → Option (Nat × Nat × Nat)} : ∀ n, (∀ m, m < n → f m = g m) → foldB f n = foldB g n := by
  intro n
  induction n with
  | zero => intro _; rfl
  | succ n ih =>
    intro h
    show better _ _ = better _ _
    rw [h n (by omega), ih (fun m hm => h m (by omega))]
/-- what the prices keep to -/
def okR (u : Nat) (P : Nat → Nat → Nat) (h : Nat → Nat → Nat → Nat) (nS : Nat → Nat) : Prop :=
  u ≤ 48 ∧ nS u ≤ 160 ∧ (∀ i j, i < j → j ≤ u → P i j < 1000000 → nS i + P i j ≤ nS j) ∧ ∀ r i j, i ≤ j → j ≤ u → h r i j ≤ j - i
theorem cand_some {G : Nat → Option (Nat × Nat × Nat)} {P h : Nat → Nat → Nat} {i n : Nat} {x : Nat × Nat × Nat} (e : cand G P h i n = some x) : ∃ c t k, G (i + n) = some (c, t, k) ∧ ((n = 0 ∧ x = (c, t, k)) ∨ (¬ n = 0 ∧ P i (i + n) < 1000000 ∧ x = (c + h i (i + n), t + P i (i + n), k + 1))) := by
  unfold cand at e
  cases hG : G (i + n) with
  | none => rw [hG] at e; cases e
  | some y =>
    obtain ⟨c, t, k⟩ := y
    rw [hG] at e
    refine ⟨c, t, k, rfl, ?_⟩
    have e : (if n = 0 then some (c, t, k) else if P i (i + n) < 1000000 then some (c + h i (i + n), t + P i (i + n), k + 1) else none) = some x := e
    split at e
    · rename_i q
      exact .inl ⟨q, (Option.some.inj e).symm⟩
    · rename_i q
      split at e
      · rename_i q2
        exact .inr ⟨q, q2, (Option.some.inj e).symm⟩
      · cases e
theorem GG_b {u w : Nat} {P : Nat → Nat → Nat} {h : Nat → Nat → Nat → Nat} {nS : Nat → Nat} (ok : okR u P h nS) : ∀ k i x, i ≤ u → GG u w P h k i = some x → x.1 + i ≤ u ∧ x.2.1 + nS i ≤ nS u ∧ x.2.2 ≤ k := by
  intro k
  induction k with
  | zero =>
    intro i x hi e
    have e : (if i = u then some (0, 0, 0) else none) = some x := e
    split at e
    · rename_i q
      have := (Option.some.inj e).symm
      subst this
      subst q
      exact ⟨by show 0 + i ≤ i; omega, by show 0 + nS i ≤ nS i; omega, Nat.le_refl _⟩
    · cases e
  | succ k ih =>
    intro i x hi e
    obtain ⟨m, h1, h2⟩ := fold_mem _ e
    obtain ⟨c, t, kk, g1, g2⟩ := cand_some h2
    obtain ⟨b1, b2, b3⟩ := ih (i + m) (c, t, kk) (by omega) g1
    have b1 : c + (i + m) ≤ u := b1
    have b2 : t + nS (i + m) ≤ nS u := b2
    have b3 : kk ≤ k := b3
    rcases g2 with ⟨z, rfl⟩ | ⟨z1, z2, rfl⟩
    · subst z
      exact ⟨b1, b2, by show kk ≤ k + 1; omega⟩
    · have o1 := ok.2.2.1 i (i + m) (by omega) (by omega) z2
      have o2 := ok.2.2.2 (w - (k + 1)) i (i + m) (by omega) (by omega)
      refine ⟨?_, ?_, ?_⟩
      · show c + h (w - (k + 1)) i (i + m) + i ≤ u; omega
      · show t + P i (i + m) + nS i ≤ nS u; omega
      · show kk + 1 ≤ k + 1; omega
theorem GG_small {u w : Nat} {P : Nat → Nat → Nat} {h : Nat → Nat → Nat → Nat} {nS : Nat → Nat} (ok : okR u P h nS) {k i : Nat} (hk : k ≤ 12) (hi : i ≤ u) {x : Nat × Nat × Nat} (e : GG u w P h k i = some x) : small3 x := by
  obtain ⟨b1, b2, b3⟩ := GG_b ok k i x hi e
  obtain ⟨o1, o2, -, -⟩ := ok
  exact ⟨by omega, by omega, by omega⟩
theorem cand_small {u w : Nat} {P : Nat → Nat → Nat} {h : Nat → Nat → Nat → Nat} {nS : Nat → Nat} (ok : okR u P h nS) {k i n r : Nat} (hk : k < 12) (hi : i + n ≤ u) {x : Nat × Nat × Nat} (e : cand (GG u w P h k) P (h r) i n = some x) : small3 x := by
  obtain ⟨c, t, kk, g1, g2⟩ := cand_some e
  obtain ⟨b1, b2, b3⟩ := GG_b ok k (i + n) _ hi g1
  have b1 : c + (i + n) ≤ u := b1
  have b2 : t + nS (i + n) ≤ nS u := b2
  have b3 : kk ≤ k := b3
  obtain ⟨o1, o2, o3, o4⟩ := ok
  rcases g2 with ⟨z, rfl⟩ | ⟨z1, z2, rfl⟩
  · exact ⟨by show c ≤ 48; omega, by show t ≤ 160; omega, by show kk ≤ 12; omega⟩
  · have p1 := o3 i (i + n) (by omega) hi z2
    have p2 := o4 r i (i + n) (by omega) hi
    exact ⟨by show c + h r i (i + n) ≤ 48; omega, by show t + P i (i + n) ≤ 160; omega, by show kk + 1 ≤ 12; omega⟩
/-- the first that is worth so much -/
def fnd (f : Nat → Nat) (e : Nat) : Nat → Nat → Nat
  | 0, n => n
  | j + 1, n => if f n = e then n else fnd f e j (n + 1)
theorem fnd_spec {f : Nat → Nat} {e : Nat} : ∀ j n, (∃ m, n ≤ m ∧ m ≤ n + j ∧ f m = e) → f (fnd f e j n) = e ∧ n ≤ fnd f e j n ∧ fnd f e j n ≤ n + j ∧ ∀ m, n ≤ m → m < fnd f e j n → ¬ f m = e := by
  intro j
  induction j with
  | zero =>
    intro n ⟨m, h1, h2, h3⟩
    have : m = n := by omega
    subst this
    exact ⟨h3, Nat.le_refl _, Nat.le_refl _, fun k h4 h5 => absurd h5 (by show ¬ k < m; omega)⟩
  | succ j ih =>
    intro n ⟨m, h1, h2, h3⟩
    unfold fnd
    by_cases c : f n = e
    · rw [if_pos c]
      exact ⟨c, by omega, by omega, fun k h4 h5 => by omega⟩
    · rw [if_neg c]
      obtain ⟨q1, q2, q3, q4⟩ := ih (n + 1) ⟨m, by
        by_cases e2 : m = n
        · subst e2; exact absurd h3 c
        · omega, by omega, h3⟩
      exact ⟨q1, by omega, by omega, fun k h4 h5 => by
        by_cases e2 : k = n
        · subst e2; exact c
        · exact q4 k (by omega) h5⟩
theorem fold_hit {f : Nat → Option (Nat × Nat × Nat)} {n : Nat} {x : Nat × Nat × Nat} (h : foldB f n = some x) : ∃ m, m < n ∧ encO (f m) = encO (foldB f n) := by
  obtain ⟨m, h1, h2⟩ := fold_mem n h
  exact ⟨m, h1, by rw [h, h2]⟩
