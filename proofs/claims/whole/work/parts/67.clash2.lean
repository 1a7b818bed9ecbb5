/-! clash -/
theorem fo_some {p : Nat → Nat → Bool} {w : Int} {s : Nat} : ∀ (j a n b c : Nat), a + j = s → (fo p w s j a n).2 = some (b, c) → ((fo p w s j a n).1 : Int) = w ∧ b < s ∧ c < s := by
  intro j
  induction j with
  | zero => intro a n b c _ h; cases h
  | succ j ih =>
    intro a n b c hs h
    unfold fo at h ⊢
    have hf := fi_some (q := p a) (w := w) (s - (a + 1)) (a + 1) n
    generalize fi (p a) w (s - (a + 1)) (a + 1) n = r at h hf ⊢
    obtain ⟨n', o⟩ := r
    cases o with
    | none => exact ih (a + 1) n' b c (by omega) h
    | some d =>
      have e : a = b ∧ d = c := by simpa using h
      have := hf d rfl
      exact ⟨this.1, by omega, by omega⟩
section Clash2
variable {l : Launch} {D : va_G} {ad : Nat → Nat} {kA : Nat → ClassId} {M : Mem} {Q : Outcome → Mem → Prop}
/-- what clash answers of a pair -/
def clA (M : Mem) (y : Int32) : Option (Nat × Nat) → Int32
  | none => (-1)
  | some (a, b) => if y = 0 then nI a else if y = 1 then nI b else if y = 2 then imin (endS M a) (endS M b) - gI M 56 b else (-1)
theorem lp_cl20 {x y : Int32} {a : Nat} (hs : 0 ≤ (gI M 54 10).toInt ∧ (gI M 54 10).toInt ≤ 160) (ha : (a : Int) < (gI M 54 10).toInt) : ∀ (j i n : Nat), (i : Int) + j = (gI M 54 10).toInt → n + j ≤ 100000 →
    ((fi (clB M a) x.toInt j i n).2 = none → Fw l D ad kA mX13_clash 5 [some (.ref (ad 54)), some (.int x), some (.int y), some (.int (nI (fi (clB M a) x.toInt j i n).1)), some (.int (nI (a + 1))), none] [] M Q) →
    (∀ b, (fi (clB M a) x.toInt j i n).2 = some b → Q (.returned (some (.int (clA M y (some (a, b)))))) M) →
    Fw l D ad kA mX13_clash 20 [some (.ref (ad 54)), some (.int x), some (.int y), some (.int (nI n)), some (.int (nI a)), some (.int (nI i))] [] M Q := by
  intro j
  induction j with
  | zero =>
    intro i n hi hn K1 K2
    have hle : gI M 54 10 ≤ nI i := by rw [i_le, i_nI (by omega)]; omega
    refine t_X13_clash_20 (fun _ => ?_) (fun q => absurd hle q)
    rw [nI_1]
    exact K1 rfl
  | succ j ih =>
    intro i n hi hn K1 K2
    have hnle : ¬ gI M 54 10 ≤ nI i := by rw [i_le, i_nI (by omega)]; omega
    have hcl : (nI i).toNatClampNeg = i := nI_clamp (by omega)
    have n10 : ¬ (1 : Int32) = 0 := by decide
    have wi : nI n = x ↔ (n : Int) = x.toInt := by rw [i_eq, i_nI (by omega)]
    refine t_X13_clash_20 (fun q => absurd q hnle) (fun _ => ct_isClash hs ha (by omega) ⟨_, rfl, ?_⟩)
    unfold fi at K1 K2
    by_cases q : clB M a i = true
    · rw [if_pos q]
      by_cases hw : (n : Int) = x.toInt
      · simp only [if_pos q, if_pos hw] at K1 K2
        have K3 := K2 i rfl
        have hw2 := wi.mpr hw
        unfold clA at K3
        refine t_X13_clash_37 (fun _ c => absurd hw2 c) (fun _ _ c0 c1 c2 => ?_) (fun _ _ c0 c1 c2 => ?_) (fun _ _ c0 c1 => ?_) (fun _ _ c0 => ?_) (fun c => absurd c n10)
        · simp only [if_neg c0, if_neg c1, if_neg c2] at K3; exact K3
        · simp only [if_neg c0, if_neg c1, if_pos c2] at K3
          refine ct_endOf hs ha ⟨_, rfl, t_X13_clash_78 (ct_endOf hs (by omega) ⟨_, rfl, t_X13_clash_84 (ix (by omega)) ?_⟩)⟩
          rw [hcl]
          exact K3
        · simp only [if_neg c0, if_pos c1] at K3; exact K3
        · simp only [if_pos c0] at K3; exact K3
      · simp only [if_pos q, if_neg hw] at K1 K2
        have hw2 : ¬ nI n = x := fun z => hw (wi.mp z)
        refine t_X13_clash_37 (fun _ _ => ?_) (fun _ c => absurd c hw2) (fun _ c => absurd c hw2) (fun _ c => absurd c hw2) (fun _ c => absurd c hw2) (fun c => absurd c n10)
        rw [nI_1, nI_1]
        exact ih (i + 1) (n + 1) (by omega) (by omega) K1 K2
    · rw [if_neg q]
      simp only [if_neg q] at K1 K2
      refine t_X13_clash_37 (fun c => absurd rfl c) (fun c => absurd rfl c) (fun c => absurd rfl c) (fun c => absurd rfl c) (fun c => absurd rfl c) (fun _ => ?_)
      rw [nI_1]
      exact ih (i + 1) n (by omega) (by omega) K1 K2
theorem lp_cl5 {x y : Int32} (hs : 0 ≤ (gI M 54 10).toInt ∧ (gI M 54 10).toInt ≤ 160) (s : Nat) (hss : (s : Int) = (gI M 54 10).toInt) : ∀ (j a n : Nat), a + j = s → n + 160 * j ≤ 50000 →
    Q (.returned (some (.int (clA M y (fo (clB M) x.toInt s j a n).2)))) M →
    Fw l D ad kA mX13_clash 5 [some (.ref (ad 54)), some (.int x), some (.int y), some (.int (nI n)), some (.int (nI a)), none] [] M Q := by
  intro j
  induction j with
  | zero =>
    intro a n hi hn K
    have hle : gI M 54 10 ≤ nI a := by rw [i_le, i_nI (by omega)]; omega
    exact t_X13_clash_5 (fun _ => K) (fun q => absurd hle q)
  | succ j ih =>
    intro a n hi hn K
    have hnle : ¬ gI M 54 10 ≤ nI a := by rw [i_le, i_nI (by omega)]; omega
    refine t_X13_clash_5 (fun q => absurd q hnle) (fun _ => ?_)
    rw [nI_1]
    have hb := fi_le (q := clB M a) (w := x.toInt) (s - (a + 1)) (a + 1) n
    unfold fo at K
    refine lp_cl20 hs (by omega) (s - (a + 1)) (a + 1) n (by omega) (by omega) (fun z => ?_) (fun b z => ?_)
    · generalize fi (clB M a) x.toInt (s - (a + 1)) (a + 1) n = r at z K hb ⊢
      obtain ⟨n', o⟩ := r
      subst z
      exact ih (a + 1) n' (by omega) (by simp only at hb; omega) K
    · generalize fi (clB M a) x.toInt (s - (a + 1)) (a + 1) n = r at z K hb ⊢
      obtain ⟨n', o⟩ := r
      subst z
      exact K
theorem fo_neg {p : Nat → Nat → Bool} {w : Int} {s j a n : Nat} (hs : a + j = s) (hw : w < 0) : (fo p w s j a n).2 = none := by
  cases h : (fo p w s j a n).2 with
  | none => rfl
  | some r =>
    have := fo_some j a n r.1 r.2 hs h
    omega
theorem pr_clash {x y : Int32} (hs : RScore M) (he : REnds M) : Two l D ad kA mX11_clash mX13_clash [.int x, .int y] M (fun M2 => Fr sClash M M2) := by
  have s1 := hs.1
  have s2 := hs.2.1
  obtain ⟨s, -, hss, -⟩ := i_nat s2.1
  have q0 := n0
  have mod : ∀ M', Fr sClash M M' → ∀ r, r = clA M' y (fo (clB M') x.toInt s s 0 0).2 → Cal l D ad kA mX13_clash (.ref (ad 54) :: [.int x, .int y]) M' (fun oc2 M2 => oc2 = .returned (some (.int r)) ∧ Fr sClash M M2) := by
    intro M' hf r hr
    refine en_X13_clash (t_X13_clash_0 ?_)
    exact lp_cl5 (by rw [sc_of s1 hf]; exact s2) s (by rw [sc_of s1 hf]; exact hss) s 0 0 (by omega) (by omega) ⟨by rw [hr], hf⟩
  refine en_X11_clash (t_X11_clash_0 (fun c => ⟨_, rfl, mod M Fr.rf _ ?_⟩) (fun c => ct_walkTo hs he s hss (fun z => ⟨_, rfl, ?_⟩) (fun a b z => ⟨_, rfl, ?_⟩)))
  · rw [i_lt] at c
    rw [fo_neg (by omega) (by omega)]
    rfl
  · have hM : ∀ M', clB M' = clB M → (-1) = clA M' y (fo (clB M') x.toInt s s 0 0).2 := by
      intro M' e
      rw [e, z]
      rfl
    refine t_X11_clash_12 (fun _ c => absurd rfl c) (fun _ => ⟨_, rfl, mod _ ((Fr.rf.sI rfl).sI rfl) _ (hM _ rfl)⟩) (fun _ c => absurd rfl c) (fun _ c => absurd rfl c) (fun _ c => absurd rfl c) (fun _ c => absurd rfl c) (fun _ _ => ⟨_, rfl, mod _ ((Fr.rf.sI rfl).sI rfl) _ (hM _ rfl)⟩)
  · obtain ⟨w1, w2, w3⟩ := fo_some s 0 0 a b (by omega) z
    have ew : nI (fo (clB M) x.toInt s s 0 0).1 = x := by
      have := i_rng x
      rw [i_eq, i_nI (by omega)]; exact w1
    rw [ew]
    generalize hM1 : sI (sI (sI (sI M 32 2 (-1)) 32 3 (-1)) 32 2 (nI a)) 32 3 (nI b) = M1
    have f1 : Fr sClash M M1 := by rw [← hM1]; exact (((Fr.rf.sI rfl).sI rfl).sI rfl).sI rfl
    have g2 : gI M1 32 2 = nI a := by rw [← hM1]; rfl
    have g3 : gI M1 32 3 = nI b := by rw [← hM1]; rfl
    have hM : ∀ r, r = clA M1 y (some (a, b)) → r = clA M1 y (fo (clB M1) x.toInt s s 0 0).2 := by
      intro r hr
      have : clB M1 = clB M := by rw [← hM1]; rfl
      rw [this, z, hr]
    have hca : (nI a).toNatClampNeg = a := nI_clamp (by omega)
    have hcb : (nI b).toNatClampNeg = b := nI_clamp (by omega)
    have e9 : gI M1 9 4 = gI M 9 4 := f1.1 9 4 rfl
    have ha0 : ¬ v_X9_hasNumber M1 (nI a) = 0 := by rw [num0, e9, i_nI (by omega)]; omega
    have hb0 : ¬ v_X9_hasNumber M1 (nI b) = 0 := by rw [num0, e9, i_nI (by omega)]; omega
    have n10 : ¬ (1 : Int32) = 0 := by decide
    refine t_X11_clash_12 (fun _ _ _ _ _ => ⟨fun _ _ => by rw [g2]; exact ix (by omega), fun _ _ => by rw [g3]; exact ix (by omega)⟩) (fun c => absurd rfl c) (fun _ _ c0 => ⟨_, rfl, mod _ f1 _ (hM _ ?_)⟩) (fun _ _ c0 c1 => ⟨_, rfl, mod _ f1 _ (hM _ ?_)⟩) (fun _ _ c0 c1 c2 => ⟨_, rfl, mod _ f1 _ (hM _ ?_)⟩) (fun _ _ c0 c1 c2 => ⟨_, rfl, mod _ f1 _ (hM _ ?_)⟩) (fun _ c => absurd (by rw [← g2]; exact c) (nI_ne (a := a) (by omega)))
    · unfold clA; simp only [if_pos c0]; exact g2
    · unfold clA; simp only [if_neg c0, if_pos c1]; exact g3
    · unfold clA; simp only [if_neg c0, if_neg c1, if_pos c2]
      unfold v_X8_beatsOfBoth
      rw [g2, g3, if_neg ha0, if_neg hb0, hca, hcb]
      have h1 : gI M1 33 a = endS M1 a := by
        have := he a (by omega)
        rw [← hM1]; exact this
      have h2 : gI M1 33 b = endS M1 b := by
        have := he b (by omega)
        rw [← hM1]; exact this
      have h3 : gI M1 10 b = gI M1 56 b := by
        have := (hs.2.2.1 b (by omega)).1.1
        rw [← hM1]; exact this
      rw [h1, h2, h3]
    · unfold clA; simp only [if_neg c0, if_neg c1, if_neg c2]
end Clash2
