/-! help: the search, purely and on both sides -/
def st1 (c : Bool) (v : Nat) (k o : Int32) (st : Nat × Int32 × Int32) : Nat × Int32 × Int32 := if c = true ∧ v < st.1 then (v, k, o) else st
def hpS (on : Nat → Bool) (c1 c2 : Bool) (A B1 B2 : Nat → Nat) (o1 o2 : Int32) : Nat → Nat → Nat × Int32 × Int32 → Nat × Int32 × Int32
  | 0, _, st => st
  | j + 1, i, st => hpS on c1 c2 A B1 B2 o1 o2 j (i + 1) (if on i = true then st1 c2 (A i + B2 i) (nI i) o2 (st1 c1 (A i + B1 i) (nI i) o1 st) else st)
theorem st1_le {c : Bool} {v : Nat} {k o : Int32} {st : Nat × Int32 × Int32} : (st1 c v k o st).1 ≤ st.1 ∧ ((st1 c v k o st).1 = st.1 → st1 c v k o st = st) := by
  unfold st1
  split
  · rename_i h
    exact ⟨by show v ≤ st.1; omega, fun z => by have z : v = st.1 := z; omega⟩
  · exact ⟨Nat.le_refl _, fun _ => rfl⟩
theorem st1_rel {c : Bool} {v : Nat} {k o : Int32} {a b : Nat × Int32 × Int32} (h1 : a.1 = b.1) (h2 : a.1 < 1000000 → a = b) : (st1 c v k o a).1 = (st1 c v k o b).1 ∧ ((st1 c v k o a).1 < 1000000 → st1 c v k o a = st1 c v k o b) := by
  unfold st1
  rw [← h1]
  split
  · exact ⟨rfl, fun _ => rfl⟩
  · exact ⟨h1, h2⟩
section HelpP
variable {on : Nat → Bool} {c1 c2 : Bool} {A B1 B2 : Nat → Nat} {o1 o2 : Int32}
theorem hp_le : ∀ (j i : Nat) (st : Nat × Int32 × Int32), (hpS on c1 c2 A B1 B2 o1 o2 j i st).1 ≤ st.1 ∧ ((hpS on c1 c2 A B1 B2 o1 o2 j i st).1 = st.1 → hpS on c1 c2 A B1 B2 o1 o2 j i st = st) := by
  intro j
  induction j with
  | zero => intro i st; exact ⟨Nat.le_refl _, fun _ => rfl⟩
  | succ j ih =>
    intro i st
    show (hpS on c1 c2 A B1 B2 o1 o2 j (i + 1) (if on i = true then st1 c2 (A i + B2 i) (nI i) o2 (st1 c1 (A i + B1 i) (nI i) o1 st) else st)).1 ≤ st.1 ∧ ((hpS on c1 c2 A B1 B2 o1 o2 j (i + 1) (if on i = true then st1 c2 (A i + B2 i) (nI i) o2 (st1 c1 (A i + B1 i) (nI i) o1 st) else st)).1 = st.1 → hpS on c1 c2 A B1 B2 o1 o2 j (i + 1) (if on i = true then st1 c2 (A i + B2 i) (nI i) o2 (st1 c1 (A i + B1 i) (nI i) o1 st) else st) = st)
    have s1 := st1_le (c := c1) (v := A i + B1 i) (k := nI i) (o := o1) (st := st)
    have s2 := st1_le (c := c2) (v := A i + B2 i) (k := nI i) (o := o2) (st := st1 c1 (A i + B1 i) (nI i) o1 st)
    split
    · have h := ih (i + 1) (st1 c2 (A i + B2 i) (nI i) o2 (st1 c1 (A i + B1 i) (nI i) o1 st))
      refine ⟨by omega, fun z => ?_⟩
      rw [h.2 (by omega), s2.2 (by omega), s1.2 (by omega)]
    · exact ih (i + 1) st
theorem hp_rel : ∀ (j i : Nat) (a b : Nat × Int32 × Int32), a.1 = b.1 → (a.1 < 1000000 → a = b) → (hpS on c1 c2 A B1 B2 o1 o2 j i a).1 = (hpS on c1 c2 A B1 B2 o1 o2 j i b).1 ∧ ((hpS on c1 c2 A B1 B2 o1 o2 j i a).1 < 1000000 → hpS on c1 c2 A B1 B2 o1 o2 j i a = hpS on c1 c2 A B1 B2 o1 o2 j i b) := by
  intro j
  induction j with
  | zero => intro i a b h1 h2; exact ⟨h1, h2⟩
  | succ j ih =>
    intro i a b h1 h2
    unfold hpS
    split
    · have s1 := st1_rel (c := c1) (v := A i + B1 i) (k := nI i) (o := o1) h1 h2
      have s2 := st1_rel (c := c2) (v := A i + B2 i) (k := nI i) (o := o2) s1.1 s1.2
      exact ih (i + 1) _ _ s2.1 s2.2
    · exact ih (i + 1) a b h1 h2
end HelpP
/-- a price of at most a row, or never -/
def okH (x : Nat) : Prop := x ≤ 300 ∨ 1000000 ≤ x
section HelpC
variable {l : Launch} {D : va_G} {ad : Nat → Nat} {kA : Nat → ClassId} {M M0 : Mem} {Q : Outcome → Mem → Prop} {s : Nat} {on : Nat → Bool} {c1 c2 : Bool} {A B1 B2 : Nat → Nat} {o1 o2 : Int32}
def s28 (c i : Nat) : Bool := c == 28 && (i == 3 || i == 4 || i == 8)
/-- what the class keeps of the search -/
def keptC (M : Mem) (st : Nat × Int32 × Int32) : Prop := gI M 28 8 = nE st.1 ∧ gI M 28 3 = st.2.1 ∧ gI M 28 4 = st.2.2 ∧ st.1 ≤ 1000000 ∧ okN st.1
theorem ct_keep {k a b : Nat} {x o : Int32} {c : Bool} {st : Nat × Int32 × Int32} (hk : k < 160) (hx : x = (-1) ↔ c = false) (hxo : c = true → x = o) (hs : keptC M st) (ha : gI M 29 k = nE a) (v : Int32) (hb : c = true → v = nE b) (oa : okH a) (ob : okH b)
    (K : ∀ M', Fr s28 M M' → keptC M' (st1 c (a + b) (nI k) o st) → Q (.returned none) M') : Cal l D ad kA mX4_keepIfLess [.ref (ad 28), .int (nI k), .int x, .int v] M Q := by
  obtain ⟨h1, h2, h3, h4, h5⟩ := id hs
  have hcl : (nI k).toNatClampNeg = k := nI_clamp (by omega)
  unfold okH at oa ob
  unfold okN at h5
  refine en_X4_keepIfLess (t_X4_keepIfLess_0 (ix hk) (fun q => ?_) (fun q1 q2 => ?_) (fun q1 q2 => ?_))
  · have : st1 c (a + b) (nI k) o st = st := if_neg (fun z => by rw [hx.mp q] at z; cases z.1)
    exact K M Fr.rf (by rw [this]; exact hs)
  · have hc : c = true := by
      cases c with
      | true => rfl
      | false => exact absurd (hx.mpr rfl) q1
    rw [hcl, ha, hb hc, h1, i_le, nE_add, nE_toInt, nE_toInt, nE_toInt] at q2
    have : st1 c (a + b) (nI k) o st = st := if_neg (fun z => by
      have := z.2
      rw [if_pos (by omega), if_pos (by omega)] at q2
      split at q2 <;> omega)
    exact K M Fr.rf (by rw [this]; exact hs)
  · have hc : c = true := by
      cases c with
      | true => rfl
      | false => exact absurd (hx.mpr rfl) q1
    rw [hcl, ha, hb hc, h1, i_le, nE_add, nE_toInt, nE_toInt, nE_toInt] at q2
    have lt : a + b < st.1 := by
      split at q2 <;> split at q2 <;> split at q2 <;> omega
    have : st1 c (a + b) (nI k) o st = (a + b, nI k, o) := if_pos ⟨hc, lt⟩
    rw [hcl, ha, hb hc]
    refine K _ (((Fr.rf.sI rfl).sI rfl).sI rfl) ?_
    rw [this]
    refine ⟨?_, rfl, hxo hc, by show a + b ≤ 1000000; omega, by show a + b ≤ 1000 ∨ _; omega⟩
    show nE a + nE b = nE (a + b)
    rw [i_eq, nE_add, nE_toInt, nE_toInt, nE_toInt, if_pos (by omega), if_pos (by omega), if_pos (by omega)]
    omega
theorem lp_sk84 {x2 x3 : Int32} {z4 : Int64} (hs : (s : Int) = (gI M0 9 4).toInt) (hsm : SameAll M0 s) (hb : ∀ a, a < s → 0 ≤ (gI M0 57 a).toInt ∧ (gI M0 57 a).toInt ≤ 47) (hon : ∀ k, k < s → on k = lb z4 (gI M0 57 k).toNatClampNeg)
    (hx2 : x2 = (-1) ↔ c1 = false) (hx3 : x3 = (-1) ↔ c2 = false) (ho1 : c1 = true → x2 = o1) (ho2 : c2 = true → x3 = o2) (hA : ∀ k, k < s → on k = true → gI M0 29 k = nE (A k)) (hB1 : c1 = true → ∀ k, k < s → on k = true → gI M0 30 k = nE (B1 k)) (hB2 : c2 = true → ∀ k, k < s → on k = true → gI M0 31 k = nE (B2 k)) (okA : ∀ k, okH (A k)) (okB1 : ∀ k, okH (B1 k)) (okB2 : ∀ k, okH (B2 k))
    {T : Nat × Int32 × Int32} (K : ∀ M', Fr s28 M0 M' → keptC M' T → Q (.returned (some (.int (nE T.1)))) M') : ∀ (j i : Nat) (M : Mem) (st : Nat × Int32 × Int32), i + j = s → Fr s28 M0 M → keptC M st → hpS on c1 c2 A B1 B2 o1 o2 j i st = T →
    Fw l D ad kA mX4_seek 84 [some (.ref (ad 28)), none, some (.int x2), some (.int x3), some (.long z4), none, some (.int (nI i))] [] M Q := by
  have hs160 := hsm.1
  intro j
  induction j with
  | zero =>
    intro i M st hi hf hk hT
    have hle : gI M 9 4 ≤ nI i := by rw [hf.1 9 4 rfl, i_le, i_nI (by omega)]; omega
    refine t_X4_seek_84 (fun q => absurd hle q) (fun q => absurd hle q) (fun _ => ?_) (fun q => absurd hle q) (fun q => absurd hle q)
    have hT : st = T := hT
    subst hT
    rw [hk.1]
    exact K M hf hk
  | succ j ih =>
    intro i M st hi hf hk hT
    have hnle : ¬ gI M 9 4 ≤ nI i := by rw [hf.1 9 4 rfl, i_le, i_nI (by omega)]; omega
    obtain ⟨b, eb, hb1, -⟩ := i_nat (hb i (by omega)).1
    have hb2 := (hb i (by omega)).2
    have e11 : gI M 11 i = nI b := by rw [hf.1 11 i rfl, (hsm.2.1 i (by omega)).2.1]; exact eb
    have h0 : v_X9_isOn M z4 (nI i) = 0 ↔ on i = false := by
      rw [isOn0 (by omega) e11 (by omega), hon i (by omega), eb, nI_clamp (by omega)]
    have hT : hpS on c1 c2 A B1 B2 o1 o2 j (i + 1) (if on i = true then st1 c2 (A i + B2 i) (nI i) o2 (st1 c1 (A i + B1 i) (nI i) o1 st) else st) = T := hT
    refine t_X4_seek_84 (fun _ => ix (by omega)) (fun _ _ => ix (by omega)) (fun q => absurd q hnle) (fun _ c => ?_) (fun _ c => ?_)
    · rw [h0] at c
      rw [if_neg (by rw [c]; decide)] at hT
      rw [nI_1]
      exact ih (i + 1) M st (by omega) hf hk hT
    · have co : on i = true := by
        cases e : on i with
        | true => rfl
        | false => exact absurd (h0.mpr e) c
      rw [if_pos co] at hT
      have hcl : (nI i).toNatClampNeg = i := nI_clamp (by omega)
      rw [hcl]
      refine ct_keep (by omega) hx2 ho1 hk (by rw [hf.1 29 i rfl]; exact hA i (by omega) co) _ (fun z => by rw [hf.1 30 i rfl]; exact hB1 z i (by omega) co) (okA i) (okB1 i) (fun M1 hf1 hk1 => ⟨rfl, t_X4_seek_124 (ix (by omega)) ?_⟩)
      rw [hcl]
      refine ct_keep (by omega) hx3 ho2 hk1 (by rw [hf1.1 29 i rfl, hf.1 29 i rfl]; exact hA i (by omega) co) _ (fun z => by rw [hf1.1 31 i rfl, hf.1 31 i rfl]; exact hB2 z i (by omega) co) (okA i) (okB2 i) (fun M2 hf2 hk2 => ⟨rfl, t_X4_seek_138 ?_⟩)
      rw [nI_1]
      exact ih (i + 1) M2 _ (by omega) ((hf.tr hf1).tr hf2) hk2 hT
def sHM2 (c i : Nat) : Bool := c == 69 || c == 70 || (c == 54 && (i == 31 || i == 42 || i == 43))
def keptM (M : Mem) (st : Nat × Int32 × Int32) : Prop := gI M 54 42 = st.2.1 ∧ gI M 54 43 = st.2.2 ∧ st.1 ≤ 1000000
theorem lp_hm27 {x : Int32} (hx : 0 ≤ x.toInt ∧ x.toInt ≤ 11) (hs : (s : Int) = (gI M0 54 10).toInt) (hs2 : s ≤ 160) (hb : ∀ a, a < s → 0 ≤ (gI M0 57 a).toInt ∧ (gI M0 57 a).toInt ≤ 47) (hon : ∀ k, k < s → (on k = true ↔ gI M0 68 (gI M0 57 k).toNatClampNeg = x))
    (hc1 : c1 = true ↔ (¬ v_X13_isRinger M0 (x - 1) = 0 ∧ gI M0 67 (x - 1).toNatClampNeg = 0)) (hc2 : c2 = true ↔ (¬ v_X13_isRinger M0 (x + 1) = 0 ∧ gI M0 67 (x + 1).toNatClampNeg = 0)) (hin : ∀ y : Int32, ¬ v_X13_isRinger M0 y = 0 → vp_in y 12)
    (hA : ∀ k, k < s → on k = true → Ff (mvP M0) (hlP M0) none none (flP (tw M0 x (nI k) (-1)) s) = A k) (hB1 : ∀ k, k < s → on k = true → Ff (mvP M0) (hlP M0) none none (flP (tw M0 (x - 1) (-1) (nI k)) s) = B1 k) (hB2 : ∀ k, k < s → on k = true → Ff (mvP M0) (hlP M0) none none (flP (tw M0 (x + 1) (-1) (nI k)) s) = B2 k) (okA : ∀ k, okH (A k)) (okB1 : ∀ k, okH (B1 k)) (okB2 : ∀ k, okH (B2 k))
    {T : Nat × Int32 × Int32} (K1 : T.1 < 1000000 → ∀ M', Fr sHM2 M0 M' → keptM M' T → Q (.returned (some (.int (nI T.1)))) (sI M' 54 44 1)) (K2 : ¬ T.1 < 1000000 → ∀ M', Fr sHM2 M0 M' → keptM M' T → Q (.returned (some (.int (-1)))) M') : ∀ (j i : Nat) (M : Mem) (st : Nat × Int32 × Int32), i + j = s → Fr sHM2 M0 M → keptM M st → hpS on c1 c2 A B1 B2 (x - 1) (x + 1) j i st = T →
    Fw l D ad kA mX13_help 27 [some (.ref (ad 54)), some (.int x), some (.int (nI st.1)), some (.int (nI i)), none, none, none] [] M Q := by
  have q1 := n1
  have n2 : (2 : Int32).toInt = 2 := by decide
  have em : x - 1 + 2 = x + 1 := by rw [i_eq, i_add, i_add, i_sub, q1, n2] <;> (try rw [i_sub]) <;> (try rw [q1]) <;> (try rw [n2]) <;> omega
  have l1 : ¬ x + 1 < x - 1 := by rw [i_lt, i_add, i_sub, q1] <;> (try rw [q1]) <;> omega
  have l2 : ¬ x + 1 < x + 1 := by rw [i_lt]; omega
  have l3 : x + 1 < x + 1 + 2 := by rw [i_lt, i_add (x := x + 1), i_add, q1, n2] <;> (try rw [i_add]) <;> (try rw [q1]) <;> (try rw [n2]) <;> omega
  have costs : ∀ M, Fr sHM2 M0 M → mvP M = mvP M0 ∧ hlP M = hlP M0 ∧ (∀ a b c, tw M a b c = tw M0 a b c) ∧ (∀ y, v_X13_isRinger M y = v_X13_isRinger M0 y) ∧ (∀ i, gI M 67 i = gI M0 67 i) := by
    intro M hf
    obtain ⟨a1, a2⟩ := costs_fr hf (fun i => ⟨rfl, rfl, rfl, rfl, rfl⟩)
    refine ⟨a1, a2, fun a b c => ?_, fun y => ?_, fun i => hf.1 67 i rfl⟩
    · funext k
      unfold tw
      rw [hf.1 57 k rfl, hf.1 68 _ rfl]
    · unfold v_X13_isRinger
      rw [hf.1 54 23 rfl]
  have takes : ∀ (r a b : Int32) (M : Mem) (Q' : Outcome → Mem → Prop), Fr sHM2 M0 M → (∀ M', Fr sTakesM M M' → Q' (.returned (some (.int (nI (min 1000000 (Ff (mvP M0) (hlP M0) none none (flP (tw M0 r a b) s))))))) M') → Cal l D ad kA mX13_takesWith [.ref (ad 54), .int r, .int a, .int b] M Q' := by
    intro r a b M Q' hf k
    obtain ⟨a1, a2, a3, -, -⟩ := costs M hf
    refine ct_takesWith (s := s) (by rw [hf.1 54 10 rfl]; exact hs) hs2 (fun a ha => by rw [hf.1 57 a rfl]; exact hb a ha) (fun M' hf' => ?_)
    rw [a1, a2, a3]
    exact k M' hf'
  have mono : ∀ M M', Fr sTakesM M M' → Fr sHM2 M M' := fun M M' hf => hf.mono (fun c i q => by simp [sHM2] at q; simp [sTakesM]; omega)
  have keep : ∀ M M' st, Fr sTakesM M M' → keptM M st → keptM M' st := fun M M' st hf hk => ⟨by rw [hf.1 54 42 rfl]; exact hk.1, by rw [hf.1 54 43 rfl]; exact hk.2.1, hk.2.2⟩
  -- one neighbour
  have one : ∀ (y : Int32) (c : Bool) (a b k : Nat) (M : Mem) (st : Nat × Int32 × Int32), k < s → (c = true ↔ (¬ v_X13_isRinger M0 y = 0 ∧ gI M0 67 y.toNatClampNeg = 0)) → ¬ x + 1 < y → okH a → okH b → Ff (mvP M0) (hlP M0) none none (flP (tw M0 y (-1) (nI k)) s) = b → Fr sHM2 M0 M → keptM M st →
      (st.1 ≤ a → Fw l D ad kA mX13_help 27 [some (.ref (ad 54)), some (.int x), some (.int (nI st.1)), some (.int (nI (k + 1))), none, none, none] [] M Q) →
      (a < st.1 → ∀ M', Fr sHM2 M0 M' → keptM M' (st1 c (a + b) (nI k) y st) → Fw l D ad kA mX13_help 67 [some (.ref (ad 54)), some (.int x), some (.int (nI (st1 c (a + b) (nI k) y st).1)), some (.int (nI k)), some (.int (nI (min 1000000 a))), some (.int (y + 2)), none] [] M' Q) →
      Fw l D ad kA mX13_help 67 [some (.ref (ad 54)), some (.int x), some (.int (nI st.1)), some (.int (nI k)), some (.int (nI (min 1000000 a))), some (.int y), none] [] M Q := by
    intro y c a b k M st hk hc hy oa ob hB hf hkp k1 k2
    obtain ⟨-, -, -, a4, a5⟩ := costs M hf
    have h4 := hkp.2.2
    unfold okH at oa ob
    have cmp : nI st.1 ≤ nI (min 1000000 a) ↔ st.1 ≤ a := by rw [nI_leI (by omega) (by omega)]; omega
    refine t_X13_help_67 (fun _ _ q => by rw [a4] at q; exact hin y q) (fun q => absurd q hy) (fun _ q => by rw [nI_1]; exact k1 (cmp.mp q)) (fun _ q1' q2 => ?_) (fun _ q1' q2 q3 => ?_) (fun _ q1' q2 q3 => ?_)
    · have hlt : a < st.1 := Nat.lt_of_not_le (fun z => q1' (cmp.mpr z))
      rw [a4] at q2
      have e : st1 c (a + b) (nI k) y st = st := if_neg (fun z => (hc.mp z.1).1 q2)
      have := k2 hlt M hf (by rw [e]; exact hkp)
      rw [e] at this
      exact this
    · have hlt : a < st.1 := Nat.lt_of_not_le (fun z => q1' (cmp.mpr z))
      rw [a4] at q2
      rw [a5] at q3
      have hct : c = true := hc.mpr ⟨q2, q3⟩
      refine takes y (-1) (nI k) M _ hf (fun M1 hf1 => ⟨_, rfl, ?_⟩)
      rw [hB]
      have hf1' := hf.tr (mono M M1 hf1)
      have hk1 := keep M M1 st hf1 hkp
      have cmp2 : nI (min 1000000 a) + nI (min 1000000 b) < nI st.1 ↔ a + b < st.1 := by rw [nI_add, nI_ltI (by omega) (by omega)]; omega
      refine t_X13_help_113 (fun q => ?_) (fun q => ?_)
      · rw [cmp2] at q
        have e : st1 c (a + b) (nI k) y st = (a + b, nI k, y) := if_pos ⟨hct, q⟩
        have := k2 hlt (sI (sI M1 54 42 (nI k)) 54 43 y) ((hf1'.sI rfl).sI rfl) (by rw [e]; exact ⟨rfl, rfl, by show a + b ≤ 1000000; omega⟩)
        rw [e] at this
        rw [nI_add, show min 1000000 a + min 1000000 b = a + b by omega]
        exact this
      · rw [cmp2] at q
        have e : st1 c (a + b) (nI k) y st = st := if_neg (fun z => q z.2)
        have := k2 hlt M1 hf1' (by rw [e]; exact hk1)
        rw [e] at this
        exact this
    · have hlt : a < st.1 := Nat.lt_of_not_le (fun z => q1' (cmp.mpr z))
      rw [a5] at q3
      have e : st1 c (a + b) (nI k) y st = st := if_neg (fun z => q3 (hc.mp z.1).2)
      have := k2 hlt M hf (by rw [e]; exact hkp)
      rw [e] at this
      exact this
  intro j
  induction j with
  | zero =>
    intro i M st hi hf hk hT
    have hle : gI M 54 10 ≤ nI i := by rw [hf.1 54 10 rfl, i_le, i_nI (by omega)]; omega
    have hT : st = T := hT
    subst hT
    have h4 := hk.2.2
    have cmp : nI st.1 < 1000000 ↔ st.1 < 1000000 := by rw [show (1000000 : Int32) = nI 1000000 from rfl, nI_ltI (by omega) (by omega)]
    exact t_X13_help_27 (fun q => absurd hle q) (fun q => absurd hle q) (fun _ q => K1 (cmp.mp q) M hf hk) (fun _ q => K2 (fun z => q (cmp.mpr z)) M hf hk) (fun q => absurd hle q) (fun q => absurd hle q)
  | succ j ih =>
    intro i M st hi hf hk hT
    have hnle : ¬ gI M 54 10 ≤ nI i := by rw [hf.1 54 10 rfl, i_le, i_nI (by omega)]; omega
    have hcl : (nI i).toNatClampNeg = i := nI_clamp (by omega)
    have e57 : gI M 57 i = gI M0 57 i := hf.1 57 i rfl
    have hbi := hb i (by omega)
    have hT : hpS on c1 c2 A B1 B2 (x - 1) (x + 1) j (i + 1) (if on i = true then st1 c2 (A i + B2 i) (nI i) (x + 1) (st1 c1 (A i + B1 i) (nI i) (x - 1) st) else st) = T := hT
    refine t_X13_help_27 (fun _ => ix (by omega)) (fun _ => by rw [hcl, e57]; exact vin_of (by omega) (by omega)) (fun q => absurd q hnle) (fun q => absurd q hnle) (fun _ c => ?_) (fun _ c => ?_)
    · rw [hcl, e57, hf.1 68 _ rfl] at c
      have co := (hon i (by omega)).mpr c
      rw [if_pos co] at hT
      refine takes x (nI i) (-1) M _ hf (fun M1 hf1 => ⟨_, rfl, t_X13_help_60 ?_⟩)
      rw [hA i (by omega) co]
      have hf1' := hf.tr (mono M M1 hf1)
      have hk1 := keep M M1 st hf1 hk
      refine one (x - 1) c1 (A i) (B1 i) i M1 st (by omega) hc1 l1 (okA i) (okB1 i) (hB1 i (by omega) co) hf1' hk1 (fun q => ?_) (fun q M2 hf2 hk2 => ?_)
      · have e1 : st1 c1 (A i + B1 i) (nI i) (x - 1) st = st := if_neg (fun z => by have := z.2; omega)
        have e2 : st1 c2 (A i + B2 i) (nI i) (x + 1) st = st := if_neg (fun z => by have := z.2; omega)
        rw [e1, e2] at hT
        exact ih (i + 1) M1 st (by omega) hf1' hk1 hT
      · rw [em]
        refine one (x + 1) c2 (A i) (B2 i) i M2 (st1 c1 (A i + B1 i) (nI i) (x - 1) st) (by omega) hc2 l2 (okA i) (okB2 i) (hB2 i (by omega) co) hf2 hk2 (fun q => ?_) (fun q M3 hf3 hk3 => ?_)
        · have e2 : st1 c2 (A i + B2 i) (nI i) (x + 1) (st1 c1 (A i + B1 i) (nI i) (x - 1) st) = st1 c1 (A i + B1 i) (nI i) (x - 1) st := if_neg (fun z => by have := z.2; omega)
          rw [e2] at hT
          exact ih (i + 1) M2 _ (by omega) hf2 hk2 hT
        · refine t_X13_help_67 (fun q => absurd l3 q) (fun _ => ?_) (fun q => absurd l3 q) (fun q => absurd l3 q) (fun q => absurd l3 q) (fun q => absurd l3 q)
          rw [nI_1]
          exact ih (i + 1) M3 _ (by omega) hf3 hk3 hT
    · rw [hcl, e57, hf.1 68 _ rfl] at c
      have co : ¬ on i = true := fun z => c ((hon i (by omega)).mp z)
      rw [if_neg co] at hT
      rw [nI_1]
      exact ih (i + 1) M st (by omega) hf hk hT
end HelpC
