/-! HELP: weighWith; the model's takesWith -/
section WeighW
variable {l : Launch} {D : va_G} {ad : Nat → Nat} {kA : Nat → ClassId} {M M0 : Mem} {Q : Outcome → Mem → Prop} {s t : Nat} {p : Nat → Bool}
def s21t (t c i : Nat) : Bool := c == 21 || c == t
theorem isOn0 {z : Int64} {k : Nat} (hk : k < 160) {b : Nat} (e : gI M 11 k = nI b) (hb : b < 48) : v_X9_isOn M z (nI k) = 0 ↔ lb z b = false := by
  unfold v_X9_isOn
  rw [nI_clamp (by omega), e, ← on_u (by omega)]
  constructor
  · intro q
    apply Classical.byContradiction
    intro w
    rw [if_neg w] at q
    exact absurd q (by decide)
  · intro q; rw [if_pos q]
theorem lp_ww19 {z3 : Int64} (ht : t = 30 ∨ t = 31) (ht2 : shL[t]? = some (.inl (0, 160))) (h : RowC M0 (flP p s) s) (hsm : SameAll M0 s) (hs : (s : Int) = (gI M0 9 4).toInt) (hb : ∀ a, a < s → 0 ≤ (gI M0 57 a).toInt ∧ (gI M0 57 a).toInt ≤ 47) (hr : RestOk M0 M0 (flP p s))
    (K : ∀ M', Fr (s21t t) M0 M' → (∀ k, k < s → lb z3 (gI M0 57 k).toNatClampNeg = true → p k = false → gI M' t k = nE (Ff (mvP M0) (hlP M0) none none (flP p k ++ k :: hiP p k s))) → Q (.returned none) M') : ∀ (j k : Nat) (M : Mem), k + j = s → Fr (s21t t) M0 M → PastOk M0 M (flP p s) (flP p k).length → (∀ k', k' < k → lb z3 (gI M0 57 k').toNatClampNeg = true → p k' = false → gI M t k' = nE (Ff (mvP M0) (hlP M0) none none (flP p k' ++ k' :: hiP p k' s))) →
    Fw l D ad kA mX3_weighWith 19 [some (.ref (ad 17)), none, none, some (.long z3), none, some (.ref (ad t)), some (.int (nI (flP p k).length)), some (.int (nI k))] [] M Q := by
  have h3 := h.2.2.1
  have hs160 := hsm.1
  intro j
  induction j with
  | zero =>
    intro k M hk hf hp hw
    have hle : gI M 9 4 ≤ nI k := by rw [hf.1 9 4 (by rcases ht with rfl | rfl <;> rfl), i_le, i_nI (by omega)]; omega
    exact t_X3_weighWith_19 ht2 (fun q => absurd hle q) (fun q => absurd hle q) (fun q => absurd hle q) (fun _ => K M hf (fun k' hk' => hw k' (by omega))) (fun q => absurd hle q) (fun q => absurd hle q) (fun q => absurd hle q) (fun q => absurd hle q) (fun q => absurd hle q)
  | succ j ih =>
    intro k M hk hf hp hw
    have hks : k < s := by omega
    have hnle : ¬ gI M 9 4 ≤ nI k := by rw [hf.1 9 4 (by rcases ht with rfl | rfl <;> rfl), i_le, i_nI (by omega)]; omega
    obtain ⟨c1, c2⟩ := costs_fr hf (fun i => by rcases ht with rfl | rfl <;> exact ⟨rfl, rfl, rfl, rfl, rfl⟩)
    have hrow := h.fr hf (by rcases ht with rfl | rfl <;> rfl) (fun _ => by rcases ht with rfl | rfl <;> rfl)
    have hsm' := hsm.fr hf (fun _ => by rcases ht with rfl | rfl <;> exact ⟨⟨rfl, rfl, rfl, rfl, rfl⟩, rfl, rfl, rfl, rfl, rfl⟩)
    have hr' := hr.fr h3 hf (fun _ => by rcases ht with rfl | rfl <;> exact ⟨rfl, rfl, rfl, rfl, rfl⟩) (by rcases ht with rfl | rfl <;> rfl) (fun _ => by rcases ht with rfl | rfl <;> rfl)
    have hp' : PastOk M M (flP p s) (flP p k).length := by unfold PastOk at hp ⊢; rw [c1, c2]; exact hp
    obtain ⟨b, eb, hb1, -⟩ := i_nat (hb k hks).1
    have hb2 := (hb k hks).2
    have e11 : gI M 11 k = nI b := by rw [hf.1 11 k (by rcases ht with rfl | rfl <;> rfl), (hsm.2.1 k hks).2.1]; exact eb
    have hon : v_X9_isOn M z3 (nI k) = 0 ↔ lb z3 (gI M0 57 k).toNatClampNeg = false := by
      rw [isOn0 (by omega) e11 (by omega), eb, nI_clamp (by omega)]
    have hlk : (flP p k).length ≤ k := rfl_len
    have eg : g_X9_isOn M z3 (nI k) := ix (by omega)
    have e5 := hrow.1
    by_cases pk : p k = true
    · have eL := fl_y hks pk
      have hlt : (flP p k).length < (flP p s).length := by rw [eL, List.length_append, List.length_cons]; omega
      have egt : (flP p s)[(flP p k).length] = k := by
        have : (flP p s)[(flP p k).length]? = some k := by
          rw [eL, List.getElem?_append_right (Nat.le_refl _), Nat.sub_self]; rfl
        rw [List.getElem?_eq_getElem hlt] at this
        exact Option.some.inj this
      have e19 : gI M 19 (nI (flP p k).length).toNatClampNeg = nI k := by rw [nI_clamp (by omega), (hrow.at hlt).1, egt]
      have hn : ¬ gI M 17 5 ≤ nI (flP p k).length := by rw [e5, nI_leI (by omega) (by omega)]; omega
      refine t_X3_weighWith_19 ht2 (fun _ q => absurd q hn) (fun _ _ => ix (by omega)) (fun _ _ q => absurd e19 q) (fun q => absurd q hnle) (fun _ q => absurd q hn) (fun _ q => absurd q hn) (fun _ _ q => absurd e19 q) (fun _ _ q => absurd e19 q) (fun _ _ _ => ct_stepForth hrow hsm' Fr.rf hlt hp' (fun M2 hf2 hp2 => ⟨rfl, t_X3_weighWith_58 ht2 ?_⟩))
      rw [nI_1, nI_1]
      have el : (flP p (k + 1)).length = (flP p k).length + 1 := by rw [fl_succ_y pk, List.length_append]; rfl
      have hf2' : Fr (s21t t) M M2 := hf2.mono (fun c i q => by simp [s21t] at q; simp [s21]; omega)
      rw [← el]
      refine ih (k + 1) M2 (by omega) (hf.tr hf2') ?_ (fun k' hk' a1 a2 => ?_)
      · rw [el]
        unfold PastOk at hp2 ⊢
        rw [c1, c2] at hp2
        exact hp2
      · have : ¬ k' = k := by
          intro e
          subst e
          rw [pk] at a2
          cases a2
        rw [hf2.1 t k' (by rcases ht with rfl | rfl <;> rfl)]
        exact hw k' (by omega) a1 a2
    · have pk : p k = false := by simpa using pk
      have eL := fl_n hks pk
      have el : flP p (k + 1) = flP p k := fl_succ_n pk
      have hne : ∀ hlt : (flP p k).length < (flP p s).length, ¬ gI M 19 (nI (flP p k).length).toNatClampNeg = nI k := by
        intro hlt
        rw [nI_clamp (by omega), (hrow.at hlt).1, nI_eq (by have := (hrow.at hlt).2; omega) (by omega)]
        intro e
        have hmem : (flP p s)[(flP p k).length]? = some k := by rw [List.getElem?_eq_getElem hlt, e]
        rw [eL, List.getElem?_append_right (Nat.le_refl _)] at hmem
        have := hi_ge (List.mem_of_getElem? hmem)
        omega
      have hlt5 : ¬ gI M 17 5 ≤ nI (flP p k).length → (flP p k).length < (flP p s).length := by
        intro c
        rw [e5, nI_leI (by omega) (by omega)] at c
        omega
      have hdle : (flP p k).length ≤ (flP p s).length := by rw [eL, List.length_append]; omega
      have skip : lb z3 (gI M0 57 k).toNatClampNeg = false → Fw l D ad kA mX3_weighWith 19 [some (.ref (ad 17)), none, none, some (.long z3), none, some (.ref (ad t)), some (.int (nI (flP p k).length)), some (.int (nI k + 1))] [] M Q := by
        intro hz
        have := ih (k + 1) M (by omega) hf (by rw [el]; exact hp) (fun k' hk' a1 a2 => hw k' (by
          by_cases e : k' = k
          · subst e; rw [hz] at a1; cases a1
          · omega) a1 a2)
        rw [el] at this
        rw [nI_1]
        exact this
      have ins : lb z3 (gI M0 57 k).toNatClampNeg = true → Cal l D ad kA mX3_takesInserting [.ref (ad 17), .int (nI k), .int (nI (flP p k).length)] M (fun oc M2 => ∃ r : Int32, oc = .returned (some (.int r)) ∧ Fw l D ad kA mX3_weighWith 89 [some (.ref (ad 17)), none, none, some (.long z3), none, some (.ref (ad t)), some (.int (nI (flP p k).length)), some (.int (nI k))] [.int r, .int (nI k), .ref (ad t)] M2 Q) := by
        intro hz
        refine ct_takesInserting hrow hsm' hr' Fr.rf hks hdle hp' ⟨_, rfl, t_X3_weighWith_89 ht2 (ix (by omega)) ?_⟩
        rw [nI_clamp (by omega), nI_1]
        have eT : (flP p s).take (flP p k).length = flP p k := by rw [eL]; exact List.take_left' rfl
        have eD : (flP p s).drop (flP p k).length = hiP p k s := by rw [eL]; exact List.drop_left' rfl
        rw [eT, eD, c1, c2]
        have := ih (k + 1) (sI M t k (nE (Ff (mvP M0) (hlP M0) none none (flP p k ++ k :: hiP p k s)))) (by omega) (hf.sI (by rcases ht with rfl | rfl <;> rfl)) (by
          rw [el]
          intro o ho
          rw [gI_o (by rcases ht with rfl | rfl <;> omega)]
          exact hp o ho) (fun k' hk' a1 a2 => by
          by_cases e : k' = k
          · subst e; rw [gI_self]
          · rw [gI_oi e]; exact hw k' (by omega) a1 a2)
        rw [el] at this
        exact this
      have nz : ¬ v_X9_isOn M z3 (nI k) = 0 → lb z3 (gI M0 57 k).toNatClampNeg = true := fun q => by
        cases e : lb z3 (gI M0 57 k).toNatClampNeg with
        | true => rfl
        | false => exact absurd (hon.mpr e) q
      exact t_X3_weighWith_19 ht2 (fun _ _ => eg) (fun _ q => ix (by omega)) (fun _ _ _ => eg) (fun q => absurd q hnle) (fun _ _ q => skip (hon.mp q)) (fun _ _ q => ins (nz q)) (fun _ _ _ q => skip (hon.mp q)) (fun _ _ _ q => ins (nz q)) (fun _ q1 q2 => absurd q2 (hne (hlt5 q1)))
def sWW (t c i : Nat) : Bool := c == 19 || c == 20 || (c == 17 && (i == 5 || i == 7)) || c == 21 || c == t
theorem ct_weighWith {z z3 : Int64} (ht : t = 30 ∨ t = 31) (ht2 : shL[t]? = some (.inl (0, 160))) (hs : (s : Int) = (gI M 9 4).toInt) (hsm : SameAll M s) (hb : ∀ a, a < s → 0 ≤ (gI M 57 a).toInt ∧ (gI M 57 a).toInt ≤ 47)
    (K : ∀ M', Fr (sWW t) M M' → (∀ k, k < s → lb z3 (gI M 57 k).toNatClampNeg = true → lb z (gI M 57 k).toNatClampNeg = false → gI M' t k = nE (Ff (mvP M) (hlP M) none none (flP (fun j => lb z (gI M 57 j).toNatClampNeg) k ++ k :: hiP (fun j => lb z (gI M 57 j).toNatClampNeg) k s))) → Q (.returned none) M') : Cal l D ad kA mX3_weighWith [.ref (ad 17), .long z, .long z3, .ref (ad t)] M Q := by
  refine en_X3_weighWith (t_X3_weighWith_0 ht2 (ct_takesOfC hs hsm hb (fun M1 hf1 ho1 hr1 => ⟨_, rfl, t_X3_weighWith_5 ht2 ?_⟩)))
  have F1 : Fr (sWW t) M (sI M1 21 (0 : Int32).toNatClampNeg 0) := (hf1.mono (fun c i q => by simp [sWW] at q; simp [sTakesC]; omega)).sI (by simp [sWW])
  generalize hM2 : sI M1 21 (0 : Int32).toNatClampNeg 0 = M2 at F1
  obtain ⟨c1, c2⟩ := costs_fr F1 (fun i => by rcases ht with rfl | rfl <;> exact ⟨rfl, rfl, rfl, rfl, rfl⟩)
  have f2 : Fr s21 M1 M2 := by rw [← hM2]; exact Fr.rf.sI rfl
  have hrow2 := ho1.fr f2 rfl (fun _ => rfl)
  have hsm2 := hsm.fr F1 (fun _ => by rcases ht with rfl | rfl <;> exact ⟨⟨rfl, rfl, rfl, rfl, rfl⟩, rfl, rfl, rfl, rfl, rfl⟩)
  have hr2 : RestOk M2 M2 (ons M z s) := by
    intro d o a1 a2 a3
    rw [restOf_fr f2 rfl (fun _ => rfl), c1, c2]
    exact ⟨(hr1 d o a1 a2 a3).1, g_rest ho1.2.2.1 a2 a3⟩
  have e57 : ∀ i, gI M2 57 i = gI M 57 i := fun i => F1.1 57 i (by rcases ht with rfl | rfl <;> rfl)
  refine lp_ww19 (p := fun j => lb z (gI M 57 j).toNatClampNeg) ht ht2 hrow2 hsm2 (by rw [F1.1 9 4 (by rcases ht with rfl | rfl <;> rfl)]; exact hs) (fun a ha => by rw [e57]; exact hb a ha) hr2 (fun M3 hf3 hw => ?_) s 0 M2 (by omega) Fr.rf (fun o ho => ?_) (fun k' hk' => by omega)
  · refine K M3 (F1.tr (hf3.mono (fun c i q => by simp [sWW] at q; simp [s21t]; omega))) (fun k hk a1 a2 => ?_)
    have := hw k hk (by rw [e57]; exact a1) a2
    rw [this, c1, c2]
  · have : o = 0 := by
      have ho : o < max 1 0 := ho
      omega
    subst this
    rw [← hM2]
    exact nE_0.symm
/-- the row with or without one STROKE, in the model -/
def tw (M : Mem) (r x y : Int32) (k : Nat) : Bool := decide (nI k = y) || (decide (gI M 68 (gI M 57 k).toNatClampNeg = r) && decide (¬ nI k = x))
theorem lp_tw8 {r x y : Int32} (hs : (s : Int) = (gI M0 54 10).toInt) (hs2 : s ≤ 160) (hb : ∀ a, a < s → 0 ≤ (gI M0 57 a).toInt ∧ (gI M0 57 a).toInt ≤ 47)
    (K : ∀ M', Fr sOwn M0 M' → OwnM M' (flP (tw M0 r x y) s) s → Cal l D ad kA mX13_findHands [.ref (ad 54)] M' (fun oc M2 => ∃ r : Int32, oc = .returned (some (.int r)) ∧ Fw l D ad kA mX13_takesWith 79 [none, none, none, none, none] [.int r] M2 Q)) : ∀ (j i : Nat) (M : Mem), i + j = s → Fr sOwn M0 M → gI M 54 31 = nI (flP (tw M0 r x y) i).length → Row M 69 (flP (tw M0 r x y) i) →
    Fw l D ad kA mX13_takesWith 8 [some (.ref (ad 54)), some (.int r), some (.int x), some (.int y), some (.int (nI i))] [] M Q := by
  intro j
  induction j with
  | zero =>
    intro i M hi hf h1 h2
    have hle : gI M 54 10 ≤ nI i := by rw [hf.1 54 10 rfl, i_le, i_nI (by omega)]; omega
    have : i = s := by omega
    subst this
    have hl : (flP (tw M0 r x y) i).length ≤ i := rfl_len
    exact t_X13_takesWith_8 (fun q => absurd hle q) (fun q => absurd hle q) (fun q => absurd hle q) (fun q => absurd hle q) (fun _ => K M hf ⟨h1, h2, by omega, hs2, fun a ha => List.mem_range.mp (List.mem_filter.mp ha).1⟩) (fun q => absurd hle q) (fun q => absurd hle q) (fun q => absurd hle q) (fun q => absurd hle q)
  | succ j ih =>
    intro i M hi hf h1 h2
    have hnle : ¬ gI M 54 10 ≤ nI i := by rw [hf.1 54 10 rfl, i_le, i_nI (by omega)]; omega
    have hlen : (flP (tw M0 r x y) i).length ≤ i := rfl_len
    have hcl : (nI i).toNatClampNeg = i := nI_clamp (by omega)
    have e57 : gI M 57 i = gI M0 57 i := hf.1 57 i rfl
    have hbi := hb i (by omega)
    have yes : tw M0 r x y i = true → Fw l D ad kA mX13_takesWith 8 [some (.ref (ad 54)), some (.int r), some (.int x), some (.int y), some (.int (nI i + 1))] [] (sI (sI M 69 (gI M 54 31).toNatClampNeg (nI i)) 54 31 ((gI M 54 31) + 1)) Q := by
      intro c
      have e := fl_succ_y c
      rw [h1, nI_clamp (by omega), nI_1, nI_1]
      refine ih (i + 1) _ (by omega) ((hf.sI rfl).sI rfl) ?_ ?_
      · rw [e, List.length_append]; rfl
      · rw [e]
        refine h2.put (fun k hk => ?_) ?_
        · rw [gI_o (by omega), gI_oi (by omega)]
        · rw [gI_o (by omega), gI_self]
    have no : tw M0 r x y i = false → Fw l D ad kA mX13_takesWith 8 [some (.ref (ad 54)), some (.int r), some (.int x), some (.int y), some (.int (nI i + 1))] [] M Q := by
      intro c
      have e := fl_succ_n c
      rw [nI_1]
      exact ih (i + 1) M (by omega) hf (by rw [e]; exact h1) (by rw [e]; exact h2)
    have g31 : vp_in (gI M 54 31) 160 := by rw [h1]; exact ix (by omega)
    refine t_X13_takesWith_8 (fun _ _ => g31) (fun _ _ => ix (by omega)) (fun _ _ => by rw [hcl, e57]; exact vin_of (by omega) (by omega)) (fun _ _ _ _ => g31) (fun q => absurd q hnle) (fun _ c => yes ?_) (fun _ c1 c2 => no ?_) (fun _ c1 c2 c3 => yes ?_) (fun _ c1 c2 c3 => no ?_)
    · unfold tw; rw [decide_eq_true c]; rfl
    · rw [hcl, e57, hf.1 68 _ rfl] at c2
      unfold tw; rw [decide_eq_false c1, decide_eq_false c2]; rfl
    · rw [hcl, e57, hf.1 68 _ rfl] at c2
      unfold tw; rw [decide_eq_true c2, decide_eq_true c3, Bool.and_self, Bool.or_true]
    · unfold tw; rw [decide_eq_false c1, decide_eq_false (show ¬ ¬ nI i = x from fun z => z c3), Bool.and_false]; rfl
theorem ct_takesWith {r x y : Int32} (hs : (s : Int) = (gI M 54 10).toInt) (hs2 : s ≤ 160) (hb : ∀ a, a < s → 0 ≤ (gI M 57 a).toInt ∧ (gI M 57 a).toInt ≤ 47)
    (K : ∀ M', Fr sTakesM M M' → Q (.returned (some (.int (nI (min 1000000 (Ff (mvP M) (hlP M) none none (flP (tw M r x y) s))))))) M') : Cal l D ad kA mX13_takesWith [.ref (ad 54), .int r, .int x, .int y] M Q := by
  refine en_X13_takesWith (t_X13_takesWith_0 (lp_tw8 (M0 := M) hs hs2 hb (fun M1 hf1 ho1 => ?_) s 0 (sI M 54 31 0) (by omega) (Fr.rf.sI rfl) rfl (fun i b e => by cases e)))
  obtain ⟨e1, e2⟩ := costs_fr hf1 (fun i => ⟨rfl, rfl, rfl, rfl, rfl⟩)
  refine ct_findHands ho1 (fun a ha => by rw [hf1.1 57 a rfl]; exact (hb a ha).1) (fun M2 hf2 hc => ⟨_, rfl, t_X13_takesWith_79 ?_⟩)
  rw [e1, e2]
  exact K M2 ((hf1.mono (fun c i q => by simp [sTakesM] at q; simp [sOwn]; omega)).tr (hf2.mono (fun c i q => by simp [sTakesM] at q; simp [s70]; omega)))
end WeighW
