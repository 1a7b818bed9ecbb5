/-! manners: the class -/
section MannersC
variable {l : Launch} {D : va_G} {ad : Nat → Nat} {kA : Nat → ClassId} {M M0 : Mem} {Q : Outcome → Mem → Prop} {n : Nat}
theorem ct_tok {p : Nat} (h0 : gI M 1 0 = nI n) (h7 : gI M 1 7 = nI p) (hp : p ≤ n) (hn : n ≤ 1200)
    (K : ∀ M', Fr sTok M M' → gI M' 1 1 = nI (tK (gI M 2) n p) → gI M' 1 6 = nI (tS (gI M 2) n p) → gI M' 1 7 = nI (tE (gI M 2) n p) → (tK (gI M 2) n p = 2 → gI M' 1 2 = nI (tV (gI M 2) n p)) → Q (.returned none) M') : Cal l D ad kA mX10_readToken [.ref (ad 1)] M Q := ct_readToken h0 h7 hp hn K
/-- a token lies before the class -/
def TokC (b : Nat → Int32) (n p : Nat) (M : Mem) : Prop := gI M 1 0 = nI n ∧ gI M 1 1 = nI (tK b n p) ∧ gI M 1 6 = nI (tS b n p) ∧ gI M 1 7 = nI (tE b n p) ∧ (tK b n p = 2 → gI M 1 2 = nI (tV b n p))
theorem ct_word {b : Nat → Int32} {p w : Nat} (hw : w < 15) (ht : TokC b n p M) (h2 : ∀ a, a < n → gI M 2 a = b a) (hp : p ≤ n) (hn : n ≤ 1200) (K : Q (.returned (some (.int (if isWd b (tK b n p) (tS b n p) (tE b n p) w = true then 1 else 0)))) M) : Cal l D ad kA mX10_isWord [.ref (ad 1), .ref (ad (210 + w))] M Q := by
  obtain ⟨t0, t1, t6, t7, -⟩ := ht
  obtain ⟨f1, f2, f3, f4, -⟩ := t_facts (b := b) (n := n) hp
  refine ct_isWord hw t0 t1 t6 t7 f2 f3 hn f4 ?_
  rw [isWd_congr h2 f2 f3]
  exact K
def rI (r : Nat) : Int32 := if r = 4 then (-1) else nI r
theorem ct_ruleNamed {b : Nat → Int32} {p : Nat} (ht : TokC b n p M) (h2 : ∀ a, a < n → gI M 2 a = b a) (hp : p ≤ n) (hn : n ≤ 1200) (K : Q (.returned (some (.int (rI (rlN b n p))))) M) : Cal l D ad kA mX6_ruleNamed [.ref (ad 1)] M Q := by
  unfold rlN at K
  have n10 : ¬ (1 : Int32) = 0 := by decide
  refine en_X6_ruleNamed (t_X6_ruleNamed_0 (ct_word (by omega) ht h2 hp hn ⟨_, rfl, ?_⟩))
  by_cases c4 : isWd b (tK b n p) (tS b n p) (tE b n p) 4 = true
  · rw [if_pos c4] at K ⊢
    exact t_X6_ruleNamed_6 (fun q => absurd q n10) (fun _ => K)
  · rw [if_neg c4] at K ⊢
    refine t_X6_ruleNamed_6 (fun _ => ct_word (by omega) ht h2 hp hn ⟨_, rfl, ?_⟩) (fun q => absurd rfl q)
    by_cases c5 : isWd b (tK b n p) (tS b n p) (tE b n p) 5 = true
    · rw [if_pos c5] at K ⊢
      exact t_X6_ruleNamed_17 (fun q => absurd q n10) (fun _ => K)
    · rw [if_neg c5] at K ⊢
      refine t_X6_ruleNamed_17 (fun _ => ct_word (by omega) ht h2 hp hn ⟨_, rfl, ?_⟩) (fun q => absurd rfl q)
      by_cases c6 : isWd b (tK b n p) (tS b n p) (tE b n p) 6 = true
      · rw [if_pos c6] at K ⊢
        exact t_X6_ruleNamed_28 (fun q => absurd q n10) (fun _ => K)
      · rw [if_neg c6] at K ⊢
        refine t_X6_ruleNamed_28 (fun _ => ct_word (by omega) ht h2 hp hn ⟨_, rfl, t_X6_ruleNamed_39 ?_⟩) (fun q => absurd rfl q)
        by_cases c7 : isWd b (tK b n p) (tS b n p) (tE b n p) 7 = true
        · rw [if_pos c7] at K ⊢
          rw [if_neg n10]
          exact K
        · rw [if_neg c7] at K ⊢
          rw [if_pos rfl]
          exact K
theorem rlN_le {b : Nat → Int32} {p : Nat} : rlN b n p ≤ 4 := by
  unfold rlN
  repeat' split
  all_goals omega
def sMnC (c i : Nat) : Bool := (c == 1 && (i == 1 || i == 2 || i == 3 || i == 4 || i == 6 || i == 7)) || (c == 14 && (i == 2 || i == 3 || i == 4)) || c == 16
theorem ct_refuse {x : Int32} (K : Q (.returned none) (sI (sI M 1 3 x) 1 4 (gI M 1 6))) : Cal l D ad kA mX10_refuse [.ref (ad 1), .int x] M Q := en_X10_refuse (t_X10_refuse_0 K)
theorem lo_st : ∀ r, r < 4 → (stV.getD 1 []).getD r 0 = nI (loR r) := by decide
theorem hi_st : ∀ r, r < 4 → (stV.getD 2 []).getD r 0 = nI (hiR r) := by decide
theorem r0_st : ∀ r, r < 4 → (stV.getD 0 []).getD r 0 = r0 r := by decide
/-- the end with a FAULT -/
theorem mn_end {x3 : Int32} (h3 : ¬ gI M 1 3 = 0) (K : Q (.returned (some (.int (-1)))) M) : Fw l D ad kA mX6_readAll 38 [some (.ref (ad 14)), some (.ref (ad 1)), some (.int 0), some (.int x3)] [] M Q :=
  t_X6_readAll_38 (fun _ q => absurd rfl q) (fun _ _ => K) (fun _ q => absurd rfl q) (fun _ _ _ => K) (fun _ _ q => absurd q h3)
/-- the class reads on, awaiting a clause -/
theorem lp_mnA {b : Nat → Int32} {P : (Nat × Nat) ⊕ (Nat × (Nat → Int32))} (hn : n ≤ 1200) (h2 : ∀ a, a < n → gI M0 2 a = b a)
    (KF : ∀ k s, P = .inl (k, s) → ∀ M', Fr sMnC M0 M' → gI M' 1 3 = nI k → gI M' 1 4 = nI s → Q (.returned (some (.int (-1)))) M')
    (KO : ∀ c fr, P = .inr (c, fr) → ∀ M', Fr sMnC M0 M' → gI M' 1 3 = 0 → gI M' 1 4 = (-1) → gI M' 14 4 = nI c → (∀ r, r < 4 → gI M' 16 r = fr r) → Fw l D ad kA mX6_readAll 103 [some (.ref (ad 14)), none, none, some (.int 0)] [] M' Q) : ∀ (f i p c : Nat) (fr : Nat → Int32) (M : Mem), n - p < f → i ≤ p → p ≤ n → Fr sMnC M0 M → gI M 1 0 = nI n → gI M 1 7 = nI p → gI M 1 3 = 0 → gI M 1 4 = (-1) → gI M 14 2 = 0 → gI M 14 4 = nI c → (∀ r, r < 4 → gI M 16 r = fr r) → PM b n f p fr c = P →
    Fw l D ad kA mX6_readAll 38 [some (.ref (ad 14)), some (.ref (ad 1)), some (.int 0), some (.int (nI i))] [] M Q := by
  have n1200 : (1200 : Int32) = nI 1200 := rfl
  have n10 : ¬ (1 : Int32) = 0 := by decide
  have n21 : ¬ (2 : Int32) = 1 := by decide
  have n20 : ¬ (2 : Int32) = 0 := by decide
  have n12 : ¬ (1 : Int32) = 2 := by decide
  -- one token
  have tok : ∀ (i p : Nat) (M : Mem), i ≤ 1200 → p ≤ n → Fr sMnC M0 M → gI M 1 0 = nI n → gI M 1 7 = nI p → gI M 1 3 = 0 → (∀ M', Fr sTok M M' → Fr sMnC M0 M' → TokC b n p M' → Fw l D ad kA mX6_readAll 60 [some (.ref (ad 14)), some (.ref (ad 1)), none, some (.int (nI i))] [] M' Q) → Fw l D ad kA mX6_readAll 38 [some (.ref (ad 14)), some (.ref (ad 1)), some (.int 0), some (.int (nI i))] [] M Q := by
    intro i p M hi hp hf h0 h7 h3 k
    have hnl : ¬ 1200 < nI i := by rw [n1200, nI_ltI (by omega) (by omega)]; omega
    refine t_X6_readAll_38 (fun q => absurd q hnl) (fun q => absurd q hnl) (fun _ q => absurd rfl q) (fun _ _ q => absurd h3 q) (fun _ _ _ => ct_tok h0 h7 hp hn (fun M' hf' k1 k6 k7 k2 => ⟨rfl, ?_⟩))
    have e2 : ∀ a, a < n → gI M 2 a = b a := fun a ha => by rw [hf.1 2 a rfl]; exact h2 a ha
    obtain ⟨e1, e3, e4, e5⟩ := t_congr e2 p hp
    refine k M' hf' (hf.tr (hf'.mono (fun c i q => by simp [sMnC] at q; simp [sTok]; omega))) ⟨by rw [hf'.1 1 0 rfl]; exact h0, by rw [k1, e3], by rw [k6, e1], by rw [k7, e4], fun z => ?_⟩
    rw [k2 (by rw [e3]; exact z), e5]
  -- a refusal
  have ref : ∀ (k s : Nat) (i : Int32) (M : Mem), 1 ≤ k → k ≤ 4 → Fr sMnC M0 M → gI M 1 6 = nI s → P = .inl (k, s) → Fw l D ad kA mX6_readAll 89 [some (.ref (ad 14)), some (.ref (ad 1)), some (.int 0), some (.int i)] [] (sI (sI M 1 3 (nI k)) 1 4 (gI M 1 6)) Q := by
    intro k s i M hk1 hk2 hf h6 hP
    refine t_X6_readAll_89 (mn_end (show ¬ nI k = 0 from nI_ne0 (by omega) (by omega)) (KF k s hP _ ((hf.sI rfl).sI rfl) rfl ?_))
    show gI M 1 6 = nI s
    exact h6
  intro f
  induction f with
  | zero => intro i p c fr M hf; omega
  | succ f ih =>
    intro i p c fr M hfu hip hp hf h0 h7 h3 h4 ha hc hfr hP
    refine tok i p M (by omega) hp hf h0 h7 h3 (fun M1 hf1 F1 t1 => ?_)
    have a1 : gI M1 14 2 = 0 := by rw [hf1.1 14 2 rfl]; exact ha
    have c1 : gI M1 14 4 = nI c := by rw [hf1.1 14 4 rfl]; exact hc
    have fr1 : ∀ r, r < 4 → gI M1 16 r = fr r := fun r hr => by rw [hf1.1 16 r rfl]; exact hfr r hr
    have z3 : gI M1 1 3 = 0 := by rw [hf1.1 1 3 rfl]; exact h3
    have z4 : gI M1 1 4 = (-1) := by rw [hf1.1 1 4 rfl]; exact h4
    obtain ⟨f1, f2, f3, f4, f5⟩ := t_facts (b := b) (n := n) hp
    have k11 := t1.2.1
    unfold PM at hP
    by_cases e0 : tK b n p = 0
    · rw [if_pos e0] at hP
      have e1 : gI M1 1 1 = 0 := by rw [k11, e0]; rfl
      refine t_X6_readAll_60 (fun _ => ?_) (fun q => ?_)
      · rw [if_pos e1, if_pos a1]
        have fin := KO c fr hP.symm M1 F1 z3 z4 c1 fr1
        exact t_X6_readAll_38 (fun _ _ => fin) (fun _ q => absurd q n10) (fun _ _ => fin) (fun _ q => absurd q n10) (fun _ q => absurd q n10)
      · rw [if_pos e1, if_pos a1] at q
        exact absurd q n10
    · rw [if_neg e0] at hP
      have e1 : ¬ gI M1 1 1 = 0 := by rw [k11]; exact nI_ne0 (by omega) (by omega)
      have e2M : ∀ a, a < n → gI M1 2 a = b a := fun a ha' => by rw [F1.1 2 a rfl]; exact h2 a ha'
      refine t_X6_readAll_60 (fun q => absurd (if_neg e1) q) (fun _ => ?_)
      rw [if_neg e1]
      refine en_X6_take (t_X6_take_0 (fun q => absurd a1 q) (fun q => absurd a1 q) (fun q => absurd a1 q) (fun q => absurd a1 q) (fun q => absurd a1 q) (fun q => absurd a1 q) (fun q => absurd a1 q) (fun _ => ?_))
      refine en_X6_takeWord (t_X6_takeWord_0 (ct_ruleNamed t1 e2M hp hn ⟨_, rfl, ?_⟩))
      have hr4 := rlN_le (b := b) (n := n) (p := p)
      by_cases r4 : rlN b n p = 4
      · rw [if_pos r4] at hP
        have er : rI (rlN b n p) = (-1) := if_pos r4
        refine t_X6_takeWord_5 (fun q => absurd er q) (fun q => absurd er q) (fun q => absurd er q) (fun _ => ct_refuse ⟨rfl, t_X6_takeWord_21 ⟨rfl, t_X6_take_12 ⟨rfl, ?_⟩⟩⟩)
        exact ref 1 _ _ _ (by omega) (by omega) (F1.sI rfl) t1.2.2.1 hP.symm
      · rw [if_neg r4] at hP
        have er : rI (rlN b n p) = nI (rlN b n p) := if_neg r4
        have ern : ¬ rI (rlN b n p) = (-1) := by rw [er]; exact nI_ne (by omega)
        have ecl : (rI (rlN b n p)).toNatClampNeg = rlN b n p := by rw [er]; exact nI_clamp (by omega)
        by_cases rf : fr (rlN b n p) = (-1)
        · rw [if_neg (fun z => z rf)] at hP
          refine t_X6_takeWord_5 (fun _ => by rw [er]; exact ixN (by omega) (by omega)) (fun _ _ => ⟨rfl, t_X6_take_12 ⟨rfl, t_X6_readAll_89 ?_⟩⟩) (fun _ q => absurd (by rw [ecl, fr1 _ (by omega)]; exact rf) q) (fun q => absurd q ern)
          rw [er, nI_1]
          generalize hM2 : sI (sI M1 14 3 (nI (rlN b n p))) 14 2 1 = M2
          have F2 : Fr sMnC M0 M2 := by rw [← hM2]; exact (F1.sI rfl).sI rfl
          -- the number
          refine tok (i + 1) (tE b n p) M2 (by have := f5 e0; omega) f3 F2 (by rw [← hM2]; exact t1.1) (by rw [← hM2]; exact t1.2.2.2.1) (by rw [← hM2]; exact z3) (fun M3 hf3 F3 t3 => ?_)
          have a3 : gI M3 14 2 = 1 := by rw [hf3.1 14 2 rfl, ← hM2]; rfl
          have w3 : gI M3 14 3 = nI (rlN b n p) := by rw [hf3.1 14 3 rfl, ← hM2]; rfl
          have c3 : gI M3 14 4 = nI c := by rw [hf3.1 14 4 rfl, ← hM2]; exact c1
          have fr3 : ∀ r, r < 4 → gI M3 16 r = fr r := fun r hr => by rw [hf3.1 16 r rfl, ← hM2]; exact fr1 r hr
          have z33 : gI M3 1 3 = 0 := by rw [hf3.1 1 3 rfl, ← hM2]; exact z3
          have z34 : gI M3 1 4 = (-1) := by rw [hf3.1 1 4 rfl, ← hM2]; exact z4
          obtain ⟨g1, g2, g3, g4, g5⟩ := t_facts (b := b) (n := n) f3
          have a30 : ¬ gI M3 14 2 = 0 := by rw [a3]; exact n10
          have a32 : ¬ gI M3 14 2 = 2 := by rw [a3]; exact n12
          have w60 : (if gI M3 1 1 = 0 then if gI M3 14 2 = 0 then 1 else 0 else 0 : Int32) = 0 := by
            rw [if_neg a30]; split <;> rfl
          refine t_X6_readAll_60 (fun q => absurd w60 q) (fun _ => ?_)
          rw [w60]
          have k31 := t3.2.1
          by_cases e2 : tK b n (tE b n p) = 2
          · rw [if_neg (fun z => z e2)] at hP
            have e31 : gI M3 1 1 = 2 := by rw [k31, e2]; rfl
            have v3 := t3.2.2.2.2 e2
            have vlt := tV_lt e2
            refine en_X6_take (t_X6_take_0 (fun _ q => absurd a3 q) (fun _ q => absurd a3 q) (fun _ q => absurd a3 q) (fun _ _ q => absurd e31 q) (fun _ _ q => absurd e31 q) (fun _ _ q => absurd e31 q) (fun _ _ _ => ?_) (fun q => absurd q a30))
            have hw0 : ¬ gI M3 14 3 < 0 := by rw [w3]; exact nI_pos (by omega)
            have wcl : (gI M3 14 3).toNatClampNeg = rlN b n p := by rw [w3]; exact nI_clamp (by omega)
            have elo := lo_st (rlN b n p) (by omega)
            have ehi := hi_st (rlN b n p) (by omega)
            have hlo : loR (rlN b n p) ≤ 1 := by unfold loR; split <;> omega
            have hhi : hiR (rlN b n p) ≤ 47 := by unfold hiR; repeat' split
                                                  all_goals omega
            have clo : gI M3 1 2 < (stV.getD 1 []).getD (gI M3 14 3).toNatClampNeg 0 ↔ tV b n (tE b n p) < loR (rlN b n p) := by rw [wcl, elo, v3, nI_ltI (by omega) (by omega)]
            have chi : gI M3 1 2 ≤ (stV.getD 2 []).getD (gI M3 14 3).toNatClampNeg 0 ↔ tV b n (tE b n p) ≤ hiR (rlN b n p) := by rw [wcl, ehi, v3, nI_leI (by omega) (by omega)]
            have bad : ¬ (loR (rlN b n p) ≤ tV b n (tE b n p) ∧ tV b n (tE b n p) ≤ hiR (rlN b n p)) → Cal l D ad kA mX10_refuse [.ref (ad 1), .int 2] M3 (fun oc M2 => oc = .returned none ∧ Fw l D ad kA mX6_takeNumber 42 [none, none] [] M2 (fun oc M2 => oc = .returned none ∧ Fw l D ad kA mX6_take 36 [none, none] [] M2 (fun oc M2 => oc = .returned none ∧ Fw l D ad kA mX6_readAll 89 [some (.ref (ad 14)), some (.ref (ad 1)), some (.int 0), some (.int (nI (i + 1)))] [] M2 Q))) := by
              intro hb
              rw [if_pos hb] at hP
              refine ct_refuse ⟨rfl, t_X6_takeNumber_42 ⟨rfl, t_X6_take_36 ⟨rfl, ?_⟩⟩⟩
              exact ref 2 _ _ _ (by omega) (by omega) F3 t3.2.2.1 hP.symm
            refine en_X6_takeNumber (t_X6_takeNumber_0 (fun _ => by rw [w3]; exact ixN (by omega) (by omega)) (fun q => absurd q hw0) (fun _ q => bad (fun z => by have := clo.mp q; omega)) (fun _ q1 q2 => ⟨rfl, t_X6_take_36 ⟨rfl, t_X6_readAll_89 ?_⟩⟩) (fun _ _ q => bad (fun z => q (chi.mpr z.2))))
            have hin : loR (rlN b n p) ≤ tV b n (tE b n p) ∧ tV b n (tE b n p) ≤ hiR (rlN b n p) := ⟨Nat.le_of_not_lt (fun z => q1 (clo.mpr z)), chi.mp q2⟩
            rw [if_neg (fun z => z hin)] at hP
            rw [wcl, v3, nI_1]
            generalize hM4 : sI (sI M3 16 (rlN b n p) (nI (tV b n (tE b n p)))) 14 2 2 = M4
            have F4 : Fr sMnC M0 M4 := by rw [← hM4]; exact (F3.sI rfl).sI rfl
            -- the close
            have p0 := f5 e0
            have p1 := g5 (by rw [e2]; omega)
            refine tok (i + 1 + 1) (tE b n (tE b n p)) M4 (by omega) g3 F4 (by rw [← hM4]; exact t3.1) (by rw [← hM4]; exact t3.2.2.2.1) (by rw [← hM4]; exact z33) (fun M5 hf5 F5 t5 => ?_)
            have a5 : gI M5 14 2 = 2 := by rw [hf5.1 14 2 rfl, ← hM4]; rfl
            have c5 : gI M5 14 4 = nI c := by rw [hf5.1 14 4 rfl, ← hM4]; exact c3
            have z53 : gI M5 1 3 = 0 := by rw [hf5.1 1 3 rfl, ← hM4]; exact z33
            have z54 : gI M5 1 4 = (-1) := by rw [hf5.1 1 4 rfl, ← hM4]; exact z34
            have a50 : ¬ gI M5 14 2 = 0 := by rw [a5]; exact n20
            have a51 : ¬ gI M5 14 2 = 1 := by rw [a5]; exact n21
            have w60' : (if gI M5 1 1 = 0 then if gI M5 14 2 = 0 then 1 else 0 else 0 : Int32) = 0 := by
              rw [if_neg a50]; split <;> rfl
            obtain ⟨h1', h2', h3', h4', h5'⟩ := t_facts (b := b) (n := n) g3
            refine t_X6_readAll_60 (fun q => absurd w60' q) (fun _ => ?_)
            rw [w60']
            have k51 := t5.2.1
            have fr5 : ∀ r, r < 4 → gI M5 16 r = updF fr (rlN b n p) (nI (tV b n (tE b n p))) r := by
              intro r hr
              rw [hf5.1 16 r rfl, ← hM4]
              show gI (sI M3 16 (rlN b n p) (nI (tV b n (tE b n p)))) 16 r = _
              unfold updF
              by_cases e : r = rlN b n p
              · rw [if_pos e, e, gI_self]
              · rw [if_neg e, gI_oi e]; exact fr3 r hr
            by_cases e3 : tK b n (tE b n (tE b n p)) = 3
            · rw [if_neg (fun z => z e3)] at hP
              have e51 : gI M5 1 1 = 3 := by rw [k51, e3]; rfl
              refine en_X6_take (t_X6_take_0 (fun _ _ q => absurd a5 q) (fun _ _ _ q => absurd e51 q) (fun _ _ _ _ => ⟨rfl, t_X6_readAll_89 ?_⟩) (fun _ q => absurd q a51) (fun _ q => absurd q a51) (fun _ q => absurd q a51) (fun _ q => absurd q a51) (fun q => absurd q a50))
              have p2 := h5' (by rw [e3]; omega)
              rw [c5, nI_1, nI_1]
              refine ih (i + 1 + 1 + 1) (tE b n (tE b n (tE b n p))) (c + 1) _ _ (by omega) (by omega) h3' ((F5.sI rfl).sI rfl) t5.1 t5.2.2.2.1 z53 z54 rfl rfl fr5 hP
            · rw [if_pos e3] at hP
              have e51 : ¬ gI M5 1 1 = 3 := by rw [k51, show (3 : Int32) = nI 3 from rfl, nI_eq (by omega) (by omega)]; exact e3
              refine en_X6_take (t_X6_take_0 (fun _ _ q => absurd a5 q) (fun _ _ _ _ => ct_refuse ⟨rfl, t_X6_take_78 ⟨rfl, ?_⟩⟩) (fun _ _ _ q => absurd q e51) (fun _ q => absurd q a51) (fun _ q => absurd q a51) (fun _ q => absurd q a51) (fun _ q => absurd q a51) (fun q => absurd q a50))
              exact ref 1 _ _ _ (by omega) (by omega) F5 t5.2.2.1 hP.symm
          · rw [if_pos e2] at hP
            have e31 : ¬ gI M3 1 1 = 2 := by rw [k31, show (2 : Int32) = nI 2 from rfl, nI_eq (by omega) (by omega)]; exact e2
            refine en_X6_take (t_X6_take_0 (fun _ q => absurd a3 q) (fun _ q => absurd a3 q) (fun _ q => absurd a3 q) (fun _ _ _ _ => ct_refuse ⟨rfl, t_X6_take_78 ⟨rfl, ?_⟩⟩) (fun _ _ _ q => absurd q a32) (fun _ _ _ q => absurd q a32) (fun _ _ q => absurd q e31) (fun q => absurd q a30))
            exact ref 1 _ _ _ (by omega) (by omega) F3 t3.2.2.1 hP.symm
        · rw [if_pos rf] at hP
          refine t_X6_takeWord_5 (fun _ => by rw [er]; exact ixN (by omega) (by omega)) (fun _ q => absurd (by rw [ecl, fr1 _ (by omega)] at q; exact q) rf) (fun _ _ => ct_refuse ⟨rfl, t_X6_takeWord_42 ⟨rfl, t_X6_take_12 ⟨rfl, ?_⟩⟩⟩) (fun q => absurd q ern)
          exact ref 3 _ _ _ (by omega) (by omega) (F1.sI rfl) t1.2.2.1 hP.symm
end MannersC
