/-! manners: the model, the pair -/
/-- a pair of calls, the model's with a handler of its own -/
def TwoH (l : Launch) (D : va_G) (ad : Nat → Nat) (kA : Nat → ClassId) (mx mm : MI) (as : List Value) (M : Mem) (P : Mem → Prop) : Prop :=
  Cal l D ad kA mx (.ref (ad 0) :: as) M (fun oc M1 => ∃ r : Int32, oc = .returned (some (.int r)) ∧ CalH l D ad kA mm (.ref (ad 54) :: as) M1 (fun oc2 M2 => oc2 = .returned (some (.int r)) ∧ P M2))
section MannersM
variable {l : Launch} {D : va_G} {ad : Nat → Nat} {kA : Nat → ClassId} {M M0 : Mem} {Q : Outcome → Mem → Prop} {n : Nat}
/-- a token lies before the model -/
def TokM (b : Nat → Int32) (n p : Nat) (M : Mem) : Prop := gI M 54 3 = nI n ∧ gI M 54 6 = nI (tK b n p) ∧ gI M 54 4 = nI (tS b n p) ∧ gI M 54 5 = nI (tE b n p) ∧ (tK b n p = 2 → gI M 54 7 = nI (tV b n p))
theorem ct_need {x k : Int32} (K1 : ¬ x = 0 → Q (.returned none) M) (K2 : x = 0 → Q (.threw (ad 53)) (sI (sI M 54 8 k) 54 9 (gI M 54 4))) : Cal l D ad kA mX13_need [.ref (ad 54), .int x, .int k] M Q :=
  en_X13_need (t_X13_need_0 K1 (fun q => en_X13_wrong (t_X13_wrong_0 ⟨rfl, t_X13_need_9 (K2 q)⟩)))
theorem ct_scanT {b : Nat → Int32} {p : Nat} (h3 : gI M 54 3 = nI n) (h5 : gI M 54 5 = nI p) (hp : p ≤ n) (hn : n ≤ 1200) (hr : ∀ a : Nat, a < n → gI M 55 a = b a ∧ -128 ≤ (gI M 55 a).toInt ∧ (gI M 55 a).toInt ≤ 127)
    (K : ∀ M', Fr sScan M M' → TokM b n p M' → Q (.returned none) M') : Cal l D ad kA mX13_scan [.ref (ad 54)] M Q := by
  obtain ⟨e1, e2, e3, e4⟩ := t_congr (fun a ha => (hr a ha).1) p hp
  refine ct_scan h3 h5 hp hn (fun a ha => (hr a ha).2) (fun M' hf k6 k4 k5 k7 => K M' hf ⟨by rw [hf.1 54 3 rfl]; exact h3, ?_, ?_, ?_, fun z => ?_⟩)
  · rw [← e2]; exact k6
  · rw [← e1]; exact k4
  · rw [← e3]; exact k5
  · rw [← e4]; exact k7 (by rw [← e2] at z; exact z)
theorem ct_isT {b : Nat → Int32} {p w : Nat} (hw : w < 15) (ht : TokM b n p M) (h2 : ∀ a, a < n → gI M 55 a = b a) (hp : p ≤ n) (hn : n ≤ 1200) (K : Q (.returned (some (.int (if isWd b (tK b n p) (tS b n p) (tE b n p) w = true then 1 else 0)))) M) : Cal l D ad kA mX13_is [.ref (ad 54), .ref (ad (210 + w))] M Q := by
  obtain ⟨t0, t1, t6, t7, -⟩ := ht
  obtain ⟨f1, f2, f3, f4, -⟩ := t_facts (b := b) (n := n) hp
  refine ct_is hw t1 t6 t7 f2 f3 hn f4 ?_
  rw [isWd_congr h2 f2 f3]
  exact K
theorem wB_12 : wB 12 = wB 4 := rfl
theorem wB_13 : wB 13 = wB 5 := rfl
theorem wB_14 : wB 14 = wB 6 := rfl
theorem wB_10 : wB 10 = wB 7 := rfl
theorem isWd_w {b : Nat → Int32} {k s e w w' : Nat} (h : wB w = wB w') : isWd b k s e w = isWd b k s e w' := by unfold isWd; rw [h]
theorem ct_ruleAtHand {b : Nat → Int32} {p : Nat} (ht : TokM b n p M) (h2 : ∀ a, a < n → gI M 55 a = b a) (hp : p ≤ n) (hn : n ≤ 1200) (K : Q (.returned (some (.int (rI (rlN b n p))))) M) : Cal l D ad kA mX13_ruleAtHand [.ref (ad 54)] M Q := by
  unfold rlN at K
  have n10 : ¬ (1 : Int32) = 0 := by decide
  refine en_X13_ruleAtHand (t_X13_ruleAtHand_0 (ct_isT (by omega) ht h2 hp hn ⟨_, rfl, ?_⟩))
  rw [isWd_w wB_12]
  by_cases c4 : isWd b (tK b n p) (tS b n p) (tE b n p) 4 = true
  · rw [if_pos c4] at K ⊢
    exact t_X13_ruleAtHand_6 (fun q => absurd q n10) (fun _ => K)
  · rw [if_neg c4] at K ⊢
    refine t_X13_ruleAtHand_6 (fun _ => ct_isT (by omega) ht h2 hp hn ⟨_, rfl, ?_⟩) (fun q => absurd rfl q)
    rw [isWd_w wB_13]
    by_cases c5 : isWd b (tK b n p) (tS b n p) (tE b n p) 5 = true
    · rw [if_pos c5] at K ⊢
      exact t_X13_ruleAtHand_17 (fun q => absurd q n10) (fun _ => K)
    · rw [if_neg c5] at K ⊢
      refine t_X13_ruleAtHand_17 (fun _ => ct_isT (by omega) ht h2 hp hn ⟨_, rfl, ?_⟩) (fun q => absurd rfl q)
      rw [isWd_w wB_14]
      by_cases c6 : isWd b (tK b n p) (tS b n p) (tE b n p) 6 = true
      · rw [if_pos c6] at K ⊢
        exact t_X13_ruleAtHand_29 (fun q => absurd q n10) (fun _ => K)
      · rw [if_neg c6] at K ⊢
        refine t_X13_ruleAtHand_29 (fun _ => ct_isT (by omega) ht h2 hp hn ⟨_, rfl, t_X13_ruleAtHand_40 ?_⟩) (fun q => absurd rfl q)
        rw [isWd_w wB_10]
        by_cases c7 : isWd b (tK b n p) (tS b n p) (tE b n p) 7 = true
        · rw [if_pos c7] at K ⊢
          rw [if_neg n10]
          exact K
        · rw [if_neg c7] at K ⊢
          rw [if_pos rfl]
          exact K
/-- a number at hand: its value, or a FAULT -/
theorem ct_look {b : Nat → Int32} {p lo hi : Nat} (ht : TokM b n p M) (hp : p ≤ n) (hlo : lo ≤ 1000) (hhi : hi ≤ 1000)
    (K1 : ¬ tK b n p = 2 → Q (.threw (ad 53)) (sI (sI M 54 8 1) 54 9 (gI M 54 4))) (K2 : tK b n p = 2 → ¬ (lo ≤ tV b n p ∧ tV b n p ≤ hi) → Q (.threw (ad 53)) (sI (sI M 54 8 2) 54 9 (gI M 54 4))) (K3 : tK b n p = 2 → (lo ≤ tV b n p ∧ tV b n p ≤ hi) → Q (.returned (some (.int (nI (tV b n p))))) M) : Cal l D ad kA mX13_look [.ref (ad 54), .int (nI lo), .int (nI hi)] M Q := by
  obtain ⟨t0, t1, t6, t7, t8⟩ := ht
  obtain ⟨f1, f2, f3, f4, -⟩ := t_facts (b := b) (n := n) hp
  have n10 : ¬ (1 : Int32) = 0 := by decide
  have ek : gI M 54 6 = 2 ↔ tK b n p = 2 := by rw [t1, show (2 : Int32) = nI 2 from rfl, nI_eq (by omega) (by omega)]
  refine en_X13_look (t_X13_look_0 (ct_need (fun q => .inl ⟨rfl, t_X13_look_18 ?_⟩) (fun q => .inr ⟨rfl, K1 (fun z => by rw [if_pos (ek.mpr z)] at q; exact n10 q)⟩)))
  have e2 : tK b n p = 2 := by
    apply Classical.byContradiction
    intro z
    rw [if_neg (fun w => z (ek.mp w))] at q
    exact q rfl
  have vlt := tV_lt e2
  have hin : v_X13_in ((gI M 54 7).toInt64) (nI lo).toInt64 (nI hi).toInt64 = 0 ↔ ¬ (lo ≤ tV b n p ∧ tV b n p ≤ hi) := by
    rw [in0, t8 e2, Int32.toInt_toInt64, Int32.toInt_toInt64, Int32.toInt_toInt64, i_nI (by omega), i_nI (by omega), i_nI (by omega)]
    omega
  refine ct_need (fun q2 => .inl ⟨rfl, t_X13_look_35 ?_⟩) (fun q2 => .inr ⟨rfl, K2 e2 (hin.mp q2)⟩)
  rw [t8 e2]
  exact K3 e2 (Classical.byContradiction (fun z => q2 (hin.mpr z)))
def sMnM (c i : Nat) : Bool := (c == 54 && (i == 4 || i == 5 || i == 6 || i == 7 || i == 8 || i == 9)) || c == 64 || c == 66
/-- what the rows tell so far -/
def toldM (M : Mem) (fr : Nat → Int32) : Prop := ∀ r, r < 4 → (gI M 66 r = 0 ↔ fr r = (-1)) ∧ gI M 64 r = if fr r = (-1) then r0 r else fr r
theorem lp_rm51 {b : Nat → Int32} {P : (Nat × Nat) ⊕ (Nat × (Nat → Int32))} (hn : n ≤ 1200) (h2 : ∀ a, a < n → gI M0 55 a = b a ∧ -128 ≤ (gI M0 55 a).toInt ∧ (gI M0 55 a).toInt ≤ 127)
    (KF : ∀ k s, P = .inl (k, s) → ∀ M', Fr sMnM M0 M' → gI M' 54 8 = nI k → gI M' 54 9 = nI s → Q (.threw (ad 53)) M')
    (KO : ∀ c fr, P = .inr (c, fr) → ∀ M', Fr sMnM M0 M' → gI M' 54 8 = 0 → gI M' 54 9 = (-1) → toldM M' fr → Q (.returned (some (.int (nI c)))) M') : ∀ (f p c : Nat) (fr : Nat → Int32) (M : Mem), n - p < f → p ≤ n → Fr sMnM M0 M → TokM b n p M → gI M 54 8 = 0 → gI M 54 9 = (-1) → toldM M fr → (∀ r, r < 4 → ¬ fr r = (-1) → 0 ≤ (fr r).toInt) → PM b n f p fr c = P →
    Fw l D ad kA mX13_readManners 51 [some (.ref (ad 54)), some (.int (nI c)), none] [] M Q := by
  have n10 : ¬ (1 : Int32) = 0 := by decide
  have flt : ∀ (k s : Nat) (M : Mem), Fr sMnM M0 M → gI M 54 4 = nI s → P = .inl (k, s) → Q (.threw (ad 53)) (sI (sI M 54 8 (nI k)) 54 9 (gI M 54 4)) := by
    intro k s M hf h4 hP
    exact KF k s hP _ ((hf.sI rfl).sI rfl) rfl h4
  have bytes : ∀ M, Fr sMnM M0 M → ∀ a : Nat, a < n → gI M 55 a = b a ∧ -128 ≤ (gI M 55 a).toInt ∧ (gI M 55 a).toInt ≤ 127 := fun M hf a ha => by rw [hf.1 55 a rfl]; exact h2 a ha
  have mono : ∀ M M', Fr sScan M M' → Fr sMnM M M' := fun M M' hf => hf.mono (fun c i q => by simp [sMnM] at q; simp [sScan]; omega)
  intro f
  induction f with
  | zero => intro p c fr M hf; omega
  | succ f ih =>
    intro p c fr M hfu hp hf ht z8 z9 htl hfp hP
    obtain ⟨f1, f2, f3, f4, f5⟩ := t_facts (b := b) (n := n) hp
    unfold PM at hP
    have k6 := ht.2.1
    by_cases e0 : tK b n p = 0
    · rw [if_pos e0] at hP
      have e6 : gI M 54 6 = 0 := by rw [k6, e0]; rfl
      exact t_X13_readManners_51 (fun _ => KO c fr hP.symm M hf z8 z9 htl) (fun q => absurd e6 q)
    · rw [if_neg e0] at hP
      have e6 : ¬ gI M 54 6 = 0 := by rw [k6]; exact nI_ne0 (by omega) (by omega)
      refine t_X13_readManners_51 (fun q => absurd q e6) (fun _ => ct_ruleAtHand ht (fun a ha => (bytes M hf a ha).1) hp hn ⟨_, rfl, t_X13_readManners_62 ?_⟩)
      have hr4 := rlN_le (b := b) (n := n) (p := p)
      by_cases r4 : rlN b n p = 4
      · rw [if_pos r4] at hP
        have er : rI (rlN b n p) = (-1) := if_pos r4
        rw [if_pos er]
        exact ct_need (fun q => absurd rfl q) (fun _ => .inr ⟨rfl, flt 1 _ M hf ht.2.2.1 hP.symm⟩)
      · rw [if_neg r4] at hP
        have er : rI (rlN b n p) = nI (rlN b n p) := if_neg r4
        have ern : ¬ rI (rlN b n p) = (-1) := by rw [er]; exact nI_ne (by omega)
        rw [if_neg ern]
        refine ct_need (fun _ => .inl ⟨rfl, ?_⟩) (fun q => absurd q n10)
        rw [er]
        have hcl : (nI (rlN b n p)).toNatClampNeg = rlN b n p := nI_clamp (by omega)
        have hin4 : vp_in (nI (rlN b n p)) 4 := ixN (by omega) (by omega)
        obtain ⟨tl1, tl2⟩ := htl (rlN b n p) (by omega)
        refine t_X13_readManners_78 hin4 ?_
        rw [hcl]
        by_cases rf : fr (rlN b n p) = (-1)
        · rw [if_neg (fun z => z rf)] at hP
          rw [if_pos (tl1.mpr rf)]
          refine ct_need (fun _ => .inl ⟨rfl, t_X13_readManners_97 hin4 ?_⟩) (fun q => absurd q n10)
          rw [hcl]
          have F1 : Fr sMnM M0 (sI M 66 (rlN b n p) 1) := hf.sI rfl
          refine ct_scanT (M := sI M 66 (rlN b n p) 1) (b := b) ht.1 ht.2.2.2.1 f3 hn (bytes _ F1) (fun M2 hf2 t2 => ⟨rfl, t_X13_readManners_108 ?_⟩)
          have F2 : Fr sMnM M0 M2 := F1.tr (mono _ _ hf2)
          obtain ⟨g1, g2, g3, g4, g5⟩ := t_facts (b := b) (n := n) f3
          have hlo : loR (rlN b n p) ≤ 1 := by unfold loR; split <;> omega
          have hhi : hiR (rlN b n p) ≤ 47 := by unfold hiR; repeat' split
                                                all_goals omega
          have elo : (if nI (rlN b n p) = 1 then 1 else 0 : Int32) = nI (loR (rlN b n p)) := by
            unfold loR
            rw [show (1 : Int32) = nI 1 from rfl]
            by_cases e : rlN b n p = 1
            · rw [if_pos e, if_pos (by rw [e])]
            · rw [if_neg e, if_neg (by rw [nI_eq (by omega) (by omega)]; exact e)]; rfl
          have ehi : (if nI (rlN b n p) = 1 then 12 else if nI (rlN b n p) = 2 then 47 else 9 : Int32) = nI (hiR (rlN b n p)) := by
            unfold hiR
            rw [show (1 : Int32) = nI 1 from rfl, show (2 : Int32) = nI 2 from rfl]
            by_cases e : rlN b n p = 1
            · rw [if_pos e, if_pos (by rw [e])]; rfl
            · rw [if_neg e, if_neg (by rw [nI_eq (by omega) (by omega)]; exact e)]
              by_cases e' : rlN b n p = 2
              · rw [if_pos e', if_pos (by rw [e'])]; rfl
              · rw [if_neg e', if_neg (by rw [nI_eq (by omega) (by omega)]; exact e')]; rfl
          rw [elo, ehi]
          refine en_X13_number (t_X13_number_0 (ct_look t2 f3 (by omega) (by omega) (fun e2 => .inr ⟨rfl, .inr ⟨rfl, ?_⟩⟩) (fun e2 hb => .inr ⟨rfl, .inr ⟨rfl, ?_⟩⟩) (fun e2 hin => .inl ⟨_, rfl, t_X13_number_6 ?_⟩)))
          · rw [if_pos e2] at hP
            exact flt 1 _ M2 F2 t2.2.2.1 hP.symm
          · rw [if_neg (fun z => z e2), if_pos hb] at hP
            exact flt 2 _ M2 F2 t2.2.2.1 hP.symm
          · rw [if_neg (fun z => z e2), if_neg (fun z => z hin)] at hP
            refine ct_scanT (M := M2) (b := b) t2.1 t2.2.2.2.1 g3 hn (bytes _ F2) (fun M3 hf3 t3 => ⟨rfl, t_X13_number_11 (.inl ⟨_, rfl, t_X13_readManners_149 hin4 ?_⟩)⟩)
            have F3 : Fr sMnM M0 M3 := F2.tr (mono _ _ hf3)
            rw [hcl]
            generalize hM4 : sI M3 64 (rlN b n p) (nI (tV b n (tE b n p))) = M4
            have F4 : Fr sMnM M0 M4 := by rw [← hM4]; exact F3.sI rfl
            have t4 : TokM b n (tE b n (tE b n p)) M4 := by rw [← hM4]; exact t3
            obtain ⟨h1', h2', h3', h4', h5'⟩ := t_facts (b := b) (n := n) g3
            have e43 : gI M3 54 6 = 3 ↔ tK b n (tE b n (tE b n p)) = 3 := by rw [t3.2.1, show (3 : Int32) = nI 3 from rfl, nI_eq (by omega) (by omega)]
            by_cases e3 : tK b n (tE b n (tE b n p)) = 3
            · rw [if_neg (fun z => z e3)] at hP
              rw [if_pos (e43.mpr e3)]
              refine ct_need (fun _ => .inl ⟨rfl, t_X13_readManners_168 ?_⟩) (fun q => absurd q n10)
              refine ct_scanT (M := M4) (b := b) t4.1 t4.2.2.2.1 h3' hn (bytes _ F4) (fun M5 hf5 t5 => ⟨rfl, t_X13_readManners_172 ?_⟩)
              have F5 : Fr sMnM M0 M5 := F4.tr (mono _ _ hf5)
              rw [nI_1]
              have p0 := f5 e0
              have p1 := g5 (by rw [e2]; omega)
              have p2 := h5' (by rw [e3]; omega)
              have vlt := tV_lt e2
              refine ih (tE b n (tE b n (tE b n p))) (c + 1) _ M5 (by omega) h3' F5 t5 ?_ ?_ (fun r hr => ?_) (fun r hr hne => ?_) hP
              · rw [hf5.1 54 8 rfl, ← hM4]
                show gI M3 54 8 = 0
                rw [hf3.1 54 8 rfl, hf2.1 54 8 rfl]; exact z8
              · rw [hf5.1 54 9 rfl, ← hM4]
                show gI M3 54 9 = (-1)
                rw [hf3.1 54 9 rfl, hf2.1 54 9 rfl]; exact z9
              · have h66 : gI M5 66 r = gI (sI M 66 (rlN b n p) 1) 66 r := by
                  rw [hf5.1 66 r rfl, ← hM4]
                  show gI M3 66 r = _
                  rw [hf3.1 66 r rfl, hf2.1 66 r rfl]
                have h64 : gI M5 64 r = gI (sI M3 64 (rlN b n p) (nI (tV b n (tE b n p)))) 64 r := by rw [hf5.1 64 r rfl, ← hM4]
                rw [h66, h64]
                unfold updF
                by_cases e : r = rlN b n p
                · subst e
                  rw [gI_self, gI_self, if_pos rfl]
                  have hne : ¬ nI (tV b n (tE b n p)) = (-1) := nI_ne (by omega)
                  exact ⟨⟨fun z => absurd z n10, fun z => absurd z hne⟩, (if_neg hne).symm⟩
                · rw [gI_oi e, gI_oi e, if_neg e]
                  obtain ⟨w1, w2⟩ := htl r hr
                  refine ⟨w1, ?_⟩
                  rw [hf3.1 64 r rfl, hf2.1 64 r rfl]
                  exact w2
              · unfold updF at hne ⊢
                by_cases e : r = rlN b n p
                · rw [if_pos e, i_nI (by omega)]; omega
                · rw [if_neg e] at hne ⊢
                  exact hfp r hr hne
            · rw [if_pos e3] at hP
              rw [if_neg (fun z => e3 (e43.mp z))]
              exact ct_need (fun q => absurd rfl q) (fun _ => .inr ⟨rfl, flt 1 _ M4 F4 t4.2.2.1 hP.symm⟩)
        · rw [if_pos rf] at hP
          rw [if_neg (fun z => rf (tl1.mp z))]
          exact ct_need (fun q => absurd rfl q) (fun _ => .inr ⟨rfl, flt 3 _ M hf ht.2.2.1 hP.symm⟩)
end MannersM
