/-! SCORES' and heard texts: the model reads -/
theorem upd_ins {f : Nat → Int32} {k : Nat} {u v : Int32} : updF (insF f k u) k v = insF f k v := by
  funext i
  unfold updF insF
  by_cases c : i = k
  · rw [if_pos c, if_neg (by omega), if_pos c]
  · rw [if_neg c]
    by_cases d : i < k
    · rw [if_pos d, if_pos d]
    · rw [if_neg d, if_neg d, if_neg c, if_neg c]
def ins4 (r : Rw) (a b : Int32) (k : Nat) (v h : Int32) : Rw := (r.1 + 1, insF r.2.1 k a, insF r.2.2.1 k b, insF r.2.2.2.1 k v, insF r.2.2.2.2 k h)
theorem ins4_len {r : Rw} {a b v : Int32} {k : Nat} : lenRw (insRw r a b k) k v = ins4 r a b k v 0 := by
  unfold lenRw insRw ins4; simp only [upd_ins]
theorem ins4_man {r : Rw} {a b v h : Int32} {k : Nat} : manRw (ins4 r a b k v 0) k h = ins4 r a b k v h := by
  unfold manRw ins4; simp only [upd_ins]
section BeatsM
variable {l : Launch} {D : va_G} {ad : Nat → Nat} {kA : Nat → ClassId} {M M0 : Mem} {Q : Outcome → Mem → Prop} {n : Nat}
def sRowM (c i : Nat) : Bool := c == 60 || c == 61 || c == 62 || c == 63 || (c == 54 && i == 11)
theorem lp_rs163 {r : Rw} {a bb v h : Int32} (hm : r.1 < 160)
    (K : ∀ M', Fr sRowM M0 M' → gI M' 54 11 = nI (r.1 + 1) → rowsAt M' 60 61 62 63 (ins4 r a bb (ipos r.2.1 r.2.2.1 a bb r.1) v h) → Q (.returned none) M') : ∀ (k : Nat) (M : Mem), k ≤ r.1 → Fr sRowM M0 M → gI M 54 11 = nI r.1 → gapAt M 60 61 62 63 r k → ipos r.2.1 r.2.2.1 a bb r.1 = ipos r.2.1 r.2.2.1 a bb k →
    Fw l D ad kA mX13_readStroke 163 [some (.ref (ad 54)), some (.int a), none, some (.int bb), some (.int v), some (.int h), some (.int (nI k))] [] M Q := by
  have fin : ∀ (k : Nat) (M : Mem), k ≤ r.1 → Fr sRowM M0 M → gI M 54 11 = nI r.1 → gapAt M 60 61 62 63 r k → ipos r.2.1 r.2.2.1 a bb r.1 = k → Q (.returned none) (sI (sI (sI (sI (sI M 60 (nI k).toNatClampNeg a) 61 (nI k).toNatClampNeg bb) 62 (nI k).toNatClampNeg v) 63 (nI k).toNatClampNeg h) 54 11 ((gI M 54 11) + 1)) := by
    intro k M hk hf h4 hg hp
    rw [nI_clamp (by omega), h4, nI_1]
    refine K (sI (sI (sI (sI (sI M 60 k a) 61 k bb) 62 k v) 63 k h) 54 11 (nI (r.1 + 1))) (((((hf.sI rfl).sI rfl).sI rfl).sI rfl).sI rfl) rfl ?_
    rw [hp]
    intro i hi
    have hi : i < r.1 + 1 := hi
    show gI (sI (sI (sI (sI (sI M 60 k a) 61 k bb) 62 k v) 63 k h) 54 11 (nI (r.1 + 1))) 60 i = insF r.2.1 k a i ∧ gI (sI (sI (sI (sI (sI M 60 k a) 61 k bb) 62 k v) 63 k h) 54 11 (nI (r.1 + 1))) 61 i = insF r.2.2.1 k bb i ∧ gI (sI (sI (sI (sI (sI M 60 k a) 61 k bb) 62 k v) 63 k h) 54 11 (nI (r.1 + 1))) 62 i = insF r.2.2.2.1 k v i ∧ gI (sI (sI (sI (sI (sI M 60 k a) 61 k bb) 62 k v) 63 k h) 54 11 (nI (r.1 + 1))) 63 i = insF r.2.2.2.2 k h i
    have g5 : gI (sI (sI (sI (sI (sI M 60 k a) 61 k bb) 62 k v) 63 k h) 54 11 (nI (r.1 + 1))) 60 i = if i = k then a else gI M 60 i := by
      rw [gI_o (by omega), gI_o (by omega), gI_o (by omega), gI_o (by omega)]
      by_cases e : i = k
      · rw [if_pos e, e, gI_self]
      · rw [if_neg e, gI_oi e]
    have g6 : gI (sI (sI (sI (sI (sI M 60 k a) 61 k bb) 62 k v) 63 k h) 54 11 (nI (r.1 + 1))) 61 i = if i = k then bb else gI M 61 i := by
      rw [gI_o (by omega), gI_o (by omega), gI_o (by omega)]
      by_cases e : i = k
      · rw [if_pos e, e, gI_self]
      · rw [if_neg e, gI_oi e, gI_o (by omega)]
    have g7 : gI (sI (sI (sI (sI (sI M 60 k a) 61 k bb) 62 k v) 63 k h) 54 11 (nI (r.1 + 1))) 62 i = if i = k then v else gI M 62 i := by
      rw [gI_o (by omega), gI_o (by omega)]
      by_cases e : i = k
      · rw [if_pos e, e, gI_self]
      · rw [if_neg e, gI_oi e, gI_o (by omega), gI_o (by omega)]
    have g8 : gI (sI (sI (sI (sI (sI M 60 k a) 61 k bb) 62 k v) 63 k h) 54 11 (nI (r.1 + 1))) 63 i = if i = k then h else gI M 63 i := by
      rw [gI_o (by omega)]
      by_cases e : i = k
      · rw [if_pos e, e, gI_self]
      · rw [if_neg e, gI_oi e, gI_o (by omega), gI_o (by omega), gI_o (by omega)]
    rw [g5, g6, g7, g8]
    unfold insF
    by_cases c1 : i < k
    · rw [if_pos c1, if_pos c1, if_pos c1, if_pos c1, if_neg (by omega), if_neg (by omega), if_neg (by omega), if_neg (by omega)]
      exact hg.1 i c1
    · rw [if_neg c1, if_neg c1, if_neg c1, if_neg c1]
      by_cases c2 : i = k
      · simp only [if_pos c2]; exact ⟨trivial, trivial, trivial, trivial⟩
      · simp only [if_neg c2]; exact hg.2 i (by omega) (by omega)
  intro k
  induction k with
  | zero =>
    intro M hk hf h4 hg hp
    have hle : nI 0 ≤ 0 := by decide
    exact t_X13_readStroke_163 (fun _ => ix (by omega)) (fun q => absurd hle q) (fun q => absurd hle q) (fun q => absurd hle q) (fun q => absurd hle q) (fun _ => fin 0 M hk hf h4 hg hp) (fun q => absurd hle q) (fun q => absurd hle q) (fun q => absurd hle q)
  | succ k ih =>
    intro M hk hf h4 hg hp
    have hnle : ¬ nI (k + 1) ≤ 0 := nI_nle (by omega) (by omega)
    have hcl : (nI k).toNatClampNeg = k := nI_clamp (by omega)
    obtain ⟨e5, e6, e7, e8⟩ := hg.1 k (by omega)
    have hp : ipos r.2.1 r.2.2.1 a bb r.1 = (if r.2.1 k = a ∧ ¬ r.2.2.1 k ≤ bb then ipos r.2.1 r.2.2.1 a bb k else k + 1) := hp
    refine t_X13_readStroke_163 (fun q => absurd q hnle) (fun _ => by rw [nI_pred]; exact ix (by omega)) (fun _ _ => ix (by omega)) (fun _ _ _ => ix (by omega)) (fun _ _ _ => ix (by omega)) (fun q => absurd q hnle) (fun _ c => ?_) (fun _ c1 c2 => ?_) (fun _ c1 c2 => ?_)
    · rw [nI_pred, hcl, e5] at c
      rw [if_neg (fun z => c z.1)] at hp
      exact fin (k + 1) M hk hf h4 hg hp
    · rw [nI_pred, hcl, e6] at c2
      rw [if_neg (fun z => z.2 c2)] at hp
      exact fin (k + 1) M hk hf h4 hg hp
    · rw [nI_pred, hcl, e5] at c1
      rw [nI_pred, hcl, e6] at c2
      rw [if_pos ⟨c1, c2⟩] at hp
      have em : nI (k + 1) + (-1) = nI k := by rw [i_eq, i_add, i_nI, i_nI, nm1] <;> (try rw [i_nI]) <;> (try rw [nm1]) <;> omega
      rw [em, nI_pred, hcl, nI_clamp (by omega), e5, e6, e7, e8]
      refine ih _ (by omega) ((((hf.sI rfl).sI rfl).sI rfl).sI rfl) h4 ⟨fun i hi => ?_, fun i hi hi2 => ?_⟩ hp
      · obtain ⟨q5, q6, q7, q8⟩ := hg.1 i (by omega)
        refine ⟨?_, ?_, ?_, ?_⟩
        · rw [gI_o (by omega), gI_o (by omega), gI_o (by omega), gI_oi (by omega)]; exact q5
        · rw [gI_o (by omega), gI_o (by omega), gI_oi (by omega), gI_o (by omega)]; exact q6
        · rw [gI_o (by omega), gI_oi (by omega), gI_o (by omega), gI_o (by omega)]; exact q7
        · rw [gI_oi (by omega), gI_o (by omega), gI_o (by omega), gI_o (by omega)]; exact q8
      · by_cases e : i = k + 1
        · subst e
          rw [show k + 1 - 1 = k by omega]
          refine ⟨?_, ?_, ?_, ?_⟩
          · rw [gI_o (by omega), gI_o (by omega), gI_o (by omega), gI_self]
          · rw [gI_o (by omega), gI_o (by omega), gI_self]
          · rw [gI_o (by omega), gI_self]
          · rw [gI_self]
        · obtain ⟨q5, q6, q7, q8⟩ := hg.2 i (by omega) hi2
          refine ⟨?_, ?_, ?_, ?_⟩
          · rw [gI_o (by omega), gI_o (by omega), gI_o (by omega), gI_oi (by omega)]; exact q5
          · rw [gI_o (by omega), gI_o (by omega), gI_oi (by omega), gI_o (by omega)]; exact q6
          · rw [gI_o (by omega), gI_oi (by omega), gI_o (by omega), gI_o (by omega)]; exact q7
          · rw [gI_oi (by omega), gI_o (by omega), gI_o (by omega), gI_o (by omega)]; exact q8
def sBtM (c i : Nat) : Bool := (c == 54 && (i == 4 || i == 5 || i == 6 || i == 7 || i == 8 || i == 9 || i == 11)) || c == 60 || c == 61 || c == 62 || c == 63
/-- the model's state beside its token -/
def stMd (M : Mem) (a : Nat) (r : Rw) : Prop := gI M 54 8 = 0 ∧ gI M 54 9 = (-1) ∧ gI M 54 11 = nI r.1 ∧ rowsAt M 60 61 62 63 r ∧ okRw r a
theorem stMd.scan {M M' : Mem} {a : Nat} {r : Rw} (h : stMd M a r) (hf : Fr sScan M M') : stMd M' a r := by
  obtain ⟨h8, h9, h11, hr, ok⟩ := h
  exact ⟨by rw [hf.1 54 8 rfl]; exact h8, by rw [hf.1 54 9 rfl]; exact h9, by rw [hf.1 54 11 rfl]; exact h11, fun i hi => by rw [hf.1 60 i rfl, hf.1 61 i rfl, hf.1 62 i rfl, hf.1 63 i rfl]; exact hr i hi, ok⟩
theorem ct_readStroke {b : Nat → Int32} {all : Bool} {x2 : Int32} (hx2 : x2 = if all = true then 1 else 0) {P : (Nat × Nat) ⊕ Rw} (hn : n ≤ 1200) (h2 : ∀ a, a < n → gI M0 55 a = b a ∧ -128 ≤ (gI M0 55 a).toInt ∧ (gI M0 55 a).toInt ≤ 127)
    {f w p a k : Nat} {r : Rw} (hp : p ≤ n) (hw : w = 2 ∨ w = 3 ∨ w = 5 ∨ w = 6) (hwk : w = 2 ∨ tK b n p = 2) (hf : Fr sBtM M0 M) (ht : TokM b n p M) (hst : stMd M a r) (hfu : n - p < f + 1) (hP : PT b n all (f + 1) w p a r k = P)
    (KF : ∀ k s, P = .inl (k, s) → ∀ M', Fr sBtM M0 M' → gI M' 54 8 = nI k → gI M' 54 9 = nI s → Q (.threw (ad 53)) M')
    (KO : ∀ q f' w' k' r' M', Fr sBtM M0 M' → TokM b n q M' → stMd M' a r' → q ≤ n → n - q < f' → f' ≤ f → (w' = 3 ∨ w' = 5 ∨ w' = 6) → PT b n all f' w' q a r' k' = P → (¬ tK b n q = 2 → ¬ tK b n q = 3 → P = .inl (1, tS b n q)) → Q (.returned none) M') : Cal l D ad kA mX13_readStroke [.ref (ad 54), .int (nI a), .int x2] M Q := by
  have n10 : ¬ (1 : Int32) = 0 := by decide
  have n20 : ¬ (2 : Int32) = 0 := by decide
  obtain ⟨s8, s9, s11, srow, sok⟩ := id hst
  obtain ⟨o1, o2, o3, o4⟩ := id sok
  obtain ⟨f1, f2, f3, f4, f5⟩ := t_facts (b := b) (n := n) hp
  have flt : ∀ (k s : Nat) (M : Mem), Fr sBtM M0 M → gI M 54 4 = nI s → P = .inl (k, s) → Q (.threw (ad 53)) (sI (sI M 54 8 (nI k)) 54 9 (gI M 54 4)) := by
    intro k s M hf h4 hP
    exact KF k s hP _ ((hf.sI rfl).sI rfl) rfl h4
  have bytes : ∀ M, Fr sBtM M0 M → ∀ a : Nat, a < n → gI M 55 a = b a ∧ -128 ≤ (gI M 55 a).toInt ∧ (gI M 55 a).toInt ≤ 127 := fun M hf a ha => by rw [hf.1 55 a rfl]; exact h2 a ha
  have mono : ∀ M M', Fr sScan M M' → Fr sBtM M M' := fun M M' hf => hf.mono (fun c i q => by simp [sBtM] at q; simp [sScan]; omega)
  have monoR : ∀ M M', Fr sRowM M M' → Fr sBtM M M' := fun M M' hf => hf.mono (fun c i q => by simp [sBtM] at q; simp [sRowM]; omega)
  have w014 : ¬ w = 0 ∧ ¬ w = 1 ∧ ¬ w = 4 := by omega
  unfold PT at hP
  rw [if_neg w014.1, if_neg w014.2.1, if_neg w014.2.2] at hP
  refine en_X13_readStroke (t_X13_readStroke_0 (ct_look (lo := 0) (hi := 47) ht hp (by omega) (by omega) (fun e2 => .inr ⟨rfl, ?_⟩) (fun e2 hb => .inr ⟨rfl, ?_⟩) (fun e2 hin => .inl ⟨_, rfl, t_X13_readStroke_7 ?_⟩)))
  · have w2 : w = 2 := by rcases hwk with z | z; exact z; exact absurd z e2
    rw [if_neg e2] at hP
    refine flt 1 _ M hf ht.2.2.1 ?_
    by_cases e3 : tK b n p = 3
    · rw [if_pos e3, if_pos w2] at hP; exact hP.symm
    · rw [if_neg e3, if_neg (by omega), if_neg (by omega), if_neg (by omega)] at hP; exact hP.symm
  · rw [if_pos e2, if_pos (by omega)] at hP
    exact flt 2 _ M hf ht.2.2.1 hP.symm
  · have vlt := tV_lt e2
    rw [if_pos e2, if_neg (by omega)] at hP
    have hfpos := f5 (by rw [e2]; omega)
    -- twice
    have loop : ∀ (j i : Nat), i + j = r.1 → (∀ c, c < i → ¬ (r.2.1 c = nI a ∧ r.2.2.1 c = nI (tV b n p))) → Fw l D ad kA mX13_readStroke 11 [some (.ref (ad 54)), some (.int (nI a)), some (.int x2), some (.int (nI (tV b n p))), some (.int (nI i)), none, none] [] M Q := by
      intro j
      induction j with
      | zero =>
        intro i hi hno
        have hle : gI M 54 11 ≤ nI i := by rw [s11, nI_leI (by omega) (by omega)]; omega
        have notw : ¬ twB r.2.1 r.2.2.1 (nI a) (nI (tV b n p)) r.1 = true := fun z => by
          obtain ⟨c, c1, c2⟩ := (twB_t _).mp z
          exact hno c (by omega) c2
        rw [if_neg notw] at hP
        refine t_X13_readStroke_11 (fun q => absurd hle q) (fun _ => ?_) (fun q => absurd hle q)
        by_cases h160 : 160 ≤ r.1
        · rw [if_pos h160] at hP
          rw [if_pos (show 160 ≤ gI M 54 11 by rw [s11, show (160 : Int32) = nI 160 from rfl, nI_leI (by omega) (by omega)]; exact h160)]
          exact ct_need (fun q => absurd rfl q) (fun _ => .inr ⟨rfl, flt 4 _ M hf ht.2.2.1 hP.symm⟩)
        · rw [if_neg h160] at hP
          rw [if_neg (show ¬ 160 ≤ gI M 54 11 by rw [s11, show (160 : Int32) = nI 160 from rfl, nI_leI (by omega) (by omega)]; exact h160)]
          refine ct_need (fun _ => .inl ⟨rfl, t_X13_readStroke_78 ?_⟩) (fun q => absurd q n10)
          refine ct_scanT (b := b) ht.1 ht.2.2.2.1 f3 hn (bytes M hf) (fun M1 hf1 t1 => ⟨rfl, ?_⟩)
          have F1 := hf.tr (mono _ _ hf1)
          have st1' := hst.scan hf1
          obtain ⟨g1, g2, g3, g4, g5⟩ := t_facts (b := b) (n := n) f3
          have okI := okRw_ins sok (show r.1 < 160 by omega) (show tV b n p ≤ 47 by omega)
          have hr160 : r.1 < 160 := by omega
          generalize hkk : ipos r.2.1 r.2.2.1 (nI a) (nI (tV b n p)) r.1 = kk at hP okI
          -- the row, once all is read
          have put : ∀ (v h : Int32) (M2 : Mem), Fr sBtM M0 M2 → stMd M2 a r → ∀ (q f' w' : Nat), TokM b n q M2 → q ≤ n → n - q < f' → f' ≤ f → (w' = 3 ∨ w' = 5 ∨ w' = 6) → okRw (ins4 r (nI a) (nI (tV b n p)) kk v h) a → PT b n all f' w' q a (ins4 r (nI a) (nI (tV b n p)) kk v h) kk = P → (¬ tK b n q = 2 → ¬ tK b n q = 3 → P = .inl (1, tS b n q)) → Fw l D ad kA mX13_readStroke 163 [some (.ref (ad 54)), some (.int (nI a)), none, some (.int (nI (tV b n p))), some (.int v), some (.int h), some (.int (gI M2 54 11))] [] M2 Q := by
            intro v h M2 hf2 hs2 q f' w' tq hq hqf hff hw' hok hP' hdead
            obtain ⟨z8, z9, z11, zr, -⟩ := hs2
            rw [z11]
            refine lp_rs163 (M0 := M2) hr160 (fun M3 hf3 g11 grow => ?_) r.1 M2 (Nat.le_refl _) Fr.rf z11 ⟨zr, fun i h1 h2 => by omega⟩ rfl
            rw [hkk] at grow
            refine KO q f' w' kk _ M3 (hf2.tr (monoR _ _ hf3)) ?_ ⟨by rw [hf3.1 54 8 rfl]; exact z8, by rw [hf3.1 54 9 rfl]; exact z9, g11, grow, hok⟩ hq hqf hff hw' hP' hdead
            obtain ⟨y0, y1, y2, y3, y4⟩ := tq
            exact ⟨by rw [hf3.1 54 3 rfl]; exact y0, by rw [hf3.1 54 6 rfl]; exact y1, by rw [hf3.1 54 4 rfl]; exact y2, by rw [hf3.1 54 5 rfl]; exact y3, fun z => by rw [hf3.1 54 7 rfl]; exact y4 z⟩
          have e10 : insRw r (nI a) (nI (tV b n p)) kk = ins4 r (nI a) (nI (tV b n p)) kk 1 0 := rfl
          rw [e10] at hP okI
          cases hall : all with
          | false =>
            rw [hall] at hP hx2
            have hx2 : x2 = 0 := hx2
            have hP : PT b n false f 6 (tE b n p) a (ins4 r (nI a) (nI (tV b n p)) kk 1 0) kk = P := hP
            refine t_X13_readStroke_82 (fun _ => ?_) (fun q => absurd hx2 q)
            refine put 1 0 M1 F1 st1' (tE b n p) f 6 t1 f3 (by omega) (by omega) (by omega) okI (by rw [hall]; exact hP) (fun d2 d3 => ?_)
            obtain ⟨f0, rfl⟩ : ∃ f0, f = f0 + 1 := ⟨f - 1, by omega⟩
            unfold PT at hP
            rw [if_neg (by omega), if_neg (by omega), if_neg (by omega), if_neg d2, if_neg d3, if_neg (by omega), if_neg (by omega), if_neg (by omega)] at hP
            exact hP.symm
          | true =>
            rw [hall] at hP hx2
            have hx2 : x2 = 1 := hx2
            have hx0 : ¬ x2 = 0 := by rw [hx2]; exact n10
            have hP : PT b n true f 3 (tE b n p) a (ins4 r (nI a) (nI (tV b n p)) kk 1 0) kk = P := hP
            -- the manner, behind the length
            have mann : ∀ (v : Nat) (M2 : Mem) (q f' w' : Nat), 1 ≤ v → v ≤ 16 → Fr sBtM M0 M2 → stMd M2 a r → TokM b n q M2 → q ≤ n → n - q < f' → f' ≤ f → (w' = 3 ∧ ¬ wd b n q 1 = true ∨ w' = 5) → PT b n true f' w' q a (ins4 r (nI a) (nI (tV b n p)) kk (nI v) 0) kk = P → Cal l D ad kA mX13_is [.ref (ad 54), .ref (ad (210 + 10))] M2 (fun oc M2 => ∃ r : Int32, oc = .returned (some (.int r)) ∧ Fw l D ad kA mX13_readStroke 121 [some (.ref (ad 54)), some (.int (nI a)), some (.int x2), some (.int (nI (tV b n p))), some (.int (nI v)), none, none] [.int r] M2 Q) := by
              intro v M2 q f' w' hv1 hv2 hf2 hs2 tq hq hqf hff hw' hP'
              have okL : okRw (ins4 r (nI a) (nI (tV b n p)) kk (nI v) 0) a := by
                rw [← ins4_len]
                exact okRw_len okI ⟨hv1, hv2⟩
              refine ct_isT (b := b) (w := 10) (by omega) tq (fun a ha => (bytes M2 hf2 a ha).1) hq hn ⟨_, rfl, ?_⟩
              have ew2 : isWd b (tK b n q) (tS b n q) (tE b n q) 10 = wd b n q 2 := isWd_w rfl
              have ew3 : isWd b (tK b n q) (tS b n q) (tE b n q) 11 = wd b n q 3 := isWd_w rfl
              rw [ew2]
              obtain ⟨h1, h2', h3, h4, h5⟩ := t_facts (b := b) (n := n) hq
              obtain ⟨f0, rfl⟩ : ∃ f0, f' = f0 + 1 := ⟨f' - 1, by omega⟩
              have hw35 : w' = 3 ∨ w' = 5 := by rcases hw' with z | z; exact .inl z.1; exact .inr z
              have hPu := hP'
              unfold PT at hPu
              rw [if_neg (by omega), if_neg (by omega), if_neg (by omega)] at hPu
              by_cases sk : wd b n q 2 = true
              · rw [if_pos sk]
                have k1 := wd_1 sk
                rw [if_neg (by omega), if_neg (by omega), if_neg (by rintro ⟨z1, z2⟩; rcases hw' with z | z; exact z.2 z2; omega), if_pos ⟨hw35, sk⟩, ins4_man] at hPu
                refine t_X13_readStroke_121 (fun q => absurd q n10) (fun q => absurd q n10) (fun _ => ct_scanT (b := b) tq.1 tq.2.2.2.1 h3 hn (bytes M2 hf2) (fun M3 hf3 t3 => ⟨rfl, t_X13_readStroke_157 ?_⟩))
                have p5 := h5 (by omega)
                refine put (nI v) 1 M3 (hf2.tr (mono _ _ hf3)) (hs2.scan hf3) (tE b n q) f0 6 t3 h3 (by omega) (by omega) (by omega) (by rw [← ins4_man]; exact okRw_man (v := 1) okL (by omega)) (by rw [hall]; exact hPu) (fun d2 d3 => ?_)
                obtain ⟨f00, rfl⟩ : ∃ f00, f0 = f00 + 1 := ⟨f0 - 1, by omega⟩
                unfold PT at hPu
                rw [if_neg (by omega), if_neg (by omega), if_neg (by omega), if_neg d2, if_neg d3, if_neg (by omega), if_neg (by omega), if_neg (by omega)] at hPu
                exact hPu.symm
              · rw [if_neg sk]
                refine t_X13_readStroke_121 (fun _ q => absurd q hx0) (fun _ _ => ct_isT (b := b) (w := 11) (by omega) tq (fun a ha => (bytes M2 hf2 a ha).1) hq hn ⟨_, rfl, ?_⟩) (fun q => absurd rfl q)
                rw [ew3]
                by_cases sh : wd b n q 3 = true
                · rw [if_pos sh]
                  have k1 := wd_1 sh
                  rw [if_neg (by omega), if_neg (by omega), if_neg (by rintro ⟨z1, z2⟩; rcases hw' with z | z; exact z.2 z2; omega), if_neg (fun z => sk z.2), if_pos ⟨hw35, sh⟩, ins4_man] at hPu
                  refine t_X13_readStroke_138 (fun q => absurd q (by rw [if_neg n10]; exact n20)) (fun _ => ct_scanT (b := b) tq.1 tq.2.2.2.1 h3 hn (bytes M2 hf2) (fun M3 hf3 t3 => ⟨rfl, t_X13_readStroke_157 ?_⟩))
                  rw [if_neg n10]
                  have p5 := h5 (by omega)
                  refine put (nI v) 2 M3 (hf2.tr (mono _ _ hf3)) (hs2.scan hf3) (tE b n q) f0 6 t3 h3 (by omega) (by omega) (by omega) (by rw [← ins4_man]; exact okRw_man (v := 2) okL (by omega)) (by rw [hall]; exact hPu) (fun d2 d3 => ?_)
                  obtain ⟨f00, rfl⟩ : ∃ f00, f0 = f00 + 1 := ⟨f0 - 1, by omega⟩
                  unfold PT at hPu
                  rw [if_neg (by omega), if_neg (by omega), if_neg (by omega), if_neg d2, if_neg d3, if_neg (by omega), if_neg (by omega), if_neg (by omega)] at hPu
                  exact hPu.symm
                · rw [if_neg sh]
                  refine t_X13_readStroke_138 (fun _ => ?_) (fun q => absurd (if_pos rfl) q)
                  rw [if_pos rfl]
                  refine put (nI v) 0 M2 hf2 hs2 q (f0 + 1) w' tq hq hqf hff (by omega) okL (by rw [hall]; exact hP') (fun d2 d3 => ?_)
                  rw [if_neg d2, if_neg d3, if_neg (by rintro ⟨z1, z2⟩; rcases hw' with z | z; exact z.2 z2; omega), if_neg (fun z => sk z.2), if_neg (fun z => sh z.2)] at hPu
                  exact hPu.symm
            have ew1 : isWd b (tK b n (tE b n p)) (tS b n (tE b n p)) (tE b n (tE b n p)) 9 = wd b n (tE b n p) 1 := isWd_w rfl
            refine t_X13_readStroke_82 (fun q => absurd q hx0) (fun _ => ct_isT (b := b) (w := 9) (by omega) t1 (fun a ha => (bytes M1 F1 a ha).1) f3 hn ⟨_, rfl, ?_⟩)
            rw [ew1]
            by_cases fw : wd b n (tE b n p) 1 = true
            · rw [if_pos fw]
              have k1 := wd_1 fw
              obtain ⟨f0, rfl⟩ : ∃ f0, f = f0 + 1 := ⟨f - 1, by omega⟩
              unfold PT at hP
              rw [if_neg (by omega), if_neg (by omega), if_neg (by omega), if_neg (by omega), if_neg (by omega), if_pos ⟨rfl, fw⟩] at hP
              have p5 := g5 (by omega)
              refine t_X13_readStroke_95 (fun q => absurd q n10) (fun q => absurd q n10) (fun _ => ct_scanT (b := b) t1.1 t1.2.2.2.1 g3 hn (bytes M1 F1) (fun M2 hf2 t2 => ⟨rfl, t_X13_readStroke_102 ?_⟩))
              have F2 := F1.tr (mono _ _ hf2)
              have st2 := st1'.scan hf2
              obtain ⟨h1, h2', h3, h4, h5⟩ := t_facts (b := b) (n := n) g3
              obtain ⟨f00, rfl⟩ : ∃ f00, f0 = f00 + 1 := ⟨f0 - 1, by omega⟩
              unfold PT at hP
              rw [if_neg (by omega), if_neg (by omega), if_pos rfl] at hP
              refine en_X13_number (t_X13_number_0 (ct_look (lo := 1) (hi := 16) t2 g3 (by omega) (by omega) (fun e2' => .inr ⟨rfl, .inr ⟨rfl, ?_⟩⟩) (fun e2' hb => .inr ⟨rfl, .inr ⟨rfl, ?_⟩⟩) (fun e2' hin' => .inl ⟨_, rfl, t_X13_number_6 ?_⟩)))
              · rw [if_neg e2'] at hP
                exact flt 1 _ M2 F2 t2.2.2.1 hP.symm
              · rw [if_pos e2', if_neg hb] at hP
                exact flt 2 _ M2 F2 t2.2.2.1 hP.symm
              · rw [if_pos e2', if_pos hin'] at hP
                refine ct_scanT (b := b) t2.1 t2.2.2.2.1 h3 hn (bytes M2 F2) (fun M3 hf3 t3 => ⟨rfl, t_X13_number_11 (.inl ⟨_, rfl, t_X13_readStroke_109 (fun q => absurd q hx0) (fun _ => ?_)⟩)⟩)
                have p6 := h5 (by omega)
                have el : lenRw (ins4 r (nI a) (nI (tV b n p)) kk 1 0) kk (nI (tV b n (tE b n (tE b n p)))) = ins4 r (nI a) (nI (tV b n p)) kk (nI (tV b n (tE b n (tE b n p)))) 0 := ins4_len
                rw [el] at hP
                exact mann (tV b n (tE b n (tE b n p))) M3 (tE b n (tE b n (tE b n p))) f00 5 hin'.1 hin'.2 (F2.tr (mono _ _ hf3)) (st2.scan hf3) t3 h3 (by omega) (by omega) (.inr rfl) hP
            · rw [if_neg fw]
              exact t_X13_readStroke_95 (fun _ q => absurd q hx0) (fun _ _ => mann 1 M1 (tE b n p) f 3 (by omega) (by omega) F1 st1' t1 f3 (by omega) (by omega) (.inl ⟨rfl, fw⟩) hP) (fun q => absurd rfl q)
      | succ j ih =>
        intro i hi hno
        have hnle : ¬ gI M 54 11 ≤ nI i := by rw [s11, nI_leI (by omega) (by omega)]; omega
        have hcl : (nI i).toNatClampNeg = i := nI_clamp (by omega)
        obtain ⟨e60, e61, -, -⟩ := srow i (by omega)
        refine t_X13_readStroke_11 (fun _ => ix (by omega)) (fun q => absurd q hnle) (fun _ => ?_)
        rw [hcl, e60, e61]
        by_cases d : r.2.1 i = nI a ∧ r.2.2.1 i = nI (tV b n p)
        · rw [if_pos d.1, if_pos d.2]
          rw [if_pos ((twB_t _).mpr ⟨i, by omega, d⟩)] at hP
          exact ct_need (fun q => absurd rfl q) (fun _ => .inr ⟨rfl, flt 3 _ M hf ht.2.2.1 hP.symm⟩)
        · have e1 : (if r.2.1 i = nI a then if r.2.2.1 i = nI (tV b n p) then 0 else 1 else 1 : Int32) = 1 := by
            by_cases d1 : r.2.1 i = nI a
            · rw [if_pos d1, if_neg (fun z => d ⟨d1, z⟩)]
            · rw [if_neg d1]
          rw [e1]
          refine ct_need (fun _ => .inl ⟨rfl, t_X13_readStroke_52 ?_⟩) (fun q => absurd q n10)
          rw [nI_1]
          exact ih (i + 1) (by omega) (fun c hc => by
            by_cases e : c = i
            · rw [e]; exact d
            · exact hno c (by omega))
    exact loop r.1 0 (by omega) (fun c hc => by omega)
end BeatsM
