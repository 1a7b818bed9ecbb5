/-! SCORES' and heard texts: the class reads -/
section BeatsC2
variable {l : Launch} {D : va_G} {ad : Nat → Nat} {kA : Nat → ClassId} {M M0 : Mem} {Q : Outcome → Mem → Prop} {n : Nat}
def sBtC (c i : Nat) : Bool := (c == 1 && (i == 1 || i == 2 || i == 3 || i == 4 || i == 6 || i == 7)) || (c == 3 && (i == 2 || i == 3 || i == 4)) || (c == 4 && i == 4) || c == 5 || c == 6 || c == 7 || c == 8
/-- the class's state between tokens -/
def stC (n : Nat) (M : Mem) (w p a : Nat) (r : Rw) (k : Nat) : Prop := gI M 1 0 = nI n ∧ gI M 1 7 = nI p ∧ gI M 1 3 = 0 ∧ gI M 1 4 = (-1) ∧ gI M 3 2 = nI w ∧ gI M 3 3 = nI a ∧ (3 ≤ w → gI M 3 4 = nI k ∧ k < r.1) ∧ gI M 4 4 = nI r.1 ∧ rowsAt M 5 6 7 8 r ∧ okRw r a
theorem bt_end {x1 x3 : Int32} (h3 : ¬ gI M 1 3 = 0) (K : Q (.returned (some (.int 0))) M) : Fw l D ad kA mX0_readAll 29 [some (.ref (ad 3)), some (.int x1), some (.int 0), some (.int x3)] [] M Q :=
  t_X0_readAll_29 (fun _ => .inl rfl) (fun _ q => absurd rfl q) (fun _ _ _ => .inl rfl) (fun _ => K) (fun _ q => absurd rfl q) (fun _ _ _ => K) (fun _ _ q => absurd q h3)
theorem lp_bt {b : Nat → Int32} {all : Bool} {x1 : Int32} (hx1 : x1 = if all = true then 0 else 1) {P : (Nat × Nat) ⊕ Rw} (hn : n ≤ 1200) (h2 : ∀ a, a < n → gI M0 2 a = b a)
    (KF : ∀ k s, P = .inl (k, s) → ∀ M', Fr sBtC M0 M' → gI M' 1 3 = nI k → gI M' 1 4 = nI s → Q (.returned (some (.int 0))) M')
    (KO : ∀ r, P = .inr r → ∀ M', Fr sBtC M0 M' → gI M' 1 3 = 0 → gI M' 1 4 = (-1) → gI M' 4 4 = nI r.1 → rowsAt M' 5 6 7 8 r → (∃ a, okRw r a) → Q (.returned (some (.int 1))) M') : ∀ (f i w p a : Nat) (r : Rw) (k : Nat) (M : Mem), n - p < f → i ≤ p → p ≤ n → w ≤ 6 → Fr sBtC M0 M → stC n M w p a r k → PT b n all f w p a r k = P →
    Fw l D ad kA mX0_readAll 29 [some (.ref (ad 3)), some (.int x1), some (.int 0), some (.int (nI i))] [] M Q := by
  have n1200 : (1200 : Int32) = nI 1200 := rfl
  have n10 : ¬ (1 : Int32) = 0 := by decide
  have ref : ∀ (kd s : Nat) (i : Int32) (M : Mem), 1 ≤ kd → kd ≤ 4 → Fr sBtC M0 M → gI M 1 3 = nI kd → gI M 1 4 = nI s → P = .inl (kd, s) → Fw l D ad kA mX0_readAll 89 [some (.ref (ad 3)), some (.int x1), some (.int 0), some (.int i)] [] M Q := by
    intro kd s i M hk1 hk2 hf h3 h4 hP
    exact t_X0_readAll_89 (bt_end (by rw [h3]; exact nI_ne0 (by omega) (by omega)) (KF kd s hP M hf h3 h4))
  have neqW : ∀ (a c : Nat), a ≤ 6 → c ≤ 6 → ¬ a = c → ¬ nI a = nI c := fun a c h1 h2 h z => h ((nI_eq (by omega) (by omega)).mp z)
  intro f
  induction f with
  | zero => intro i w p a r k M hf; omega
  | succ f ih =>
    intro i w p a r k M hfu hip hp hw hf hst hP
    obtain ⟨s0, s7, s3, s4, s32, s33, s34, s44, srow, sok⟩ := hst
    have hnl : ¬ 1200 < nI i := by rw [n1200, nI_ltI (by omega) (by omega)]; omega
    obtain ⟨f1, f2, f3, f4, f5⟩ := t_facts (b := b) (n := n) hp
    refine t_X0_readAll_29 (fun q => absurd q hnl) (fun _ q => absurd rfl q) (fun _ _ q => absurd s3 q) (fun q => absurd q hnl) (fun _ q => absurd rfl q) (fun _ _ q => absurd s3 q) (fun _ _ _ => ct_tok s0 s7 hp hn (fun M1 hf1 k1 k6 k7 k2 => ⟨rfl, ?_⟩))
    have e2 : ∀ a, a < n → gI M 2 a = b a := fun a ha => by rw [hf.1 2 a rfl]; exact h2 a ha
    obtain ⟨c1, c3, c4, c5⟩ := t_congr e2 p hp
    rw [c3] at k1
    rw [c1] at k6
    rw [c4] at k7
    rw [c3, c5] at k2
    have F1 : Fr sBtC M0 M1 := hf.tr (hf1.mono (fun c i q => by simp [sBtC] at q; simp [sTok]; omega))
    have t1 : TokC b n p M1 := ⟨by rw [hf1.1 1 0 rfl]; exact s0, k1, k6, k7, k2⟩
    have e2M : ∀ a, a < n → gI M1 2 a = b a := fun a ha' => by rw [F1.1 2 a rfl]; exact h2 a ha'
    have u3 : gI M1 1 3 = 0 := by rw [hf1.1 1 3 rfl]; exact s3
    have u4 : gI M1 1 4 = (-1) := by rw [hf1.1 1 4 rfl]; exact s4
    have u32 : gI M1 3 2 = nI w := by rw [hf1.1 3 2 rfl]; exact s32
    have u33 : gI M1 3 3 = nI a := by rw [hf1.1 3 3 rfl]; exact s33
    have u34 : 3 ≤ w → gI M1 3 4 = nI k ∧ k < r.1 := fun z => by rw [hf1.1 3 4 rfl]; exact s34 z
    have u44 : gI M1 4 4 = nI r.1 := by rw [hf1.1 4 4 rfl]; exact s44
    have urow : rowsAt M1 5 6 7 8 r := fun i hi => by rw [hf1.1 5 i rfl, hf1.1 6 i rfl, hf1.1 7 i rfl, hf1.1 8 i rfl]; exact srow i hi
    have kw : ∀ c, c ≤ 6 → (gI M1 3 2 = nI c ↔ w = c) := fun c hc => by rw [u32, nI_eq (by omega) (by omega)]
    have kk : ∀ c, c ≤ 4 → (gI M1 1 1 = nI c ↔ tK b n p = c) := fun c hc => by rw [k1, nI_eq (by omega) (by omega)]
    obtain ⟨o1, o2, o3, o4⟩ := id sok
    unfold PT at hP
    by_cases w0 : w = 0
    · subst w0
      rw [if_pos rfl] at hP
      have a0 : gI M1 3 2 = 0 := u32
      by_cases e0 : tK b n p = 0
      · rw [if_pos e0] at hP
        have e1 : gI M1 1 1 = 0 := (kk 0 (by omega)).mpr e0
        have v1 : (if gI M1 1 1 = 0 then if gI M1 3 2 = 0 then 1 else 0 else 0 : Int32) = 1 := by rw [if_pos e1, if_pos a0]
        refine t_X0_readAll_57 (fun _ => ?_) (fun q => absurd (v1.symm.trans q) n10)
        rw [v1]
        have fin := KO r hP.symm M1 F1 u3 u4 u44 urow ⟨a, sok⟩
        exact t_X0_readAll_29 (fun _ => .inr rfl) (fun _ _ => .inr rfl) (fun _ q => absurd q n10) (fun _ => fin) (fun _ _ => fin) (fun _ q => absurd q n10) (fun _ q => absurd q n10)
      · rw [if_neg e0] at hP
        have e1 : ¬ gI M1 1 1 = 0 := fun z => e0 ((kk 0 (by omega)).mp z)
        have v0 : (if gI M1 1 1 = 0 then if gI M1 3 2 = 0 then 1 else 0 else 0 : Int32) = 0 := if_neg e1
        refine t_X0_readAll_57 (fun q => absurd v0 q) (fun _ => ?_)
        rw [v0]
        refine en_X0_take (t_X0_take_0 (fun q => absurd a0 q) (fun q => absurd a0 q) (fun q => absurd a0 q) (fun q => absurd a0 q) (fun q => absurd a0 q) (fun _ => ?_))
        refine ct_word (by omega) t1 e2M hp hn ⟨_, rfl, t_X0_take_17 ?_⟩
        by_cases cw : wd b n p 0 = true
        · rw [if_pos cw] at hP
          rw [if_pos (show isWd b (tK b n p) (tS b n p) (tE b n p) 0 = true from cw)]
          refine en_X0_goOnIf (t_X0_goOnIf_0 (fun q => absurd q n10) (fun _ => ⟨rfl, t_X0_take_21 ⟨rfl, t_X0_readAll_89 ?_⟩⟩))
          rw [nI_1]
          have p0 := f5 e0
          exact ih (i + 1) 1 (tE b n p) a r k _ (by omega) (by omega) f3 (by omega) (F1.sI rfl) ⟨t1.1, t1.2.2.2.1, u3, u4, rfl, u33, fun z => by omega, u44, urow, sok⟩ hP
        · rw [if_neg cw] at hP
          rw [if_neg (show ¬ isWd b (tK b n p) (tS b n p) (tE b n p) 0 = true from cw)]
          refine en_X0_goOnIf (t_X0_goOnIf_0 (fun _ => ct_refuse ⟨rfl, t_X0_goOnIf_20 ⟨rfl, t_X0_take_21 ⟨rfl, ?_⟩⟩⟩) (fun q => absurd rfl q))
          exact ref 1 _ _ _ (by omega) (by omega) ((F1.sI rfl).sI rfl) rfl t1.2.2.1 hP.symm
    · rw [if_neg w0] at hP
      have a0 : ¬ gI M1 3 2 = 0 := fun z => w0 ((kw 0 (by omega)).mp z)
      have v0 : (if gI M1 1 1 = 0 then if gI M1 3 2 = 0 then 1 else 0 else 0 : Int32) = 0 := by rw [if_neg a0]; split <;> rfl
      refine t_X0_readAll_57 (fun q => absurd v0 q) (fun _ => ?_)
      rw [v0]
      by_cases w1 : w = 1
      · subst w1
        rw [if_pos rfl] at hP
        have a1 : gI M1 3 2 = 1 := u32
        refine en_X0_take (t_X0_take_0 (fun _ q => absurd a1 q) (fun _ q => absurd a1 q) (fun _ q => absurd a1 q) (fun _ q => absurd a1 q) (fun _ _ => ?_) (fun q => absurd q a0))
        refine en_X0_takeBeat (t_X0_takeBeat_0 ?_)
        by_cases e2' : tK b n p = 2
        · rw [if_pos e2'] at hP
          rw [if_pos (show gI M1 1 1 = 2 from (kk 2 (by omega)).mpr e2')]
          have v2 := t1.2.2.2.2 e2'
          have vlt := tV_lt e2'
          refine en_X0_goOnIf (t_X0_goOnIf_0 (fun q => absurd q n10) (fun _ => ⟨rfl, ?_⟩))
          have cmp : gI M1 3 3 ≤ gI M1 1 2 ↔ a ≤ tV b n p := by rw [u33, v2, nI_leI (by omega) (by omega)]
          refine t_X0_takeBeat_21 (fun q => absurd u3 q) (fun _ q => ⟨rfl, t_X0_take_36 ⟨rfl, t_X0_readAll_89 ?_⟩⟩) (fun _ q => ct_refuse ⟨rfl, t_X0_takeBeat_53 ⟨rfl, t_X0_take_36 ⟨rfl, ?_⟩⟩⟩)
          · have q := cmp.mp q
            rw [if_pos q] at hP
            rw [nI_1, show gI (sI M1 3 2 2) 1 2 = nI (tV b n p) from v2]
            have p0 := f5 (by rw [e2']; omega)
            exact ih (i + 1) 2 (tE b n p) (tV b n p) r k _ (by omega) (by omega) f3 (by omega) ((F1.sI rfl).sI rfl) ⟨t1.1, t1.2.2.2.1, u3, u4, rfl, rfl, fun z => by omega, u44, urow, okRw_up sok q (by omega)⟩ hP
          · rw [if_neg (fun z => q (cmp.mpr z))] at hP
            exact ref 2 _ _ _ (by omega) (by omega) ((((F1.sI rfl).sI rfl).sI rfl).sI rfl) rfl t1.2.2.1 hP.symm
        · rw [if_neg e2'] at hP
          rw [if_neg (show ¬ gI M1 1 1 = 2 from fun z => e2' ((kk 2 (by omega)).mp z))]
          refine en_X0_goOnIf (t_X0_goOnIf_0 (fun _ => ct_refuse ⟨rfl, t_X0_goOnIf_20 ⟨rfl, ?_⟩⟩) (fun q => absurd rfl q))
          refine t_X0_takeBeat_21 (fun _ => ⟨rfl, t_X0_take_36 ⟨rfl, ?_⟩⟩) (fun q => absurd (show (1 : Int32) = 0 from q) n10) (fun q => absurd (show (1 : Int32) = 0 from q) n10)
          exact ref 1 _ _ _ (by omega) (by omega) (((F1.sI rfl).sI rfl).sI rfl) rfl t1.2.2.1 hP.symm
      · rw [if_neg w1] at hP
        have a1 : ¬ gI M1 3 2 = 1 := fun z => w1 ((kw 1 (by omega)).mp z)
        by_cases w4 : w = 4
        · subst w4
          rw [if_pos rfl] at hP
          have a4 : gI M1 3 2 = 4 := u32
          obtain ⟨l1, l2⟩ := u34 (by omega)
          refine en_X0_take (t_X0_take_0 (fun _ _ q => absurd a4 q) (fun _ _ q => absurd a4 q) (fun _ _ q => absurd a4 q) (fun _ _ _ => ?_) (fun _ q => absurd q a1) (fun q => absurd q a0))
          refine en_X0_takeLength (t_X0_takeLength_0 ?_)
          by_cases e2' : tK b n p = 2
          · rw [if_pos e2'] at hP
            rw [if_pos (show gI M1 1 1 = 2 from (kk 2 (by omega)).mpr e2')]
            have v2 := t1.2.2.2.2 e2'
            have vlt := tV_lt e2'
            refine en_X0_goOnIf (t_X0_goOnIf_0 (fun q => absurd q n10) (fun _ => ⟨rfl, ?_⟩))
            have cl : gI (sI M1 3 2 5) 1 2 < 1 ↔ tV b n p < 1 := by
              show gI M1 1 2 < 1 ↔ _
              rw [v2, show (1 : Int32) = nI 1 from rfl, nI_ltI (by omega) (by omega)]
            have ch : gI (sI M1 3 2 5) 1 2 ≤ 16 ↔ tV b n p ≤ 16 := by
              show gI M1 1 2 ≤ 16 ↔ _
              rw [v2, show (16 : Int32) = nI 16 from rfl, nI_leI (by omega) (by omega)]
            have bad : ¬ (1 ≤ tV b n p ∧ tV b n p ≤ 16) → Cal l D ad kA mX10_refuse [.ref (ad 1), .int 2] (sI M1 3 2 5) (fun oc M2 => oc = .returned none ∧ Fw l D ad kA mX0_takeLength 63 [none] [] M2 (fun oc M2 => oc = .returned none ∧ Fw l D ad kA mX0_take 51 [none, none] [] M2 (fun oc M2 => oc = .returned none ∧ Fw l D ad kA mX0_readAll 89 [some (.ref (ad 3)), some (.int x1), some (.int 0), some (.int (nI i))] [] M2 Q))) := by
              intro hb
              rw [if_neg hb] at hP
              refine ct_refuse ⟨rfl, t_X0_takeLength_63 ⟨rfl, t_X0_take_51 ⟨rfl, ?_⟩⟩⟩
              exact ref 2 _ _ _ (by omega) (by omega) (((F1.sI rfl).sI rfl).sI rfl) rfl t1.2.2.1 hP.symm
            refine t_X0_takeLength_21 (fun _ _ _ => by rw [show gI (sI M1 3 2 5) 3 4 = nI k from l1]; exact ix (by omega)) (fun _ q => bad (fun z => by have := cl.mp q; omega)) (fun _ q1 q2 => ⟨rfl, t_X0_take_51 ⟨rfl, t_X0_readAll_89 ?_⟩⟩) (fun _ _ q => bad (fun z => q (ch.mpr z.2))) (fun q => absurd u3 q)
            have hin : 1 ≤ tV b n p ∧ tV b n p ≤ 16 := ⟨Nat.le_of_not_lt (fun z => q1 (cl.mpr z)), ch.mp q2⟩
            rw [if_pos hin] at hP
            rw [nI_1, show gI (sI M1 3 2 5) 3 4 = nI k from l1, nI_clamp (by omega), show gI (sI M1 3 2 5) 1 2 = nI (tV b n p) from v2]
            have p0 := f5 (by rw [e2']; omega)
            refine ih (i + 1) 5 (tE b n p) a (lenRw r k (nI (tV b n p))) k _ (by omega) (by omega) f3 (by omega) ((F1.sI rfl).sI rfl) ⟨t1.1, t1.2.2.2.1, u3, u4, rfl, u33, fun _ => ⟨l1, l2⟩, u44, fun i hi => ?_, okRw_len sok hin⟩ hP
            obtain ⟨g5, g6, g7, g8⟩ := urow i hi
            refine ⟨g5, g6, ?_, g8⟩
            show gI (sI (sI M1 3 2 5) 7 k (nI (tV b n p))) 7 i = updF r.2.2.2.1 k (nI (tV b n p)) i
            unfold updF
            by_cases e : i = k
            · rw [e, gI_self, if_pos rfl]
            · rw [gI_oi e, if_neg e]; exact g7
          · rw [if_neg e2'] at hP
            rw [if_neg (show ¬ gI M1 1 1 = 2 from fun z => e2' ((kk 2 (by omega)).mp z))]
            refine en_X0_goOnIf (t_X0_goOnIf_0 (fun _ => ct_refuse ⟨rfl, t_X0_goOnIf_20 ⟨rfl, ?_⟩⟩) (fun q => absurd rfl q))
            have ne : ¬ gI (sI (sI M1 1 3 1) 1 4 (gI M1 1 6)) 1 3 = 0 := n10
            refine t_X0_takeLength_21 (fun q => absurd q ne) (fun q => absurd q ne) (fun q => absurd q ne) (fun q => absurd q ne) (fun _ => ⟨rfl, t_X0_take_51 ⟨rfl, ?_⟩⟩)
            exact ref 1 _ _ _ (by omega) (by omega) ((F1.sI rfl).sI rfl) rfl t1.2.2.1 hP.symm
        · rw [if_neg w4] at hP
          have a4 : ¬ gI M1 3 2 = 4 := fun z => w4 ((kw 4 (by omega)).mp z)
          by_cases e2' : tK b n p = 2
          · rw [if_pos e2'] at hP
            have e11 : gI M1 1 1 = 2 := (kk 2 (by omega)).mpr e2'
            have v2 := t1.2.2.2.2 e2'
            have vlt := tV_lt e2'
            refine en_X0_take (t_X0_take_0 (fun _ _ _ q => absurd e11 q) (fun _ _ _ q => absurd e11 q) (fun _ _ _ _ => ?_) (fun _ _ q => absurd q a4) (fun _ q => absurd q a1) (fun q => absurd q a0))
            have hbell : v_X11_isBell (gI M1 1 2) = 0 ↔ 47 < tV b n p := by rw [bell0, v2, i_nI (by omega)]; omega
            refine en_X0_takeBell (t_X0_takeBell_0 (fun q => ?_) (fun q => ct_refuse ⟨rfl, t_X0_takeBell_21 ⟨rfl, t_X0_take_70 ⟨rfl, ?_⟩⟩⟩))
            · have q47 : ¬ 47 < tV b n p := fun z => q (hbell.mpr z)
              rw [if_neg q47] at hP
              rw [u33, v2]
              refine ct_hasAt u44 urow sok ⟨_, rfl, ?_⟩
              by_cases tw' : twB r.2.1 r.2.2.1 (nI a) (nI (tV b n p)) r.1 = true
              · rw [if_pos tw'] at hP
                rw [if_pos tw']
                refine t_X0_takeBell_42 (fun q => absurd q n10) (fun q => absurd q n10) (fun _ => ct_refuse ⟨rfl, t_X0_takeBell_53 ⟨rfl, t_X0_take_70 ⟨rfl, ?_⟩⟩⟩)
                exact ref 3 _ _ _ (by omega) (by omega) ((F1.sI rfl).sI rfl) rfl t1.2.2.1 hP.symm
              · rw [if_neg tw'] at hP
                rw [if_neg tw']
                have h160 : gI M1 4 4 < 160 ↔ r.1 < 160 := by rw [u44, show (160 : Int32) = nI 160 from rfl, nI_ltI (by omega) (by omega)]
                refine t_X0_takeBell_42 (fun _ q2 => ?_) (fun _ q2 => ct_refuse ⟨rfl, t_X0_takeBell_77 ⟨rfl, t_X0_take_70 ⟨rfl, ?_⟩⟩⟩) (fun q => absurd rfl q)
                · have q2 := h160.mp q2
                  rw [if_neg (by omega)] at hP
                  rw [u33, v2]
                  refine ct_insert q2 u44 urow (fun M2 hf2 g44 grow => ⟨_, rfl, t_X0_takeBell_99 ⟨rfl, t_X0_take_70 ⟨rfl, t_X0_readAll_89 ?_⟩⟩⟩)
                  have hk := ipos_le (bt := r.2.1) (bl := r.2.2.1) (a := nI a) (b := nI (tV b n p)) r.1
                  have okI := okRw_ins sok q2 (show tV b n p ≤ 47 by omega)
                  have F2 : Fr sBtC M0 M2 := F1.tr (hf2.mono (fun c i q => by simp [sBtC] at q; simp [sRow]; omega))
                  rw [nI_1]
                  have p0 := f5 (by rw [e2']; omega)
                  have ew : (if x1 = 0 then 3 else 6 : Int32) = nI (if all = true then 3 else 6) := by
                    rw [hx1]
                    cases all <;> rfl
                  rw [ew]
                  refine ih (i + 1) (if all = true then 3 else 6) (tE b n p) a (insRw r (nI a) (nI (tV b n p)) (ipos r.2.1 r.2.2.1 (nI a) (nI (tV b n p)) r.1)) (ipos r.2.1 r.2.2.1 (nI a) (nI (tV b n p)) r.1) _ (by omega) (by omega) f3 (by split <;> omega) ((F2.sI rfl).sI rfl) ⟨?_, ?_, ?_, ?_, rfl, ?_, fun _ => ⟨rfl, ?_⟩, g44, grow, okI⟩ hP
                  · show gI M2 1 0 = nI n
                    rw [hf2.1 1 0 rfl]; exact t1.1
                  · show gI M2 1 7 = _
                    rw [hf2.1 1 7 rfl]; exact t1.2.2.2.1
                  · show gI M2 1 3 = 0
                    rw [hf2.1 1 3 rfl]; exact u3
                  · show gI M2 1 4 = (-1)
                    rw [hf2.1 1 4 rfl]; exact u4
                  · show gI M2 3 3 = nI a
                    rw [hf2.1 3 3 rfl]; exact u33
                  · show _ < r.1 + 1
                    omega
                · rw [if_pos (Nat.le_of_not_lt (fun z => q2 (h160.mpr z)))] at hP
                  exact ref 4 _ _ _ (by omega) (by omega) ((F1.sI rfl).sI rfl) rfl t1.2.2.1 hP.symm
            · rw [if_pos (hbell.mp q)] at hP
              exact ref 2 _ _ _ (by omega) (by omega) ((F1.sI rfl).sI rfl) rfl t1.2.2.1 hP.symm
          · rw [if_neg e2'] at hP
            have e11 : ¬ gI M1 1 1 = 2 := fun z => e2' ((kk 2 (by omega)).mp z)
            by_cases e3' : tK b n p = 3
            · rw [if_pos e3'] at hP
              have e13 : gI M1 1 1 = 3 := (kk 3 (by omega)).mpr e3'
              refine en_X0_take (t_X0_take_0 (fun _ _ _ _ q => absurd e13 q) (fun _ _ _ _ _ => ?_) (fun _ _ _ q => absurd q e11) (fun _ _ q => absurd q a4) (fun _ q => absurd q a1) (fun q => absurd q a0))
              by_cases w2 : w = 2
              · rw [if_pos w2] at hP
                rw [if_pos (show gI M1 3 2 = 2 from (kw 2 (by omega)).mpr w2)]
                refine en_X0_goOnIf (t_X0_goOnIf_0 (fun _ => ct_refuse ⟨rfl, t_X0_goOnIf_20 ⟨rfl, t_X0_take_102 ⟨rfl, ?_⟩⟩⟩) (fun q => absurd rfl q))
                exact ref 1 _ _ _ (by omega) (by omega) ((F1.sI rfl).sI rfl) rfl t1.2.2.1 hP.symm
              · rw [if_neg w2] at hP
                rw [if_neg (show ¬ gI M1 3 2 = 2 from fun z => w2 ((kw 2 (by omega)).mp z))]
                refine en_X0_goOnIf (t_X0_goOnIf_0 (fun q => absurd q n10) (fun _ => ⟨rfl, t_X0_take_102 ⟨rfl, t_X0_readAll_89 ?_⟩⟩))
                rw [nI_1]
                have p0 := f5 (by rw [e3']; omega)
                exact ih (i + 1) 0 (tE b n p) a r k _ (by omega) (by omega) f3 (by omega) (F1.sI rfl) ⟨t1.1, t1.2.2.2.1, u3, u4, rfl, u33, fun z => by omega, u44, urow, sok⟩ hP
            · rw [if_neg e3'] at hP
              have e13 : ¬ gI M1 1 1 = 3 := fun z => e3' ((kk 3 (by omega)).mp z)
              refine en_X0_take (t_X0_take_0 (fun _ _ _ _ _ => ?_) (fun _ _ _ _ q => absurd q e13) (fun _ _ _ q => absurd q e11) (fun _ _ q => absurd q a4) (fun _ q => absurd q a1) (fun q => absurd q a0))
              -- a word, or what is none
              have refW : P = .inl (1, tS b n p) → Cal l D ad kA mX10_refuse [.ref (ad 1), .int 1] M1 (fun oc M2 => oc = .returned none ∧ Fw l D ad kA mX0_takeWord 134 [none, none] [] M2 (fun oc M2 => oc = .returned none ∧ Fw l D ad kA mX0_take 109 [none, none] [] M2 (fun oc M2 => oc = .returned none ∧ Fw l D ad kA mX0_readAll 89 [some (.ref (ad 3)), some (.int x1), some (.int 0), some (.int (nI i))] [] M2 Q))) := by
                intro hP'
                refine ct_refuse ⟨rfl, t_X0_takeWord_134 ⟨rfl, t_X0_take_109 ⟨rfl, ?_⟩⟩⟩
                exact ref 1 _ _ _ (by omega) (by omega) ((F1.sI rfl).sI rfl) rfl t1.2.2.1 hP'
              have man : ∀ v : Nat, v ≤ 2 → 3 ≤ w → ¬ tK b n p = 0 → PT b n all f 6 (tE b n p) a (manRw r k (nI v)) k = P → Fw l D ad kA mX0_readAll 29 [some (.ref (ad 3)), some (.int x1), some (.int 0), some (.int (nI i + 1))] [] (sI (sI M1 8 (gI M1 3 4).toNatClampNeg (nI v)) 3 2 6) Q := by
                intro v hv h3w ne hP'
                obtain ⟨l1, l2⟩ := u34 h3w
                rw [nI_1, l1, nI_clamp (by omega)]
                have p0 := f5 ne
                refine ih (i + 1) 6 (tE b n p) a (manRw r k (nI v)) k _ (by omega) (by omega) f3 (by omega) ((F1.sI rfl).sI rfl) ⟨t1.1, t1.2.2.2.1, u3, u4, rfl, u33, fun _ => ⟨l1, l2⟩, u44, fun i hi => ?_, okRw_man sok hv⟩ hP'
                obtain ⟨g5, g6, g7, g8⟩ := urow i hi
                refine ⟨g5, g6, g7, ?_⟩
                show gI (sI M1 8 k (nI v)) 8 i = updF r.2.2.2.2 k (nI v) i
                unfold updF
                by_cases e : i = k
                · rw [e, gI_self, if_pos rfl]
                · rw [gI_oi e, if_neg e]; exact g8
              have sticks : (w = 3 ∨ w = 5) → (if (w = 3 ∨ w = 5) ∧ wd b n p 2 = true then PT b n all f 6 (tE b n p) a (manRw r k 1) k else if (w = 3 ∨ w = 5) ∧ wd b n p 3 = true then PT b n all f 6 (tE b n p) a (manRw r k 2) k else .inl (1, tS b n p)) = P → Cal l D ad kA mX10_isWord [.ref (ad 1), .ref (ad (210 + 2))] M1 (fun oc M2 => ∃ r : Int32, oc = .returned (some (.int r)) ∧ Fw l D ad kA mX0_takeWord 63 [some (.ref (ad 3)), some (.int 1)] [.int r] M2 (fun oc M2 => oc = .returned none ∧ Fw l D ad kA mX0_take 109 [none, none] [] M2 (fun oc M2 => oc = .returned none ∧ Fw l D ad kA mX0_readAll 89 [some (.ref (ad 3)), some (.int x1), some (.int 0), some (.int (nI i))] [] M2 Q))) := by
                intro hw35 hP'
                refine ct_word (by omega) t1 e2M hp hn ⟨_, rfl, ?_⟩
                obtain ⟨l1, l2⟩ := u34 (by omega)
                have gin : vp_in (gI M1 3 4) 160 := by rw [l1]; exact ix (by omega)
                by_cases s2 : wd b n p 2 = true
                · rw [if_pos ⟨hw35, s2⟩] at hP'
                  rw [if_pos (show isWd b (tK b n p) (tS b n p) (tE b n p) 2 = true from s2)]
                  refine t_X0_takeWord_63 (fun _ => gin) (fun q => absurd q n10) (fun q => absurd q n10) (fun _ => ⟨rfl, t_X0_take_109 ⟨rfl, t_X0_readAll_89 ?_⟩⟩)
                  exact man 1 (by omega) (by omega) (by rw [wd_1 s2]; omega) hP'
                · rw [if_neg (fun z => s2 z.2)] at hP'
                  rw [if_neg (show ¬ isWd b (tK b n p) (tS b n p) (tE b n p) 2 = true from s2)]
                  refine t_X0_takeWord_63 (fun _ => gin) (fun _ q => absurd q n10) (fun _ _ => ct_word (by omega) t1 e2M hp hn ⟨_, rfl, ?_⟩) (fun q => absurd rfl q)
                  by_cases s3' : wd b n p 3 = true
                  · rw [if_pos ⟨hw35, s3'⟩] at hP'
                    rw [if_pos (show isWd b (tK b n p) (tS b n p) (tE b n p) 3 = true from s3')]
                    refine t_X0_takeWord_101 (fun _ => gin) (fun q => absurd q n10) (fun _ => ⟨rfl, t_X0_take_109 ⟨rfl, t_X0_readAll_89 ?_⟩⟩)
                    exact man 2 (by omega) (by omega) (by rw [wd_1 s3']; omega) hP'
                  · rw [if_neg (fun z => s3' z.2)] at hP'
                    rw [if_neg (show ¬ isWd b (tK b n p) (tS b n p) (tE b n p) 3 = true from s3')]
                    exact t_X0_takeWord_101 (fun _ => gin) (fun _ => refW hP'.symm) (fun q => absurd rfl q)
              by_cases w3 : w = 3
              · have b3 : gI M1 3 2 = 3 := (kw 3 (by omega)).mpr w3
                have bs : (if gI M1 3 2 = 3 then 1 else if gI M1 3 2 = 5 then 1 else 0 : Int32) = 1 := if_pos b3
                refine en_X0_takeWord (t_X0_takeWord_0 (fun q => absurd b3 q) (fun q => absurd b3 q) (fun _ => ?_))
                rw [bs]
                refine ct_word (by omega) t1 e2M hp hn ⟨_, rfl, ?_⟩
                by_cases s1 : wd b n p 1 = true
                · rw [if_pos ⟨w3, s1⟩] at hP
                  rw [if_pos (show isWd b (tK b n p) (tS b n p) (tE b n p) 1 = true from s1)]
                  refine t_X0_takeWord_39 (fun q => absurd q n10) (fun q => absurd q n10) (fun _ => ⟨rfl, t_X0_take_109 ⟨rfl, t_X0_readAll_89 ?_⟩⟩)
                  rw [nI_1]
                  have p0 := f5 (by rw [wd_1 s1]; omega)
                  exact ih (i + 1) 4 (tE b n p) a r k _ (by omega) (by omega) f3 (by omega) (F1.sI rfl) ⟨t1.1, t1.2.2.2.1, u3, u4, rfl, u33, fun _ => u34 (by omega), u44, urow, sok⟩ hP
                · rw [if_neg (fun z => s1 z.2)] at hP
                  rw [if_neg (show ¬ isWd b (tK b n p) (tS b n p) (tE b n p) 1 = true from s1)]
                  exact t_X0_takeWord_39 (fun _ q => absurd q n10) (fun _ _ => sticks (.inl w3) hP) (fun q => absurd rfl q)
              · rw [if_neg (fun z => w3 z.1)] at hP
                have b3 : ¬ gI M1 3 2 = 3 := fun z => w3 ((kw 3 (by omega)).mp z)
                by_cases w5 : w = 5
                · have b5 : gI M1 3 2 = 5 := (kw 5 (by omega)).mpr w5
                  have bs : (if gI M1 3 2 = 3 then 1 else if gI M1 3 2 = 5 then 1 else 0 : Int32) = 1 := by rw [if_neg b3, if_pos b5]
                  refine en_X0_takeWord (t_X0_takeWord_0 (fun _ q => absurd q (by rw [bs]; exact n10)) (fun _ _ => ?_) (fun q => absurd q b3))
                  rw [bs]
                  exact sticks (.inr w5) hP
                · have b5 : ¬ gI M1 3 2 = 5 := fun z => w5 ((kw 5 (by omega)).mp z)
                  have bs : (if gI M1 3 2 = 3 then 1 else if gI M1 3 2 = 5 then 1 else 0 : Int32) = 0 := by rw [if_neg b3, if_neg b5]
                  rw [if_neg (fun z => by omega), if_neg (fun z => by omega)] at hP
                  exact en_X0_takeWord (t_X0_takeWord_0 (fun _ _ => refW hP.symm) (fun _ q => absurd bs q) (fun q => absurd q b3))
end BeatsC2
