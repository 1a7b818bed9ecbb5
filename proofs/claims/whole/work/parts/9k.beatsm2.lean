/-! SCORES' and heard texts: both, from the begin -/
section BeatsM2
variable {l : Launch} {D : va_G} {ad : Nat → Nat} {kA : Nat → ClassId} {M M0 : Mem} {Q : Outcome → Mem → Prop} {n : Nat}
theorem lp_rb {b : Nat → Int32} {all : Bool} {x2 : Int32} (hx2 : x2 = if all = true then 1 else 0) {P : (Nat × Nat) ⊕ Rw} (hn : n ≤ 1200) (h2 : ∀ a, a < n → gI M0 55 a = b a ∧ -128 ≤ (gI M0 55 a).toInt ∧ (gI M0 55 a).toInt ≤ 127)
    (KF : ∀ k s, P = .inl (k, s) → ∀ M', Fr sBtM M0 M' → gI M' 54 8 = nI k → gI M' 54 9 = nI s → Q (.threw (ad 53)) M')
    (KO : ∀ r, P = .inr r → ∀ M', Fr sBtM M0 M' → gI M' 54 8 = 0 → gI M' 54 9 = (-1) → gI M' 54 11 = nI r.1 → rowsAt M' 60 61 62 63 r → Q (.returned none) M') : ∀ f, (∀ (p a : Nat) (r : Rw) (k : Nat) (M : Mem), n - p < f → p ≤ n → Fr sBtM M0 M → TokM b n p M → stMd M a r → PT b n all f 0 p a r k = P →
    Fw l D ad kA mX13_readBeats 7 [some (.ref (ad 54)), some (.int x2), some (.int (nI a))] [] M Q) ∧ (∀ (w p a : Nat) (r : Rw) (k : Nat) (M : Mem), n - p < f → p ≤ n → (w = 2 ∨ w = 3 ∨ w = 5 ∨ w = 6) → (w = 2 ∨ tK b n p = 2) → Fr sBtM M0 M → TokM b n p M → stMd M a r → PT b n all f w p a r k = P →
    Fw l D ad kA mX13_readBeats 38 [some (.ref (ad 54)), some (.int x2), some (.int (nI a))] [] M Q) := by
  have n10 : ¬ (1 : Int32) = 0 := by decide
  have flt : ∀ (k s : Nat) (M : Mem), Fr sBtM M0 M → gI M 54 4 = nI s → P = .inl (k, s) → Q (.threw (ad 53)) (sI (sI M 54 8 (nI k)) 54 9 (gI M 54 4)) := by
    intro k s M hf h4 hP
    exact KF k s hP _ ((hf.sI rfl).sI rfl) rfl h4
  have bytes : ∀ M, Fr sBtM M0 M → ∀ a : Nat, a < n → gI M 55 a = b a ∧ -128 ≤ (gI M 55 a).toInt ∧ (gI M 55 a).toInt ≤ 127 := fun M hf a ha => by rw [hf.1 55 a rfl]; exact h2 a ha
  have mono : ∀ M M', Fr sScan M M' → Fr sBtM M M' := fun M M' hf => hf.mono (fun c i q => by simp [sBtM] at q; simp [sScan]; omega)
  intro f
  induction f using Nat.strongRecOn with
  | _ f ih =>
    constructor
    · intro p a r k M hfu hp hf ht hst hP
      obtain ⟨f1, f2, f3, f4, f5⟩ := t_facts (b := b) (n := n) hp
      obtain ⟨s8, s9, s11, srow, sok⟩ := id hst
      have o2 := sok.2.1
      obtain ⟨f0, rfl⟩ : ∃ f0, f = f0 + 1 := ⟨f - 1, by omega⟩
      unfold PT at hP
      rw [if_pos rfl] at hP
      by_cases e0 : tK b n p = 0
      · rw [if_pos e0] at hP
        have e6 : gI M 54 6 = 0 := by rw [ht.2.1, e0]; rfl
        exact t_X13_readBeats_7 (fun _ => KO r hP.symm M hf s8 s9 s11 srow) (fun q => absurd e6 q)
      · rw [if_neg e0] at hP
        have e6 : ¬ gI M 54 6 = 0 := by rw [ht.2.1]; exact nI_ne0 (by omega) (by omega)
        have ew : isWd b (tK b n p) (tS b n p) (tE b n p) 8 = wd b n p 0 := isWd_w rfl
        refine t_X13_readBeats_7 (fun q => absurd q e6) (fun _ => ct_isT (b := b) (w := 8) (by omega) ht (fun a ha => (bytes M hf a ha).1) hp hn ⟨_, rfl, t_X13_readBeats_21 ?_⟩)
        rw [ew]
        by_cases cw : wd b n p 0 = true
        · rw [if_pos cw] at hP
          rw [if_pos cw]
          refine ct_need (fun _ => .inl ⟨rfl, t_X13_readBeats_25 ?_⟩) (fun q => absurd q n10)
          refine ct_scanT (b := b) ht.1 ht.2.2.2.1 f3 hn (bytes M hf) (fun M1 hf1 t1 => ⟨rfl, t_X13_readBeats_29 ?_⟩)
          have F1 := hf.tr (mono _ _ hf1)
          have st1' := hst.scan hf1
          obtain ⟨g1, g2, g3, g4, g5⟩ := t_facts (b := b) (n := n) f3
          have p0 := f5 e0
          obtain ⟨f00, rfl⟩ : ∃ f00, f0 = f00 + 1 := ⟨f0 - 1, by omega⟩
          unfold PT at hP
          rw [if_neg (by omega), if_pos rfl] at hP
          refine en_X13_number (t_X13_number_0 (ct_look (lo := a) (hi := 999) t1 f3 (by omega) (by omega) (fun e2 => .inr ⟨rfl, .inr ⟨rfl, ?_⟩⟩) (fun e2 hb => .inr ⟨rfl, .inr ⟨rfl, ?_⟩⟩) (fun e2 hin => .inl ⟨_, rfl, t_X13_number_6 ?_⟩)))
          · rw [if_neg e2] at hP
            exact flt 1 _ M1 F1 t1.2.2.1 hP.symm
          · have vlt := tV_lt e2
            rw [if_pos e2, if_neg (fun z => hb ⟨z, by omega⟩)] at hP
            exact flt 2 _ M1 F1 t1.2.2.1 hP.symm
          · rw [if_pos e2, if_pos hin.1] at hP
            refine ct_scanT (b := b) t1.1 t1.2.2.2.1 g3 hn (bytes M1 F1) (fun M2 hf2 t2 => ⟨rfl, t_X13_number_11 (.inl ⟨_, rfl, t_X13_readBeats_37 ?_⟩)⟩)
            have st2 := st1'.scan hf2
            have p1 := g5 (by omega)
            refine (ih f00 (by omega)).2 2 (tE b n (tE b n p)) (tV b n (tE b n p)) r k M2 (by omega) g3 (.inl rfl) (.inl rfl) (F1.tr (mono _ _ hf2)) t2 ⟨st2.1, st2.2.1, st2.2.2.1, st2.2.2.2.1, okRw_up sok hin.1 (by omega)⟩ hP
        · rw [if_neg cw] at hP
          rw [if_neg cw]
          exact ct_need (fun q => absurd rfl q) (fun _ => .inr ⟨rfl, flt 1 _ M hf ht.2.2.1 hP.symm⟩)
    · intro w p a r k M hfu hp hw hwk hf ht hst hP
      obtain ⟨f0, rfl⟩ : ∃ f0, f = f0 + 1 := ⟨f - 1, by omega⟩
      refine t_X13_readBeats_38 (ct_readStroke hx2 hn h2 hp hw hwk hf ht hst hfu hP (fun k s hP' M' hf' h8 h9 => .inr ⟨rfl, KF k s hP' M' hf' h8 h9⟩) (fun q f' w' k' r' M' hf' tq sq hq hqf hff hw' hP' hdead => .inl ⟨rfl, ?_⟩))
      obtain ⟨g1, g2, g3, g4, g5⟩ := t_facts (b := b) (n := n) hq
      have k2 : gI M' 54 6 = 2 ↔ tK b n q = 2 := by rw [tq.2.1, show (2 : Int32) = nI 2 from rfl, nI_eq (by omega) (by omega)]
      have k3 : gI M' 54 6 = 3 ↔ tK b n q = 3 := by rw [tq.2.1, show (3 : Int32) = nI 3 from rfl, nI_eq (by omega) (by omega)]
      refine t_X13_readBeats_44 (fun c => ?_) (fun c => ?_)
      · exact (ih f' (by omega)).2 w' q a r' k' M' hqf hq (by omega) (.inr (k2.mp c)) hf' tq sq hP'
      · have c := fun z => c (k2.mpr z)
        by_cases e3 : tK b n q = 3
        · rw [if_pos (k3.mpr e3)]
          refine ct_need (fun _ => .inl ⟨rfl, t_X13_readBeats_70 ?_⟩) (fun z => absurd z n10)
          refine ct_scanT (b := b) tq.1 tq.2.2.2.1 g3 hn (bytes M' hf') (fun M2 hf2 t2 => ⟨rfl, t_X13_readBeats_74 ?_⟩)
          obtain ⟨f00, rfl⟩ : ∃ f00, f' = f00 + 1 := ⟨f' - 1, by omega⟩
          unfold PT at hP'
          rw [if_neg (by omega), if_neg (by omega), if_neg (by omega), if_neg c, if_pos e3, if_neg (by omega)] at hP'
          have p1 := g5 (by omega)
          exact (ih f00 (by omega)).1 (tE b n q) a r' k' M2 (by omega) g3 (hf'.tr (mono _ _ hf2)) t2 (sq.scan hf2) hP'
        · rw [if_neg (fun z => e3 (k3.mp z))]
          exact ct_need (fun z => absurd rfl z) (fun _ => .inr ⟨rfl, flt 1 _ M' hf' tq.2.2.1 (hdead c e3)⟩)
def rw0 : Rw := (0, (fun _ => 0), (fun _ => 0), (fun _ => 0), (fun _ => 0))
theorem okRw0 : okRw rw0 0 := ⟨by show 0 ≤ 160; omega, by omega, fun i hi => absurd hi (by show ¬ i < 0; omega), fun i j _ hj => absurd hj (by show ¬ j < 0; omega)⟩
theorem ct_readBeats {b : Nat → Int32} {all : Bool} {x2 : Int32} (hx2 : x2 = if all = true then 1 else 0) (hn : n ≤ 1200) (ht : TokM b n 0 M) (h8 : gI M 54 8 = 0) (h9 : gI M 54 9 = (-1)) (h2 : ∀ a, a < n → gI M 55 a = b a ∧ -128 ≤ (gI M 55 a).toInt ∧ (gI M 55 a).toInt ≤ 127)
    (KF : ∀ k s, PT b n all (n + 1) 0 0 0 rw0 0 = .inl (k, s) → ∀ M', Fr sBtM M M' → gI M' 54 8 = nI k → gI M' 54 9 = nI s → Q (.threw (ad 53)) M')
    (KO : ∀ r, PT b n all (n + 1) 0 0 0 rw0 0 = .inr r → ∀ M', Fr sBtM M M' → gI M' 54 8 = 0 → gI M' 54 9 = (-1) → gI M' 54 11 = nI r.1 → rowsAt M' 60 61 62 63 r → Q (.returned none) M') : Cal l D ad kA mX13_readBeats [.ref (ad 54), .int x2] M Q := by
  refine en_X13_readBeats (t_X13_readBeats_0 ?_)
  have F1 : Fr sBtM M (sI M 54 11 0) := Fr.rf.sI rfl
  exact (lp_rb (M0 := M) (P := PT b n all (n + 1) 0 0 0 rw0 0) hx2 hn h2 KF KO (n + 1)).1 0 0 rw0 0 (sI M 54 11 0) (by omega) (by omega) F1 ht ⟨h8, h9, rfl, fun i hi => absurd hi (by show ¬ i < 0; omega), okRw0⟩ rfl
theorem ct_readAllB {b : Nat → Int32} {all : Bool} {x1 : Int32} (hx1 : x1 = if all = true then 0 else 1) (hn : n ≤ 1200) (h0 : gI M 1 0 = nI n) (h2 : ∀ a, a < n → gI M 2 a = b a)
    (KF : ∀ k s, PT b n all (n + 1) 0 0 0 rw0 0 = .inl (k, s) → ∀ M', Fr sBtC M M' → gI M' 1 3 = nI k → gI M' 1 4 = nI s → Q (.returned (some (.int 0))) M')
    (KO : ∀ r, PT b n all (n + 1) 0 0 0 rw0 0 = .inr r → ∀ M', Fr sBtC M M' → gI M' 1 3 = 0 → gI M' 1 4 = (-1) → gI M' 4 4 = nI r.1 → rowsAt M' 5 6 7 8 r → (∃ a, okRw r a) → Q (.returned (some (.int 1))) M') : Cal l D ad kA mX0_readAll [.ref (ad 3), .int x1] M Q := by
  refine en_X0_readAll (t_X0_readAll_0 (en_X10_start (t_X10_start_0 ⟨rfl, t_X0_readAll_7 ?_⟩)))
  have F1 : Fr sBtC M (sI (sI (sI (sI (sI (sI M 1 7 0) 1 3 0) 1 4 (-1)) 4 4 0) 3 2 0) 3 3 0) := (((((Fr.rf.sI rfl).sI rfl).sI rfl).sI rfl).sI rfl).sI rfl
  exact lp_bt (M0 := M) (P := PT b n all (n + 1) 0 0 0 rw0 0) hx1 hn h2 KF KO (n + 1) 0 0 0 0 rw0 0 _ (by omega) (by omega) (by omega) (by omega) F1 ⟨h0, rfl, rfl, rfl, rfl, rfl, fun z => by omega, rfl, fun i hi => absurd hi (by show ¬ i < 0; omega), okRw0⟩ rfl
end BeatsM2
