/-! manners: the pair -/
def inR (fr : Nat → Int32) : Prop := ∀ r, r < 4 → fr r = (-1) ∨ ((loR r : Int) ≤ (fr r).toInt ∧ (fr r).toInt ≤ (hiR r : Int))
theorem PM_in {b : Nat → Int32} {n : Nat} : ∀ f p fr c, inR fr → ∀ c' fr', PM b n f p fr c = .inr (c', fr') → inR fr' := by
  intro f
  induction f with
  | zero => intro p fr c _ c' fr' h; cases h
  | succ f ih =>
    intro p fr c hfr c' fr' h
    unfold PM at h
    split at h
    · cases h; exact hfr
    · split at h
      · cases h
      · split at h
        · cases h
        · split at h
          · cases h
          · rename_i e2
            split at h
            · cases h
            · rename_i e3
              split at h
              · cases h
              · refine ih _ _ _ ?_ c' fr' h
                intro r hr
                unfold updF
                by_cases e : r = rlN b n p
                · rw [if_pos e, e]
                  have v := tV_lt (Classical.not_not.mp e2)
                  have hin := Classical.not_not.mp e3
                  rw [i_nI (by omega)]
                  exact .inr (by omega)
                · rw [if_neg e]; exact hfr r hr
theorem PM_c {b : Nat → Int32} {n : Nat} : ∀ f p fr c c' fr', PM b n f p fr c = .inr (c', fr') → c' ≤ c + f := by
  intro f
  induction f with
  | zero => intro p fr c c' fr' h; cases h
  | succ f ih =>
    intro p fr c c' fr' h
    unfold PM at h
    split at h
    · cases h; omega
    · split at h
      · cases h
      · split at h
        · cases h
        · split at h
          · cases h
          · split at h
            · cases h
            · split at h
              · cases h
              · have := ih _ _ _ _ _ h
                omega
def sMan (c i : Nat) : Bool := (c == 1 && (i == 0 || i == 1 || i == 2 || i == 3 || i == 4 || i == 6 || i == 7)) || (c == 14 && (i == 2 || i == 3 || i == 4)) || c == 16 || c == 15 || (c == 17 && i == 3) || (c == 22 && i == 11) || (c == 54 && (i == 2 || i == 3 || i == 4 || i == 5 || i == 6 || i == 7 || i == 8 || i == 9 || i == 32)) || c == 64 || c == 65 || c == 66
/-- without the rules and what hangs on them -/
def sMan0 (c i : Nat) : Bool := (c == 1 && (i == 0 || i == 1 || i == 2 || i == 3 || i == 4 || i == 6 || i == 7)) || (c == 14 && (i == 2 || i == 3 || i == 4)) || c == 16 || (c == 54 && (i == 2 || i == 3 || i == 4 || i == 5 || i == 6 || i == 7 || i == 8 || i == 9)) || c == 64 || c == 66
theorem RHands.fr {S : Nat → Nat → Bool} {M M' : Mem} (h : RHands M) (hf : Fr S M M') (h1 : S 17 3 = false ∧ S 54 32 = false ∧ S 9 4 = false) (h2 : ∀ i, S 18 i = false ∧ S 71 i = false) : RHands M' := by
  unfold RHands
  rw [hf.1 17 3 h1.1, hf.1 54 32 h1.2.1, hf.1 9 4 h1.2.2]
  refine ⟨h.1, fun c a ha => ?_⟩
  rw [hf.1 18 a (h2 a).1, hf.1 71 a (h2 a).2]
  exact h.2 c a ha
section MannersP
variable {l : Launch} {D : va_G} {ad : Nat → Nat} {kA : Nat → ClassId} {M M0 : Mem} {Q : Outcome → Mem → Prop} {n : Nat}
theorem n4c : (4 : Int32) = nI 4 := rfl
theorem ct_readAllM {b : Nat → Int32} (hn : n ≤ 1200) (h0 : gI M 1 0 = nI n) (h2 : ∀ a, a < n → gI M 2 a = b a)
    (KF : ∀ k s, PM b n (n + 1) 0 (fun _ => (-1)) 0 = .inl (k, s) → ∀ M', Fr sMnC M M' → gI M' 1 3 = nI k → gI M' 1 4 = nI s → Q (.returned (some (.int (-1)))) M')
    (KO : ∀ c fr, PM b n (n + 1) 0 (fun _ => (-1)) 0 = .inr (c, fr) → ∀ M', Fr (fun x i => sMnC x i || x == 15) M M' → gI M' 1 3 = 0 → gI M' 1 4 = (-1) → (∀ r, r < 4 → gI M' 15 r = if fr r = (-1) then r0 r else fr r) → Q (.returned (some (.int (nI c)))) M') : Cal l D ad kA mX6_readAll [.ref (ad 14), .ref (ad 1)] M Q := by
  have n4 := n4c
  refine en_X6_readAll (t_X6_readAll_0 (en_X10_start (t_X10_start_0 ⟨rfl, t_X6_readAll_4 ?_⟩)))
  generalize hM1 : sI (sI (sI M 1 7 0) 1 3 0) 1 4 (-1) = M1
  have F1 : Fr sMnC M M1 := by rw [← hM1]; exact ((Fr.rf.sI rfl).sI rfl).sI rfl
  have a0 : gI M1 1 0 = nI n := by rw [← hM1]; exact h0
  have a7 : gI M1 1 7 = nI 0 := by rw [← hM1]; rfl
  have a3 : gI M1 1 3 = 0 := by rw [← hM1]; rfl
  have a4 : gI M1 1 4 = (-1) := by rw [← hM1]; rfl
  -- the rows are empty
  have loop : ∀ (j i : Nat) (M' : Mem), i + j = 4 → Fr (fun x _ => x == 16) M1 M' → (∀ r, r < i → gI M' 16 r = (-1)) → Fw l D ad kA mX6_readAll 6 [some (.ref (ad 14)), some (.ref (ad 1)), some (.int (nI i)), none] [] M' Q := by
    intro j
    induction j with
    | zero =>
      intro i M' hi hf hr
      have hle : 4 ≤ nI i := by rw [n4, nI_leI (by omega) (by omega)]; omega
      refine t_X6_readAll_6 (fun q => absurd hle q) (fun _ => ?_) (fun q => absurd hle q)
      have F2 : Fr sMnC M (sI (sI M' 14 2 0) 14 4 0) := ((F1.tr (hf.mono (fun c i q => by simp [sMnC] at q; simp; omega))).sI rfl).sI rfl
      refine lp_mnA (M0 := M) (b := b) (P := PM b n (n + 1) 0 (fun _ => (-1)) 0) hn h2 (fun k s hP M3 hf3 k3 k4 => KF k s hP M3 hf3 k3 k4) (fun c fr hP M3 hf3 k3 k4 k14 k16 => ?_) (n + 1) 0 0 0 (fun _ => (-1)) _ (by omega) (by omega) (by omega) F2 ?_ ?_ ?_ ?_ rfl rfl (fun r hr' => ?_) rfl
      · -- what was told is kept
        have fin : ∀ (j i : Nat) (M4 : Mem), i + j = 4 → Fr (fun x _ => x == 15) M3 M4 → (∀ r, r < i → gI M4 15 r = if fr r = (-1) then r0 r else fr r) → Fw l D ad kA mX6_readAll 103 [some (.ref (ad 14)), none, none, some (.int (nI i))] [] M4 Q := by
          intro j
          induction j with
          | zero =>
            intro i M4 hi' hf4 h15
            have hle : 4 ≤ nI i := by rw [n4, nI_leI (by omega) (by omega)]; omega
            refine t_X6_readAll_103 (fun q => absurd hle q) (fun _ => ?_) (fun q => absurd hle q)
            rw [hf4.1 14 4 rfl, k14]
            exact KO c fr hP M4 ((hf3.mono (fun c i q => by simp at q; exact q.1)).tr (hf4.mono (fun c i q => by simp at q; simp; exact q.2))) (by rw [hf4.1 1 3 rfl]; exact k3) (by rw [hf4.1 1 4 rfl]; exact k4) (fun r hr' => h15 r (by omega))
          | succ j ih =>
            intro i M4 hi' hf4 h15
            have hnle : ¬ 4 ≤ nI i := by rw [n4, nI_leI (by omega) (by omega)]; omega
            refine t_X6_readAll_103 (fun _ => ixN (by omega) (by omega)) (fun q => absurd q hnle) (fun _ => ?_)
            rw [nI_clamp (by omega), nI_1, hf4.1 16 i rfl, k16 i (by omega), r0_st i (by omega)]
            refine ih (i + 1) _ (by omega) (hf4.sI rfl) (fun r hr' => ?_)
            by_cases e : r = i
            · subst e; rw [gI_self]
            · rw [gI_oi e]; exact h15 r (by omega)
        exact fin 4 0 M3 (by omega) Fr.rf (fun r hr' => by omega)
      · show gI M' 1 0 = nI n
        rw [hf.1 1 0 rfl]; exact a0
      · show gI M' 1 7 = nI 0
        rw [hf.1 1 7 rfl]; exact a7
      · show gI M' 1 3 = 0
        rw [hf.1 1 3 rfl]; exact a3
      · show gI M' 1 4 = (-1)
        rw [hf.1 1 4 rfl]; exact a4
      · show gI M' 16 r = (-1)
        exact hr r (by omega)
    | succ j ih =>
      intro i M' hi hf hr
      have hnle : ¬ 4 ≤ nI i := by rw [n4, nI_leI (by omega) (by omega)]; omega
      refine t_X6_readAll_6 (fun _ => ixN (by omega) (by omega)) (fun q => absurd q hnle) (fun _ => ?_)
      rw [nI_clamp (by omega), nI_1]
      refine ih (i + 1) _ (by omega) (hf.sI rfl) (fun r hr' => ?_)
      by_cases e : r = i
      · subst e; rw [gI_self]
      · rw [gI_oi e]; exact hr r (by omega)
  exact loop 4 0 M1 (by omega) Fr.rf (fun r hr' => by omega)
theorem ct_begin {b : Nat → Int32} (hn : n ≤ 1200) (h0 : gI M 54 2 = nI n) (h2 : ∀ a, a < n → gI M 55 a = b a ∧ -128 ≤ (gI M 55 a).toInt ∧ (gI M 55 a).toInt ≤ 127)
    (K : ∀ M', Fr (fun c i => c == 54 && (i == 2 || i == 3 || i == 4 || i == 5 || i == 6 || i == 7 || i == 8 || i == 9)) M M' → gI M' 54 2 = 0 → gI M' 54 8 = 0 → gI M' 54 9 = (-1) → TokM b n 0 M' → Q (.returned none) M') : Cal l D ad kA mX13_begin [.ref (ad 54)] M Q := by
  refine en_X13_begin (t_X13_begin_0 ?_)
  rw [h0]
  generalize hM1 : sI (sI (sI (sI (sI M 54 3 (nI n)) 54 2 0) 54 5 0) 54 8 0) 54 9 (-1) = M1
  have F1 : Fr (fun c i => c == 54 && (i == 2 || i == 3 || i == 4 || i == 5 || i == 6 || i == 7 || i == 8 || i == 9)) M M1 := by rw [← hM1]; exact ((((Fr.rf.sI rfl).sI rfl).sI rfl).sI rfl).sI rfl
  refine ct_scanT (M := M1) (b := b) (p := 0) (by rw [← hM1]; rfl) (by rw [← hM1]; rfl) (by omega) hn (fun a ha => by rw [F1.1 55 a rfl]; exact h2 a ha) (fun M2 hf2 t2 => ⟨rfl, t_X13_begin_32 (K M2 (F1.tr (hf2.mono (fun c i q => by simp [sScan]; simp at q; omega))) ?_ ?_ ?_ t2)⟩)
  · rw [hf2.1 54 2 rfl, ← hM1]; rfl
  · rw [hf2.1 54 8 rfl, ← hM1]; rfl
  · rw [hf2.1 54 9 rfl, ← hM1]; rfl
theorem ct_readManners {b : Nat → Int32} (hn : n ≤ 1200) (ht : TokM b n 0 M) (h8 : gI M 54 8 = 0) (h9 : gI M 54 9 = (-1)) (h2 : ∀ a, a < n → gI M 55 a = b a ∧ -128 ≤ (gI M 55 a).toInt ∧ (gI M 55 a).toInt ≤ 127)
    (KF : ∀ k s, PM b n (n + 1) 0 (fun _ => (-1)) 0 = .inl (k, s) → ∀ M', Fr sMnM M M' → gI M' 54 8 = nI k → gI M' 54 9 = nI s → Q (.threw (ad 53)) M')
    (KO : ∀ c fr, PM b n (n + 1) 0 (fun _ => (-1)) 0 = .inr (c, fr) → ∀ M', Fr sMnM M M' → gI M' 54 8 = 0 → gI M' 54 9 = (-1) → toldM M' fr → Q (.returned (some (.int (nI c)))) M') : Cal l D ad kA mX13_readManners [.ref (ad 54)] M Q := by
  have n4 := n4c
  refine en_X13_readManners (t_X13_readManners_0 ?_)
  generalize hM1 : sI (sI (sI (sI M 64 (0 : Int32).toNatClampNeg 1) 64 (1 : Int32).toNatClampNeg 4) 64 (2 : Int32).toNatClampNeg 12) 64 (3 : Int32).toNatClampNeg 1 = M1
  have F1 : Fr sMnM M M1 := by rw [← hM1]; exact (((Fr.rf.sI rfl).sI rfl).sI rfl).sI rfl
  have e64 : ∀ r, r < 4 → gI M1 64 r = r0 r := by
    intro r hr
    rw [← hM1]
    rcases (show r = 0 ∨ r = 1 ∨ r = 2 ∨ r = 3 by omega) with e | e | e | e <;> subst e <;> rfl
  have loop : ∀ (j i : Nat) (M' : Mem), i + j = 4 → Fr (fun x _ => x == 66) M1 M' → (∀ r, r < i → gI M' 66 r = 0) → Fw l D ad kA mX13_readManners 31 [some (.ref (ad 54)), some (.int (nI i)), none] [] M' Q := by
    intro j
    induction j with
    | zero =>
      intro i M' hi hf hr
      have hle : 4 ≤ nI i := by rw [n4, nI_leI (by omega) (by omega)]; omega
      have F2 : Fr sMnM M M' := F1.tr (hf.mono (fun c i q => by simp [sMnM] at q; simp; omega))
      refine t_X13_readManners_31 (fun q => absurd hle q) (fun _ => ?_) (fun q => absurd hle q)
      have t' : TokM b n 0 M' := by
        obtain ⟨t0, t1, t2, t3, t4⟩ := ht
        have g : ∀ i, gI M' 54 i = gI M 54 i := fun i => by rw [hf.1 54 i rfl, ← hM1]; rfl
        exact ⟨by rw [g]; exact t0, by rw [g]; exact t1, by rw [g]; exact t2, by rw [g]; exact t3, fun z => by rw [g]; exact t4 z⟩
      refine lp_rm51 (M0 := M) (b := b) (P := PM b n (n + 1) 0 (fun _ => (-1)) 0) hn h2 KF KO (n + 1) 0 0 (fun _ => (-1)) M' (by omega) (by omega) F2 t' ?_ ?_ (fun r hr' => ⟨⟨fun _ => rfl, fun _ => hr r (by omega)⟩, ?_⟩) (fun r _ q => absurd rfl q) rfl
      · rw [hf.1 54 8 rfl, ← hM1]; exact h8
      · rw [hf.1 54 9 rfl, ← hM1]; exact h9
      · rw [if_pos rfl, hf.1 64 r rfl]; exact e64 r hr'
    | succ j ih =>
      intro i M' hi hf hr
      have hnle : ¬ 4 ≤ nI i := by rw [n4, nI_leI (by omega) (by omega)]; omega
      refine t_X13_readManners_31 (fun _ => ixN (by omega) (by omega)) (fun q => absurd q hnle) (fun _ => ?_)
      rw [nI_clamp (by omega), nI_1]
      refine ih (i + 1) _ (by omega) (hf.sI rfl) (fun r hr' => ?_)
      by_cases e : r = i
      · subst e; rw [gI_self]
      · rw [gI_oi e]; exact hr r (by omega)
  exact loop 4 0 M1 (by omega) Fr.rf (fun r hr' => by omega)
theorem pr_manners (ht : RTape M) (hr : RRule M) (hh : RHands M) (hw : RWeighed M) : TwoH l D ad kA mX11_manners mX13_manners [] M (fun M2 => Fr sMan M M2 ∧ RTape M2 ∧ RFault M2 ∧ RRule M2 ∧ RHands M2 ∧ RWeighed M2) := by
  obtain ⟨t1, t2, t3⟩ := ht
  obtain ⟨n, en, hn, -⟩ := i_nat t2.1
  have n4 := n4c
  have hb : ∀ a, a < n → gI M 55 a = gI M 2 a ∧ -128 ≤ (gI M 55 a).toInt ∧ (gI M 55 a).toInt ≤ 127 := fun a ha => by
    obtain ⟨q1, q2⟩ := t3 a (by omega)
    rw [← q1]; exact ⟨rfl, q2⟩
  have tape0 : ∀ M', gI M' 1 0 = 0 → gI M' 54 2 = 0 → RTape M' := fun M' k1 k2 => ⟨by rw [k1, k2], by rw [k1, n0]; omega, fun a ha => by rw [k1, n0] at ha; omega⟩
  refine en_X11_manners (t_X11_manners_0 (ct_readAllM (b := gI M 2) (by omega) en (fun a _ => rfl) (fun k s hP M1 hf1 k3 k4 => ⟨_, rfl, t_X11_manners_11 (fun q => absurd rfl q) (fun _ => ⟨_, rfl, ?_⟩)⟩) (fun c fr hP M1 hf1 k3 k4 k15 => ⟨_, rfl, ?_⟩)))
  · -- a FAULT
    have F1 : Fr sMan0 M (sI M1 1 0 0) := (hf1.mono (fun c i q => by simp [sMan0] at q; simp [sMnC]; omega)).sI rfl
    generalize hM2 : sI M1 1 0 0 = M2 at F1
    have z0 : gI M2 1 0 = 0 := by rw [← hM2]; rfl
    have z3 : gI M2 1 3 = nI k := by rw [← hM2]; exact k3
    have z4 : gI M2 1 4 = nI s := by rw [← hM2]; exact k4
    have e2 : gI M2 54 2 = nI n := by rw [← hM2]; show gI M1 54 2 = _; rw [hf1.1 54 2 rfl, ← t1]; exact en
    have b2 : ∀ a, a < n → gI M2 55 a = gI M 2 a ∧ -128 ≤ (gI M2 55 a).toInt ∧ (gI M2 55 a).toInt ≤ 127 := fun a ha => by rw [F1.1 55 a rfl]; exact hb a ha
    refine en_X13_manners (t_X13_manners_0 (ct_begin (b := gI M 2) (by omega) e2 b2 (fun M3 hf3 g2 g8 g9 gt => ⟨rfl, t_X13_manners_4 (ct_readManners (by omega) gt g8 g9 (fun a ha => by rw [hf3.1 55 a rfl]; exact b2 a ha) (fun k' s' hP' M4 hf4 f8 f9 => .inr ⟨rfl, t_X13_manners_12 ⟨rfl, ?_⟩⟩) (fun c fr hP' => by rw [hP] at hP'; cases hP'))⟩)))
    rw [hP] at hP'
    cases hP'
    have F4 : Fr sMan0 M M4 := (F1.tr (hf3.mono (fun c i q => by simp [sMan0] at q; simp; omega))).tr (hf4.mono (fun c i q => by simp [sMan0] at q; simp [sMnM]; omega))
    have y0 : gI M4 1 0 = 0 := by rw [hf4.1 1 0 rfl, hf3.1 1 0 rfl]; exact z0
    have y3 : gI M4 1 3 = nI k := by rw [hf4.1 1 3 rfl, hf3.1 1 3 rfl]; exact z3
    have y4 : gI M4 1 4 = nI s := by rw [hf4.1 1 4 rfl, hf3.1 1 4 rfl]; exact z4
    refine ⟨F4.mono (fun c i q => by simp [sMan] at q; simp [sMan0]; omega), tape0 M4 y0 (by rw [hf4.1 54 2 rfl]; exact g2), ⟨by rw [y3, f8], by rw [y4, f9]⟩, ?_, hh.fr F4 ⟨rfl, rfl, rfl⟩ (fun _ => ⟨rfl, rfl⟩), hw.fr F4 (fun _ => ⟨rfl, rfl, rfl, rfl, rfl⟩) rfl rfl (fun _ => rfl)⟩
    unfold RRule
    rw [F4.1 15 0 rfl, F4.1 15 1 rfl, F4.1 15 2 rfl, F4.1 15 3 rfl]
    exact ⟨fun a ha => by rw [F4.1 15 a rfl, F4.1 65 a rfl]; exact hr.1 a ha, hr.2⟩
  · -- good
    have hcb := PM_c _ _ _ _ _ _ hP
    have hin := PM_in _ _ _ _ (fun r _ => .inl rfl) _ _ hP
    refine t_X11_manners_11 (fun _ => en_X3_forget (t_X3_forget_0 ⟨rfl, t_X11_manners_34 (en_X7_weighAnew (t_X7_weighAnew_0 ⟨rfl, t_X11_manners_41 ⟨_, rfl, ?_⟩⟩))⟩)) (fun q => absurd q (nI_ne (by omega)))
    have F1 : Fr sMan M (sI (sI (sI M1 1 0 0) 17 3 0) 22 11 0) := (((hf1.mono (fun c i q => by simp [sMan] at q; simp [sMnC]; omega)).sI rfl).sI rfl).sI rfl
    generalize hM2 : sI (sI (sI M1 1 0 0) 17 3 0) 22 11 0 = M2 at F1
    have z0 : gI M2 1 0 = 0 := by rw [← hM2]; rfl
    have z3 : gI M2 1 3 = 0 := by rw [← hM2]; exact k3
    have z4 : gI M2 1 4 = (-1) := by rw [← hM2]; exact k4
    have z17 : gI M2 17 3 = 0 := by rw [← hM2]; rfl
    have z22 : gI M2 22 11 = 0 := by rw [← hM2]; rfl
    have z15 : ∀ r, r < 4 → gI M2 15 r = if fr r = (-1) then r0 r else fr r := fun r hr' => by rw [← hM2]; exact k15 r hr'
    have e2 : gI M2 54 2 = nI n := by rw [← hM2]; show gI M1 54 2 = _; rw [hf1.1 54 2 rfl, ← t1]; exact en
    have b2 : ∀ a, a < n → gI M2 55 a = gI M 2 a ∧ -128 ≤ (gI M2 55 a).toInt ∧ (gI M2 55 a).toInt ≤ 127 := fun a ha => by rw [F1.1 55 a rfl]; exact hb a ha
    refine en_X13_manners (t_X13_manners_0 (ct_begin (b := gI M 2) (by omega) e2 b2 (fun M3 hf3 g2 g8 g9 gt => ⟨rfl, t_X13_manners_4 (ct_readManners (by omega) gt g8 g9 (fun a ha => by rw [hf3.1 55 a rfl]; exact b2 a ha) (fun k' s' hP' => by rw [hP] at hP'; cases hP') (fun c' fr' hP' M4 hf4 f8 f9 ftl => .inl ⟨_, rfl, t_X13_manners_8 ?_⟩))⟩)))
    rw [hP] at hP'
    cases hP'
    have F4 : Fr sMan M M4 := (F1.tr (hf3.mono (fun c i q => by simp [sMan] at q; simp; omega))).tr (hf4.mono (fun c i q => by simp [sMan] at q; simp [sMnM]; omega))
    have fin : ∀ (j i : Nat) (M5 : Mem), i + j = 4 → Fr (fun x _ => x == 65) M4 M5 → (∀ r, r < i → gI M5 65 r = if fr r = (-1) then r0 r else fr r) → Fw l D ad kA mX13_manners 17 [some (.ref (ad 54)), some (.int (nI c)), some (.int (nI i))] [] M5 (fun oc2 M2 => oc2 = .returned (some (.int (nI c))) ∧ Fr sMan M M2 ∧ RTape M2 ∧ RFault M2 ∧ RRule M2 ∧ RHands M2 ∧ RWeighed M2) := by
      intro j
      induction j with
      | zero =>
        intro i M5 hi' hf5 h65
        have hle : 4 ≤ nI i := by rw [n4, nI_leI (by omega) (by omega)]; omega
        refine t_X13_manners_17 (fun q => absurd hle q) (fun _ => ?_) (fun q => absurd hle q)
        have F5 : Fr sMan M (sI M5 54 32 0) := (F4.tr (hf5.mono (fun c i q => by simp [sMan] at q; simp; omega))).sI rfl
        generalize hM6 : sI M5 54 32 0 = M6 at F5
        have y : ∀ c i, ¬ c = 65 → ¬ c = 54 → ¬ c = 64 → ¬ c = 66 → gI M6 c i = gI M2 c i := by
          intro c i q1 q2 q3 q4
          rw [← hM6, gI_o (by omega), hf5.1 c i (by simp; omega), hf4.1 c i (by simp [sMnM]; omega), hf3.1 c i (by simp; omega)]
        have y8 : gI M6 54 8 = 0 := by rw [← hM6]; show gI M5 54 8 = 0; rw [hf5.1 54 8 rfl]; exact f8
        have y9 : gI M6 54 9 = (-1) := by rw [← hM6]; show gI M5 54 9 = (-1); rw [hf5.1 54 9 rfl]; exact f9
        have y2 : gI M6 54 2 = 0 := by rw [← hM6]; show gI M5 54 2 = 0; rw [hf5.1 54 2 rfl, hf4.1 54 2 rfl]; exact g2
        have y65 : ∀ r, r < 4 → gI M6 65 r = if fr r = (-1) then r0 r else fr r := fun r hr' => by rw [← hM6]; exact h65 r (by omega)
        have y15 : ∀ r, r < 4 → gI M6 15 r = if fr r = (-1) then r0 r else fr r := fun r hr' => by rw [y 15 r (by omega) (by omega) (by omega) (by omega)]; exact z15 r hr'
        refine ⟨rfl, F5, tape0 M6 (by rw [y 1 0 (by omega) (by omega) (by omega) (by omega)]; exact z0) y2, ⟨by rw [y 1 3 (by omega) (by omega) (by omega) (by omega), z3, y8], by rw [y 1 4 (by omega) (by omega) (by omega) (by omega), z4, y9]⟩, ?_, ⟨?_, ?_⟩, ?_⟩
        · refine ⟨fun a ha => by rw [y15 a ha, y65 a ha], ?_, ?_, ?_, ?_⟩
          · rw [y15 0 (by omega)]
            rcases hin 0 (by omega) with q | q
            · rw [if_pos q]; decide
            · have q : (0 : Int) ≤ (fr 0).toInt ∧ (fr 0).toInt ≤ 9 := q
              rw [if_neg (by rw [i_eq, nm1]; omega)]; exact q
          · rw [y15 1 (by omega)]
            rcases hin 1 (by omega) with q | q
            · rw [if_pos q]; decide
            · have q : (1 : Int) ≤ (fr 1).toInt ∧ (fr 1).toInt ≤ 12 := q
              rw [if_neg (by rw [i_eq, nm1]; omega)]; exact q
          · rw [y15 2 (by omega)]
            rcases hin 2 (by omega) with q | q
            · rw [if_pos q]; decide
            · have q : (0 : Int) ≤ (fr 2).toInt ∧ (fr 2).toInt ≤ 47 := q
              rw [if_neg (by rw [i_eq, nm1]; omega)]; exact q
          · rw [y15 3 (by omega)]
            rcases hin 3 (by omega) with q | q
            · rw [if_pos q]; decide
            · have q : (0 : Int) ≤ (fr 3).toInt ∧ (fr 3).toInt ≤ 9 := q
              rw [if_neg (by rw [i_eq, nm1]; omega)]; exact q
        · rw [y 17 3 (by omega) (by omega) (by omega) (by omega), z17, ← hM6]; rfl
        · intro q
          rw [y 17 3 (by omega) (by omega) (by omega) (by omega), z17] at q
          exact absurd rfl q
        · intro q
          rw [y 22 11 (by omega) (by omega) (by omega) (by omega), z22] at q
          exact absurd rfl q
      | succ j ih =>
        intro i M5 hi' hf5 h65
        have hnle : ¬ 4 ≤ nI i := by rw [n4, nI_leI (by omega) (by omega)]; omega
        refine t_X13_manners_17 (fun _ => ixN (by omega) (by omega)) (fun q => absurd q hnle) (fun _ => ?_)
        rw [nI_clamp (by omega), nI_1, hf5.1 64 i rfl, (ftl i (by omega)).2]
        refine ih (i + 1) _ (by omega) (hf5.sI rfl) (fun r hr' => ?_)
        by_cases e : r = i
        · subst e; rw [gI_self]
        · rw [gI_oi e]; exact h65 r (by omega)
    exact fin 4 0 M4 (by omega) Fr.rf (fun r hr' => by omega)
end MannersP
