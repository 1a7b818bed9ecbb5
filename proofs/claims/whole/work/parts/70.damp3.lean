/-! damp: the pair -/
section Damp3
variable {l : Launch} {D : va_G} {ad : Nat → Nat} {kA : Nat → ClassId} {M : Mem} {Q : Outcome → Mem → Prop}
def sDamp (c i : Nat) : Bool := c == 12 || c == 33 || c == 34 || (c == 17 && i == 3) || (c == 22 && i == 11) || (c == 54 && i == 32) || c == 62 || c == 58
def sDampC (c i : Nat) : Bool := c == 12 || c == 33 || c == 34 || (c == 17 && i == 3) || (c == 22 && i == 11)
theorem dmp_congr {M M' : Mem} (h1 : gI M' 54 10 = gI M 54 10) (h2 : ∀ i, gI M' 56 i = gI M 56 i) (h3 : ∀ i, gI M' 57 i = gI M 57 i) (h4 : ∀ i, gI M' 58 i = gI M 58 i) (a : Nat) : dmp M' a = dmp M a := by
  have e56 : gI M' 56 = gI M 56 := funext h2
  have e57 : gI M' 57 = gI M 57 := funext h3
  have e58 : gI M' 58 = gI M 58 := funext h4
  have hc : dpB M' a = dpB M a := by
    funext b
    unfold dpB clB endS
    rw [e56, e57, e58, h1]
  unfold dmp
  rw [hc, e56, e58, h1]
theorem pr_damp (hs : RScore M) (he : REnds M) : Two l D ad kA mX11_damp mX13_damp [] M (fun M2 => Fr sDamp M M2 ∧ RScore M2 ∧ REnds M2 ∧ gI M2 17 3 = 0 ∧ gI M2 54 32 = 0 ∧ gI M2 22 11 = 0) := by
  obtain ⟨s1, s2, s3, s4⟩ := id hs
  obtain ⟨s, -, hss, -⟩ := i_nat s2.1
  refine en_X11_damp (t_X11_damp_0 (en_X8_cutDown (t_X8_cutDown_0 ?_)))
  refine lp_cd4 hs he s hss (fun M1 hf1 h12 => ?_) s 0 M (by omega) Fr.rf (fun b hb => by omega) (fun b _ _ => rfl)
  have f9 : gI M1 9 4 = gI M 9 4 := hf1.1 9 4 rfl
  have ok : ScoreOk M1 := by
    unfold ScoreOk
    rw [f9]
    refine ⟨s2, fun a ha => ?_⟩
    rw [hf1.1 10 a rfl, hf1.1 11 a rfl, h12 a (by omega)]
    exact ⟨(s3 a ha).2.1, (s3 a ha).2.2.1, dmp_rng hs ha⟩
  refine ct_measure ok (fun M2 hf2 h33 => ⟨rfl, _, rfl, t_X11_damp_7 (en_X3_forget (t_X3_forget_0 ⟨rfl, t_X11_damp_15 (en_X7_weighAnew (t_X7_weighAnew_0 ⟨rfl, t_X11_damp_22 ⟨_, rfl, ?_⟩⟩))⟩))⟩)
  generalize hM3 : sI (sI M2 17 3 0) 22 11 0 = M3
  have g17 : gI M3 17 3 = 0 := by rw [← hM3]; rfl
  have g22 : gI M3 22 11 = 0 := by rw [← hM3]; rfl
  have g33 : ∀ a, gI M3 33 a = gI M2 33 a := fun a => by rw [← hM3]; rfl
  have g12 : ∀ a, gI M3 12 a = gI M2 12 a := fun a => by rw [← hM3]; rfl
  have hf3 : Fr sDampC M M3 := by
    rw [← hM3]
    refine ((Fr.tr (hf1.mono ?_) (hf2.mono ?_)).sI rfl).sI rfl
    · intro c i q; simp [sDampC] at q; simp [s12]; omega
    · intro c i q; simp [sDampC] at q; simp [sMeas]; omega
  have k10 : gI M3 54 10 = gI M 54 10 := hf3.1 54 10 rfl
  refine en_X13_damp (t_X13_damp_0 ?_)
  have hs3 : 0 ≤ (gI (sI M3 54 32 0) 54 10).toInt ∧ (gI (sI M3 54 32 0) 54 10).toInt ≤ 160 := by
    show 0 ≤ (gI M3 54 10).toInt ∧ (gI M3 54 10).toInt ≤ 160
    rw [k10, ← s1]; exact s2
  have hss3 : (s : Int) = (gI (sI M3 54 32 0) 54 10).toInt := by
    show (s : Int) = (gI M3 54 10).toInt
    rw [k10, ← s1]; exact hss
  have hd : ∀ a, dmp (sI M3 54 32 0) a = dmp M a := fun a => dmp_congr k10 (fun i => hf3.1 56 i rfl) (fun i => hf3.1 57 i rfl) (fun i => hf3.1 58 i rfl) a
  refine lp_da7 (M0 := sI M3 54 32 0) hs3 s hss3 (fun M4 hf4 h62 => ?_) s 0 (sI M3 54 32 0) (by omega) Fr.rf (fun b hb => by omega)
  have f4 : gI M4 54 10 = gI (sI M3 54 32 0) 54 10 := hf4.1 54 10 rfl
  have e58 : ∀ b, gI M4 58 b = gI M 58 b := fun b => (hf4.1 58 b rfl).trans (hf3.1 58 b rfl)
  refine lp_da98 (M0 := M4) (by rw [f4]; exact hs3) s (by rw [f4]; exact hss3) (fun M5 hf5 h58 => ?_) s 0 M4 (by omega) Fr.rf (fun b hb => by omega) (fun b _ => rfl)
  have F : Fr sDamp M M5 := by
    refine Fr.tr (hf3.mono ?_) (Fr.tr ((Fr.rf (M := M3)).sI (c := 54) (i := 32) (v := 0) rfl) (Fr.tr (hf4.mono ?_) (hf5.mono ?_)))
    · intro c i q; simp [sDamp] at q; simp [sDampC]; omega
    · intro c i q; simp [sDamp] at q; simp [s62]; omega
    · intro c i q; simp [sDamp] at q; simp [s58]; omega
  have v12 : ∀ a, a < s → gI M5 12 a = dmp M a := fun a ha => by
    rw [hf5.1 12 a rfl, hf4.1 12 a rfl]
    show gI M3 12 a = dmp M a
    rw [g12, hf2.1 12 a rfl]; exact h12 a ha
  have v58 : ∀ a, a < s → gI M5 58 a = dmp M a := fun a ha => by
    rw [h58 a ha, h62 a ha, hd]
  have hsum : ∀ n, n ≤ s → sm (fun a => gI M4 58 a - gI M4 62 a) n = sm (fun a => gI M 58 a - dmp M a) n := by
    intro n
    induction n with
    | zero => intro _; rfl
    | succ n ih =>
      intro hn
      unfold sm
      rw [ih (by omega)]
      show _ + (gI M4 58 n - gI M4 62 n) = _
      rw [e58, h62 n (by omega), hd]
  have n9 : gI M5 9 4 = gI M 9 4 := F.1 9 4 rfl
  have n54 : gI M5 54 10 = gI M 54 10 := F.1 54 10 rfl
  refine ⟨by rw [hsum s (by omega)], F, ?_, ?_, ?_, ?_, ?_⟩
  · unfold RScore
    rw [n9, n54]
    refine ⟨s1, s2, fun a ha => ?_, fun a b hab hb => ?_⟩
    · rw [F.1 10 a rfl, F.1 11 a rfl, F.1 13 a rfl, F.1 56 a rfl, F.1 57 a rfl, F.1 59 a rfl, v12 a (by omega), v58 a (by omega)]
      obtain ⟨⟨z0, z1, z2, z3⟩, y1, y2, y3, y4⟩ := s3 a ha
      exact ⟨⟨z0, z1, rfl, z3⟩, y1, y2, dmp_rng hs ha, y4⟩
    · rw [F.1 10 a rfl, F.1 10 b rfl]; exact s4 a b hab hb
  · intro a ha
    rw [n9] at ha
    rw [hf5.1 33 a rfl, hf4.1 33 a rfl]
    show gI M3 33 a = _
    rw [g33, h33 a (by rw [f9]; exact ha)]
    unfold endC endS
    obtain ⟨⟨z0, z1, z2, z3⟩, -⟩ := s3 a ha
    rw [F.1 57 a rfl, F.1 56 a rfl, n54, v58 a (by omega), f9, h12 a (by omega), hf1.1 11 a rfl, hf1.1 10 a rfl, z0, z1, s1]
    refine enS_congr _ _ (fun b h1 h2 => ?_)
    obtain ⟨⟨y0, y1, -, -⟩, -⟩ := s3 b (by rw [s1]; omega)
    rw [hf1.1 10 b rfl, hf1.1 11 b rfl, F.1 56 b rfl, F.1 57 b rfl]
    exact ⟨y0, y1⟩
  · rw [hf5.1 17 3 rfl, hf4.1 17 3 rfl]; exact g17
  · rw [hf5.1 54 32 rfl, hf4.1 54 32 rfl]; rfl
  · rw [hf5.1 22 11 rfl, hf4.1 22 11 rfl]; exact g22
end Damp3
