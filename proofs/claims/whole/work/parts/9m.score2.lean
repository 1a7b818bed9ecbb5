/-! score: the pair -/
theorem Fr.mcp {S : Nat → Nat → Bool} {M M' : Mem} (h : Fr S M M') {c d n : Nat} (hs : ∀ i, S d i = true) : Fr S M (mcp M' c d n) := by
  refine ⟨fun a b q => ?_, fun a b q => h.2 a b q⟩
  rw [gI_mcp, if_neg (fun e => by rw [e.1, hs b] at q; cases q)]
  exact h.1 a b q
def sScX (c i : Nat) : Bool := (c == 9 && i == 4) || c == 10 || c == 11 || c == 12 || c == 13 || c == 33 || c == 34 || (c == 17 && i == 3) || (c == 22 && (i == 4 || i == 5 || i == 7 || i == 11)) || c == 24 || (c == 28 && (i == 3 || i == 4)) || (c == 35 && i == 4) || (c == 44 && i == 3)
def sScM (c i : Nat) : Bool := (c == 54 && (i == 10 || i == 26 || i == 32 || i == 44 || i == 52 || i == 65)) || c == 56 || c == 57 || c == 58 || c == 59
def sScore (c i : Nat) : Bool := sText c i || (sScX c i || sScM c i)
theorem sc_f {c i : Nat} (h : sScore c i = false) : sText c i = false ∧ sScX c i = false ∧ sScM c i = false := by
  unfold sScore at h
  rw [Bool.or_eq_false_iff, Bool.or_eq_false_iff] at h
  exact h
/-- what stands behind a new SCORE -/
def newScore (M : Mem) : Prop := RScore M ∧ REnds M ∧ RUse M ∧ RUsed M ∧ (gI M 22 4 = 0 ∧ gI M 54 26 = 0) ∧ (gI M 17 3 = 0 ∧ gI M 54 32 = 0) ∧ RHelp M ∧ (gI M 35 4 = 0 ∧ gI M 54 52 = 0) ∧ (gI M 44 3 = 0 ∧ gI M 54 65 = 0) ∧ gI M 22 11 = 0
section Score2
variable {l : Launch} {D : va_G} {ad : Nat → Nat} {kA : Nat → ClassId} {M M0 : Mem} {Q : Outcome → Mem → Prop} {n : Nat}
theorem tape_nil {M' : Mem} (k1 : gI M' 1 0 = 0) (k2 : gI M' 54 2 = 0) : RTape M' := ⟨by rw [k1, k2], by rw [k1, n0]; omega, fun a ha => by rw [k1, n0] at ha; omega⟩
theorem pr_score (ht : RTape M) : TwoH l D ad kA mX11_score mX13_score [] M (fun M2 => RTape M2 ∧ RFault M2 ∧ (Fr sText M M2 ∨ (Fr sScore M M2 ∧ newScore M2))) := by
  obtain ⟨t1, t2, t3⟩ := ht
  obtain ⟨n, en, hn, -⟩ := i_nat t2.1
  have n10 : ¬ (1 : Int32) = 0 := by decide
  have hb : ∀ a, a < n → gI M 55 a = gI M 2 a ∧ -128 ≤ (gI M 55 a).toInt ∧ (gI M 55 a).toInt ≤ 127 := fun a ha => by
    obtain ⟨q1, q2⟩ := t3 a (by omega)
    rw [← q1]; exact ⟨rfl, q2⟩
  refine en_X11_score (t_X11_score_0 (ct_readAllB (b := gI M 2) (all := true) rfl (by omega) en (fun a _ => rfl) (fun k s hP M1 hf1 k3 k4 => ⟨_, rfl, t_X11_score_8 (fun q => absurd rfl q) (fun _ => ⟨_, rfl, ?_⟩)⟩) (fun r hP M1 hf1 k3 k4 k44 krow kok => ⟨_, rfl, t_X11_score_8 (fun _ => ?_) (fun q => absurd q n10)⟩)))
  · -- a FAULT
    have F1 : Fr sText M (sI M1 1 0 0) := (hf1.mono (fun c i q => by simp [sText] at q; simp [sBtC]; omega)).sI rfl
    generalize hM2 : sI M1 1 0 0 = M2 at F1
    have z0 : gI M2 1 0 = 0 := by rw [← hM2]; rfl
    have z3 : gI M2 1 3 = nI k := by rw [← hM2]; exact k3
    have z4 : gI M2 1 4 = nI s := by rw [← hM2]; exact k4
    have e2 : gI M2 54 2 = nI n := by rw [← hM2]; show gI M1 54 2 = _; rw [hf1.1 54 2 rfl, ← t1]; exact en
    have b2 : ∀ a, a < n → gI M2 55 a = gI M 2 a ∧ -128 ≤ (gI M2 55 a).toInt ∧ (gI M2 55 a).toInt ≤ 127 := fun a ha => by rw [F1.1 55 a rfl]; exact hb a ha
    refine en_X13_score (t_X13_score_0 (ct_begin (b := gI M 2) (by omega) e2 b2 (fun M3 hf3 g2 g8 g9 gt => ⟨rfl, t_X13_score_4 (ct_readBeats (all := true) rfl (by omega) gt g8 g9 (fun a ha => by rw [hf3.1 55 a rfl]; exact b2 a ha) (fun k' s' hP' M4 hf4 f8 f9 => .inr ⟨rfl, t_X13_score_12 ⟨rfl, ?_⟩⟩) (fun r hP' => by rw [hP] at hP'; cases hP'))⟩)))
    rw [hP] at hP'
    cases hP'
    have F4 : Fr sText M M4 := (F1.tr (hf3.mono (fun c i q => by simp [sText] at q; simp; omega))).tr (hf4.mono (fun c i q => by simp [sText] at q; simp [sBtM]; omega))
    refine ⟨tape_nil (by rw [hf4.1 1 0 rfl, hf3.1 1 0 rfl]; exact z0) (by rw [hf4.1 54 2 rfl]; exact g2), ⟨?_, ?_⟩, .inl F4⟩
    · rw [hf4.1 1 3 rfl, hf3.1 1 3 rfl, z3, f8]
    · rw [hf4.1 1 4 rfl, hf3.1 1 4 rfl, z4, f9]
  · -- good
    obtain ⟨a, ok⟩ := kok
    obtain ⟨o1, o2, o3, o4⟩ := id ok
    have c44 : (gI (sI M1 1 0 0) 4 4) = nI r.1 := k44
    refine en_X9_copyFrom (t_X9_copyFrom_0 (by rw [c44]; exact nI_pos (by omega)) (by rw [c44, nI_clamp (by omega)]; exact o1) ⟨rfl, t_X11_score_37 ?_⟩)
    rw [c44, nI_clamp (by omega)]
    generalize hMb : mcp (mcp (mcp (mcp (sI (sI M1 1 0 0) 9 4 (nI r.1)) 5 10 r.1) 6 11 r.1) 7 12 r.1) 8 13 r.1 = Mb
    have Fb : Fr sScore M Mb := by
      rw [← hMb]
      exact (((((((hf1.mono (fun c i q => by have q := (sc_f q).1; simp [sText] at q; simp [sBtC]; omega)).sI rfl).sI rfl).mcp (fun _ => rfl)).mcp (fun _ => rfl)).mcp (fun _ => rfl)).mcp (fun _ => rfl))
    have b94 : gI Mb 9 4 = nI r.1 := by rw [← hMb]; rfl
    have brow : rowsAt Mb 10 11 12 13 r := by
      intro i hi
      obtain ⟨q5, q6, q7, q8⟩ := krow i hi
      rw [← hMb]
      refine ⟨?_, ?_, ?_, ?_⟩
      · rw [gI_mcp, if_neg (by omega), gI_mcp, if_neg (by omega), gI_mcp, if_neg (by omega), gI_mcp, if_pos ⟨rfl, hi⟩]; exact q5
      · rw [gI_mcp, if_neg (by omega), gI_mcp, if_neg (by omega), gI_mcp, if_pos ⟨rfl, hi⟩]; exact q6
      · rw [gI_mcp, if_neg (by omega), gI_mcp, if_pos ⟨rfl, hi⟩]; exact q7
      · rw [gI_mcp, if_pos ⟨rfl, hi⟩]; exact q8
    have b1 : ∀ i, gI Mb 1 i = gI (sI M1 1 0 0) 1 i := fun i => by rw [← hMb]; rfl
    have oks : ScoreOk Mb := by
      unfold ScoreOk
      rw [b94, i_nI (by omega)]
      refine ⟨by omega, fun i hi => ?_⟩
      obtain ⟨q5, q6, q7, q8⟩ := brow i (by omega)
      obtain ⟨p1, p2, p3, p4⟩ := o3 i (by omega)
      rw [q5, q6, q7]
      exact ⟨by omega, p2, p3⟩
    refine ct_measure oks (fun Mc hfc h33 => ⟨rfl, t_X11_score_44 (en_X3_forget (t_X3_forget_0 ⟨rfl, t_X11_score_51 ?_⟩))⟩)
    have d94 : gI (sI Mc 17 3 0) 9 4 = nI r.1 := by show gI Mc 9 4 = _; rw [hfc.1 9 4 rfl]; exact b94
    have d11 : ∀ i, i < r.1 → gI (sI Mc 17 3 0) 11 i = r.2.2.1 i := fun i hi => by show gI Mc 11 i = _; rw [hfc.1 11 i rfl]; exact (brow i hi).2.1
    refine ct_takeScore (M := sI Mc 17 3 0) (s := r.1) d94 o1 (fun i hi => by rw [d11 i hi]; exact (o3 i hi).2.1) (fun Me hfe e4 e11 euse e5 e24 => ⟨rfl, t_X11_score_58 (en_X4_forget (t_X4_forget_0 ⟨rfl, t_X11_score_65 (en_X5_forget (t_X5_forget_0 ⟨rfl, t_X11_score_72 (en_X2_forgetKey (t_X2_forgetKey_0 ⟨rfl, t_X11_score_79 ⟨_, rfl, ?_⟩⟩))⟩))⟩))⟩)
    generalize hMg : sI (sI (sI (sI Me 28 3 (-1)) 28 4 (-1)) 35 4 0) 44 3 0 = Mg
    have Fd : Fr sScore M (sI Mc 17 3 0) := (Fb.tr (hfc.mono (fun c i q => by have q := (sc_f q).2.1; simp [sScX] at q; simp [sMeas]; omega))).sI rfl
    have Fg : Fr sScore M Mg := by
      rw [← hMg]
      exact ((((Fd.tr (hfe.mono (fun c i q => by have q := (sc_f q).2.1; simp [sScX] at q; simp [sTSc]; omega))).sI rfl).sI rfl).sI rfl).sI rfl
    have g_e : ∀ c i, ¬ c = 28 → ¬ c = 35 → ¬ c = 44 → gI Mg c i = gI Me c i := fun c i q1 q2 q3 => by rw [← hMg, gI_o (by omega), gI_o (by omega), gI_o (by omega), gI_o (by omega)]
    have g_d : ∀ c i, sTSc c i = false → ¬ c = 28 → ¬ c = 35 → ¬ c = 44 → gI Mg c i = gI (sI Mc 17 3 0) c i := fun c i q q1 q2 q3 => by rw [g_e c i q1 q2 q3, hfe.1 c i q]
    have g94 : gI Mg 9 4 = nI r.1 := by rw [g_d 9 4 rfl (by omega) (by omega) (by omega)]; exact d94
    have g1 : ∀ i, gI Mg 1 i = gI (sI M1 1 0 0) 1 i := fun i => by
      rw [g_d 1 i (by simp [sTSc]) (by omega) (by omega) (by omega)]
      show gI Mc 1 i = _
      rw [hfc.1 1 i (by simp [sMeas])]; exact b1 i
    have grow : rowsAt Mg 10 11 12 13 r := by
      intro i hi
      obtain ⟨q5, q6, q7, q8⟩ := brow i hi
      rw [g_d 10 i (by simp [sTSc]) (by omega) (by omega) (by omega), g_d 11 i (by simp [sTSc]) (by omega) (by omega) (by omega), g_d 12 i (by simp [sTSc]) (by omega) (by omega) (by omega), g_d 13 i (by simp [sTSc]) (by omega) (by omega) (by omega)]
      show gI Mc 10 i = _ ∧ gI Mc 11 i = _ ∧ gI Mc 12 i = _ ∧ gI Mc 13 i = _
      rw [hfc.1 10 i rfl, hfc.1 11 i rfl, hfc.1 12 i rfl, hfc.1 13 i rfl]
      exact ⟨q5, q6, q7, q8⟩
    have g33 : ∀ i, i < r.1 → gI Mg 33 i = endC Mb i := fun i hi => by
      rw [g_d 33 i (by simp [sTSc]) (by omega) (by omega) (by omega)]
      show gI Mc 33 i = _
      exact h33 i (by rw [b94, i_nI (by omega)]; omega)
    have g17 : gI Mg 17 3 = 0 := by rw [g_d 17 3 rfl (by omega) (by omega) (by omega)]; rfl
    have g283 : gI Mg 28 3 = (-1) := by rw [← hMg]; rfl
    have g284 : gI Mg 28 4 = (-1) := by rw [← hMg]; rfl
    have g35 : gI Mg 35 4 = 0 := by rw [← hMg]; rfl
    have g44 : gI Mg 44 3 = 0 := by rw [← hMg]; rfl
    have gL7 : gL Mg 22 7 = gL Me 22 7 := by rw [← hMg]; rfl
    have g_hi : ∀ c i, 53 ≤ c → gI Mg c i = gI M c i := by
      intro c i hc
      rw [g_d c i (by simp [sTSc]; omega) (by omega) (by omega) (by omega), gI_o (by omega), hfc.1 c i (by simp [sMeas]; omega), ← hMb, gI_mcp, if_neg (by omega), gI_mcp, if_neg (by omega), gI_mcp, if_neg (by omega), gI_mcp, if_neg (by omega), gI_o (by omega), gI_o (by omega)]
      exact hf1.1 c i (by simp [sBtC]; omega)
    have e2 : gI Mg 54 2 = nI n := by rw [g_hi 54 2 (by omega), ← t1]; exact en
    have b2 : ∀ a, a < n → gI Mg 55 a = gI M 2 a ∧ -128 ≤ (gI Mg 55 a).toInt ∧ (gI Mg 55 a).toInt ≤ 127 := fun a ha => by rw [g_hi 55 a (by omega)]; exact hb a ha
    refine en_X13_score (t_X13_score_0 (ct_begin (b := gI M 2) (by omega) e2 b2 (fun M3 hf3 g2 g8 g9 gt => ⟨rfl, t_X13_score_4 (ct_readBeats (all := true) rfl (by omega) gt g8 g9 (fun a ha => by rw [hf3.1 55 a rfl]; exact b2 a ha) (fun k' s' hP' => by rw [hP] at hP'; cases hP') (fun r' hP' M4 hf4 f8 f9 f11 frow => .inl ⟨rfl, t_X13_score_9 ?_⟩))⟩)))
    rw [hP] at hP'
    cases hP'
    rw [f11]
    have F4 : Fr sScore M M4 := (Fg.tr (hf3.mono (fun c i q => by have q := (sc_f q).1; simp [sText] at q; simp; omega))).tr (hf4.mono (fun c i q => by have q := (sc_f q).1; simp [sText] at q; simp [sBtM]; omega))
    have c4 : ∀ c i, c < 53 → gI M4 c i = gI Mg c i := fun c i hc => by rw [hf4.1 c i (by simp [sBtM]; omega), hf3.1 c i (by simp; omega)]
    have l4 : gL M4 22 7 = gL Mg 22 7 := by rw [hf4.2 22 7 rfl, hf3.2 22 7 rfl]
    -- the rows are copied
    have fin : ∀ (j i : Nat) (M5 : Mem), i + j = r.1 → Fr (fun c _ => c == 56 || c == 57 || c == 58 || c == 59) (sI M4 54 10 (nI r.1)) M5 → (∀ i', i' < i → gI M5 56 i' = r.2.1 i' ∧ gI M5 57 i' = r.2.2.1 i' ∧ gI M5 58 i' = r.2.2.2.1 i' ∧ gI M5 59 i' = r.2.2.2.2 i') → Fw l D ad kA mX13_score 25 [some (.ref (ad 54)), some (.int (nI i))] [] M5 (fun oc2 M2 => oc2 = .returned (some (.int (gI Mg 9 4))) ∧ RTape M2 ∧ RFault M2 ∧ (Fr sText M M2 ∨ (Fr sScore M M2 ∧ newScore M2))) := by
      intro j
      induction j with
      | zero =>
        intro i M5 hi hf5 hr5
        have e10 : gI M5 54 10 = nI r.1 := by rw [hf5.1 54 10 rfl]; rfl
        have hle : gI M5 54 10 ≤ nI i := by rw [e10, nI_leI (by omega) (by omega)]; omega
        refine t_X13_score_25 (fun q => absurd hle q) (fun _ => ?_) (fun q => absurd hle q)
        have F5 : Fr sScore M M5 := (F4.sI rfl).tr (hf5.mono (fun c i q => by have q := (sc_f q).2.2; simp [sScM] at q; simp; omega))
        have F7 : Fr sScore M (sI (sI (sI (sI (sI M5 54 26 0) 54 32 0) 54 44 0) 54 52 0) 54 65 0) := ((((F5.sI rfl).sI rfl).sI rfl).sI rfl).sI rfl
        generalize hM7 : sI (sI (sI (sI (sI M5 54 26 0) 54 32 0) 54 44 0) 54 52 0) 54 65 0 = M7 at F7
        have c7 : ∀ c i, c < 53 → gI M7 c i = gI Mg c i := fun c i hc => by
          rw [← hM7, gI_o (by omega), gI_o (by omega), gI_o (by omega), gI_o (by omega), gI_o (by omega), hf5.1 c i (by simp; omega), gI_o (by omega)]
          exact c4 c i hc
        have l7 : gL M7 22 7 = gL Me 22 7 := by
          rw [← hM7]
          show gL M5 22 7 = _
          rw [hf5.2 22 7 rfl]
          show gL M4 22 7 = _
          rw [l4, gL7]
        have m54 : ∀ i, ¬ i = 10 → gI M5 54 i = gI M4 54 i := fun i hi' => by rw [hf5.1 54 i rfl, gI_oi hi']
        have y10 : gI M7 54 10 = nI r.1 := by rw [← hM7]; exact e10
        have yrow : ∀ i', i' < r.1 → gI M7 56 i' = r.2.1 i' ∧ gI M7 57 i' = r.2.2.1 i' ∧ gI M7 58 i' = r.2.2.2.1 i' ∧ gI M7 59 i' = r.2.2.2.2 i' := fun i' hi' => by rw [← hM7]; exact hr5 i' (by omega)
        have crow : ∀ i', i' < r.1 → gI M7 10 i' = r.2.1 i' ∧ gI M7 11 i' = r.2.2.1 i' ∧ gI M7 12 i' = r.2.2.2.1 i' ∧ gI M7 13 i' = r.2.2.2.2 i' := fun i' hi' => by rw [c7 10 i' (by omega), c7 11 i' (by omega), c7 12 i' (by omega), c7 13 i' (by omega)]; exact grow i' hi'
        have y94 : gI M7 9 4 = nI r.1 := by rw [c7 9 4 (by omega)]; exact g94
        have cl : (nI r.1).toInt = r.1 := i_nI (by omega)
        have mem : ∀ bb, bb < 48 → (bb ∈ bellsC (sI Mc 17 3 0) r.1 ↔ usedM M7 (nI bb)) := by
          intro bb hbb
          unfold bellsC usedM
          rw [y10, cl, List.mem_map]
          constructor
          · rintro ⟨k, hk, e⟩
            have hk := List.mem_range.mp hk
            rw [d11 k hk] at e
            have hc := i_clamp (o3 k hk).2.1.1
            refine ⟨k, by omega, ?_⟩
            rw [(yrow k hk).2.1, i_eq, i_nI (by omega), ← hc, e]
          · rintro ⟨k, hk, e⟩
            have hk : k < r.1 := by omega
            refine ⟨k, List.mem_range.mpr hk, ?_⟩
            rw [(yrow k hk).2.1] at e
            rw [d11 k hk, e, nI_clamp (by omega)]
        have huse : RUse M7 := by
          intro bb hbb
          rw [uses_lb hbb, l7, ← uses_lb hbb, euse bb hbb, mem bb hbb]
        have hub : ub M7 = ubC (sI Mc 17 3 0) r.1 := by
          unfold ub ubC flP
          refine List.filter_congr (fun bb hbb => ?_)
          have hbb := List.mem_range.mp hbb
          by_cases u : usedM M7 (nI bb)
          · rw [uB_t.mpr u, decide_eq_true ((mem bb hbb).mpr u)]
          · have : uB M7 bb = false := by
              cases e : uB M7 bb with
              | false => rfl
              | true => exact absurd (uB_t.mp e) u
            rw [this, decide_eq_false (fun z => u ((mem bb hbb).mp z))]
        refine ⟨by rw [e10, g94], tape_nil (by rw [c7 1 0 (by omega), g1]; rfl) ?_, ⟨?_, ?_⟩, .inr ⟨F7, ⟨?_, ?_, huse, ?_, ⟨?_, ?_⟩, ⟨?_, ?_⟩, ⟨fun _ => ?_, fun q => ?_⟩, ⟨?_, ?_⟩, ⟨?_, ?_⟩, ?_⟩⟩⟩
        · rw [← hM7]
          show gI M5 54 2 = 0
          rw [m54 2 (by omega), hf4.1 54 2 rfl]; exact g2
        · rw [c7 1 3 (by omega), g1, ← hM7]
          show gI M1 1 3 = gI M5 54 8
          rw [m54 8 (by omega), f8]; exact k3
        · rw [c7 1 4 (by omega), g1, ← hM7]
          show gI M1 1 4 = gI M5 54 9
          rw [m54 9 (by omega), f9]; exact k4
        · unfold RScore
          rw [y94, y10, cl]
          refine ⟨rfl, by omega, fun i' hi' => ?_, fun i' j' h1 h2 => ?_⟩
          · obtain ⟨p1, p2, p3, p4⟩ := o3 i' (by omega)
            obtain ⟨q5, q6, q7, q8⟩ := crow i' (by omega)
            obtain ⟨w5, w6, w7, w8⟩ := yrow i' (by omega)
            rw [q5, q6, q7, q8, w5, w6, w7, w8]
            exact ⟨⟨rfl, rfl, rfl, rfl⟩, by omega, p2, p3, p4⟩
          · rw [(crow i' (by omega)).1, (crow j' (by omega)).1]
            exact o4 i' j' h1 (by omega)
        · intro i' hi'
          rw [y94, cl] at hi'
          rw [c7 33 i' (by omega), g33 i' (by omega)]
          unfold endC endS
          obtain ⟨q5, q6, q7, -⟩ := brow i' (by omega)
          obtain ⟨w5, w6, w7, -⟩ := yrow i' (by omega)
          rw [b94, y10, q5, q6, q7, w5, w6, w7]
          refine enS_congr _ _ (fun x h1 h2 => ?_)
          rw [cl] at h2
          obtain ⟨u5, u6, -, -⟩ := brow x (by omega)
          obtain ⟨v5, v6, -, -⟩ := yrow x (by omega)
          rw [u5, u6, v5, v6]
          exact ⟨rfl, rfl⟩
        · refine ⟨by rw [c7 22 5 (by omega), g_e 22 5 (by omega) (by omega) (by omega), hub]; exact e5, ?_⟩
          rw [hub]
          exact e24.fr (fun i' _ => by rw [c7 24 i' (by omega), g_e 24 i' (by omega) (by omega) (by omega)])
        · rw [c7 22 4 (by omega), g_e 22 4 (by omega) (by omega) (by omega)]; exact e4
        · rw [← hM7]; rfl
        · rw [c7 17 3 (by omega)]; exact g17
        · rw [← hM7]; rfl
        · rw [c7 28 3 (by omega), c7 28 4 (by omega)]; exact ⟨g283, g284⟩
        · exact absurd (show gI M7 54 44 = 0 by rw [← hM7]; rfl) q
        · rw [c7 35 4 (by omega)]; exact g35
        · rw [← hM7]; rfl
        · rw [c7 44 3 (by omega)]; exact g44
        · rw [← hM7]; rfl
        · rw [c7 22 11 (by omega), g_e 22 11 (by omega) (by omega) (by omega)]; exact e11
      | succ j ih =>
        intro i M5 hi hf5 hr5
        have e10 : gI M5 54 10 = nI r.1 := by rw [hf5.1 54 10 rfl]; rfl
        have hnle : ¬ gI M5 54 10 ≤ nI i := by rw [e10, nI_leI (by omega) (by omega)]; omega
        obtain ⟨q5, q6, q7, q8⟩ := frow i (by omega)
        refine t_X13_score_25 (fun _ => ix (by omega)) (fun q => absurd q hnle) (fun _ => ?_)
        rw [nI_clamp (by omega), nI_1, hf5.1 60 i rfl, hf5.1 61 i rfl, hf5.1 62 i rfl, hf5.1 63 i rfl]
        show Fw l D ad kA mX13_score 25 _ [] (sI (sI (sI (sI M5 56 i (gI M4 60 i)) 57 i (gI M4 61 i)) 58 i (gI M4 62 i)) 59 i (gI M4 63 i)) _
        rw [q5, q6, q7, q8]
        refine ih (i + 1) _ (by omega) ((((hf5.sI rfl).sI rfl).sI rfl).sI rfl) (fun i' hi' => ?_)
        by_cases e : i' = i
        · subst e
          refine ⟨?_, ?_, ?_, ?_⟩
          · rw [gI_o (by omega), gI_o (by omega), gI_o (by omega), gI_self]
          · rw [gI_o (by omega), gI_o (by omega), gI_self]
          · rw [gI_o (by omega), gI_self]
          · rw [gI_self]
        · obtain ⟨w5, w6, w7, w8⟩ := hr5 i' (by omega)
          refine ⟨?_, ?_, ?_, ?_⟩
          · rw [gI_o (by omega), gI_o (by omega), gI_o (by omega), gI_oi e]; exact w5
          · rw [gI_o (by omega), gI_o (by omega), gI_oi e, gI_o (by omega)]; exact w6
          · rw [gI_o (by omega), gI_oi e, gI_o (by omega), gI_o (by omega)]; exact w7
          · rw [gI_oi e, gI_o (by omega), gI_o (by omega), gI_o (by omega)]; exact w8
    exact fin r.1 0 (sI M4 54 10 (nI r.1)) (by omega) Fr.rf (fun i' hi' => by omega)
end Score2
