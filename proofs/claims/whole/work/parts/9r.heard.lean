/-! heard: the pair -/
def sHeX (c i : Nat) : Bool := c == 36 || c == 37 || c == 38 || c == 39 || c == 41 || c == 43 || (c == 35 && (i == 3 || i == 4))
def sHeM (c i : Nat) : Bool := (c == 54 && (i == 45 || i == 46 || i == 52)) || c == 80 || c == 81 || c == 82 || c == 83 || c == 84
def sHeard (c i : Nat) : Bool := sText c i || (sHeX c i || sHeM c i)
theorem he_f {c i : Nat} (h : sHeard c i = false) : sText c i = false ∧ sHeX c i = false ∧ sHeM c i = false := by
  unfold sHeard at h
  rw [Bool.or_eq_false_iff, Bool.or_eq_false_iff] at h
  exact h
/-- what the slips of a RINGER rest on -/
def RBlame (M : Mem) : Prop := ¬ gI M 35 4 = 0 → ∃ m : Nat, m ≤ 160 ∧ gI M 54 45 = nI m ∧ (∀ h, h < m → (0 ≤ (gI M 80 h).toInt ∧ (gI M 80 h).toInt ≤ 999) ∧ (0 ≤ (gI M 81 h).toInt ∧ (gI M 81 h).toInt ≤ 47)) ∧ (∀ b, b < 48 → gI M 38 b = nI (cntM (gI M 84) (gI M 81) (nI b) m)) ∧ ∀ k : Nat, (k : Int) < (gI M 9 4).toInt → gI M 82 k = (-1) ∨ ∃ h, h < m ∧ gI M 82 k = nI h ∧ pq (gI M 56 k) (gI M 57 k) (gI M 80 h) (gI M 81 h) < 1000000
section Heard
variable {l : Launch} {D : va_G} {ad : Nat → Nat} {kA : Nat → ClassId} {M M0 : Mem} {Q : Outcome → Mem → Prop} {n : Nat}
theorem pr_heard (ht : RTape M) (hs : RScore M) : TwoH l D ad kA mX11_heard mX13_heard [] M (fun M2 => RTape M2 ∧ RFault M2 ∧ (Fr sText M M2 ∨ (Fr sHeard M M2 ∧ RLaid M2 ∧ RBlame M2))) := by
  obtain ⟨t1, t2, t3⟩ := ht
  obtain ⟨n, en, hn, -⟩ := i_nat t2.1
  obtain ⟨s1, s2, s3, -⟩ := hs
  obtain ⟨s, es, hsn, -⟩ := i_nat s2.1
  have n10 : ¬ (1 : Int32) = 0 := by decide
  have hb : ∀ a, a < n → gI M 55 a = gI M 2 a ∧ -128 ≤ (gI M 55 a).toInt ∧ (gI M 55 a).toInt ≤ 127 := fun a ha => by
    obtain ⟨q1, q2⟩ := t3 a (by omega)
    rw [← q1]; exact ⟨rfl, q2⟩
  refine en_X11_heard (t_X11_heard_0 (ct_readAllB (b := gI M 2) (all := false) rfl (by omega) en (fun a _ => rfl) (fun k s hP M1 hf1 k3 k4 => ⟨_, rfl, t_X11_heard_8 (fun _ => ⟨_, rfl, ?_⟩) (fun q => absurd rfl q)⟩) (fun r hP M1 hf1 k3 k4 k44 krow kok => ⟨_, rfl, t_X11_heard_8 (fun q => absurd q n10) (fun _ => ?_)⟩)))
  · -- a FAULT
    have F1 : Fr sText M (sI M1 1 0 0) := (hf1.mono (fun c i q => by simp [sText] at q; simp [sBtC]; omega)).sI rfl
    generalize hM2 : sI M1 1 0 0 = M2 at F1
    have z0 : gI M2 1 0 = 0 := by rw [← hM2]; rfl
    have z3 : gI M2 1 3 = nI k := by rw [← hM2]; exact k3
    have z4 : gI M2 1 4 = nI s := by rw [← hM2]; exact k4
    have e2 : gI M2 54 2 = nI n := by rw [← hM2]; show gI M1 54 2 = _; rw [hf1.1 54 2 rfl, ← t1]; exact en
    have b2 : ∀ a, a < n → gI M2 55 a = gI M 2 a ∧ -128 ≤ (gI M2 55 a).toInt ∧ (gI M2 55 a).toInt ≤ 127 := fun a ha => by rw [F1.1 55 a rfl]; exact hb a ha
    refine en_X13_heard (t_X13_heard_0 (ct_begin (b := gI M 2) (by omega) e2 b2 (fun M3 hf3 g2 g8 g9 gt => ⟨rfl, t_X13_heard_4 (ct_readBeats (all := false) rfl (by omega) gt g8 g9 (fun a ha => by rw [hf3.1 55 a rfl]; exact b2 a ha) (fun k' s' hP' M4 hf4 f8 f9 => .inr ⟨rfl, t_X13_heard_12 ⟨rfl, ?_⟩⟩) (fun r hP' => by rw [hP] at hP'; cases hP'))⟩)))
    rw [hP] at hP'
    cases hP'
    have F4 : Fr sText M M4 := (F1.tr (hf3.mono (fun c i q => by simp [sText] at q; simp; omega))).tr (hf4.mono (fun c i q => by simp [sText] at q; simp [sBtM]; omega))
    refine ⟨tape_nil (by rw [hf4.1 1 0 rfl, hf3.1 1 0 rfl]; exact z0) (by rw [hf4.1 54 2 rfl]; exact g2), ⟨?_, ?_⟩, .inl F4⟩
    · rw [hf4.1 1 3 rfl, hf3.1 1 3 rfl, z3, f8]
    · rw [hf4.1 1 4 rfl, hf3.1 1 4 rfl, z4, f9]
  · -- good
    obtain ⟨a, ok⟩ := kok
    obtain ⟨o1, o2, o3, o4⟩ := id ok
    have F1 : Fr sHeard M (sI M1 1 0 0) := (hf1.mono (fun c i q => by have q := (he_f q).1; simp [sText] at q; simp [sBtC]; omega)).sI rfl
    generalize hMa : sI M1 1 0 0 = Ma at F1
    have a44 : gI Ma 4 4 = nI r.1 := by rw [← hMa]; exact k44
    have a94 : gI Ma 9 4 = nI s := by rw [F1.1 9 4 rfl]; exact es
    have a5 : ∀ h, h < r.1 → gI Ma 5 h = r.2.1 h ∧ gI Ma 6 h = r.2.2.1 h := fun h hh => by rw [← hMa]; exact ⟨(krow h hh).1, (krow h hh).2.1⟩
    have a10 : ∀ k, gI Ma 10 k = gI M 10 k ∧ gI Ma 11 k = gI M 11 k := fun k => ⟨F1.1 10 k rfl, F1.1 11 k rfl⟩
    have a1 : gI Ma 1 0 = 0 ∧ gI Ma 1 3 = 0 ∧ gI Ma 1 4 = (-1) := by rw [← hMa]; exact ⟨rfl, k3, k4⟩
    have hi1 : ∀ c i, 53 ≤ c → gI Ma c i = gI M c i := fun c i hc => by rw [← hMa, gI_o (by omega)]; exact hf1.1 c i (by simp [sBtC]; omega)
    have okA : okL Ma s r.1 := ⟨a94, a44, by omega, o1, fun k hk => by rw [(a10 k).1]; exact (s3 k (by omega)).2.1, fun h hh => by
      obtain ⟨p1, p2, p3, p4⟩ := o3 h hh
      rw [(a5 h hh).1, (a5 h hh).2]
      exact ⟨by omega, p2⟩⟩
    refine en_X5_lay (t_X5_lay_0 (ct_weigh okA (fun Mb hfb b39 hbb => ⟨rfl, t_X5_lay_5 ?_⟩)))
    have epp : ppC Mb s r.1 = ppC Ma s r.1 := by
      unfold ppC
      rw [show gI Mb 10 = gI Ma 10 from funext (fun i => hfb.1 10 i rfl), show gI Mb 11 = gI Ma 11 from funext (fun i => hfb.1 11 i rfl), show gI Mb 5 = gI Ma 5 from funext (fun i => hfb.1 5 i rfl), show gI Mb 6 = gI Ma 6 from funext (fun i => hfb.1 6 i rfl)]
    have okB : okL Mb s r.1 := by
      obtain ⟨l1, l2, l3, l4, l5, l6⟩ := id okA
      exact ⟨by rw [hfb.1 9 4 rfl]; exact l1, by rw [hfb.1 4 4 rfl]; exact l2, l3, l4, fun k hk => by rw [hfb.1 10 k rfl]; exact l5 k hk, fun h hh => by rw [hfb.1 5 h rfl, hfb.1 6 h rfl]; exact l6 h hh⟩
    have hbB : bitsOk Mb Mb s r.1 0 0 := fun k' h' a1 a2 a3 => by rw [epp]; exact hbb k' h' a1 a2 a3
    obtain ⟨⟨PO, IM, N⟩, hW⟩ : ∃ x, WK (ppC Mb s r.1) s r.1 (s + r.1) s r.1 (fun _ => (-1)) (fun _ => 0) 0 = x := ⟨_, rfl⟩
    refine ct_walk okB hbB hW (fun Mc hfc hlaid c38 c353 => ⟨rfl, t_X5_lay_10 ⟨_, rfl, t_X11_heard_35 ⟨_, rfl, ?_⟩⟩⟩)
    rw [epp] at hW
    have ans : gI Mc 39 (0 : Int32).toNatClampNeg = nI (WW (ppC Ma s r.1) s r.1) := by
      show gI Mc 39 0 = _
      rw [hfc.1 39 0 rfl]
      exact b39 0 (by omega)
    rw [ans]
    generalize hpp : ppC Ma s r.1 = pp at hW
    have ppv : ∀ k h, k < s → h < r.1 → pp (s - k) (r.1 - h) = pq (gI M 10 k) (gI M 11 k) (r.2.1 h) (r.2.2.1 h) := fun k h hk hh => by
      rw [← hpp]
      show pq (gI Ma 10 (s - (s - k))) (gI Ma 11 (s - (s - k))) (gI Ma 5 (r.1 - (r.1 - h))) (gI Ma 6 (r.1 - (r.1 - h))) = _
      rw [show s - (s - k) = k by omega, show r.1 - (r.1 - h) = h by omega, (a10 k).1, (a10 k).2, (a5 h hh).1, (a5 h hh).2]
    have Fd : Fr sHeard M (sI Mc 35 4 1) := ((F1.tr (hfb.mono (fun c i q => by have q := (he_f q).2.1; simp [sHeX] at q; simp [sWg]; omega))).tr (hfc.mono (fun c i q => by have q := (he_f q).2.1; simp [sHeX] at q; simp [sWk]; omega))).sI rfl
    generalize hMd : sI Mc 35 4 1 = Md at Fd
    have hid : ∀ c i, 53 ≤ c → gI Md c i = gI M c i := fun c i hc => by rw [← hMd, gI_o (by omega), hfc.1 c i (by simp [sWk]; omega), hfb.1 c i (by simp [sWg]; omega)]; exact hi1 c i hc
    have e2 : gI Md 54 2 = nI n := by rw [hid 54 2 (by omega), ← t1]; exact en
    have b2 : ∀ a, a < n → gI Md 55 a = gI M 2 a ∧ -128 ≤ (gI Md 55 a).toInt ∧ (gI Md 55 a).toInt ≤ 127 := fun a ha => by rw [hid 55 a (by omega)]; exact hb a ha
    refine en_X13_heard (t_X13_heard_0 (ct_begin (b := gI M 2) (by omega) e2 b2 (fun M3 hf3 g2 g8 g9 gt => ⟨rfl, t_X13_heard_4 (ct_readBeats (all := false) rfl (by omega) gt g8 g9 (fun a ha => by rw [hf3.1 55 a rfl]; exact b2 a ha) (fun k' s' hP' => by rw [hP] at hP'; cases hP') (fun r' hP' M4 hf4 f8 f9 f11 frow => .inl ⟨rfl, t_X13_heard_9 ?_⟩))⟩)))
    rw [hP] at hP'
    cases hP'
    rw [f11]
    have F4 : Fr sHeard M M4 := (Fd.tr (hf3.mono (fun c i q => by have q := (he_f q).1; simp [sText] at q; simp; omega))).tr (hf4.mono (fun c i q => by have q := (he_f q).1; simp [sText] at q; simp [sBtM]; omega))
    have c4 : ∀ c i, c < 53 → gI M4 c i = gI Md c i := fun c i hc => by rw [hf4.1 c i (by simp [sBtM]; omega), hf3.1 c i (by simp; omega)]
    have fin : ∀ (j i : Nat) (M5 : Mem), i + j = r.1 → Fr (fun c _ => c == 80 || c == 81 || c == 84) (sI M4 54 45 (nI r.1)) M5 → (∀ i', i' < i → gI M5 80 i' = r.2.1 i' ∧ gI M5 81 i' = r.2.2.1 i' ∧ gI M5 84 i' = 0) → Fw l D ad kA mX13_heard 25 [some (.ref (ad 54)), some (.int (nI i)), none, none] [] M5 (fun oc2 M2 => oc2 = .returned (some (.int (nI (WW pp s r.1)))) ∧ RTape M2 ∧ RFault M2 ∧ (Fr sText M M2 ∨ (Fr sHeard M M2 ∧ RLaid M2 ∧ RBlame M2))) := by
      intro j
      induction j with
      | zero =>
        intro i M5 hi hf5 hr5
        have e45 : gI M5 54 45 = nI r.1 := by rw [hf5.1 54 45 rfl]; rfl
        have hle : gI M5 54 45 ≤ nI i := by rw [e45, nI_leI (by omega) (by omega)]; omega
        refine t_X13_heard_25 (fun q => absurd hle q) (fun _ => ?_) (fun q => absurd hle q)
        have F5 : Fr sHeard M M5 := (F4.sI rfl).tr (hf5.mono (fun c i q => by have q := (he_f q).2.2; simp [sHeM] at q; simp; omega))
        have e10 : gI M5 54 10 = nI s := by rw [F5.1 54 10 rfl, ← s1]; exact es
        have k56 : ∀ k, k < s → gI M5 56 k = gI M 10 k ∧ gI M5 57 k = gI M 11 k := fun k hk => by
          rw [F5.1 56 k rfl, F5.1 57 k rfl]
          obtain ⟨⟨w1, w2, -, -⟩, -⟩ := s3 k (by omega)
          exact ⟨w1.symm, w2.symm⟩
        have okM : okLM M5 pp s r.1 := ⟨e10, e45, by omega, o1, fun k hk => by rw [(k56 k hk).1]; exact (s3 k (by omega)).2.1, fun h hh => by rw [(hr5 h (by omega)).1]; have := o3 h hh; omega, fun k h hk hh => by rw [(k56 k hk).1, (k56 k hk).2, (hr5 h (by omega)).1, (hr5 h (by omega)).2.1, ppv k h hk hh]⟩
        rw [e10]
        refine lp_hd75 okM (fun M6 hf6 h83 => ?_)
        have okM6 : okLM (sI M6 54 46 0) pp s r.1 := okM.fr (S := fun c i => s83 c i || (c == 54 && i == 46)) ((hf6.mono (fun c i q => by simp at q; exact q.1)).sI rfl) ⟨rfl, rfl⟩ (fun _ => ⟨rfl, rfl, rfl, rfl⟩)
        have w84 : ∀ h, h < r.1 → gI (sI M6 54 46 0) 84 h = 0 := fun h hh => by
          show gI M6 84 h = 0
          rw [hf6.1 84 h rfl]; exact (hr5 h (by omega)).2.2
        have go := lp_hd156 (l := l) (D := D) (ad := ad) (kA := kA) (Q := fun oc2 M2 => oc2 = .returned (some (.int (nI (WW pp s r.1)))) ∧ RTape M2 ∧ RFault M2 ∧ (Fr sText M M2 ∨ (Fr sHeard M M2 ∧ RLaid M2 ∧ RBlame M2))) (PO := PO) (IM := IM) (N := N) okM6 (fun k' h' a1 a2 => h83 k' h' a1 a2) (fun M7 hf7 y82 y84 y46 => ?_) (s + r.1) s r.1 (fun _ => (-1)) (fun _ => 0) 0 (sI M6 54 46 0) (Nat.le_refl _) (Nat.le_refl _) (Nat.le_refl _) Fr.rf (fun k hk => by omega) w84 rfl hW
        · rw [Nat.sub_self, Nat.sub_self] at go
          exact go
        · -- the end
          have F6 : Fr sHeard M M6 := F5.tr (hf6.mono (fun c i q => by have q := (he_f q).2.2; simp [sHeM] at q; simp [s83]; omega))
          have F8 : Fr sHeard M (sI M7 54 52 1) := ((F6.sI rfl).tr (hf7.mono (fun c i q => by have q := (he_f q).2.2; simp [sHeM] at q; simp [sWkM]; omega))).sI rfl
          generalize hM8 : sI M7 54 52 1 = M8 at F8
          have c8 : ∀ c i, c < 53 → gI M8 c i = gI Md c i := fun c i hc => by
            rw [← hM8, gI_o (by omega), hf7.1 c i (by simp [sWkM]; omega), gI_o (by omega), hf6.1 c i (by simp [s83]; omega), hf5.1 c i (by simp; omega), gI_o (by omega)]
            exact c4 c i hc
          have m8 : ∀ c i, ¬ c = 35 → c < 53 → gI M8 c i = gI Mc c i := fun c i q hc => by rw [c8 c i hc, ← hMd, gI_o (by omega)]
          have x80 : ∀ h, h < r.1 → gI M8 80 h = r.2.1 h ∧ gI M8 81 h = r.2.2.1 h ∧ gI M8 84 h = IM h := fun h hh => by
            rw [← hM8]
            show gI M7 80 h = _ ∧ gI M7 81 h = _ ∧ gI M7 84 h = _
            rw [hf7.1 80 h rfl, hf7.1 81 h rfl, y84 h hh]
            show gI M6 80 h = _ ∧ gI M6 81 h = _ ∧ _
            rw [hf6.1 80 h rfl, hf6.1 81 h rfl]
            exact ⟨(hr5 h (by omega)).1, (hr5 h (by omega)).2.1, rfl⟩
          have x82 : ∀ k, k < s → gI M8 82 k = PO k := fun k hk => by rw [← hM8]; exact y82 k hk
          have x56 : ∀ k, k < s → gI M8 56 k = gI M 10 k ∧ gI M8 57 k = gI M 11 k := fun k hk => by
            rw [F8.1 56 k rfl, F8.1 57 k rfl]
            obtain ⟨⟨w1, w2, -, -⟩, -⟩ := s3 k (by omega)
            exact ⟨w1.symm, w2.symm⟩
          have x94 : gI M8 9 4 = nI s := by rw [F8.1 9 4 rfl]; exact es
          have cl : (nI s).toInt = s := i_nI (by omega)
          have x354 : gI M8 35 4 = 1 := by rw [c8 35 4 (by omega), ← hMd]; rfl
          have x353 : gI M8 35 3 = nI N := by rw [c8 35 3 (by omega), ← hMd]; exact c353
          have x46 : gI M8 54 46 = nI N := by rw [← hM8]; exact y46
          have x52 : gI M8 54 52 = 1 := by rw [← hM8]; rfl
          have x45 : gI M8 54 45 = nI r.1 := by
            rw [← hM8]
            show gI M7 54 45 = _
            rw [hf7.1 54 45 rfl]
            show gI M6 54 45 = _
            rw [hf6.1 54 45 rfl]; exact e45
          have b5 : ∀ h, h < r.1 → gI Mb 5 h = r.2.1 h ∧ gI Mb 6 h = r.2.2.1 h := fun h hh => by rw [hfb.1 5 h rfl, hfb.1 6 h rfl]; exact a5 h hh
          have b10 : ∀ k, gI Mb 10 k = gI M 10 k ∧ gI Mb 11 k = gI M 11 k := fun k => by rw [hfb.1 10 k rfl, hfb.1 11 k rfl]; exact a10 k
          have m54 : ∀ i, ¬ i = 45 → ¬ i = 46 → ¬ i = 52 → gI M8 54 i = gI M4 54 i := fun i q1 q2 q3 => by
            rw [← hM8, gI_oi q3, hf7.1 54 i (by simp [sWkM]; omega), gI_oi q2, hf6.1 54 i rfl, hf5.1 54 i rfl, gI_oi q1]
          have c1 : ∀ i, gI M8 1 i = gI Ma 1 i := fun i => by rw [m8 1 i (by omega) (by omega), hfc.1 1 i rfl, hfb.1 1 i rfl]
          refine ⟨rfl, tape_nil (by rw [c1]; exact a1.1) (by rw [m54 2 (by omega) (by omega) (by omega), hf4.1 54 2 rfl]; exact g2), ⟨?_, ?_⟩, .inr ⟨F8, ⟨by rw [x354, x52], fun _ => ⟨by rw [x353, x46], fun k hk => ?_⟩⟩, fun _ => ⟨r.1, o1, x45, fun h hh => ?_, fun b hb' => ?_, fun k hk => ?_⟩⟩⟩
          · rw [c1, m54 8 (by omega) (by omega) (by omega), f8]; exact a1.2.1
          · rw [c1, m54 9 (by omega) (by omega) (by omega), f9]; exact a1.2.2
          · rw [x94, cl] at hk
            have hk : k < s := by omega
            rw [x82 k hk, m8 37 k (by omega) (by omega), m8 36 k (by omega) (by omega)]
            rcases hlaid k hk with ⟨w1, w2, w3⟩ | ⟨h, hh, w1, w2, w3, w4⟩
            · exact .inl ⟨w1, w2, w3⟩
            · right
              rw [(b5 h hh).2] at w2
              rw [(b5 h hh).1, (b10 k).1] at w3
              obtain ⟨p1, p2, p3, p4⟩ := o3 h hh
              rw [w1, w2, w3, nI_clamp (by omega), i_nI (by omega), (x80 h hh).1, (x80 h hh).2.1, (x56 k hk).1]
              exact ⟨⟨by omega, by omega⟩, fun e => by rw [e, nm1] at p2; omega, rfl, rfl⟩
          · obtain ⟨p1, p2, p3, p4⟩ := o3 h hh
            rw [(x80 h hh).1, (x80 h hh).2.1]
            exact ⟨by omega, p2⟩
          · rw [m8 38 b (by omega) (by omega), c38 b hb']
            congr 1
            exact cntM_congr _ (fun h hh => ⟨(x80 h hh).2.2.symm, by rw [(b5 h hh).2, (x80 h hh).2.1]⟩)
          · rw [x94, cl] at hk
            have hk : k < s := by omega
            rw [x82 k hk, (x56 k hk).1, (x56 k hk).2]
            rcases hlaid k hk with ⟨w1, w2, w3⟩ | ⟨h, hh, w1, w2, w3, w4⟩
            · exact .inl w1
            · refine .inr ⟨h, hh, w1, ?_⟩
              rw [(x80 h hh).1, (x80 h hh).2.1]
              rw [(b5 h hh).1, (b5 h hh).2, (b10 k).1, (b10 k).2] at w4
              exact w4
      | succ j ih =>
        intro i M5 hi hf5 hr5
        have e45 : gI M5 54 45 = nI r.1 := by rw [hf5.1 54 45 rfl]; rfl
        have hnle : ¬ gI M5 54 45 ≤ nI i := by rw [e45, nI_leI (by omega) (by omega)]; omega
        obtain ⟨q5, q6, q7, q8⟩ := frow i (by omega)
        refine t_X13_heard_25 (fun _ => ix (by omega)) (fun q => absurd q hnle) (fun _ => ?_)
        rw [nI_clamp (by omega), nI_1, hf5.1 60 i rfl, hf5.1 61 i rfl]
        show Fw l D ad kA mX13_heard 25 _ [] (sI (sI (sI M5 80 i (gI M4 60 i)) 81 i (gI M4 61 i)) 84 i 0) _
        rw [q5, q6]
        refine ih (i + 1) _ (by omega) (((hf5.sI rfl).sI rfl).sI rfl) (fun i' hi' => ?_)
        by_cases e : i' = i
        · subst e
          refine ⟨?_, ?_, ?_⟩
          · rw [gI_o (by omega), gI_o (by omega), gI_self]
          · rw [gI_o (by omega), gI_self]
          · rw [gI_self]
        · rw [gI_o (by omega), gI_o (by omega), gI_oi e, gI_o (by omega), gI_oi e, gI_o (by omega), gI_oi e, gI_o (by omega), gI_o (by omega)]
          exact hr5 i' (by omega)
    exact fin r.1 0 (sI M4 54 45 (nI r.1)) (by omega) Fr.rf (fun i' hi' => by omega)
end Heard
