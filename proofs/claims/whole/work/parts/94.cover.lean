/-! cover -/
section Cover
variable {l : Launch} {D : va_G} {ad : Nat → Nat} {kA : Nat → ClassId} {M M0 : Mem} {Q : Outcome → Mem → Prop}
theorem lp_co32 {u : Nat} (hu : u = (ub M0).length) (e40 : ∀ M, Fr s79 M0 M → gI M 54 40 = nI u) (h73 : ∀ k, k < u → gI M0 73 k = nI (uu M0 k)) (K : ∀ M', Fr s79 M0 M' → (∀ a, a < u → gI M' 79 a = gI M0 68 (uu M0 a)) → Cal l D ad kA mX13_findRanges [.ref (ad 54)] M' (fun oc M2 => ∃ r : Int32, oc = .returned (some (.int r)) ∧ Fw l D ad kA mX13_cover 67 [some (.ref (ad 54)), none, none] [.int r] M2 Q)) : ∀ (j i : Nat) (M : Mem), i + j = u → Fr s79 M0 M → (∀ a, a < i → gI M 79 a = gI M0 68 (uu M0 a)) →
    Fw l D ad kA mX13_cover 32 [some (.ref (ad 54)), none, some (.int (nI i))] [] M Q := by
  have hl := ub_len (M := M0)
  intro j
  induction j with
  | zero =>
    intro i M hi hf ha
    have hle : gI M 54 40 ≤ nI i := by rw [e40 M hf, nI_leI (by omega) (by omega)]; omega
    exact t_X13_cover_32 (fun q => absurd hle q) (fun q => absurd hle q) (fun _ => K M hf (fun a h => ha a (by omega))) (fun q => absurd hle q)
  | succ j ih =>
    intro i M hi hf ha
    have hnle : ¬ gI M 54 40 ≤ nI i := by rw [e40 M hf, nI_leI (by omega) (by omega)]; omega
    have e73 : gI M 73 i = nI (uu M0 i) := by rw [hf.1 73 i rfl]; exact h73 i (by omega)
    have hlt := uu_lt (M := M0) (k := i) (by omega)
    refine t_X13_cover_32 (fun _ => ixN (by omega) (by omega)) (fun _ => by rw [nI_clamp (by omega), e73]; exact ixN hlt (by omega)) (fun q => absurd q hnle) (fun _ => ?_)
    rw [nI_clamp (by omega), e73, nI_clamp (by omega), hf.1 68 _ rfl, nI_1]
    refine ih (i + 1) _ (by omega) (hf.sI rfl) (fun a h => ?_)
    by_cases e : a = i
    · rw [e, gI_self]
    · rw [gI_oi e]; exact ha a (by omega)
theorem pr_cover {x : Int32} (hs : RScore M) (hr : RRule M) (hg : RRing M) (hu : RUsed M) (hp : RPart M) (hwe : RWeighed M) : Two l D ad kA mX11_cover mX13_cover [.int x] M (fun M2 => Fr sPart M M2 ∧ RPart M2 ∧ RWeighed M2) := by
  obtain ⟨g1, g2, g3⟩ := hg
  obtain ⟨t, ht1, ht2, -⟩ := i_nat (x := gI M 0 11) (by omega)
  have hkM := okW.of hs hr hu
  have ring : ∀ M', gI M' 54 23 = gI M 54 23 → (v_X13_isRinger M' x = 0 ↔ v_X11_isRinger M x = 0) := fun M' e => by rw [ring0m, ring0, e, g1]
  refine en_X11_cover (t_X11_cover_0 (fun c1 c2 => ?_) (fun c1 c2 => ?_) (fun c1 => ?_))
  · refine ct_standAllBut ht1 (by omega) (fun Ms hfs h6 h25 => ⟨rfl, t_X11_cover_29 ?_⟩)
    have hk : okW Ms := hkM.fr hfs (fun _ => ⟨⟨rfl, rfl, rfl, rfl, rfl⟩, rfl, rfl, rfl, rfl, rfl⟩) rfl rfl (fun _ => rfl) rfl
    have hwes : RWeighed Ms := hwe.fr hfs (fun _ => ⟨rfl, rfl, rfl, rfl, rfl⟩) rfl rfl (fun _ => rfl)
    have hps : RPart Ms := rp_none hp hfs rfl (fun _ => rfl) (hfs.1 22 4 rfl) (hfs.1 54 26 rfl) (fun i => hfs.1 23 i rfl) (fun i => hfs.1 68 i rfl)
    have c2s : ¬ gI Ms 22 4 = 0 := by rw [hfs.1 22 4 rfl]; exact c2
    have hlR := stR_len (M := M) (x := x) (t := t)
    have hFs : Fr sPart M Ms := hfs.mono (fun c i q => by simp [sPart] at q; simp [sSt]; omega)
    have hub := ub_congr (M := M) (M' := Ms) (hfs.1 54 10 rfl) (fun i => hfs.1 57 i rfl)
    refine ct_settle (cov := 1) (w := (stR M x t).length) hk hwes (by omega) h6 rfl (fun M1 hf1 h11 hpc k0 k1 => ⟨_, rfl, t_X11_cover_37 ⟨_, rfl, ?_⟩⟩)
    have hR : okR (ub Ms).length (PP Ms) (hh 1 (fun k => gI Ms 23 (uu Ms k)) (gI Ms 25)) (nSt Ms) := okR_of hk.2.2.2.2.2 hk.2.2.2.1.1
    have hF1 : Fr sPart M M1 := hFs.tr (hf1.mono (fun c i q => by simp [sPart] at q; simp [sSet]; omega))
    have e10 : gI Ms 54 10 = gI M 54 10 := hfs.1 54 10 rfl
    have h10 : (szM Ms : Int) = (gI Ms 54 10).toInt := by
      unfold szM
      have := hs.2.1
      rw [e10, ← hs.1]; omega
    have eb1 : ub M1 = ub Ms := ub_congr (hf1.1 54 10 rfl) (fun i => hf1.1 57 i rfl)
    have d1 : ¬ v_X13_isRinger M1 x = 0 := fun z => c1 ((ring M1 (by rw [hf1.1 54 23 rfl, hfs.1 54 23 rfl])).mp z)
    have d2 : ¬ gI M1 54 26 = 0 := by rw [hf1.1 54 26 rfl, ← hps.1]; exact c2s
    refine en_X13_cover (t_X13_cover_0 (fun _ _ => ct_findUsed (M := M1) (by rw [hf1.1 54 10 rfl, e10, ← hs.1]; exact hs.2.1) (fun M2 hf2 h40 h73 => ⟨rfl, t_X13_cover_25 ?_⟩)) (fun _ q => absurd q d2) (fun q => absurd q d1))
    rw [eb1] at h40 h73
    refine ct_findThere (M := M2) (x := x) (t := t) (by rw [hf2.1 54 23 rfl, hf1.1 54 23 rfl, hfs.1 54 23 rfl, ← g1]; exact ht1) (by omega) (fun a ha => by rw [hf2.1 52 a rfl, hf1.1 52 a rfl, hfs.1 52 a rfl, hf2.1 67 a rfl, hf1.1 67 a rfl, hfs.1 67 a rfl]; exact (g3 a ha).1) (fun M3 hf3 h41 h74 => ⟨rfl, t_X13_cover_30 ?_⟩)
    have eR : stR M2 x t = stR M x t := stR_congr (fun i => by rw [hf2.1 52 i rfl, hf1.1 52 i rfl, hfs.1 52 i rfl])
    rw [eR] at h41 h74
    have hlu := ub_len (M := Ms)
    have eb3 : ub M3 = ub Ms := by rw [ub_congr (M := M2) (M' := M3) (hf3.1 54 10 rfl) (fun i => hf3.1 57 i rfl), ub_congr (M := M1) (M' := M2) (hf2.1 54 10 rfl) (fun i => hf2.1 57 i rfl)]; exact eb1
    have eu3 : ∀ k, uu M3 k = uu Ms k := fun k => by unfold uu; rw [eb3]
    have hlR12 : (stR M x t).length ≤ 12 := by omega
    generalize hRR : stR M x t = R at *
    refine lp_co32 (M0 := M3) (u := (ub Ms).length) (by rw [eb3]) (fun M' hf' => by rw [hf'.1 54 40 rfl, hf3.1 54 40 rfl]; exact h40) (fun k hk' => by rw [eu3, uu_get hk', hf3.1 73 k rfl]; exact h73.at hk') (fun M4 hf4 h79 => ?_) (ub Ms).length 0 M3 (by omega) Fr.rf (fun a ha => by omega)
    have F14 : Fr sPart0 M1 M4 := ((hf2.mono (fun c i q => by simp [sPart0] at q; simp [sFU]; omega)).tr (hf3.mono (fun c i q => by simp [sPart0] at q; simp [sTh]; omega))).tr (hf4.mono (fun c i q => by simp [sPart0] at q; simp [s79]; omega))
    have Fs4 : Fr sPart0 Ms M4 := (hf1.mono (fun c i q => by simp [sPart0] at q; simp [sSet]; omega)).tr F14
    refine md_find (h := hh 1 (fun k => gI Ms 23 (uu Ms k)) (gI Ms 25)) (off := fun _ => 0) (R := R) hk Fs4 hlR12 (by rw [hf4.1 54 40 rfl, hf3.1 54 40 rfl]; exact h40) (h73.fr (fun i _ => by rw [hf4.1 73 i rfl, hf3.1 73 i rfl])) (by rw [hf4.1 54 41 rfl]; exact h41) (h74.fr (fun i _ => hf4.1 74 i rfl)) h25 h10 hR (fun i => by omega) (by omega) (fun r i j a1 a2 a3 => ?_) (fun hG M5 hf5 => ⟨_, rfl, ?_⟩) (fun y hG M5 hf5 tr => ⟨_, rfl, ?_⟩)
    · have h0 : hh 1 (fun k => gI Ms 23 (uu Ms k)) (gI Ms 25) r i j = chN (fun k => gI Ms 23 (uu Ms k)) (gI Ms 25 r) (j - i) i := if_neg (by decide)
      have e74 : gI M4 74 r = gI Ms 25 r := by rw [hf4.1 74 r rfl, h74.at a1, h25.at a1]
      rw [h0, e74, chN_congr (H' := fun k => gI Ms 23 (uu Ms k)) _ _ (fun a b1 b2 => ?_)]
      rw [h79 a (by omega), eu3, hf3.1 68 _ rfl, hf2.1 68 _ rfl, hf1.1 68 _ rfl]
      exact ((hps.2 c2s (uu Ms a) (uu_lt (by omega))).1 (uu_used (by omega))).symm
    · have F5 : Fr sPart M M5 := hF1.tr ((F14.mono (fun c i q => by simp [sPart] at q; simp [sPart0]; omega)).tr (hf5.mono (fun c i q => by simp [sPart] at q; simp [sFR]; omega)))
      obtain ⟨w1, w2⟩ := k0 hG
      refine t_X13_cover_67 (fun q => absurd rfl q) (fun _ => ⟨?_, F5, ?_, ?_⟩)
      · rw [hG]; rfl
      · exact rp_none hps (Fs4.tr (hf5.mono (fun c i q => by simp [sPart0] at q; simp [sFR]; omega))) rfl (fun _ => rfl) (by rw [hf5.1 22 4 rfl, hf4.1 22 4 rfl, hf3.1 22 4 rfl, hf2.1 22 4 rfl]; exact w1) (by rw [hf5.1 54 26 rfl, hf4.1 54 26 rfl, hf3.1 54 26 rfl, hf2.1 54 26 rfl, hf1.1 54 26 rfl]) (fun i => by rw [hf5.1 23 i rfl, hf4.1 23 i rfl, hf3.1 23 i rfl, hf2.1 23 i rfl]; exact w2 i) (fun i => by rw [hf5.1 68 i rfl, hf4.1 68 i rfl, hf3.1 68 i rfl, hf2.1 68 i rfl, hf1.1 68 i rfl])
      · exact RWeighed.new (Fs4.tr (hf5.mono (fun c i q => by simp [sPart0] at q; simp [sFR]; omega))) (fun _ => ⟨rfl, rfl, rfl, rfl, rfl⟩) rfl (fun i n a1 a2 a3 a4 => by rw [hf5.1 26 _ rfl, hf4.1 26 _ rfl, hf3.1 26 _ rfl, hf2.1 26 _ rfl]; exact hpc i n a1 a2 a3 a4)
    · have hsm := GG_small hR (k := R.length) hlR12 (by omega) hG
      obtain ⟨w1, w2⟩ := k1 (by rw [hG]; intro z; cases z)
      have hen := enc_small hsm
      refine t_X13_cover_67 (fun _ => tr _ (fun M6 hf6 g26 hA hB g77 g76 => ⟨rfl, t_X13_cover_76 (show vp_in (nI 0) 637 from ixN (by omega) (by omega)) ⟨?_, ?_, ?_, ?_⟩⟩)) (fun q => absurd q (by decide))
      · rw [show (v_X13_spot 0 0).toNatClampNeg = 0 by decide, g76, hG]
        show _ = Outcome.returned (some (.int (if nI (enc3 y) < 16777216 then v_X7_changesIn (nI (enc3 y)) else (-1))))
        rw [if_pos (by rw [show (16777216 : Int32) = nI 16777216 from rfl, nI_ltI (by omega) (by omega)]; exact hen), (takes_in hsm).2]
        rfl
      · exact (hF1.tr ((F14.mono (fun c i q => by simp [sPart] at q; simp [sPart0]; omega)).tr (hf5.mono (fun c i q => by simp [sPart] at q; simp [sFR]; omega)))).tr (hf6.mono (fun c i q => by simp [sPart] at q; simp [sTR]; omega))
      · refine rp_some (S := sPart) (A := ArrR (nnR Ms R.length (hh 1 (fun k => gI Ms 23 (uu Ms k)) (gI Ms 25))) (gI Ms 25) R.length 0 0) ((Fs4.mono (fun c i q => by simp [sPart] at q; simp [sPart0]; omega)).tr ((hf5.mono (fun c i q => by simp [sPart] at q; simp [sFR]; omega)).tr (hf6.mono (fun c i q => by simp [sPart] at q; simp [sTR]; omega)))) rfl (fun _ => rfl) (by rw [hf6.1 22 4 rfl, hf5.1 22 4 rfl, hf4.1 22 4 rfl, hf3.1 22 4 rfl, hf2.1 22 4 rfl]; exact w1) g26 (fun k hk' => ?_) hA hB
        rw [hf6.1 23 _ rfl, hf5.1 23 _ rfl, hf4.1 23 _ rfl, hf3.1 23 _ rfl, hf2.1 23 _ rfl]
        exact w2 k hk'
      · exact RWeighed.new (S := sPart) ((Fs4.mono (fun c i q => by simp [sPart] at q; simp [sPart0]; omega)).tr ((hf5.mono (fun c i q => by simp [sPart] at q; simp [sFR]; omega)).tr (hf6.mono (fun c i q => by simp [sPart] at q; simp [sTR]; omega)))) (fun _ => ⟨rfl, rfl, rfl, rfl, rfl⟩) rfl (fun i n a1 a2 a3 a4 => by rw [hf6.1 26 _ rfl, hf5.1 26 _ rfl, hf4.1 26 _ rfl, hf3.1 26 _ rfl, hf2.1 26 _ rfl]; exact hpc i n a1 a2 a3 a4)
  · exact ⟨_, rfl, en_X13_cover (t_X13_cover_0 (fun _ q => absurd (by rw [← hp.1]; exact c2) q) (fun _ _ => ⟨rfl, Fr.rf, hp, hwe⟩) (fun q => absurd ((ring M rfl).mp q) c1))⟩
  · exact ⟨_, rfl, en_X13_cover (t_X13_cover_0 (fun q => absurd ((ring M rfl).mpr c1) q) (fun q => absurd ((ring M rfl).mpr c1) q) (fun _ => ⟨rfl, Fr.rf, hp, hwe⟩))⟩
end Cover
