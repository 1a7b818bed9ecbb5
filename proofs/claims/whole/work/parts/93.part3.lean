/-! part and cover -/
section Part3
variable {l : Launch} {D : va_G} {ad : Nat → Nat} {kA : Nat → ClassId} {M : Mem} {Q : Outcome → Mem → Prop}
/-- what stands behind both: the partings are one -/
theorem rp_some {Ms M6 : Mem} {S : Nat → Nat → Bool} {A : Nat → Int32} (hf : Fr S Ms M6) (h10 : S 54 10 = false) (h57 : ∀ i, S 57 i = false) (g22 : gI M6 22 4 = 1) (g54 : gI M6 54 26 = 1) (h23 : ∀ k, k < (ub Ms).length → gI M6 23 (uu Ms k) = A k) (h68 : ∀ k, k < (ub Ms).length → gI M6 68 (uu Ms k) = A k) (hB : ∀ b, b < 48 → (∀ k, k < (ub Ms).length → ¬ uu Ms k = b) → gI M6 68 b = (-1)) : RPart M6 := by
  refine ⟨by rw [g22, g54], fun _ b hb => ⟨fun hu => ?_, fun hu => ?_⟩⟩
  · rw [usedM_fr (hf.1 54 10 h10) (fun i => hf.1 57 i (h57 i))] at hu
    obtain ⟨k, hk, rfl⟩ := uu_of hb hu
    rw [h23 k hk, h68 k hk]
  · rw [usedM_fr (hf.1 54 10 h10) (fun i => hf.1 57 i (h57 i))] at hu
    exact hB b hb (fun k hk e => hu (by rw [← e]; exact uu_used hk))
theorem rp_none {Ms M5 : Mem} {S : Nat → Nat → Bool} (hp : RPart Ms) (hf : Fr S Ms M5) (h10 : S 54 10 = false) (h57 : ∀ i, S 57 i = false) (g22 : gI M5 22 4 = gI Ms 22 4) (g54 : gI M5 54 26 = gI Ms 54 26) (h23 : ∀ i, gI M5 23 i = gI Ms 23 i) (h68 : ∀ i, gI M5 68 i = gI Ms 68 i) : RPart M5 := by
  unfold RPart
  rw [g22, g54]
  refine ⟨hp.1, fun c b hb => ?_⟩
  rw [usedM_fr (hf.1 54 10 h10) (fun i => hf.1 57 i (h57 i)), h23, h68]
  exact hp.2 c b hb
theorem pr_part (hs : RScore M) (hr : RRule M) (hg : RRing M) (hu : RUsed M) (hp : RPart M) (hwe : RWeighed M) : Two l D ad kA mX11_part mX13_part [] M (fun M2 => Fr sPart M M2 ∧ RPart M2 ∧ RWeighed M2) := by
  obtain ⟨g1, g2, g3⟩ := hg
  obtain ⟨t, ht1, ht2, -⟩ := i_nat (x := gI M 0 11) (by omega)
  have hkM := okW.of hs hr hu
  refine en_X11_part (t_X11_part_0 (ct_standAllBut ht1 (by omega) (fun Ms hfs h6 h25 => ⟨rfl, t_X11_part_5 ?_⟩)))
  have hk : okW Ms := hkM.fr hfs (fun _ => ⟨⟨rfl, rfl, rfl, rfl, rfl⟩, rfl, rfl, rfl, rfl, rfl⟩) rfl rfl (fun _ => rfl) rfl
  have hwes : RWeighed Ms := hwe.fr hfs (fun _ => ⟨rfl, rfl, rfl, rfl, rfl⟩) rfl rfl (fun _ => rfl)
  have hps : RPart Ms := rp_none hp hfs rfl (fun _ => rfl) (hfs.1 22 4 rfl) (hfs.1 54 26 rfl) (fun i => hfs.1 23 i rfl) (fun i => hfs.1 68 i rfl)
  have hlR := stR_len (M := M) (x := -1) (t := t)
  have hFs : Fr sPart M Ms := hfs.mono (fun c i q => by simp [sPart] at q; simp [sSt]; omega)
  have hub := ub_congr (M := M) (M' := Ms) (hfs.1 54 10 rfl) (fun i => hfs.1 57 i rfl)
  refine ct_settle (cov := 0) (w := (stR M (-1) t).length) hk hwes (by omega) h6 rfl (fun M1 hf1 h11 hpc k0 k1 => ⟨_, rfl, t_X11_part_13 ⟨_, rfl, ?_⟩⟩)
  have hR : okR (ub Ms).length (PP Ms) (hh 0 (fun k => gI Ms 23 (uu Ms k)) (gI Ms 25)) (nSt Ms) := okR_of hk.2.2.2.2.2 hk.2.2.2.1.1
  have hF1 : Fr sPart M M1 := hFs.tr (hf1.mono (fun c i q => by simp [sPart] at q; simp [sSet]; omega))
  have e10 : gI Ms 54 10 = gI M 54 10 := hfs.1 54 10 rfl
  have h10 : (szM Ms : Int) = (gI Ms 54 10).toInt := by
    unfold szM
    have := hs.2.1
    rw [e10, ← hs.1]; omega
  have eb1 : ub M1 = ub Ms := ub_congr (hf1.1 54 10 rfl) (fun i => hf1.1 57 i rfl)
  refine en_X13_part (t_X13_part_0 (ct_findUsed (M := M1) (by rw [hf1.1 54 10 rfl, e10, ← hs.1]; exact hs.2.1) (fun M2 hf2 h40 h73 => ⟨rfl, t_X13_part_4 ?_⟩)))
  rw [eb1] at h40 h73
  refine ct_findThere (M := M2) (x := -1) (t := t) (by rw [hf2.1 54 23 rfl, hf1.1 54 23 rfl, hfs.1 54 23 rfl, ← g1]; exact ht1) (by omega) (fun a ha => by rw [hf2.1 52 a rfl, hf1.1 52 a rfl, hfs.1 52 a rfl, hf2.1 67 a rfl, hf1.1 67 a rfl, hfs.1 67 a rfl]; exact (g3 a ha).1) (fun M3 hf3 h41 h74 => ⟨rfl, t_X13_part_9 ?_⟩)
  have eR : stR M2 (-1) t = stR M (-1) t := stR_congr (fun i => by rw [hf2.1 52 i rfl, hf1.1 52 i rfl, hfs.1 52 i rfl])
  rw [eR] at h41 h74
  have hlu := ub_len (M := Ms)
  refine en_X13_forgetHad (t_X13_forgetHad_0 (lp_fo2 (M0 := M3) hlu (by rw [hf3.1 54 40 rfl]; exact h40) (fun M4 hf4 h79 => ⟨rfl, t_X13_part_13 ?_⟩) (ub Ms).length 0 M3 (by omega) Fr.rf (fun a ha => by omega)))
  have hlR12 : (stR M (-1) t).length ≤ 12 := by omega
  generalize hRR : stR M (-1) t = R at *
  have F14 : Fr sPart0 M1 M4 := ((hf2.mono (fun c i q => by simp [sPart0] at q; simp [sFU]; omega)).tr (hf3.mono (fun c i q => by simp [sPart0] at q; simp [sTh]; omega))).tr (hf4.mono (fun c i q => by simp [sPart0] at q; simp [s79]; omega))
  have Fs4 : Fr sPart0 Ms M4 := (hf1.mono (fun c i q => by simp [sPart0] at q; simp [sSet]; omega)).tr F14
  refine md_find (h := hh 0 (fun k => gI Ms 23 (uu Ms k)) (gI Ms 25)) (off := fun i => (ub Ms).length - i) (R := R) hk Fs4 hlR12 (by rw [hf4.1 54 40 rfl, hf3.1 54 40 rfl]; exact h40) (h73.fr (fun i _ => by rw [hf4.1 73 i rfl, hf3.1 73 i rfl])) (by rw [hf4.1 54 41 rfl]; exact h41) (h74.fr (fun i _ => hf4.1 74 i rfl)) h25 h10 hR (fun i => by omega) (by omega) (fun r i j a1 a2 a3 => ?_) (fun hG M5 hf5 => ⟨_, rfl, ?_⟩) (fun y hG M5 hf5 tr => ⟨_, rfl, ?_⟩)
  · have h0 : hh 0 (fun k => gI Ms 23 (uu Ms k)) (gI Ms 25) r i j = 0 := if_pos rfl
    have e74 : gI M4 74 r = nI R[r] := by rw [hf4.1 74 r rfl]; exact h74.at a1
    have hRl : ∀ a ∈ R, a < t := by
      intro a ha
      rw [← hRR] at ha
      exact stR_lt ha
    have hRr := hRl _ (List.getElem_mem a1)
    rw [h0, chN_all _ _ (fun a b1 b2 => by rw [h79 a (by omega), e74]; exact fun z => nI_ne (by omega) z.symm)]
    omega
  · have F5 : Fr sPart M M5 := hF1.tr ((F14.mono (fun c i q => by simp [sPart] at q; simp [sPart0]; omega)).tr (hf5.mono (fun c i q => by simp [sPart] at q; simp [sFR]; omega)))
    obtain ⟨w1, w2⟩ := k0 hG
    refine t_X13_part_17 (fun q => absurd rfl q) (fun _ => ⟨?_, F5, ?_, ?_⟩)
    · rw [hG]; rfl
    · exact rp_none hps (Fs4.tr (hf5.mono (fun c i q => by simp [sPart0] at q; simp [sFR]; omega))) rfl (fun _ => rfl) (by rw [hf5.1 22 4 rfl, hf4.1 22 4 rfl, hf3.1 22 4 rfl, hf2.1 22 4 rfl]; exact w1) (by rw [hf5.1 54 26 rfl, hf4.1 54 26 rfl, hf3.1 54 26 rfl, hf2.1 54 26 rfl, hf1.1 54 26 rfl]) (fun i => by rw [hf5.1 23 i rfl, hf4.1 23 i rfl, hf3.1 23 i rfl, hf2.1 23 i rfl]; exact w2 i) (fun i => by rw [hf5.1 68 i rfl, hf4.1 68 i rfl, hf3.1 68 i rfl, hf2.1 68 i rfl, hf1.1 68 i rfl])
    · exact RWeighed.new (Fs4.tr (hf5.mono (fun c i q => by simp [sPart0] at q; simp [sFR]; omega))) (fun _ => ⟨rfl, rfl, rfl, rfl, rfl⟩) rfl (fun i n a1 a2 a3 a4 => by rw [hf5.1 26 _ rfl, hf4.1 26 _ rfl, hf3.1 26 _ rfl, hf2.1 26 _ rfl]; exact hpc i n a1 a2 a3 a4)
  · have hsm := GG_small hR (k := R.length) hlR12 (by omega) hG
    obtain ⟨w1, w2⟩ := k1 (by rw [hG]; intro z; cases z)
    have hen := enc_small hsm
    refine t_X13_part_17 (fun _ => tr _ (fun M6 hf6 g26 hA hB g77 g76 => ⟨rfl, t_X13_part_26 (show vp_in (nI 0) 637 from ixN (by omega) (by omega)) ⟨?_, ?_, ?_, ?_⟩⟩)) (fun q => absurd q (by decide))
    · rw [show (v_X13_spot 0 0).toNatClampNeg = 0 by decide, g77, hG]
      show _ = Outcome.returned (some (.int (if nI (enc3 y) < 16777216 then v_X7_takesIn (nI (enc3 y)) else (-1))))
      rw [if_pos (by rw [show (16777216 : Int32) = nI 16777216 from rfl, nI_ltI (by omega) (by omega)]; exact hen), (takes_in hsm).1]
    · exact (hF1.tr ((F14.mono (fun c i q => by simp [sPart] at q; simp [sPart0]; omega)).tr (hf5.mono (fun c i q => by simp [sPart] at q; simp [sFR]; omega)))).tr (hf6.mono (fun c i q => by simp [sPart] at q; simp [sTR]; omega))
    · refine rp_some (S := sPart) (A := ArrR (nnR Ms R.length (hh 0 (fun k => gI Ms 23 (uu Ms k)) (gI Ms 25))) (gI Ms 25) R.length 0 0) ((Fs4.mono (fun c i q => by simp [sPart] at q; simp [sPart0]; omega)).tr ((hf5.mono (fun c i q => by simp [sPart] at q; simp [sFR]; omega)).tr (hf6.mono (fun c i q => by simp [sPart] at q; simp [sTR]; omega)))) rfl (fun _ => rfl) (by rw [hf6.1 22 4 rfl, hf5.1 22 4 rfl, hf4.1 22 4 rfl, hf3.1 22 4 rfl, hf2.1 22 4 rfl]; exact w1) g26 (fun k hk' => ?_) hA hB
      rw [hf6.1 23 _ rfl, hf5.1 23 _ rfl, hf4.1 23 _ rfl, hf3.1 23 _ rfl, hf2.1 23 _ rfl]
      exact w2 k hk'
    · exact RWeighed.new (S := sPart) ((Fs4.mono (fun c i q => by simp [sPart] at q; simp [sPart0]; omega)).tr ((hf5.mono (fun c i q => by simp [sPart] at q; simp [sFR]; omega)).tr (hf6.mono (fun c i q => by simp [sPart] at q; simp [sTR]; omega)))) (fun _ => ⟨rfl, rfl, rfl, rfl, rfl⟩) rfl (fun i n a1 a2 a3 a4 => by rw [hf6.1 26 _ rfl, hf5.1 26 _ rfl, hf4.1 26 _ rfl, hf3.1 26 _ rfl, hf2.1 26 _ rfl]; exact hpc i n a1 a2 a3 a4)
end Part3
