/-! load -/
theorem or_eq (F : Nat) : v_X11_orNone (nE F) = if nI (min 1000000 F) < 1000000 then nI (min 1000000 F) else (-1) := by
  unfold v_X11_orNone
  by_cases c : F < 1000000
  · rw [if_pos (by rw [i_lt, nNEV, nE_toInt, if_pos c]; omega), nE_lt c, Nat.min_eq_right (by omega), if_pos]
    rw [show (1000000 : Int32) = nI 1000000 from rfl, nI_ltI (by omega) (by omega)]
    exact c
  · rw [if_neg (by rw [i_lt, nNEV, nE_toInt, if_neg c]; omega), Nat.min_eq_left (by omega), if_neg]
    rw [show (1000000 : Int32) = nI 1000000 from rfl, nI_ltI (by omega) (by omega)]
    omega
theorem ons_congr {M M' : Mem} {z : Int64} {s : Nat} (h : ∀ i, gI M' 57 i = gI M 57 i) : ons M' z s = ons M z s := by
  unfold ons
  congr 1
  funext k
  rw [h]
def sTakes (c i : Nat) : Bool := c == 19 || c == 20 || (c == 17 && (i == 5 || i == 7)) || c == 69 || c == 70 || (c == 54 && i == 31)
theorem bells_ok {M : Mem} (hs : RScore M) {s : Nat} (hss : (s : Int) = (gI M 9 4).toInt) : ∀ a, a < s → 0 ≤ (gI M 57 a).toInt ∧ (gI M 57 a).toInt ≤ 47 := by
  intro a ha
  obtain ⟨⟨-, e1, -, -⟩, -, d2, -, -⟩ := hs.2.2.1 a (by omega)
  rw [← e1]; exact d2
section Load
variable {l : Launch} {D : va_G} {ad : Nat → Nat} {kA : Nat → ClassId} {M : Mem} {Q : Outcome → Mem → Prop}
theorem pr_load {x : Int32} (hs : RScore M) (hr : RRule M) (hg : RRing M) (hu : RUsed M) (hp : RPart M) : Two l D ad kA mX11_load mX13_load [.int x] M (fun M2 => Fr sTakes M M2) := by
  obtain ⟨s, -, hss, -⟩ := i_nat hs.2.1.1
  have r1 := hg.1
  have hsm := SameAll.of hs hr hss
  have ring : v_X13_isRinger M x = 0 ↔ v_X11_isRinger M x = 0 := by rw [ring0m, ring0, r1]
  have q0 := n0
  refine en_X11_load (t_X11_load_0 (fun c1 c2 => ?_) (fun c1 c2 => ?_) (fun c1 => ?_))
  · refine ct_bellsOfC hu ⟨_, rfl, t_X11_load_36 (ct_takesOfC hss hsm (bells_ok hs hss) (fun M1 hf1 ho1 hr1 => ⟨_, rfl, t_X11_load_39 ⟨_, rfl, ?_⟩⟩))⟩
    have hx : ¬ x = (-1) := by
      rw [ring0] at c1
      intro z
      rw [z, nm1] at c1
      omega
    rw [bo_eq hp c2 hx, or_eq]
    obtain ⟨e1, e2⟩ := costs_fr hf1 (fun i => ⟨rfl, rfl, rfl, rfl, rfl⟩)
    have d1 : ¬ v_X13_isRinger M1 x = 0 := by
      rw [ring0m, hf1.1 54 23 rfl, ← ring0m, ring]; exact c1
    have d2 : ¬ gI M1 54 26 = 0 := by rw [hf1.1 54 26 rfl, ← hp.1]; exact c2
    refine en_X13_load (t_X13_load_0 (fun _ _ => ct_bellsOfM ⟨_, rfl, t_X13_load_27 (ct_takesOfM (M := M1) (s := s) (by rw [hf1.1 54 10 rfl, ← hs.1]; exact hss) hsm.1 (fun a ha => by rw [hf1.1 57 a rfl]; exact bells_ok hs hss a ha) (fun M2 hf2 ho2 hc2 => ⟨_, rfl, t_X13_load_30 ⟨?_, ?_⟩⟩))⟩) (fun _ q => absurd q d2) (fun q => absurd q d1))
    · have eb : BO (fun b => decide (gI M1 68 b = x)) (List.range 48) 0 = bo M x := BO_congr _ _ (fun b _ => by rw [hf1.1 68 b rfl])
      rw [eb, e1, e2, ons_congr (fun i => hf1.1 57 i rfl)]
    · refine Fr.tr (hf1.mono ?_) (hf2.mono ?_)
      · intro c i q; simp [sTakes] at q; simp [sTakesC]; omega
      · intro c i q; simp [sTakes] at q; simp [sTakesM]; omega
  · exact ⟨_, rfl, en_X13_load (t_X13_load_0 (fun _ q => absurd (by rw [← hp.1]; exact c2) q) (fun _ _ => ⟨rfl, Fr.rf⟩) (fun q => absurd (ring.mp q) c1))⟩
  · exact ⟨_, rfl, en_X13_load (t_X13_load_0 (fun q => absurd (ring.mpr c1) q) (fun q => absurd (ring.mpr c1) q) (fun _ => ⟨rfl, Fr.rf⟩))⟩
end Load
