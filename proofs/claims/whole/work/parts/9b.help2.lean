/-! help: the pair -/
def sHelpC (c i : Nat) : Bool := c == 19 || c == 20 || (c == 17 && (i == 5 || i == 7)) || c == 21 || c == 29 || c == 30 || c == 31 || (c == 28 && (i == 3 || i == 4 || i == 8))
def sHelp (c i : Nat) : Bool := c == 19 || c == 20 || (c == 17 && (i == 5 || i == 7)) || c == 21 || c == 29 || c == 30 || c == 31 || (c == 28 && (i == 3 || i == 4 || i == 8)) || c == 69 || c == 70 || (c == 54 && (i == 31 || i == 42 || i == 43 || i == 44))
/-- the STROKES of a RINGER -/
def qR (M : Mem) (r : Int32) (j : Nat) : Bool := lb (bo M r) (gI M 57 j).toNatClampNeg
def hA0 (M : Mem) (s : Nat) (r : Int32) (k : Nat) : Nat := if k < s then Ff (mvP M) (hlP M) none none (flP (qR M r) k ++ hiP (qR M r) k s) else 0
def hB0 (M : Mem) (s : Nat) (r : Int32) (k : Nat) : Nat := if k < s then Ff (mvP M) (hlP M) none none (flP (qR M r) k ++ k :: hiP (qR M r) k s) else 0
theorem ok_A {M : Mem} {s : Nat} (hs : s ≤ 160) (r : Int32) (k : Nat) : okH (hA0 M s r k) := by
  unfold hA0 okH
  split
  · rename_i h
    have := Ff_b (hl := hlP M) (okP M) (flP (qR M r) k ++ hiP (qR M r) k s) none none
    have hl : (flP (qR M r) k ++ hiP (qR M r) k s).length ≤ s := by rw [← fl_without h]; exact rfl_len
    omega
  · omega
theorem ok_B {M : Mem} {s : Nat} (hs : s ≤ 160) (r : Int32) (k : Nat) : okH (hB0 M s r k) := by
  unfold hB0 okH
  split
  · rename_i h
    have := Ff_b (hl := hlP M) (okP M) (flP (qR M r) k ++ k :: hiP (qR M r) k s) none none
    have hl : (flP (qR M r) k ++ k :: hiP (qR M r) k s).length ≤ s := by rw [← fl_with h]; exact rfl_len
    omega
  · omega
theorem qR_eq {M : Mem} {r : Int32} {j : Nat} (hb : 0 ≤ (gI M 57 j).toInt ∧ (gI M 57 j).toInt ≤ 47) : qR M r j = decide (gI M 68 (gI M 57 j).toNatClampNeg = r) := by
  have := i_clamp hb.1
  exact lb_bo (by omega)
theorem tw_A {M : Mem} {s k : Nat} {r : Int32} (hs : s ≤ 160) (hk : k < s) (hb : ∀ a, a < s → 0 ≤ (gI M 57 a).toInt ∧ (gI M 57 a).toInt ≤ 47) : flP (tw M r (nI k) (-1)) s = flP (qR M r) k ++ hiP (qR M r) k s := by
  rw [← fl_without hk]
  refine List.filter_congr (fun j hj => ?_)
  have := List.mem_range.mp hj
  unfold tw
  rw [qR_eq (hb j this), decide_eq_false (nI_ne (a := j) (by omega)), Bool.false_or]
  congr 1
  rw [decide_eq_decide, nI_eq (by omega) (by omega)]
theorem tw_B {M : Mem} {s k : Nat} {r : Int32} (hs : s ≤ 160) (hk : k < s) (hb : ∀ a, a < s → 0 ≤ (gI M 57 a).toInt ∧ (gI M 57 a).toInt ≤ 47) : flP (tw M r (-1) (nI k)) s = flP (qR M r) k ++ k :: hiP (qR M r) k s := by
  rw [← fl_with hk]
  refine List.filter_congr (fun j hj => ?_)
  have := List.mem_range.mp hj
  unfold tw
  rw [qR_eq (hb j this), decide_eq_true (nI_ne (a := j) (by omega)), Bool.and_true]
  congr 1
  rw [decide_eq_decide, nI_eq (by omega) (by omega)]
section Help2
variable {l : Launch} {D : va_G} {ad : Nat → Nat} {kA : Nat → ClassId} {M M0 : Mem} {Q : Outcome → Mem → Prop}
theorem ct_bo {S : Nat → Nat → Bool} {r : Int32} (hu : RUsed M0) (hp : RPart M0) (h0 : ¬ gI M0 22 4 = 0) (hr : ¬ r = (-1)) (hf : Fr S M0 M) (hS : S 22 5 = false ∧ S 22 4 = false ∧ S 54 26 = false ∧ S 54 10 = false) (hS2 : ∀ i, S 24 i = false ∧ S 23 i = false ∧ S 68 i = false ∧ S 57 i = false) (K : Q (.returned (some (.long (bo M0 r)))) M) : Cal l D ad kA mX7_bellsOf [.ref (ad 22), .int r] M Q := by
  have eu : ub M = ub M0 := ub_congr (hf.1 54 10 hS.2.2.2) (fun i => hf.1 57 i (hS2 i).2.2.2)
  have hu' : RUsed M := ⟨by rw [hf.1 22 5 hS.1, eu]; exact hu.1, by rw [eu]; exact hu.2.fr (fun i _ => hf.1 24 i (hS2 i).1)⟩
  refine ct_bellsOfC hu' ?_
  have e : BO (fun b => decide (gI M 23 b = r)) (ub M) 0 = bo M0 r := by
    rw [eu, BO_congr (g := fun b => decide (gI M0 23 b = r)) _ _ (fun b _ => by rw [hf.1 23 b (hS2 b).2.1])]
    exact bo_eq hp h0 hr
  rw [e]
  exact K
theorem pr_help {x : Int32} (hs : RScore M) (hr : RRule M) (hg : RRing M) (hu : RUsed M) (hp : RPart M) (hh : RHelp M) : Two l D ad kA mX11_help mX13_help [.int x] M (fun M2 => Fr sHelp M M2 ∧ RHelp M2) := by
  obtain ⟨g1, g2, g3⟩ := hg
  obtain ⟨s, -, hss, -⟩ := i_nat hs.2.1.1
  have hsm := SameAll.of hs hr hss
  have hb := bells_ok hs hss
  have hs160 := hsm.1
  have q0 := n0
  have q1 := n1
  have ring : ∀ M', gI M' 54 23 = gI M 54 23 → ∀ y, (v_X13_isRinger M' y = 0 ↔ v_X11_isRinger M y = 0) := fun M' e y => by rw [ring0m, ring0, e, g1]
  have rin : ∀ y : Int32, ¬ v_X11_isRinger M y = 0 → 0 ≤ y.toInt ∧ y.toInt ≤ 11 := fun y c => by rw [ring0] at c; omega
  refine en_X11_help (t_X11_help_0 (fun c1 c2 c3 => ?_) (fun c1 c2 c3 => ?_) (fun c1 c2 => ?_) (fun c1 c2 => ?_) (fun c1 => ?_))
  · have := rin _ c3; exact vin_of (by omega) (by omega)
  · have := rin _ c3; exact vin_of (by omega) (by omega)
  · have hx := rin x c1
    have hx1 : ¬ x = (-1) := by rw [i_eq, nm1]; omega
    have can : ∀ y, (¬ v_X11_canHelp M y = 0 ↔ (¬ v_X11_isRinger M y = 0 ∧ gI M 52 y.toNatClampNeg = 0)) := by
      intro y
      unfold v_X11_canHelp
      by_cases a : v_X11_isRinger M y = 0
      · rw [if_pos a]; exact ⟨fun z => absurd rfl z, fun z => absurd a z.1⟩
      · rw [if_neg a]
        by_cases b : gI M 52 y.toNatClampNeg = 0
        · rw [if_pos b]; exact ⟨fun _ => ⟨a, b⟩, fun _ => by decide⟩
        · rw [if_neg b]; exact ⟨fun z => absurd rfl z, fun z => absurd z.2 b⟩
    have nonone : ∀ y, ¬ v_X11_canHelp M y = 0 → ¬ y = (-1) := fun y c z => by
      have := rin y ((can y).mp c).1
      rw [z, nm1] at this; omega
    -- who may help
    have hc : ∀ y, ((if v_X11_canHelp M y = 0 then (-1) else y) = (-1) ↔ decide (¬ v_X11_canHelp M y = 0) = false) ∧ (decide (¬ v_X11_canHelp M y = 0) = true → (if v_X11_canHelp M y = 0 then (-1) else y) = y) := by
      intro y
      rw [decide_eq_false_iff_not, decide_eq_true_iff]
      by_cases a : v_X11_canHelp M y = 0
      · rw [if_pos a]; exact ⟨⟨fun _ z => z a, fun _ => rfl⟩, fun z => absurd a z⟩
      · rw [if_neg a]; exact ⟨⟨fun z => absurd z (nonone y a), fun z => absurd a z⟩, fun _ => rfl⟩
    have hon : ∀ k, k < s → (qR M x k = true ↔ gI M 68 (gI M 57 k).toNatClampNeg = x) := fun k hk => by rw [qR_eq (hb k hk), decide_eq_true_iff]
    have dis : ∀ y, ¬ x = y → ∀ k, k < s → qR M x k = true → lb (bo M y) (gI M 57 k).toNatClampNeg = false := by
      intro y hy k hk ho
      have e := (hon k hk).mp ho
      have : qR M y k = false := by rw [qR_eq (hb k hk), decide_eq_false_iff_not, e]; exact hy
      exact this
    have ne1 : ¬ x = x - 1 := by rw [i_eq, i_sub, q1] <;> (try rw [q1]) <;> omega
    have ne2 : ¬ x = x + 1 := by rw [i_eq, i_add, q1] <;> (try rw [q1]) <;> omega
    -- the search of the class, and the model behind it
    have go : ∀ M3, Fr sHelpC M M3 → gI M3 28 3 = gI M 28 3 → gI M3 28 4 = gI M 28 4 → (∀ k, k < s → qR M x k = true → gI M3 29 k = nE (hA0 M s x k)) → (decide (¬ v_X11_canHelp M (x - 1) = 0) = true → ∀ k, k < s → qR M x k = true → gI M3 30 k = nE (hB0 M s (x - 1) k)) → (decide (¬ v_X11_canHelp M (x + 1) = 0) = true → ∀ k, k < s → qR M x k = true → gI M3 31 k = nE (hB0 M s (x + 1) k)) →
        Fw l D ad kA mX4_seek 84 [some (.ref (ad 28)), none, some (.int (if v_X11_canHelp M (x - 1) = 0 then (-1) else x - 1)), some (.int (if v_X11_canHelp M (x + 1) = 0 then (-1) else x + 1)), some (.long (bo M x)), none, some (.int 0)] [] (sI M3 28 8 16777216) (fun oc M2 => ∃ r : Int32, oc = .returned (some (.int r)) ∧ Fw l D ad kA mX11_help 70 [none, none, none, none] [.int r] M2 (fun oc M1 => ∃ r : Int32, oc = .returned (some (.int r)) ∧ Cal l D ad kA mX13_help (.ref (ad 54) :: [.int x]) M1 (fun oc2 M2 => oc2 = .returned (some (.int r)) ∧ Fr sHelp M M2 ∧ RHelp M2))) := by
      intro M3 hf3 g33 g34 hA hB1 hB2
      have F3 : Fr sHelpC M (sI M3 28 8 16777216) := hf3.sI rfl
      have hsm3 := hsm.fr F3 (fun _ => ⟨⟨rfl, rfl, rfl, rfl, rfl⟩, rfl, rfl, rfl, rfl, rfl⟩)
      refine lp_sk84 (M0 := sI M3 28 8 16777216) (s := s) (on := qR M x) (c1 := decide (¬ v_X11_canHelp M (x - 1) = 0)) (c2 := decide (¬ v_X11_canHelp M (x + 1) = 0)) (A := hA0 M s x) (B1 := hB0 M s (x - 1)) (B2 := hB0 M s (x + 1)) (o1 := x - 1) (o2 := x + 1) (T := hpS (qR M x) (decide (¬ v_X11_canHelp M (x - 1) = 0)) (decide (¬ v_X11_canHelp M (x + 1) = 0)) (hA0 M s x) (hB0 M s (x - 1)) (hB0 M s (x + 1)) (x - 1) (x + 1) s 0 (1000000, gI M 28 3, gI M 28 4)) (by rw [F3.1 9 4 rfl]; exact hss) hsm3 (fun a ha => by rw [F3.1 57 a rfl]; exact hb a ha) (fun k hk => by rw [F3.1 57 k rfl]; rfl) (hc (x - 1)).1 (hc (x + 1)).1 (hc (x - 1)).2 (hc (x + 1)).2 hA hB1 hB2 (ok_A hs160 x) (ok_B hs160 (x - 1)) (ok_B hs160 (x + 1)) (fun M4 hf4 hk4 => ⟨_, rfl, t_X11_help_70 ⟨_, rfl, ?_⟩⟩) s 0 (sI M3 28 8 16777216) (1000000, gI M 28 3, gI M 28 4) (by omega) Fr.rf ⟨nE_B.symm, g33, g34, Nat.le_refl _, .inr (Nat.le_refl _)⟩ rfl
      have F4 : Fr sHelpC M M4 := F3.tr (hf4.mono (fun c i q => by simp [sHelpC] at q; simp [s28]; omega))
      obtain ⟨e1, e2⟩ := costs_fr F4 (fun i => ⟨rfl, rfl, rfl, rfl, rfl⟩)
      have etw : ∀ a b c, tw M4 a b c = tw M a b c := by
        intro a b c
        funext k
        unfold tw
        rw [F4.1 57 k rfl, F4.1 68 _ rfl]
      have e23 : gI M4 54 23 = gI M 54 23 := F4.1 54 23 rfl
      have d1 : ¬ v_X13_isRinger M4 x = 0 := fun z => c1 ((ring M4 e23 x).mp z)
      have d2 : ¬ gI M4 54 26 = 0 := by rw [F4.1 54 26 rfl, ← hp.1]; exact c2
      have cm : ∀ y, (decide (¬ v_X11_canHelp M y = 0) = true ↔ (¬ v_X13_isRinger M4 y = 0 ∧ gI M4 67 y.toNatClampNeg = 0)) := by
        intro y
        rw [decide_eq_true_iff, can]
        constructor
        · intro z
          have := rin y z.1
          have hc' := i_clamp this.1
          exact ⟨fun w => z.1 ((ring M4 e23 y).mp w), by rw [F4.1 67 _ rfl, ← (g3 _ (by omega)).1]; exact z.2⟩
        · intro z
          have z1 : ¬ v_X11_isRinger M y = 0 := fun w => z.1 ((ring M4 e23 y).mpr w)
          have := rin y z1
          have hc' := i_clamp this.1
          exact ⟨z1, by rw [(g3 _ (by omega)).1, ← F4.1 67 _ rfl]; exact z.2⟩
      obtain ⟨r1, r2⟩ := hp_rel (on := qR M x) (c1 := decide (¬ v_X11_canHelp M (x - 1) = 0)) (c2 := decide (¬ v_X11_canHelp M (x + 1) = 0)) (A := hA0 M s x) (B1 := hB0 M s (x - 1)) (B2 := hB0 M s (x + 1)) (o1 := x - 1) (o2 := x + 1) s 0 (1000000, gI M 28 3, gI M 28 4) (1000000, gI M 54 42, gI M 54 43) rfl (fun z => absurd z (by show ¬ 1000000 < 1000000; omega))
      have hl1 := hp_le (on := qR M x) (c1 := decide (¬ v_X11_canHelp M (x - 1) = 0)) (c2 := decide (¬ v_X11_canHelp M (x + 1) = 0)) (A := hA0 M s x) (B1 := hB0 M s (x - 1)) (B2 := hB0 M s (x + 1)) (o1 := x - 1) (o2 := x + 1) s 0 (1000000, gI M 28 3, gI M 28 4)
      have hl2 := hp_le (on := qR M x) (c1 := decide (¬ v_X11_canHelp M (x - 1) = 0)) (c2 := decide (¬ v_X11_canHelp M (x + 1) = 0)) (A := hA0 M s x) (B1 := hB0 M s (x - 1)) (B2 := hB0 M s (x + 1)) (o1 := x - 1) (o2 := x + 1) s 0 (1000000, gI M 54 42, gI M 54 43)
      generalize hTC : hpS (qR M x) (decide (¬ v_X11_canHelp M (x - 1) = 0)) (decide (¬ v_X11_canHelp M (x + 1) = 0)) (hA0 M s x) (hB0 M s (x - 1)) (hB0 M s (x + 1)) (x - 1) (x + 1) s 0 (1000000, gI M 28 3, gI M 28 4) = TC at hk4 r1 r2 hl1 ⊢
      generalize hTM : hpS (qR M x) (decide (¬ v_X11_canHelp M (x - 1) = 0)) (decide (¬ v_X11_canHelp M (x + 1) = 0)) (hA0 M s x) (hB0 M s (x - 1)) (hB0 M s (x + 1)) (x - 1) (x + 1) s 0 (1000000, gI M 54 42, gI M 54 43) = TM at r1 r2 hl2
      have l1' : TC.1 ≤ 1000000 := hl1.1
      rw [or_eq]
      have hin' : ∀ y : Int32, ¬ v_X13_isRinger M4 y = 0 → vp_in y 12 := fun y z => by
        have := rin y (fun w => z ((ring M4 e23 y).mpr w))
        exact vin_of (by omega) (by omega)
      refine en_X13_help (t_X13_help_0 (fun _ _ => ?_) (fun _ q => absurd q d2) (fun q => absurd q d1))
      refine lp_hm27 (M0 := M4) (s := s) (on := qR M x) (c1 := decide (¬ v_X11_canHelp M (x - 1) = 0)) (c2 := decide (¬ v_X11_canHelp M (x + 1) = 0)) (A := hA0 M s x) (B1 := hB0 M s (x - 1)) (B2 := hB0 M s (x + 1)) (T := TM) hx (by rw [F4.1 54 10 rfl, ← hs.1]; exact hss) hs160 (fun a ha => by rw [F4.1 57 a rfl]; exact hb a ha) (fun k hk => by rw [F4.1 57 k rfl, F4.1 68 _ rfl]; exact hon k hk) (cm (x - 1)) (cm (x + 1)) hin' (fun k hk _ => ?_) (fun k hk _ => ?_) (fun k hk _ => ?_) (ok_A hs160 x) (ok_B hs160 (x - 1)) (ok_B hs160 (x + 1)) (fun hlt M5 hf5 hk5 => ?_) (fun hlt M5 hf5 hk5 => ?_) s 0 M4 (1000000, gI M 54 42, gI M 54 43) (by omega) Fr.rf ⟨F4.1 54 42 rfl, F4.1 54 43 rfl, Nat.le_refl _⟩ hTM
      · rw [etw, e1, e2, tw_A hs160 hk hb]; exact (if_pos hk).symm
      · rw [etw, e1, e2, tw_B hs160 hk hb]; exact (if_pos hk).symm
      · rw [etw, e1, e2, tw_B hs160 hk hb]; exact (if_pos hk).symm
      · have F5 : Fr sHelp M (sI M5 54 44 1) := ((F4.mono (fun c i q => by simp [sHelp] at q; simp [sHelpC]; omega)).tr (hf5.mono (fun c i q => by simp [sHelp] at q; simp [sHM2]; omega))).sI rfl
        have er := r2 (by omega)
        refine ⟨?_, F5, fun z => ?_, fun _ => ⟨?_, ?_⟩⟩
        · rw [er, Nat.min_eq_right (by omega), if_pos (by rw [show (1000000 : Int32) = nI 1000000 from rfl, nI_ltI (by omega) (by omega)]; exact hlt)]
        · exact absurd (show (1 : Int32) = 0 from z) (by decide)
        · show gI M5 28 3 = gI M5 54 42
          rw [hf5.1 28 3 rfl, hk4.2.1, hk5.1, er]
        · show gI M5 28 4 = gI M5 54 43
          rw [hf5.1 28 4 rfl, hk4.2.2.1, hk5.2.1, er]
      · have F5 : Fr sHelp M M5 := (F4.mono (fun c i q => by simp [sHelp] at q; simp [sHelpC]; omega)).tr (hf5.mono (fun c i q => by simp [sHelp] at q; simp [sHM2]; omega))
        have eTC : TC = (1000000, gI M 28 3, gI M 28 4) := hl1.2 (by show TC.1 = 1000000; omega)
        have eTM : TM = (1000000, gI M 54 42, gI M 54 43) := hl2.2 (by show TM.1 = 1000000; have := hl2.1; have this : TM.1 ≤ 1000000 := this; omega)
        have k3 : gI M5 28 3 = gI M 28 3 := by rw [hf5.1 28 3 rfl, hk4.2.1, eTC]
        have k4 : gI M5 28 4 = gI M 28 4 := by rw [hf5.1 28 4 rfl, hk4.2.2.1, eTC]
        have k5 : gI M5 54 42 = gI M 54 42 := by rw [hk5.1, eTM]
        have k6 : gI M5 54 43 = gI M 54 43 := by rw [hk5.2.1, eTM]
        have k7 : gI M5 54 44 = gI M 54 44 := by rw [hf5.1 54 44 rfl, F4.1 54 44 rfl]
        refine ⟨?_, F5, ?_⟩
        · rw [eTC]
          show Outcome.returned (some (.int (-1))) = .returned (some (.int (if nI (min 1000000 1000000) < 1000000 then nI (min 1000000 1000000) else (-1))))
          rw [Nat.min_self, if_neg (by decide)]
        · unfold RHelp
          rw [k3, k4, k5, k6, k7]
          exact hh
    refine en_X4_seek (t_X4_seek_0 (ct_bo hu hp c2 hx1 (Fr.rf (S := fun _ _ => false)) ⟨rfl, rfl, rfl, rfl⟩ (fun _ => ⟨rfl, rfl, rfl, rfl⟩) ⟨_, rfl, t_X4_seek_8 ?_⟩))
    refine ct_weighWithout hss hsm hb (fun M1 hf1 hA => ⟨rfl, ?_⟩)
    have F1 : Fr sHelpC M M1 := hf1.mono (fun c i q => by simp [sHelpC] at q; simp [sWO]; omega)
    have hA' : ∀ k, k < s → qR M x k = true → gI M1 29 k = nE (hA0 M s x k) := fun k hk ho => by
      rw [hA k hk ho]; unfold hA0; rw [if_pos hk]; rfl
    have fr : ∀ M', Fr sHelpC M M' → (∀ y : Int32, ∀ Q', ¬ y = (-1) → Q' (.returned (some (.long (bo M y)))) M' → Cal l D ad kA mX7_bellsOf [.ref (ad 22), .int y] M' Q') := fun M' hf' y Q' hy k => ct_bo hu hp c2 hy hf' ⟨rfl, rfl, rfl, rfl⟩ (fun _ => ⟨rfl, rfl, rfl, rfl⟩) k
    have ww : ∀ M', Fr sHelpC M M' → ∀ (y : Int32) (t : Nat) (ht : t = 30 ∨ t = 31) (ht2 : shL[t]? = some (.inl (0, 160))), ¬ x = y → ∀ Q', (∀ M'', Fr (sWW t) M' M'' → (∀ k, k < s → qR M x k = true → gI M'' t k = nE (hB0 M s y k)) → Q' (.returned none) M'') → Cal l D ad kA mX3_weighWith [.ref (ad 17), .long (bo M y), .long (bo M x), .ref (ad t)] M' Q' := by
      intro M' hf' y t ht ht2 hy Q' k'
      obtain ⟨e1, e2⟩ := costs_fr hf' (fun i => ⟨rfl, rfl, rfl, rfl, rfl⟩)
      have e57 : ∀ i, gI M' 57 i = gI M 57 i := fun i => hf'.1 57 i rfl
      refine ct_weighWith ht ht2 (by rw [hf'.1 9 4 rfl]; exact hss) (hsm.fr hf' (fun _ => ⟨⟨rfl, rfl, rfl, rfl, rfl⟩, rfl, rfl, rfl, rfl, rfl⟩)) (fun a ha => by rw [e57]; exact hb a ha) (fun M'' hf'' hw => k' M'' hf'' (fun k hk ho => ?_))
      have ep : (fun j => lb (bo M y) (gI M' 57 j).toNatClampNeg) = qR M y := by
        funext j
        rw [e57]; rfl
      have := hw k hk (by rw [e57]; exact ho) (by rw [e57]; exact dis y hy k hk ho)
      rw [this, ep, e1, e2]
      unfold hB0
      rw [if_pos hk]
    have k33 : gI M1 28 3 = gI M 28 3 := hf1.1 28 3 rfl
    have k34 : gI M1 28 4 = gI M 28 4 := hf1.1 28 4 rfl
    refine t_X4_seek_23 (fun b1 b2 => ?_) (fun b1 b2 => ?_) (fun b1 => ?_)
    · exact go M1 F1 k33 k34 hA' (fun z => by rw [(hc (x - 1)).1.mp b1] at z; cases z) (fun z => by rw [(hc (x + 1)).1.mp b2] at z; cases z)
    · have a2 : ¬ v_X11_canHelp M (x + 1) = 0 := fun z => b2 (if_pos z)
      rw [if_neg a2]
      refine fr M1 F1 (x + 1) _ (nonone _ a2) ⟨_, rfl, t_X4_seek_66 (ww M1 F1 (x + 1) 31 (.inr rfl) rfl ne2 _ (fun M2 hf2 hB => ⟨rfl, t_X4_seek_75 ?_⟩))⟩
      have F2 : Fr sHelpC M M2 := F1.tr (hf2.mono (fun c i q => by simp [sHelpC] at q; simp [sWW]; omega))
      have := go M2 F2 (by rw [hf2.1 28 3 rfl]; exact k33) (by rw [hf2.1 28 4 rfl]; exact k34) (fun k hk ho => by rw [hf2.1 29 k rfl]; exact hA' k hk ho) (fun z => by rw [(hc (x - 1)).1.mp b1] at z; cases z) (fun _ => hB)
      rw [if_neg a2] at this
      exact this
    · have a1 : ¬ v_X11_canHelp M (x - 1) = 0 := fun z => b1 (if_pos z)
      rw [if_neg a1]
      refine fr M1 F1 (x - 1) _ (nonone _ a1) ⟨_, rfl, t_X4_seek_40 (ww M1 F1 (x - 1) 30 (.inl rfl) rfl ne1 _ (fun M2 hf2 hB => ⟨rfl, t_X4_seek_49 (fun b2 => ?_) (fun b2 => ?_)⟩))⟩
      · have F2 : Fr sHelpC M M2 := F1.tr (hf2.mono (fun c i q => by simp [sHelpC] at q; simp [sWW]; omega))
        have := go M2 F2 (by rw [hf2.1 28 3 rfl]; exact k33) (by rw [hf2.1 28 4 rfl]; exact k34) (fun k hk ho => by rw [hf2.1 29 k rfl]; exact hA' k hk ho) (fun _ => hB) (fun z => by rw [(hc (x + 1)).1.mp b2] at z; cases z)
        rw [if_neg a1] at this
        exact this
      · have F2 : Fr sHelpC M M2 := F1.tr (hf2.mono (fun c i q => by simp [sHelpC] at q; simp [sWW]; omega))
        have a2 : ¬ v_X11_canHelp M (x + 1) = 0 := fun z => b2 (if_pos z)
        rw [if_neg a2]
        refine fr M2 F2 (x + 1) _ (nonone _ a2) ⟨_, rfl, t_X4_seek_66 (ww M2 F2 (x + 1) 31 (.inr rfl) rfl ne2 _ (fun M3 hf3 hB2 => ⟨rfl, t_X4_seek_75 ?_⟩))⟩
        have F3 : Fr sHelpC M M3 := F2.tr (hf3.mono (fun c i q => by simp [sHelpC] at q; simp [sWW]; omega))
        have := go M3 F3 (by rw [hf3.1 28 3 rfl, hf2.1 28 3 rfl]; exact k33) (by rw [hf3.1 28 4 rfl, hf2.1 28 4 rfl]; exact k34) (fun k hk ho => by rw [hf3.1 29 k rfl, hf2.1 29 k rfl]; exact hA' k hk ho) (fun _ k hk ho => by rw [hf3.1 30 k rfl]; exact hB k hk ho) (fun _ => hB2)
        rw [if_neg a1, if_neg a2] at this
        exact this
  · exact ⟨_, rfl, en_X13_help (t_X13_help_0 (fun _ q => absurd (by rw [← hp.1]; exact c2) q) (fun _ _ => ⟨rfl, Fr.rf, hh⟩) (fun q => absurd ((ring M rfl x).mp q) c1))⟩
  · exact ⟨_, rfl, en_X13_help (t_X13_help_0 (fun q => absurd ((ring M rfl x).mpr c1) q) (fun q => absurd ((ring M rfl x).mpr c1) q) (fun _ => ⟨rfl, Fr.rf, hh⟩))⟩
end Help2
