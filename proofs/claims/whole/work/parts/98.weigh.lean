/-! HELP in the class: with and without one STROKE -/
def flP (p : Nat → Bool) (k : Nat) : List Nat := (List.range k).filter p
def hiP (p : Nat → Bool) (k s : Nat) : List Nat := (List.range' (k + 1) (s - (k + 1))).filter p
theorem range_split {k s : Nat} (h : k < s) : List.range s = List.range k ++ k :: List.range' (k + 1) (s - (k + 1)) := by
  have e : k :: List.range' (k + 1) (s - (k + 1)) = List.range' k (s - k) := by
    rw [show s - k = (s - (k + 1)) + 1 by omega, List.range'_succ]
  rw [e, List.range_eq_range', List.range_eq_range']
  have := List.range'_append_1 (s := 0) (m := k) (n := s - k)
  rw [Nat.zero_add, show k + (s - k) = s by omega] at this
  exact this.symm
theorem fl_y {p : Nat → Bool} {k s : Nat} (h : k < s) (hp : p k = true) : flP p s = flP p k ++ k :: hiP p k s := by
  unfold flP hiP
  rw [range_split h, List.filter_append, List.filter_cons_of_pos hp]
theorem fl_n {p : Nat → Bool} {k s : Nat} (h : k < s) (hp : p k = false) : flP p s = flP p k ++ hiP p k s := by
  unfold flP hiP
  rw [range_split h, List.filter_append, List.filter_cons_of_neg (by rw [hp]; decide)]
theorem fl_without {p : Nat → Bool} {k s : Nat} (h : k < s) : (List.range s).filter (fun j => p j && decide (¬ j = k)) = flP p k ++ hiP p k s := by
  unfold flP hiP
  rw [range_split h, List.filter_append, List.filter_cons_of_neg (by simp)]
  congr 1
  · refine List.filter_congr (fun a ha => ?_)
    have := List.mem_range.mp ha
    rw [decide_eq_true (by omega), Bool.and_true]
  · refine List.filter_congr (fun a ha => ?_)
    have := List.mem_range'_1.mp ha
    rw [decide_eq_true (by omega), Bool.and_true]
theorem fl_with {p : Nat → Bool} {k s : Nat} (h : k < s) : (List.range s).filter (fun j => decide (j = k) || p j) = flP p k ++ k :: hiP p k s := by
  unfold flP hiP
  rw [range_split h, List.filter_append, List.filter_cons_of_pos (by simp)]
  congr 1
  · refine List.filter_congr (fun a ha => ?_)
    have := List.mem_range.mp ha
    rw [decide_eq_false (by omega), Bool.false_or]
  · congr 1
    refine List.filter_congr (fun a ha => ?_)
    have := List.mem_range'_1.mp ha
    rw [decide_eq_false (by omega), Bool.false_or]
theorem fl_succ_y {p : Nat → Bool} {k : Nat} (hp : p k = true) : flP p (k + 1) = flP p k ++ [k] := by
  unfold flP
  rw [List.range_succ, List.filter_append, List.filter_cons_of_pos hp, List.filter_nil]
theorem fl_succ_n {p : Nat → Bool} {k : Nat} (hp : p k = false) : flP p (k + 1) = flP p k := by
  unfold flP
  rw [List.range_succ, List.filter_append, List.filter_cons_of_neg (by rw [hp]; decide), List.filter_nil, List.append_nil]
theorem hi_ge {p : Nat → Bool} {k s a : Nat} (h : a ∈ hiP p k s) : k < a := by
  have := List.mem_range'_1.mp (List.mem_filter.mp h).1
  omega
theorem fl_nodup {p : Nat → Bool} {s : Nat} : (flP p s).Nodup := List.Pairwise.filter _ List.nodup_range
section Weigh
variable {l : Launch} {D : va_G} {ad : Nat → Nat} {kA : Nat → ClassId} {M M0 : Mem} {Q : Outcome → Mem → Prop} {L : List Nat} {s : Nat}
theorem RestOk.fr {S : Nat → Nat → Bool} (hl : L.length ≤ 160) (h : RestOk M0 M0 L) (hf : Fr S M0 M) (hS : ∀ i, S 56 i = false ∧ S 57 i = false ∧ S 58 i = false ∧ S 59 i = false ∧ S 65 i = false) (h7 : S 17 7 = false) (h20 : ∀ i, S 20 i = false) : RestOk M M L := by
  obtain ⟨c1, c2⟩ := costs_fr hf hS
  intro d o a1 a2 a3
  rw [restOf_fr hf h7 h20, c1, c2]
  exact ⟨(h d o a1 a2 a3).1, g_rest hl a2 a3⟩
def s2129 (c i : Nat) : Bool := c == 21 || c == 29
theorem lp_wo16 (h : RowC M0 L s) (hsm : SameAll M0 s) (hr : RestOk M0 M0 L) (nd : L.Nodup)
    (K : ∀ M', Fr s2129 M0 M' → (∀ d (hd : d < L.length), gI M' 29 L[d] = nE (Ff (mvP M0) (hlP M0) none none (L.take d ++ L.drop (d + 1)))) → Q (.returned none) M') : ∀ (j d : Nat) (M : Mem), d + j = L.length → Fr s2129 M0 M → PastOk M0 M L d → (∀ d' (hd : d' < L.length), d' < d → gI M 29 L[d'] = nE (Ff (mvP M0) (hlP M0) none none (L.take d' ++ L.drop (d' + 1)))) →
    Fw l D ad kA mX3_weighWithout 16 [some (.ref (ad 17)), none, none, some (.ref (ad 29)), some (.int (nI d))] [] M Q := by
  have h3 := h.2.2.1
  have hs160 := hsm.1
  intro j
  induction j with
  | zero =>
    intro d M hd hf hp hw
    have e5 : gI M 17 5 = nI L.length := by rw [hf.1 17 5 rfl]; exact h.1
    have hle : gI M 17 5 ≤ nI d := by rw [e5, nI_leI (by omega) (by omega)]; omega
    exact t_X3_weighWithout_16 (fun q => absurd hle q) (fun _ => K M hf (fun d' hd' => hw d' hd' (by omega))) (fun q => absurd hle q)
  | succ j ih =>
    intro d M hd hf hp hw
    have hlt : d < L.length := by omega
    have e5 : gI M 17 5 = nI L.length := by rw [hf.1 17 5 rfl]; exact h.1
    have hnle : ¬ gI M 17 5 ≤ nI d := by rw [e5, nI_leI (by omega) (by omega)]; omega
    obtain ⟨c1, c2⟩ := costs_fr hf (fun i => ⟨rfl, rfl, rfl, rfl, rfl⟩)
    have hrow := h.fr hf rfl (fun _ => rfl)
    have hsm' := hsm.fr hf (fun _ => ⟨⟨rfl, rfl, rfl, rfl, rfl⟩, rfl, rfl, rfl, rfl, rfl⟩)
    have hr' := hr.fr h3 hf (fun _ => ⟨rfl, rfl, rfl, rfl, rfl⟩) rfl (fun _ => rfl)
    have hp' : PastOk M M L d := by unfold PastOk at hp ⊢; rw [c1, c2]; exact hp
    obtain ⟨b1, b2⟩ := hrow.at hlt
    refine t_X3_weighWithout_16 (fun _ => ix (by omega)) (fun q => absurd q hnle) (fun _ => ct_takesSkipping hrow hsm' hr' Fr.rf hlt hp' ⟨_, rfl, ?_⟩)
    rw [nI_clamp (by omega), b1]
    refine t_X3_weighWithout_39 (ix (by omega)) ?_
    rw [nI_clamp (by omega)]
    generalize hM1 : sI M 29 L[d] (nE (Ff (mvP M) (hlP M) none none (L.take d ++ L.drop (d + 1)))) = M1
    have hf1 : Fr s2129 M0 M1 := by rw [← hM1]; exact hf.sI rfl
    obtain ⟨c3, c4⟩ := costs_fr hf1 (fun i => ⟨rfl, rfl, rfl, rfl, rfl⟩)
    have hrow1 := h.fr hf1 rfl (fun _ => rfl)
    have hsm1 := hsm.fr hf1 (fun _ => ⟨⟨rfl, rfl, rfl, rfl, rfl⟩, rfl, rfl, rfl, rfl, rfl⟩)
    have hp1 : PastOk M1 M1 L d := by
      intro o ho
      rw [c3, c4, ← hM1]
      exact hp o ho
    refine ct_stepForth hrow1 hsm1 Fr.rf hlt hp1 (fun M2 hf2 hp2 => ⟨rfl, t_X3_weighWithout_46 ?_⟩)
    rw [nI_1]
    refine ih (d + 1) M2 (by omega) (hf1.tr (hf2.mono (fun c i q => by simp [s2129] at q; simp [s21]; omega))) ?_ (fun d' hd' hdd => ?_)
    · unfold PastOk at hp2 ⊢
      rw [c3, c4] at hp2
      exact hp2
    · rw [hf2.1 29 _ rfl, ← hM1]
      by_cases e : d' = d
      · subst e
        rw [gI_self, c1, c2]
      · rw [gI_oi (fun z => e (by
          have ndp := List.pairwise_iff_getElem.mp nd
          rcases Nat.lt_trichotomy d' d with c | c | c
          · exact absurd z (ndp d' d hd' hlt c)
          · exact c
          · omega))]
        exact hw d' hd' (by omega)
def sWO (c i : Nat) : Bool := c == 19 || c == 20 || (c == 17 && (i == 5 || i == 7)) || c == 21 || c == 29
theorem ct_weighWithout {z : Int64} (hs : (s : Int) = (gI M 9 4).toInt) (hsm : SameAll M s) (hb : ∀ a, a < s → 0 ≤ (gI M 57 a).toInt ∧ (gI M 57 a).toInt ≤ 47)
    (K : ∀ M', Fr sWO M M' → (∀ k, k < s → lb z (gI M 57 k).toNatClampNeg = true → gI M' 29 k = nE (Ff (mvP M) (hlP M) none none (flP (fun j => lb z (gI M 57 j).toNatClampNeg) k ++ hiP (fun j => lb z (gI M 57 j).toNatClampNeg) k s))) → Q (.returned none) M') : Cal l D ad kA mX3_weighWithout [.ref (ad 17), .long z, .ref (ad 29)] M Q := by
  refine en_X3_weighWithout (t_X3_weighWithout_0 (ct_takesOfC hs hsm hb (fun M1 hf1 ho1 hr1 => ⟨_, rfl, t_X3_weighWithout_5 ?_⟩)))
  have F1 : Fr sWO M (sI M1 21 (0 : Int32).toNatClampNeg 0) := (hf1.mono (fun c i q => by simp [sWO] at q; simp [sTakesC]; omega)).sI rfl
  generalize hM2 : sI M1 21 (0 : Int32).toNatClampNeg 0 = M2 at F1
  obtain ⟨c1, c2⟩ := costs_fr F1 (fun i => ⟨rfl, rfl, rfl, rfl, rfl⟩)
  have f2 : Fr s21 M1 M2 := by rw [← hM2]; exact Fr.rf.sI rfl
  have hrow2 := ho1.fr f2 rfl (fun _ => rfl)
  have hsm2 := hsm.fr F1 (fun _ => ⟨⟨rfl, rfl, rfl, rfl, rfl⟩, rfl, rfl, rfl, rfl, rfl⟩)
  have hr2 : RestOk M2 M2 (ons M z s) := by
    intro d o a1 a2 a3
    rw [restOf_fr f2 rfl (fun _ => rfl), c1, c2]
    exact ⟨(hr1 d o a1 a2 a3).1, g_rest ho1.2.2.1 a2 a3⟩
  refine lp_wo16 hrow2 hsm2 hr2 fl_nodup (fun M3 hf3 hw => ?_) (ons M z s).length 0 M2 (by omega) Fr.rf (fun o ho => ?_) (fun d' hd' hdd => by omega)
  · refine K M3 (F1.tr (hf3.mono (fun c i q => by simp [sWO] at q; simp [s2129]; omega))) (fun k hk hp => ?_)
    have eL : ons M z s = flP (fun j => lb z (gI M 57 j).toNatClampNeg) k ++ k :: hiP (fun j => lb z (gI M 57 j).toNatClampNeg) k s := fl_y (p := fun j => lb z (gI M 57 j).toNatClampNeg) hk hp
    generalize hA : flP (fun j => lb z (gI M 57 j).toNatClampNeg) k = A at eL ⊢
    generalize hB : hiP (fun j => lb z (gI M 57 j).toNatClampNeg) k s = B at eL ⊢
    rw [eL] at hw
    have hd : A.length < (A ++ k :: B).length := by rw [List.length_append, List.length_cons]; omega
    have := hw A.length hd
    rw [List.getElem_append_right (Nat.le_refl _)] at this
    simp only [Nat.sub_self, List.getElem_cons_zero] at this
    rw [this, c1, c2, List.take_left' rfl, List.drop_append]
    rw [show A.length + 1 - A.length = 1 by omega, List.drop_of_length_le (by omega), List.nil_append]
    rfl
  · have : o = 0 := by omega
    subst this
    rw [← hM2]
    exact nE_0.symm
end Weigh
