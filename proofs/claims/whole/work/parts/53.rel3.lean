/-! faults, rules, the tape -/
def RFault (M : Mem) : Prop := gI M 1 3 = gI M 54 8 ∧ gI M 1 4 = gI M 54 9
def RRule (M : Mem) : Prop := (∀ a : Nat, a < 4 → gI M 15 a = gI M 65 a) ∧ (0 ≤ (gI M 15 0).toInt ∧ (gI M 15 0).toInt ≤ 9) ∧ (1 ≤ (gI M 15 1).toInt ∧ (gI M 15 1).toInt ≤ 12) ∧ (0 ≤ (gI M 15 2).toInt ∧ (gI M 15 2).toInt ≤ 47) ∧ (0 ≤ (gI M 15 3).toInt ∧ (gI M 15 3).toInt ≤ 9)
def RKey (M : Mem) : Prop := gI M 44 3 = gI M 54 65 ∧ (¬ gI M 44 3 = 0 → gI M 44 4 = gI M 54 55 ∧ gI M 44 5 = gI M 54 56 ∧ gI M 44 6 = gI M 54 57)
def RTape (M : Mem) : Prop := gI M 1 0 = gI M 54 2 ∧ (0 ≤ (gI M 1 0).toInt ∧ (gI M 1 0).toInt ≤ 1200) ∧ ∀ a : Nat, (a : Int) < (gI M 1 0).toInt → gI M 2 a = gI M 55 a ∧ (-128 ≤ (gI M 2 a).toInt ∧ (gI M 2 a).toInt ≤ 127)
section Pures
variable {l : Launch} {D : va_G} {ad : Nat → Nat} {kA : Nat → ClassId} {M : Mem} {Q : Outcome → Mem → Prop}
theorem pr_fault {x : Int32} (h : RFault M) : Two l D ad kA mX11_fault mX13_fault [.int x] M (fun M2 => M2 = M) := by
  refine ct_X11_fault ⟨_, rfl, ct_X13_fault ⟨?_, rfl⟩⟩
  unfold v_X11_fault v_X13_fault
  rw [h.1, h.2]
theorem pr_keyed {x : Int32} (h : RKey M) : Two l D ad kA mX11_keyed mX13_keyed [.int x] M (fun M2 => M2 = M) := by
  refine ct_X11_keyed ⟨_, rfl, ct_X13_keyed ⟨?_, rfl⟩⟩
  unfold v_X11_keyed v_X13_keyed
  rw [← h.1]
  by_cases q : gI M 44 3 = 0
  · rw [if_pos q, if_pos q]
  · rw [if_neg q, if_neg q, (h.2 q).1, (h.2 q).2.1, (h.2 q).2.2]
theorem pr_rule {x : Int32} (h : RRule M) : Two l D ad kA mX11_rule mX13_rule [.int x] M (fun M2 => M2 = M) := by
  have q0 := n0
  have q4 := n4
  refine ct_X11_rule (fun c1 c2 => ?_) ⟨_, rfl, ct_X13_rule (fun c1 => ?_) ⟨?_, rfl⟩⟩
  · rw [i_lt] at c1 c2; exact vin_of (by omega) (by omega)
  · rw [in0i, m0, m3] at c1; exact vin_of (by omega) (by omega)
  · unfold v_X11_rule v_X13_rule
    by_cases c : 0 ≤ x.toInt ∧ x.toInt ≤ 3
    · have e1 : ¬ x < 0 := by rw [i_lt]; omega
      have e2 : x < 4 := by rw [i_lt]; omega
      have e3 : ¬ v_X13_in x.toInt64 0 3 = 0 := by rw [in0i, m0, m3]; omega
      rw [if_neg e1, if_pos e2, if_neg e3]
      have := i_clamp c.1
      rw [h.1 _ (by omega)]
    · have e3 : v_X13_in x.toInt64 0 3 = 0 := by rw [in0i, m0, m3]; omega
      rw [if_pos e3]
      by_cases e1 : x < 0
      · rw [if_pos e1]
      · rw [if_neg e1, if_neg (by rw [i_lt] at e1 ⊢; omega)]
def sEnd (c i : Nat) : Bool := (c == 1 && i == 0) || (c == 54 && i == 2)
theorem pr_end {x : Int32} (h : RTape M) : Two l D ad kA mX11_end mX13_end [.int x] M (fun M2 => Fr sEnd M M2 ∧ RTape M2) := by
  have q0 := n0
  obtain ⟨h1, h2, h3⟩ := id h
  have bad : (x.toInt < 0 ∨ (gI M 1 0).toInt < x.toInt) → Cal l D ad kA mX13_end (.ref (ad 54) :: [.int x]) M (fun oc2 M2 => oc2 = .returned (some (.int (-1))) ∧ Fr sEnd M M2 ∧ RTape M2) := by
    intro hb
    have w : v_X13_in x.toInt64 0 (gI M 54 2).toInt64 = 0 := by rw [in0i, m0, Int32.toInt_toInt64, ← h1]; exact hb
    exact en_X13_end (t_X13_end_0 (fun d => absurd w d) (fun _ => ⟨rfl, Fr.rf, h⟩))
  refine en_X11_end (t_X11_end_0 (fun c1 => ⟨_, rfl, bad ?_⟩) (fun c1 c2 => ⟨_, rfl, ?_⟩) (fun c1 c2 => ⟨_, rfl, bad ?_⟩))
  · rw [i_lt] at c1; omega
  · rw [i_lt] at c1
    rw [i_le] at c2
    have w : ¬ v_X13_in x.toInt64 0 (gI (sI M 1 0 x) 54 2).toInt64 = 0 := by
      have e : gI (sI M 1 0 x) 54 2 = gI M 1 0 := h1.symm
      rw [e, in0i, m0, Int32.toInt_toInt64]; omega
    refine en_X13_end (t_X13_end_0 (fun _ => ⟨rfl, (Fr.rf.sI rfl).sI rfl, rfl, ?_, fun a ha => ?_⟩) (fun d => absurd d w))
    · show 0 ≤ x.toInt ∧ x.toInt ≤ 1200
      omega
    · have ha2 : (a : Int) < x.toInt := ha
      exact h3 a (by omega)
  · rw [i_le] at c2; omega
end Pures
/-- bytes behind the tape's end -/
def wrT (cb co fo : Nat) : Mem → Nat → List Int32 → Mem
  | M, _, [] => M
  | M, n, b :: bs => wrT cb co fo (sI (sI M cb n b) co fo (nI (n + 1))) (n + 1) bs
theorem wr_app (cb co fo : Nat) : ∀ (as bs : List Int32) (M : Mem) (n : Nat), wrT cb co fo M n (as ++ bs) = wrT cb co fo (wrT cb co fo M n as) (n + as.length) bs
  | [], bs, M, n => rfl
  | a :: as, bs, M, n => by
    show wrT cb co fo _ (n + 1) (as ++ bs) = _
    rw [wr_app cb co fo as bs]
    show wrT cb co fo _ (n + 1 + as.length) bs = wrT cb co fo _ (n + (as.length + 1)) bs
    rw [show n + 1 + as.length = n + (as.length + 1) by omega]
    rfl
theorem wr_co {cb co fo : Nat} (hne : co ≠ cb) : ∀ (bs : List Int32) (M : Mem) (n : Nat), gI M co fo = nI n → gI (wrT cb co fo M n bs) co fo = nI (n + bs.length)
  | [], M, n, h => h
  | b :: bs, M, n, h => by
    show gI (wrT cb co fo _ (n + 1) bs) co fo = _
    rw [wr_co hne bs _ (n + 1) gI_self]
    congr 1
    simp; omega
theorem wr_fr {cb co fo : Nat} {S : Nat → Nat → Bool} (hs : ∀ i, S cb i = true) (hs2 : S co fo = true) : ∀ (bs : List Int32) (M0 M : Mem) (n : Nat), Fr S M0 M → Fr S M0 (wrT cb co fo M n bs)
  | [], _, M, n, h => h
  | b :: bs, M0, M, n, h => wr_fr hs hs2 bs M0 _ (n + 1) ((h.sI (hs n)).sI hs2)
theorem wr_low {cb co fo : Nat} (hne : co ≠ cb) : ∀ (bs : List Int32) (M : Mem) (n i : Nat), i < n → gI (wrT cb co fo M n bs) cb i = gI M cb i
  | [], M, n, i, h => rfl
  | b :: bs, M, n, i, h => by
    show gI (wrT cb co fo _ (n + 1) bs) cb i = _
    rw [wr_low hne bs _ (n + 1) i (by omega), gI_o (fun q => hne q.1.symm), gI_oi (by omega)]
theorem wr_at {cb co fo : Nat} (hne : co ≠ cb) : ∀ (bs : List Int32) (M : Mem) (n k : Nat), k < bs.length → gI (wrT cb co fo M n bs) cb (n + k) = bs.getD k 0
  | b :: bs, M, n, 0, h => by
    show gI (wrT cb co fo _ (n + 1) bs) cb (n + 0) = _
    rw [wr_low hne bs _ (n + 1) (n + 0) (by omega), gI_o (fun q => hne q.1.symm)]
    exact gI_self
  | b :: bs, M, n, k + 1, h => by
    show gI (wrT cb co fo _ (n + 1) bs) cb (n + (k + 1)) = _
    rw [show n + (k + 1) = n + 1 + k by omega, wr_at hne bs _ (n + 1) k (by simpa using h)]
    rfl
def bt (x s : Int32) : Int32 := vp_nar .byte ((x >>> (s &&& 31)).toInt8.toInt32)
def bt4 (x : Int32) : List Int32 := [bt x 24, bt x 16, bt x 8, bt x 0]
theorem bt_rng (x s : Int32) : -128 ≤ (bt x s).toInt ∧ (bt x s).toInt ≤ 127 := by
  unfold bt
  rw [vp_nar_byte, Int8.toInt_toInt32]
  have h1 := Int8.le_toInt ((x >>> (s &&& 31)).toInt8.toInt32).toInt8
  have h2 := Int8.toInt_lt ((x >>> (s &&& 31)).toInt8.toInt32).toInt8
  omega
section Feed
variable {l : Launch} {D : va_G} {ad : Nat → Nat} {kA : Nat → ClassId} {M : Mem} {Q : Outcome → Mem → Prop}
theorem ct_addFour {x : Int32} {n : Nat} (h : gI M 1 0 = nI n) (hn : n + 4 ≤ 1200) (K : Q (.returned none) (wrT 2 1 0 M n (bt4 x))) : Cal l D ad kA mX10_addFour [.ref (ad 1), .int x] M Q := by
  have st : ∀ (M : Mem) (k : Nat) (s s' : Int32), k < 1200 → ¬ s < 0 → s + (-8) = s' → gI M 1 0 = nI k → Fw l D ad kA mX10_addFour 3 [some (.ref (ad 1)), some (.int x), some (.int s')] [] (sI (sI M 2 k (bt x s)) 1 0 (nI (k + 1))) Q → Fw l D ad kA mX10_addFour 3 [some (.ref (ad 1)), some (.int x), some (.int s)] [] M Q := by
    intro M k s s' hk hs hs' hM K
    have hlt : ¬ (1200 : Int32) ≤ gI M 1 0 := by
      have : (1200 : Int32).toInt = 1200 := by decide
      rw [hM, i_le, i_nI (by omega), this]; omega
    refine t_X10_addFour_3 (fun _ _ => by rw [hM]; exact vin_of (by rw [i_nI (by omega)]; omega) (by rw [i_nI (by omega)]; omega)) (fun c => absurd c hs) (fun _ c => absurd c hlt) (fun _ _ => ?_)
    rw [hM, nI_clamp (by omega), nI_1, hs']
    exact K
  refine en_X10_addFour (t_X10_addFour_0 ?_)
  refine st M n 24 16 (by omega) (by decide) (by decide) h ?_
  refine st _ (n + 1) 16 8 (by omega) (by decide) (by decide) gI_self ?_
  refine st _ (n + 2) 8 0 (by omega) (by decide) (by decide) gI_self ?_
  refine st _ (n + 3) 0 (-8) (by omega) (by decide) (by decide) gI_self ?_
  exact t_X10_addFour_3 (fun c => absurd (by decide) c) (fun _ => K) (fun c => absurd (by decide) c) (fun c => absurd (by decide) c)
theorem ct_lay {x : Int32} {n : Nat} (h : gI M 54 2 = nI n) (hn : n + 4 ≤ 1200) (K : Q (.returned none) (wrT 55 54 2 M n (bt4 x))) : Cal l D ad kA mX13_lay [.ref (ad 54), .int x] M Q := by
  have st : ∀ (M : Mem) (k : Nat) (s s' : Int32), k < 1200 → ¬ s < 0 → s + (-8) = s' → gI M 54 2 = nI k → Fw l D ad kA mX13_lay 3 [some (.ref (ad 54)), some (.int x), some (.int s')] [] (sI (sI M 55 k (bt x s)) 54 2 (nI (k + 1))) Q → Fw l D ad kA mX13_lay 3 [some (.ref (ad 54)), some (.int x), some (.int s)] [] M Q := by
    intro M k s s' hk hs hs' hM K
    refine t_X13_lay_3 (fun _ => by rw [hM]; exact vin_of (by rw [i_nI (by omega)]; omega) (by rw [i_nI (by omega)]; omega)) (fun c => absurd c hs) (fun _ => ?_)
    rw [hM, nI_clamp (by omega), nI_1, hs']
    exact K
  refine en_X13_lay (t_X13_lay_0 ?_)
  refine st M n 24 16 (by omega) (by decide) (by decide) h ?_
  refine st _ (n + 1) 16 8 (by omega) (by decide) (by decide) gI_self ?_
  refine st _ (n + 2) 8 0 (by omega) (by decide) (by decide) gI_self ?_
  refine st _ (n + 3) 0 (-8) (by omega) (by decide) (by decide) gI_self ?_
  exact t_X13_lay_3 (fun c => absurd (by decide) c) (fun _ => K) (fun c => absurd (by decide) c)
def sFeed (c i : Nat) : Bool := (c == 1 && i == 0) || (c == 54 && i == 2) || (c == 2) || (c == 55)
theorem pr_feed {a b c d e : Int32} (h : RTape M) : Two l D ad kA mX11_feed mX13_feed [.int a, .int b, .int c, .int d, .int e] M (fun M2 => Fr sFeed M M2 ∧ RTape M2) := by
  have q20 : (20 : Int32).toInt = 20 := by decide
  have q1200 : (1200 : Int32).toInt = 1200 := by decide
  obtain ⟨h1, h2, h3⟩ := id h
  obtain ⟨n, hn1, hn2, hn3⟩ := i_nat h2.1
  have hs : (gI M 1 0 + 20).toInt = (gI M 1 0).toInt + 20 := by rw [i_add, q20] <;> rw [q20] <;> omega
  refine en_X11_feed (t_X11_feed_0 (fun c1 => ?_) (fun c1 => ⟨_, rfl, en_X13_feed (t_X13_feed_0 (fun d1 => absurd (by rw [h1]; exact d1) c1) (fun _ => ⟨rfl, Fr.rf, h⟩))⟩))
  rw [i_le, hs, q1200] at c1
  have hne : (1 : Nat) ≠ 2 := by decide
  have hne2 : (54 : Nat) ≠ 55 := by decide
  refine ct_addFour hn1 (by omega) ⟨rfl, ?_⟩
  refine t_X11_feed_27 (ct_addFour (n := n + 4) (wr_co hne _ _ _ hn1) (by omega) ⟨rfl, ?_⟩)
  refine t_X11_feed_35 (ct_addFour (n := n + 8) (wr_co hne _ _ _ (wr_co hne _ _ _ hn1)) (by omega) ⟨rfl, ?_⟩)
  refine t_X11_feed_43 (ct_addFour (n := n + 12) (wr_co hne _ _ _ (wr_co hne _ _ _ (wr_co hne _ _ _ hn1))) (by omega) ⟨rfl, ?_⟩)
  refine t_X11_feed_52 (ct_addFour (n := n + 16) (wr_co hne _ _ _ (wr_co hne _ _ _ (wr_co hne _ _ _ (wr_co hne _ _ _ hn1)))) (by omega) ⟨rfl, ?_⟩)
  have eA : wrT 2 1 0 (wrT 2 1 0 (wrT 2 1 0 (wrT 2 1 0 (wrT 2 1 0 M n (bt4 a)) (n + 4) (bt4 b)) (n + 8) (bt4 c)) (n + 12) (bt4 d)) (n + 16) (bt4 e) = wrT 2 1 0 M n (bt4 a ++ (bt4 b ++ (bt4 c ++ (bt4 d ++ bt4 e)))) := by
    rw [wr_app, wr_app, wr_app, wr_app]
    rfl
  rw [eA]
  generalize hB : bt4 a ++ (bt4 b ++ (bt4 c ++ (bt4 d ++ bt4 e))) = B
  have hBl : B.length = 20 := by rw [← hB]; rfl
  have hBr : ∀ y ∈ B, -128 ≤ y.toInt ∧ y.toInt ≤ 127 := by
    intro y hy
    rw [← hB] at hy
    simp only [List.mem_append, bt4, List.mem_cons, List.not_mem_nil, or_false] at hy
    rcases hy with (rfl | rfl | rfl | rfl) | (rfl | rfl | rfl | rfl) | (rfl | rfl | rfl | rfl) | (rfl | rfl | rfl | rfl) | (rfl | rfl | rfl | rfl) <;> exact bt_rng _ _
  have z1 := wr_co (fo := 0) hne B M n hn1
  refine t_X11_feed_61 ⟨_, rfl, ?_⟩
  rw [z1]
  generalize hM1 : wrT 2 1 0 M n B = M1
  have f1 : Fr sFeed M M1 := by rw [← hM1]; exact wr_fr (fun _ => rfl) rfl _ _ _ _ Fr.rf
  have e54 : gI M1 54 2 = nI n := by
    have : Fr (fun c i => c == 2 || (c == 1 && i == 0)) M M1 := by rw [← hM1]; exact wr_fr (fun _ => rfl) rfl _ _ _ _ Fr.rf
    rw [this.1 54 2 rfl, ← h1, hn1]
  have c2 : gI M1 54 2 + 20 ≤ 1200 := by
    rw [e54, ← hn1, i_le, hs, q1200]; exact c1
  refine en_X13_feed (t_X13_feed_0 (fun _ => ?_) (fun d1 => absurd c2 d1))
  refine ct_lay e54 (by omega) ⟨rfl, ?_⟩
  refine t_X13_feed_21 (ct_lay (n := n + 4) (wr_co hne2 _ _ _ e54) (by omega) ⟨rfl, ?_⟩)
  refine t_X13_feed_26 (ct_lay (n := n + 8) (wr_co hne2 _ _ _ (wr_co hne2 _ _ _ e54)) (by omega) ⟨rfl, ?_⟩)
  refine t_X13_feed_31 (ct_lay (n := n + 12) (wr_co hne2 _ _ _ (wr_co hne2 _ _ _ (wr_co hne2 _ _ _ e54))) (by omega) ⟨rfl, ?_⟩)
  refine t_X13_feed_37 (ct_lay (n := n + 16) (wr_co hne2 _ _ _ (wr_co hne2 _ _ _ (wr_co hne2 _ _ _ (wr_co hne2 _ _ _ e54)))) (by omega) ⟨rfl, ?_⟩)
  have eB : wrT 55 54 2 (wrT 55 54 2 (wrT 55 54 2 (wrT 55 54 2 (wrT 55 54 2 M1 n (bt4 a)) (n + 4) (bt4 b)) (n + 8) (bt4 c)) (n + 12) (bt4 d)) (n + 16) (bt4 e) = wrT 55 54 2 M1 n B := by
    rw [← hB, wr_app, wr_app, wr_app, wr_app]
    rfl
  rw [eB]
  have z2 := wr_co (fo := 2) hne2 B M1 n e54
  refine t_X13_feed_43 ⟨by rw [z2], wr_fr (fun _ => rfl) rfl _ _ _ _ f1, ?_⟩
  have g : Fr (fun c i => c == 55 || (c == 54 && i == 2)) M1 (wrT 55 54 2 M1 n B) := wr_fr (fun _ => rfl) rfl _ _ _ _ Fr.rf
  have y1 : gI (wrT 55 54 2 M1 n B) 1 0 = nI (n + 20) := by rw [g.1 1 0 rfl, ← hM1, z1, hBl]
  refine ⟨by rw [y1, z2, hBl], by rw [y1, i_nI (by omega)]; omega, fun k hk => ?_⟩
  rw [y1, i_nI (by omega)] at hk
  rw [g.1 2 k rfl]
  have r1 : Fr (fun c i => c == 2 || (c == 1 && i == 0)) M M1 := by rw [← hM1]; exact wr_fr (fun _ => rfl) rfl _ _ _ _ Fr.rf
  by_cases hkn : k < n
  · rw [wr_low hne2 _ _ _ _ hkn, r1.1 55 k rfl, ← hM1, wr_low hne _ _ _ _ hkn]
    exact h3 k (by omega)
  · obtain ⟨j, rfl⟩ : ∃ j, k = n + j := ⟨k - n, by omega⟩
    rw [wr_at hne2 _ _ _ j (by omega), ← hM1, wr_at hne _ _ _ j (by omega)]
    refine ⟨rfl, hBr _ ?_⟩
    have hj : j < B.length := by omega
    rw [List.getD_eq_getElem?_getD, List.getElem?_eq_getElem hj]
    exact List.getElem_mem hj
end Feed
