/-! WORDS: a token against a String constant, class and model -/
def wB (w : Nat) : List Int32 := scB.getD w []
def mt (b : Nat → Int32) : Nat → List Int32 → Bool
  | _, [] => true
  | s, c :: cs => decide (b s = c) && mt b (s + 1) cs
/-- the token of that kind, from s to e, is the WORD w -/
def isWd (b : Nat → Int32) (k s e w : Nat) : Bool := decide (k = 1) && (decide (e - s = (wB w).length) && mt b s (wB w))
theorem wl_len : ∀ w, w < 15 → v_J0_length_8abf5 w = nI (wB w).length := by decide +kernel
theorem wl_small : ∀ w, w < 15 → (wB w).length ≤ 5 := by decide +kernel
theorem wl_chr : ∀ w, w < 15 → ∀ k, k < (wB w).length → v_J0_charAt_5068e w (nI k) = (wB w).getD k 0 := by decide +kernel
section Words
variable {l : Launch} {D : va_G} {ad : Nat → Nat} {kA : Nat → ClassId} {M : Mem} {Q : Outcome → Mem → Prop}
theorem z01' {p : Bool} : (if p = true then (1 : Int32) else 0) = 0 ∨ (if p = true then (1 : Int32) else 0) = 1 := by cases p <;> simp
theorem chr_g {w i : Nat} (hi : i < (wB w).length) (hw : w < 15) : g_J0_charAt_5068e M w (nI i) := by
  have := wl_small w hw
  exact vin_of (by rw [i_nI (by omega)]; omega) (by rw [i_nI (by omega)]; show (i : Int) < ((wB w).length : Nat); omega)
theorem lp_isWord {w n s : Nat} (hw : w < 15) (hn : n ≤ 1200) (h0 : gI M 1 0 = nI n) (h6 : gI M 1 6 = nI s) (hs : s + (wB w).length ≤ n) : ∀ (cs : List Int32) (i : Nat) (p : Bool), i ≤ (wB w).length → (wB w).drop i = cs → Q (.returned (some (.int (if (p && mt (gI M 2) (s + i) cs) = true then 1 else 0)))) M →
    Fw l D ad kA mX10_isWord 32 [some (.ref (ad 1)), some (.ref (ad (210 + w))), some (.int (if p = true then 1 else 0)), some (.int (nI i))] [] M Q := by
  have hsm := wl_small w hw
  intro cs
  induction cs with
  | nil =>
    intro i p hi hd K
    have hil : (wB w).length ≤ i := List.drop_eq_nil_iff.mp hd
    have hle : v_J0_length_8abf5 w ≤ nI i := by rw [wl_len w hw, i_le, i_nI (by omega), i_nI (by omega)]; omega
    have K' : Q (.returned (some (.int (if p = true then 1 else 0)))) M := by
      have e : (p && mt (gI M 2) (s + i) []) = p := by simp [mt]
      rw [e] at K; exact K
    exact t_X10_isWord_32 hw (fun _ => z01') (fun _ _ => z01') (fun _ c => absurd hle c) (fun _ c => absurd hle c) (fun _ => K') (fun _ _ => K') (fun _ c => absurd hle c)
  | cons c cs ih =>
    intro i p hi hd K
    have hlt : i < (wB w).length := by
      rcases Nat.lt_or_ge i (wB w).length with q | q
      · exact q
      · rw [List.drop_eq_nil_iff.mpr q] at hd; cases hd
    have hnle : ¬ v_J0_length_8abf5 w ≤ nI i := by rw [wl_len w hw, i_le, i_nI (by omega), i_nI (by omega)]; omega
    have hd2 := List.drop_eq_getElem_cons hlt
    rw [hd] at hd2
    have hc : c = (wB w)[i] := (List.cons.inj hd2).1
    have hcs : (wB w).drop (i + 1) = cs := (List.cons.inj hd2).2.symm
    have hch : v_J0_charAt_5068e w (nI i) = c := by
      rw [wl_chr w hw i hlt, List.getD_eq_getElem?_getD, List.getElem?_eq_getElem hlt, hc]; rfl
    have hby : v_X10_byteAt M (gI M 1 6 + nI i) = gI M 2 (s + i) := by rw [h6, nI_add, byteAt_in h0 (by omega) hn]
    cases p with
    | false =>
      have K' : Q (.returned (some (.int 0))) M := by simpa using K
      exact t_X10_isWord_32 hw (fun _ => Or.inl rfl) (fun q => absurd rfl q) (fun q => absurd rfl q) (fun q => absurd rfl q) (fun _ => K') (fun q => absurd rfl q) (fun q => absurd rfl q)
    | true =>
      have n1' : ¬ (if true = true then (1 : Int32) else 0) = 0 := by decide
      refine t_X10_isWord_32 hw (fun q => absurd q n1') (fun _ _ => Or.inr rfl) (fun _ _ => chr_g hlt hw) (fun _ _ => byteAt_g) (fun q => absurd q n1') (fun _ q => absurd q hnle) (fun _ _ => ?_)
      rw [hch, hby, nI_1]
      have e : (if c = gI M 2 (s + i) then (1 : Int32) else 0) = (if decide (gI M 2 (s + i) = c) = true then 1 else 0) := by
        by_cases q : c = gI M 2 (s + i)
        · rw [if_pos q, if_pos (decide_eq_true q.symm)]
        · rw [if_neg q, if_neg (by simpa using fun z => q z.symm)]
      rw [e]
      refine ih (i + 1) _ (by omega) hcs ?_
      simp only [mt, Bool.true_and] at K
      exact K
theorem ct_isWord {w n s e k : Nat} (hw : w < 15) (h0 : gI M 1 0 = nI n) (h1 : gI M 1 1 = nI k) (h6 : gI M 1 6 = nI s) (h7 : gI M 1 7 = nI e) (hse : s ≤ e) (hen : e ≤ n) (hn : n ≤ 1200) (hk : k ≤ 4) (K : Q (.returned (some (.int (if isWd (gI M 2) k s e w = true then 1 else 0)))) M) : Cal l D ad kA mX10_isWord [.ref (ad 1), .ref (ad (210 + w))] M Q := by
  have hsm := wl_small w hw
  refine en_X10_isWord (t_X10_isWord_0 hw ?_)
  have e1 : (if gI M 1 1 = 1 then if v_J0_length_8abf5 w = gI M 1 7 - gI M 1 6 then (1 : Int32) else 0 else 0) = (if (decide (k = 1) && decide (e - s = (wB w).length)) = true then 1 else 0) := by
    rw [h1, h6, h7, wl_len w hw]
    have a1 : nI k = 1 ↔ k = 1 := by rw [i_eq, i_nI (by omega), n1]; omega
    have a2 : nI (wB w).length = nI e - nI s ↔ e - s = (wB w).length := by rw [i_eq, i_nI (by omega), nI_sub hse (by omega)]; omega
    by_cases q1 : k = 1
    · by_cases q2 : e - s = (wB w).length
      · rw [if_pos (a1.mpr q1), if_pos (a2.mpr q2), if_pos (by simp [q1, q2])]
      · rw [if_pos (a1.mpr q1), if_neg (fun z => q2 (a2.mp z)), if_neg (by simp [q2])]
    · rw [if_neg (fun z => q1 (a1.mp z)), if_neg (by simp [q1])]
  rw [e1]
  unfold isWd at K
  rw [← Bool.and_assoc] at K
  by_cases q : (decide (k = 1) && decide (e - s = (wB w).length)) = true
  · have q2 : e - s = (wB w).length := by simp at q; exact q.2
    exact lp_isWord hw hn h0 h6 (by omega) (wB w) 0 _ (Nat.zero_le _) rfl K
  · rw [if_neg q]
    have K' : Q (.returned (some (.int 0))) M := by
      have : ((decide (k = 1) && decide (e - s = (wB w).length)) && mt (gI M 2) s (wB w)) = false := by
        rw [Bool.eq_false_iff.mpr q]; rfl
      rw [this] at K; simpa using K
    exact t_X10_isWord_32 hw (fun _ => Or.inl rfl) (fun z => absurd rfl z) (fun z => absurd rfl z) (fun z => absurd rfl z) (fun _ => K') (fun z => absurd rfl z) (fun z => absurd rfl z)
theorem lp_is {w n s : Nat} (hw : w < 15) (hn : n ≤ 1200) (h4 : gI M 54 4 = nI s) (hs : s + (wB w).length ≤ n) : ∀ (cs : List Int32) (i : Nat) (p : Bool), i ≤ (wB w).length → (wB w).drop i = cs → Q (.returned (some (.int (if (p && mt (gI M 55) (s + i) cs) = true then 1 else 0)))) M →
    Fw l D ad kA mX13_is 32 [some (.ref (ad 54)), some (.ref (ad (210 + w))), some (.int (if p = true then 1 else 0)), some (.int (nI i))] [] M Q := by
  have hsm := wl_small w hw
  intro cs
  induction cs with
  | nil =>
    intro i p hi hd K
    have hil : (wB w).length ≤ i := List.drop_eq_nil_iff.mp hd
    have hle : v_J0_length_8abf5 w ≤ nI i := by rw [wl_len w hw, i_le, i_nI (by omega), i_nI (by omega)]; omega
    have K' : Q (.returned (some (.int (if p = true then 1 else 0)))) M := by
      have e : (p && mt (gI M 55) (s + i) []) = p := by simp [mt]
      rw [e] at K; exact K
    exact t_X13_is_32 hw (fun _ => z01') (fun _ _ => z01') (fun c => absurd hle c) (fun c => absurd hle c) (fun _ => K') (fun _ _ => K') (fun c => absurd hle c)
  | cons c cs ih =>
    intro i p hi hd K
    have hlt : i < (wB w).length := by
      rcases Nat.lt_or_ge i (wB w).length with q | q
      · exact q
      · rw [List.drop_eq_nil_iff.mpr q] at hd; cases hd
    have hnle : ¬ v_J0_length_8abf5 w ≤ nI i := by rw [wl_len w hw, i_le, i_nI (by omega), i_nI (by omega)]; omega
    have hd2 := List.drop_eq_getElem_cons hlt
    rw [hd] at hd2
    have hc : c = (wB w)[i] := (List.cons.inj hd2).1
    have hcs : (wB w).drop (i + 1) = cs := (List.cons.inj hd2).2.symm
    have hch : v_J0_charAt_5068e w (nI i) = c := by
      rw [wl_chr w hw i hlt, List.getD_eq_getElem?_getD, List.getElem?_eq_getElem hlt, hc]; rfl
    have hadd : gI M 54 4 + nI i = nI (s + i) := by rw [h4, nI_add]
    cases p with
    | false =>
      have K' : Q (.returned (some (.int 0))) M := by simpa using K
      exact t_X13_is_32 hw (fun q => absurd q hnle) (fun _ _ => Or.inl rfl) (fun _ q => absurd rfl q) (fun _ q => absurd rfl q) (fun q => absurd q hnle) (fun _ _ => K') (fun _ q => absurd rfl q)
    | true =>
      have n1' : ¬ (if true = true then (1 : Int32) else 0) = 0 := by decide
      refine t_X13_is_32 hw (fun q => absurd q hnle) (fun _ q => absurd q n1') (fun _ _ => by rw [hadd]; exact vin_of (by rw [i_nI (by omega)]; omega) (by rw [i_nI (by omega)]; omega)) (fun _ _ => chr_g hlt hw) (fun q => absurd q hnle) (fun _ q => absurd q n1') (fun _ _ => ?_)
      rw [hch, hadd, nI_clamp (by omega), nI_1]
      have e : (if gI M 55 (s + i) = c then (1 : Int32) else 0) = (if decide (gI M 55 (s + i) = c) = true then 1 else 0) := by
        by_cases q : gI M 55 (s + i) = c
        · rw [if_pos q, if_pos (decide_eq_true q)]
        · rw [if_neg q, if_neg (by simpa using q)]
      rw [e]
      refine ih (i + 1) _ (by omega) hcs ?_
      simp only [mt, Bool.true_and] at K
      exact K
theorem ct_is {w n s e k : Nat} (hw : w < 15) (h6 : gI M 54 6 = nI k) (h4 : gI M 54 4 = nI s) (h5 : gI M 54 5 = nI e) (hse : s ≤ e) (hen : e ≤ n) (hn : n ≤ 1200) (hk : k ≤ 4) (K : Q (.returned (some (.int (if isWd (gI M 55) k s e w = true then 1 else 0)))) M) : Cal l D ad kA mX13_is [.ref (ad 54), .ref (ad (210 + w))] M Q := by
  have hsm := wl_small w hw
  refine en_X13_is (t_X13_is_0 hw ?_)
  have e1 : (if gI M 54 6 = 1 then if gI M 54 5 - gI M 54 4 = v_J0_length_8abf5 w then (1 : Int32) else 0 else 0) = (if (decide (k = 1) && decide (e - s = (wB w).length)) = true then 1 else 0) := by
    rw [h6, h4, h5, wl_len w hw]
    have a1 : nI k = 1 ↔ k = 1 := by rw [i_eq, i_nI (by omega), n1]; omega
    have a2 : nI e - nI s = nI (wB w).length ↔ e - s = (wB w).length := by rw [i_eq, i_nI (by omega), nI_sub hse (by omega)]; omega
    by_cases q1 : k = 1
    · by_cases q2 : e - s = (wB w).length
      · rw [if_pos (a1.mpr q1), if_pos (a2.mpr q2), if_pos (by simp [q1, q2])]
      · rw [if_pos (a1.mpr q1), if_neg (fun z => q2 (a2.mp z)), if_neg (by simp [q2])]
    · rw [if_neg (fun z => q1 (a1.mp z)), if_neg (by simp [q1])]
  rw [e1]
  unfold isWd at K
  rw [← Bool.and_assoc] at K
  by_cases q : (decide (k = 1) && decide (e - s = (wB w).length)) = true
  · have q2 : e - s = (wB w).length := by simp at q; exact q.2
    exact lp_is hw hn h4 (by omega) (wB w) 0 _ (Nat.zero_le _) rfl K
  · rw [if_neg q]
    have K' : Q (.returned (some (.int 0))) M := by
      have : ((decide (k = 1) && decide (e - s = (wB w).length)) && mt (gI M 55) s (wB w)) = false := by
        rw [Bool.eq_false_iff.mpr q]; rfl
      rw [this] at K; simpa using K
    exact t_X13_is_32 hw (fun _ => Or.inl rfl) (fun _ _ => Or.inl rfl) (fun _ z => absurd rfl z) (fun _ z => absurd rfl z) (fun _ => K') (fun _ _ => K') (fun _ z => absurd rfl z)
end Words
