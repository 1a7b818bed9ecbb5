/-! HANDS in the model -/
/-- the model's row of STROKES in question -/
def OwnM (M : Mem) (L : List Nat) (s : Nat) : Prop := gI M 54 31 = nI L.length ∧ Row M 69 L ∧ L.length ≤ 160 ∧ s ≤ 160 ∧ ∀ a ∈ L, a < s
def fce (n h q : Nat) : Nat := (n * 2 + h) * 161 + q
theorem v_cell {n h q : Nat} : v_X13_cell (nI n) (nI h) (nI q) = nI (fce n h q) := by
  unfold v_X13_cell fce
  rw [show (2 : Int32) = nI 2 from rfl, show (161 : Int32) = nI 161 from rfl, nI_mul, nI_add, nI_mul, nI_add]
theorem fce_lt {n h q : Nat} (hn : n ≤ 160) (hh : h < 2) (hq : q ≤ 160) : fce n h q < 51842 := by
  unfold fce; omega
theorem fce_inj {n h q n' h' q' : Nat} (hh : h < 2) (hh' : h' < 2) (hq : q ≤ 160) (hq' : q' ≤ 160) (e : fce n h q = fce n' h' q') : n = n' ∧ h = h' ∧ q = q' := by
  unfold fce at e; omega
theorem ixN {i n : Nat} (h : i < n) (hn : n < 2147483648) : vp_in (nI i) n := vin_of (by rw [i_nI (by omega)]; omega) (by rw [i_nI (by omega)]; omega)
theorem OwnM.at {M : Mem} {L : List Nat} {s : Nat} (h : OwnM M L s) {i : Nat} (hi : i < L.length) : gI M 69 i = nI L[i] ∧ L[i] < s := ⟨h.2.1.at hi, h.2.2.2.2 _ (List.getElem_mem hi)⟩
/-- a place in the row, or 160 for nothing yet -/
def posOk (L : List Nat) (p : Nat) : Prop := p = 160 ∨ p < L.length
theorem n160 : (160 : Int32) = nI 160 := rfl
theorem get160 {M : Mem} {L : List Nat} {s : Nat} (h : OwnM M L s) : L[160]? = none := List.getElem?_eq_none h.2.2.1
theorem inO_pos {L : List Nat} {s : Nat} (h : ∀ a ∈ L, a < s) (p : Nat) : inO s L[p]? := by
  by_cases hp : p < L.length
  · rw [List.getElem?_eq_getElem hp]; exact h _ (List.getElem_mem hp)
  · rw [List.getElem?_eq_none (by omega)]; exact trivial
section DeftM
variable {M : Mem} {L : List Nat} {s : Nat}
theorem v_go (h : OwnM M L s) {p n : Nat} (hp : posOk L p) (hn : n < L.length) : v_X13_go M (nI p) (nI n) = nI (mo (mvP M) L[p]? L[n]) := by
  have h4 := h.2.2.1
  have h5 := h.2.2.2.1
  unfold v_X13_go
  rcases hp with rfl | hp
  · rw [get160 h]; exact if_pos rfl
  · obtain ⟨e1, l1⟩ := h.at hp
    obtain ⟨e2, l2⟩ := h.at hn
    rw [if_neg (by rw [n160, nI_eq (by omega) (by omega)]; omega), nI_clamp (by omega), nI_clamp (by omega), e1, e2, nI_clamp (by omega), nI_clamp (by omega), goN_mv, List.getElem?_eq_getElem hp]
    rfl
theorem g_go (h : OwnM M L s) {p n : Nat} (hp : posOk L p) (hn : n < L.length) : g_X13_go M (nI p) (nI n) := by
  have h4 := h.2.2.1
  have h5 := h.2.2.2.1
  intro c
  rcases hp with rfl | hp
  · exact absurd rfl c
  · obtain ⟨e1, l1⟩ := h.at hp
    obtain ⟨e2, l2⟩ := h.at hn
    rw [nI_clamp (by omega), nI_clamp (by omega), e1, e2]
    exact ⟨⟨ix (by omega), ix (by omega)⟩, ix (by omega), ix (by omega)⟩
theorem v_held (h : OwnM M L s) (hb : ∀ a, a < s → 0 ≤ (gI M 57 a).toInt) {q n : Nat} (hq : posOk L q) (hn : n < L.length) : v_X13_heldBell M (nI q) = gI M 57 L[n] ↔ ho (hlP M) L[q]? L[n] = true := by
  have h4 := h.2.2.1
  have h5 := h.2.2.2.1
  obtain ⟨e2, l2⟩ := h.at hn
  have hb2 := hb _ l2
  have hne : ¬ (-1) = gI M 57 L[n] := by rw [i_eq, nm1]; omega
  unfold v_X13_heldBell
  rcases hq with rfl | hq
  · rw [get160 h]
    have : ¬ ho (hlP M) none L[n] = true := by show ¬ false = true; decide
    constructor
    · intro z; exact absurd ((if_pos rfl).symm.trans z) hne
    · intro z; exact absurd z this
  · obtain ⟨e1, l1⟩ := h.at hq
    rw [if_neg (by rw [n160, nI_eq (by omega) (by omega)]; omega), nI_clamp (by omega), e1, nI_clamp (by omega), List.getElem?_eq_getElem hq]
    show _ ↔ hlP M L[q] L[n] = true
    unfold hlP
    rw [decide_eq_true_iff]
    by_cases c : gI M 59 L[q] = 1
    · rw [if_pos c]
      exact ⟨fun z => absurd z hne, fun z => absurd c z.1⟩
    · rw [if_neg c]
      exact ⟨fun z => ⟨c, z⟩, fun z => z.2⟩
theorem g_held (h : OwnM M L s) {q : Nat} (hq : posOk L q) : g_X13_heldBell M (nI q) := by
  have h4 := h.2.2.1
  have h5 := h.2.2.2.1
  rcases hq with rfl | hq
  · exact ⟨fun c => absurd rfl c, fun c => absurd rfl c⟩
  · obtain ⟨e1, l1⟩ := h.at hq
    exact ⟨fun _ => ix (by omega), fun _ => by rw [nI_clamp (by omega), e1]; exact ix (by omega)⟩
/-- a cell of the model's table is right -/
def ck (M M' : Mem) (L : List Nat) (n h q : Nat) : Prop := gI M' 70 (fce n h q) = nI (min 1000000 (Ff (mvP M) (hlP M) L[n - 1]? L[q]? (L.drop n)))
/-- one road of the model's step -/
def tb (M : Mem) (L : List Nat) (n p q : Nat) : Nat := if hn : n < L.length then (if ho (hlP M) L[q]? L[n] = true then 1000000 else if mo (mvP M) L[p]? L[n] < 1000000 then mo (mvP M) L[p]? L[n] + min 1000000 (Ff (mvP M) (hlP M) L[n]? L[q]? (L.drop (n + 1))) else 1000000) else 0
theorem v_takesBy (h : OwnM M L s) (hb : ∀ a, a < s → 0 ≤ (gI M 57 a).toInt) {n hd p q : Nat} (hn : n < L.length) (hh : hd < 2) (hp : posOk L p) (hq : posOk L q) (hc : ck M M L (n + 1) hd q) : v_X13_takesBy M (nI n) (nI hd) (nI p) (nI q) = nI (tb M L n p q) ∧ g_X13_takesBy M (nI n) (nI hd) (nI p) (nI q) := by
  have h4 := h.2.2.1
  have h5 := h.2.2.2.1
  obtain ⟨e2, l2⟩ := h.at hn
  have hq2 : q ≤ 160 := by rcases hq with z | z <;> omega
  have hce := fce_lt (n := n + 1) (h := hd) (q := q) (by omega) hh hq2
  have hm : mo (mvP M) L[p]? L[n] ≤ 1000000 := by rcases mo_rng (okP M) L[p]? L[n] with z | z | z <;> omega
  constructor
  · unfold v_X13_takesBy tb
    rw [nI_clamp (by omega), e2, nI_clamp (by omega), dif_pos hn, v_go h hp hn, nI_1, v_cell, nI_clamp (by omega)]
    unfold ck at hc
    rw [hc, show n + 1 - 1 = n by omega]
    by_cases c1 : ho (hlP M) L[q]? L[n] = true
    · rw [if_pos c1, if_pos ((v_held h hb hq hn).mpr c1)]; rfl
    · rw [if_neg c1, if_neg (fun z => c1 ((v_held h hb hq hn).mp z)), show (1000000 : Int32) = nI 1000000 from rfl]
      by_cases c2 : mo (mvP M) L[p]? L[n] < 1000000
      · rw [if_pos c2, if_pos ((nI_ltI (by omega) (by omega)).mpr c2), nI_add]
      · rw [if_neg c2, if_neg (fun z => c2 ((nI_ltI (by omega) (by omega)).mp z))]
  · refine ⟨g_held h hq, ix (by omega), by rw [nI_clamp (by omega), e2]; exact ix (by omega), fun _ => g_go h hp hn, fun _ _ => ?_⟩
    rw [nI_1, v_cell]
    exact ixN hce (by omega)
theorem tb_le (n p q : Nat) : tb M L n p q ≤ 1000001 := by
  unfold tb
  split
  · rename_i hn
    have r := mo_rng (okP M) L[p]? L[n]
    split
    · omega
    · split <;> omega
  · omega
theorem tb_min {n p q : Nat} (hn : n < L.length) : min 1000000 (min (tb M L n p q) (tb M L n q p)) = min 1000000 (Ff (mvP M) (hlP M) L[p]? L[q]? (L.drop n)) := by
  unfold tb
  rw [dif_pos hn, dif_pos hn, List.drop_eq_getElem_cons hn, List.getElem?_eq_getElem hn]
  show _ = min 1000000 (min (cs (mvP M) (hlP M) L[p]? L[q]? L[n] + Ff (mvP M) (hlP M) (some L[n]) L[q]? (L.drop (n + 1))) (cs (mvP M) (hlP M) L[q]? L[p]? L[n] + Ff (mvP M) (hlP M) (some L[n]) L[p]? (L.drop (n + 1))))
  unfold cs
  have r1 := mo_rng (okP M) L[p]? L[n]
  have r2 := mo_rng (okP M) L[q]? L[n]
  generalize Ff (mvP M) (hlP M) (some L[n]) L[q]? (L.drop (n + 1)) = f1
  generalize Ff (mvP M) (hlP M) (some L[n]) L[p]? (L.drop (n + 1)) = f2
  generalize mo (mvP M) L[p]? L[n] = m1 at r1 ⊢
  generalize mo (mvP M) L[q]? L[n] = m2 at r2 ⊢
  have a1 : ∀ (b : Bool) (m f : Nat), (m = 0 ∨ m = 1 ∨ m = 1000000) → min 1000000 (if b = true then 1000000 else if m < 1000000 then m + min 1000000 f else 1000000) = min 1000000 ((if b = true then 1000000 else m) + f) := by
    intro b m f r
    cases b with
    | true => simp only [if_true]; omega
    | false =>
      simp only [Bool.false_eq_true, if_false]
      split <;> omega
  have a2 := a1 (ho (hlP M) L[q]? L[n]) m1 f1 r1
  have a3 := a1 (ho (hlP M) L[p]? L[n]) m2 f2 r2
  omega
theorem v_takesFrom (h : OwnM M L s) (hb : ∀ a, a < s → 0 ≤ (gI M 57 a).toInt) {n hd p q : Nat} (hn : n ≤ L.length) (hh : hd < 2) (hp : posOk L p) (hq : posOk L q) (hc : n < L.length → ck M M L (n + 1) hd q ∧ ck M M L (n + 1) (1 - hd) p) : v_X13_takesFrom M (nI n) (nI hd) (nI p) (nI q) = nI (min 1000000 (Ff (mvP M) (hlP M) L[p]? L[q]? (L.drop n))) ∧ g_X13_takesFrom M (nI n) (nI hd) (nI p) (nI q) := by
  have h4 := h.2.2.1
  have h5 := h.2.2.2.1
  unfold v_X13_takesFrom g_X13_takesFrom
  rw [h.1]
  by_cases c : n = L.length
  · subst c
    refine ⟨?_, fun z => absurd rfl z, fun z => absurd rfl z⟩
    rw [if_pos rfl, List.drop_of_length_le (Nat.le_refl _)]
    rfl
  · have hn2 : n < L.length := by omega
    have e1 : (1 : Int32) - nI hd = nI (1 - hd) := by
      rcases (show hd = 0 ∨ hd = 1 by omega) with z | z <;> subst z <;> decide
    obtain ⟨c1, c2⟩ := hc hn2
    obtain ⟨t1, g1⟩ := v_takesBy h hb hn2 hh hp hq c1
    obtain ⟨t2, g2⟩ := v_takesBy h hb hn2 (show 1 - hd < 2 by omega) hq hp c2
    have b1 := tb_le (M := M) (L := L) n p q
    have b2 := tb_le (M := M) (L := L) n q p
    rw [e1, t1, t2, show (1000000 : Int32) = nI 1000000 from rfl, imin_nI (by omega) (by omega), imin_nI (by omega) (by omega), tb_min hn2]
    refine ⟨if_neg (by rw [nI_eq (by omega) (by omega)]; exact c), fun _ => g1, fun _ => g2⟩
end DeftM
