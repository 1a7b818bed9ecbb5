/-! part, cover: the pairs -/
theorem RWeighed.fr {S : Nat → Nat → Bool} {M M' : Mem} (h : RWeighed M) (hf : Fr S M M') (hS : ∀ i, S 56 i = false ∧ S 57 i = false ∧ S 58 i = false ∧ S 59 i = false ∧ S 65 i = false) (h10 : S 54 10 = false) (h11 : S 22 11 = false) (h26 : ∀ i, S 26 i = false) : RWeighed M' := by
  obtain ⟨e1, e2, e3, e4⟩ := pure_fr hf hS h10
  unfold RWeighed
  rw [hf.1 22 11 h11, e1, hf.1 65 1 (hS 1).2.2.2.2]
  intro c i n a1 a2 a3 a4
  rw [hf.1 26 _ (h26 _), e4]
  exact h c i n a1 a2 a3 a4
theorem RWeighed.new {S : Nat → Nat → Bool} {M M' : Mem} (hf : Fr S M M') (hS : ∀ i, S 56 i = false ∧ S 57 i = false ∧ S 58 i = false ∧ S 59 i = false ∧ S 65 i = false) (h10 : S 54 10 = false) (h : ∀ i n : Nat, i < (ub M).length → 1 ≤ n → (n : Int) ≤ (gI M 65 1).toInt → i + n ≤ (ub M).length → gI M' 26 (i * 13 + n) = nE (PP M i (i + n))) : RWeighed M' := by
  obtain ⟨e1, e2, e3, e4⟩ := pure_fr hf hS h10
  unfold RWeighed
  rw [e1, hf.1 65 1 (hS 1).2.2.2.2]
  intro _ i n a1 a2 a3 a4
  rw [e4]
  exact h i n a1 a2 a3 a4
theorem stR_congr {M M' : Mem} {x : Int32} {t : Nat} (h : ∀ i, gI M' 52 i = gI M 52 i) : stR M' x t = stR M x t := by
  unfold stR
  congr 1
  funext r
  rw [h]
theorem uu_of {M : Mem} {b : Nat} (hb : b < 48) (h : usedM M (nI b)) : ∃ k, k < (ub M).length ∧ uu M k = b := by
  have hm : b ∈ ub M := List.mem_filter.mpr ⟨List.mem_range.mpr hb, uB_t.mpr h⟩
  obtain ⟨k, hk, e⟩ := List.getElem_of_mem hm
  exact ⟨k, hk, by rw [uu_get hk, e]⟩
theorem uu_used {M : Mem} {k : Nat} (hk : k < (ub M).length) : usedM M (nI (uu M k)) := by
  rw [uu_get hk]
  exact uB_t.mp (List.mem_filter.mp (List.getElem_mem hk)).2
theorem usedM_fr {M M' : Mem} (h1 : gI M' 54 10 = gI M 54 10) (h2 : ∀ i, gI M' 57 i = gI M 57 i) (b : Int32) : usedM M' b ↔ usedM M b := by
  unfold usedM
  rw [h1]
  constructor
  · exact fun ⟨a, q1, q2⟩ => ⟨a, q1, by rw [← h2]; exact q2⟩
  · exact fun ⟨a, q1, q2⟩ => ⟨a, q1, by rw [h2]; exact q2⟩
def sPart (c i : Nat) : Bool := c == 26 || c == 19 || c == 20 || (c == 17 && (i == 5 || i == 7)) || (c == 22 && (i == 4 || i == 6 || i == 11)) || c == 27 || c == 23 || c == 25 || c == 73 || (c == 54 && (i == 40 || i == 41 || i == 31 || i == 26)) || c == 74 || c == 79 || c == 75 || c == 69 || c == 70 || c == 76 || c == 77 || c == 78 || c == 68
/-- without the model's parting -/
def sPart0 (c i : Nat) : Bool := c == 26 || c == 19 || c == 20 || (c == 17 && (i == 5 || i == 7)) || (c == 22 && (i == 4 || i == 6 || i == 11)) || c == 27 || c == 23 || c == 25 || c == 73 || (c == 54 && (i == 40 || i == 41 || i == 31)) || c == 74 || c == 79 || c == 75 || c == 69 || c == 70 || c == 76 || c == 77 || c == 78
theorem takes_in {x : Nat × Nat × Nat} (h : small3 x) : v_X7_takesIn (nI (enc3 x)) = nI x.2.1 ∧ v_X7_changesIn (nI (enc3 x)) = nI x.1 := by
  have he := enc_small h
  obtain ⟨h1, h2, h3⟩ := h
  have e : enc3 x = x.1 * 100000 + x.2.1 * 100 + x.2.2 := rfl
  have d1 : enc3 x / 100000 = x.1 := by omega
  unfold v_X7_takesIn v_X7_changesIn
  rw [show (100000 : Int32) = nI 100000 from rfl, show (100 : Int32) = nI 100 from rfl, nI_div (by omega) (by omega), d1, nI_mul]
  refine ⟨?_, rfl⟩
  have e2 : nI (enc3 x) - nI (x.1 * 100000) = nI (x.2.1 * 100 + x.2.2) := by
    rw [i_eq, sub_nI (by omega) (by omega), i_nI (by omega)]; omega
  rw [e2, nI_div (by omega) (by omega)]
  exact congrArg nI (by omega)
section Part2
variable {l : Launch} {D : va_G} {ad : Nat → Nat} {kA : Nat → ClassId} {M : Mem} {Q : Outcome → Mem → Prop}
/-- the model's side from the forgotten or copied partings on -/
theorem md_find {Ms M4 : Mem} {h : Nat → Nat → Nat → Nat} {off : Nat → Nat} {R : List Nat} (hk : okW Ms) (hub : Fr sPart0 Ms M4) (ht12 : R.length ≤ 12) (h40 : gI M4 54 40 = nI (ub Ms).length) (h73 : Row M4 73 (ub Ms)) (h41 : gI M4 54 41 = nI R.length) (h74 : Row M4 74 R) (h25 : Row Ms 25 R) (h10 : (szM Ms : Int) = (gI Ms 54 10).toInt) (hR : okR (ub Ms).length (PP Ms) h (nSt Ms)) (ho1 : ∀ i, off i ≤ 48) (ho2 : off (ub Ms).length = 0) (hch : ∀ r i j, r < R.length → i ≤ j → j ≤ (ub Ms).length → chN (gI M4 79) (gI M4 74 r) (j - i) i + off j = h r i j + off i)
    (K0 : GG (ub Ms).length R.length (PP Ms) h R.length 0 = none → ∀ M', Fr sFR M4 M' → Q (.returned (some (.int 0))) M')
    (K1 : ∀ x, GG (ub Ms).length R.length (PP Ms) h R.length 0 = some x → ∀ M', Fr sFR M4 M' → (∀ Q', (∀ M'', Fr sTR M' M'' → gI M'' 54 26 = 1 → (∀ k, k < (ub Ms).length → gI M'' 68 (uu Ms k) = ArrR (nnR Ms R.length h) (gI Ms 25) R.length 0 0 k) → (∀ b, b < 48 → (∀ k, k < (ub Ms).length → ¬ uu Ms k = b) → gI M'' 68 b = (-1)) → gI M'' 77 0 = nI x.2.1 → gI M'' 76 0 = nI (x.1 + off 0) → Q' (.returned none) M'') → Cal l D ad kA mX13_takeRanges [.ref (ad 54)] M' Q') → Q (.returned (some (.int 1))) M') : Cal l D ad kA mX13_findRanges [.ref (ad 54)] M4 Q := by
  obtain ⟨e1, e2, e3, e4⟩ := pure_fr hub (fun _ => ⟨rfl, rfl, rfl, rfl, rfl⟩) rfl
  have hmost := hk.1.2.2.1
  rw [hk.1.1 1 (by omega)] at hmost
  have hM4 : okM M4 := by
    refine ⟨by rw [hub.1 65 1 rfl]; exact hmost, by rw [e1]; exact h40, by rw [e1]; exact h73, by rw [e3]; exact hk.2.2.2.1.1, by rw [e3, hub.1 54 10 rfl]; exact h10, ?_⟩
    rw [e3]; intro a ha; rw [hub.1 57 a rfl]; exact hk.2.2.2.2.2 a ha
  refine ct_findRanges hM4 e1 e4 hR ht12 h41 ho1 ho2 hch (fun M5 hf5 kG ht => ?_)
  cases hg : GG (ub Ms).length R.length (PP Ms) h R.length 0 with
  | none =>
    rw [if_pos rfl]
    exact K0 hg M5 hf5
  | some y =>
    rw [if_neg (by intro z; cases z)]
    refine K1 y hg M5 hf5 (fun Q' k' => ?_)
    refine ct_takeRanges kG hmost.1 (fun k hk' => by rw [hf5.1 73 k rfl, uu_get hk']; exact h73.at hk') ht (by rw [hg]; intro z; cases z) (fun M6 hf6 g26 hA hB => ?_)
    have tb0 := ht 0 (by omega) 0 (by omega)
    unfold tblOk at tb0
    rw [Nat.sub_zero] at tb0
    obtain ⟨u1, u2, u3⟩ := tb0.1 y hg
    refine k' M6 hf6 g26 (fun k hk' => ?_) hB (by rw [hf6.1 77 _ rfl]; exact u2) (by rw [hf6.1 76 _ rfl]; exact u1)
    rw [hA k hk']
    refine ArrR_congr _ _ _ _ (fun a a1 a2 => ?_)
    rw [hf5.1 74 a rfl, h74.at (i := a) (by omega), h25.at (i := a) (by omega)]
end Part2
