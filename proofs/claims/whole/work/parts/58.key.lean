/-! KEY: class -/
def RScore (M : Mem) : Prop := gI M 9 4 = gI M 54 10 ∧ (0 ≤ (gI M 9 4).toInt ∧ (gI M 9 4).toInt ≤ 160) ∧
  (∀ a : Nat, (a : Int) < (gI M 9 4).toInt → (gI M 10 a = gI M 56 a ∧ gI M 11 a = gI M 57 a ∧ gI M 12 a = gI M 58 a ∧ gI M 13 a = gI M 59 a) ∧ (0 ≤ (gI M 10 a).toInt ∧ (gI M 10 a).toInt ≤ 999) ∧ (0 ≤ (gI M 11 a).toInt ∧ (gI M 11 a).toInt ≤ 47) ∧ (1 ≤ (gI M 12 a).toInt ∧ (gI M 12 a).toInt ≤ 16) ∧ (0 ≤ (gI M 13 a).toInt ∧ (gI M 13 a).toInt ≤ 2)) ∧
  ∀ a b : Nat, a ≤ b → (b : Int) < (gI M 9 4).toInt → (gI M 10 a).toInt ≤ (gI M 10 b).toInt
def okB (M : Mem) (d k b : Int32) : Prop := (0 ≤ b.toInt ∧ b.toInt ≤ 47) ∧ thr M b d k
noncomputable def LB (M : Mem) (d k : Int32) (b : Int32) : Bool := @decide (okB M d k b) (Classical.propDecidable _)
theorem LB_t {M : Mem} {d k b : Int32} : LB M d k b = true ↔ okB M d k b := by
  unfold LB
  exact @decide_eq_true_iff _ (Classical.propDecidable _)
/-- how many are left out, how many go an octave off -/
def kc (L : Int32 → Bool) (bell : Nat → Int32) (m : Int32) : Nat → Nat → Nat × Nat
  | 0, _ => (0, 0)
  | j + 1, i => if L (bell i + m) = true then kc L bell m j (i + 1) else if (L (bell i + m + 12) || L (bell i + m - 12)) = true then ((kc L bell m j (i + 1)).1, (kc L bell m j (i + 1)).2 + 1) else ((kc L bell m j (i + 1)).1 + 1, (kc L bell m j (i + 1)).2)
theorem kc_le (L : Int32 → Bool) (bell : Nat → Int32) (m : Int32) : ∀ (j i : Nat), (kc L bell m j i).1 + (kc L bell m j i).2 ≤ j
  | 0, _ => by simp [kc]
  | j + 1, i => by
    have := kc_le L bell m j (i + 1)
    unfold kc
    split
    · omega
    · split
      · simp only; omega
      · simp only; omega
section Key
variable {l : Launch} {D : va_G} {ad : Nat → Nat} {kA : Nat → ClassId} {Q : Outcome → Mem → Prop}
/-- the row of BELLS that lie there -/
def lyOk (L : Int32 → Bool) (M : Mem) : Prop := ∀ b : Nat, b < 48 → (gI M 51 b = 0 ∨ gI M 51 b = 1) ∧ (gI M 51 b = 1 ↔ L (nI b) = true)
theorem lying0 {L : Int32 → Bool} {M : Mem} (hL : ∀ b, L b = true → 0 ≤ b.toInt ∧ b.toInt ≤ 47) (h : lyOk L M) (x : Int32) : v_X2_isLying M x = 0 ↔ L x = false := by
  unfold v_X2_isLying
  by_cases c : v_X11_isBell x = 0
  · rw [if_pos c]
    rw [bell0] at c
    simp only [true_iff]
    cases q : L x with
    | false => rfl
    | true => have := hL x q; omega
  · rw [if_neg c]
    rw [bell0] at c
    obtain ⟨n, rfl, h2, h3⟩ := i_nat (x := x) (by omega)
    rw [nI_clamp (by omega)]
    obtain ⟨g1, g2⟩ := h n (by omega)
    by_cases q : gI M 51 n = 0
    · rw [if_pos q]
      simp only [true_iff]
      cases r : L (nI n) with
      | false => rfl
      | true => rw [← g2, q] at r; exact absurd r (by decide)
    · rw [if_neg q]
      have q1 : gI M 51 n = 1 := by rcases g1 with z | z; exact absurd z q; exact z
      rw [g2.mp q1]
      decide
theorem lying_g {M : Mem} {x : Int32} : g_X2_isLying M x := by
  intro c
  rw [bell0] at c
  exact vin_of (by omega) (by omega)
theorem lp_tryMove {L : Int32 → Bool} {M : Mem} {m least : Int32} (hL : ∀ b, L b = true → 0 ≤ b.toInt ∧ b.toInt ≤ 47) (hy : lyOk L M) (hs : 0 ≤ (gI M 9 4).toInt ∧ (gI M 9 4).toInt ≤ 160) : ∀ (j i o c : Nat), (i : Int) + j = (gI M 9 4).toInt → o + c ≤ i →
    (∀ O C : Nat, O = o + (kc L (gI M 11) m j i).1 → C = c + (kc L (gI M 11) m j i).2 → nI (C + 3 * O) < least → Q (.returned (some (.int (nI (C + 3 * O))))) (sI (sI (sI M 44 4 m) 44 5 (nI O)) 44 6 (nI C))) →
    (∀ O C : Nat, O = o + (kc L (gI M 11) m j i).1 → C = c + (kc L (gI M 11) m j i).2 → ¬ nI (C + 3 * O) < least → Q (.returned (some (.int least))) M) →
    Fw l D ad kA mX2_tryMove 8 [some (.ref (ad 44)), some (.int m), some (.int least), some (.int (nI o)), some (.int (nI c)), some (.int (nI i)), none, none] [] M Q := by
  intro j
  induction j with
  | zero =>
    intro i o c hi hoc K1 K2
    have hle : gI M 9 4 ≤ nI i := by rw [i_le, i_nI (by omega)]; omega
    have e : nI c + nI o * 3 = nI (c + 3 * o) := by
      rw [show (3 : Int32) = nI 3 from rfl, pk_mul, nI_add, Nat.mul_comm]
    refine t_X2_tryMove_8 (fun q => absurd hle q) (fun q => absurd hle q) (fun q => absurd hle q) (fun q => absurd hle q) (fun _ q => ?_) (fun _ q => ?_) (fun q => absurd hle q) (fun q => absurd hle q)
    · rw [e] at q ⊢
      exact K1 o c (by simp [kc]) (by simp [kc]) q
    · rw [e] at q
      exact K2 o c (by simp [kc]) (by simp [kc]) q
  | succ j ih =>
    intro i o c hi hoc K1 K2
    have hnle : ¬ gI M 9 4 ≤ nI i := by rw [i_le, i_nI (by omega)]; omega
    have hin : vp_in (nI i) 160 := vin_of (by rw [i_nI (by omega)]; omega) (by rw [i_nI (by omega)]; omega)
    have hcl : (nI i).toNatClampNeg = i := nI_clamp (by omega)
    refine t_X2_tryMove_8 (fun _ => hin) (fun _ => lying_g) (fun _ _ => lying_g) (fun _ _ _ => lying_g) (fun q => absurd q hnle) (fun q => absurd q hnle) (fun _ q => ?_) (fun _ q => ?_)
    · rw [hcl, lying0 hL hy] at q
      have q1 : L (gI M 11 i + m) = true := by simpa using q
      have e : kc L (gI M 11) m (j + 1) i = kc L (gI M 11) m j (i + 1) := by rw [kc, if_pos q1]
      rw [e] at K1 K2
      rw [nI_1]
      exact ih (i + 1) o c (by omega) (by omega) K1 K2
    · rw [hcl, lying0 hL hy] at q
      have q1 : ¬ L (gI M 11 i + m) = true := by rw [q]; decide
      rw [hcl]
      refine t_X2_tryMove_74 ?_
      by_cases r : (L (gI M 11 i + m + 12) || L (gI M 11 i + m - 12)) = true
      · have e : kc L (gI M 11) m (j + 1) i = ((kc L (gI M 11) m j (i + 1)).1, (kc L (gI M 11) m j (i + 1)).2 + 1) := by rw [kc, if_neg q1, if_pos r]
        rw [e] at K1 K2
        have ev : (if v_X2_isLying M (gI M 11 i + m + 12) = 0 then if v_X2_isLying M (gI M 11 i + m - 12) = 0 then (0 : Int32) else 1 else 1) = 1 := by
          by_cases r1 : v_X2_isLying M (gI M 11 i + m + 12) = 0
          · rw [if_pos r1]
            by_cases r2 : v_X2_isLying M (gI M 11 i + m - 12) = 0
            · rw [lying0 hL hy] at r1 r2
              rw [r1, r2] at r; cases r
            · rw [if_neg r2]
          · rw [if_neg r1]
        rw [ev, if_neg (by decide), if_neg (by decide), nI_1, nI_1]
        have z : nI o + 0 = nI o := by rw [show (0 : Int32) = nI 0 from rfl, nI_add]; rfl
        rw [z]
        exact ih (i + 1) o (c + 1) (by omega) (by omega) (fun O C hO hC => K1 O C hO (by rw [hC]; simp only; omega)) (fun O C hO hC => K2 O C hO (by rw [hC]; simp only; omega))
      · have e : kc L (gI M 11) m (j + 1) i = ((kc L (gI M 11) m j (i + 1)).1 + 1, (kc L (gI M 11) m j (i + 1)).2) := by rw [kc, if_neg q1, if_neg r]
        rw [e] at K1 K2
        have ev : (if v_X2_isLying M (gI M 11 i + m + 12) = 0 then if v_X2_isLying M (gI M 11 i + m - 12) = 0 then (0 : Int32) else 1 else 1) = 0 := by
          have r' : L (gI M 11 i + m + 12) = false ∧ L (gI M 11 i + m - 12) = false := by simpa using r
          rw [if_pos ((lying0 hL hy _).mpr r'.1), if_pos ((lying0 hL hy _).mpr r'.2)]
        rw [ev, if_pos rfl, if_pos rfl, nI_1, nI_1]
        have z : nI c + 0 = nI c := by rw [show (0 : Int32) = nI 0 from rfl, nI_add]; rfl
        rw [z]
        exact ih (i + 1) (o + 1) c (by omega) (by omega) (fun O C hO hC => K1 O C (by rw [hO]; simp only; omega) hC) (fun O C hO hC => K2 O C (by rw [hO]; simp only; omega) hC)
end Key
