/-! NUMBERS of 32 bits, and frames of memory -/
theorem i_lt {x y : Int32} : x < y ↔ x.toInt < y.toInt := Int32.lt_iff_toInt_lt
theorem i_le {x y : Int32} : x ≤ y ↔ x.toInt ≤ y.toInt := Int32.le_iff_toInt_le
theorem i_eq {x y : Int32} : x = y ↔ x.toInt = y.toInt := Int32.toInt_inj.symm
theorem i_rng (x : Int32) : -2147483648 ≤ x.toInt ∧ x.toInt < 2147483648 := ⟨Int32.le_toInt x, Int32.toInt_lt x⟩
theorem i_add {x y : Int32} (h1 : -2147483648 ≤ x.toInt + y.toInt) (h2 : x.toInt + y.toInt < 2147483648) : (x + y).toInt = x.toInt + y.toInt := by
  rw [Int32.toInt_add]
  exact Int.bmod_eq_of_le (by omega) (by omega)
theorem i_sub {x y : Int32} (h1 : -2147483648 ≤ x.toInt - y.toInt) (h2 : x.toInt - y.toInt < 2147483648) : (x - y).toInt = x.toInt - y.toInt := by
  rw [Int32.toInt_sub]
  exact Int.bmod_eq_of_le (by omega) (by omega)
theorem i_mul {x y : Int32} (h1 : -2147483648 ≤ x.toInt * y.toInt) (h2 : x.toInt * y.toInt < 2147483648) : (x * y).toInt = x.toInt * y.toInt := by
  rw [Int32.toInt_mul]
  exact Int.bmod_eq_of_le (by omega) (by omega)
theorem i_nat {x : Int32} (h : 0 ≤ x.toInt) : ∃ n : Nat, x = nI n ∧ (n : Int) = x.toInt ∧ n < 2147483648 := by
  have hr := i_rng x
  refine ⟨x.toInt.toNat, ?_, by omega, by omega⟩
  rw [i_eq, nI_toInt (by omega)]
  omega
theorem i_clamp {x : Int32} (h : 0 ≤ x.toInt) : (x.toNatClampNeg : Int) = x.toInt := by
  obtain ⟨n, rfl, h2, h3⟩ := i_nat h
  rw [nI_clamp (by omega)]; exact h2
theorem i_nI {n : Nat} (h : n < 2147483648) : (nI n).toInt = n := nI_toInt (by omega)
theorem vin_of {x : Int32} {n : Nat} (h0 : 0 ≤ x.toInt) (h1 : x.toInt < n) : vp_in x n := vp_in_iff.mpr ⟨h0, h1⟩
/-- what a step leaves as it was -/
def Fr (S : Nat → Nat → Bool) (M M' : Mem) : Prop := (∀ c i, S c i = false → gI M' c i = gI M c i) ∧ ∀ c i, S c i = false → gL M' c i = gL M c i
theorem Fr.rf {S : Nat → Nat → Bool} {M : Mem} : Fr S M M := ⟨fun _ _ _ => rfl, fun _ _ _ => rfl⟩
theorem Fr.tr {S : Nat → Nat → Bool} {M M' M'' : Mem} (h : Fr S M M') (h' : Fr S M' M'') : Fr S M M'' := ⟨fun c i q => (h'.1 c i q).trans (h.1 c i q), fun c i q => (h'.2 c i q).trans (h.2 c i q)⟩
theorem Fr.mono {S S' : Nat → Nat → Bool} {M M' : Mem} (h : Fr S M M') (hs : ∀ c i, S' c i = false → S c i = false) : Fr S' M M' := ⟨fun c i q => h.1 c i (hs c i q), fun c i q => h.2 c i (hs c i q)⟩
theorem Fr.sI {S : Nat → Nat → Bool} {M M' : Mem} (h : Fr S M M') {c i : Nat} {v : Int32} (hs : S c i = true) : Fr S M (sI M' c i v) := by
  refine ⟨fun a b q => ?_, fun a b q => h.2 a b q⟩
  rw [gI_sI, if_neg (fun e => by rw [e.1, e.2, hs] at q; cases q)]
  exact h.1 a b q
theorem Fr.sL {S : Nat → Nat → Bool} {M M' : Mem} (h : Fr S M M') {c i : Nat} {v : Int64} (hs : S c i = true) : Fr S M (sL M' c i v) := by
  refine ⟨fun a b q => h.1 a b q, fun a b q => ?_⟩
  rw [gL_sL, if_neg (fun e => by rw [e.1, e.2, hs] at q; cases q)]
  exact h.2 a b q
