/-! Math's three, arraycopy, a static method of a nest mate -/
theorem w_min : Cond.static Lib.Math.min.name ∈ lw_w ∧ Cond.code Lib.Math.min.name Lib.Math.min.code 2 (some .int) ∈ lw_w := ⟨lw_in (i := 619) (by decide +kernel) (by decide +kernel), lw_in (i := 620) (by decide +kernel) (by decide +kernel)⟩
theorem w_max : Cond.static Lib.Math.max.name ∈ lw_w ∧ Cond.code Lib.Math.max.name Lib.Math.max.code 2 (some .int) ∈ lw_w := ⟨lw_in (i := 883) (by decide +kernel) (by decide +kernel), lw_in (i := 884) (by decide +kernel) (by decide +kernel)⟩
theorem w_abs : Cond.static Lib.Math.abs.name ∈ lw_w ∧ Cond.code Lib.Math.abs.name Lib.Math.abs.code 1 (some .int) ∈ lw_w := ⟨lw_in (i := 928) (by decide +kernel) (by decide +kernel), lw_in (i := 929) (by decide +kernel) (by decide +kernel)⟩
theorem w_math : Cond.initialized "java/lang/Math" ∈ lw_w := lw_in (i := 22) (by decide +kernel) (by decide +kernel)
theorem w_copy : Cond.static arraycopyName ∈ lw_w ∧ Cond.native arraycopyName ∈ lw_w := ⟨lw_in (i := 154) (by decide +kernel) (by decide +kernel), lw_in (i := 155) (by decide +kernel) (by decide +kernel)⟩
theorem w_sys : Cond.initialized "java/lang/System" ∈ lw_w := by decide +kernel
def mcp (M : Mem) (c d n : Nat) : Mem := (fun a b => if a = d ∧ b < n then M.1 c b else M.1 a b, M.2)
theorem gI_mcp (M : Mem) (c d n a b : Nat) : gI (mcp M c d n) a b = if a = d ∧ b < n then gI M c b else gI M a b := rfl
theorem gL_mcp (M : Mem) (c d n a b : Nat) : gL (mcp M c d n) a b = gL M a b := rfl
section More1
variable {l : Launch} {D : va_G} {ad : Nat → Nat} {kA : Nat → ClassId} {mi mi2 : MI} {pc : Nat} {lo : List (Option Value)} {rest : List Value} {M : Mem} {Q : Outcome → Mem → Prop}
theorem r_mmin {x y : Int32} {index : Nat} (d : decode mi.cc pc = .ok (.invokestatic index, 3)) (hk : Cond.methodLink mi.y.cls index Lib.Math.min.name ∈ lw_w) (hf : 1 ≤ mi.fr) (hw : (rest.map fun v => v.category).sum + 13 ≤ mi.lw) (K : Fw l D ad kA mi (pc + 3) lo (.int (if y < x then y else x) :: rest) M Q) : Fw l D ad kA mi pc lo (.int y :: .int x :: rest) M Q := by
  intro p e s m args below meth c C H locs ls hP hS hl
  have hts := C.2.2.2.2.2.2.1
  exact va_mmin C.1 C.2.1 (C.2.2.1.trans hl.1.symm) C.2.2.2.2.2.1 (hts _ hk) (hts _ w_min.1) (hts _ w_math) (hts _ w_min.2) hf hw (Nat.le_refl 0) (Nat.le_refl 0) d (K p e s m args below meth c C H locs ls hP hS hl)
theorem r_mmax {x y : Int32} {index : Nat} (d : decode mi.cc pc = .ok (.invokestatic index, 3)) (hk : Cond.methodLink mi.y.cls index Lib.Math.max.name ∈ lw_w) (hf : 1 ≤ mi.fr) (hw : (rest.map fun v => v.category).sum + 13 ≤ mi.lw) (K : Fw l D ad kA mi (pc + 3) lo (.int (if x < y then y else x) :: rest) M Q) : Fw l D ad kA mi pc lo (.int y :: .int x :: rest) M Q := by
  intro p e s m args below meth c C H locs ls hP hS hl
  have hts := C.2.2.2.2.2.2.1
  exact va_mmax C.1 C.2.1 (C.2.2.1.trans hl.1.symm) C.2.2.2.2.2.1 (hts _ hk) (hts _ w_max.1) (hts _ w_math) (hts _ w_max.2) hf hw (Nat.le_refl 0) (Nat.le_refl 0) d (K p e s m args below meth c C H locs ls hP hS hl)
theorem r_mabs {x : Int32} {index : Nat} (d : decode mi.cc pc = .ok (.invokestatic index, 3)) (hk : Cond.methodLink mi.y.cls index Lib.Math.abs.name ∈ lw_w) (hf : 1 ≤ mi.fr) (hw : (rest.map fun v => v.category).sum + 13 ≤ mi.lw) (K : Fw l D ad kA mi (pc + 3) lo (.int (if 0 ≤ x then x else 0 - x) :: rest) M Q) : Fw l D ad kA mi pc lo (.int x :: rest) M Q := by
  intro p e s m args below meth c C H locs ls hP hS hl
  have hts := C.2.2.2.2.2.2.1
  exact va_mabs C.1 C.2.1 (C.2.2.1.trans hl.1.symm) C.2.2.2.2.2.1 (hts _ hk) (hts _ w_abs.1) (hts _ w_math) (hts _ w_abs.2) hf hw (Nat.le_refl 0) (Nat.le_refl 0) d (K p e s m args below meth c C H locs ls hP hS hl)
/-- arraycopy of ints from the begin to the begin -/
theorem r_copy {c1 c2 n1 n2 index : Nat} {n : Int32} (d : decode mi.cc pc = .ok (.invokestatic index, 3)) (hk : Cond.methodLink mi.y.cls index arraycopyName ∈ lw_w) (hf : 1 ≤ mi.fr) (hw : (rest.map fun v => v.category).sum + (nativeFrameWords "java/lang/System" "arraycopy" 5 + 11) ≤ mi.lw) (h1 : shL[c1]? = some (.inl (0, n1))) (h2 : shL[c2]? = some (.inl (0, n2))) (h3 : ¬ n < 0) (h4 : n.toNatClampNeg ≤ n1) (h5 : n.toNatClampNeg ≤ n2) (K : Fw l D ad kA mi (pc + 3) lo rest (mcp M c1 c2 n.toNatClampNeg) Q) : Fw l D ad kA mi pc lo (.int n :: .int 0 :: .ref (ad c2) :: .int 0 :: .ref (ad c1) :: rest) M Q := by
  intro p e s m args below meth c C H locs ls hP hS hl
  have hts := C.2.2.2.2.2.2.1
  have hz : (0 : Int32).toNatClampNeg = 0 := by decide
  refine va_copyi C.1 C.2.1 (C.2.2.1.trans hl.1.symm) C.2.2.2.2.2.1 (hts _ hk) (hts _ w_copy.2) (hts _ w_copy.1) (hts _ w_sys) C.2.2.2.2.2.2.2.1 hP (wl_D C.2.2.2.2.2.2.2.2.1) hS c1 c2 0 0 (wl_at h1) (wl_at h2) rfl rfl rfl (by decide) (by decide) h3 (by rw [hz]; omega) (by rw [hz]; omega) (fun _ _ => rfl) hf hw d (fun H1 locs1 hP1 _ hS1 => K p e s m args below meth c C H1 locs1 ls ?_ hS1 hl)
  have e1 : ce ad kA (mcp M c1 c2 n.toNatClampNeg) c2 (.inl (0, n2)) = .inl (kA 0, n2, .inl (va_cpy (gI M c1) (gI M c2) (0 : Int32).toNatClampNeg (0 : Int32).toNatClampNeg n.toNatClampNeg)) := by
    have : gI (mcp M c1 c2 n.toNatClampNeg) c2 = va_cpy (gI M c1) (gI M c2) (0 : Int32).toNatClampNeg (0 : Int32).toNatClampNeg n.toNatClampNeg := by
      funext b
      rw [gI_mcp, hz]
      simp [va_cpy]
    simp only [ce, this]
    rfl
  have e2 : ∀ (j : Nat) (sh : Shp), j ≠ c2 → ce ad kA (mcp M c1 c2 n.toNatClampNeg) j sh = ce ad kA M j sh := by
    intro j sh hj
    have g1 : gI (mcp M c1 c2 n.toNatClampNeg) j = gI M j := by funext b; rw [gI_mcp, if_neg (fun h => hj h.1)]
    have g2 : gL (mcp M c1 c2 n.toNatClampNeg) j = gL M j := by funext b; rfl
    have g3 : fv ad (mcp M c1 c2 n.toNatClampNeg) j = fv ad M j := by funext b f; simp only [fv, g1, g2]
    cases sh with
    | inl a => simp only [ce, g1, g2]
    | inr q => simp only [ce, g3]
  have hP2 : va_P D cls ((wl ad kA M).set c2 (ad c2, .inl (kA 0, n2, .inl (va_cpy (gI M c1) (gI M c2) (0 : Int32).toNatClampNeg (0 : Int32).toNatClampNeg n.toNatClampNeg)))) H1 := hP1
  rw [← e1, wl_set h2 e2] at hP2
  exact hP2
/-- a static method of a nest mate: isBell alone -/
theorem r_callN {index n : Nat} {As st : List Value} (d : decode mi.cc pc = .ok (.invokestatic index, 3)) (hm : mi2.y = yX11_isBell) (hq : (mi.y.cls, index) ∈ nestL) (hi : Cond.initialized mi2.y.cls ∈ lw_w) (hc : Cond.code mi2.y mi2.cc mi2.nL mi2.ret ∈ lw_w) (hd : mi2.y.cls ≠ "java/lang/invoke/MethodHandle" ∧ mi2.y.cls ≠ "java/lang/invoke/VarHandle" ∧ (parseMethodDescriptor mi2.y.desc).map (fun d => d.parameters.length) = some n) (hv : Cond.static mi2.y ∈ lw_w) (hR : Rm mi mi2) (hst : st = As.reverse ++ rest) (hn : As.length = n) (hw : (rest.map fun v => v.category).sum ≤ 8)
    (K : Cal l D ad kA mi2 As M (fun oc M' => ∃ v, oc = .returned v ∧ Fw l D ad kA mi (pc + 3) lo (v.toList ++ rest) M' Q)) : Fw l D ad kA mi pc lo st M Q := by
  intro p e s m args below meth c C H locs ls hP hS hl
  subst hst
  have hts := C.2.2.2.2.2.2.1
  have hN := C.2.2.2.2.2.2.2.2.2.1.2.2.2.1 _ hq
  rw [← hm] at hN
  refine call_go (Q' := fun oc M' => ∃ v, oc = .returned v ∧ Fw l D ad kA mi (pc + 3) lo (v.toList ++ rest) M' Q) (va_runSN (cc := mi.cc) (As := As) (rest := rest) (Ts := lw_w) (own := mi.y.cls) (host := "BellTable") (index := index) (bytes := mi2.cc) (maxL := mi2.nL) (ret := mi2.ret) (n := n) ⟨C.1, C.2.1, C.2.2.1, C.2.2.2.2.2.1, hts⟩ (K.met ?_) ⟨va_cnB n hts (good_ws hc) rfl rfl rfl hN (hts _ hi) hd hR, hts _ hv, trivial⟩ ⟨CP.blind, fun U hU hW => ⟨rfl, CP.at C hP hS U hU hW⟩⟩ rfl hn hl.1 rfl (lv_room hw) d ⟨Nat.le_refl 0, Nat.le_refl 0⟩) hS ?_
  · rintro a st oc t ⟨⟨M', ⟨v, h, -⟩, -⟩, -⟩
    exact ⟨v, h⟩
  · rintro v M' H1 locs1 ⟨v', h1, h2⟩ hP1 hS1
    cases h1
    exact h2 p e s m args below meth c C H1 locs1 ls hP1 hS1 hl
end More1
