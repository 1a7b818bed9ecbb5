/-! THE START: what the Statement gives of statics, String constants and array classes -/
theorem va_Xof {args : Array Value} {s : State} {tm : Term} {N : Nat} {f : Nat → Int32} (hN : N < 2 ^ 31) (harr : (Cond.arrayOf tm .int).before args s = true) (hlen : (Term.length tm).eval args s none [] s = some (.int (Int32.ofNat N))) (hel : ∀ j : Nat, j < N → (Term.elem tm (.int (Int32.ofNat j))).eval args s none [] s = some (.int (f j))) : ∃ t : Nat, tm.eval args s none [] s = some (.ref t) ∧ va_X t N f s s.heap ∧ t < s.heap.size := by
  obtain ⟨t, ht, cell, hcell, hof, hkn, h1, h2, h3, -⟩ := va_Tof (A := fun _ => False) (f := fun j => .int (f j)) hN harr hlen hel (fun _ _ h => h)
  have hsz : cell.slots.size < 2 ^ 31 := by
    obtain ⟨b, cell2, ht2, harr2, -⟩ := Term.length_spec hlen
    cases ht.symm.trans ht2
    obtain ⟨hcell2, -⟩ := State.arrayAt?_spec harr2
    cases hcell.symm.trans hcell2
    simp only [Term.eval, ht, harr2, Option.bind_eq_bind, Option.bind_some] at hlen
    by_cases hlt : cell.slots.size < 2147483648
    · exact hlt
    · simp [hlt] at hlen
  have e : cell.slots.size = N := by
    have h4 : (Int32.ofNat cell.slots.size).toNatClampNeg = (Int32.ofNat N).toNatClampNeg := congrArg Int32.toNatClampNeg h2
    rw [Int32.toNatClampNeg_ofNat_of_lt hN, Int32.toNatClampNeg_ofNat_of_lt hsz] at h4
    exact h4
  exact ⟨t, ht, ⟨cell, hcell, hof, hkn, e, h3⟩, (Array.getElem?_eq_some_iff.mp hcell).1⟩
theorem arr_of {args : Array Value} {s : State} {ty : FieldType} (h : (Cond.arrayClass ty).before args s = true) (ho : ∀ C, ¬ ty = .object C) : ∃ cA : ClassId, ArrOfT s cA ty ∧ va_RA s cA ty := by
  obtain ⟨c, k, comp, h1, h2, h3⟩ := Cond.arrayClass_spec (args := args) (first := s) (o := none) (s := s) (idx := []) h
  refine ⟨c, fun n z => ⟨fun k h => (by cases h), k, h2, comp, h3⟩, ?_⟩
  cases ty with
  | object C => exact absurd rfl (ho C)
  | _ => exact h1
theorem k_start {args : Array Value} {s : State} (hts : ∀ w ∈ lw_w, w.before args s = true) : ∃ (D : va_G) (kA : Nat → ClassId), va_K D cls (tyK kA) s := by
  obtain ⟨cI, hI⟩ := arr_of (hts _ w_aI) (fun C h => by cases h)
  obtain ⟨cB, hB⟩ := arr_of (hts _ w_aB) (fun C h => by cases h)
  obtain ⟨cZ, hZ⟩ := arr_of (hts _ w_aZ) (fun C h => by cases h)
  obtain ⟨cJ, hJ⟩ := arr_of (hts _ w_aJ) (fun C h => by cases h)
  have hk : ∀ k : Nat, ∃ q : ClassId × (Nat → Nat), ∀ c, cls[k]? = some c → u_Kn s c.1 c.2.1 c.2.2 q.1 q.2 := by
    intro k
    match k with
    | 0 =>
      obtain ⟨c0, i0, h⟩ := u_known (C := RX0) (T := TX0) (N := 5) (n := 5) hts inX0 (hts (.instantiable RX0 5) (lw_in (i := 73) (by decide +kernel) (by decide +kernel)))
      exact ⟨(c0, i0), fun c hc => by cases hc; exact h⟩
    | 1 =>
      obtain ⟨c0, i0, h⟩ := u_known (C := RX1) (T := TX1) (N := 1) (n := 1) hts inX1 (hts (.instantiable RX1 1) (lw_in (i := 329) (by decide +kernel) (by decide +kernel)))
      exact ⟨(c0, i0), fun c hc => by cases hc; exact h⟩
    | 2 =>
      obtain ⟨c0, i0, h⟩ := u_known (C := RX2) (T := TX2) (N := 14) (n := 14) hts inX2 (hts (.instantiable RX2 14) (lw_in (i := 372) (by decide +kernel) (by decide +kernel)))
      exact ⟨(c0, i0), fun c hc => by cases hc; exact h⟩
    | 3 =>
      obtain ⟨c0, i0, h⟩ := u_known (C := RX3) (T := TX3) (N := 9) (n := 9) hts inX3 (hts (.instantiable RX3 9) (lw_in (i := 176) (by decide +kernel) (by decide +kernel)))
      exact ⟨(c0, i0), fun c hc => by cases hc; exact h⟩
    | 4 =>
      obtain ⟨c0, i0, h⟩ := u_known (C := RX4) (T := TX4) (N := 9) (n := 9) hts inX4 (hts (.instantiable RX4 9) (lw_in (i := 262) (by decide +kernel) (by decide +kernel)))
      exact ⟨(c0, i0), fun c hc => by cases hc; exact h⟩
    | 5 =>
      obtain ⟨c0, i0, h⟩ := u_known (C := RX5) (T := TX5) (N := 9) (n := 9) hts inX5 (hts (.instantiable RX5 9) (lw_in (i := 323) (by decide +kernel) (by decide +kernel)))
      exact ⟨(c0, i0), fun c hc => by cases hc; exact h⟩
    | 6 =>
      obtain ⟨c0, i0, h⟩ := u_known (C := RX6) (T := TX6) (N := 5) (n := 5) hts inX6 (hts (.instantiable RX6 5) (lw_in (i := 146) (by decide +kernel) (by decide +kernel)))
      exact ⟨(c0, i0), fun c hc => by cases hc; exact h⟩
    | 7 =>
      obtain ⟨c0, i0, h⟩ := u_known (C := RX7) (T := TX7) (N := 13) (n := 13) hts inX7 (hts (.instantiable RX7 13) (lw_in (i := 212) (by decide +kernel) (by decide +kernel)))
      exact ⟨(c0, i0), fun c hc => by cases hc; exact h⟩
    | 8 =>
      obtain ⟨c0, i0, h⟩ := u_known (C := RX8) (T := TX8) (N := 5) (n := 5) hts inX8 (hts (.instantiable RX8 5) (lw_in (i := 298) (by decide +kernel) (by decide +kernel)))
      exact ⟨(c0, i0), fun c hc => by cases hc; exact h⟩
    | 9 =>
      obtain ⟨c0, i0, h⟩ := u_known (C := RX9) (T := TX9) (N := 5) (n := 5) hts inX9 (hts (.instantiable RX9 5) (lw_in (i := 79) (by decide +kernel) (by decide +kernel)))
      exact ⟨(c0, i0), fun c hc => by cases hc; exact h⟩
    | 10 =>
      obtain ⟨c0, i0, h⟩ := u_known (C := RX10) (T := TX10) (N := 8) (n := 8) hts inX10 (hts (.instantiable RX10 8) (lw_in (i := 32) (by decide +kernel) (by decide +kernel)))
      exact ⟨(c0, i0), fun c hc => by cases hc; exact h⟩
    | 11 =>
      obtain ⟨c0, i0, h⟩ := u_known (C := RX11) (T := TX11) (N := 12) (n := 12) hts inX11 (hts (.instantiable RX11 12) (lw_in (i := 24) (by decide +kernel) (by decide +kernel)))
      exact ⟨(c0, i0), fun c hc => by cases hc; exact h⟩
    | 12 =>
      obtain ⟨c0, i0, h⟩ := u_known (C := RX12) (T := TX12) (N := 6) (n := 6) hts inX12 (hts (.instantiable RX12 6) (lw_in (i := 1098) (by decide +kernel) (by decide +kernel)))
      exact ⟨(c0, i0), fun c hc => by cases hc; exact h⟩
    | 13 =>
      obtain ⟨c0, i0, h⟩ := u_known (C := RX13) (T := TX13) (N := 66) (n := 66) hts inX13 (hts (.instantiable RX13 66) (lw_in (i := 1083) (by decide +kernel) (by decide +kernel)))
      exact ⟨(c0, i0), fun c hc => by cases hc; exact h⟩
    | k + 14 => exact ⟨(cI, fun _ => 0), fun c hc => by simp [cls] at hc⟩
  obtain ⟨f, hf⟩ := Classical.axiomOfChoice hk
  refine ⟨(fun k => (f k).1, fun k => (f k).2), fun k => if k = 0 then cI else if k = 1 then cB else if k = 2 then cZ else cJ, fun c q hq => hf c q hq, fun k q hq => ?_⟩
  match k, hq with
  | 0, hq => cases hq; exact hI
  | 1, hq => cases hq; exact hB
  | 2, hq => cases hq; exact hZ
  | 3, hq => cases hq; exact hJ
  | k + 4, hq => simp [tyK] at hq
/-- Out, with all that is new in the place of the world -/
def OutG (sz0 : Nat) (aS aK aV : Nat → Nat) (U : State) (H : Heap) : Prop :=
  (∀ j, j < 3 → va_Z "BellTable$Manners" (stN.getD j "") "[I" (.ref (aS j)) (GA sz0) U H ∧ va_T .int (aS j) 4 (fun i => .int ((stV.getD j []).getD i 0)) (GA sz0) U H) ∧
  va_Z "java/lang/String" "COMPACT_STRINGS" "Z" (.int 1) (GA sz0) U H ∧
  (∀ i, i < 15 → vk_R (scR.getD i ("", 0, "")).1 (scR.getD i ("", 0, "")).2.1 (scR.getD i ("", 0, "")).2.2 (aK i) U ∧ va_O "java/lang/String" (aK i) (GA sz0) U H ∧ va_OF "java/lang/String" "coder" "B" (.int 0) (aK i) (GA sz0) U H ∧ va_OF "java/lang/String" "value" "[B" (.ref (aV i)) (aK i) (GA sz0) U H ∧ va_T .byte (aV i) (scB.getD i []).length (fun j => .int ((scB.getD i []).getD j 0)) (GA sz0) U H) ∧
  (∀ q ∈ nestL, va_Nw (.methodLinkNest q.1 q.2 yX11_isBell "BellTable") U) ∧
  va_Zq "jdk/internal/util/Preconditions" "SIOOBE_FORMATTER" "Ljava/util/function/BiFunction;" (GA sz0) U H
theorem OutG.out {sz0 : Nat} {aS aK aV ad : Nat → Nat} {U : State} {H : Heap} (h : OutG sz0 aS aK aV U H) (hA : ∀ q, AW ad q → GA sz0 q) (h1 : ∀ j, j < 3 → ad (200 + j) = aS j) (h2 : ∀ i, i < 15 → ad (210 + i) = aK i) (h3 : ∀ i, i < 15 → ad (230 + i) = aV i) : Out ad U H := by
  refine ⟨fun j hj => ?_, h.2.1.narrow hA, fun i hi => ?_, h.2.2.2.1, h.2.2.2.2.narrow hA⟩
  · rw [h1 j hj]
    exact ⟨(h.1 j hj).1.narrow hA, (h.1 j hj).2.narrow hA⟩
  · rw [h2 i hi, h3 i hi]
    obtain ⟨a, b, c, d, e⟩ := h.2.2.1 i hi
    exact ⟨a, b.narrow hA, c.narrow hA, d.narrow hA, e.narrow hA⟩
def scT (i : Nat) : Term := .string (scR.getD i ("", 0, "")).1 (scR.getD i ("", 0, "")).2.1
def stT (j : Nat) : Term := .static "BellTable$Manners" (stN.getD j "") "[I"
def gvC : Cond := Jvm.Cond.and given_1 narrow_1
theorem so_ex : ∀ i, i < 15 → Cond.exactly (scT i) "java/lang/String" ∈ flatC gvC := by decide +kernel
theorem so_co : ∀ i, i < 15 → Cond.eq (.field (scT i) "java/lang/String" "coder" "B") (.int 0) ∈ flatC gvC := by decide +kernel
theorem so_ar : ∀ i, i < 15 → Cond.arrayOf (.field (scT i) "java/lang/String" "value" "[B") .byte ∈ flatC gvC := by decide +kernel
theorem so_le : ∀ i, i < 15 → Cond.eq (.length (.field (scT i) "java/lang/String" "value" "[B")) (.int (Int32.ofNat (scB.getD i []).length)) ∈ flatC gvC := by decide +kernel
theorem so_el : ∀ i, i < 15 → ∀ j, j < (scB.getD i []).length → Cond.eq (.elem (.field (scT i) "java/lang/String" "value" "[B") (.int (Int32.ofNat j))) (.int ((scB.getD i []).getD j 0)) ∈ flatC gvC := by decide +kernel
theorem so_n : ∀ i, i < 15 → (scB.getD i []).length < 2 ^ 31 := by decide +kernel
theorem so_sr : ∀ i, i < 15 → Cond.stringRef (scR.getD i ("", 0, "")).1 (scR.getD i ("", 0, "")).2.1 (scR.getD i ("", 0, "")).2.2 ∈ lw_tbl := by decide +kernel
theorem ss_ar : ∀ j, j < 3 → Cond.arrayOf (stT j) .int ∈ flatC gvC := by decide +kernel
theorem ss_le : ∀ j, j < 3 → Cond.eq (.length (stT j)) (.int (Int32.ofNat 4)) ∈ flatC gvC := by decide +kernel
theorem ss_el : ∀ j, j < 3 → ∀ i, i < 4 → Cond.eq (.elem (stT j) (.int (Int32.ofNat i))) (.int ((stV.getD j []).getD i 0)) ∈ flatC gvC := by decide +kernel
theorem ss_ls : ∀ j, j < 3 → Cond.laysStatic "BellTable$Manners" (stN.getD j "") "[I" ∈ lw_tbl := by decide +kernel
theorem s_lays : Cond.laysStatic "java/lang/String" "COMPACT_STRINGS" "Z" ∈ lw_tbl ∧ Cond.laysStatic "jdk/internal/util/Preconditions" "SIOOBE_FORMATTER" "Ljava/util/function/BiFunction;" ∈ lw_tbl ∧ Cond.laysStatic "java/lang/Throwable" "UNASSIGNED_STACK" "[Ljava/lang/StackTraceElement;" ∈ lw_tbl ∧ Cond.laysStatic "java/lang/Throwable" "SUPPRESSED_SENTINEL" "Ljava/util/List;" ∈ lw_tbl := by decide +kernel
theorem s_inis : Cond.initialized "BellTable$Manners" ∈ lw_tbl ∧ Cond.initialized "java/lang/String" ∈ lw_tbl ∧ Cond.initialized "jdk/internal/util/Preconditions" ∈ lw_tbl ∧ Cond.initialized "java/lang/Throwable" ∈ lw_tbl := by decide +kernel
theorem s_gv : Cond.eq (.static "java/lang/String" "COMPACT_STRINGS" "Z") (.int 1) ∈ flatC gvC ∧ Cond.isRef (.static "jdk/internal/util/Preconditions" "SIOOBE_FORMATTER" "Ljava/util/function/BiFunction;") ∈ flatC gvC ∧ Cond.isRef (.static "java/lang/Throwable" "UNASSIGNED_STACK" "[Ljava/lang/StackTraceElement;") ∈ flatC gvC ∧ Cond.isRef (.static "java/lang/Throwable" "SUPPRESSED_SENTINEL" "Ljava/util/List;") ∈ flatC gvC := by decide +kernel
theorem s_nL : ∀ q ∈ nestL, Cond.methodLinkNest q.1 q.2 yX11_isBell "BellTable" ∈ lw_tbl := by decide +kernel
theorem s_nC : ∀ q ∈ nestC, Cond.methodLinkNest q.1 q.2.1 q.2.2 "BellTable" ∈ lw_tbl := by decide +kernel
theorem so_one {args : Array Value} {s : State} {A : Nat → Prop} (hs : ∀ c ∈ flatC gvC, c.before args s = true) (hA : ∀ a : Nat, a < s.heap.size → ¬ A a) (i : Nat) : ∃ q : Nat × Nat, i < 15 → (scT i).eval args s none [] s = some (.ref q.1) ∧ va_O "java/lang/String" q.1 A s s.heap ∧ va_OF "java/lang/String" "coder" "B" (.int 0) q.1 A s s.heap ∧ va_OF "java/lang/String" "value" "[B" (.ref q.2) q.1 A s s.heap ∧ va_T .byte q.2 (scB.getD i []).length (fun j => .int ((scB.getD i []).getD j 0)) A s s.heap := by
  by_cases hi : i < 15
  · obtain ⟨a, c, cA, kA, q1, q2, q3, q4, q5, q6, -⟩ := Cond.exactly_spec (args := args) (first := s) (o := none) (s := s) (idx := []) (t := scT i) (cls := "java/lang/String") (hs _ (so_ex i hi))
    obtain ⟨t, ht, hT⟩ := va_Tof (f := fun j => .int ((scB.getD i []).getD j 0)) (A := A) (so_n i hi) (hs _ (so_ar i hi)) (va_eqt (hs _ (so_le i hi))) (fun j hj => va_eqt (hs _ (so_el i hi j hj))) hA
    exact ⟨(a, t), fun _ => ⟨q1, ⟨cA, q3, q5, by rw [q6]; exact q2, hA a (Array.getElem?_eq_some_iff.mp q3).1⟩, vk_OFof q1 (va_eqt (hs _ (so_co i hi))) hA, vk_OFof q1 ht hA, hT⟩⟩
  · exact ⟨(0, 0), fun h => absurd h hi⟩
theorem ss_one {args : Array Value} {s : State} (hs : ∀ c ∈ flatC gvC, c.before args s = true) (j : Nat) : ∃ t : Nat, j < 3 → (stT j).eval args s none [] s = some (.ref t) ∧ va_X t 4 (fun i => (stV.getD j []).getD i 0) s s.heap ∧ t < s.heap.size := by
  by_cases hj : j < 3
  · obtain ⟨t, h⟩ := va_Xof (tm := stT j) (N := 4) (f := fun i => (stV.getD j []).getD i 0) (by decide) (hs _ (ss_ar j hj)) (va_eqt (hs _ (ss_le j hj))) (fun i hi => va_eqt (hs _ (ss_el j hj i hi)))
    exact ⟨t, fun _ => h⟩
  · exact ⟨0, fun h => absurd h hj⟩
theorem va_X.T {t N : Nat} {f : Nat → Int32} {A : Nat → Prop} {s : State} {H : Heap} (h : va_X t N f s H) (hA : ¬ A t) : va_T .int t N (fun i => .int (f i)) A s H := by
  obtain ⟨scr, h1, h2, h3, h4, h5⟩ := h
  exact ⟨scr, h1, h2, h3, Nat.le_of_eq h4.symm, by rw [h4], h5, hA⟩
theorem start_of {args : Array Value} {s : State} (hts : ∀ w ∈ lw_tbl, w.before args s = true) (hgv : (Jvm.Cond.and given_1 narrow_1).before args s = true) : ∃ aS aK aV : Nat → Nat, OutG s.heap.size aS aK aV s s.heap ∧ St s.heap.size (aS 0) s s.heap := by
  have hs : ∀ c ∈ flatC gvC, c.before args s = true := flat_of_before _ hgv
  have hA : ∀ a : Nat, a < s.heap.size → ¬ GA s.heap.size a := fun a h => Nat.not_le.mpr h
  obtain ⟨aS, hS⟩ := Classical.axiomOfChoice (ss_one hs)
  obtain ⟨aQ, hQ⟩ := Classical.axiomOfChoice (so_one (A := GA s.heap.size) hs hA)
  have hz : ∀ j, j < 3 → va_Z "BellTable$Manners" (stN.getD j "") "[I" (.ref (aS j)) (GA s.heap.size) s s.heap := fun j hj => va_Zof (hts _ (ss_ls j hj)) (hts _ s_inis.1) (hS j hj).1 hA
  refine ⟨aS, fun i => (aQ i).1, fun i => (aQ i).2, ⟨fun j hj => ⟨hz j hj, (hS j hj).2.1.T (hA _ (hS j hj).2.2)⟩, va_Zof (hts _ s_lays.1) (hts _ s_inis.2.1) (va_eqt (hs _ s_gv.1)) hA, fun i hi => ?_, fun q hq => va_Nw.of rfl (hts _ (s_nL q hq)), va_Zqof (hts _ s_lays.2.1) (hts _ s_inis.2.2.1) (hs _ s_gv.2.1) hA⟩, ⟨hz 0 (by decide), (hS 0 (by decide)).2⟩, va_Zqof (hts _ s_lays.2.2.1) (hts _ s_inis.2.2.2) (hs _ s_gv.2.2.1) hA, va_Zqof (hts _ s_lays.2.2.2) (hts _ s_inis.2.2.2) (hs _ s_gv.2.2.2) hA, fun q hq => va_Nw.of rfl (hts _ (s_nC q hq))⟩
  obtain ⟨h1, h2⟩ := hQ i hi
  exact ⟨vk_R.of (hts _ (so_sr i hi)) h1, h2⟩
