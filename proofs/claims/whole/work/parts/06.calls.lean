/-! A METHOD's JUDGEMENT, and calls -/
def MetX (l : Launch) (y : MethodName) (ws : List Cond) (rm : Room) (Pc : Array Value → State → Prop) (Qc : Array Value → State → Outcome → State → Prop) (free : Addr → Prop) : Prop :=
  MetFree l y (headSpec ws rm) Pc (fun _ _ _ _ _ => True) (fun a st oc t => Qc a st oc t ∧ ∃ L, (st.WarmedH t.vm ∧ st.sameButNew ({ t with vm := st.vm } : State) L 0 0) ∧ ∀ q ∈ L, free q.base)
theorem MetX.met {l : Launch} {y : MethodName} {ws : List Cond} {rm : Room} {Pc : Array Value → State → Prop} {Qc : Array Value → State → Outcome → State → Prop} {free : Addr → Prop} (h : MetX l y ws rm Pc Qc free) (hr : ∀ a st oc t, Qc a st oc t → ∃ v, oc = .returned v) : Met l y ws rm Pc Qc 0 0 free := by
  intro p e h1 h2 h3 s m args below h4 h5 h6 h7
  obtain ⟨n, oc, g1, g2, g3, g4, L, g5, g6⟩ := h p e h1 h2 h3 s m args below h4 h5 h6 h7
  exact ⟨n, oc, g1, g2, g3, g4, L, ⟨hr _ _ _ _ g4, g5.1, g5.2⟩, g6⟩
/-- a method's start: its arguments, the world -/
def CP (D : va_G) (ad : Nat → Nat) (kA : Nat → ClassId) (M : Mem) : State → Prop := fun U => va_P D cls (wl ad kA M) U.heap ∧ va_K D cls (tyK kA) U ∧ apart ad ∧ Out ad U U.heap
def Cal (l : Launch) (D : va_G) (ad : Nat → Nat) (kA : Nat → ClassId) (mi : MI) (av : List Value) (M : Mem) (Q : Outcome → Mem → Prop) : Prop :=
  MetX l mi.y (wsOf mi) (rmOf mi) (va_Pc av (CP D ad kA M)) (Po D ad kA Q) (AW ad)
section Calls1
variable {l : Launch} {D : va_G} {ad : Nat → Nat} {kA : Nat → ClassId} {mi mi2 : MI} {pc : Nat} {lo : List (Option Value)} {rest : List Value} {M : Mem} {Q : Outcome → Mem → Prop}
theorem CP.blind {av : List Value} : FrameBlind (va_Pc av (CP D ad kA M)) := by
  intro a U g mk h
  obtain ⟨h0, h1, h2, h3, h4⟩ := h
  exact ⟨h0, h1, va_K.moved (u := U) (U := U.calling g mk a) (Vm.Alike.refl U.vm) h2, h3, Out.same (U := U.calling g mk a) (u := U) rfl h4⟩
theorem Cal.of {av : List Value} (hy : plainName mi.y.cls = true) (hh : mi.hh = []) (hlo : lv_args 0 av = lp lo) (hlen : (lg_sl av).length ≤ mi.nL) (K : Fw l D ad kA mi 0 lo [] M Q) : Cal l D ad kA mi av M Q := by
  unfold Cal MetX
  refine MetFree.of_bodyS (code := mi.cc) (maxLocals := mi.nL) (ret := mi.ret) hy ?_ ?_
  · intro args s m h hn
    obtain ⟨meth, c, h1, h2, h3, h4, h5, h6, -, -⟩ := Cond.code_spec hn (atoms_spec (ws := wsOf mi) h _ List.mem_cons_self)
    exact ⟨meth, c, h1, h2, h3, h4, h5, h6⟩
  · intro p e s m args below meth c s₁ B hml hP _
    have hh0 : s₁.heap = s.heap := by rw [B.state]; rfl
    obtain ⟨rfl, hP, hK, hap, hO⟩ := hP
    have hts : ∀ w ∈ wsOf mi, w.before av.toArray s = true := atoms_spec (ws := wsOf mi) B.pre
    have hex : c.exceptionTable.isEmpty = true := BodyLoose.noHandlers B (hts _ List.mem_cons_self)
    have hl := lv_entry av (n := mi.nL) hlen
    have C : Cx D ad kA mi p s m av.toArray meth c := ⟨B.exec, B.bytes, hml, B.returns, B.notSynchronized, findClass_of_methodNamed B.named, fun w hw => hts w (List.mem_cons_of_mem _ hw), hK, hap, hO, by
      rw [hh]
      have : c.exceptionTable = #[] := by simpa using hex
      rw [this]; rfl⟩
    have k := K p e s m av.toArray below meth c C s.heap [] _ hP va_S.rf (by rw [← hlo]; exact hl)
    rw [← lg_entry_eq] at k
    obtain ⟨t, a1, oc, b1, b2, b3⟩ := k s₁ hh0 (Stand.of_body B)
    exact ⟨t, oc, a1, b1, b2, b3⟩
theorem Cal.imp {av : List Value} {Q' : Outcome → Mem → Prop} (h : ∀ oc M', Q oc M' → Q' oc M') (k : Cal l D ad kA mi av M Q) : Cal l D ad kA mi av M Q' := by
  intro p e h1 h2 h3 s m args below h4 h5 h6 h7
  obtain ⟨n, oc, g1, g2, g3, ⟨⟨M', q1, q2⟩, q3⟩, g5⟩ := k p e h1 h2 h3 s m args below h4 h5 h6 h7
  exact ⟨n, oc, g1, g2, g3, ⟨⟨M', h _ _ q1, q2⟩, q3⟩, g5⟩
theorem Fw.imp {st : List Value} {Q' : Outcome → Mem → Prop} (h : ∀ oc M', Q oc M' → Q' oc M') (k : Fw l D ad kA mi pc lo st M Q) : Fw l D ad kA mi pc lo st M Q' := by
  intro p e s m args below meth c C H locs ls hP hS hl
  refine W.imp ?_ (k p e s m args below meth c C H locs ls hP hS hl)
  rintro t ⟨oc, g1, g2, ⟨⟨M', q1, q2⟩, q3⟩, g5⟩
  exact ⟨oc, g1, g2, ⟨⟨M', h _ _ q1, q2⟩, q3⟩, g5⟩
theorem good_ws (h : Cond.code mi2.y mi2.cc mi2.nL mi2.ret ∈ lw_w) : GoodIn lw_w (wsOf mi2) := by
  intro w hw
  have hm : w ∈ lw_w := by
    rcases List.mem_cons.mp hw with rfl | hw
    · exact h
    · exact hw
  exact ⟨hm, good_of_word (List.mem_filter.mp hm).2⟩
/-- a call's link -/
def Mk (own : String) (index : Nat) (mi2 : MI) (n : Nat) : Prop := Cond.methodLink own index mi2.y ∈ lw_w ∧ Cond.initialized mi2.y.cls ∈ lw_w ∧ Cond.code mi2.y mi2.cc mi2.nL mi2.ret ∈ lw_w ∧ (mi2.y.cls ≠ "java/lang/invoke/MethodHandle" ∧ mi2.y.cls ≠ "java/lang/invoke/VarHandle" ∧ (parseMethodDescriptor mi2.y.desc).map (fun d => d.parameters.length) = some n)
def MkV (mi2 : MI) : Prop := Cond.instanceMethod mi2.y ∈ lw_w ∧ Cond.selects mi2.y.cls mi2.y mi2.y ∈ lw_w
def Rm (mi mi2 : MI) : Prop := mi2.fr + 1 ≤ mi.fr ∧ 8 + (mi2.nL + 11) + mi2.lw ≤ mi.lw
theorem call_go {p : Program} {e : Env} {R : Room} {s : State} {m : MethodId} {args : Array Value} {below : List Frame} {meth : Method} {c : Code} {H H0 : Heap} {locs : List Loc} {a : Array Value} {ls : Array Slot} {st0 : List Value} {Q1 : State → Prop} {Q' : Outcome → Mem → Prop}
    (hr : va_Run p l e R s m args below meth c H locs 0 0 0 0 (F0 m pc ls st0) rest (Po D ad kA Q' a) (AW ad)) (hS : va_S (AW ad) H0 H locs)
    (kk : ∀ (v : Option Value) (M' : Mem) (H1 : Heap) (locs1 : List Loc), Q' (.returned v) M' → va_P D cls (wl ad kA M') H1 → va_S (AW ad) H0 H1 locs1 → W p l e R s m args below meth c H1 locs1 0 0 Q1 (F0 m (pc + 3) ls (v.toList ++ rest))) : W p l e R s m args below meth c H locs 0 0 Q1 (F0 m pc ls st0) := by
  intro T hT X
  obtain ⟨v, st₀, t, T', L, h0, X', hL, e1, e2, ⟨⟨M', hq, hP1⟩, hz, hk⟩, st⟩ := hr T hT X
  rw [h0] at hz hk
  obtain ⟨t2, a1, b1⟩ := kk v M' T'.heap (locs ++ L) hq (by rw [e1]; exact hP1)
    ⟨Nat.le_trans hS.1 (by rw [e1]; exact hz), fun q h1 h2 => by rw [e1, hk q (Nat.lt_of_lt_of_le h1 hS.1) h2]; exact hS.2.1 q h1 h2, fun q hq => by
      rcases List.mem_append.mp hq with h | h
      · exact hS.2.2 q h
      · exact hL q h⟩ T' rfl X'
  exact ⟨t2, st t2 a1, b1⟩
theorem CP.at {p : Program} {s : State} {m : MethodId} {args : Array Value} {meth : Method} {c : Code} {H : Heap} {locs : List Loc} (C : Cx D ad kA mi p s m args meth c) (hP : va_P D cls (wl ad kA M) H) (hS : va_S (AW ad) s.heap H locs) : ∀ U : State, U.heap = H → s.WarmedH U.vm → CP D ad kA M U := fun U hU hW => ⟨by rw [hU]; exact hP, va_K.moved hW.alike C.2.2.2.2.2.2.2.1, C.2.2.2.2.2.2.2.2.1, by rw [hU]; exact Out.warm hW hS.2.1 C.2.2.2.2.2.2.2.2.2.1⟩
theorem recv_at {p : Program} {s : State} {m : MethodId} {args : Array Value} {meth : Method} {c : Code} {H : Heap} {x ci : Nat} {fs : List (Nat × Nat)} {q : vw_C} (C : Cx D ad kA mi p s m args meth c) (hP : va_P D cls (wl ad kA M) H) (hs : shL[x]? = some (.inr (ci, fs))) (hc : cls[ci]? = some q) : ∃ cell : Cell, H[ad x]? = some cell ∧ cell.vm.isStatics = false ∧ s.vm.findClass q.1 = some cell.cls := va_recv C.2.2.2.2.2.2.2.1 hP hc (wl_at hs)
/-- a call that returns: the receiver a cell of the world -/
theorem r_callV {x index n : Nat} {As st : List Value} (d : decode mi.cc pc = .ok (.invokevirtual index, 3)) (hk : Mk mi.y.cls index mi2 n) (hv : MkV mi2) (hR : Rm mi mi2) (hst : st = As.reverse ++ .ref (ad x) :: rest) (hn : As.length = n) (hx : (do let sh ← shL[x]?; match sh with | .inr q => (cls[q.1]?).map (fun t => t.1) | .inl _ => none) = some mi2.y.cls) (hw : (rest.map fun v => v.category).sum ≤ 8)
    (K : Cal l D ad kA mi2 (.ref (ad x) :: As) M (fun oc M' => ∃ v, oc = .returned v ∧ Fw l D ad kA mi (pc + 3) lo (v.toList ++ rest) M' Q)) : Fw l D ad kA mi pc lo st M Q := by
  intro p e s m args below meth c C H locs ls hP hS hl
  subst hst
  have hts := C.2.2.2.2.2.2.1
  cases hsx : shL[x]? with
  | none => rw [hsx] at hx; cases hx
  | some sh =>
    rw [hsx] at hx
    cases sh with
    | inl q => cases hx
    | inr q =>
      cases hcq : cls[q.1]? with
      | none => simp only [Option.bind_eq_bind, Option.bind_some, hcq] at hx; cases hx
      | some t =>
        simp only [Option.bind_eq_bind, Option.bind_some, hcq, Option.map_some, Option.some.injEq] at hx
        have hrec := recv_at C hP (ci := q.1) (fs := q.2) hsx hcq
        rw [hx] at hrec
        refine call_go (Q' := fun oc M' => ∃ v, oc = .returned v ∧ Fw l D ad kA mi (pc + 3) lo (v.toList ++ rest) M' Q) (va_runV (cc := mi.cc) (As := As) (rest := rest) (Ts := lw_w) (own := mi.y.cls) (C := mi2.y.cls) (index := index) (bytes := mi2.cc) (maxL := mi2.nL) (ret := mi2.ret) (n := n) ⟨C.1, C.2.1, C.2.2.1, C.2.2.2.2.2.1, hts⟩ (K.met ?_) ⟨callB_of n hts (good_ws hk.2.2.1) rfl rfl rfl (hts _ hk.2.1) (hts _ hk.1) hk.2.2.2 hR, hts _ hv.1, hts _ hv.2⟩ ⟨CP.blind, hrec, fun U hU hW => ⟨rfl, CP.at C hP hS U hU hW⟩⟩ rfl hn hl.1 rfl (lv_room hw) d ⟨Nat.le_refl 0, Nat.le_refl 0⟩) hS ?_
        · rintro a st oc t ⟨⟨M', ⟨v, h, -⟩, -⟩, -⟩
          exact ⟨v, h⟩
        · rintro v M' H1 locs1 ⟨v', h1, h2⟩ hP1 hS1
          cases h1
          exact h2 p e s m args below meth c C H1 locs1 ls hP1 hS1 hl
/-- the same, the receiver a String constant -/
theorem r_callT {i index n : Nat} {As st : List Value} (d : decode mi.cc pc = .ok (.invokevirtual index, 3)) (hk : Mk mi.y.cls index mi2 n) (hv : MkV mi2) (hR : Rm mi mi2) (hst : st = As.reverse ++ .ref (ad (210 + i)) :: rest) (hn : As.length = n) (hi : i < 15) (hy : mi2.y.cls = "java/lang/String") (hw : (rest.map fun v => v.category).sum ≤ 8)
    (K : Cal l D ad kA mi2 (.ref (ad (210 + i)) :: As) M (fun oc M' => ∃ v, oc = .returned v ∧ Fw l D ad kA mi (pc + 3) lo (v.toList ++ rest) M' Q)) : Fw l D ad kA mi pc lo st M Q := by
  intro p e s m args below meth c C H locs ls hP hS hl
  subst hst
  have hts := C.2.2.2.2.2.2.1
  have hrec : ∃ cell : Cell, H[ad (210 + i)]? = some cell ∧ cell.vm.isStatics = false ∧ s.vm.findClass mi2.y.cls = some cell.cls := by
    obtain ⟨cell, h1, h2, h3, -⟩ := (C.2.2.2.2.2.2.2.2.2.1.2.2.1 i hi).2.1.kept hS.2.1
    exact ⟨cell, h1, h2, by rw [hy]; exact h3⟩
  refine call_go (Q' := fun oc M' => ∃ v, oc = .returned v ∧ Fw l D ad kA mi (pc + 3) lo (v.toList ++ rest) M' Q) (va_runV (cc := mi.cc) (As := As) (rest := rest) (Ts := lw_w) (own := mi.y.cls) (C := mi2.y.cls) (index := index) (bytes := mi2.cc) (maxL := mi2.nL) (ret := mi2.ret) (n := n) ⟨C.1, C.2.1, C.2.2.1, C.2.2.2.2.2.1, hts⟩ (K.met ?_) ⟨callB_of n hts (good_ws hk.2.2.1) rfl rfl rfl (hts _ hk.2.1) (hts _ hk.1) hk.2.2.2 hR, hts _ hv.1, hts _ hv.2⟩ ⟨CP.blind, hrec, fun U hU hW => ⟨rfl, CP.at C hP hS U hU hW⟩⟩ rfl hn hl.1 rfl (lv_room hw) d ⟨Nat.le_refl 0, Nat.le_refl 0⟩) hS ?_
  · rintro a st oc t ⟨⟨M', ⟨v, h, -⟩, -⟩, -⟩
    exact ⟨v, h⟩
  · rintro v M' H1 locs1 ⟨v', h1, h2⟩ hP1 hS1
    cases h1
    exact h2 p e s m args below meth c C H1 locs1 ls hP1 hS1 hl
theorem r_callS {index n : Nat} {As st : List Value} (d : decode mi.cc pc = .ok (.invokestatic index, 3)) (hk : Mk mi.y.cls index mi2 n) (hv : Cond.static mi2.y ∈ lw_w) (hR : Rm mi mi2) (hst : st = As.reverse ++ rest) (hn : As.length = n) (hw : (rest.map fun v => v.category).sum ≤ 8)
    (K : Cal l D ad kA mi2 As M (fun oc M' => ∃ v, oc = .returned v ∧ Fw l D ad kA mi (pc + 3) lo (v.toList ++ rest) M' Q)) : Fw l D ad kA mi pc lo st M Q := by
  intro p e s m args below meth c C H locs ls hP hS hl
  subst hst
  have hts := C.2.2.2.2.2.2.1
  refine call_go (Q' := fun oc M' => ∃ v, oc = .returned v ∧ Fw l D ad kA mi (pc + 3) lo (v.toList ++ rest) M' Q) (va_runS (cc := mi.cc) (As := As) (rest := rest) (Ts := lw_w) (own := mi.y.cls) (index := index) (bytes := mi2.cc) (maxL := mi2.nL) (ret := mi2.ret) (n := n) ⟨C.1, C.2.1, C.2.2.1, C.2.2.2.2.2.1, hts⟩ (K.met ?_) ⟨callB_of n hts (good_ws hk.2.2.1) rfl rfl rfl (hts _ hk.2.1) (hts _ hk.1) hk.2.2.2 hR, hts _ hv⟩ ⟨CP.blind, fun U hU hW => ⟨rfl, CP.at C hP hS U hU hW⟩⟩ rfl hn hl.1 rfl (lv_room hw) d ⟨Nat.le_refl 0, Nat.le_refl 0⟩) hS ?_
  · rintro a st oc t ⟨⟨M', ⟨v, h, -⟩, -⟩, -⟩
    exact ⟨v, h⟩
  · rintro v M' H1 locs1 ⟨v', h1, h2⟩ hP1 hS1
    cases h1
    exact h2 p e s m args below meth c C H1 locs1 ls hP1 hS1 hl
end Calls1
