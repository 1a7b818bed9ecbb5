/-! THROWS: a frame at which an exception stands; a call that may throw -/
def Ft (l : Launch) (D : va_G) (ad : Nat → Nat) (kA : Nat → ClassId) (mi : MI) (pc : Nat) (lo : List (Option Value)) (x : Nat) (M : Mem) (Q : Outcome → Mem → Prop) : Prop :=
  ∀ (p : Program) (e : Env) (s : State) (m : MethodId) (args : Array Value) (below : List Frame) (meth : Method) (c : Code), Cx D ad kA mi p s m args meth c → ∀ (H : Heap) (locs : List Loc) (ls : Array Slot), va_P D cls (wl ad kA M) H → va_S (AW ad) s.heap H locs → lv_has ls mi.nL (lp lo) → ∀ (st : List Value) (T : State), T.heap = H → Stand p l e (rmOf mi) s m args below meth c T locs 0 0 →
    ∃ t, Steps p.tables e below ((T.setTop (F0 m pc ls st)).pushFrame (.throwing x)) t ∧ MQX below (Po D ad kA Q) args s (AW ad) t
section Throws
variable {l : Launch} {D : va_G} {ad : Nat → Nat} {kA : Nat → ClassId} {mi mi2 : MI} {pc : Nat} {lo lo' : List (Option Value)} {rest : List Value} {M : Mem} {Q : Outcome → Mem → Prop}
theorem r_throwOut {x : Nat} (hh : mi.hh = []) (hq : Q (.threw x) M) : Ft l D ad kA mi pc lo x M Q := by
  intro p e s m args below meth c C H locs ls hP hS hl st T hT X
  have hex : c.exceptionTable.toList = [] := by
    have h := C.2.2.2.2.2.2.2.2.2.2
    rw [hh] at h
    exact List.map_eq_nil_iff.mp h
  obtain ⟨h1, h2, h3, h4, h5⟩ := X.leaveThrown x (g := F0 m pc ls st) rfl rfl rfl (fun y hy => by rw [hex] at hy; cases hy) C.2.2.2.2.1
  exact ⟨_, h1, .threw x, h2, h3, ⟨⟨M, hq, by rw [show (T.setFrames (.throwing x :: below)).heap = T.heap from rfl, hT]; exact hP⟩, hS.F (by rw [show (T.setFrames (.throwing x :: below)).heap = T.heap from rfl, hT])⟩, locs, ⟨h4, h5⟩, hS.2.2⟩
theorem r_athrow {x : Nat} (d : decode mi.cc pc = .ok (.athrow, 1)) (K : Ft l D ad kA mi pc lo x M Q) : Fw l D ad kA mi pc lo (.ref x :: rest) M Q := by
  intro p e s m args below meth c C H locs ls hP hS hl T hT X
  obtain ⟨t, h1, h2⟩ := K p e s m args below meth c C H locs ls hP hS hl rest T hT X
  refine ⟨t, ?_, h2⟩
  have hexec := C.1
  have hdg : decode c.code pc = .ok (.athrow, 1) := by rw [C.2.1]; exact d
  have hg : (F0 m pc ls (.ref x :: rest)).stack = .ref x :: rest := rfl
  jvm_step X.here [hexec, hdg, athrow.wp_sem, hg]
  exact h1
theorem Ft.weak {x : Nat} (h : LoS lo' lo) (K : Ft l D ad kA mi pc lo' x M Q) : Ft l D ad kA mi pc lo x M Q := by
  intro p e s m args below meth c C H locs ls hP hS hl
  exact K p e s m args below meth c C H locs ls hP hS (lp_sub hl h.sub)
/-- a call that returns or throws: the receiver a cell of the world -/
theorem r_callX {x index n : Nat} {As st : List Value} (d : decode mi.cc pc = .ok (.invokevirtual index, 3)) (hk : Mk mi.y.cls index mi2 n) (hv : MkV mi2) (hR : Rm mi mi2) (hst : st = As.reverse ++ .ref (ad x) :: rest) (hn : As.length = n) (hx : (do let sh ← shL[x]?; match sh with | .inr q => (cls[q.1]?).map (fun t => t.1) | .inl _ => none) = some mi2.y.cls) (hw : (rest.map fun v => v.category).sum ≤ 8)
    (K : Cal l D ad kA mi2 (.ref (ad x) :: As) M (fun oc M' => (∃ v, oc = .returned v ∧ Fw l D ad kA mi (pc + 3) lo (v.toList ++ rest) M' Q) ∨ ∃ a, oc = .threw a ∧ Ft l D ad kA mi pc lo a M' Q)) : Fw l D ad kA mi pc lo st M Q := by
  intro p e s m args below meth c C H locs ls hP hS hl T hT X
  subst hst
  have hts := C.2.2.2.2.2.2.1
  have hown := C.2.2.2.2.2.1
  have hrec : ∃ cell : Cell, H[ad x]? = some cell ∧ cell.vm.isStatics = false ∧ s.vm.findClass mi2.y.cls = some cell.cls := by
    cases hsx : shL[x]? with
    | none => rw [hsx] at hx; cases hx
    | some sh =>
      rw [hsx] at hx
      cases sh with
      | inl q => cases hx
      | inr q =>
        cases hcq : cls[q.1]? with
        | none => simp only [Option.bind_eq_bind, Option.bind_some, hcq] at hx; cases hx
        | some t =>
          simp only [Option.bind_eq_bind, Option.bind_some, hcq, Option.map_some, Option.some.injEq] at hx
          have hrec := recv_at C hP (ci := q.1) (fs := q.2) hsx hcq
          rw [hx] at hrec
          exact hrec
  obtain ⟨cellB, hcell, hobj, hcls⟩ := hrec
  obtain ⟨mk, methM, hnamed, hmethM, hstM, habM⟩ := Cond.instanceMethod_spec (hts _ hv.1)
  obtain ⟨methM', cM, hmethM', hcM, -, hlM, -, -, -, hsigM⟩ := Cond.code_spec hnamed (hts _ hk.2.2.1)
  cases hmethM.symm.trans hmethM'
  have hy : mi2.y.cls ≠ "java/lang/invoke/MethodHandle" ∧ mi2.y.cls ≠ "java/lang/invoke/VarHandle" := ⟨hk.2.2.2.1, hk.2.2.2.2.1⟩
  obtain ⟨c2, r2, m2, q1, q2, q3, q4, kP, hkP, hkPi⟩ := Cond.selects_spec (hts _ hv.2)
  cases hcls.symm.trans q1
  cases (State.methodFound?_of_named hnamed hy).symm.trans q2
  cases hnamed.symm.trans q3
  have hselP : selectMethod e.platform s.vm cellB.cls mk = .method mk := by rw [Launch.admits_selectMethod X.admits]; exact q4
  have hlen : As.length = methM.sig.parameters.length := by
    have h2 := hk.2.2.2.2.2
    rw [hsigM] at h2
    rw [hn]
    exact (Option.some.inj h2).symm
  have hdg : decode c.code (F0 m pc ls (As.reverse ++ .ref (ad x) :: rest)).pc = .ok (.invokevirtual index, 3) := by rw [C.2.1]; exact d
  obtain ⟨vm₁, X₁, hstep₁⟩ := X.invokevirtual C.1 hown (hts _ hk.1) hnamed hmethM hstM hkP hkPi hy (a := ad x) (cell := cellB) (by rw [hT]; exact hcell)
    (fun z h => by rw [h] at hobj; cases hobj) hselP hmethM habM hkP hkPi (g := F0 m pc ls (As.reverse ++ .ref (ad x) :: rest)) rfl (argsL := As) (rest := rest) hlen rfl hdg
  have hmono : 2 * (F0 m pc ls rest).monitorRoom + (rest.map fun v => v.category).sum ≤ 8 := lv_room hw
  have hpay : ∀ w ∈ wsOf mi2, ∀ (a' : Array Value) (U : State), s.WarmedH U.vm → w.before a' U = true := pay_in hts (good_ws hk.2.2.1)
  have hini : ∀ (a' : Array Value) (U : State), s.WarmedH U.vm → (Cond.initialized mi2.y.cls).before a' U = true := fun a' U hW => word_at hW (Or.inl (by first | rfl | simp [Cond.onTables, Cond.keeps, Cond.steady])) (hts _ hk.2.1)
  have hUT : (T.setVm vm₁).heap = H := hT
  generalize T.setVm vm₁ = U at X₁ hstep₁ hUT
  have hAt : At U (F0 m pc ls rest).method c below := X₁.here
  have hn' : U.methodNamed? mi2.y = some mk := X₁.named hnamed
  obtain ⟨methY, cY, hmY, hcY, -, hlY, -, -, -, -⟩ := Cond.code_spec hn' (hpay _ (by exact List.mem_cons_self) (Value.ref (ad x) :: As).toArray U X₁.warmed)
  obtain ⟨kY, hkY, -⟩ := className_of_methodNamed hn'
  have hinitY : kY.init = .initialized := Cond.initialized_spec (findClass_of_methodNamed hn') hkY (hini (Value.ref (ad x) :: As).toArray U X₁.warmed)
  have hdg2 : decode c.code (F0 m pc ls rest).pc = .ok (.invokevirtual index, 3) := by rw [C.2.1]; exact d
  have happ : (headSpec (wsOf mi2) (rmOf mi2)).appliesLoose mi2.y e.platform (U.calling (F0 m pc ls rest) mk (Value.ref (ad x) :: As).toArray) = true :=
    Spec.appliesLoose_calling (g := F0 m pc ls rest) hAt hdg2 hn' hkY hinitY
      (X₁.room_calling (g := F0 m pc ls rest) (R' := rmOf mi2) (hl.1.trans C.2.2.1.symm) hmY hcY hR.1 (by
        have h2 := hR.2
        show _ ≤ mi.lw
        rw [hlY]
        have h3 : (rmOf mi2).locals = mi2.lw := rfl
        have h4 : (F0 m pc ls rest).stack = rest := rfl
        rw [h4]
        omega) (Nat.le_refl 0) (Nat.le_refl 0)) (atoms_intro fun w hw => hpay w hw _ _ X₁.warmed)
  obtain ⟨mid, hmid⟩ := hAt.above
  have hfr : (U.setTop (F0 m pc ls rest)).frames = (.java (F0 m pc ls rest) :: mid) ++ below := by rw [State.frames_setTop' _ hAt.top, hmid]; rfl
  have hcp : va_Pc (Value.ref (ad x) :: As) (CP D ad kA M) (Value.ref (ad x) :: As).toArray (U.calling (F0 m pc ls rest) mk (Value.ref (ad x) :: As).toArray) := CP.blind _ _ _ _ ⟨rfl, CP.at C hP hS U hUT X₁.warmed⟩
  unfold Cal MetX at K
  obtain ⟨oc, s₂, hsteps, -, hend, hq⟩ := Steps.callFree K p X₁.admits X₁.cas X₁.clock (acts := []) hfr happ hcp trivial
  rw [State.frames_setTop' _ hAt.top] at hend
  have hq' : Po D ad kA _ _ (U.calling (F0 m pc ls rest) mk (Value.ref (ad x) :: As).toArray) oc s₂ ∧ ∃ L, ((U.calling (F0 m pc ls rest) mk (Value.ref (ad x) :: As).toArray).WarmedH s₂.vm ∧ (U.calling (F0 m pc ls rest) mk (Value.ref (ad x) :: As).toArray).sameButNew ({ s₂ with vm := (U.calling (F0 m pc ls rest) mk (Value.ref (ad x) :: As).toArray).vm } : State) L 0 0) ∧ ∀ q ∈ L, AW ad q.base := hq
  obtain ⟨⟨⟨M', hor, hP2⟩, hz, hkp⟩, L, ⟨hW₂, hsame⟩, hL⟩ := hq'
  have hS2 : va_S (AW ad) s.heap s₂.heap (locs ++ L) := by
    have e0 : (U.calling (F0 m pc ls rest) mk (Value.ref (ad x) :: As).toArray).heap = H := hUT
    rw [e0] at hz hkp
    exact ⟨Nat.le_trans hS.1 hz, fun q h1 h2 => by rw [hkp q (Nat.lt_of_lt_of_le h1 hS.1) h2]; exact hS.2.1 q h1 h2, fun q hq => by
      rcases List.mem_append.mp hq with h | h
      · exact hS.2.2 q h
      · exact hL q h⟩
  rcases hor with ⟨v, rfl, hcont⟩ | ⟨a', rfl, hcont⟩
  · obtain ⟨e2, q2, q3, q4, q5, q6⟩ := hsame
    have e3 : s₂ = ({ (U.calling (F0 m pc ls rest) mk (Value.ref (ad x) :: As).toArray).setFrames s₂.frames with heap := s₂.heap, slotsUsed := s₂.slotsUsed } : State).setVm s₂.vm := by
      have : s₂ = ({ s₂ with vm := (U.calling (F0 m pc ls rest) mk (Value.ref (ad x) :: As).toArray).vm } : State).setVm s₂.vm := rfl
      rw [e2] at this
      exact this
    obtain ⟨c₂, i₂, len₂, hc₂, hd₂, hf₂⟩ := hend
    have hW' : U.WarmedH s₂.vm := hW₂
    have hcc : c₂ = c := by
      have h1 : s₂.code? (F0 m pc ls rest).method = U.code? (F0 m pc ls rest).method := by
        rw [State.code?_eq, State.code?_eq, hW'.alike.method?]
      exact Option.some.inj (hc₂.symm.trans (h1.trans hAt.code))
    subst hcc
    have hlen2 : len₂ = 3 := by rw [hdg2] at hd₂; cases hd₂; rfl
    subst hlen2
    obtain ⟨g₀, hg0⟩ := Option.isSome_iff_exists.mp hAt.top
    obtain ⟨r, hr⟩ := State.topJava?_eq_some.mp hg0
    have hs₂ : s₂ = (({ U with heap := s₂.heap, slotsUsed := s₂.slotsUsed } : State).setVm s₂.vm).setTop (F0 m (pc + 3) ls (v.toList ++ rest)) := by
      have hr' : (({ U with heap := s₂.heap, slotsUsed := s₂.slotsUsed } : State).setVm s₂.vm).frames = .java g₀ :: r := hr
      refine e3.trans ?_
      rw [hf₂, State.calling_eq hAt.top, State.setFrames_setFrames, State.setTop_of_frames _ hr', hr]
      rfl
    have hsame2 : U.sameButNew ({ U with heap := s₂.heap, slotsUsed := s₂.slotsUsed } : State) L 0 0 := by
      refine ⟨?_, q2, q3, q4, q5, q6⟩
      obtain ⟨t, ht, -⟩ := State.frames_cons hr
      show ({ U with heap := s₂.heap, slotsUsed := s₂.slotsUsed } : State) = { U.setFrames U.frames with heap := s₂.heap, slotsUsed := s₂.slotsUsed }
      rw [State.setFrames_self ht]
    have X' : Stand p l e (rmOf mi) s m args below meth c₂ (({ U with heap := s₂.heap, slotsUsed := s₂.slotsUsed } : State).setVm s₂.vm) (locs ++ L) (0 + 0) (0 + 0) :=
      ⟨X₁.admits, X₁.cas, X₁.clock, X₁.frames, X₁.room, X₁.hears, X₁.method, X₁.code, (X₁.here.setHeapUsed s₂.heap s₂.slotsUsed).setVm hW'.alike, X₁.tail, State.WarmedH.trans X₁.warmed hW', X₁.limits, X₁.bytes, X₁.same.trans (hsame2.setVm s.vm)⟩
    obtain ⟨t, h1, h2⟩ := hcont p e s m args below meth c₂ C s₂.heap (locs ++ L) ls hP2 hS2 hl (({ U with heap := s₂.heap, slotsUsed := s₂.slotsUsed } : State).setVm s₂.vm) rfl X'
    refine ⟨t, ?_, h2⟩
    rw [← hs₂] at h1
    exact hstep₁ _ fun acts => by rw [doInvoke_state]; exact hsteps.trans h1
  · have hend2 : Ended s₂ (.java (F0 m pc ls rest) :: below) (.threw a') := by
      have hb : U.frames.tail = below := X₁.tail
      rw [hb] at hend
      exact hend
    obtain ⟨T', X', hW', hB, ht⟩ := X₁.outOfThrown (g := F0 m pc ls rest) rfl hend2 hW₂ hsame
    have hh : T'.heap = s₂.heap := by rw [ht, throwing_heap]
    obtain ⟨t, h1, h2⟩ := hcont p e s m args below meth c C s₂.heap (locs ++ L) ls hP2 hS2 hl rest T' hh X'
    refine ⟨t, ?_, h2⟩
    rw [← ht] at h1
    exact hstep₁ _ fun acts => by rw [doInvoke_state]; exact hsteps.trans h1
end Throws
