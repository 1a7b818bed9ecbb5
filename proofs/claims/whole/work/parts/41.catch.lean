/-! A CATCH whose class may not have been resolved yet -/
theorem find_cold {E : CtlPost} {e : Env} {d : Bool} {acts : List Action} {s : State} {f : JFrame} {a : Addr} {Q : Handler → Pre} {x : ExceptionTableEntry} {t : List ExceptionTableEntry} {c : ClassId} {cell : Cell} {vm' : Vm} (hx : covers x f.pc = true) (h0 : x.catchType ≠ 0)
    (hg : (Jvm.resolveClass f.method.cls x.catchType).Gives e.toSetting s.vm (.ok c) vm') (hsz : vm'.classes.size ≤ s.vm.classes.size) (hcell : s.heap[a]? = some cell) (hobj : ∀ k, cell.vm ≠ .statics k)
    (hk : ∃ k, vm'.classes[cell.cls]? = some k) (hc : ∃ k, vm'.classes[c]? = some k) (hfit : vm'.assignable cell.cls c = true) :
    wp (findHandler.go f a (x :: t)) Q E e d acts s ↔ Q (.found x.handlerPc) d acts (s.setVm vm') := by
  simp only [covers] at hx
  obtain ⟨ha, ht⟩ := hg.op (op := VmOp.resolveClass f.method.cls x.catchType) rfl
  have hcell' : (s.setVm vm').heap[a]? = some cell := hcell
  simp [findHandler.go, hx, h0, ha, ht, hsz, hcell, hobj, hk, hc, hfit, VmOp.dirties, VmOp.acts]
theorem stepThrowing_catchC {e : Env} {s : State} {a : Addr} {f : JFrame} {r : List Frame} {pc : Nat} {vm' : Vm} (hfind : ∀ (Q : Handler → Pre) (E : CtlPost) (d : Bool) (acts : List Action), wp (findHandler f a) Q E e d acts s ↔ Q (.found pc) d acts (s.setVm vm')) :
    (stepThrowing e s a (.java f :: r)).Is ((s.setVm vm').setFrames (.java { f with pc := pc, stack := [.ref a] } :: r)) [] := by
  simp only [stepThrowing, searchFrame, vmDo]
  generalize hr : Sem.go _ e false [] s = res
  obtain ⟨as, rfl, ha⟩ := Sem.eq_ok_of hr (a := Handler.found pc) (s' := s.setVm vm') (acts' := []) (by simp [hfind _ _ _ _])
  exact ⟨rfl, ha⟩
theorem caughtC {tb : Tables} {e : Env} {s target : State} {g : JFrame} {c : Code} {below : List Frame} {a : Addr} {vm' : Vm} (h : At s g.method c below) {pc : Nat} (hfind : ∀ (Q : Handler → Pre) (E : CtlPost) (d : Bool) (acts : List Action), wp (findHandler g a) Q E e d acts ((s.setTop g).pushFrame (.throwing a)) ↔ Q (.found pc) d acts (((s.setTop g).pushFrame (.throwing a)).setVm vm'))
    (hrest : Steps tb e below ((s.setVm vm').setTop { g with pc := pc, stack := [.ref a] }) target) :
    Steps tb e below ((s.setTop g).pushFrame (.throwing a)) target := by
  obtain ⟨hgo, hw⟩ := h.throwing a
  refine Steps.head hgo hw ?_
  rw [stepThread_throwing (frames_entered h.top _), (stepThrowing_catchC (s := (s.setTop g).pushFrame (.throwing a)) hfind).1]
  obtain ⟨g₀, hg⟩ := Option.isSome_iff_exists.mp h.top
  obtain ⟨r, hr⟩ := State.topJava?_eq_some.mp hg
  have hr' : (s.setVm vm').frames = .java g₀ :: r := hr
  rw [State.setTop_of_frames _ hr'] at hrest
  have e1 : ((s.setTop g).pushFrame (.throwing a)).setVm vm' = ((s.setVm vm').setTop g).pushFrame (.throwing a) := rfl
  rw [e1, State.pushFrame, State.setFrames_setFrames, State.setTop_of_frames _ hr', State.setFrames_setFrames, hr]
  exact hrest
theorem w_stop : Cond.classLink RX13 122 RX12 ∈ lw_w := by decide +kernel
theorem sh_53 : ∃ fs, shL[53]? = some (.inr (12, fs)) := ⟨_, rfl⟩
section Catch
variable {l : Launch} {D : va_G} {ad : Nat → Nat} {kA : Nat → ClassId} {mi mi2 : MI} {pc : Nat} {lo lo' : List (Option Value)} {rest : List Value} {M : Mem} {Q : Outcome → Mem → Prop}
/-- Stop is caught by the one handler of the model's three methods -/
theorem r_catch (hh : mi.hh = [(0, 9, 12, 122)]) (hy : mi.y.cls = RX13) (hp : pc < 9) (K : Fw l D ad kA mi 12 lo [.ref (ad 53)] M Q) : Ft l D ad kA mi pc lo (ad 53) M Q := by
  intro p e s m args below meth c C H locs ls hP hS hl st T hT X
  have hts := C.2.2.2.2.2.2.1
  have hown : s.vm.findClass RX13 = some m.cls := by rw [← hy]; exact C.2.2.2.2.2.1
  obtain ⟨fs, hsh⟩ := sh_53
  obtain ⟨cell, hcell, hobj, hcls⟩ := recv_at C hP hsh (q := (RX12, TX12, 6)) rfl
  obtain ⟨cc, hfcc, hcl⟩ := Cond.classLink_spec hown (hts _ w_stop) e.platform (by rw [X.admits.platform])
  have hcc : cc = cell.cls := Option.some.inj (hfcc.symm.trans hcls)
  subst hcc
  obtain ⟨hg₁, hwarm₁, hready₁⟩ := State.classEntry (e := e) X.warmed hcl
  have hsz : (T.vm.noted m.cls 122 (.cls cell.cls)).classes.size ≤ T.vm.classes.size := by no_record
  generalize T.vm.noted m.cls 122 (.cls cell.cls) = vm₁ at hg₁ hwarm₁ hready₁ hsz
  obtain ⟨-, hfc, kC, hkC, -⟩ := C.2.2.2.2.2.2.2.1.1 12 _ (rfl : cls[12]? = some (RX12, TX12, 6))
  have hkc : s.vm.classes[cell.cls]? = some kC := by
    have : D.1 12 = cell.cls := Option.some.inj (hfc.symm.trans hcls)
    rw [← this]; exact hkC
  obtain ⟨k₁, hk₁, -⟩ := hwarm₁.alike.2.2 _ _ hkc
  have X₁ := X.noted hwarm₁
  obtain ⟨t, h1, h2⟩ := K p e s m args below meth c C H locs ls hP hS hl (T.setVm vm₁) hT X₁
  refine ⟨t, ?_, h2⟩
  have hex := C.2.2.2.2.2.2.2.2.2.2
  rw [hh] at hex
  obtain ⟨en, hen, henq⟩ : ∃ en, c.exceptionTable.toList = [en] ∧ (en.startPc, en.endPc, en.handlerPc, en.catchType) = (0, 9, 12, 122) := by
    cases hL : c.exceptionTable.toList with
    | nil => rw [hL] at hex; cases hex
    | cons a b =>
      rw [hL] at hex
      simp only [List.map_cons, List.cons.injEq, List.map_eq_nil_iff] at hex
      exact ⟨a, by rw [hex.2], hex.1⟩
  simp only [Prod.mk.injEq] at henq
  obtain ⟨q1, q2, q3, q4⟩ := henq
  refine caughtC (g := F0 m pc ls st) (pc := 12) (vm' := vm₁) X.here (fun Q E d acts => ?_) h1
  have hm' : ((T.setTop (F0 m pc ls st)).pushFrame (.throwing (ad 53))).vm.method? (F0 m pc ls st).method = some meth := by
    rw [throwing_vm]; exact X.method'
  rw [W.findHandler_eq hm' X.code, hen]
  rw [find_cold (c := cell.cls) (cell := cell) (vm' := vm₁) (by simp [covers, q1, q2]; exact hp) (by rw [q4]; decide) (by rw [q4, throwing_vm]; exact hg₁) (by rw [throwing_vm]; exact hsz) (by rw [throwing_heap, hT]; exact hcell) (fun k hk => by rw [hk] at hobj; cases hobj) ⟨k₁, hk₁⟩ ⟨k₁, hk₁⟩ (va_asg _ _), q3]
theorem r_aret {x : Nat} {n : String} (d : decode mi.cc pc = .ok (.areturn, 1)) (hr : mi.ret = some (.object n)) (hq : Q (.returned (some (.ref x))) M) : Fw l D ad kA mi pc lo [.ref x] M Q := by
  intro p e s m args below meth c C H locs ls hP hS hl
  exact W.imp MQ.x (W.aret C.1 C.2.1 (C.2.2.2.1.trans hr) (Or.inl ⟨n, rfl⟩) (Or.inr ⟨x, rfl⟩) (fun t ht _ => po_of hq hP hS ht) hS.2.2 d C.2.2.2.2.1)
theorem cal_r {av : List Value} {x : Nat} (h : LoS lo' lo) (K : Cal l D ad kA mi2 av M (fun oc M2 => oc = .returned (some (.ref x)) ∧ Fw l D ad kA mi pc lo' (.ref x :: rest) M2 Q)) : Cal l D ad kA mi2 av M (fun oc M2 => ∃ v, oc = .returned v ∧ Fw l D ad kA mi pc lo (v.toList ++ rest) M2 Q) := K.imp (fun _ _ ⟨h1, h2⟩ => ⟨_, h1, q_weak h h2⟩)
/-- a call that may throw, in a method without handlers -/
theorem cal_xi {av : List Value} {pc0 : Nat} (hh : mi.hh = []) (h : LoS lo' lo) (K : Cal l D ad kA mi2 av M (fun oc M2 => (∃ r : Int32, oc = .returned (some (.int r)) ∧ Fw l D ad kA mi pc lo' (.int r :: rest) M2 Q) ∨ (oc = .threw (ad 53) ∧ Q (.threw (ad 53)) M2))) : Cal l D ad kA mi2 av M (fun oc M2 => (∃ v, oc = .returned v ∧ Fw l D ad kA mi pc lo (v.toList ++ rest) M2 Q) ∨ ∃ a, oc = .threw a ∧ Ft l D ad kA mi pc0 lo a M2 Q) := K.imp (fun _ _ h9 => h9.elim (fun ⟨r, h1, h2⟩ => Or.inl ⟨_, h1, q_weak h h2⟩) (fun ⟨h1, h2⟩ => Or.inr ⟨_, h1, r_throwOut hh h2⟩))
theorem cal_xv {av : List Value} {pc0 : Nat} (hh : mi.hh = []) (h : LoS lo' lo) (K : Cal l D ad kA mi2 av M (fun oc M2 => (oc = .returned none ∧ Fw l D ad kA mi pc lo' rest M2 Q) ∨ (oc = .threw (ad 53) ∧ Q (.threw (ad 53)) M2))) : Cal l D ad kA mi2 av M (fun oc M2 => (∃ v, oc = .returned v ∧ Fw l D ad kA mi pc lo (v.toList ++ rest) M2 Q) ∨ ∃ a, oc = .threw a ∧ Ft l D ad kA mi pc0 lo a M2 Q) := K.imp (fun _ _ h9 => h9.elim (fun ⟨h1, h2⟩ => Or.inl ⟨_, h1, q_weak h h2⟩) (fun ⟨h1, h2⟩ => Or.inr ⟨_, h1, r_throwOut hh h2⟩))
/-- a call that may throw, in one of the three methods with the handler -/
theorem cal_hi {av : List Value} {pc0 : Nat} {lo2 : List (Option Value)} (hh : mi.hh = [(0, 9, 12, 122)]) (hy : mi.y.cls = RX13) (hp : pc0 < 9) (h : LoS lo' lo) (h2 : LoS lo2 lo) (K : Cal l D ad kA mi2 av M (fun oc M2 => (∃ r : Int32, oc = .returned (some (.int r)) ∧ Fw l D ad kA mi pc lo' (.int r :: rest) M2 Q) ∨ (oc = .threw (ad 53) ∧ Fw l D ad kA mi 12 lo2 [.ref (ad 53)] M2 Q))) : Cal l D ad kA mi2 av M (fun oc M2 => (∃ v, oc = .returned v ∧ Fw l D ad kA mi pc lo (v.toList ++ rest) M2 Q) ∨ ∃ a, oc = .threw a ∧ Ft l D ad kA mi pc0 lo a M2 Q) := K.imp (fun _ _ h9 => h9.elim (fun ⟨r, h1, h3⟩ => Or.inl ⟨_, h1, q_weak h h3⟩) (fun ⟨h1, h3⟩ => Or.inr ⟨_, h1, r_catch hh hy hp (q_weak h2 h3)⟩))
theorem cal_hv {av : List Value} {pc0 : Nat} {lo2 : List (Option Value)} (hh : mi.hh = [(0, 9, 12, 122)]) (hy : mi.y.cls = RX13) (hp : pc0 < 9) (h : LoS lo' lo) (h2 : LoS lo2 lo) (K : Cal l D ad kA mi2 av M (fun oc M2 => (oc = .returned none ∧ Fw l D ad kA mi pc lo' rest M2 Q) ∨ (oc = .threw (ad 53) ∧ Fw l D ad kA mi 12 lo2 [.ref (ad 53)] M2 Q))) : Cal l D ad kA mi2 av M (fun oc M2 => (∃ v, oc = .returned v ∧ Fw l D ad kA mi pc lo (v.toList ++ rest) M2 Q) ∨ ∃ a, oc = .threw a ∧ Ft l D ad kA mi pc0 lo a M2 Q) := K.imp (fun _ _ h9 => h9.elim (fun ⟨h1, h3⟩ => Or.inl ⟨_, h1, q_weak h h3⟩) (fun ⟨h1, h3⟩ => Or.inr ⟨_, h1, r_catch hh hy hp (q_weak h2 h3)⟩))
/-- a method with a handler, as the law calls it -/
def wsH (mi : MI) : List Cond := .codeWith mi.y mi.cc mi.nL mi.ret mi.hh :: lw_w
def CalH (l : Launch) (D : va_G) (ad : Nat → Nat) (kA : Nat → ClassId) (mi : MI) (av : List Value) (M : Mem) (Q : Outcome → Mem → Prop) : Prop :=
  MetX l mi.y (wsH mi) (rmOf mi) (va_Pc av (CP D ad kA M)) (Po D ad kA Q) (AW ad)
theorem CalH.of {av : List Value} (hy : plainName mi.y.cls = true) (hlo : lv_args 0 av = lp lo) (hlen : (lg_sl av).length ≤ mi.nL) (K : Fw l D ad kA mi 0 lo [] M Q) : CalH l D ad kA mi av M Q := by
  unfold CalH MetX
  refine MetFree.of_bodyS (code := mi.cc) (maxLocals := mi.nL) (ret := mi.ret) hy ?_ ?_
  · intro args s m h hn
    obtain ⟨m9, meth, c, hn9, h1, h2, h3, h4, -, h5, h6, -⟩ := Cond.codeWith_spec (atoms_spec (ws := wsH mi) h _ List.mem_cons_self)
    cases hn.symm.trans hn9
    exact ⟨meth, c, h1, h2, h3, h4, h5, h6⟩
  · intro p e s m args below meth c s₁ B hml hP _
    have hh0 : s₁.heap = s.heap := by rw [B.state]; rfl
    obtain ⟨rfl, hP, hK, hap, hO⟩ := hP
    have hts : ∀ w ∈ wsH mi, w.before av.toArray s = true := atoms_spec (ws := wsH mi) B.pre
    have hex : c.exceptionTable.toList.map (fun h => (h.startPc, h.endPc, h.handlerPc, h.catchType)) = mi.hh := by
      obtain ⟨m9, meth9, c9, hn9, h1, h2, h3, h4, h7, h5, h6, -⟩ := Cond.codeWith_spec (hts _ List.mem_cons_self)
      cases B.named.symm.trans hn9
      cases B.method.symm.trans h1
      cases (Stand.of_body B).code.symm.trans h2
      exact h7
    have hl := lv_entry av (n := mi.nL) hlen
    have C : Cx D ad kA mi p s m av.toArray meth c := ⟨B.exec, B.bytes, hml, B.returns, B.notSynchronized, findClass_of_methodNamed B.named, fun w hw => hts w (List.mem_cons_of_mem _ hw), hK, hap, hO, hex⟩
    have k := K p e s m av.toArray below meth c C s.heap [] _ hP va_S.rf (by rw [← hlo]; exact hl)
    rw [← lg_entry_eq] at k
    obtain ⟨t, a1, oc, b1, b2, b3⟩ := k s₁ hh0 (Stand.of_body B)
    exact ⟨t, oc, a1, b1, b2, b3⟩
end Catch
