/-! A CATCH whose class may not have been resolved yet -/
theorem find_cold {E : CtlPost} {e : Env} {d : Bool} {acts : List Action} {s : State} {f : JFrame} {a : Addr} {Q : Handler → Pre} {x : ExceptionTableEntry} {t : List ExceptionTableEntry} {c : ClassId} {cell : Cell} {vm' : Vm} (hx : covers x f.pc = true) (h0 : x.catchType ≠ 0)
    (hg : (Jvm.resolveClass f.method.cls x.catchType).Gives e.toSetting s.vm (.ok c) vm') (hsz : vm'.classes.size ≤ s.vm.classes.size) (hcell : s.heap[a]? = some cell) (hobj : ∀ k, cell.vm ≠ .statics k)
    (hk : ∃ k, vm'.classes[cell.cls]? = some k) (hc : ∃ k, vm'.classes[c]? = some k) (hfit : vm'.assignable cell.cls c = true) :
    wp (findHandler.go f a (x :: t)) Q E e d acts s ↔ Q (.found x.handlerPc) d acts (s.setVm vm') := by
  simp only [covers] at hx
  obtain ⟨ha, ht⟩ := hg.op (op := VmOp.resolveClass f.method.cls x.catchType) rfl
  have hcell' : (s.setVm vm').heap[a]? = some cell := hcell
  simp [findHandler.go, hx, h0, ha, ht, hsz, hcell, hobj, hk, hc, hfit, VmOp.dirties, VmOp.acts]
theorem stepThrowing_catchC {e : Env} {s : State} {a : Addr} {f : JFrame} {r : List Frame} {pc : Nat} {vm' : Vm} (hfind : ∀ (Q : Handler → Pre) (E : CtlPost) (d : Bool) (acts : List Action), wp (findHandler f a) Q E e d acts s ↔ Q (.found pc) d acts (s.setVm vm')) :
    (stepThrowing e s a (.java f :: r)).Is ((s.setVm vm').setFrames (.java { f with pc := pc, stack := [.ref a] } :: r)) [] := by
  simp only [stepThrowing, searchFrame, vmDo]
  generalize hr : Sem.go _ e false [] s = res
  obtain ⟨as, rfl, ha⟩ := Sem.eq_ok_of hr (a := Handler.found pc) (s' := s.setVm vm') (acts' := []) (by simp [hfind _ _ _ _])
  exact ⟨rfl, ha⟩
theorem caughtC {tb : Tables} {e : Env} {s target : State} {g : JFrame} {c : Code} {below : List Frame} {a : Addr} {vm' : Vm} (h : At s g.method c below) {pc : Nat} (hfind : ∀ (Q : Handler → Pre) (E : CtlPost) (d : Bool) (acts : List Action), wp (findHandler g a) Q E e d acts ((s.setTop g).pushFrame (.throwing a)) ↔ Q (.found pc) d acts (((s.setTop g).pushFrame (.throwing a)).setVm vm'))
    (hrest : Steps tb e below ((s.setVm vm').setTop { g with pc := pc, stack := [.ref a] }) target) :
    Steps tb e below ((s.setTop g).pushFrame (.throwing a)) target := by
  obtain ⟨hgo, hw⟩ := h.throwing a
  refine Steps.head hgo hw ?_
  rw [stepThread_throwing (frames_entered h.top _), (stepThrowing_catchC (s := (s.setTop g).pushFrame (.throwing a)) hfind).1]
  obtain ⟨g₀, hg⟩ := Option.isSome_iff_exists.mp h.top
  obtain ⟨r, hr⟩ := State.topJava?_eq_some.mp hg
  have hr' : (s.setVm vm').frames = .java g₀ :: r := hr
  rw [State.setTop_of_frames _ hr'] at hrest
  have e1 : ((s.setTop g).pushFrame (.throwing a)).setVm vm' = ((s.setVm vm').setTop g).pushFrame (.throwing a) := rfl
  rw [e1, State.pushFrame, State.setFrames_setFrames, State.setTop_of_frames _ hr', State.setFrames_setFrames, hr]
  exact hrest
theorem w_stop : Cond.classLink RX13 122 RX12 ∈ lw_w := by decide +kernel
theorem sh_53 : ∃ fs, shL[53]? = some (.inr (12, fs)) := ⟨_, rfl⟩
section Catch
variable {l : Launch} {D : va_G} {ad : Nat → Nat} {kA : Nat → ClassId} {mi mi2 : MI} {pc : Nat} {lo lo' : List (Option Value)} {rest : List Value} {M : Mem} {Q : Outcome → Mem → Prop}
/-- Stop is caught by the one handler of the model's three methods -/
theorem r_catch (hh : mi.hh = [(0, 9, 12, 122)]) (hy : mi.y.cls = RX13) (hp : pc < 9) (K : Fw l D ad kA mi 12 lo [.ref (ad 53)] M Q) : Ft l D ad kA mi pc lo (ad 53) M Q := by
  intro p e s m args below meth c C H locs ls hP hS hl st T hT X
  have hts := C.2.2.2.2.2.2.1
  have hown : s.vm.findClass RX13 = some m.cls := by rw [← hy]; exact C.2.2.2.2.2.1
  obtain ⟨fs, hsh⟩ := sh_53
  obtain ⟨cell, hcell, hobj, hcls⟩ := recv_at C hP hsh (q := (RX12, TX12, 6)) rfl
  obtain ⟨cc, hfcc, hcl⟩ := Cond.classLink_spec hown (hts _ w_stop) e.platform (by rw [X.admits.platform])
  have hcc : cc = cell.cls := Option.some.inj (hfcc.symm.trans hcls)
  subst hcc
  obtain ⟨hg₁, hwarm₁, hready₁⟩ := State.classEntry (e := e) X.warmed hcl
  have hsz : (T.vm.noted m.cls 122 (.cls cell.cls)).classes.size ≤ T.vm.classes.size := by no_record
  generalize T.vm.noted m.cls 122 (.cls cell.cls) = vm₁ at hg₁ hwarm₁ hready₁ hsz
  obtain ⟨-, hfc, kC, hkC, -⟩ := C.2.2.2.2.2.2.2.1.1 12 _ (rfl : cls[12]? = some (RX12, TX12, 6))
  have hkc : s.vm.classes[cell.cls]? = some kC := by
    have : D.1 12 = cell.cls := Option.some.inj (hfc.symm.trans hcls)
    rw [← this]; exact hkC
  obtain ⟨k₁, hk₁, -⟩ := hwarm₁.alike.2.2 _ _ hkc
  have X₁ := X.noted hwarm₁
  obtain ⟨t, h1, h2⟩ := K p e s m args below meth c C H locs ls hP hS hl (T.setVm vm₁) hT X₁
  refine ⟨t, ?_, h2⟩
  have hex := C.2.2.2.2.2.2.2.2.2.2
  rw [hh] at hex
  obtain ⟨en, hen, henq⟩ : ∃ en, c.exceptionTable.toList = [en] ∧ (en.startPc, en.endPc, en.handlerPc, en.catchType) = (0, 9, 12, 122) := by
    cases hL : c.exceptionTable.toList with
    | nil => rw [hL] at hex; cases hex
    | cons a b =>
      rw [hL] at hex
      simp only [List.map_cons, List.cons.injEq, List.map_eq_nil_iff] at hex
      exact ⟨a, by rw [hex.2], hex.1⟩
  simp only [Prod.mk.injEq] at henq
  obtain ⟨q1, q2, q3, q4⟩ := henq
  refine caughtC (g := F0 m pc ls st) (pc := 12) (vm' := vm₁) X.here (fun Q E d acts => ?_) h1
  have hm' : ((T.setTop (F0 m pc ls st)).pushFrame (.throwing (ad 53))).vm.method? (F0 m pc ls st).method = some meth := by
    rw [throwing_vm]; exact X.method'
  rw [W.findHandler_eq hm' X.code, hen]
  rw [find_cold (c := cell.cls) (cell := cell) (vm' := vm₁) (by simp [covers, q1, q2]; exact hp) (by rw [q4]; decide) (by rw [q4, throwing_vm]; exact hg₁) (by rw [throwing_vm]; exact hsz) (by rw [throwing_heap, hT]; exact hcell) (fun k hk => by rw [hk] at hobj; cases hobj) ⟨k₁, hk₁⟩ ⟨k₁, hk₁⟩ (va_asg _ _), q3]
end Catch
