/-! THE FRAME's JUDGEMENT, a rule an instruction -/
/-- a method: its name, bytes, locals, type, how many frames and words of locals it may need below itself, its handlers -/
abbrev MI : Type := MethodName × ByteArray × Nat × Option FieldType × Nat × Nat × List (Nat × Nat × Nat × Nat)
abbrev MI.y (mi : MI) : MethodName := mi.1
abbrev MI.cc (mi : MI) : ByteArray := mi.2.1
abbrev MI.nL (mi : MI) : Nat := mi.2.2.1
abbrev MI.ret (mi : MI) : Option FieldType := mi.2.2.2.1
abbrev MI.fr (mi : MI) : Nat := mi.2.2.2.2.1
abbrev MI.lw (mi : MI) : Nat := mi.2.2.2.2.2.1
abbrev MI.hh (mi : MI) : List (Nat × Nat × Nat × Nat) := mi.2.2.2.2.2.2
abbrev rmOf (mi : MI) : Room := { frames := mi.fr, cells := 0, slots := 0, locals := mi.lw }
def wsOf (mi : MI) : List Cond := .code mi.y mi.cc mi.nL mi.ret :: lw_w
abbrev tyK (kA : Nat → ClassId) : List (ClassId × FieldType) := [(kA 0, .int), (kA 1, .byte), (kA 2, .boolean), (kA 3, .long)]
def stN : List String := ["AT_FIRST", "LEAST", "GREATEST"]
def stV : List (List Int32) := [[1, 4, 12, 1], [0, 1, 0, 0], [9, 12, 47, 9]]
def scR : List (String × Nat × String) := [("BellTable$BeatText", 50, "at"), ("BellTable$BeatText", 98, "for"), ("BellTable$BeatText", 100, "stick"), ("BellTable$BeatText", 105, "shake"), ("BellTable$Manners", 78, "take"), ("BellTable$Manners", 83, "most"), ("BellTable$Manners", 85, "reach"), ("BellTable$Manners", 87, "stick"), ("BellTableModel", 81, "at"), ("BellTableModel", 101, "for"), ("BellTableModel", 103, "stick"), ("BellTableModel", 105, "shake"), ("BellTableModel", 252, "take"), ("BellTableModel", 254, "most"), ("BellTableModel", 256, "reach")]
def scB : List (List Int32) := [[97, 116], [102, 111, 114], [115, 116, 105, 99, 107], [115, 104, 97, 107, 101], [116, 97, 107, 101], [109, 111, 115, 116], [114, 101, 97, 99, 104], [115, 116, 105, 99, 107], [97, 116], [102, 111, 114], [115, 116, 105, 99, 107], [115, 104, 97, 107, 101], [116, 97, 107, 101], [109, 111, 115, 116], [114, 101, 97, 99, 104]]
def nestL : List (String × Nat) := [("BellTable$BeatText", 79), ("BellTable$Ranges", 69), ("BellTable$Days", 80)]
/-- what lies outside the world and is only read: three static rows, the String constants -/
def Out (ad : Nat → Nat) (U : State) (H : Heap) : Prop :=
  (∀ j, j < 3 → va_Z "BellTable$Manners" (stN.getD j "") "[I" (.ref (ad (200 + j))) (AW ad) U H ∧ va_T .int (ad (200 + j)) 4 (fun i => .int ((stV.getD j []).getD i 0)) (AW ad) U H) ∧
  va_Z "java/lang/String" "COMPACT_STRINGS" "Z" (.int 1) (AW ad) U H ∧
  (∀ i, i < 15 → vk_R (scR.getD i ("", 0, "")).1 (scR.getD i ("", 0, "")).2.1 (scR.getD i ("", 0, "")).2.2 (ad (210 + i)) U ∧ va_O "java/lang/String" (ad (210 + i)) (AW ad) U H ∧ va_OF "java/lang/String" "coder" "B" (.int 0) (ad (210 + i)) (AW ad) U H ∧ va_OF "java/lang/String" "value" "[B" (.ref (ad (230 + i))) (ad (210 + i)) (AW ad) U H ∧ va_T .byte (ad (230 + i)) (scB.getD i []).length (fun j => .int ((scB.getD i []).getD j 0)) (AW ad) U H) ∧
  (∀ q ∈ nestL, va_Nw (.methodLinkNest q.1 q.2 yX11_isBell "BellTable") U) ∧
  va_Zq "jdk/internal/util/Preconditions" "SIOOBE_FORMATTER" "Ljava/util/function/BiFunction;" (AW ad) U H
theorem va_Zq.kept2 {C n d : String} {A : Nat → Prop} {u U : State} {H H1 : Heap} (hvm : u.vm.Alike U.vm) (hq : ∀ a : Nat, a < H.size → ¬ A a → H1[a]? = H[a]?) (h : va_Zq C n d A u H) : va_Zq C n d A U H1 := by
  rcases h with h | ⟨t, h⟩
  · exact Or.inl ((h.moved hvm).kept hq)
  · exact Or.inr ⟨t, (h.moved hvm).kept hq⟩
theorem Out.warm {ad : Nat → Nat} {u U : State} {H H1 : Heap} (hW : u.WarmedH U.vm) (hq : ∀ a : Nat, a < H.size → ¬ AW ad a → H1[a]? = H[a]?) (h : Out ad u H) : Out ad U H1 :=
  ⟨fun j hj => ⟨((h.1 j hj).1.moved hW.alike).kept hq, ((h.1 j hj).2.moved hW.alike).kept hq⟩, (h.2.1.moved hW.alike).kept hq, fun i hi => ⟨(h.2.2.1 i hi).1.warm hW, ((h.2.2.1 i hi).2.1.moved hW.alike).kept hq, ((h.2.2.1 i hi).2.2.1.moved hW.alike).kept hq, ((h.2.2.1 i hi).2.2.2.1.moved hW.alike).kept hq, ((h.2.2.1 i hi).2.2.2.2.moved hW.alike).kept hq⟩, fun q hq => (h.2.2.2.1 q hq).warmM hW, h.2.2.2.2.kept2 hW.alike hq⟩
theorem Out.same {ad : Nat → Nat} {u U : State} {H : Heap} (hv : U.vm = u.vm) (h : Out ad u H) : Out ad U H :=
  have hA : u.vm.Alike U.vm := by rw [hv]; exact Vm.Alike.refl u.vm
  ⟨fun j hj => ⟨(h.1 j hj).1.moved hA, (h.1 j hj).2.moved hA⟩, h.2.1.moved hA, fun i hi => ⟨(h.2.2.1 i hi).1.same hv, (h.2.2.1 i hi).2.1.moved hA, (h.2.2.1 i hi).2.2.1.moved hA, (h.2.2.1 i hi).2.2.2.1.moved hA, (h.2.2.1 i hi).2.2.2.2.moved hA⟩, fun q hq => va_Nw.same rfl hv.symm (h.2.2.2.1 q hq), h.2.2.2.2.kept2 hA (fun _ _ _ => rfl)⟩
/-- what stands fast while a frame of the method runs -/
def Cx (D : va_G) (ad : Nat → Nat) (kA : Nat → ClassId) (mi : MI) (p : Program) (s : State) (m : MethodId) (args : Array Value) (meth : Method) (c : Code) : Prop :=
  p.tables.exec = Jvm.exec ∧ c.code = mi.cc ∧ c.maxLocals = mi.nL ∧ meth.sig.returnType = mi.ret ∧ meth.locks = false ∧ s.vm.findClass mi.y.cls = some m.cls ∧ (∀ w ∈ lw_w, w.before args s = true) ∧ va_K D cls (tyK kA) s ∧ apart ad ∧ Out ad s s.heap ∧ c.exceptionTable.toList.map (fun h => (h.startPc, h.endPc, h.handlerPc, h.catchType)) = mi.hh
/-- locals by their places -/
def lp (lo : List (Option Value)) : List (Nat × Value) := (lo.mapIdx (fun i q => q.map (fun v => (i, v)))).filterMap id
theorem lp_mem {lo : List (Option Value)} {i : Nat} {v : Value} : (i, v) ∈ lp lo ↔ lo[i]? = some (some v) := by
  simp only [lp, List.mem_filterMap, id]
  constructor
  · rintro ⟨a, h1, rfl⟩
    obtain ⟨j, hj⟩ := List.mem_iff_getElem?.mp h1
    rw [List.getElem?_mapIdx] at hj
    cases hq : lo[j]? with
    | none => rw [hq] at hj; cases hj
    | some q =>
      rw [hq] at hj
      cases q with
      | none => simp at hj
      | some w => simp at hj; obtain ⟨rfl, rfl⟩ := hj; exact hq
  · intro h
    refine ⟨some (i, v), List.mem_iff_getElem?.mpr ⟨i, ?_⟩, rfl⟩
    rw [List.getElem?_mapIdx, h]
    rfl
theorem lp_at {ls : Array Slot} {n : Nat} {lo : List (Option Value)} (h : lv_has ls n (lp lo)) {i : Nat} {v : Value} (hi : lo[i]? = some (some v)) : ls[i]? = some (.val v) := h.2.2 (i, v) (lp_mem.mpr hi)
theorem lp_sub {ls : Array Slot} {n : Nat} {lo lo' : List (Option Value)} (h : lv_has ls n (lp lo)) (hs : ∀ (i : Nat) (v : Value), lo'[i]? = some (some v) → lo[i]? = some (some v)) : lv_has ls n (lp lo') := ⟨h.1, h.2.1, fun q hq => h.2.2 q (lp_mem.mpr (hs q.1 q.2 (lp_mem.mp hq)))⟩
def isLg (q : Option Value) : Bool := match q with
  | some v => v.category == 2
  | none => false
/-- a store at i: what was there goes, and a long that reached into it -/
def lset (lo : List (Option Value)) (i : Nat) (v : Value) : List (Option Value) := lo.mapIdx (fun j q => if j = i then some v else if j + 1 = i ∧ isLg q = true then none else q)
def lset2 (lo : List (Option Value)) (i : Nat) (v : Value) : List (Option Value) := lo.mapIdx (fun j q => if j = i then some v else if j = i + 1 then none else if j + 1 = i ∧ isLg q = true then none else q)
theorem lset_has {ls : Array Slot} {n i : Nat} {v : Value} {lo : List (Option Value)} (h : lv_has ls n ((i, v) :: (lp lo).filter (fun q => !(q.1 == i) && !(q.1 + 1 == i && q.2.category == 2)))) : lv_has ls n (lp (lset lo i v)) := by
  refine ⟨h.1, h.2.1, fun q hq => h.2.2 q ?_⟩
  have h1 := lp_mem.mp (show (q.1, q.2) ∈ lp (lset lo i v) from hq)
  simp only [lset, List.getElem?_mapIdx, Option.map_eq_some_iff] at h1
  obtain ⟨x, hx, h2⟩ := h1
  by_cases e1 : q.1 = i
  · rw [if_pos e1] at h2
    cases h2
    exact List.mem_cons.mpr (Or.inl (by rw [← e1]))
  · rw [if_neg e1] at h2
    by_cases e2 : q.1 + 1 = i ∧ isLg x = true
    · rw [if_pos e2] at h2; cases h2
    · rw [if_neg e2] at h2
      subst h2
      refine List.mem_cons.mpr (Or.inr (List.mem_filter.mpr ⟨lp_mem.mpr hx, ?_⟩))
      simp only [Bool.and_eq_true, Bool.not_eq_true', beq_eq_false_iff_ne, ne_eq, Bool.and_eq_false_iff]
      refine ⟨e1, ?_⟩
      by_cases e3 : q.1 + 1 = i
      · exact Or.inr (fun e4 => e2 ⟨e3, by simp [isLg, e4]⟩)
      · exact Or.inl e3
theorem lset2_has {ls : Array Slot} {n i : Nat} {v : Value} {lo : List (Option Value)} (h : lv_has ls n ((i, v) :: (lp lo).filter (fun q => !(q.1 == i) && (!(q.1 == i + 1) && !(q.1 + 1 == i && q.2.category == 2))))) : lv_has ls n (lp (lset2 lo i v)) := by
  refine ⟨h.1, h.2.1, fun q hq => h.2.2 q ?_⟩
  have h1 := lp_mem.mp (show (q.1, q.2) ∈ lp (lset2 lo i v) from hq)
  simp only [lset2, List.getElem?_mapIdx, Option.map_eq_some_iff] at h1
  obtain ⟨x, hx, h2⟩ := h1
  by_cases e1 : q.1 = i
  · rw [if_pos e1] at h2
    cases h2
    exact List.mem_cons.mpr (Or.inl (by rw [← e1]))
  · rw [if_neg e1] at h2
    by_cases e0 : q.1 = i + 1
    · rw [if_pos e0] at h2; cases h2
    · rw [if_neg e0] at h2
      by_cases e2 : q.1 + 1 = i ∧ isLg x = true
      · rw [if_pos e2] at h2; cases h2
      · rw [if_neg e2] at h2
        subst h2
        refine List.mem_cons.mpr (Or.inr (List.mem_filter.mpr ⟨lp_mem.mpr hx, ?_⟩))
        simp only [Bool.and_eq_true, Bool.not_eq_true', beq_eq_false_iff_ne, ne_eq, Bool.and_eq_false_iff]
        refine ⟨e1, e0, ?_⟩
        by_cases e3 : q.1 + 1 = i
        · exact Or.inr (fun e4 => e2 ⟨e3, by simp [isLg, e4]⟩)
        · exact Or.inl e3
/-- a method's end: its outcome, the world behind it, nothing else changed -/
def Po (D : va_G) (ad : Nat → Nat) (kA : Nat → ClassId) (Q : Outcome → Mem → Prop) : Array Value → State → Outcome → State → Prop := fun _ st oc t => (∃ M', Q oc M' ∧ va_P D cls (wl ad kA M') t.heap) ∧ va_F (AW ad) st t
def MQX (below : List Frame) (Qc : Array Value → State → Outcome → State → Prop) (a : Array Value) (s : State) (free : Addr → Prop) : State → Prop := fun t =>
  ∃ oc, t.status = .running ∧ Ended t below oc ∧ Qc a s oc t ∧ ∃ L, (s.WarmedH t.vm ∧ s.sameButNew ({ t with vm := s.vm } : State) L 0 0) ∧ ∀ q ∈ L, free q.base
theorem W.imp {p : Program} {l : Launch} {e : Env} {R : Room} {s : State} {m : MethodId} {args : Array Value} {below : List Frame} {meth : Method} {c : Code} {H : Heap} {locs : List Loc} {cells slots : Nat} {Q Q' : State → Prop} {g : JFrame} (h : ∀ t, Q t → Q' t) (k : W p l e R s m args below meth c H locs cells slots Q g) : W p l e R s m args below meth c H locs cells slots Q' g := by
  intro T hT X
  obtain ⟨t, h1, h2⟩ := k T hT X
  exact ⟨t, h1, h t h2⟩
theorem MQ.x {below : List Frame} {Qc : Array Value → State → Outcome → State → Prop} {a : Array Value} {s : State} {free : Addr → Prop} : ∀ t, MQ below Qc a s 0 0 free t → MQX below Qc a s free t := by
  rintro t ⟨oc, h1, h2, h3, L, ⟨-, h4, h5⟩, h6⟩
  exact ⟨oc, h1, h2, h3, L, ⟨h4, h5⟩, h6⟩
def Fw (l : Launch) (D : va_G) (ad : Nat → Nat) (kA : Nat → ClassId) (mi : MI) (pc : Nat) (lo : List (Option Value)) (st : List Value) (M : Mem) (Q : Outcome → Mem → Prop) : Prop :=
  ∀ (p : Program) (e : Env) (s : State) (m : MethodId) (args : Array Value) (below : List Frame) (meth : Method) (c : Code), Cx D ad kA mi p s m args meth c → ∀ (H : Heap) (locs : List Loc) (ls : Array Slot), va_P D cls (wl ad kA M) H → va_S (AW ad) s.heap H locs → lv_has ls mi.nL (lp lo) →
    W p l e (rmOf mi) s m args below meth c H locs 0 0 (MQX below (Po D ad kA Q) args s (AW ad)) (F0 m pc ls st)
section Rules
variable {l : Launch} {D : va_G} {ad : Nat → Nat} {kA : Nat → ClassId} {mi : MI} {pc : Nat} {lo : List (Option Value)} {rest : List Value} {M : Mem} {Q : Outcome → Mem → Prop}
theorem r_iload_n {k : Fin 4} {x : Int32} (d : decode mi.cc pc = .ok (.iload_n k, 1)) (h : lo[k.val]? = some (some (.int x))) (K : Fw l D ad kA mi (pc + 1) lo (.int x :: rest) M Q) : Fw l D ad kA mi pc lo (rest) M Q := by
  intro p e s m args below meth c C H locs ls hP hS hl
  exact lv_iload_n C.1 C.2.1 d rfl (lp_at hl h) (K p e s m args below meth c C H locs ls hP hS hl)
theorem r_iload {i : Nat} {x : Int32} (d : decode mi.cc pc = .ok (.iload i, 2)) (h : lo[i]? = some (some (.int x))) (K : Fw l D ad kA mi (pc + 2) lo (.int x :: rest) M Q) : Fw l D ad kA mi pc lo (rest) M Q := by
  intro p e s m args below meth c C H locs ls hP hS hl
  exact lv_iload C.1 C.2.1 d (lp_at hl h) (K p e s m args below meth c C H locs ls hP hS hl)
theorem r_lload_n {k : Fin 4} {x : Int64} (d : decode mi.cc pc = .ok (.lload_n k, 1)) (h : lo[k.val]? = some (some (.long x))) (K : Fw l D ad kA mi (pc + 1) lo (.long x :: rest) M Q) : Fw l D ad kA mi pc lo (rest) M Q := by
  intro p e s m args below meth c C H locs ls hP hS hl
  exact lv_lload_n C.1 C.2.1 d rfl (lp_at hl h) (K p e s m args below meth c C H locs ls hP hS hl)
theorem r_lload {i : Nat} {x : Int64} (d : decode mi.cc pc = .ok (.lload i, 2)) (h : lo[i]? = some (some (.long x))) (K : Fw l D ad kA mi (pc + 2) lo (.long x :: rest) M Q) : Fw l D ad kA mi pc lo (rest) M Q := by
  intro p e s m args below meth c C H locs ls hP hS hl
  exact lv_lload C.1 C.2.1 d (lp_at hl h) (K p e s m args below meth c C H locs ls hP hS hl)
theorem r_aload_n {k : Fin 4} {x : Nat} (d : decode mi.cc pc = .ok (.aload_n k, 1)) (h : lo[k.val]? = some (some (.ref x))) (K : Fw l D ad kA mi (pc + 1) lo (.ref x :: rest) M Q) : Fw l D ad kA mi pc lo (rest) M Q := by
  intro p e s m args below meth c C H locs ls hP hS hl
  exact lv_aload_n C.1 C.2.1 d rfl (lp_at hl h) (K p e s m args below meth c C H locs ls hP hS hl)
theorem r_aload {i : Nat} {x : Nat} (d : decode mi.cc pc = .ok (.aload i, 2)) (h : lo[i]? = some (some (.ref x))) (K : Fw l D ad kA mi (pc + 2) lo (.ref x :: rest) M Q) : Fw l D ad kA mi pc lo (rest) M Q := by
  intro p e s m args below meth c C H locs ls hP hS hl
  exact lv_aload C.1 C.2.1 d (lp_at hl h) (K p e s m args below meth c C H locs ls hP hS hl)
theorem r_istore_n {k : Fin 4} {x : Int32} (d : decode mi.cc pc = .ok (.istore_n k, 1)) (hn : k.val < mi.nL) (K : Fw l D ad kA mi (pc + 1) (lset lo k.val (.int x)) rest M Q) : Fw l D ad kA mi pc lo (.int x :: rest) M Q := by
  intro p e s m args below meth c C H locs ls hP hS hl
  exact lv_istore_n C.1 C.2.1 d rfl hl hn rfl (fun ls hl => K p e s m args below meth c C H locs ls hP hS (lset_has hl))
theorem r_istore {i : Nat} {x : Int32} (d : decode mi.cc pc = .ok (.istore i, 2)) (hn : i < mi.nL) (K : Fw l D ad kA mi (pc + 2) (lset lo i (.int x)) rest M Q) : Fw l D ad kA mi pc lo (.int x :: rest) M Q := by
  intro p e s m args below meth c C H locs ls hP hS hl
  exact lv_istore C.1 C.2.1 d hl hn rfl (fun ls hl => K p e s m args below meth c C H locs ls hP hS (lset_has hl))
theorem r_lstore_n {k : Fin 4} {x : Int64} (d : decode mi.cc pc = .ok (.lstore_n k, 1)) (hn : k.val + 1 < mi.nL) (K : Fw l D ad kA mi (pc + 1) (lset2 lo k.val (.long x)) rest M Q) : Fw l D ad kA mi pc lo (.long x :: rest) M Q := by
  intro p e s m args below meth c C H locs ls hP hS hl
  exact lv_lstore_n C.1 C.2.1 d rfl hl hn rfl (fun ls hl => K p e s m args below meth c C H locs ls hP hS (lset2_has hl))
theorem r_lstore {i : Nat} {x : Int64} (d : decode mi.cc pc = .ok (.lstore i, 2)) (hn : i + 1 < mi.nL) (K : Fw l D ad kA mi (pc + 2) (lset2 lo i (.long x)) rest M Q) : Fw l D ad kA mi pc lo (.long x :: rest) M Q := by
  intro p e s m args below meth c C H locs ls hP hS hl
  exact lv_lstore C.1 C.2.1 d hl hn rfl (fun ls hl => K p e s m args below meth c C H locs ls hP hS (lset2_has hl))
theorem r_astore_n {k : Fin 4} {x : Nat} (d : decode mi.cc pc = .ok (.astore_n k, 1)) (hn : k.val < mi.nL) (K : Fw l D ad kA mi (pc + 1) (lset lo k.val (.ref x)) rest M Q) : Fw l D ad kA mi pc lo (.ref x :: rest) M Q := by
  intro p e s m args below meth c C H locs ls hP hS hl
  exact lv_astore_n C.1 C.2.1 d rfl hl hn rfl (fun ls hl => K p e s m args below meth c C H locs ls hP hS (lset_has hl))
theorem r_astore {i : Nat} {x : Nat} (d : decode mi.cc pc = .ok (.astore i, 2)) (hn : i < mi.nL) (K : Fw l D ad kA mi (pc + 2) (lset lo i (.ref x)) rest M Q) : Fw l D ad kA mi pc lo (.ref x :: rest) M Q := by
  intro p e s m args below meth c C H locs ls hP hS hl
  exact lv_astore C.1 C.2.1 d hl hn rfl (fun ls hl => K p e s m args below meth c C H locs ls hP hS (lset_has hl))
theorem r_iinc {i : Nat} {n : Int} {x v : Int32} (d : decode mi.cc pc = .ok (.iinc i n, 3)) (h : lo[i]? = some (some (.int x))) (hv : x + Int32.ofInt n = v) (hn : i < mi.nL) (K : Fw l D ad kA mi (pc + 3) (lset lo i (.int v)) rest M Q) : Fw l D ad kA mi pc lo rest M Q := by
  intro p e s m args below meth c C H locs ls hP hS hl
  obtain ⟨k, hk⟩ := List.mem_iff_getElem?.mp (lp_mem.mpr h)
  exact lv_iinc C.1 C.2.1 d hl hk hv hn rfl (fun ls hl => K p e s m args below meth c C H locs ls hP hS (lset_has hl))
theorem r_iconst {n : Int} {v : Int32} (d : decode mi.cc pc = .ok (.iconst n, 1)) (hv : Int32.ofInt n = v) (K : Fw l D ad kA mi (pc + 1) lo (.int v :: rest) M Q) : Fw l D ad kA mi pc lo (rest) M Q := by
  intro p e s m args below meth c C H locs ls hP hS hl
  exact lv_iconst C.1 C.2.1 d hv (K p e s m args below meth c C H locs ls hP hS hl)
theorem r_bipush {n : Int} {v : Int32} (d : decode mi.cc pc = .ok (.bipush n, 2)) (hv : (Int8.ofInt n).toInt32 = v) (K : Fw l D ad kA mi (pc + 2) lo (.int v :: rest) M Q) : Fw l D ad kA mi pc lo (rest) M Q := by
  intro p e s m args below meth c C H locs ls hP hS hl
  exact lv_bipush C.1 C.2.1 d hv (K p e s m args below meth c C H locs ls hP hS hl)
theorem r_sipush {n : Int} {v : Int32} (d : decode mi.cc pc = .ok (.sipush n, 3)) (hv : (Int16.ofInt n).toInt32 = v) (K : Fw l D ad kA mi (pc + 3) lo (.int v :: rest) M Q) : Fw l D ad kA mi pc lo (rest) M Q := by
  intro p e s m args below meth c C H locs ls hP hS hl
  exact lv_sipush C.1 C.2.1 d hv (K p e s m args below meth c C H locs ls hP hS hl)
theorem r_lconst {n : Fin 2} {v : Int64} (d : decode mi.cc pc = .ok (.lconst n, 1)) (hv : Int64.ofNat (n : Nat) = v) (K : Fw l D ad kA mi (pc + 1) lo (.long v :: rest) M Q) : Fw l D ad kA mi pc lo (rest) M Q := by
  intro p e s m args below meth c C H locs ls hP hS hl
  exact lv_lconst C.1 C.2.1 d hv (K p e s m args below meth c C H locs ls hP hS hl)
theorem r_ldc {index : Nat} {v : Int32} (d : decode mi.cc pc = .ok (.ldc index, 2)) (hc : Cond.constant mi.y.cls index v ∈ lw_w) (K : Fw l D ad kA mi (pc + 2) lo (.int v :: rest) M Q) : Fw l D ad kA mi pc lo (rest) M Q := by
  intro p e s m args below meth c C H locs ls hP hS hl
  exact lv_ldc C.1 C.2.1 C.2.2.2.2.2.1 (C.2.2.2.2.2.2.1 _ hc) d (K p e s m args below meth c C H locs ls hP hS hl)
theorem r_ldcw {index : Nat} {v : Int32} (d : decode mi.cc pc = .ok (.ldc_w index, 3)) (hc : Cond.constant mi.y.cls index v ∈ lw_w) (K : Fw l D ad kA mi (pc + 3) lo (.int v :: rest) M Q) : Fw l D ad kA mi pc lo (rest) M Q := by
  intro p e s m args below meth c C H locs ls hP hS hl
  exact lv_ldcw C.1 C.2.1 C.2.2.2.2.2.1 (C.2.2.2.2.2.2.1 _ hc) d (K p e s m args below meth c C H locs ls hP hS hl)
theorem r_ldc2 {index : Nat} {v : Int64} (d : decode mi.cc pc = .ok (.ldc2_w index, 3)) (hc : Cond.constantLong mi.y.cls index v ∈ lw_w) (K : Fw l D ad kA mi (pc + 3) lo (.long v :: rest) M Q) : Fw l D ad kA mi pc lo (rest) M Q := by
  intro p e s m args below meth c C H locs ls hP hS hl
  exact lv_ldc2 C.1 C.2.1 C.2.2.2.2.2.1 (C.2.2.2.2.2.2.1 _ hc) d (K p e s m args below meth c C H locs ls hP hS hl)
theorem r_ldcS {i : Nat} (d : decode mi.cc pc = .ok (.ldc (scR.getD i ("", 0, "")).2.1, 2)) (hi : i < 15) (ho : (scR.getD i ("", 0, "")).1 = mi.y.cls) (K : Fw l D ad kA mi (pc + 2) lo (.ref (ad (210 + i)) :: rest) M Q) : Fw l D ad kA mi pc lo (rest) M Q := by
  intro p e s m args below meth c C H locs ls hP hS hl
  exact va_ldcS C.1 C.2.1 C.2.2.2.2.2.1 (ho ▸ (C.2.2.2.2.2.2.2.2.2.1.2.2.1 i hi).1) d (K p e s m args below meth c C H locs ls hP hS hl)
theorem r_iadd {x y : Int32} (d : decode mi.cc pc = .ok (.iadd, 1)) (K : Fw l D ad kA mi (pc + 1) lo (.int (x + y) :: rest) M Q) : Fw l D ad kA mi pc lo (.int y :: .int x :: rest) M Q := by
  intro p e s m args below meth c C H locs ls hP hS hl
  exact lv_iadd C.1 C.2.1 d (K p e s m args below meth c C H locs ls hP hS hl)
theorem r_isub {x y : Int32} (d : decode mi.cc pc = .ok (.isub, 1)) (K : Fw l D ad kA mi (pc + 1) lo (.int (x - y) :: rest) M Q) : Fw l D ad kA mi pc lo (.int y :: .int x :: rest) M Q := by
  intro p e s m args below meth c C H locs ls hP hS hl
  exact lv_isub C.1 C.2.1 d (K p e s m args below meth c C H locs ls hP hS hl)
theorem r_imul {x y : Int32} (d : decode mi.cc pc = .ok (.imul, 1)) (K : Fw l D ad kA mi (pc + 1) lo (.int (x * y) :: rest) M Q) : Fw l D ad kA mi pc lo (.int y :: .int x :: rest) M Q := by
  intro p e s m args below meth c C H locs ls hP hS hl
  exact lv_imul C.1 C.2.1 d (K p e s m args below meth c C H locs ls hP hS hl)
theorem r_iand {x y : Int32} (d : decode mi.cc pc = .ok (.iand, 1)) (K : Fw l D ad kA mi (pc + 1) lo (.int (x &&& y) :: rest) M Q) : Fw l D ad kA mi pc lo (.int y :: .int x :: rest) M Q := by
  intro p e s m args below meth c C H locs ls hP hS hl
  exact lv_iand C.1 C.2.1 d (K p e s m args below meth c C H locs ls hP hS hl)
theorem r_ishr {x y : Int32} (d : decode mi.cc pc = .ok (.ishr, 1)) (K : Fw l D ad kA mi (pc + 1) lo (.int (x >>> (y &&& 31)) :: rest) M Q) : Fw l D ad kA mi pc lo (.int y :: .int x :: rest) M Q := by
  intro p e s m args below meth c C H locs ls hP hS hl
  exact lv_ishr C.1 C.2.1 d (K p e s m args below meth c C H locs ls hP hS hl)
theorem r_idiv {x y : Int32} (d : decode mi.cc pc = .ok (.idiv, 1)) (hne : ¬ y = 0) (K : Fw l D ad kA mi (pc + 1) lo (.int (x / y) :: rest) M Q) : Fw l D ad kA mi pc lo (.int y :: .int x :: rest) M Q := by
  intro p e s m args below meth c C H locs ls hP hS hl
  exact lv_idiv C.1 C.2.1 d hne (K p e s m args below meth c C H locs ls hP hS hl)
theorem r_irem {x y : Int32} (d : decode mi.cc pc = .ok (.irem, 1)) (hne : ¬ y = 0) (K : Fw l D ad kA mi (pc + 1) lo (.int (x - x / y * y) :: rest) M Q) : Fw l D ad kA mi pc lo (.int y :: .int x :: rest) M Q := by
  intro p e s m args below meth c C H locs ls hP hS hl
  exact lv_irem C.1 C.2.1 d hne (K p e s m args below meth c C H locs ls hP hS hl)
theorem r_lsub {x y : Int64} (d : decode mi.cc pc = .ok (.lsub, 1)) (K : Fw l D ad kA mi (pc + 1) lo (.long (x - y) :: rest) M Q) : Fw l D ad kA mi pc lo (.long y :: .long x :: rest) M Q := by
  intro p e s m args below meth c C H locs ls hP hS hl
  exact lv_lsub C.1 C.2.1 d (K p e s m args below meth c C H locs ls hP hS hl)
theorem r_land {x y : Int64} (d : decode mi.cc pc = .ok (.land, 1)) (K : Fw l D ad kA mi (pc + 1) lo (.long (x &&& y) :: rest) M Q) : Fw l D ad kA mi pc lo (.long y :: .long x :: rest) M Q := by
  intro p e s m args below meth c C H locs ls hP hS hl
  exact lv_land C.1 C.2.1 d (K p e s m args below meth c C H locs ls hP hS hl)
theorem r_lor {x y : Int64} (d : decode mi.cc pc = .ok (.lor, 1)) (K : Fw l D ad kA mi (pc + 1) lo (.long (x ||| y) :: rest) M Q) : Fw l D ad kA mi pc lo (.long y :: .long x :: rest) M Q := by
  intro p e s m args below meth c C H locs ls hP hS hl
  exact lv_lor C.1 C.2.1 d (K p e s m args below meth c C H locs ls hP hS hl)
theorem r_lxor {x y : Int64} (d : decode mi.cc pc = .ok (.lxor, 1)) (K : Fw l D ad kA mi (pc + 1) lo (.long (x ^^^ y) :: rest) M Q) : Fw l D ad kA mi pc lo (.long y :: .long x :: rest) M Q := by
  intro p e s m args below meth c C H locs ls hP hS hl
  exact lv_lxor C.1 C.2.1 d (K p e s m args below meth c C H locs ls hP hS hl)
theorem r_lushr {x : Int64} {y : Int32} (d : decode mi.cc pc = .ok (.lushr, 1)) (K : Fw l D ad kA mi (pc + 1) lo (.long ((x.toUInt64 >>> (y.toInt64.toUInt64 &&& Int64.toUInt64 63)).toInt64) :: rest) M Q) : Fw l D ad kA mi pc lo (.int y :: .long x :: rest) M Q := by
  intro p e s m args below meth c C H locs ls hP hS hl
  exact lv_lushr C.1 C.2.1 d rfl (K p e s m args below meth c C H locs ls hP hS hl)
theorem r_lshl {x : Int64} {y : Int32} (d : decode mi.cc pc = .ok (.lshl, 1)) (K : Fw l D ad kA mi (pc + 1) lo (.long (x <<< (y.toInt64 &&& 63)) :: rest) M Q) : Fw l D ad kA mi pc lo (.int y :: .long x :: rest) M Q := by
  intro p e s m args below meth c C H locs ls hP hS hl
  exact lv_lshl C.1 C.2.1 d rfl (K p e s m args below meth c C H locs ls hP hS hl)
theorem r_lshr {x : Int64} {y : Int32} (d : decode mi.cc pc = .ok (.lshr, 1)) (K : Fw l D ad kA mi (pc + 1) lo (.long (x >>> (y.toInt64 &&& 63)) :: rest) M Q) : Fw l D ad kA mi pc lo (.int y :: .long x :: rest) M Q := by
  intro p e s m args below meth c C H locs ls hP hS hl
  exact lv_lshr C.1 C.2.1 d rfl (K p e s m args below meth c C H locs ls hP hS hl)
theorem r_ineg {x : Int32} (d : decode mi.cc pc = .ok (.ineg, 1)) (K : Fw l D ad kA mi (pc + 1) lo (.int (-x) :: rest) M Q) : Fw l D ad kA mi pc lo (.int x :: rest) M Q := by
  intro p e s m args below meth c C H locs ls hP hS hl
  exact lv_ineg C.1 C.2.1 d (K p e s m args below meth c C H locs ls hP hS hl)
theorem r_i2c {x : Int32} (d : decode mi.cc pc = .ok (.i2c, 1)) (K : Fw l D ad kA mi (pc + 1) lo (.int (x.toUInt32 % 65536).toInt32 :: rest) M Q) : Fw l D ad kA mi pc lo (.int x :: rest) M Q := by
  intro p e s m args below meth c C H locs ls hP hS hl
  exact lv_i2c C.1 C.2.1 d rfl (K p e s m args below meth c C H locs ls hP hS hl)
theorem r_i2l {x : Int32} (d : decode mi.cc pc = .ok (.i2l, 1)) (K : Fw l D ad kA mi (pc + 1) lo (.long x.toInt64 :: rest) M Q) : Fw l D ad kA mi pc lo (.int x :: rest) M Q := by
  intro p e s m args below meth c C H locs ls hP hS hl
  exact lv_i2l C.1 C.2.1 d rfl (K p e s m args below meth c C H locs ls hP hS hl)
theorem r_i2b {x : Int32} (d : decode mi.cc pc = .ok (.i2b, 1)) (K : Fw l D ad kA mi (pc + 1) lo (.int x.toInt8.toInt32 :: rest) M Q) : Fw l D ad kA mi pc lo (.int x :: rest) M Q := by
  intro p e s m args below meth c C H locs ls hP hS hl
  exact lv_i2b C.1 C.2.1 d rfl (K p e s m args below meth c C H locs ls hP hS hl)
theorem r_lcmp {x y : Int64} (d : decode mi.cc pc = .ok (.lcmp, 1)) (K : Fw l D ad kA mi (pc + 1) lo (.int (lg_cmp x y) :: rest) M Q) : Fw l D ad kA mi pc lo (.long y :: .long x :: rest) M Q := by
  intro p e s m args below meth c C H locs ls hP hS hl
  exact W.lcmp C.1 C.2.1 d (K p e s m args below meth c C H locs ls hP hS hl)
theorem r_dup {v : Value} (d : decode mi.cc pc = .ok (.dup, 1)) (hv : v.category = 1) (K : Fw l D ad kA mi (pc + 1) lo (v :: v :: rest) M Q) : Fw l D ad kA mi pc lo (v :: rest) M Q := by
  intro p e s m args below meth c C H locs ls hP hS hl
  exact lv_dup C.1 C.2.1 d hv (K p e s m args below meth c C H locs ls hP hS hl)
theorem r_pop {v : Value} (d : decode mi.cc pc = .ok (.pop, 1)) (hv : v.category = 1) (K : Fw l D ad kA mi (pc + 1) lo (rest) M Q) : Fw l D ad kA mi pc lo (v :: rest) M Q := by
  intro p e s m args below meth c C H locs ls hP hS hl
  exact lv_pop C.1 C.2.1 d hv (K p e s m args below meth c C H locs ls hP hS hl)
theorem r_dup2 {v w : Value} (d : decode mi.cc pc = .ok (.dup2, 1)) (hv : v.category = 1) (hw : w.category = 1) (K : Fw l D ad kA mi (pc + 1) lo (v :: w :: v :: w :: rest) M Q) : Fw l D ad kA mi pc lo (v :: w :: rest) M Q := by
  intro p e s m args below meth c C H locs ls hP hS hl
  exact lv_dup2_11 C.1 C.2.1 d hv hw (K p e s m args below meth c C H locs ls hP hS hl)
theorem r_if_eq {x : Int32} {off : Int} {tgt : Nat} (d : decode mi.cc pc = .ok (.ifCond .eq off, 3)) (ht : (pc : Int) + off = (tgt : Int)) (Kt : x = 0 → Fw l D ad kA mi tgt lo rest M Q) (Kf : ¬ x = 0 → Fw l D ad kA mi (pc + 3) lo rest M Q) : Fw l D ad kA mi pc lo (.int x :: rest) M Q := by
  intro p e s m args below meth c C H locs ls hP hS hl
  exact lv_if_eq C.1 C.2.1 d ht (fun h => Kt h p e s m args below meth c C H locs ls hP hS hl) (fun h => Kf h p e s m args below meth c C H locs ls hP hS hl)
theorem r_icmp_eq {x y : Int32} {off : Int} {tgt : Nat} (d : decode mi.cc pc = .ok (.if_icmp .eq off, 3)) (ht : (pc : Int) + off = (tgt : Int)) (Kt : x = y → Fw l D ad kA mi tgt lo rest M Q) (Kf : ¬ x = y → Fw l D ad kA mi (pc + 3) lo rest M Q) : Fw l D ad kA mi pc lo (.int y :: .int x :: rest) M Q := by
  intro p e s m args below meth c C H locs ls hP hS hl
  exact lv_icmp_eq C.1 C.2.1 d ht (fun h => Kt h p e s m args below meth c C H locs ls hP hS hl) (fun h => Kf h p e s m args below meth c C H locs ls hP hS hl)
theorem r_if_ne {x : Int32} {off : Int} {tgt : Nat} (d : decode mi.cc pc = .ok (.ifCond .ne off, 3)) (ht : (pc : Int) + off = (tgt : Int)) (Kt : ¬ x = 0 → Fw l D ad kA mi tgt lo rest M Q) (Kf : x = 0 → Fw l D ad kA mi (pc + 3) lo rest M Q) : Fw l D ad kA mi pc lo (.int x :: rest) M Q := by
  intro p e s m args below meth c C H locs ls hP hS hl
  exact lv_if_ne C.1 C.2.1 d ht (fun h => Kt h p e s m args below meth c C H locs ls hP hS hl) (fun h => Kf h p e s m args below meth c C H locs ls hP hS hl)
theorem r_icmp_ne {x y : Int32} {off : Int} {tgt : Nat} (d : decode mi.cc pc = .ok (.if_icmp .ne off, 3)) (ht : (pc : Int) + off = (tgt : Int)) (Kt : ¬ x = y → Fw l D ad kA mi tgt lo rest M Q) (Kf : x = y → Fw l D ad kA mi (pc + 3) lo rest M Q) : Fw l D ad kA mi pc lo (.int y :: .int x :: rest) M Q := by
  intro p e s m args below meth c C H locs ls hP hS hl
  exact lv_icmp_ne C.1 C.2.1 d ht (fun h => Kt h p e s m args below meth c C H locs ls hP hS hl) (fun h => Kf h p e s m args below meth c C H locs ls hP hS hl)
theorem r_if_lt {x : Int32} {off : Int} {tgt : Nat} (d : decode mi.cc pc = .ok (.ifCond .lt off, 3)) (ht : (pc : Int) + off = (tgt : Int)) (Kt : x < 0 → Fw l D ad kA mi tgt lo rest M Q) (Kf : ¬ x < 0 → Fw l D ad kA mi (pc + 3) lo rest M Q) : Fw l D ad kA mi pc lo (.int x :: rest) M Q := by
  intro p e s m args below meth c C H locs ls hP hS hl
  exact lv_if_lt C.1 C.2.1 d ht (fun h => Kt h p e s m args below meth c C H locs ls hP hS hl) (fun h => Kf h p e s m args below meth c C H locs ls hP hS hl)
theorem r_icmp_lt {x y : Int32} {off : Int} {tgt : Nat} (d : decode mi.cc pc = .ok (.if_icmp .lt off, 3)) (ht : (pc : Int) + off = (tgt : Int)) (Kt : x < y → Fw l D ad kA mi tgt lo rest M Q) (Kf : ¬ x < y → Fw l D ad kA mi (pc + 3) lo rest M Q) : Fw l D ad kA mi pc lo (.int y :: .int x :: rest) M Q := by
  intro p e s m args below meth c C H locs ls hP hS hl
  exact lv_icmp_lt C.1 C.2.1 d ht (fun h => Kt h p e s m args below meth c C H locs ls hP hS hl) (fun h => Kf h p e s m args below meth c C H locs ls hP hS hl)
theorem r_if_ge {x : Int32} {off : Int} {tgt : Nat} (d : decode mi.cc pc = .ok (.ifCond .ge off, 3)) (ht : (pc : Int) + off = (tgt : Int)) (Kt : 0 ≤ x → Fw l D ad kA mi tgt lo rest M Q) (Kf : ¬ 0 ≤ x → Fw l D ad kA mi (pc + 3) lo rest M Q) : Fw l D ad kA mi pc lo (.int x :: rest) M Q := by
  intro p e s m args below meth c C H locs ls hP hS hl
  exact lv_if_ge C.1 C.2.1 d ht (fun h => Kt h p e s m args below meth c C H locs ls hP hS hl) (fun h => Kf h p e s m args below meth c C H locs ls hP hS hl)
theorem r_icmp_ge {x y : Int32} {off : Int} {tgt : Nat} (d : decode mi.cc pc = .ok (.if_icmp .ge off, 3)) (ht : (pc : Int) + off = (tgt : Int)) (Kt : y ≤ x → Fw l D ad kA mi tgt lo rest M Q) (Kf : ¬ y ≤ x → Fw l D ad kA mi (pc + 3) lo rest M Q) : Fw l D ad kA mi pc lo (.int y :: .int x :: rest) M Q := by
  intro p e s m args below meth c C H locs ls hP hS hl
  exact lv_icmp_ge C.1 C.2.1 d ht (fun h => Kt h p e s m args below meth c C H locs ls hP hS hl) (fun h => Kf h p e s m args below meth c C H locs ls hP hS hl)
theorem r_if_gt {x : Int32} {off : Int} {tgt : Nat} (d : decode mi.cc pc = .ok (.ifCond .gt off, 3)) (ht : (pc : Int) + off = (tgt : Int)) (Kt : 0 < x → Fw l D ad kA mi tgt lo rest M Q) (Kf : ¬ 0 < x → Fw l D ad kA mi (pc + 3) lo rest M Q) : Fw l D ad kA mi pc lo (.int x :: rest) M Q := by
  intro p e s m args below meth c C H locs ls hP hS hl
  exact lv_if_gt C.1 C.2.1 d ht (fun h => Kt h p e s m args below meth c C H locs ls hP hS hl) (fun h => Kf h p e s m args below meth c C H locs ls hP hS hl)
theorem r_icmp_gt {x y : Int32} {off : Int} {tgt : Nat} (d : decode mi.cc pc = .ok (.if_icmp .gt off, 3)) (ht : (pc : Int) + off = (tgt : Int)) (Kt : y < x → Fw l D ad kA mi tgt lo rest M Q) (Kf : ¬ y < x → Fw l D ad kA mi (pc + 3) lo rest M Q) : Fw l D ad kA mi pc lo (.int y :: .int x :: rest) M Q := by
  intro p e s m args below meth c C H locs ls hP hS hl
  exact lv_icmp_gt C.1 C.2.1 d ht (fun h => Kt h p e s m args below meth c C H locs ls hP hS hl) (fun h => Kf h p e s m args below meth c C H locs ls hP hS hl)
theorem r_if_le {x : Int32} {off : Int} {tgt : Nat} (d : decode mi.cc pc = .ok (.ifCond .le off, 3)) (ht : (pc : Int) + off = (tgt : Int)) (Kt : x ≤ 0 → Fw l D ad kA mi tgt lo rest M Q) (Kf : ¬ x ≤ 0 → Fw l D ad kA mi (pc + 3) lo rest M Q) : Fw l D ad kA mi pc lo (.int x :: rest) M Q := by
  intro p e s m args below meth c C H locs ls hP hS hl
  exact lv_if_le C.1 C.2.1 d ht (fun h => Kt h p e s m args below meth c C H locs ls hP hS hl) (fun h => Kf h p e s m args below meth c C H locs ls hP hS hl)
theorem r_icmp_le {x y : Int32} {off : Int} {tgt : Nat} (d : decode mi.cc pc = .ok (.if_icmp .le off, 3)) (ht : (pc : Int) + off = (tgt : Int)) (Kt : x ≤ y → Fw l D ad kA mi tgt lo rest M Q) (Kf : ¬ x ≤ y → Fw l D ad kA mi (pc + 3) lo rest M Q) : Fw l D ad kA mi pc lo (.int y :: .int x :: rest) M Q := by
  intro p e s m args below meth c C H locs ls hP hS hl
  exact lv_icmp_le C.1 C.2.1 d ht (fun h => Kt h p e s m args below meth c C H locs ls hP hS hl) (fun h => Kf h p e s m args below meth c C H locs ls hP hS hl)
theorem r_goto {off : Int} {tgt : Nat} (d : decode mi.cc pc = .ok (.goto off, 3)) (ht : (pc : Int) + off = (tgt : Int)) (K : Fw l D ad kA mi tgt lo rest M Q) : Fw l D ad kA mi pc lo rest M Q := by
  intro p e s m args below meth c C H locs ls hP hS hl
  exact lv_goto C.1 C.2.1 d ht (K p e s m args below meth c C H locs ls hP hS hl)
theorem r_tableIn {dflt low high : Int} {offs : Array Int} {len : Nat} {x : Int32} {off : Int} {tgt : Nat} (d : decode mi.cc pc = .ok (.tableswitch dflt low high offs, len)) (h1 : ¬ x.toInt < low) (h2 : ¬ high < x.toInt) (ho : offs[(x.toInt - low).toNat]? = some off) (ht : (pc : Int) + off = (tgt : Int)) (K : Fw l D ad kA mi tgt lo rest M Q) : Fw l D ad kA mi pc lo (.int x :: rest) M Q := by
  intro p e s m args below meth c C H locs ls hP hS hl
  exact lv_tableIn C.1 C.2.1 d h1 h2 ho ht (K p e s m args below meth c C H locs ls hP hS hl)
theorem r_tableOut {dflt low high : Int} {offs : Array Int} {len : Nat} {x : Int32} {tgt : Nat} (d : decode mi.cc pc = .ok (.tableswitch dflt low high offs, len)) (h : x.toInt < low ∨ high < x.toInt) (ht : (pc : Int) + dflt = (tgt : Int)) (K : Fw l D ad kA mi tgt lo rest M Q) : Fw l D ad kA mi pc lo (.int x :: rest) M Q := by
  intro p e s m args below meth c C H locs ls hP hS hl
  exact lv_tableOut C.1 C.2.1 d h ht (K p e s m args below meth c C H locs ls hP hS hl)
theorem r_weak {lo' : List (Option Value)} (h : ∀ (i : Nat) (v : Value), lo'[i]? = some (some v) → lo[i]? = some (some v)) (K : Fw l D ad kA mi pc lo' rest M Q) : Fw l D ad kA mi pc lo rest M Q := by
  intro p e s m args below meth c C H locs ls hP hS hl
  exact K p e s m args below meth c C H locs ls hP hS (lp_sub hl h)
/-- a field's link, as the tables have it -/
def Fk (own : String) (index ci k : Nat) : Prop := ∃ (C : String) (T : u_T) (N : Nat) (ty : Nat → FieldType), cls[ci]? = some (C, T, N) ∧ (∀ w ∈ u_ws C T N, w ∈ lw_w) ∧ k < N ∧ Cond.fieldLink own index (T k).1 (T k).2.1 (T k).2.2.1 ∈ lw_w ∧ (∀ j, j < N → parseFieldDescriptor (T j).2.2.1 = some (ty j)) ∧ (∀ a, a < N → ∀ b, b < N → a ≠ b → (T a).2.1 ≠ (T b).2.1)
/-- what a put needs besides: not final, and its type -/
def Fp (ci k : Nat) (ty : FieldType) : Prop := ∃ (C : String) (T : u_T) (N : Nat), cls[ci]? = some (C, T, N) ∧ (T k).2.2.2 = false ∧ parseFieldDescriptor (T k).2.2.1 = some ty
theorem r_getI {c index ci k r : Nat} (d : decode mi.cc pc = .ok (.getfield index, 3)) (hf : fsh c k = some (ci, 0, r)) (hk : Fk mi.y.cls index ci k) (K : Fw l D ad kA mi (pc + 3) lo (.int (gI M c k) :: rest) M Q) : Fw l D ad kA mi pc lo (.ref (ad c) :: rest) M Q := by
  intro p e s m args below meth c0 C H locs ls hP hS hl
  obtain ⟨CN, T, N, ty, h1, h2, h3, h4, h5, h6⟩ := hk
  obtain ⟨fs, hs, hf⟩ := fsh_spec hf
  refine va_get (own := mi.y.cls) (ref := (T k).1) C.1 C.2.1 C.2.2.2.2.2.2.1 h2 C.2.2.2.2.2.1 C.2.2.2.2.2.2.2.1 hP c (wl_at hs) h1 k h3 (C.2.2.2.2.2.2.1 _ h4) (fun _ h => h) (v := .int (gI M c k)) ?_ d (K p e s m args below meth c0 C H locs ls hP hS hl)
  rw [List.getElem?_mapIdx, hf]
  simp [fv]
theorem r_getR {c index ci k r : Nat} (d : decode mi.cc pc = .ok (.getfield index, 3)) (hf : fsh c k = some (ci, 1, r)) (hk : Fk mi.y.cls index ci k) (K : Fw l D ad kA mi (pc + 3) lo (.ref (ad r) :: rest) M Q) : Fw l D ad kA mi pc lo (.ref (ad c) :: rest) M Q := by
  intro p e s m args below meth c0 C H locs ls hP hS hl
  obtain ⟨CN, T, N, ty, h1, h2, h3, h4, h5, h6⟩ := hk
  obtain ⟨fs, hs, hf⟩ := fsh_spec hf
  refine va_get (own := mi.y.cls) (ref := (T k).1) C.1 C.2.1 C.2.2.2.2.2.2.1 h2 C.2.2.2.2.2.1 C.2.2.2.2.2.2.2.1 hP c (wl_at hs) h1 k h3 (C.2.2.2.2.2.2.1 _ h4) (fun _ h => h) (v := .ref (ad r)) ?_ d (K p e s m args below meth c0 C H locs ls hP hS hl)
  rw [List.getElem?_mapIdx, hf]
  simp [fv]
theorem r_getL {c index ci k r : Nat} (d : decode mi.cc pc = .ok (.getfield index, 3)) (hf : fsh c k = some (ci, 2, r)) (hk : Fk mi.y.cls index ci k) (K : Fw l D ad kA mi (pc + 3) lo (.long (gL M c k) :: rest) M Q) : Fw l D ad kA mi pc lo (.ref (ad c) :: rest) M Q := by
  intro p e s m args below meth c0 C H locs ls hP hS hl
  obtain ⟨CN, T, N, ty, h1, h2, h3, h4, h5, h6⟩ := hk
  obtain ⟨fs, hs, hf⟩ := fsh_spec hf
  refine va_get (own := mi.y.cls) (ref := (T k).1) C.1 C.2.1 C.2.2.2.2.2.2.1 h2 C.2.2.2.2.2.1 C.2.2.2.2.2.2.2.1 hP c (wl_at hs) h1 k h3 (C.2.2.2.2.2.2.1 _ h4) (fun _ h => h) (v := .long (gL M c k)) ?_ d (K p e s m args below meth c0 C H locs ls hP hS hl)
  rw [List.getElem?_mapIdx, hf]
  simp [fv]
theorem r_putF {c index ci k r : Nat} {v : Int32} {ty : FieldType} (d : decode mi.cc pc = .ok (.putfield index, 3)) (hf : fsh c k = some (ci, 0, r)) (hk : Fk mi.y.cls index ci k) (hp : Fp ci k ty) (hn : narrow ty (.int v) = .int v) (hfit : fits ty (.int v) = true) (K : Fw l D ad kA mi (pc + 3) lo rest (sI M c k v) Q) : Fw l D ad kA mi pc lo (.int v :: .ref (ad c) :: rest) M Q := by
  intro p e s m args below meth c0 C H locs ls hP hS hl
  obtain ⟨CN, T, N, ty0, h1, h2, h3, h4, h5, h6⟩ := hk
  obtain ⟨fs, hs, hf⟩ := fsh_spec hf
  obtain ⟨CN', T', N', g1, g2, g3⟩ := hp
  cases h1.symm.trans g1
  have hl2 : k < (fs.mapIdx (fv ad M c)).length := by
    have := (List.getElem?_eq_some_iff.mp hf).1
    simpa using this
  refine va_put (own := mi.y.cls) (ref := (T k).1) C.1 C.2.1 C.2.2.2.2.2.2.1 h2 ty0 h5 h6 C.2.2.2.2.2.1 C.2.2.2.2.2.2.2.1 hP (wl_D C.2.2.2.2.2.2.2.2.1) hS c (wl_at hs) h1 k h3 (C.2.2.2.2.2.2.1 _ h4) (fun _ h => h) g2 g3 hn hfit hl2 d (fun H1 locs1 hP1 _ hS1 => K p e s m args below meth c0 C H1 locs1 ls ?_ hS1 hl)
  rw [← ce_fI hf (kA := kA), wl_set hs ce_oI] at hP1
  exact hP1
theorem r_putL {c index ci k r : Nat} {v : Int64} {ty : FieldType} (d : decode mi.cc pc = .ok (.putfield index, 3)) (hf : fsh c k = some (ci, 2, r)) (hk : Fk mi.y.cls index ci k) (hp : Fp ci k ty) (hn : narrow ty (.long v) = .long v) (hfit : fits ty (.long v) = true) (K : Fw l D ad kA mi (pc + 3) lo rest (sL M c k v) Q) : Fw l D ad kA mi pc lo (.long v :: .ref (ad c) :: rest) M Q := by
  intro p e s m args below meth c0 C H locs ls hP hS hl
  obtain ⟨CN, T, N, ty0, h1, h2, h3, h4, h5, h6⟩ := hk
  obtain ⟨fs, hs, hf⟩ := fsh_spec hf
  obtain ⟨CN', T', N', g1, g2, g3⟩ := hp
  cases h1.symm.trans g1
  have hl2 : k < (fs.mapIdx (fv ad M c)).length := by
    have := (List.getElem?_eq_some_iff.mp hf).1
    simpa using this
  refine va_put (own := mi.y.cls) (ref := (T k).1) C.1 C.2.1 C.2.2.2.2.2.2.1 h2 ty0 h5 h6 C.2.2.2.2.2.1 C.2.2.2.2.2.2.2.1 hP (wl_D C.2.2.2.2.2.2.2.2.1) hS c (wl_at hs) h1 k h3 (C.2.2.2.2.2.2.1 _ h4) (fun _ h => h) g2 g3 hn hfit hl2 d (fun H1 locs1 hP1 _ hS1 => K p e s m args below meth c0 C H1 locs1 ls ?_ hS1 hl)
  rw [← ce_fL hf (kA := kA), wl_set hs ce_oL] at hP1
  exact hP1
theorem r_putI {c index ci k r : Nat} {v : Int32} (d : decode mi.cc pc = .ok (.putfield index, 3)) (hf : fsh c k = some (ci, 0, r)) (hk : Fk mi.y.cls index ci k) (hp : Fp ci k .int) (K : Fw l D ad kA mi (pc + 3) lo rest (sI M c k v) Q) : Fw l D ad kA mi pc lo (.int v :: .ref (ad c) :: rest) M Q := r_putF d hf hk hp rfl rfl K
theorem nar_z {v : Int32} (h : v = 0 ∨ v = 1) : narrow .boolean (.int v) = .int v ∧ fits .boolean (.int v) = true := by
  rcases h with rfl | rfl <;> exact ⟨by decide, by decide⟩
theorem r_putZ {c index ci k r : Nat} {v : Int32} (d : decode mi.cc pc = .ok (.putfield index, 3)) (hf : fsh c k = some (ci, 0, r)) (hk : Fk mi.y.cls index ci k) (hp : Fp ci k .boolean) (hv : v = 0 ∨ v = 1) (K : Fw l D ad kA mi (pc + 3) lo rest (sI M c k v) Q) : Fw l D ad kA mi pc lo (.int v :: .ref (ad c) :: rest) M Q := r_putF d hf hk hp (nar_z hv).1 (nar_z hv).2 K
theorem r_iald {c n : Nat} {i : Int32} (d : decode mi.cc pc = .ok (.iaload, 1)) (hs : shL[c]? = some (.inl (0, n))) (hin : vp_in i n) (K : Fw l D ad kA mi (pc + 1) lo (.int (gI M c i.toNatClampNeg) :: rest) M Q) : Fw l D ad kA mi pc lo (.int i :: .ref (ad c) :: rest) M Q := by
  intro p e s m args below meth c0 C H locs ls hP hS hl
  exact va_iald C.1 C.2.1 C.2.2.2.2.2.2.2.1 hP c 0 (wl_at hs) rfl hin d (K p e s m args below meth c0 C H locs ls hP hS hl)
theorem r_bald {c n : Nat} {i : Int32} (d : decode mi.cc pc = .ok (.baload, 1)) (hs : shL[c]? = some (.inl (1, n))) (hin : vp_in i n) (K : Fw l D ad kA mi (pc + 1) lo (.int (gI M c i.toNatClampNeg) :: rest) M Q) : Fw l D ad kA mi pc lo (.int i :: .ref (ad c) :: rest) M Q := by
  intro p e s m args below meth c0 C H locs ls hP hS hl
  exact va_bald C.1 C.2.1 C.2.2.2.2.2.2.2.1 hP c 1 (wl_at hs) rfl hin d (K p e s m args below meth c0 C H locs ls hP hS hl)
theorem r_zald {c n : Nat} {i : Int32} (d : decode mi.cc pc = .ok (.baload, 1)) (hs : shL[c]? = some (.inl (2, n))) (hin : vp_in i n) (K : Fw l D ad kA mi (pc + 1) lo (.int (gI M c i.toNatClampNeg) :: rest) M Q) : Fw l D ad kA mi pc lo (.int i :: .ref (ad c) :: rest) M Q := by
  intro p e s m args below meth c0 C H locs ls hP hS hl
  exact va_zald C.1 C.2.1 C.2.2.2.2.2.2.2.1 hP c 2 (wl_at hs) rfl hin d (K p e s m args below meth c0 C H locs ls hP hS hl)
theorem r_lald {c n : Nat} {i : Int32} (d : decode mi.cc pc = .ok (.laload, 1)) (hs : shL[c]? = some (.inl (3, n))) (hin : vp_in i n) (K : Fw l D ad kA mi (pc + 1) lo (.long (gL M c i.toNatClampNeg) :: rest) M Q) : Fw l D ad kA mi pc lo (.int i :: .ref (ad c) :: rest) M Q := by
  intro p e s m args below meth c0 C H locs ls hP hS hl
  exact va_lald C.1 C.2.1 C.2.2.2.2.2.2.2.1 hP c 3 (wl_at hs) rfl hin d (K p e s m args below meth c0 C H locs ls hP hS hl)
theorem r_iast {c n : Nat} {i : Int32} {v : Int32} (d : decode mi.cc pc = .ok (.iastore, 1)) (hs : shL[c]? = some (.inl (0, n))) (hin : vp_in i n) (K : Fw l D ad kA mi (pc + 1) lo rest (sI M c i.toNatClampNeg (v)) Q) : Fw l D ad kA mi pc lo (.int v :: .int i :: .ref (ad c) :: rest) M Q := by
  intro p e s m args below meth c0 C H locs ls hP hS hl
  refine va_iast C.1 C.2.1 C.2.2.2.2.2.2.2.1 hP (wl_D C.2.2.2.2.2.2.2.2.1) hS c 0 (wl_at hs) rfl hin d (fun H1 locs1 hP1 _ hS1 => K p e s m args below meth c0 C H1 locs1 ls ?_ hS1 hl)
  rw [← ce_aI (k := 0) (by decide) (ad := ad) (kA := kA), wl_set hs ce_oI] at hP1
  exact hP1
theorem r_bast {c n : Nat} {i : Int32} {v : Int32} (d : decode mi.cc pc = .ok (.bastore, 1)) (hs : shL[c]? = some (.inl (1, n))) (hin : vp_in i n) (K : Fw l D ad kA mi (pc + 1) lo rest (sI M c i.toNatClampNeg (vp_nar .byte v)) Q) : Fw l D ad kA mi pc lo (.int v :: .int i :: .ref (ad c) :: rest) M Q := by
  intro p e s m args below meth c0 C H locs ls hP hS hl
  refine va_bast C.1 C.2.1 C.2.2.2.2.2.2.2.1 hP (wl_D C.2.2.2.2.2.2.2.2.1) hS c 1 (wl_at hs) rfl hin d (fun H1 locs1 hP1 _ hS1 => K p e s m args below meth c0 C H1 locs1 ls ?_ hS1 hl)
  rw [← ce_aI (k := 1) (by decide) (ad := ad) (kA := kA), wl_set hs ce_oI] at hP1
  exact hP1
theorem r_zast {c n : Nat} {i : Int32} {v : Int32} (d : decode mi.cc pc = .ok (.bastore, 1)) (hs : shL[c]? = some (.inl (2, n))) (hin : vp_in i n) (K : Fw l D ad kA mi (pc + 1) lo rest (sI M c i.toNatClampNeg (vp_nar .boolean v)) Q) : Fw l D ad kA mi pc lo (.int v :: .int i :: .ref (ad c) :: rest) M Q := by
  intro p e s m args below meth c0 C H locs ls hP hS hl
  refine va_zast C.1 C.2.1 C.2.2.2.2.2.2.2.1 hP (wl_D C.2.2.2.2.2.2.2.2.1) hS c 2 (wl_at hs) rfl hin d (fun H1 locs1 hP1 _ hS1 => K p e s m args below meth c0 C H1 locs1 ls ?_ hS1 hl)
  rw [← ce_aI (k := 2) (by decide) (ad := ad) (kA := kA), wl_set hs ce_oI] at hP1
  exact hP1
theorem r_last {c n : Nat} {i : Int32} {v : Int64} (d : decode mi.cc pc = .ok (.lastore, 1)) (hs : shL[c]? = some (.inl (3, n))) (hin : vp_in i n) (K : Fw l D ad kA mi (pc + 1) lo rest (sL M c i.toNatClampNeg (v)) Q) : Fw l D ad kA mi pc lo (.long v :: .int i :: .ref (ad c) :: rest) M Q := by
  intro p e s m args below meth c0 C H locs ls hP hS hl
  refine va_last C.1 C.2.1 C.2.2.2.2.2.2.2.1 hP (wl_D C.2.2.2.2.2.2.2.2.1) hS c 3 (wl_at hs) rfl hin d (fun H1 locs1 hP1 _ hS1 => K p e s m args below meth c0 C H1 locs1 ls ?_ hS1 hl)
  rw [← ce_aL (ad := ad) (kA := kA), wl_set hs ce_oL] at hP1
  exact hP1
theorem r_alen {c k n : Nat} {v : Int32} (d : decode mi.cc pc = .ok (.arraylength, 1)) (hs : shL[c]? = some (.inl (k, n))) (hk : k < 4) (hv : Int32.ofNat n = v) (K : Fw l D ad kA mi (pc + 1) lo (.int v :: rest) M Q) : Fw l D ad kA mi pc lo (.ref (ad c) :: rest) M Q := by
  intro p e s m args below meth c0 C H locs ls hP hS hl
  match k, hk with
  | 0, _ => exact va_alen C.1 C.2.1 C.2.2.2.2.2.2.2.1 hP c 0 (wl_at hs) rfl hv d (K p e s m args below meth c0 C H locs ls hP hS hl)
  | 1, _ => exact va_alen C.1 C.2.1 C.2.2.2.2.2.2.2.1 hP c 1 (wl_at hs) rfl hv d (K p e s m args below meth c0 C H locs ls hP hS hl)
  | 2, _ => exact va_alen C.1 C.2.1 C.2.2.2.2.2.2.2.1 hP c 2 (wl_at hs) rfl hv d (K p e s m args below meth c0 C H locs ls hP hS hl)
  | 3, _ => exact va_alen C.1 C.2.1 C.2.2.2.2.2.2.2.1 hP c 3 (wl_at hs) rfl hv d (K p e s m args below meth c0 C H locs ls hP hS hl)
/-! what lies outside -/
theorem r_getst {j index : Nat} (d : decode mi.cc pc = .ok (.getstatic index, 3)) (hj : j < 3) (hk : Cond.fieldLink mi.y.cls index "BellTable$Manners" (stN.getD j "") "[I" ∈ lw_w) (K : Fw l D ad kA mi (pc + 3) lo (.ref (ad (200 + j)) :: rest) M Q) : Fw l D ad kA mi pc lo rest M Q := by
  intro p e s m args below meth c C H locs ls hP hS hl
  exact va_gets C.1 C.2.1 (C.2.2.2.2.2.2.2.2.2.1.1 j hj).1 hS C.2.2.2.2.2.1 (C.2.2.2.2.2.2.1 _ hk) (fun _ h => h) d (K p e s m args below meth c C H locs ls hP hS hl)
theorem r_staticald {j : Nat} {i : Int32} (d : decode mi.cc pc = .ok (.iaload, 1)) (hj : j < 3) (hin : vp_in i 4) (K : Fw l D ad kA mi (pc + 1) lo (.int ((stV.getD j []).getD i.toNatClampNeg 0) :: rest) M Q) : Fw l D ad kA mi pc lo (.int i :: .ref (ad (200 + j)) :: rest) M Q := by
  intro p e s m args below meth c C H locs ls hP hS hl
  exact va_ti C.1 C.2.1 (C.2.2.2.2.2.2.2.2.2.1.1 j hj).2 hS hin rfl d (K p e s m args below meth c C H locs ls hP hS hl)
theorem r_getcs {index : Nat} (d : decode mi.cc pc = .ok (.getstatic index, 3)) (hk : Cond.fieldLink mi.y.cls index "java/lang/String" "COMPACT_STRINGS" "Z" ∈ lw_w) (K : Fw l D ad kA mi (pc + 3) lo (.int 1 :: rest) M Q) : Fw l D ad kA mi pc lo rest M Q := by
  intro p e s m args below meth c C H locs ls hP hS hl
  exact va_gets C.1 C.2.1 C.2.2.2.2.2.2.2.2.2.1.2.1 hS C.2.2.2.2.2.1 (C.2.2.2.2.2.2.1 _ hk) (fun _ h => h) d (K p e s m args below meth c C H locs ls hP hS hl)
theorem r_scCoder {i index : Nat} (d : decode mi.cc pc = .ok (.getfield index, 3)) (hi : i < 15) (hk : Cond.fieldLink mi.y.cls index "java/lang/String" "coder" "B" ∈ lw_w) (K : Fw l D ad kA mi (pc + 3) lo (.int 0 :: rest) M Q) : Fw l D ad kA mi pc lo (.ref (ad (210 + i)) :: rest) M Q := by
  intro p e s m args below meth c C H locs ls hP hS hl
  exact vk_getf C.1 C.2.1 (C.2.2.2.2.2.2.2.2.2.1.2.2.1 i hi).2.2.1 hS C.2.2.2.2.2.1 (C.2.2.2.2.2.2.1 _ hk) (fun _ h => h) d (K p e s m args below meth c C H locs ls hP hS hl)
theorem r_scValue {i index : Nat} (d : decode mi.cc pc = .ok (.getfield index, 3)) (hi : i < 15) (hk : Cond.fieldLink mi.y.cls index "java/lang/String" "value" "[B" ∈ lw_w) (K : Fw l D ad kA mi (pc + 3) lo (.ref (ad (230 + i)) :: rest) M Q) : Fw l D ad kA mi pc lo (.ref (ad (210 + i)) :: rest) M Q := by
  intro p e s m args below meth c C H locs ls hP hS hl
  exact vk_getf C.1 C.2.1 (C.2.2.2.2.2.2.2.2.2.1.2.2.1 i hi).2.2.2.1 hS C.2.2.2.2.2.1 (C.2.2.2.2.2.2.1 _ hk) (fun _ h => h) d (K p e s m args below meth c C H locs ls hP hS hl)
theorem r_scald {j : Nat} {i : Int32} (d : decode mi.cc pc = .ok (.baload, 1)) (hj : j < 15) (hin : vp_in i (scB.getD j []).length) (K : Fw l D ad kA mi (pc + 1) lo (.int ((scB.getD j []).getD i.toNatClampNeg 0) :: rest) M Q) : Fw l D ad kA mi pc lo (.int i :: .ref (ad (230 + j)) :: rest) M Q := by
  intro p e s m args below meth c C H locs ls hP hS hl
  exact va_tb C.1 C.2.1 (C.2.2.2.2.2.2.2.2.2.1.2.2.1 j hj).2.2.2.2 hS hin rfl d (K p e s m args below meth c C H locs ls hP hS hl)
theorem r_sclen {j : Nat} {v : Int32} (d : decode mi.cc pc = .ok (.arraylength, 1)) (hj : j < 15) (hv : Int32.ofNat (scB.getD j []).length = v) (K : Fw l D ad kA mi (pc + 1) lo (.int v :: rest) M Q) : Fw l D ad kA mi pc lo (.ref (ad (230 + j)) :: rest) M Q := by
  intro p e s m args below meth c C H locs ls hP hS hl
  exact va_tlen C.1 C.2.1 (C.2.2.2.2.2.2.2.2.2.1.2.2.1 j hj).2.2.2.2 hS hv d (K p e s m args below meth c C H locs ls hP hS hl)
theorem r_getfmt {index : Nat} (d : decode mi.cc pc = .ok (.getstatic index, 3)) (hk : Cond.fieldLink mi.y.cls index "jdk/internal/util/Preconditions" "SIOOBE_FORMATTER" "Ljava/util/function/BiFunction;" ∈ lw_w) (K : ∀ v : Value, (v = .null ∨ ∃ t, v = .ref t) → Fw l D ad kA mi (pc + 3) lo (v :: rest) M Q) : Fw l D ad kA mi pc lo rest M Q := by
  intro p e s m args below meth c C H locs ls hP hS hl
  rcases C.2.2.2.2.2.2.2.2.2.1.2.2.2.2 with h | ⟨t, h⟩
  · exact va_gets C.1 C.2.1 h hS C.2.2.2.2.2.1 (C.2.2.2.2.2.2.1 _ hk) (fun _ h => h) d (K _ (Or.inl rfl) p e s m args below meth c C H locs ls hP hS hl)
  · exact va_gets C.1 C.2.1 h hS C.2.2.2.2.2.1 (C.2.2.2.2.2.2.1 _ hk) (fun _ h => h) d (K _ (Or.inr ⟨t, rfl⟩) p e s m args below meth c C H locs ls hP hS hl)
/-! ends -/
theorem po_of {R : Outcome} {s t : State} {H : Heap} {locs : List Loc} {args : Array Value} (hq : Q R M) (hP : va_P D cls (wl ad kA M) H) (hS : va_S (AW ad) s.heap H locs) (ht : t.heap = H) : Po D ad kA Q args s R t := ⟨⟨M, hq, by rw [ht]; exact hP⟩, hS.F ht⟩
theorem r_iret {v : Int32} (d : decode mi.cc pc = .ok (.ireturn, 1)) (hr : mi.ret = some .int) (hq : Q (.returned (some (.int v))) M) : Fw l D ad kA mi pc lo [.int v] M Q := by
  intro p e s m args below meth c C H locs ls hP hS hl
  exact W.imp MQ.x (W.iret C.1 C.2.1 (C.2.2.2.1.trans hr) (fun t ht _ => po_of hq hP hS ht) hS.2.2 d C.2.2.2.2.1)
theorem r_zret {v : Int32} {ty : FieldType} (d : decode mi.cc pc = .ok (.ireturn, 1)) (hr : mi.ret = some ty) (hn : narrow ty (.int v) = .int v) (hq : Q (.returned (some (.int v))) M) : Fw l D ad kA mi pc lo [.int v] M Q := by
  intro p e s m args below meth c C H locs ls hP hS hl
  exact W.imp MQ.x (W.zret C.1 C.2.1 (C.2.2.2.1.trans hr) hn (fun t ht _ => po_of hq hP hS ht) hS.2.2 d C.2.2.2.2.1)
theorem r_lret {v : Int64} (d : decode mi.cc pc = .ok (.lreturn, 1)) (hr : mi.ret = some .long) (hq : Q (.returned (some (.long v))) M) : Fw l D ad kA mi pc lo [.long v] M Q := by
  intro p e s m args below meth c C H locs ls hP hS hl
  exact W.imp MQ.x (W.lret C.1 C.2.1 (C.2.2.2.1.trans hr) (fun t ht _ => po_of hq hP hS ht) hS.2.2 d C.2.2.2.2.1)
theorem r_vret (d : decode mi.cc pc = .ok (.return_, 1)) (hr : mi.ret = none) (hq : Q (.returned none) M) : Fw l D ad kA mi pc lo [] M Q := by
  intro p e s m args below meth c C H locs ls hP hS hl
  exact W.imp MQ.x (W.vret C.1 C.2.1 (C.2.2.2.1.trans hr) (fun t ht _ => po_of hq hP hS ht) hS.2.2 d C.2.2.2.2.1)
end Rules
