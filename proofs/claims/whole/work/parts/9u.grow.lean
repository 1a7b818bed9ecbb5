/-! CONSTRUCTORS: a world that grows; a frame's judgement Gw, a constructor's judgement CI -/
def GA (sz0 : Nat) : Nat → Prop := fun q => sz0 ≤ q
def nestC : List (String × Nat × MethodName) := [(RX11, 9, yX10_init), (RX0, 11, yX9_init), (RX11, 27, yX9_init), (RX5, 26, yX1_init)]
/-- what lies below the world and is only read by constructors -/
def St (sz0 t0 : Nat) (U : State) (H : Heap) : Prop :=
  (va_Z "BellTable$Manners" "AT_FIRST" "[I" (.ref t0) (GA sz0) U H ∧ va_X t0 4 (fun i => (stV.getD 0 []).getD i 0) U H ∧ t0 < sz0) ∧
  va_Zq "java/lang/Throwable" "UNASSIGNED_STACK" "[Ljava/lang/StackTraceElement;" (GA sz0) U H ∧
  va_Zq "java/lang/Throwable" "SUPPRESSED_SENTINEL" "Ljava/util/List;" (GA sz0) U H ∧
  ∀ q ∈ nestC, va_Nw (.methodLinkNest q.1 q.2.1 q.2.2 "BellTable") U
theorem St.warm {sz0 t0 : Nat} {u U : State} {H H1 : Heap} (hW : u.WarmedH U.vm) (hq : ∀ a : Nat, a < H.size → ¬ GA sz0 a → H1[a]? = H[a]?) (h : St sz0 t0 u H) : St sz0 t0 U H1 :=
  have ht : H1[t0]? = H[t0]? := by
    obtain ⟨scr, e, -⟩ := h.1.2.1
    exact hq t0 (Array.getElem?_eq_some_iff.mp e).1 (Nat.not_le.mpr h.1.2.2)
  ⟨⟨(h.1.1.moved hW.alike).kept hq, (h.1.2.1.moved hW.alike).kept ht, h.1.2.2⟩, h.2.1.kept2 hW.alike hq, h.2.2.1.kept2 hW.alike hq, fun q hq => (h.2.2.2 q hq).warmM hW⟩
theorem St.same {sz0 t0 : Nat} {u U : State} {H : Heap} (hv : U.vm = u.vm) (h : St sz0 t0 u H) : St sz0 t0 U H :=
  have hA : u.vm.Alike U.vm := by rw [hv]; exact Vm.Alike.refl u.vm
  ⟨⟨h.1.1.moved hA, h.1.2.1.moved hA, h.1.2.2⟩, h.2.1.kept2 hA (fun _ _ _ => rfl), h.2.2.1.kept2 hA (fun _ _ _ => rfl), fun q hq => va_Nw.same rfl hv.symm (h.2.2.2 q hq)⟩
abbrev rmC (mi : MI) (rc rs : Nat) : Room := { frames := mi.fr, cells := rc, slots := rs, locals := mi.lw }
def CPc (D : va_G) (kA : Nat → ClassId) (sz0 t0 : Nat) (w0 : va_W) (sz : Nat) : State → Prop := fun U => U.heap.size = sz ∧ sz0 ≤ sz ∧ va_P D cls w0 U.heap ∧ va_K D cls (tyK kA) U ∧ va_D (GA sz0) w0 ∧ St sz0 t0 U U.heap
def QB (D : va_G) (w0 : va_W) (sz : Nat) : va_W → State → Prop := fun w1 t => va_P D cls w1 t.heap ∧ va_D (va_A w0 sz) w1
def CI (l : Launch) (D : va_G) (kA : Nat → ClassId) (sz0 t0 : Nat) (mi : MI) (rc rs : Nat) (av : List Value) (w0 : va_W) (Qw : va_W → Prop) : Prop :=
  ∀ sz, Met l mi.y (wsOf mi) (rmC mi rc rs) (va_Pc av (CPc D kA sz0 t0 w0 sz)) (va_Qv Qw (QB D w0 sz) (va_A w0 sz)) rc rs (va_A w0 sz)
def Cn (D : va_G) (kA : Nat → ClassId) (sz0 t0 : Nat) (mi : MI) (w0 : va_W) (p : Program) (s : State) (m : MethodId) (args : Array Value) (meth : Method) (c : Code) : Prop :=
  p.tables.exec = Jvm.exec ∧ c.code = mi.cc ∧ c.maxLocals = mi.nL ∧ meth.sig.returnType = none ∧ meth.locks = false ∧ s.vm.findClass mi.y.cls = some m.cls ∧ (∀ w ∈ lw_w, w.before args s = true) ∧ va_K D cls (tyK kA) s ∧ sz0 ≤ s.heap.size ∧ va_D (GA sz0) w0 ∧ St sz0 t0 s s.heap ∧ meth.name = "<init>"
def Gw (l : Launch) (D : va_G) (kA : Nat → ClassId) (sz0 t0 : Nat) (mi : MI) (rc rs : Nat) (w0 : va_W) (Qw : va_W → Prop) (pc : Nat) (lo : List (Option Value)) (st : List Value) (ws : va_W) (nc ns : Nat) : Prop :=
  ∀ (p : Program) (e : Env) (s : State) (m : MethodId) (args : Array Value) (below : List Frame) (meth : Method) (c : Code), Cn D kA sz0 t0 mi w0 p s m args meth c → ∀ (H : Heap) (locs : List Loc) (ls : Array Slot), va_P D cls ws H → va_D (va_A w0 s.heap.size) ws → va_S (va_A w0 s.heap.size) s.heap H locs → lv_has ls mi.nL (lp lo) →
    W p l e (rmC mi rc rs) s m args below meth c H locs nc ns (MQ below (va_Qv Qw (QB D w0 s.heap.size) (va_A w0 s.heap.size)) args s rc rs (va_A w0 s.heap.size)) (F0 m pc ls st)
section Grow
variable {l : Launch} {D : va_G} {kA : Nat → ClassId} {sz0 t0 : Nat} {mi mi2 : MI} {rc rs : Nat} {w0 : va_W} {Qw : va_W → Prop} {pc : Nat} {lo : List (Option Value)} {rest : List Value} {ws : va_W} {nc ns : Nat}
theorem CI.of {av : List Value} (hy : plainName mi.y.cls = true) (hn : mi.y.name = "<init>") (hr : mi.ret = none) (hlo : lv_args 0 av = lp lo) (hlen : (lg_sl av).length ≤ mi.nL) (K : Gw l D kA sz0 t0 mi rc rs w0 Qw 0 lo [] w0 0 0) : CI l D kA sz0 t0 mi rc rs av w0 Qw := by
  intro sz
  refine Met.ofW (cc := mi.cc) (maxL := mi.nL) (ret := mi.ret) hy rfl ?_
  intro p e s m args below meth c s₁ B hml hv
  obtain ⟨rfl, hsz, hge, hP, hK, hD0, hSt⟩ := hv
  have hts : ∀ w ∈ wsOf mi, w.before av.toArray s = true := atoms_spec (ws := wsOf mi) B.pre
  have hl := lv_entry av (n := mi.nL) hlen
  subst hsz
  have C : Cn D kA sz0 t0 mi w0 p s m av.toArray meth c := ⟨B.exec, B.bytes, hml, B.returns.trans hr, B.notSynchronized, findClass_of_methodNamed B.named, fun w hw => hts w (List.mem_cons_of_mem _ hw), hK, hge, hD0, hSt, (name_of_methodNamed B.named B.method).1.trans hn⟩
  have k := K p e s m av.toArray below meth c C s.heap [] _ hP (hD0.self (sz := s.heap.size)) va_S.rf (by rw [← hlo]; exact hl)
  rw [lg_entry_eq]
  exact k
theorem g_aload {k : Fin 4} {x : Nat} (d : decode mi.cc pc = .ok (.aload_n k, 1)) (h : lo[k.val]? = some (some (.ref x))) (K : Gw l D kA sz0 t0 mi rc rs w0 Qw (pc + 1) lo (.ref x :: rest) ws nc ns) : Gw l D kA sz0 t0 mi rc rs w0 Qw pc lo rest ws nc ns := by
  intro p e s m args below meth c C H locs ls hP hD hS hl
  exact lv_aload_n C.1 C.2.1 d rfl (lp_at hl h) (K p e s m args below meth c C H locs ls hP hD hS hl)
theorem g_aloadN {k : Fin 4} (d : decode mi.cc pc = .ok (.aload_n k, 1)) (h : lo[k.val]? = some (some .null)) (K : Gw l D kA sz0 t0 mi rc rs w0 Qw (pc + 1) lo (.null :: rest) ws nc ns) : Gw l D kA sz0 t0 mi rc rs w0 Qw pc lo rest ws nc ns := by
  intro p e s m args below meth c C H locs ls hP hD hS hl
  exact lv_aload_nN C.1 C.2.1 d rfl (lp_at hl h) (K p e s m args below meth c C H locs ls hP hD hS hl)
theorem g_iload_n {k : Fin 4} {x : Int32} (d : decode mi.cc pc = .ok (.iload_n k, 1)) (h : lo[k.val]? = some (some (.int x))) (K : Gw l D kA sz0 t0 mi rc rs w0 Qw (pc + 1) lo (.int x :: rest) ws nc ns) : Gw l D kA sz0 t0 mi rc rs w0 Qw pc lo rest ws nc ns := by
  intro p e s m args below meth c C H locs ls hP hD hS hl
  exact lv_iload_n C.1 C.2.1 d rfl (lp_at hl h) (K p e s m args below meth c C H locs ls hP hD hS hl)
theorem g_iload {i : Nat} {x : Int32} (d : decode mi.cc pc = .ok (.iload i, 2)) (h : lo[i]? = some (some (.int x))) (K : Gw l D kA sz0 t0 mi rc rs w0 Qw (pc + 2) lo (.int x :: rest) ws nc ns) : Gw l D kA sz0 t0 mi rc rs w0 Qw pc lo rest ws nc ns := by
  intro p e s m args below meth c C H locs ls hP hD hS hl
  exact lv_iload C.1 C.2.1 d (lp_at hl h) (K p e s m args below meth c C H locs ls hP hD hS hl)
theorem g_iconst {n : Int} {v : Int32} (d : decode mi.cc pc = .ok (.iconst n, 1)) (hv : Int32.ofInt n = v) (K : Gw l D kA sz0 t0 mi rc rs w0 Qw (pc + 1) lo (.int v :: rest) ws nc ns) : Gw l D kA sz0 t0 mi rc rs w0 Qw pc lo rest ws nc ns := by
  intro p e s m args below meth c C H locs ls hP hD hS hl
  exact lv_iconst C.1 C.2.1 d hv (K p e s m args below meth c C H locs ls hP hD hS hl)
theorem g_bipush {n : Int} {v : Int32} (d : decode mi.cc pc = .ok (.bipush n, 2)) (hv : (Int8.ofInt n).toInt32 = v) (K : Gw l D kA sz0 t0 mi rc rs w0 Qw (pc + 2) lo (.int v :: rest) ws nc ns) : Gw l D kA sz0 t0 mi rc rs w0 Qw pc lo rest ws nc ns := by
  intro p e s m args below meth c C H locs ls hP hD hS hl
  exact lv_bipush C.1 C.2.1 d hv (K p e s m args below meth c C H locs ls hP hD hS hl)
theorem g_sipush {n : Int} {v : Int32} (d : decode mi.cc pc = .ok (.sipush n, 3)) (hv : (Int16.ofInt n).toInt32 = v) (K : Gw l D kA sz0 t0 mi rc rs w0 Qw (pc + 3) lo (.int v :: rest) ws nc ns) : Gw l D kA sz0 t0 mi rc rs w0 Qw pc lo rest ws nc ns := by
  intro p e s m args below meth c C H locs ls hP hD hS hl
  exact lv_sipush C.1 C.2.1 d hv (K p e s m args below meth c C H locs ls hP hD hS hl)
theorem g_ldc {index : Nat} {v : Int32} (d : decode mi.cc pc = .ok (.ldc index, 2)) (hc : Cond.constant mi.y.cls index v ∈ lw_w) (K : Gw l D kA sz0 t0 mi rc rs w0 Qw (pc + 2) lo (.int v :: rest) ws nc ns) : Gw l D kA sz0 t0 mi rc rs w0 Qw pc lo rest ws nc ns := by
  intro p e s m args below meth c C H locs ls hP hD hS hl
  exact lv_ldc C.1 C.2.1 C.2.2.2.2.2.1 (C.2.2.2.2.2.2.1 _ hc) d (K p e s m args below meth c C H locs ls hP hD hS hl)
theorem g_null (d : decode mi.cc pc = .ok (.aconst_null, 1)) (K : Gw l D kA sz0 t0 mi rc rs w0 Qw (pc + 1) lo (.null :: rest) ws nc ns) : Gw l D kA sz0 t0 mi rc rs w0 Qw pc lo rest ws nc ns := by
  intro p e s m args below meth c C H locs ls hP hD hS hl
  exact lv_null C.1 C.2.1 d (K p e s m args below meth c C H locs ls hP hD hS hl)
theorem g_dup {va : Value} (d : decode mi.cc pc = .ok (.dup, 1)) (hva : va.category = 1) (K : Gw l D kA sz0 t0 mi rc rs w0 Qw (pc + 1) lo (va :: va :: rest) ws nc ns) : Gw l D kA sz0 t0 mi rc rs w0 Qw pc lo (va :: rest) ws nc ns := by
  intro p e s m args below meth c C H locs ls hP hD hS hl
  exact lv_dup C.1 C.2.1 d hva (K p e s m args below meth c C H locs ls hP hD hS hl)
theorem g_obj {idx a : Nat} (d : decode mi.cc pc = .ok (.invokespecial idx, 3)) (hk : Cond.methodLink mi.y.cls idx objectInit ∈ lw_w) (hi : Cond.instanceMethod objectInit ∈ lw_w) (hc : Cond.code objectInit ⟨#[0xb1]⟩ 1 none ∈ lw_w) (hf : 1 ≤ mi.fr) (hw : (rest.map fun v => v.category).sum + 12 ≤ mi.lw) (K : Gw l D kA sz0 t0 mi rc rs w0 Qw (pc + 3) lo rest ws nc ns) : Gw l D kA sz0 t0 mi rc rs w0 Qw pc lo (.ref a :: rest) ws nc ns := by
  intro p e s m args below meth c C H locs ls hP hD hS hl
  have hts := C.2.2.2.2.2.2.1
  refine W.objInit C.1 C.2.1 C.2.2.2.2.2.1 (hts _ hk) (hts _ hi) (hts _ hc) rfl (by rw [C.2.2.1]; exact hl.1) rfl d hf (by show 2 * 0 + _ + 12 ≤ mi.lw; omega) ?_
  exact K p e s m args below meth c C H locs ls hP hD hS hl
theorem g_new {index ci N : Nat} {Cc : String} {T : u_T} {ty : Nat → FieldType} {fs : List Value} (d : decode mi.cc pc = .ok (.new index, 3)) (hin : ∀ w ∈ u_ws Cc T N, w ∈ lw_w) (hty : ∀ k, k < N → parseFieldDescriptor (T k).2.2.1 = some (ty k)) (h1 : Cond.classLink mi.y.cls index Cc ∈ lw_w) (h2 : Cond.instantiable Cc N ∈ lw_w) (h3 : Cond.initialized Cc ∈ lw_w) (hc : cls[ci]? = some (Cc, T, N)) (hfs : ∀ j, j < N → defaultValue (ty j) = vp_V fs j) (hcells : nc + 1 ≤ rc) (hslots : ns + N ≤ rs)
    (K : ∀ q, Gw l D kA sz0 t0 mi rc rs w0 Qw (pc + 3) lo (.ref q :: rest) (ws ++ [(q, .inr (ci, fs))]) (nc + 1) (ns + N)) : Gw l D kA sz0 t0 mi rc rs w0 Qw pc lo rest ws nc ns := by
  intro p e s m args below meth c C H locs ls hP hD hS hl
  have hts := C.2.2.2.2.2.2.1
  exact va_new (ci := ci) (fs := fs) (C := Cc) (T := T) (N := N) C.1 C.2.1 hts hin ty hty C.2.2.2.2.2.1 (hts _ h1) (hts _ h2) (hts _ h3) C.2.2.2.2.2.2.2.1 hP hD hS (fun q h => Or.inr h) hc hfs hcells hslots d (fun q H1 hP hD hS => K q p e s m args below meth c C H1 locs ls hP hD hS hl)
/-- a new array of a kind of the world -/
theorem g_newa {atype : ArrayType} {ty : FieldType} {kk : Nat} {n : Int32} {N : Nat} {a0 : vp_A} (d : decode mi.cc pc = .ok (.newarray atype, 2)) (harr : Cond.arrayClass (newarray.typeOf atype) ∈ lw_w) (hty : newarray.typeOf atype = ty) (hkk : (tyK kA)[kk]? = some (kA kk, ty)) (ho : ∀ C, ¬ ty = .object C) (ha : ∀ cA : ClassId, vp_cell cA a0 = arrV cA N (fun _ => defaultValue ty)) (hn : ¬ n < 0) (hN : n.toNatClampNeg = N) (hbytes : N * componentBytes ty ≤ 536870912) (hcells : nc + 1 ≤ rc) (hslots : ns + N ≤ rs)
    (K : ∀ q, Gw l D kA sz0 t0 mi rc rs w0 Qw (pc + 2) lo (.ref q :: rest) (ws ++ [(q, .inl (kA kk, a0))]) (nc + 1) (ns + N)) : Gw l D kA sz0 t0 mi rc rs w0 Qw pc lo (.int n :: rest) ws nc ns := by
  intro p e s m args below meth c C H locs ls hP hD hS hl
  have hts := C.2.2.2.2.2.2.1
  refine va_newa C.1 C.2.1 (hts _ harr) hty C.2.2.2.2.2.2.2.1 hP hD hS (fun q h => Or.inr h) ha hn hN hbytes hcells hslots d (fun q cA H1 hK hP hD hS => ?_)
  have e1 := (hK.2 4 (cA, ty) rfl).2
  have e2 := (C.2.2.2.2.2.2.2.1.2 kk _ hkk).2
  have e : cA = kA kk := by
    cases ty with
    | object C' => exact absurd rfl (ho C')
    | _ => exact Option.some.inj (Eq.trans (Eq.symm e1) e2)
  subst e
  exact K q p e s m args below meth c C H1 locs ls hP hD hS hl
/-- a field of an object of the world is set: final or not -/
theorem g_put {index q0 ci N k a : Nat} {ref Cc : String} {T : u_T} {ty0 : Nat → FieldType} {fs : List Value} {ty : FieldType} {v : Value} (d : decode mi.cc pc = .ok (.putfield index, 3)) (hin : ∀ w ∈ u_ws Cc T N, w ∈ lw_w) (hty : ∀ k, k < N → parseFieldDescriptor (T k).2.2.1 = some (ty0 k)) (hnm : ∀ a, a < N → ∀ b, b < N → a ≠ b → (T a).2.1 ≠ (T b).2.1) (he : ws[q0]? = some (a, .inr (ci, fs))) (hc : cls[ci]? = some (Cc, T, N)) (hk : k < N) (hlink : Cond.fieldLink mi.y.cls index ref (T k).2.1 (T k).2.2.1 ∈ lw_w) (href : ref = (T k).1) (hfin : (T k).2.2.2 = false) (hd : parseFieldDescriptor (T k).2.2.1 = some ty) (hn : narrow ty v = v) (hfit : fits ty v = true) (hl9 : k < fs.length)
    (K : Gw l D kA sz0 t0 mi rc rs w0 Qw (pc + 3) lo rest (ws.set q0 (a, .inr (ci, fs.set k v))) nc ns) : Gw l D kA sz0 t0 mi rc rs w0 Qw pc lo (v :: .ref a :: rest) ws nc ns := by
  intro p e s m args below meth c C H locs ls hP hD hS hl
  have hts := C.2.2.2.2.2.2.1
  exact va_put (D := D) (ci := ci) (v := v) (ty := ty) (C := Cc) (T := T) (N := N) C.1 C.2.1 hts hin ty0 hty hnm C.2.2.2.2.2.1 C.2.2.2.2.2.2.2.1 hP hD hS q0 he hc k hk (hts _ hlink) (fun x h => by rw [href]; exact h) hfin hd hn hfit hl9 d (fun H1 locs1 hP hD hS => K p e s m args below meth c C H1 locs1 ls hP hD hS hl)
theorem g_putF {index q0 ci N k a : Nat} {ref Cc : String} {T : u_T} {ty0 : Nat → FieldType} {fs : List Value} {ty : FieldType} {v : Value} (d : decode mi.cc pc = .ok (.putfield index, 3)) (hin : ∀ w ∈ u_ws Cc T N, w ∈ lw_w) (hty : ∀ k, k < N → parseFieldDescriptor (T k).2.2.1 = some (ty0 k)) (hnm : ∀ a, a < N → ∀ b, b < N → a ≠ b → (T a).2.1 ≠ (T b).2.1) (he : ws[q0]? = some (a, .inr (ci, fs))) (hc : cls[ci]? = some (Cc, T, N)) (hk : k < N) (hlink : Cond.fieldLink mi.y.cls index ref (T k).2.1 (T k).2.2.1 ∈ lw_w) (href : ref = (T k).1) (hfin : (T k).2.2.2 = true) (hdecl : (T k).1 = mi.y.cls) (hd : parseFieldDescriptor (T k).2.2.1 = some ty) (hn : narrow ty v = v) (hfit : fits ty v = true) (hl9 : k < fs.length)
    (K : Gw l D kA sz0 t0 mi rc rs w0 Qw (pc + 3) lo rest (ws.set q0 (a, .inr (ci, fs.set k v))) nc ns) : Gw l D kA sz0 t0 mi rc rs w0 Qw pc lo (v :: .ref a :: rest) ws nc ns := by
  intro p e s m args below meth c C H locs ls hP hD hS hl
  have hts := C.2.2.2.2.2.2.1
  exact va_putF (D := D) (ci := ci) (v := v) (ty := ty) (C := Cc) (T := T) (N := N) C.1 C.2.1 hts hin ty0 hty hnm C.2.2.2.2.2.1 C.2.2.2.2.2.2.2.1 hP hD hS q0 he hc k hk (hts _ hlink) (fun x h => by rw [href]; exact h) hfin C.2.2.2.2.2.2.2.2.2.2.2 hdecl hd hn hfit hl9 d (fun H1 locs1 hP hD hS => K p e s m args below meth c C H1 locs1 ls hP hD hS hl)
theorem g_get {index q0 ci N k a : Nat} {ref Cc : String} {T : u_T} {fs : List Value} {v : Value} (d : decode mi.cc pc = .ok (.getfield index, 3)) (hin : ∀ w ∈ u_ws Cc T N, w ∈ lw_w) (he : ws[q0]? = some (a, .inr (ci, fs))) (hc : cls[ci]? = some (Cc, T, N)) (hk : k < N) (hlink : Cond.fieldLink mi.y.cls index ref (T k).2.1 (T k).2.2.1 ∈ lw_w) (href : ref = (T k).1) (hv : fs[k]? = some v)
    (K : Gw l D kA sz0 t0 mi rc rs w0 Qw (pc + 3) lo (v :: rest) ws nc ns) : Gw l D kA sz0 t0 mi rc rs w0 Qw pc lo (.ref a :: rest) ws nc ns := by
  intro p e s m args below meth c C H locs ls hP hD hS hl
  have hts := C.2.2.2.2.2.2.1
  exact va_get (D := D) (ci := ci) (v := v) (C := Cc) (T := T) (N := N) C.1 C.2.1 hts hin C.2.2.2.2.2.1 C.2.2.2.2.2.2.2.1 hP q0 he hc k hk (hts _ hlink) (fun x h => by rw [href]; exact h) hv d (K p e s m args below meth c C H locs ls hP hD hS hl)
theorem g_iast {q0 a n : Nat} {f : Nat → Int32} {i x : Int32} (d : decode mi.cc pc = .ok (.iastore, 1)) (ha : ws[q0]? = some (a, .inl (kA 0, n, .inl f))) (hin : vp_in i n)
    (K : Gw l D kA sz0 t0 mi rc rs w0 Qw (pc + 1) lo rest (ws.set q0 (a, .inl (kA 0, n, .inl (upd f i.toNatClampNeg x)))) nc ns) : Gw l D kA sz0 t0 mi rc rs w0 Qw pc lo (.int x :: .int i :: .ref a :: rest) ws nc ns := by
  intro p e s m args below meth c C H locs ls hP hD hS hl
  exact va_iast C.1 C.2.1 C.2.2.2.2.2.2.2.1 hP hD hS q0 0 ha rfl hin d (fun H1 locs1 hP hD hS => K p e s m args below meth c C H1 locs1 ls hP hD hS hl)
theorem g_ifeq0 {off : Int} {tgt : Nat} (d : decode mi.cc pc = .ok (.ifCond .eq off, 3)) (ht : (pc : Int) + off = (tgt : Int)) (K : Gw l D kA sz0 t0 mi rc rs w0 Qw tgt lo rest ws nc ns) : Gw l D kA sz0 t0 mi rc rs w0 Qw pc lo (.int 0 :: rest) ws nc ns := by
  intro p e s m args below meth c C H locs ls hP hD hS hl
  exact lv_if_eq C.1 C.2.1 d ht (fun _ => K p e s m args below meth c C H locs ls hP hD hS hl) (fun q => absurd rfl q)
theorem g_ifne0 {off : Int} {tgt : Nat} (d : decode mi.cc pc = .ok (.ifCond .ne off, 3)) (ht : (pc : Int) + off = (tgt : Int)) (K : Gw l D kA sz0 t0 mi rc rs w0 Qw (pc + 3) lo rest ws nc ns) : Gw l D kA sz0 t0 mi rc rs w0 Qw pc lo (.int 0 :: rest) ws nc ns := by
  intro p e s m args below meth c C H locs ls hP hD hS hl
  exact lv_if_ne C.1 C.2.1 d ht (fun q => absurd rfl q) (fun _ => K p e s m args below meth c C H locs ls hP hD hS hl)
theorem Cn.low {p : Program} {s : State} {m : MethodId} {args : Array Value} {meth : Method} {c : Code} (C : Cn D kA sz0 t0 mi w0 p s m args meth c) : ∀ q, va_A w0 s.heap.size q → GA sz0 q := by
  intro q h
  rcases h with ⟨k, e, h⟩ | h
  · exact C.2.2.2.2.2.2.2.2.2.1.2 k (q, e) h
  · exact Nat.le_trans C.2.2.2.2.2.2.2.2.1 h
theorem g_gets {C0 n d0 : String} {index : Nat} (d : decode mi.cc pc = .ok (.getstatic index, 3)) (hlink : Cond.fieldLink mi.y.cls index C0 n d0 ∈ lw_w) (hz : ∀ (U : State) (H : Heap), St sz0 t0 U H → va_Zq C0 n d0 (GA sz0) U H)
    (K : ∀ v : Value, (v = .null ∨ ∃ t, v = .ref t) → Gw l D kA sz0 t0 mi rc rs w0 Qw (pc + 3) lo (v :: rest) ws nc ns) : Gw l D kA sz0 t0 mi rc rs w0 Qw pc lo rest ws nc ns := by
  intro p e s m args below meth c C H locs ls hP hD hS hl
  have hts := C.2.2.2.2.2.2.1
  rcases hz s s.heap C.2.2.2.2.2.2.2.2.2.2.1 with h | ⟨t, h⟩
  · exact va_gets C.1 C.2.1 (h.narrow C.low) hS C.2.2.2.2.2.1 (hts _ hlink) (fun x h => h) d (K .null (Or.inl rfl) p e s m args below meth c C H locs ls hP hD hS hl)
  · exact va_gets C.1 C.2.1 (h.narrow C.low) hS C.2.2.2.2.2.1 (hts _ hlink) (fun x h => h) d (K (.ref t) (Or.inr ⟨t, rfl⟩) p e s m args below meth c C H locs ls hP hD hS hl)
theorem g_getsA {index : Nat} (d : decode mi.cc pc = .ok (.getstatic index, 3)) (hlink : Cond.fieldLink mi.y.cls index "BellTable$Manners" "AT_FIRST" "[I" ∈ lw_w)
    (K : Gw l D kA sz0 t0 mi rc rs w0 Qw (pc + 3) lo (.ref t0 :: rest) ws nc ns) : Gw l D kA sz0 t0 mi rc rs w0 Qw pc lo rest ws nc ns := by
  intro p e s m args below meth c C H locs ls hP hD hS hl
  have hts := C.2.2.2.2.2.2.1
  exact va_gets C.1 C.2.1 (C.2.2.2.2.2.2.2.2.2.2.1.1.1.narrow C.low) hS C.2.2.2.2.2.1 (hts _ hlink) (fun x h => h) d (K p e s m args below meth c C H locs ls hP hD hS hl)
/-- the first rules are copied -/
theorem g_copyA {index q1 a : Nat} {g : Nat → Int32} (d : decode mi.cc pc = .ok (.invokestatic index, 3)) (hk : Cond.methodLink mi.y.cls index arraycopyName ∈ lw_w) (ha : ws[q1]? = some (a, .inl (kA 0, 4, .inl g))) (hf : 1 ≤ mi.fr) (hw : (rest.map fun v => v.category).sum + (nativeFrameWords "java/lang/System" "arraycopy" 5 + 11) ≤ mi.lw)
    (K : Gw l D kA sz0 t0 mi rc rs w0 Qw (pc + 3) lo rest (ws.set q1 (a, .inl (kA 0, 4, .inl (va_cpy (fun i => (stV.getD 0 []).getD i 0) g 0 0 4)))) nc ns) : Gw l D kA sz0 t0 mi rc rs w0 Qw pc lo (.int 4 :: .int 0 :: .ref a :: .int 0 :: .ref t0 :: rest) ws nc ns := by
  intro p e s m args below meth c C H locs ls hP hD hS hl
  have hts := C.2.2.2.2.2.2.1
  obtain ⟨hX, hlt⟩ := C.2.2.2.2.2.2.2.2.2.2.1.1.2
  exact va_copyx (sp := 0) (dp := 0) (n := 4) C.1 C.2.1 (C.2.2.1.trans hl.1.symm) C.2.2.2.2.2.1 (hts _ hk) (hts _ w_copy.2) (hts _ w_copy.1) (hts _ w_sys) C.2.2.2.2.2.2.2.1 hP hD hS hX (Nat.lt_of_lt_of_le hlt C.2.2.2.2.2.2.2.2.1) (fun h => absurd (C.low _ h) (Nat.not_le.mpr hlt)) q1 0 ha rfl (by decide) (by decide) (by decide) (by decide) (by decide) hf hw d (fun H1 locs1 hP hD hS => K p e s m args below meth c C H1 locs1 ls hP hD hS hl)
/-- what a callee needs of the caller's world -/
theorem CPc.blind {av : List Value} {w : va_W} {sz : Nat} : FrameBlind (va_Pc av (CPc D kA sz0 t0 w sz)) := by
  intro a U g mk h
  obtain ⟨h0, h1, h2, h3, h4, h5, h6⟩ := h
  exact ⟨h0, h1, h2, h3, va_K.moved (u := U) (U := U.calling g mk a) (Vm.Alike.refl U.vm) h4, h5, St.same (U := U.calling g mk a) (u := U) rfl h6⟩
theorem CPc.at {p : Program} {s : State} {m : MethodId} {args : Array Value} {meth : Method} {c : Code} {H : Heap} {locs : List Loc} {wc : va_W} (C : Cn D kA sz0 t0 mi w0 p s m args meth c) (hP : va_P D cls wc H) (hD : va_D (va_A w0 s.heap.size) wc) (hS : va_S (va_A w0 s.heap.size) s.heap H locs) : ∀ U : State, U.heap = H → s.WarmedH U.vm → CPc D kA sz0 t0 wc H.size U := fun U hU hW => ⟨by rw [hU], Nat.le_trans C.2.2.2.2.2.2.2.2.1 hS.1, by rw [hU]; exact hP, va_K.moved hW.alike C.2.2.2.2.2.2.2.1, hD.weaken (fun _ _ _ h => C.low _ h), by rw [hU]; exact St.warm hW (fun a h1 h2 => hS.2.1 a h1 (fun h => h2 (C.low a h))) C.2.2.2.2.2.2.2.2.2.2.1⟩
/-- a constructor is called on the world's last cell; what it makes lies behind -/
theorem g_call {index n mc ms b : Nat} {As st : List Value} {e0 : va_E} {Q2 : va_W → Prop} {wr : va_W} (d : decode mi.cc pc = .ok (.invokespecial index, 3)) (hws : ws = wr ++ [(b, e0)]) (hmi : mi2.y.name = "<init>") (hr2 : mi2.ret = none)
    (hlink : Cond.methodLink mi.y.cls index mi2.y ∈ lw_w ∨ (mi.y.cls, index, mi2.y) ∈ nestC) (hini : Cond.initialized mi2.y.cls ∈ lw_w) (hcode : Cond.code mi2.y mi2.cc mi2.nL mi2.ret ∈ lw_w) (hinst : Cond.instanceMethod mi2.y ∈ lw_w) (hdd : mi2.y.cls ≠ "java/lang/invoke/MethodHandle" ∧ mi2.y.cls ≠ "java/lang/invoke/VarHandle" ∧ (parseMethodDescriptor mi2.y.desc).map (fun d => d.parameters.length) = some n) (hR : Rm mi mi2)
    (hst : st = As.reverse ++ .ref b :: rest) (hn : As.length = n) (hw : (rest.map fun v => v.category).sum ≤ 8) (hcells : nc + mc ≤ rc) (hslots : ns + ms ≤ rs) (hM : CI l D kA sz0 t0 mi2 mc ms (.ref b :: As) [(b, e0)] Q2)
    (K : ∀ w1, Q2 w1 → Gw l D kA sz0 t0 mi rc rs w0 Qw (pc + 3) lo rest (wr ++ w1) (nc + mc) (ns + ms)) : Gw l D kA sz0 t0 mi rc rs w0 Qw pc lo st ws nc ns := by
  intro p e s m args below meth c C H locs ls hP hD hS hl
  subst hst
  subst hws
  have hts := C.2.2.2.2.2.2.1
  have hat : ∀ (k : Nat) (q : Nat × va_E), [(b, e0)][k]? = some q → (wr ++ [(b, e0)])[wr.length + k]? = some q := by
    intro k q hq
    rw [List.getElem?_append_right (by omega), Nat.add_sub_cancel_left]; exact hq
  have hPc : va_P D cls [(b, e0)] H := fun k q hq => hP _ _ (hat k q hq)
  have hDc : va_D (va_A w0 s.heap.size) [(b, e0)] := ⟨fun i j p q hp hq hpq => by
    have := hD.1 _ _ _ _ (hat i p hp) (hat j q hq) hpq
    omega, fun k q hq => hD.2 _ _ (hat k q hq)⟩
  have hFc : ∀ q, va_A [(b, e0)] H.size q → va_A w0 s.heap.size q := by
    intro q h
    rcases h with ⟨k, e9, h⟩ | h
    · exact hD.2 _ _ (hat k (q, e9) h)
    · exact Or.inr (Nat.le_trans hS.1 h)
  have hrun : va_Run p l e (rmC mi rc rs) s m args below meth c H locs nc ns mc ms (F0 m pc ls (As.reverse ++ .ref b :: rest)) rest (va_Qv Q2 (QB D [(b, e0)] H.size) (va_A [(b, e0)] H.size) (Value.ref b :: As).toArray) (va_A [(b, e0)] H.size) := by
    rcases hlink with hk | hk
    · exact va_runI (cc := mi.cc) (As := As) (rest := rest) (Ts := lw_w) (own := mi.y.cls) (index := index) (bytes := mi2.cc) (maxL := mi2.nL) (n := n) ⟨C.1, C.2.1, C.2.2.1, C.2.2.2.2.2.1, hts⟩ (hM H.size) (cwI n hts (good_ws hcode) (by unfold wsOf; rw [hr2]) rfl rfl (hts _ hini) (hts _ hk) (hts _ hinst) hmi hdd hR) ⟨CPc.blind, fun U hU hW => ⟨rfl, CPc.at C hPc hDc hS U hU hW⟩⟩ rfl hn hl.1 rfl (lv_room hw) d ⟨hcells, hslots⟩
    · have hN := C.2.2.2.2.2.2.2.2.2.2.1.2.2.2 _ hk
      exact va_runIN (cc := mi.cc) (As := As) (rest := rest) (Ts := lw_w) (own := mi.y.cls) (host := "BellTable") (index := index) (bytes := mi2.cc) (maxL := mi2.nL) (n := n) ⟨C.1, C.2.1, C.2.2.1, C.2.2.2.2.2.1, hts⟩ (hM H.size) ⟨va_cnB n hts (good_ws hcode) (by unfold wsOf; rw [hr2]) rfl rfl hN (hts _ hini) hdd hR, hmi, hts _ hinst⟩ ⟨CPc.blind, fun U hU hW => ⟨rfl, CPc.at C hPc hDc hS U hU hW⟩⟩ rfl hn hl.1 rfl (lv_room hw) d ⟨hcells, hslots⟩
  refine va_callv hrun hS (fun q _ h => hFc q h) hFc (fun w1 t H1 locs1 ht hvm hq hB hz hk hS1 => ?_)
  obtain ⟨hP1, hD1⟩ := hB
  rw [ht] at hP1
  have hold : ∀ (k : Nat) (q : Nat × va_E), wr[k]? = some q → H1[q.1]? = H[q.1]? ∧ ¬ va_A [(b, e0)] H.size q.1 ∧ (wr ++ [(b, e0)])[k]? = some q := by
    intro k q hq
    have hk' : k < wr.length := (List.getElem?_eq_some_iff.mp hq).1
    have h9 : (wr ++ [(b, e0)])[k]? = some q := by rw [List.getElem?_append_left hk']; exact hq
    have hlt : q.1 < H.size := (hP _ _ h9).lt
    have hna : ¬ va_A [(b, e0)] H.size q.1 := by
      rintro (⟨j, e9, h⟩ | h)
      · have := hD.1 k (wr.length + j) q (q.1, e9) h9 (hat j _ h) rfl
        omega
      · omega
    exact ⟨hk q.1 hlt hna, hna, h9⟩
  have hP2 : va_P D cls (wr ++ w1) H1 := (show va_P D cls wr H1 from fun k q hq => (hP _ _ (hold k q hq).2.2).kept (hold k q hq).1).app hP1
  have hD2 : va_D (va_A w0 s.heap.size) (wr ++ w1) := va_D.app ⟨fun i j p q hp hq hpq => hD.1 i j p q (hold i p hp).2.2 (hold j q hq).2.2 hpq, fun k q hq => hD.2 _ _ (hold k q hq).2.2⟩ (hD1.weaken (fun _ _ _ h => hFc _ h)) (fun i j p q hp hq hpq => (hold i p hp).2.1 (by rw [hpq]; exact hD1.2 j q hq))
  exact K w1 hq p e s m args below meth c C H1 locs1 ls hP2 hD2 hS1 hl
theorem g_ret (d : decode mi.cc pc = .ok (.return_, 1)) (hq : Qw ws) (hc : nc = rc) (hs : ns = rs) : Gw l D kA sz0 t0 mi rc rs w0 Qw pc lo [] ws nc ns := by
  intro p e s m args below meth c C H locs ls hP hD hS hl
  subst hc
  subst hs
  exact W.vret C.1 C.2.1 C.2.2.2.1 (fun t ht hW => ⟨⟨ws, rfl, hq, by rw [ht]; exact hP, hD⟩, hS.F ht⟩) hS.2.2 d C.2.2.2.2.1
end Grow
