/-! THE LAW: its frame, over the world behind the constructors -/
def R_law : String := "BellTableLaw"
def lw_P (b : Addr) (xs : List Int32) (args : Array Value) (s : State) : Prop := args = #[.ref b] ∧ s.IntsAt b xs ∧ xs.length ≤ 3072 ∧ (Jvm.Cond.and given_1 narrow_1).before args s = true
def lw_Q (_ : Array Value) (s : State) (o : Outcome) (t : State) : Prop := o = .returned (some (.int 1)) ∧ Framed s o t [] 601024 7293033
def lw_Z (below : List Frame) (a : Array Value) (s : State) : State → Prop := fun t => ∃ o, t.status = .running ∧ Ended t below o ∧ lw_Q a s o t
/-- the law's own end, with 1 on the stack, nothing written that was there before, its room as the claim has it -/
theorem lw_ret {p : Program} {l : Launch} {e : Env} {s : State} {m : MethodId} {below : List Frame} {meth : Method} {c : Code} {b : Nat} (hx : p.tables.exec = Jvm.exec) (hb : c.code = code) (hr : meth.sig.returnType = ret) (hlocks : meth.locks = false) {pc : Nat} {H : Heap} {ls : Array Slot} (hdg : decode code pc = .ok (.ireturn, 1)) : W p l e room_1 s m #[Value.ref b] below meth c H [] 601024 7293033 (lw_Z below #[Value.ref b] s) (F0 m pc ls [.int 1]) := by
  intro T hT X
  obtain ⟨fs, hret, hrun, hended, hW, hframe⟩ := X.leave (v := some (.int 1)) (hlocks := hlocks) (fun h => by rw [hr] at h; cases h)
  have hmeth' : T.vm.method? m = some meth := X.method'
  refine ⟨T.setFrames fs, ?_, .returned (some (.int 1)), hrun, hended, rfl, ⟨_, rfl⟩, hW, hframe⟩
  jvm_step X.here [X.here.top, hx, hb, hdg, hmeth', hr, ret, narrow_b1]
  (try refine ⟨rfl, ?_⟩); (try refine ⟨rfl, ?_⟩)
  first | (intro acts; rw [hret _ acts rfl rfl rfl]) | rw [hret _ _ rfl rfl rfl]
  exact Steps.refl _
/-- what holds at the law's entry: the machine, the code, the tables' words (any of lw_tbl by 'hts w (by decide +kernel)'), the script of L ints xs at the cell b, what the Statement gives of the start (any of its parts by flat_of_before) -/
def lw_At (p : Program) (s : State) (m : MethodId) (meth : Method) (c : Code) (b L : Nat) (xs : Nat → Int32) : Prop :=
  p.tables.exec = Jvm.exec ∧ c.code = code ∧ meth.sig.returnType = ret ∧ c.maxLocals = 4 ∧ s.vm.findClass R_law = some m.cls ∧ (∀ w ∈ lw_tbl, w.before #[Value.ref b] s = true) ∧ va_X b L xs s s.heap ∧ b < s.heap.size ∧ meth.locks = false ∧ (Jvm.Cond.and given_1 narrow_1).before #[Value.ref b] s = true
/-- what stands fast in the law's loop -/
def LC (D : va_G) (ad : Nat → Nat) (kA : Nat → ClassId) (b L : Nat) (xs : Nat → Int32) (p : Program) (s : State) (m : MethodId) (meth : Method) (c : Code) : Prop := lw_At p s m meth c b L xs ∧ va_K D cls (tyK kA) s ∧ apart ad ∧ Out ad s s.heap ∧ (∀ q, AW ad q → GA s.heap.size q)
def Lw (l : Launch) (D : va_G) (ad : Nat → Nat) (kA : Nat → ClassId) (b L : Nat) (xs : Nat → Int32) (pc : Nat) (lo : List (Option Value)) (st : List Value) (M : Mem) : Prop :=
  ∀ (p : Program) (e : Env) (s : State) (m : MethodId) (below : List Frame) (meth : Method) (c : Code), LC D ad kA b L xs p s m meth c → ∀ (H : Heap) (locs : List Loc) (ls : Array Slot), va_P D cls (wl ad kA M) H → va_S (GA s.heap.size) s.heap H locs → lv_has ls 4 (lp lo) →
    W p l e room_1 s m #[Value.ref b] below meth c H locs 601024 7293033 (lw_Z below #[Value.ref b] s) (F0 m pc ls st)
section Law1
variable {l : Launch} {D : va_G} {ad : Nat → Nat} {kA : Nat → ClassId} {b L : Nat} {xs : Nat → Int32} {pc : Nat} {lo : List (Option Value)} {rest : List Value} {M : Mem}
theorem k_iload {k : Fin 4} {x : Int32} (d : decode code pc = .ok (.iload_n k, 1)) (h : lo[k.val]? = some (some (.int x))) (K : Lw l D ad kA b L xs (pc + 1) lo (.int x :: rest) M) : Lw l D ad kA b L xs pc lo (rest) M := by
  intro p e s m below meth c C H locs ls hP hS hl
  exact lv_iload_n C.1.1 C.1.2.1 d rfl (lp_at hl h) (K p e s m below meth c C H locs ls hP hS hl)
theorem k_aload {k : Fin 4} {x : Nat} (d : decode code pc = .ok (.aload_n k, 1)) (h : lo[k.val]? = some (some (.ref x))) (K : Lw l D ad kA b L xs (pc + 1) lo (.ref x :: rest) M) : Lw l D ad kA b L xs pc lo (rest) M := by
  intro p e s m below meth c C H locs ls hP hS hl
  exact lv_aload_n C.1.1 C.1.2.1 d rfl (lp_at hl h) (K p e s m below meth c C H locs ls hP hS hl)
theorem k_iconst {n : Int} {v : Int32} (d : decode code pc = .ok (.iconst n, 1)) (hv : Int32.ofInt n = v) (K : Lw l D ad kA b L xs (pc + 1) lo (.int v :: rest) M) : Lw l D ad kA b L xs pc lo (rest) M := by
  intro p e s m below meth c C H locs ls hP hS hl
  exact lv_iconst C.1.1 C.1.2.1 d hv (K p e s m below meth c C H locs ls hP hS hl)
theorem k_bipush {n : Int} {v : Int32} (d : decode code pc = .ok (.bipush n, 2)) (hv : (Int8.ofInt n).toInt32 = v) (K : Lw l D ad kA b L xs (pc + 2) lo (.int v :: rest) M) : Lw l D ad kA b L xs pc lo (rest) M := by
  intro p e s m below meth c C H locs ls hP hS hl
  exact lv_bipush C.1.1 C.1.2.1 d hv (K p e s m below meth c C H locs ls hP hS hl)
theorem k_iadd {x y : Int32} (d : decode code pc = .ok (.iadd, 1)) (K : Lw l D ad kA b L xs (pc + 1) lo (.int (x + y) :: rest) M) : Lw l D ad kA b L xs pc lo (.int y :: .int x :: rest) M := by
  intro p e s m below meth c C H locs ls hP hS hl
  exact lv_iadd C.1.1 C.1.2.1 d (K p e s m below meth c C H locs ls hP hS hl)
theorem k_isub {x y : Int32} (d : decode code pc = .ok (.isub, 1)) (K : Lw l D ad kA b L xs (pc + 1) lo (.int (x - y) :: rest) M) : Lw l D ad kA b L xs pc lo (.int y :: .int x :: rest) M := by
  intro p e s m below meth c C H locs ls hP hS hl
  exact lv_isub C.1.1 C.1.2.1 d (K p e s m below meth c C H locs ls hP hS hl)
theorem k_iand {x y : Int32} (d : decode code pc = .ok (.iand, 1)) (K : Lw l D ad kA b L xs (pc + 1) lo (.int (x &&& y) :: rest) M) : Lw l D ad kA b L xs pc lo (.int y :: .int x :: rest) M := by
  intro p e s m below meth c C H locs ls hP hS hl
  exact lv_iand C.1.1 C.1.2.1 d (K p e s m below meth c C H locs ls hP hS hl)
theorem k_i2l {x : Int32} (d : decode code pc = .ok (.i2l, 1)) (K : Lw l D ad kA b L xs (pc + 1) lo (.long x.toInt64 :: rest) M) : Lw l D ad kA b L xs pc lo (.int x :: rest) M := by
  intro p e s m below meth c C H locs ls hP hS hl
  exact lv_i2l C.1.1 C.1.2.1 d rfl (K p e s m below meth c C H locs ls hP hS hl)
theorem k_land {x y : Int64} (d : decode code pc = .ok (.land, 1)) (K : Lw l D ad kA b L xs (pc + 1) lo (.long (x &&& y) :: rest) M) : Lw l D ad kA b L xs pc lo (.long y :: .long x :: rest) M := by
  intro p e s m below meth c C H locs ls hP hS hl
  exact lv_land C.1.1 C.1.2.1 d (K p e s m below meth c C H locs ls hP hS hl)
theorem k_lor {x y : Int64} (d : decode code pc = .ok (.lor, 1)) (K : Lw l D ad kA b L xs (pc + 1) lo (.long (x ||| y) :: rest) M) : Lw l D ad kA b L xs pc lo (.long y :: .long x :: rest) M := by
  intro p e s m below meth c C H locs ls hP hS hl
  exact lv_lor C.1.1 C.1.2.1 d (K p e s m below meth c C H locs ls hP hS hl)
theorem k_lshl {y : Int32} {x : Int64} (d : decode code pc = .ok (.lshl, 1)) (K : Lw l D ad kA b L xs (pc + 1) lo (.long (lshl x y) :: rest) M) : Lw l D ad kA b L xs pc lo (.int y :: .long x :: rest) M := by
  intro p e s m below meth c C H locs ls hP hS hl
  exact lv_lshl C.1.1 C.1.2.1 d rfl (K p e s m below meth c C H locs ls hP hS hl)
theorem k_ldc2 {index : Nat} {v : Int64} (d : decode code pc = .ok (.ldc2_w index, 3)) (hc : Cond.constantLong R_law index v ∈ lw_tbl) (K : Lw l D ad kA b L xs (pc + 3) lo (.long v :: rest) M) : Lw l D ad kA b L xs pc lo (rest) M := by
  intro p e s m below meth c C H locs ls hP hS hl
  exact lv_ldc2 C.1.1 C.1.2.1 C.1.2.2.2.2.1 (C.1.2.2.2.2.2.1 _ hc) d (K p e s m below meth c C H locs ls hP hS hl)
theorem k_sld {i : Int32} (hin : vp_in i L) (d : decode code pc = .ok (.iaload, 1)) (K : Lw l D ad kA b L xs (pc + 1) lo (.int (xs i.toNatClampNeg) :: rest) M) : Lw l D ad kA b L xs pc lo (.int i :: .ref b :: rest) M := by
  intro p e s m below meth c C H locs ls hP hS hl
  exact va_sld C.1.1 C.1.2.1 C.1.2.2.2.2.2.2.1 C.1.2.2.2.2.2.2.2.1 (Nat.not_le.mpr C.1.2.2.2.2.2.2.2.1) hS hin d (K p e s m below meth c C H locs ls hP hS hl)
theorem k_slen (d : decode code pc = .ok (.arraylength, 1)) (K : Lw l D ad kA b L xs (pc + 1) lo (.int (Int32.ofNat L) :: rest) M) : Lw l D ad kA b L xs pc lo (.ref b :: rest) M := by
  intro p e s m below meth c C H locs ls hP hS hl
  exact va_slen C.1.1 C.1.2.1 C.1.2.2.2.2.2.2.1 C.1.2.2.2.2.2.2.2.1 (Nat.not_le.mpr C.1.2.2.2.2.2.2.2.1) hS d (K p e s m below meth c C H locs ls hP hS hl)
theorem k_goto {off : Int} {tgt : Nat} (d : decode code pc = .ok (.goto off, 3)) (ht : (pc : Int) + off = (tgt : Int)) (K : Lw l D ad kA b L xs tgt lo rest M) : Lw l D ad kA b L xs pc lo rest M := by
  intro p e s m below meth c C H locs ls hP hS hl
  exact lv_goto C.1.1 C.1.2.1 d ht (K p e s m below meth c C H locs ls hP hS hl)
theorem k_ifeq {off : Int} {tgt : Nat} {x : Int32} (d : decode code pc = .ok (.ifCond .eq off, 3)) (ht : (pc : Int) + off = (tgt : Int)) (K1 : x = 0 → Lw l D ad kA b L xs tgt lo rest M) (K2 : ¬ x = 0 → Lw l D ad kA b L xs (pc + 3) lo rest M) : Lw l D ad kA b L xs pc lo (.int x :: rest) M := by
  intro p e s m below meth c C H locs ls hP hS hl
  exact lv_if_eq C.1.1 C.1.2.1 d ht (fun q => K1 q p e s m below meth c C H locs ls hP hS hl) (fun q => K2 q p e s m below meth c C H locs ls hP hS hl)
theorem k_same {off : Int} {tgt : Nat} {x : Int32} (d : decode code pc = .ok (.if_icmp .eq off, 3)) (ht : (pc : Int) + off = (tgt : Int)) (K : Lw l D ad kA b L xs tgt lo rest M) : Lw l D ad kA b L xs pc lo (.int x :: .int x :: rest) M := by
  intro p e s m below meth c C H locs ls hP hS hl
  exact lv_icmp_eq C.1.1 C.1.2.1 d ht (fun _ => K p e s m below meth c C H locs ls hP hS hl) (fun q => absurd rfl q)
theorem k_gt {off : Int} {tgt : Nat} {x y : Int32} (d : decode code pc = .ok (.if_icmp .gt off, 3)) (ht : (pc : Int) + off = (tgt : Int)) (K1 : y < x → Lw l D ad kA b L xs tgt lo rest M) (K2 : ¬ y < x → Lw l D ad kA b L xs (pc + 3) lo rest M) : Lw l D ad kA b L xs pc lo (.int y :: .int x :: rest) M := by
  intro p e s m below meth c C H locs ls hP hS hl
  exact lv_icmp_gt C.1.1 C.1.2.1 d ht (fun q => K1 q p e s m below meth c C H locs ls hP hS hl) (fun q => K2 q p e s m below meth c C H locs ls hP hS hl)
theorem k_table {dflt low high : Int} {offs : Array Int} {len : Nat} {x : Int32} {off : Int} {tgt : Nat} (d : decode code pc = .ok (.tableswitch dflt low high offs, len)) (h1 : ¬ x.toInt < low) (h2 : ¬ high < x.toInt) (ho : offs[(x.toInt - low).toNat]? = some off) (ht : (pc : Int) + off = (tgt : Int)) (K : Lw l D ad kA b L xs tgt lo rest M) : Lw l D ad kA b L xs pc lo (.int x :: rest) M := by
  intro p e s m below meth c C H locs ls hP hS hl
  exact lv_tableIn C.1.1 C.1.2.1 d h1 h2 ho ht (K p e s m below meth c C H locs ls hP hS hl)
theorem k_iinc {i : Nat} {n : Int} {x v : Int32} (d : decode code pc = .ok (.iinc i n, 3)) (h : lo[i]? = some (some (.int x))) (hv : x + Int32.ofInt n = v) (hn : i < 4) (K : Lw l D ad kA b L xs (pc + 3) (lset lo i (.int v)) rest M) : Lw l D ad kA b L xs pc lo rest M := by
  intro p e s m below meth c C H locs ls hP hS hl
  obtain ⟨k, hk⟩ := List.mem_iff_getElem?.mp (lp_mem.mpr h)
  exact lv_iinc (k := k) C.1.1 C.1.2.1 d hl hk hv hn rfl (fun ls hl => K p e s m below meth c C H locs ls hP hS (lset_has hl))
theorem k_ret (d : decode code pc = .ok (.ireturn, 1)) : Lw l D ad kA b L xs pc lo [.int 1] M := by
  intro p e s m below meth c C H locs ls hP hS hl
  exact va_forget hS.2.2 (lw_ret C.1.1 C.1.2.1 C.1.2.2.1 C.1.2.2.2.2.2.2.2.2.1 d)
theorem k_weak {lo' : List (Option Value)} {st : List Value} (h : ∀ (i : Nat) (v : Value), lo'[i]? = some (some v) → lo[i]? = some (some v)) (K : Lw l D ad kA b L xs pc lo' st M) : Lw l D ad kA b L xs pc lo st M := by
  intro p e s m below meth c C H locs ls hP hS hl
  exact K p e s m below meth c C H locs ls hP hS (lp_sub hl h)
end Law1
/-! CALLS of the law -/
section Law2
variable {l : Launch} {D : va_G} {ad : Nat → Nat} {kA : Nat → ClassId} {b L : Nat} {xs : Nat → Int32} {pc : Nat} {lo : List (Option Value)} {rest : List Value} {M : Mem} {mi2 : MI}
theorem call_goL {p : Program} {e : Env} {R : Room} {s : State} {m : MethodId} {args : Array Value} {below : List Frame} {meth : Method} {c : Code} {H H0 : Heap} {locs : List Loc} {cells slots : Nat} {a : Array Value} {ls : Array Slot} {st0 : List Value} {Q1 : State → Prop} {Q' : Outcome → Mem → Prop} {G : Nat → Prop} (hG : ∀ q, AW ad q → G q)
    (hr : va_Run p l e R s m args below meth c H locs cells slots 0 0 (F0 m pc ls st0) rest (Po D ad kA Q' a) (AW ad)) (hS : va_S G H0 H locs)
    (kk : ∀ (v : Option Value) (M' : Mem) (H1 : Heap) (locs1 : List Loc), Q' (.returned v) M' → va_P D cls (wl ad kA M') H1 → va_S G H0 H1 locs1 → W p l e R s m args below meth c H1 locs1 cells slots Q1 (F0 m (pc + 3) ls (v.toList ++ rest))) : W p l e R s m args below meth c H locs cells slots Q1 (F0 m pc ls st0) := by
  intro T hT X
  obtain ⟨v, st₀, t, T', L, h0, X', hL, e1, e2, ⟨⟨M', hq, hP1⟩, hz, hk⟩, st⟩ := hr T hT X
  rw [h0] at hz hk
  obtain ⟨t2, a1, b1⟩ := kk v M' T'.heap (locs ++ L) hq (by rw [e1]; exact hP1)
    ⟨Nat.le_trans hS.1 (by rw [e1]; exact hz), fun q h1 h2 => by rw [e1, hk q (Nat.lt_of_lt_of_le h1 hS.1) (fun h => h2 (hG q h))]; exact hS.2.1 q h1 h2, fun q hq => by
      rcases List.mem_append.mp hq with h | h
      · exact hS.2.2 q h
      · exact hG _ (hL q h)⟩ T' rfl X'
  exact ⟨t2, st t2 a1, b1⟩
theorem LC.ts {p : Program} {s : State} {m : MethodId} {meth : Method} {c : Code} (C : LC D ad kA b L xs p s m meth c) : ∀ w ∈ lw_w, w.before #[Value.ref b] s = true := fun w hw => C.1.2.2.2.2.2.1 w (List.mem_filter.mp hw).1
theorem LC.cp {p : Program} {s : State} {m : MethodId} {meth : Method} {c : Code} {H : Heap} {locs : List Loc} (C : LC D ad kA b L xs p s m meth c) (hP : va_P D cls (wl ad kA M) H) (hS : va_S (GA s.heap.size) s.heap H locs) : ∀ U : State, U.heap = H → s.WarmedH U.vm → CP D ad kA M U := fun U hU hW => ⟨by rw [hU]; exact hP, va_K.moved hW.alike C.2.1, C.2.2.1, by rw [hU]; exact Out.warm hW (fun a h1 _ => hS.2.1 a h1 (Nat.not_le.mpr h1)) C.2.2.2.1⟩
theorem LC.recv {p : Program} {s : State} {m : MethodId} {meth : Method} {c : Code} {H : Heap} {x : Nat} {nm : String} (C : LC D ad kA b L xs p s m meth c) (hP : va_P D cls (wl ad kA M) H) (hx : (do let sh ← shL[x]?; match sh with | .inr q => (cls[q.1]?).map (fun t => t.1) | .inl _ => none) = some nm) : ∃ cell : Cell, H[ad x]? = some cell ∧ cell.vm.isStatics = false ∧ s.vm.findClass nm = some cell.cls := by
  cases hsx : shL[x]? with
  | none => rw [hsx] at hx; cases hx
  | some sh =>
    rw [hsx] at hx
    cases sh with
    | inl q => cases hx
    | inr q =>
      cases hcq : cls[q.1]? with
      | none => simp only [Option.bind_eq_bind, Option.bind_some, hcq] at hx; cases hx
      | some t =>
        simp only [Option.bind_eq_bind, Option.bind_some, hcq, Option.map_some, Option.some.injEq] at hx
        have hrec := va_recv (ci := q.1) (fs := q.2.mapIdx (fv ad M x)) C.2.1 hP hcq (wl_at (ad := ad) (kA := kA) (M := M) (sh := .inr q) hsx)
        rw [hx] at hrec
        exact hrec
/-- room in the law -/
def RmL (mi2 : MI) : Prop := mi2.fr + 1 ≤ 13 ∧ 8 + (mi2.nL + 11) + mi2.lw ≤ 472
theorem k_callV {x index n : Nat} {As st : List Value} (d : decode code pc = .ok (.invokevirtual index, 3)) (hk : Mk R_law index mi2 n) (hv : MkV mi2) (hR : RmL mi2) (hst : st = As.reverse ++ .ref (ad x) :: rest) (hn : As.length = n) (hx : (do let sh ← shL[x]?; match sh with | .inr q => (cls[q.1]?).map (fun t => t.1) | .inl _ => none) = some mi2.y.cls) (hw : (rest.map fun v => v.category).sum ≤ 8)
    (K : Cal l D ad kA mi2 (.ref (ad x) :: As) M (fun oc M' => ∃ v, oc = .returned v ∧ Lw l D ad kA b L xs (pc + 3) lo (v.toList ++ rest) M')) : Lw l D ad kA b L xs pc lo st M := by
  intro p e s m below meth c C H locs ls hP hS hl
  subst hst
  have hts := C.ts
  have hrec := C.recv hP hx
  refine call_goL C.2.2.2.2 (Q' := fun oc M' => ∃ v, oc = .returned v ∧ Lw l D ad kA b L xs (pc + 3) lo (v.toList ++ rest) M') (va_runV (cc := code) (As := As) (rest := rest) (Ts := lw_w) (own := R_law) (C := mi2.y.cls) (index := index) (bytes := mi2.cc) (maxL := mi2.nL) (ret := mi2.ret) (n := n) ⟨C.1.1, C.1.2.1, C.1.2.2.2.1, C.1.2.2.2.2.1, hts⟩ (K.met ?_) ⟨callB_of n hts (good_ws hk.2.2.1) rfl rfl rfl (hts _ hk.2.1) (hts _ hk.1) hk.2.2.2 hR, hts _ hv.1, hts _ hv.2⟩ ⟨CP.blind, hrec, fun U hU hW => ⟨rfl, C.cp hP hS U hU hW⟩⟩ rfl hn hl.1 rfl (lv_room hw) d ⟨Nat.le_refl _, Nat.le_refl _⟩) hS ?_
  · rintro a st oc t ⟨⟨M', ⟨v, h, -⟩, -⟩, -⟩
    exact ⟨v, h⟩
  · rintro v M' H1 locs1 ⟨v', h1, h2⟩ hP1 hS1
    cases h1
    exact h2 p e s m below meth c C H1 locs1 ls hP1 hS1 hl
/-- a call's link, of a method with handlers -/
def MkH (own : String) (index : Nat) (mi2 : MI) (n : Nat) : Prop := Cond.methodLink own index mi2.y ∈ lw_w ∧ Cond.initialized mi2.y.cls ∈ lw_w ∧ Cond.codeWith mi2.y mi2.cc mi2.nL mi2.ret mi2.hh ∈ lw_w ∧ (mi2.y.cls ≠ "java/lang/invoke/MethodHandle" ∧ mi2.y.cls ≠ "java/lang/invoke/VarHandle" ∧ (parseMethodDescriptor mi2.y.desc).map (fun d => d.parameters.length) = some n)
theorem good_wsH (h : Cond.codeWith mi2.y mi2.cc mi2.nL mi2.ret mi2.hh ∈ lw_w) : GoodIn lw_w (wsH mi2) := by
  intro w hw
  have hm : w ∈ lw_w := by
    rcases List.mem_cons.mp hw with rfl | hw
    · exact h
    · exact hw
  exact ⟨hm, good_of_word (List.mem_filter.mp hm).2⟩
theorem k_callH {x index n : Nat} {As st : List Value} (d : decode code pc = .ok (.invokevirtual index, 3)) (hk : MkH R_law index mi2 n) (hv : MkV mi2) (hR : RmL mi2) (hst : st = As.reverse ++ .ref (ad x) :: rest) (hn : As.length = n) (hx : (do let sh ← shL[x]?; match sh with | .inr q => (cls[q.1]?).map (fun t => t.1) | .inl _ => none) = some mi2.y.cls) (hw : (rest.map fun v => v.category).sum ≤ 8)
    (K : CalH l D ad kA mi2 (.ref (ad x) :: As) M (fun oc M' => ∃ v, oc = .returned v ∧ Lw l D ad kA b L xs (pc + 3) lo (v.toList ++ rest) M')) : Lw l D ad kA b L xs pc lo st M := by
  intro p e s m below meth c C H locs ls hP hS hl
  subst hst
  refine call_goL (D := D) (kA := kA) C.2.2.2.2 (Q' := fun oc M' => ∃ v, oc = .returned v ∧ Lw l D ad kA b L xs (pc + 3) lo (v.toList ++ rest) M') (a := (Value.ref (ad x) :: As).toArray) (rest := rest) ?_ hS ?_
  · intro T hT X
    have hts := C.ts
    have hown := C.1.2.2.2.2.1
    obtain ⟨cellB, hcell, hobj, hcls⟩ := C.recv hP hx
    obtain ⟨mk, methM, hnamed, hmethM, hstM, habM⟩ := Cond.instanceMethod_spec (hts _ hv.1)
    obtain ⟨mk', methM', cM, hnamed', hmethM', hcM, -, hlM, -, -, -, hsigM⟩ := Cond.codeWith_spec (hts _ hk.2.2.1)
    cases hnamed.symm.trans hnamed'
    cases hmethM.symm.trans hmethM'
    have hy : mi2.y.cls ≠ "java/lang/invoke/MethodHandle" ∧ mi2.y.cls ≠ "java/lang/invoke/VarHandle" := ⟨hk.2.2.2.1, hk.2.2.2.2.1⟩
    obtain ⟨c2, r2, m2, q1, q2, q3, q4, kP, hkP, hkPi⟩ := Cond.selects_spec (hts _ hv.2)
    cases hcls.symm.trans q1
    cases (State.methodFound?_of_named hnamed hy).symm.trans q2
    cases hnamed.symm.trans q3
    have hselP : selectMethod e.platform s.vm cellB.cls mk = .method mk := by rw [Launch.admits_selectMethod X.admits]; exact q4
    have hlen : As.length = methM.sig.parameters.length := by
      have h2 := hk.2.2.2.2.2
      rw [hsigM] at h2
      rw [hn]
      exact (Option.some.inj h2).symm
    have hdg : decode c.code (F0 m pc ls (As.reverse ++ .ref (ad x) :: rest)).pc = .ok (.invokevirtual index, 3) := by rw [C.1.2.1]; exact d
    obtain ⟨vm₁, X₁, hstep₁⟩ := X.invokevirtual C.1.1 hown (hts _ hk.1) hnamed hmethM hstM hkP hkPi hy (a := ad x) (cell := cellB) (by rw [hT]; exact hcell)
      (fun z h => by rw [h] at hobj; cases hobj) hselP hmethM habM hkP hkPi (g := F0 m pc ls (As.reverse ++ .ref (ad x) :: rest)) rfl (argsL := As) (rest := rest) hlen rfl hdg
    have hmono : 2 * (F0 m pc ls rest).monitorRoom + (rest.map fun v => v.category).sum ≤ 8 := lv_room hw
    have hpay : ∀ w ∈ wsH mi2, ∀ (a' : Array Value) (U : State), s.WarmedH U.vm → w.before a' U = true := pay_in hts (good_wsH hk.2.2.1)
    have hini : ∀ (a' : Array Value) (U : State), s.WarmedH U.vm → (Cond.initialized mi2.y.cls).before a' U = true := fun a' U hW => word_at hW (Or.inl (by first | rfl | simp [Cond.onTables, Cond.keeps, Cond.steady])) (hts _ hk.2.1)
    have hUT : (T.setVm vm₁).heap = H := hT
    generalize T.setVm vm₁ = U at X₁ hstep₁ hUT
    have hAt : At U (F0 m pc ls rest).method c below := X₁.here
    have hn' : U.methodNamed? mi2.y = some mk := X₁.named hnamed
    obtain ⟨mkY, methY, cY, hnY, hmY, hcY, -, hlY, -, -, -, -⟩ := Cond.codeWith_spec (hpay _ (by exact List.mem_cons_self) (Value.ref (ad x) :: As).toArray U X₁.warmed)
    cases hn'.symm.trans hnY
    obtain ⟨kY, hkY, -⟩ := className_of_methodNamed hn'
    have hinitY : kY.init = .initialized := Cond.initialized_spec (findClass_of_methodNamed hn') hkY (hini (Value.ref (ad x) :: As).toArray U X₁.warmed)
    have hdg2 : decode c.code (F0 m pc ls rest).pc = .ok (.invokevirtual index, 3) := by rw [C.1.2.1]; exact d
    have happ : (headSpec (wsH mi2) (rmOf mi2)).appliesLoose mi2.y e.platform (U.calling (F0 m pc ls rest) mk (Value.ref (ad x) :: As).toArray) = true :=
      Spec.appliesLoose_calling (g := F0 m pc ls rest) hAt hdg2 hn' hkY hinitY
        (X₁.room_calling (g := F0 m pc ls rest) (R' := rmOf mi2) (hl.1.trans C.1.2.2.2.1.symm) hmY hcY hR.1 (by
          have h2 := hR.2
          show _ ≤ 472
          rw [hlY]
          have h3 : (rmOf mi2).locals = mi2.lw := rfl
          have h4 : (F0 m pc ls rest).stack = rest := rfl
          rw [h4]
          omega) (Nat.le_refl _) (Nat.le_refl _)) (atoms_intro fun w hw => hpay w hw _ _ X₁.warmed)
    obtain ⟨mid, hmid⟩ := hAt.above
    have hfr : (U.setTop (F0 m pc ls rest)).frames = (.java (F0 m pc ls rest) :: mid) ++ below := by rw [State.frames_setTop' _ hAt.top, hmid]; rfl
    have hcp : va_Pc (Value.ref (ad x) :: As) (CP D ad kA M) (Value.ref (ad x) :: As).toArray (U.calling (F0 m pc ls rest) mk (Value.ref (ad x) :: As).toArray) := CP.blind _ _ _ _ ⟨rfl, C.cp hP hS U hUT X₁.warmed⟩
    unfold CalH MetX at K
    obtain ⟨oc, s₂, hsteps, -, hend, hq⟩ := Steps.callFree K p X₁.admits X₁.cas X₁.clock (acts := []) hfr happ hcp trivial
    rw [State.frames_setTop' _ hAt.top] at hend
    have hq' : Po D ad kA (fun oc M' => ∃ v, oc = .returned v ∧ Lw l D ad kA b L xs (pc + 3) lo (v.toList ++ rest) M') (Value.ref (ad x) :: As).toArray (U.calling (F0 m pc ls rest) mk (Value.ref (ad x) :: As).toArray) oc s₂ ∧ ∃ L, ((U.calling (F0 m pc ls rest) mk (Value.ref (ad x) :: As).toArray).WarmedH s₂.vm ∧ (U.calling (F0 m pc ls rest) mk (Value.ref (ad x) :: As).toArray).sameButNew ({ s₂ with vm := (U.calling (F0 m pc ls rest) mk (Value.ref (ad x) :: As).toArray).vm } : State) L 0 0) ∧ ∀ q ∈ L, AW ad q.base := hq
    obtain ⟨hPo, L0, ⟨hW₂, hsame⟩, hL⟩ := hq'
    obtain ⟨v, rfl⟩ : ∃ v, oc = .returned v := by
      obtain ⟨⟨M', ⟨v, h, -⟩, -⟩, -⟩ := hPo
      exact ⟨v, h⟩
    obtain ⟨e2, q2, q3, q4, q5, q6⟩ := hsame
    have e3 : s₂ = ({ (U.calling (F0 m pc ls rest) mk (Value.ref (ad x) :: As).toArray).setFrames s₂.frames with heap := s₂.heap, slotsUsed := s₂.slotsUsed } : State).setVm s₂.vm := by
      have : s₂ = ({ s₂ with vm := (U.calling (F0 m pc ls rest) mk (Value.ref (ad x) :: As).toArray).vm } : State).setVm s₂.vm := rfl
      rw [e2] at this
      exact this
    obtain ⟨c₂, i₂, len₂, hc₂, hd₂, hf₂⟩ := hend
    have hW' : U.WarmedH s₂.vm := hW₂
    have hcc : c₂ = c := by
      have h1 : s₂.code? (F0 m pc ls rest).method = U.code? (F0 m pc ls rest).method := by
        rw [State.code?_eq, State.code?_eq, hW'.alike.method?]
      exact Option.some.inj (hc₂.symm.trans (h1.trans hAt.code))
    subst hcc
    have hlen2 : len₂ = 3 := by rw [hdg2] at hd₂; cases hd₂; rfl
    subst hlen2
    obtain ⟨g₀, hg0⟩ := Option.isSome_iff_exists.mp hAt.top
    obtain ⟨r, hr⟩ := State.topJava?_eq_some.mp hg0
    have hs₂ : s₂ = (({ U with heap := s₂.heap, slotsUsed := s₂.slotsUsed } : State).setVm s₂.vm).setTop (F0 m (pc + 3) ls (v.toList ++ rest)) := by
      have hr' : (({ U with heap := s₂.heap, slotsUsed := s₂.slotsUsed } : State).setVm s₂.vm).frames = .java g₀ :: r := hr
      refine e3.trans ?_
      rw [hf₂, State.calling_eq hAt.top, State.setFrames_setFrames, State.setTop_of_frames _ hr', hr]
      rfl
    have hsame2 : U.sameButNew ({ U with heap := s₂.heap, slotsUsed := s₂.slotsUsed } : State) L0 0 0 := by
      refine ⟨?_, q2, q3, q4, q5, q6⟩
      obtain ⟨t, ht, -⟩ := State.frames_cons hr
      show ({ U with heap := s₂.heap, slotsUsed := s₂.slotsUsed } : State) = { U.setFrames U.frames with heap := s₂.heap, slotsUsed := s₂.slotsUsed }
      rw [State.setFrames_self ht]
    have X' : Stand p l e room_1 s m #[Value.ref b] below meth c₂ (({ U with heap := s₂.heap, slotsUsed := s₂.slotsUsed } : State).setVm s₂.vm) (locs ++ L0) (601024 + 0) (7293033 + 0) :=
      ⟨X₁.admits, X₁.cas, X₁.clock, X₁.frames, X₁.room, X₁.hears, X₁.method, X₁.code, (X₁.here.setHeapUsed s₂.heap s₂.slotsUsed).setVm hW'.alike, X₁.tail, State.WarmedH.trans X₁.warmed hW', X₁.limits, X₁.bytes, X₁.same.trans (hsame2.setVm s.vm)⟩
    refine ⟨v, U.calling (F0 m pc ls rest) mk (Value.ref (ad x) :: As).toArray, s₂, ({ U with heap := s₂.heap, slotsUsed := s₂.slotsUsed } : State).setVm s₂.vm, L0, hUT, X', hL, rfl, rfl, hPo, fun t h1 => ?_⟩
    have h1 : Steps p.tables e below ((({ U with heap := s₂.heap, slotsUsed := s₂.slotsUsed } : State).setVm s₂.vm).setTop (F0 m (pc + 3) ls (v.toList ++ rest))) t := h1
    rw [← hs₂] at h1
    exact hstep₁ _ fun acts => by rw [doInvoke_state]; exact hsteps.trans h1
  · rintro v M' H1 locs1 ⟨v', h1, h2⟩ hP1 hS1
    cases h1
    exact h2 p e s m below meth c C H1 locs1 ls hP1 hS1 hl
end Law2
