/-! Rules in the form that the printed walks use -/
def imin (x y : Int32) : Int32 := if y < x then y else x
def imax (x y : Int32) : Int32 := if x < y then y else x
def iabs (x : Int32) : Int32 := if 0 ≤ x then x else 0 - x
def lushr (x : Int64) (y : Int32) : Int64 := (x.toUInt64 >>> (y.toInt64.toUInt64 &&& Int64.toUInt64 63)).toInt64
def lshl (x : Int64) (y : Int32) : Int64 := x <<< (y.toInt64 &&& 63)
def lshr (x : Int64) (y : Int32) : Int64 := x >>> (y.toInt64 &&& 63)
def LoS : List (Option Value) → List (Option Value) → Prop
  | [], _ => True
  | none :: a, b => LoS a b.tail
  | some v :: a, b => b.head? = some (some v) ∧ LoS a b.tail
theorem LoS.sub : ∀ {a b : List (Option Value)}, LoS a b → ∀ (i : Nat) (v : Value), a[i]? = some (some v) → b[i]? = some (some v)
  | [], _, _, i, v, h => by simp at h
  | none :: a, b, hL, i, v, h => by
    cases i with
    | zero => simp at h
    | succ i =>
      have h1 := LoS.sub (a := a) (b := b.tail) hL i v (by simpa using h)
      simpa using h1
  | some w :: a, b, hL, i, v, h => by
    cases i with
    | zero =>
      have h1 : w = v := by simpa using h
      subst h1
      have h2 := hL.1
      rw [List.head?_eq_getElem?] at h2
      exact h2
    | succ i =>
      have h1 := LoS.sub (a := a) (b := b.tail) hL.2 i v (by simpa using h)
      simpa using h1
def drL : Option Value → Option Value
  | some (.long _) => none
  | some (.double _) => none
  | q => q
def drAt : Nat → Option Value → Option Value
  | 0, q => drL q
  | _ + 1, q => q
/-- a store, by places -/
def lsF : List (Option Value) → Nat → Value → List (Option Value)
  | [], _, _ => []
  | _ :: t, 0, v => some v :: t
  | q :: t, n + 1, v => drAt n q :: lsF t n v
def lsF2 : List (Option Value) → Nat → Value → List (Option Value)
  | [], _, _ => []
  | _ :: t, 0, v => some v :: (match t with | [] => [] | _ :: t' => none :: t')
  | q :: t, n + 1, v => drAt n q :: lsF2 t n v
theorem drL_some {q : Option Value} {w : Value} (h : drL q = some w) : q = some w ∧ isLg q = false := by
  cases q with
  | none => cases h
  | some a => cases a <;> first | (cases h; exact ⟨rfl, rfl⟩) | cases h
theorem lsF_at : ∀ (lo : List (Option Value)) (i j : Nat) (v w : Value), (lsF lo i v)[j]? = some (some w) → (j = i ∧ w = v ∧ j < lo.length) ∨ (j ≠ i ∧ lo[j]? = some (some w) ∧ (j + 1 = i → isLg (some w) = false))
  | [], i, j, v, w, h => by simp [lsF] at h
  | q :: t, 0, 0, v, w, h => by simp [lsF] at h; exact Or.inl ⟨rfl, h.symm, Nat.succ_pos _⟩
  | q :: t, 0, j + 1, v, w, h => by
    simp only [lsF, List.getElem?_cons_succ] at h
    exact Or.inr ⟨by omega, by simpa using h, fun e => by omega⟩
  | q :: t, i + 1, 0, v, w, h => by
    simp only [lsF, List.getElem?_cons_zero, Option.some.injEq] at h
    refine Or.inr ⟨by omega, ?_, fun e => ?_⟩
    · cases i with
      | zero => rw [List.getElem?_cons_zero, (drL_some h).1]
      | succ i => rw [List.getElem?_cons_zero]; exact congrArg some h
    · have : i = 0 := by omega
      subst this
      have := drL_some h
      rw [← this.1]; exact this.2
  | q :: t, i + 1, j + 1, v, w, h => by
    simp only [lsF, List.getElem?_cons_succ] at h
    rcases lsF_at t i j v w h with ⟨h1, h2, h3⟩ | ⟨h1, h2, h3⟩
    · exact Or.inl ⟨by omega, h2, by simp; omega⟩
    · exact Or.inr ⟨by omega, by simpa using h2, fun e => h3 (by omega)⟩
theorem lsF2_at : ∀ (lo : List (Option Value)) (i j : Nat) (v w : Value), (lsF2 lo i v)[j]? = some (some w) → (j = i ∧ w = v ∧ j < lo.length) ∨ (j ≠ i ∧ j ≠ i + 1 ∧ lo[j]? = some (some w) ∧ (j + 1 = i → isLg (some w) = false))
  | [], i, j, v, w, h => by simp [lsF2] at h
  | q :: t, 0, 0, v, w, h => by simp [lsF2] at h; exact Or.inl ⟨rfl, h.symm, Nat.succ_pos _⟩
  | [q], 0, j + 1, v, w, h => by simp [lsF2] at h
  | q :: r :: t, 0, 1, v, w, h => by simp [lsF2] at h
  | q :: r :: t, 0, j + 2, v, w, h => by
    simp only [lsF2, List.getElem?_cons_succ] at h
    exact Or.inr ⟨by omega, by omega, by simpa using h, fun e => by omega⟩
  | q :: t, i + 1, 0, v, w, h => by
    simp only [lsF2, List.getElem?_cons_zero, Option.some.injEq] at h
    refine Or.inr ⟨by omega, by omega, ?_, fun e => ?_⟩
    · cases i with
      | zero => rw [List.getElem?_cons_zero, (drL_some h).1]
      | succ i => rw [List.getElem?_cons_zero]; exact congrArg some h
    · have : i = 0 := by omega
      subst this
      have := drL_some h
      rw [← this.1]; exact this.2
  | q :: t, i + 1, j + 1, v, w, h => by
    simp only [lsF2, List.getElem?_cons_succ] at h
    rcases lsF2_at t i j v w h with ⟨h1, h2, h3⟩ | ⟨h1, h1', h2, h3⟩
    · exact Or.inl ⟨by omega, h2, by simp; omega⟩
    · exact Or.inr ⟨by omega, by omega, by simpa using h2, fun e => h3 (by omega)⟩
theorem lsF_sub {lo : List (Option Value)} {i : Nat} {v : Value} (j : Nat) (w : Value) (h : (lsF lo i v)[j]? = some (some w)) : (lset lo i v)[j]? = some (some w) := by
  rcases lsF_at lo i j v w h with ⟨h1, h2, h3⟩ | ⟨h1, h2, h3⟩
  · subst h1; subst h2
    simp [lset, List.getElem?_mapIdx, List.getElem?_eq_getElem h3]
  · simp only [lset, List.getElem?_mapIdx, h2, Option.map_some, if_neg h1]
    by_cases e : j + 1 = i
    · rw [if_neg (fun q => by rw [h3 e] at q; exact absurd q.2 (by decide))]
    · rw [if_neg (fun q => e q.1)]
theorem lsF2_sub {lo : List (Option Value)} {i : Nat} {v : Value} (j : Nat) (w : Value) (h : (lsF2 lo i v)[j]? = some (some w)) : (lset2 lo i v)[j]? = some (some w) := by
  rcases lsF2_at lo i j v w h with ⟨h1, h2, h3⟩ | ⟨h1, h1', h2, h3⟩
  · subst h1; subst h2
    simp [lset2, List.getElem?_mapIdx, List.getElem?_eq_getElem h3]
  · simp only [lset2, List.getElem?_mapIdx, h2, Option.map_some, if_neg h1, if_neg h1']
    by_cases e : j + 1 = i
    · rw [if_neg (fun q => by rw [h3 e] at q; exact absurd q.2 (by decide))]
    · rw [if_neg (fun q => e q.1)]
theorem ite01 {c : Prop} [Decidable c] {a b : Int32} (ha : a = 0 ∨ a = 1) (hb : b = 0 ∨ b = 1) : (if c then a else b) = 0 ∨ (if c then a else b) = 1 := by
  split
  · exact ha
  · exact hb
theorem nar_zb {v : Int32} (h : v = 0 ∨ v = 1) : vp_nar .boolean v = v := by
  rcases h with rfl | rfl <;> decide
theorem sw_out {x : Int32} (n : Nat) (h : ∀ q, q < n → ¬ x = Int32.ofNat q) (hn : n < 2 ^ 31 := by decide) : x.toInt < 0 ∨ ((n : Int) - 1) < x.toInt := by
  by_cases h0 : x.toInt < 0
  · exact Or.inl h0
  · refine Or.inr ?_
    by_cases h1 : ((n : Int) - 1) < x.toInt
    · exact h1
    · exfalso
      refine h x.toInt.toNat (by omega) ?_
      have h2 : (Int32.ofNat x.toInt.toNat).toInt = x.toInt := by
        have h3 := nI_toInt (n := x.toInt.toNat) (by omega)
        unfold nI at h3
        rw [h3]; omega
      exact (Int32.toInt_inj.mp h2).symm
section QRules
variable {l : Launch} {D : va_G} {ad : Nat → Nat} {kA : Nat → ClassId} {mi mi2 : MI} {pc : Nat} {lo lo' : List (Option Value)} {rest : List Value} {M : Mem} {Q : Outcome → Mem → Prop}
theorem q_istore_n {k : Fin 4} {x : Int32} (d : decode mi.cc pc = .ok (.istore_n k, 1)) (hn : k.val < mi.nL) (he : lsF lo k.val (.int x) = lo') (K : Fw l D ad kA mi (pc + 1) lo' rest M Q) : Fw l D ad kA mi pc lo (.int x :: rest) M Q := by subst he; exact r_istore_n d hn (r_weak lsF_sub K)
theorem q_istore {i : Nat} {x : Int32} (d : decode mi.cc pc = .ok (.istore i, 2)) (hn : i < mi.nL) (he : lsF lo i (.int x) = lo') (K : Fw l D ad kA mi (pc + 2) lo' rest M Q) : Fw l D ad kA mi pc lo (.int x :: rest) M Q := by subst he; exact r_istore d hn (r_weak lsF_sub K)
theorem q_astore_n {k : Fin 4} {x : Nat} (d : decode mi.cc pc = .ok (.astore_n k, 1)) (hn : k.val < mi.nL) (he : lsF lo k.val (.ref x) = lo') (K : Fw l D ad kA mi (pc + 1) lo' rest M Q) : Fw l D ad kA mi pc lo (.ref x :: rest) M Q := by subst he; exact r_astore_n d hn (r_weak lsF_sub K)
theorem q_lstore_n {k : Fin 4} {x : Int64} (d : decode mi.cc pc = .ok (.lstore_n k, 1)) (hn : k.val + 1 < mi.nL) (he : lsF2 lo k.val (.long x) = lo') (K : Fw l D ad kA mi (pc + 1) lo' rest M Q) : Fw l D ad kA mi pc lo (.long x :: rest) M Q := by subst he; exact r_lstore_n d hn (r_weak lsF2_sub K)
theorem q_lstore {i : Nat} {x : Int64} (d : decode mi.cc pc = .ok (.lstore i, 2)) (hn : i + 1 < mi.nL) (he : lsF2 lo i (.long x) = lo') (K : Fw l D ad kA mi (pc + 2) lo' rest M Q) : Fw l D ad kA mi pc lo (.long x :: rest) M Q := by subst he; exact r_lstore d hn (r_weak lsF2_sub K)
theorem q_iinc {i : Nat} {n : Int} {x v : Int32} (d : decode mi.cc pc = .ok (.iinc i n, 3)) (h : lo[i]? = some (some (.int x))) (hv : x + Int32.ofInt n = v) (hn : i < mi.nL) (he : lsF lo i (.int v) = lo') (K : Fw l D ad kA mi (pc + 3) lo' rest M Q) : Fw l D ad kA mi pc lo rest M Q := by subst he; exact r_iinc d h hv hn (r_weak lsF_sub K)
theorem q_weak {st : List Value} (h : LoS lo' lo) (K : Fw l D ad kA mi pc lo' st M Q) : Fw l D ad kA mi pc lo st M Q := r_weak h.sub K
theorem q_lushr {x : Int64} {y : Int32} (d : decode mi.cc pc = .ok (.lushr, 1)) (K : Fw l D ad kA mi (pc + 1) lo (.long (lushr x y) :: rest) M Q) : Fw l D ad kA mi pc lo (.int y :: .long x :: rest) M Q := r_lushr d K
theorem q_lshl {x : Int64} {y : Int32} (d : decode mi.cc pc = .ok (.lshl, 1)) (K : Fw l D ad kA mi (pc + 1) lo (.long (lshl x y) :: rest) M Q) : Fw l D ad kA mi pc lo (.int y :: .long x :: rest) M Q := r_lshl d K
theorem q_lshr {x : Int64} {y : Int32} (d : decode mi.cc pc = .ok (.lshr, 1)) (K : Fw l D ad kA mi (pc + 1) lo (.long (lshr x y) :: rest) M Q) : Fw l D ad kA mi pc lo (.int y :: .long x :: rest) M Q := r_lshr d K
theorem q_mmin {x y : Int32} {index : Nat} (d : decode mi.cc pc = .ok (.invokestatic index, 3)) (hk : Cond.methodLink mi.y.cls index Lib.Math.min.name ∈ lw_w) (hf : 1 ≤ mi.fr) (hw : (rest.map fun v => v.category).sum + 13 ≤ mi.lw) (K : Fw l D ad kA mi (pc + 3) lo (.int (imin x y) :: rest) M Q) : Fw l D ad kA mi pc lo (.int y :: .int x :: rest) M Q := r_mmin d hk hf hw K
theorem q_mmax {x y : Int32} {index : Nat} (d : decode mi.cc pc = .ok (.invokestatic index, 3)) (hk : Cond.methodLink mi.y.cls index Lib.Math.max.name ∈ lw_w) (hf : 1 ≤ mi.fr) (hw : (rest.map fun v => v.category).sum + 13 ≤ mi.lw) (K : Fw l D ad kA mi (pc + 3) lo (.int (imax x y) :: rest) M Q) : Fw l D ad kA mi pc lo (.int y :: .int x :: rest) M Q := r_mmax d hk hf hw K
theorem q_mabs {x : Int32} {index : Nat} (d : decode mi.cc pc = .ok (.invokestatic index, 3)) (hk : Cond.methodLink mi.y.cls index Lib.Math.abs.name ∈ lw_w) (hf : 1 ≤ mi.fr) (hw : (rest.map fun v => v.category).sum + 13 ≤ mi.lw) (K : Fw l D ad kA mi (pc + 3) lo (.int (iabs x) :: rest) M Q) : Fw l D ad kA mi pc lo (.int x :: rest) M Q := r_mabs d hk hf hw K
theorem q_zast {c n : Nat} {i : Int32} {v : Int32} (d : decode mi.cc pc = .ok (.bastore, 1)) (hs : shL[c]? = some (.inl (2, n))) (hin : vp_in i n) (hv : v = 0 ∨ v = 1) (K : Fw l D ad kA mi (pc + 1) lo rest (sI M c i.toNatClampNeg v) Q) : Fw l D ad kA mi pc lo (.int v :: .int i :: .ref (ad c) :: rest) M Q := r_zast d hs hin (by rw [nar_zb hv]; exact K)
theorem q_getI {c index ci k r : Nat} {v : Int32} (d : decode mi.cc pc = .ok (.getfield index, 3)) (hf : fsh c k = some (ci, 0, r)) (hk : Fk mi.y.cls index ci k) (hv : gI M c k = v) (K : Fw l D ad kA mi (pc + 3) lo (.int v :: rest) M Q) : Fw l D ad kA mi pc lo (.ref (ad c) :: rest) M Q := by subst hv; exact r_getI d hf hk K
theorem q_getL {c index ci k r : Nat} {v : Int64} (d : decode mi.cc pc = .ok (.getfield index, 3)) (hf : fsh c k = some (ci, 2, r)) (hk : Fk mi.y.cls index ci k) (hv : gL M c k = v) (K : Fw l D ad kA mi (pc + 3) lo (.long v :: rest) M Q) : Fw l D ad kA mi pc lo (.ref (ad c) :: rest) M Q := by subst hv; exact r_getL d hf hk K
theorem q_iald {c n : Nat} {i v : Int32} (d : decode mi.cc pc = .ok (.iaload, 1)) (hs : shL[c]? = some (.inl (0, n))) (hin : vp_in i n) (hv : gI M c i.toNatClampNeg = v) (K : Fw l D ad kA mi (pc + 1) lo (.int v :: rest) M Q) : Fw l D ad kA mi pc lo (.int i :: .ref (ad c) :: rest) M Q := by subst hv; exact r_iald d hs hin K
theorem q_bald {c n : Nat} {i v : Int32} (d : decode mi.cc pc = .ok (.baload, 1)) (hs : shL[c]? = some (.inl (1, n))) (hin : vp_in i n) (hv : gI M c i.toNatClampNeg = v) (K : Fw l D ad kA mi (pc + 1) lo (.int v :: rest) M Q) : Fw l D ad kA mi pc lo (.int i :: .ref (ad c) :: rest) M Q := by subst hv; exact r_bald d hs hin K
theorem q_zald {c n : Nat} {i v : Int32} (d : decode mi.cc pc = .ok (.baload, 1)) (hs : shL[c]? = some (.inl (2, n))) (hin : vp_in i n) (hv : gI M c i.toNatClampNeg = v) (K : Fw l D ad kA mi (pc + 1) lo (.int v :: rest) M Q) : Fw l D ad kA mi pc lo (.int i :: .ref (ad c) :: rest) M Q := by subst hv; exact r_zald d hs hin K
theorem q_lald {c n : Nat} {i : Int32} {v : Int64} (d : decode mi.cc pc = .ok (.laload, 1)) (hs : shL[c]? = some (.inl (3, n))) (hin : vp_in i n) (hv : gL M c i.toNatClampNeg = v) (K : Fw l D ad kA mi (pc + 1) lo (.long v :: rest) M Q) : Fw l D ad kA mi pc lo (.int i :: .ref (ad c) :: rest) M Q := by subst hv; exact r_lald d hs hin K
theorem cal_i {av : List Value} (h : LoS lo' lo) (K : Cal l D ad kA mi2 av M (fun oc M2 => ∃ r : Int32, oc = .returned (some (.int r)) ∧ Fw l D ad kA mi pc lo' (.int r :: rest) M2 Q)) : Cal l D ad kA mi2 av M (fun oc M2 => ∃ v, oc = .returned v ∧ Fw l D ad kA mi pc lo (v.toList ++ rest) M2 Q) := K.imp (fun _ _ ⟨r, h1, h2⟩ => ⟨_, h1, q_weak h h2⟩)
theorem cal_l {av : List Value} (h : LoS lo' lo) (K : Cal l D ad kA mi2 av M (fun oc M2 => ∃ r : Int64, oc = .returned (some (.long r)) ∧ Fw l D ad kA mi pc lo' (.long r :: rest) M2 Q)) : Cal l D ad kA mi2 av M (fun oc M2 => ∃ v, oc = .returned v ∧ Fw l D ad kA mi pc lo (v.toList ++ rest) M2 Q) := K.imp (fun _ _ ⟨r, h1, h2⟩ => ⟨_, h1, q_weak h h2⟩)
theorem cal_v {av : List Value} (h : LoS lo' lo) (K : Cal l D ad kA mi2 av M (fun oc M2 => oc = .returned none ∧ Fw l D ad kA mi pc lo' rest M2 Q)) : Cal l D ad kA mi2 av M (fun oc M2 => ∃ v, oc = .returned v ∧ Fw l D ad kA mi pc lo (v.toList ++ rest) M2 Q) := K.imp (fun _ _ ⟨h1, h2⟩ => ⟨_, h1, q_weak h h2⟩)
theorem ldcwS {p : Program} {e : Env} {R : Room} {s : State} {m : MethodId} {args : Array Value} {below : List Frame} {meth : Method} {c : Code} {T : State} {locs : List Loc} {cells slots : Nat}
    (X : Stand p l e R s m args below meth c T locs cells slots) (hexec : p.tables.exec = Jvm.exec) {own text : String} {index : Nat} {a : Addr} (hown : s.vm.findClass own = some m.cls)
    (hZ : vk_R own index text a s) {g : JFrame} (hg : g.method = m) (hdg : decode c.code g.pc = .ok (.ldc_w index, 3)) :
    ∀ target, Steps p.tables e below (T.setTop { g with pc := g.pc + 3, stack := .ref a :: g.stack }) target → Steps p.tables e below (T.setTop g) target := by
  obtain ⟨k, cf, i, a', hk, hcf, hcp, -, hr, hev'⟩ := Cond.stringRef_spec hown hZ.1
  cases hZ.2.symm.trans hev'
  obtain ⟨k', hk', he⟩ := X.warmed.alike.2.2 _ _ hk
  have hr' : k'.resolved[index]? = some (some (.string a)) := by
    rcases X.warmed.entry hk hk' index with h | ⟨h, -⟩
    · rw [h]; exact hr
    · rw [hr] at h; cases h
  intro target hrest
  subst hg
  jvm_step X.here [hexec, hdg, ldc_w.wp_string (e := e) (s := T) (f := g) X.here.top hk' (by rw [he]; exact hcf) hcp hr']
  exact hrest
theorem r_ldcwS {i : Nat} (d : decode mi.cc pc = .ok (.ldc_w (scR.getD i ("", 0, "")).2.1, 3)) (hi : i < 15) (ho : (scR.getD i ("", 0, "")).1 = mi.y.cls) (K : Fw l D ad kA mi (pc + 3) lo (.ref (ad (210 + i)) :: rest) M Q) : Fw l D ad kA mi pc lo rest M Q := by
  intro p e s m args below meth c C H locs ls hP hS hl
  have hZ := (C.2.2.2.2.2.2.2.2.2.1.2.2.1 i hi).1
  rw [ho] at hZ
  intro T hT X
  obtain ⟨t, a1, b1⟩ := K p e s m args below meth c C H locs ls hP hS hl T hT X
  exact ⟨t, ldcwS X C.1 C.2.2.2.2.2.1 hZ (g := F0 m pc ls rest) rfl (by rw [C.2.1]; exact d) t a1, b1⟩
end QRules
