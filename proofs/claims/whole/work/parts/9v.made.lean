/-! CONSTRUCTORS (printed by wip/gen/genC.py) -/
abbrev zI (kA : Nat → ClassId) (n : Nat) : va_E := .inl (kA 0, n, .inl (fun _ => 0))
theorem w_aI : Cond.arrayClass (newarray.typeOf .int) ∈ lw_w := lw_in (i := 125) (by decide +kernel) (by decide +kernel)
abbrev zB (kA : Nat → ClassId) (n : Nat) : va_E := .inl (kA 1, n, .inl (fun _ => 0))
theorem w_aB : Cond.arrayClass (newarray.typeOf .byte) ∈ lw_w := lw_in (i := 71) (by decide +kernel) (by decide +kernel)
abbrev zZ (kA : Nat → ClassId) (n : Nat) : va_E := .inl (kA 2, n, .inl (fun _ => 0))
theorem w_aZ : Cond.arrayClass (newarray.typeOf .boolean) ∈ lw_w := lw_in (i := 426) (by decide +kernel) (by decide +kernel)
abbrev zJ (kA : Nat → ClassId) (n : Nat) : va_E := .inl (kA 3, n, .inr (.inl (fun _ => 0)))
theorem w_aJ : Cond.arrayClass (newarray.typeOf .long) ∈ lw_w := lw_in (i := 338) (by decide +kernel) (by decide +kernel)
theorem w_obj : Cond.instanceMethod objectInit ∈ lw_w ∧ Cond.code objectInit ⟨#[0xb1]⟩ 1 none ∈ lw_w := ⟨lw_in (i := 29) (by decide +kernel) (by decide +kernel), lw_in (i := 30) (by decide +kernel) (by decide +kernel)⟩
def rule0 : Nat → Int32 := va_cpy (fun i => (stV.getD 0 []).getD i 0) (fun _ => 0) 0 0 4
section GrowA
variable {l : Launch} {D : va_G} {kA : Nat → ClassId} {sz0 t0 : Nat} {mi mi2 : MI} {rc rs : Nat} {w0 : va_W} {Qw : va_W → Prop} {pc : Nat} {lo : List (Option Value)} {rest : List Value} {ws : va_W} {nc ns : Nat}
theorem g_newI {n : Int32} {N : Nat} (d : decode mi.cc pc = .ok (.newarray .int, 2)) (hn : ¬ n < 0) (hN : n.toNatClampNeg = N) (hb : N ≤ 60000) (hcells : nc + 1 ≤ rc) (hslots : ns + N ≤ rs) (K : ∀ q, Gw l D kA sz0 t0 mi rc rs w0 Qw (pc + 2) lo (.ref q :: rest) (ws ++ [(q, zI kA N)]) (nc + 1) (ns + N)) : Gw l D kA sz0 t0 mi rc rs w0 Qw pc lo (.int n :: rest) ws nc ns := g_newa (kk := 0) (a0 := (N, .inl (fun _ => 0))) d w_aI rfl rfl (fun C h => by cases h) (fun _ => rfl) hn hN (by show N * 4 ≤ _; omega) hcells hslots K
theorem g_newB {n : Int32} {N : Nat} (d : decode mi.cc pc = .ok (.newarray .byte, 2)) (hn : ¬ n < 0) (hN : n.toNatClampNeg = N) (hb : N ≤ 60000) (hcells : nc + 1 ≤ rc) (hslots : ns + N ≤ rs) (K : ∀ q, Gw l D kA sz0 t0 mi rc rs w0 Qw (pc + 2) lo (.ref q :: rest) (ws ++ [(q, zB kA N)]) (nc + 1) (ns + N)) : Gw l D kA sz0 t0 mi rc rs w0 Qw pc lo (.int n :: rest) ws nc ns := g_newa (kk := 1) (a0 := (N, .inl (fun _ => 0))) d w_aB rfl rfl (fun C h => by cases h) (fun _ => rfl) hn hN (by show N * 1 ≤ _; omega) hcells hslots K
theorem g_newZ {n : Int32} {N : Nat} (d : decode mi.cc pc = .ok (.newarray .boolean, 2)) (hn : ¬ n < 0) (hN : n.toNatClampNeg = N) (hb : N ≤ 60000) (hcells : nc + 1 ≤ rc) (hslots : ns + N ≤ rs) (K : ∀ q, Gw l D kA sz0 t0 mi rc rs w0 Qw (pc + 2) lo (.ref q :: rest) (ws ++ [(q, zZ kA N)]) (nc + 1) (ns + N)) : Gw l D kA sz0 t0 mi rc rs w0 Qw pc lo (.int n :: rest) ws nc ns := g_newa (kk := 2) (a0 := (N, .inl (fun _ => 0))) d w_aZ rfl rfl (fun C h => by cases h) (fun _ => rfl) hn hN (by show N * 1 ≤ _; omega) hcells hslots K
theorem g_newJ {n : Int32} {N : Nat} (d : decode mi.cc pc = .ok (.newarray .long, 2)) (hn : ¬ n < 0) (hN : n.toNatClampNeg = N) (hb : N ≤ 60000) (hcells : nc + 1 ≤ rc) (hslots : ns + N ≤ rs) (K : ∀ q, Gw l D kA sz0 t0 mi rc rs w0 Qw (pc + 2) lo (.ref q :: rest) (ws ++ [(q, zJ kA N)]) (nc + 1) (ns + N)) : Gw l D kA sz0 t0 mi rc rs w0 Qw pc lo (.int n :: rest) ws nc ns := g_newa (kk := 3) (a0 := (N, .inr (.inl (fun _ => 0)))) d w_aJ rfl rfl (fun C h => by cases h) (fun _ => rfl) hn hN (by show N * 8 ≤ _; omega) hcells hslots K
end GrowA
theorem dfX0 : ∀ j, j < 5 → defaultValue (tyX0 j) = vp_V [.null, .null, .int 0, .int 0, .int 0] j := by decide +kernel
theorem dfX1 : ∀ j, j < 1 → defaultValue (tyX1 j) = vp_V [.null] j := by decide +kernel
theorem dfX2 : ∀ j, j < 14 → defaultValue (tyX2 j) = vp_V [.null, .int 0, .int 0, .int 0, .int 0, .int 0, .int 0, .null, .null, .null, .null, .null, .null, .null] j := by decide +kernel
theorem dfX3 : ∀ j, j < 9 → defaultValue (tyX3 j) = vp_V [.null, .null, .null, .int 0, .null, .int 0, .null, .int 0, .null] j := by decide +kernel
theorem dfX4 : ∀ j, j < 9 → defaultValue (tyX4 j) = vp_V [.null, .null, .null, .int 0, .int 0, .null, .null, .null, .int 0] j := by decide +kernel
theorem dfX5 : ∀ j, j < 9 → defaultValue (tyX5 j) = vp_V [.null, .null, .null, .int 0, .int 0, .null, .null, .null, .null] j := by decide +kernel
theorem dfX6 : ∀ j, j < 5 → defaultValue (tyX6 j) = vp_V [.null, .null, .int 0, .int 0, .int 0] j := by decide +kernel
theorem dfX7 : ∀ j, j < 13 → defaultValue (tyX7 j) = vp_V [.null, .null, .null, .null, .int 0, .int 0, .int 0, .long 0, .null, .null, .null, .int 0, .null] j := by decide +kernel
theorem dfX8 : ∀ j, j < 5 → defaultValue (tyX8 j) = vp_V [.null, .null, .int 0, .int 0, .null] j := by decide +kernel
theorem dfX9 : ∀ j, j < 5 → defaultValue (tyX9 j) = vp_V [.null, .null, .null, .null, .int 0] j := by decide +kernel
theorem dfX10 : ∀ j, j < 8 → defaultValue (tyX10 j) = vp_V [.int 0, .int 0, .int 0, .int 0, .int 0, .null, .int 0, .int 0] j := by decide +kernel
theorem dfX11 : ∀ j, j < 12 → defaultValue (tyX11 j) = vp_V [.null, .null, .null, .null, .null, .null, .null, .null, .null, .null, .null, .int 0] j := by decide +kernel
theorem dfX12 : ∀ j, j < 6 → defaultValue (tyX12 j) = vp_V [.null, .null, .null, .null, .null, .int 0] j := by decide +kernel
theorem dfX13 : ∀ j, j < 66 → defaultValue (tyX13 j) = vp_V [.null, .null, .int 0, .int 0, .int 0, .int 0, .int 0, .int 0, .int 0, .int 0, .int 0, .int 0, .null, .null, .null, .null, .null, .null, .null, .null, .null, .null, .null, .int 0, .null, .null, .int 0, .null, .null, .null, .null, .int 0, .int 0, .null, .null, .null, .null, .null, .null, .null, .int 0, .int 0, .int 0, .int 0, .int 0, .int 0, .int 0, .null, .null, .null, .null, .null, .int 0, .int 0, .int 0, .int 0, .int 0, .int 0, .null, .null, .null, .null, .null, .null, .null, .int 0] j := by decide +kernel
abbrev cJE_init : ByteArray := prog_16_method_5_code
def yJE_init : MethodName := ⟨"java/lang/Exception", "<init>", "(Ljava/lang/String;Ljava/lang/Throwable;ZZ)V"⟩
abbrev cJT_init : ByteArray := prog_22_method_5_code
def yJT_init : MethodName := ⟨"java/lang/Throwable", "<init>", "(Ljava/lang/String;Ljava/lang/Throwable;ZZ)V"⟩
theorem dX10_init_0 : decode cX10_init 0 = .ok (.aload_n 0, 1) := by decide +kernel
theorem dX10_init_1 : decode cX10_init 1 = .ok (.invokespecial 3, 3) := by decide +kernel
theorem dX10_init_4 : decode cX10_init 4 = .ok (.aload_n 0, 1) := by decide +kernel
theorem dX10_init_5 : decode cX10_init 5 = .ok (.iconst (-1), 1) := by decide +kernel
theorem dX10_init_6 : decode cX10_init 6 = .ok (.putfield 9, 3) := by decide +kernel
theorem dX10_init_9 : decode cX10_init 9 = .ok (.aload_n 0, 1) := by decide +kernel
theorem dX10_init_10 : decode cX10_init 10 = .ok (.sipush 1200, 3) := by decide +kernel
theorem dX10_init_13 : decode cX10_init 13 = .ok (.newarray .byte, 2) := by decide +kernel
theorem dX10_init_15 : decode cX10_init 15 = .ok (.putfield 15, 3) := by decide +kernel
theorem dX10_init_18 : decode cX10_init 18 = .ok (.return_, 1) := by decide +kernel
abbrev mX10_init : MI := (yX10_init, cX10_init, 1, none, 1, 40, [])
def pX10_init (kA : Nat → ClassId) (b : Nat) (w : va_W) : Prop := ∃ q1 : Nat, w = [(b, .inr (10, [.int 0, .int 0, .int 0, .int 0, .int (-1), .ref q1, .int 0, .int 0])), (q1, zB kA 1200)]
abbrev GX10_init (l : Launch) (D : va_G) (kA : Nat → ClassId) (sz0 t0 b : Nat) := Gw l D kA sz0 t0 mX10_init 1 1200 [(b, .inr (10, [.int 0, .int 0, .int 0, .int 0, .int 0, .null, .int 0, .int 0]))] (pX10_init kA b)
set_option maxRecDepth 20000 in
theorem ci_X10_init {l : Launch} {D : va_G} {kA : Nat → ClassId} {sz0 t0 b : Nat} : CI l D kA sz0 t0 mX10_init 1 1200 [.ref b] [(b, .inr (10, [.int 0, .int 0, .int 0, .int 0, .int 0, .null, .int 0, .int 0]))] (pX10_init kA b) := by
  refine CI.of (lo := [some (.ref b)]) (by decide) rfl rfl rfl (Nat.le_of_ble_eq_true rfl) ?_
  refine g_aload dX10_init_0 rfl ?_
  refine g_obj dX10_init_1 (lw_in (i := 36) (by decide +kernel) (by decide +kernel)) w_obj.1 w_obj.2 (by decide) (Nat.le_of_ble_eq_true rfl) ?_
  refine g_aload dX10_init_4 rfl ?_
  refine g_iconst (v := (-1)) dX10_init_5 (by decide) ?_
  refine g_put (q0 := 0) (k := 4) (T := TX10) (Cc := RX10) (N := 8) (ty0 := tyX10) (ref := "BellTable$Tape") dX10_init_6 inX10 tyX10_ok nmX10 rfl rfl (by decide) (lw_in (i := 49) (by decide +kernel) (by decide +kernel)) rfl rfl (tyX10_ok 4 (by decide)) rfl rfl (Nat.le_of_ble_eq_true rfl) ?_
  show GX10_init l D kA sz0 t0 b 9 [some (.ref b)] [] [(b, .inr (10, [.int 0, .int 0, .int 0, .int 0, .int (-1), .null, .int 0, .int 0]))] 0 0
  refine g_aload dX10_init_9 rfl ?_
  refine g_sipush (v := 1200) dX10_init_10 (by decide) ?_
  refine g_newB (N := 1200) dX10_init_13 (by decide) (by decide) (by decide) (Nat.le_of_ble_eq_true rfl) (Nat.le_of_ble_eq_true rfl) (fun q1 => ?_)
  show GX10_init l D kA sz0 t0 b 15 [some (.ref b)] [.ref q1, .ref b] [(b, .inr (10, [.int 0, .int 0, .int 0, .int 0, .int (-1), .null, .int 0, .int 0])), (q1, zB kA 1200)] 1 1200
  refine g_putF (q0 := 0) (k := 5) (T := TX10) (Cc := RX10) (N := 8) (ty0 := tyX10) (ref := "BellTable$Tape") dX10_init_15 inX10 tyX10_ok nmX10 rfl rfl (by decide) (lw_in (i := 51) (by decide +kernel) (by decide +kernel)) rfl rfl rfl (tyX10_ok 5 (by decide)) rfl rfl (Nat.le_of_ble_eq_true rfl) ?_
  show GX10_init l D kA sz0 t0 b 18 [some (.ref b)] [] [(b, .inr (10, [.int 0, .int 0, .int 0, .int 0, .int (-1), .ref q1, .int 0, .int 0])), (q1, zB kA 1200)] 1 1200
  exact g_ret dX10_init_18 ⟨q1, rfl⟩ rfl rfl
theorem dX9_init_0 : decode cX9_init 0 = .ok (.aload_n 0, 1) := by decide +kernel
theorem dX9_init_1 : decode cX9_init 1 = .ok (.invokespecial 3, 3) := by decide +kernel
theorem dX9_init_4 : decode cX9_init 4 = .ok (.aload_n 0, 1) := by decide +kernel
theorem dX9_init_5 : decode cX9_init 5 = .ok (.sipush 160, 3) := by decide +kernel
theorem dX9_init_8 : decode cX9_init 8 = .ok (.newarray .int, 2) := by decide +kernel
theorem dX9_init_10 : decode cX9_init 10 = .ok (.putfield 9, 3) := by decide +kernel
theorem dX9_init_13 : decode cX9_init 13 = .ok (.aload_n 0, 1) := by decide +kernel
theorem dX9_init_14 : decode cX9_init 14 = .ok (.sipush 160, 3) := by decide +kernel
theorem dX9_init_17 : decode cX9_init 17 = .ok (.newarray .int, 2) := by decide +kernel
theorem dX9_init_19 : decode cX9_init 19 = .ok (.putfield 15, 3) := by decide +kernel
theorem dX9_init_22 : decode cX9_init 22 = .ok (.aload_n 0, 1) := by decide +kernel
theorem dX9_init_23 : decode cX9_init 23 = .ok (.sipush 160, 3) := by decide +kernel
theorem dX9_init_26 : decode cX9_init 26 = .ok (.newarray .int, 2) := by decide +kernel
theorem dX9_init_28 : decode cX9_init 28 = .ok (.putfield 18, 3) := by decide +kernel
theorem dX9_init_31 : decode cX9_init 31 = .ok (.aload_n 0, 1) := by decide +kernel
theorem dX9_init_32 : decode cX9_init 32 = .ok (.sipush 160, 3) := by decide +kernel
theorem dX9_init_35 : decode cX9_init 35 = .ok (.newarray .int, 2) := by decide +kernel
theorem dX9_init_37 : decode cX9_init 37 = .ok (.putfield 21, 3) := by decide +kernel
theorem dX9_init_40 : decode cX9_init 40 = .ok (.return_, 1) := by decide +kernel
abbrev mX9_init : MI := (yX9_init, cX9_init, 1, none, 1, 40, [])
def pX9_init (kA : Nat → ClassId) (b : Nat) (w : va_W) : Prop := ∃ q1 q2 q3 q4 : Nat, w = [(b, .inr (9, [.ref q1, .ref q2, .ref q3, .ref q4, .int 0])), (q1, zI kA 160), (q2, zI kA 160), (q3, zI kA 160), (q4, zI kA 160)]
abbrev GX9_init (l : Launch) (D : va_G) (kA : Nat → ClassId) (sz0 t0 b : Nat) := Gw l D kA sz0 t0 mX9_init 4 640 [(b, .inr (9, [.null, .null, .null, .null, .int 0]))] (pX9_init kA b)
set_option maxRecDepth 20000 in
theorem ci_X9_init {l : Launch} {D : va_G} {kA : Nat → ClassId} {sz0 t0 b : Nat} : CI l D kA sz0 t0 mX9_init 4 640 [.ref b] [(b, .inr (9, [.null, .null, .null, .null, .int 0]))] (pX9_init kA b) := by
  refine CI.of (lo := [some (.ref b)]) (by decide) rfl rfl rfl (Nat.le_of_ble_eq_true rfl) ?_
  refine g_aload dX9_init_0 rfl ?_
  refine g_obj dX9_init_1 (lw_in (i := 83) (by decide +kernel) (by decide +kernel)) w_obj.1 w_obj.2 (by decide) (Nat.le_of_ble_eq_true rfl) ?_
  refine g_aload dX9_init_4 rfl ?_
  refine g_sipush (v := 160) dX9_init_5 (by decide) ?_
  refine g_newI (N := 160) dX9_init_8 (by decide) (by decide) (by decide) (Nat.le_of_ble_eq_true rfl) (Nat.le_of_ble_eq_true rfl) (fun q1 => ?_)
  show GX9_init l D kA sz0 t0 b 10 [some (.ref b)] [.ref q1, .ref b] [(b, .inr (9, [.null, .null, .null, .null, .int 0])), (q1, zI kA 160)] 1 160
  refine g_putF (q0 := 0) (k := 0) (T := TX9) (Cc := RX9) (N := 5) (ty0 := tyX9) (ref := "BellTable$Strokes") dX9_init_10 inX9 tyX9_ok nmX9 rfl rfl (by decide) (lw_in (i := 84) (by decide +kernel) (by decide +kernel)) rfl rfl rfl (tyX9_ok 0 (by decide)) rfl rfl (Nat.le_of_ble_eq_true rfl) ?_
  show GX9_init l D kA sz0 t0 b 13 [some (.ref b)] [] [(b, .inr (9, [.ref q1, .null, .null, .null, .int 0])), (q1, zI kA 160)] 1 160
  refine g_aload dX9_init_13 rfl ?_
  refine g_sipush (v := 160) dX9_init_14 (by decide) ?_
  refine g_newI (N := 160) dX9_init_17 (by decide) (by decide) (by decide) (Nat.le_of_ble_eq_true rfl) (Nat.le_of_ble_eq_true rfl) (fun q2 => ?_)
  show GX9_init l D kA sz0 t0 b 19 [some (.ref b)] [.ref q2, .ref b] [(b, .inr (9, [.ref q1, .null, .null, .null, .int 0])), (q1, zI kA 160), (q2, zI kA 160)] 2 320
  refine g_putF (q0 := 0) (k := 1) (T := TX9) (Cc := RX9) (N := 5) (ty0 := tyX9) (ref := "BellTable$Strokes") dX9_init_19 inX9 tyX9_ok nmX9 rfl rfl (by decide) (lw_in (i := 89) (by decide +kernel) (by decide +kernel)) rfl rfl rfl (tyX9_ok 1 (by decide)) rfl rfl (Nat.le_of_ble_eq_true rfl) ?_
  show GX9_init l D kA sz0 t0 b 22 [some (.ref b)] [] [(b, .inr (9, [.ref q1, .ref q2, .null, .null, .int 0])), (q1, zI kA 160), (q2, zI kA 160)] 2 320
  refine g_aload dX9_init_22 rfl ?_
  refine g_sipush (v := 160) dX9_init_23 (by decide) ?_
  refine g_newI (N := 160) dX9_init_26 (by decide) (by decide) (by decide) (Nat.le_of_ble_eq_true rfl) (Nat.le_of_ble_eq_true rfl) (fun q3 => ?_)
  show GX9_init l D kA sz0 t0 b 28 [some (.ref b)] [.ref q3, .ref b] [(b, .inr (9, [.ref q1, .ref q2, .null, .null, .int 0])), (q1, zI kA 160), (q2, zI kA 160), (q3, zI kA 160)] 3 480
  refine g_putF (q0 := 0) (k := 2) (T := TX9) (Cc := RX9) (N := 5) (ty0 := tyX9) (ref := "BellTable$Strokes") dX9_init_28 inX9 tyX9_ok nmX9 rfl rfl (by decide) (lw_in (i := 96) (by decide +kernel) (by decide +kernel)) rfl rfl rfl (tyX9_ok 2 (by decide)) rfl rfl (Nat.le_of_ble_eq_true rfl) ?_
  show GX9_init l D kA sz0 t0 b 31 [some (.ref b)] [] [(b, .inr (9, [.ref q1, .ref q2, .ref q3, .null, .int 0])), (q1, zI kA 160), (q2, zI kA 160), (q3, zI kA 160)] 3 480
  refine g_aload dX9_init_31 rfl ?_
  refine g_sipush (v := 160) dX9_init_32 (by decide) ?_
  refine g_newI (N := 160) dX9_init_35 (by decide) (by decide) (by decide) (Nat.le_of_ble_eq_true rfl) (Nat.le_of_ble_eq_true rfl) (fun q4 => ?_)
  show GX9_init l D kA sz0 t0 b 37 [some (.ref b)] [.ref q4, .ref b] [(b, .inr (9, [.ref q1, .ref q2, .ref q3, .null, .int 0])), (q1, zI kA 160), (q2, zI kA 160), (q3, zI kA 160), (q4, zI kA 160)] 4 640
  refine g_putF (q0 := 0) (k := 3) (T := TX9) (Cc := RX9) (N := 5) (ty0 := tyX9) (ref := "BellTable$Strokes") dX9_init_37 inX9 tyX9_ok nmX9 rfl rfl (by decide) (lw_in (i := 101) (by decide +kernel) (by decide +kernel)) rfl rfl rfl (tyX9_ok 3 (by decide)) rfl rfl (Nat.le_of_ble_eq_true rfl) ?_
  show GX9_init l D kA sz0 t0 b 40 [some (.ref b)] [] [(b, .inr (9, [.ref q1, .ref q2, .ref q3, .ref q4, .int 0])), (q1, zI kA 160), (q2, zI kA 160), (q3, zI kA 160), (q4, zI kA 160)] 4 640
  exact g_ret dX9_init_40 ⟨q1, q2, q3, q4, rfl⟩ rfl rfl
theorem dX1_init_0 : decode cX1_init 0 = .ok (.aload_n 0, 1) := by decide +kernel
theorem dX1_init_1 : decode cX1_init 1 = .ok (.invokespecial 3, 3) := by decide +kernel
theorem dX1_init_4 : decode cX1_init 4 = .ok (.aload_n 0, 1) := by decide +kernel
theorem dX1_init_5 : decode cX1_init 5 = .ok (.sipush 483, 3) := by decide +kernel
theorem dX1_init_8 : decode cX1_init 8 = .ok (.newarray .long, 2) := by decide +kernel
theorem dX1_init_10 : decode cX1_init 10 = .ok (.putfield 11, 3) := by decide +kernel
theorem dX1_init_13 : decode cX1_init 13 = .ok (.return_, 1) := by decide +kernel
abbrev mX1_init : MI := (yX1_init, cX1_init, 1, none, 1, 40, [])
def pX1_init (kA : Nat → ClassId) (b : Nat) (w : va_W) : Prop := ∃ q1 : Nat, w = [(b, .inr (1, [.ref q1])), (q1, zJ kA 483)]
abbrev GX1_init (l : Launch) (D : va_G) (kA : Nat → ClassId) (sz0 t0 b : Nat) := Gw l D kA sz0 t0 mX1_init 1 483 [(b, .inr (1, [.null]))] (pX1_init kA b)
set_option maxRecDepth 20000 in
theorem ci_X1_init {l : Launch} {D : va_G} {kA : Nat → ClassId} {sz0 t0 b : Nat} : CI l D kA sz0 t0 mX1_init 1 483 [.ref b] [(b, .inr (1, [.null]))] (pX1_init kA b) := by
  refine CI.of (lo := [some (.ref b)]) (by decide) rfl rfl rfl (Nat.le_of_ble_eq_true rfl) ?_
  refine g_aload dX1_init_0 rfl ?_
  refine g_obj dX1_init_1 (lw_in (i := 333) (by decide +kernel) (by decide +kernel)) w_obj.1 w_obj.2 (by decide) (Nat.le_of_ble_eq_true rfl) ?_
  refine g_aload dX1_init_4 rfl ?_
  refine g_sipush (v := 483) dX1_init_5 (by decide) ?_
  refine g_newJ (N := 483) dX1_init_8 (by decide) (by decide) (by decide) (Nat.le_of_ble_eq_true rfl) (Nat.le_of_ble_eq_true rfl) (fun q1 => ?_)
  show GX1_init l D kA sz0 t0 b 10 [some (.ref b)] [.ref q1, .ref b] [(b, .inr (1, [.null])), (q1, zJ kA 483)] 1 483
  refine g_putF (q0 := 0) (k := 0) (T := TX1) (Cc := RX1) (N := 1) (ty0 := tyX1) (ref := "BellTable$Bits") dX1_init_10 inX1 tyX1_ok nmX1 rfl rfl (by decide) (lw_in (i := 334) (by decide +kernel) (by decide +kernel)) rfl rfl rfl (tyX1_ok 0 (by decide)) rfl rfl (Nat.le_of_ble_eq_true rfl) ?_
  show GX1_init l D kA sz0 t0 b 13 [some (.ref b)] [] [(b, .inr (1, [.ref q1])), (q1, zJ kA 483)] 1 483
  exact g_ret dX1_init_13 ⟨q1, rfl⟩ rfl rfl
theorem dX6_init_0 : decode cX6_init 0 = .ok (.aload_n 0, 1) := by decide +kernel
theorem dX6_init_1 : decode cX6_init 1 = .ok (.invokespecial 3, 3) := by decide +kernel
theorem dX6_init_4 : decode cX6_init 4 = .ok (.aload_n 0, 1) := by decide +kernel
theorem dX6_init_5 : decode cX6_init 5 = .ok (.iconst 4, 1) := by decide +kernel
theorem dX6_init_6 : decode cX6_init 6 = .ok (.newarray .int, 2) := by decide +kernel
theorem dX6_init_8 : decode cX6_init 8 = .ok (.putfield 11, 3) := by decide +kernel
theorem dX6_init_11 : decode cX6_init 11 = .ok (.aload_n 0, 1) := by decide +kernel
theorem dX6_init_12 : decode cX6_init 12 = .ok (.iconst 4, 1) := by decide +kernel
theorem dX6_init_13 : decode cX6_init 13 = .ok (.newarray .int, 2) := by decide +kernel
theorem dX6_init_15 : decode cX6_init 15 = .ok (.putfield 15, 3) := by decide +kernel
theorem dX6_init_18 : decode cX6_init 18 = .ok (.getstatic 18, 3) := by decide +kernel
theorem dX6_init_21 : decode cX6_init 21 = .ok (.iconst 0, 1) := by decide +kernel
theorem dX6_init_22 : decode cX6_init 22 = .ok (.aload_n 0, 1) := by decide +kernel
theorem dX6_init_23 : decode cX6_init 23 = .ok (.getfield 11, 3) := by decide +kernel
theorem dX6_init_26 : decode cX6_init 26 = .ok (.iconst 0, 1) := by decide +kernel
theorem dX6_init_27 : decode cX6_init 27 = .ok (.iconst 4, 1) := by decide +kernel
theorem dX6_init_28 : decode cX6_init 28 = .ok (.invokestatic 21, 3) := by decide +kernel
theorem dX6_init_31 : decode cX6_init 31 = .ok (.return_, 1) := by decide +kernel
abbrev mX6_init : MI := (yX6_init, cX6_init, 1, none, 1, 80, [])
def pX6_init (kA : Nat → ClassId) (b : Nat) (w : va_W) : Prop := ∃ q1 q2 : Nat, w = [(b, .inr (6, [.ref q1, .ref q2, .int 0, .int 0, .int 0])), (q1, .inl (kA 0, 4, .inl rule0)), (q2, zI kA 4)]
abbrev GX6_init (l : Launch) (D : va_G) (kA : Nat → ClassId) (sz0 t0 b : Nat) := Gw l D kA sz0 t0 mX6_init 2 8 [(b, .inr (6, [.null, .null, .int 0, .int 0, .int 0]))] (pX6_init kA b)
set_option maxRecDepth 20000 in
theorem ci_X6_init {l : Launch} {D : va_G} {kA : Nat → ClassId} {sz0 t0 b : Nat} : CI l D kA sz0 t0 mX6_init 2 8 [.ref b] [(b, .inr (6, [.null, .null, .int 0, .int 0, .int 0]))] (pX6_init kA b) := by
  refine CI.of (lo := [some (.ref b)]) (by decide) rfl rfl rfl (Nat.le_of_ble_eq_true rfl) ?_
  refine g_aload dX6_init_0 rfl ?_
  refine g_obj dX6_init_1 (lw_in (i := 150) (by decide +kernel) (by decide +kernel)) w_obj.1 w_obj.2 (by decide) (Nat.le_of_ble_eq_true rfl) ?_
  refine g_aload dX6_init_4 rfl ?_
  refine g_iconst (v := 4) dX6_init_5 (by decide) ?_
  refine g_newI (N := 4) dX6_init_6 (by decide) (by decide) (by decide) (Nat.le_of_ble_eq_true rfl) (Nat.le_of_ble_eq_true rfl) (fun q1 => ?_)
  show GX6_init l D kA sz0 t0 b 8 [some (.ref b)] [.ref q1, .ref b] [(b, .inr (6, [.null, .null, .int 0, .int 0, .int 0])), (q1, zI kA 4)] 1 4
  refine g_putF (q0 := 0) (k := 0) (T := TX6) (Cc := RX6) (N := 5) (ty0 := tyX6) (ref := "BellTable$Manners") dX6_init_8 inX6 tyX6_ok nmX6 rfl rfl (by decide) (lw_in (i := 156) (by decide +kernel) (by decide +kernel)) rfl rfl rfl (tyX6_ok 0 (by decide)) rfl rfl (Nat.le_of_ble_eq_true rfl) ?_
  show GX6_init l D kA sz0 t0 b 11 [some (.ref b)] [] [(b, .inr (6, [.ref q1, .null, .int 0, .int 0, .int 0])), (q1, zI kA 4)] 1 4
  refine g_aload dX6_init_11 rfl ?_
  refine g_iconst (v := 4) dX6_init_12 (by decide) ?_
  refine g_newI (N := 4) dX6_init_13 (by decide) (by decide) (by decide) (Nat.le_of_ble_eq_true rfl) (Nat.le_of_ble_eq_true rfl) (fun q2 => ?_)
  show GX6_init l D kA sz0 t0 b 15 [some (.ref b)] [.ref q2, .ref b] [(b, .inr (6, [.ref q1, .null, .int 0, .int 0, .int 0])), (q1, zI kA 4), (q2, zI kA 4)] 2 8
  refine g_putF (q0 := 0) (k := 1) (T := TX6) (Cc := RX6) (N := 5) (ty0 := tyX6) (ref := "BellTable$Manners") dX6_init_15 inX6 tyX6_ok nmX6 rfl rfl (by decide) (lw_in (i := 160) (by decide +kernel) (by decide +kernel)) rfl rfl rfl (tyX6_ok 1 (by decide)) rfl rfl (Nat.le_of_ble_eq_true rfl) ?_
  show GX6_init l D kA sz0 t0 b 18 [some (.ref b)] [] [(b, .inr (6, [.ref q1, .ref q2, .int 0, .int 0, .int 0])), (q1, zI kA 4), (q2, zI kA 4)] 2 8
  refine g_getsA dX6_init_18 (lw_in (i := 151) (by decide +kernel) (by decide +kernel)) ?_
  refine g_iconst (v := 0) dX6_init_21 (by decide) ?_
  refine g_aload dX6_init_22 rfl ?_
  refine g_get (q0 := 0) (k := 0) (T := TX6) (Cc := RX6) (N := 5) (ref := "BellTable$Manners") (v := .ref q1) dX6_init_23 inX6 rfl rfl (by decide) (lw_in (i := 156) (by decide +kernel) (by decide +kernel)) rfl rfl ?_
  refine g_iconst (v := 0) dX6_init_26 (by decide) ?_
  refine g_iconst (v := 4) dX6_init_27 (by decide) ?_
  refine g_copyA (q1 := 1) dX6_init_28 (lw_in (i := 153) (by decide +kernel) (by decide +kernel)) rfl (by decide) (Nat.le_of_ble_eq_true (by decide +kernel)) ?_
  show GX6_init l D kA sz0 t0 b 31 [some (.ref b)] [] [(b, .inr (6, [.ref q1, .ref q2, .int 0, .int 0, .int 0])), (q1, .inl (kA 0, 4, .inl rule0)), (q2, zI kA 4)] 2 8
  exact g_ret dX6_init_31 ⟨q1, q2, rfl⟩ rfl rfl
theorem dX3_init_0 : decode cX3_init 0 = .ok (.aload_n 0, 1) := by decide +kernel
theorem dX3_init_1 : decode cX3_init 1 = .ok (.invokespecial 3, 3) := by decide +kernel
theorem dX3_init_4 : decode cX3_init 4 = .ok (.aload_n 0, 1) := by decide +kernel
theorem dX3_init_5 : decode cX3_init 5 = .ok (.sipush 160, 3) := by decide +kernel
theorem dX3_init_8 : decode cX3_init 8 = .ok (.newarray .int, 2) := by decide +kernel
theorem dX3_init_10 : decode cX3_init 10 = .ok (.putfield 9, 3) := by decide +kernel
theorem dX3_init_13 : decode cX3_init 13 = .ok (.aload_n 0, 1) := by decide +kernel
theorem dX3_init_14 : decode cX3_init 14 = .ok (.sipush 160, 3) := by decide +kernel
theorem dX3_init_17 : decode cX3_init 17 = .ok (.newarray .int, 2) := by decide +kernel
theorem dX3_init_19 : decode cX3_init 19 = .ok (.putfield 15, 3) := by decide +kernel
theorem dX3_init_22 : decode cX3_init 22 = .ok (.aload_n 0, 1) := by decide +kernel
theorem dX3_init_23 : decode cX3_init 23 = .ok (.sipush 12880, 3) := by decide +kernel
theorem dX3_init_26 : decode cX3_init 26 = .ok (.newarray .int, 2) := by decide +kernel
theorem dX3_init_28 : decode cX3_init 28 = .ok (.putfield 18, 3) := by decide +kernel
theorem dX3_init_31 : decode cX3_init 31 = .ok (.aload_n 0, 1) := by decide +kernel
theorem dX3_init_32 : decode cX3_init 32 = .ok (.sipush 160, 3) := by decide +kernel
theorem dX3_init_35 : decode cX3_init 35 = .ok (.newarray .int, 2) := by decide +kernel
theorem dX3_init_37 : decode cX3_init 37 = .ok (.putfield 21, 3) := by decide +kernel
theorem dX3_init_40 : decode cX3_init 40 = .ok (.aload_n 0, 1) := by decide +kernel
theorem dX3_init_41 : decode cX3_init 41 = .ok (.aload_n 1, 1) := by decide +kernel
theorem dX3_init_42 : decode cX3_init 42 = .ok (.putfield 24, 3) := by decide +kernel
theorem dX3_init_45 : decode cX3_init 45 = .ok (.aload_n 0, 1) := by decide +kernel
theorem dX3_init_46 : decode cX3_init 46 = .ok (.aload_n 2, 1) := by decide +kernel
theorem dX3_init_47 : decode cX3_init 47 = .ok (.putfield 28, 3) := by decide +kernel
theorem dX3_init_50 : decode cX3_init 50 = .ok (.return_, 1) := by decide +kernel
abbrev mX3_init : MI := (yX3_init, cX3_init, 3, none, 1, 40, [])
def pX3_init (kA : Nat → ClassId) (b : Nat) (t : Nat) (u : Nat) (w : va_W) : Prop := ∃ q1 q2 q3 q4 : Nat, w = [(b, .inr (3, [.ref t, .ref u, .ref q1, .int 0, .ref q2, .int 0, .ref q3, .int 0, .ref q4])), (q1, zI kA 160), (q2, zI kA 160), (q3, zI kA 12880), (q4, zI kA 160)]
abbrev GX3_init (l : Launch) (D : va_G) (kA : Nat → ClassId) (sz0 t0 b : Nat) (t : Nat) (u : Nat) := Gw l D kA sz0 t0 mX3_init 4 13360 [(b, .inr (3, [.null, .null, .null, .int 0, .null, .int 0, .null, .int 0, .null]))] (pX3_init kA b t u)
set_option maxRecDepth 20000 in
theorem ci_X3_init {l : Launch} {D : va_G} {kA : Nat → ClassId} {sz0 t0 b t u : Nat} : CI l D kA sz0 t0 mX3_init 4 13360 [.ref b, .ref t, .ref u] [(b, .inr (3, [.null, .null, .null, .int 0, .null, .int 0, .null, .int 0, .null]))] (pX3_init kA b t u) := by
  refine CI.of (lo := [some (.ref b), some (.ref t), some (.ref u)]) (by decide) rfl rfl rfl (Nat.le_of_ble_eq_true rfl) ?_
  refine g_aload dX3_init_0 rfl ?_
  refine g_obj dX3_init_1 (lw_in (i := 180) (by decide +kernel) (by decide +kernel)) w_obj.1 w_obj.2 (by decide) (Nat.le_of_ble_eq_true rfl) ?_
  refine g_aload dX3_init_4 rfl ?_
  refine g_sipush (v := 160) dX3_init_5 (by decide) ?_
  refine g_newI (N := 160) dX3_init_8 (by decide) (by decide) (by decide) (Nat.le_of_ble_eq_true rfl) (Nat.le_of_ble_eq_true rfl) (fun q1 => ?_)
  show GX3_init l D kA sz0 t0 b t u 10 [some (.ref b), some (.ref t), some (.ref u)] [.ref q1, .ref b] [(b, .inr (3, [.null, .null, .null, .int 0, .null, .int 0, .null, .int 0, .null])), (q1, zI kA 160)] 1 160
  refine g_putF (q0 := 0) (k := 2) (T := TX3) (Cc := RX3) (N := 9) (ty0 := tyX3) (ref := "BellTable$Hands") dX3_init_10 inX3 tyX3_ok nmX3 rfl rfl (by decide) (lw_in (i := 183) (by decide +kernel) (by decide +kernel)) rfl rfl rfl (tyX3_ok 2 (by decide)) rfl rfl (Nat.le_of_ble_eq_true rfl) ?_
  show GX3_init l D kA sz0 t0 b t u 13 [some (.ref b), some (.ref t), some (.ref u)] [] [(b, .inr (3, [.null, .null, .ref q1, .int 0, .null, .int 0, .null, .int 0, .null])), (q1, zI kA 160)] 1 160
  refine g_aload dX3_init_13 rfl ?_
  refine g_sipush (v := 160) dX3_init_14 (by decide) ?_
  refine g_newI (N := 160) dX3_init_17 (by decide) (by decide) (by decide) (Nat.le_of_ble_eq_true rfl) (Nat.le_of_ble_eq_true rfl) (fun q2 => ?_)
  show GX3_init l D kA sz0 t0 b t u 19 [some (.ref b), some (.ref t), some (.ref u)] [.ref q2, .ref b] [(b, .inr (3, [.null, .null, .ref q1, .int 0, .null, .int 0, .null, .int 0, .null])), (q1, zI kA 160), (q2, zI kA 160)] 2 320
  refine g_putF (q0 := 0) (k := 4) (T := TX3) (Cc := RX3) (N := 9) (ty0 := tyX3) (ref := "BellTable$Hands") dX3_init_19 inX3 tyX3_ok nmX3 rfl rfl (by decide) (lw_in (i := 187) (by decide +kernel) (by decide +kernel)) rfl rfl rfl (tyX3_ok 4 (by decide)) rfl rfl (Nat.le_of_ble_eq_true rfl) ?_
  show GX3_init l D kA sz0 t0 b t u 22 [some (.ref b), some (.ref t), some (.ref u)] [] [(b, .inr (3, [.null, .null, .ref q1, .int 0, .ref q2, .int 0, .null, .int 0, .null])), (q1, zI kA 160), (q2, zI kA 160)] 2 320
  refine g_aload dX3_init_22 rfl ?_
  refine g_sipush (v := 12880) dX3_init_23 (by decide) ?_
  refine g_newI (N := 12880) dX3_init_26 (by decide) (by decide) (by decide) (Nat.le_of_ble_eq_true rfl) (Nat.le_of_ble_eq_true rfl) (fun q3 => ?_)
  show GX3_init l D kA sz0 t0 b t u 28 [some (.ref b), some (.ref t), some (.ref u)] [.ref q3, .ref b] [(b, .inr (3, [.null, .null, .ref q1, .int 0, .ref q2, .int 0, .null, .int 0, .null])), (q1, zI kA 160), (q2, zI kA 160), (q3, zI kA 12880)] 3 13200
  refine g_putF (q0 := 0) (k := 6) (T := TX3) (Cc := RX3) (N := 9) (ty0 := tyX3) (ref := "BellTable$Hands") dX3_init_28 inX3 tyX3_ok nmX3 rfl rfl (by decide) (lw_in (i := 189) (by decide +kernel) (by decide +kernel)) rfl rfl rfl (tyX3_ok 6 (by decide)) rfl rfl (Nat.le_of_ble_eq_true rfl) ?_
  show GX3_init l D kA sz0 t0 b t u 31 [some (.ref b), some (.ref t), some (.ref u)] [] [(b, .inr (3, [.null, .null, .ref q1, .int 0, .ref q2, .int 0, .ref q3, .int 0, .null])), (q1, zI kA 160), (q2, zI kA 160), (q3, zI kA 12880)] 3 13200
  refine g_aload dX3_init_31 rfl ?_
  refine g_sipush (v := 160) dX3_init_32 (by decide) ?_
  refine g_newI (N := 160) dX3_init_35 (by decide) (by decide) (by decide) (Nat.le_of_ble_eq_true rfl) (Nat.le_of_ble_eq_true rfl) (fun q4 => ?_)
  show GX3_init l D kA sz0 t0 b t u 37 [some (.ref b), some (.ref t), some (.ref u)] [.ref q4, .ref b] [(b, .inr (3, [.null, .null, .ref q1, .int 0, .ref q2, .int 0, .ref q3, .int 0, .null])), (q1, zI kA 160), (q2, zI kA 160), (q3, zI kA 12880), (q4, zI kA 160)] 4 13360
  refine g_putF (q0 := 0) (k := 8) (T := TX3) (Cc := RX3) (N := 9) (ty0 := tyX3) (ref := "BellTable$Hands") dX3_init_37 inX3 tyX3_ok nmX3 rfl rfl (by decide) (lw_in (i := 191) (by decide +kernel) (by decide +kernel)) rfl rfl rfl (tyX3_ok 8 (by decide)) rfl rfl (Nat.le_of_ble_eq_true rfl) ?_
  show GX3_init l D kA sz0 t0 b t u 40 [some (.ref b), some (.ref t), some (.ref u)] [] [(b, .inr (3, [.null, .null, .ref q1, .int 0, .ref q2, .int 0, .ref q3, .int 0, .ref q4])), (q1, zI kA 160), (q2, zI kA 160), (q3, zI kA 12880), (q4, zI kA 160)] 4 13360
  refine g_aload dX3_init_40 rfl ?_
  refine g_aload dX3_init_41 rfl ?_
  refine g_putF (q0 := 0) (k := 0) (T := TX3) (Cc := RX3) (N := 9) (ty0 := tyX3) (ref := "BellTable$Hands") dX3_init_42 inX3 tyX3_ok nmX3 rfl rfl (by decide) (lw_in (i := 181) (by decide +kernel) (by decide +kernel)) rfl rfl rfl (tyX3_ok 0 (by decide)) rfl rfl (Nat.le_of_ble_eq_true rfl) ?_
  show GX3_init l D kA sz0 t0 b t u 45 [some (.ref b), some (.ref t), some (.ref u)] [] [(b, .inr (3, [.ref t, .null, .ref q1, .int 0, .ref q2, .int 0, .ref q3, .int 0, .ref q4])), (q1, zI kA 160), (q2, zI kA 160), (q3, zI kA 12880), (q4, zI kA 160)] 4 13360
  refine g_aload dX3_init_45 rfl ?_
  refine g_aload dX3_init_46 rfl ?_
  refine g_putF (q0 := 0) (k := 1) (T := TX3) (Cc := RX3) (N := 9) (ty0 := tyX3) (ref := "BellTable$Hands") dX3_init_47 inX3 tyX3_ok nmX3 rfl rfl (by decide) (lw_in (i := 182) (by decide +kernel) (by decide +kernel)) rfl rfl rfl (tyX3_ok 1 (by decide)) rfl rfl (Nat.le_of_ble_eq_true rfl) ?_
  show GX3_init l D kA sz0 t0 b t u 50 [some (.ref b), some (.ref t), some (.ref u)] [] [(b, .inr (3, [.ref t, .ref u, .ref q1, .int 0, .ref q2, .int 0, .ref q3, .int 0, .ref q4])), (q1, zI kA 160), (q2, zI kA 160), (q3, zI kA 12880), (q4, zI kA 160)] 4 13360
  exact g_ret dX3_init_50 ⟨q1, q2, q3, q4, rfl⟩ rfl rfl
theorem dX7_init_0 : decode cX7_init 0 = .ok (.aload_n 0, 1) := by decide +kernel
theorem dX7_init_1 : decode cX7_init 1 = .ok (.invokespecial 5, 3) := by decide +kernel
theorem dX7_init_4 : decode cX7_init 4 = .ok (.aload_n 0, 1) := by decide +kernel
theorem dX7_init_5 : decode cX7_init 5 = .ok (.bipush 48, 2) := by decide +kernel
theorem dX7_init_7 : decode cX7_init 7 = .ok (.newarray .int, 2) := by decide +kernel
theorem dX7_init_9 : decode cX7_init 9 = .ok (.putfield 11, 3) := by decide +kernel
theorem dX7_init_12 : decode cX7_init 12 = .ok (.aload_n 0, 1) := by decide +kernel
theorem dX7_init_13 : decode cX7_init 13 = .ok (.bipush 48, 2) := by decide +kernel
theorem dX7_init_15 : decode cX7_init 15 = .ok (.newarray .int, 2) := by decide +kernel
theorem dX7_init_17 : decode cX7_init 17 = .ok (.putfield 17, 3) := by decide +kernel
theorem dX7_init_20 : decode cX7_init 20 = .ok (.aload_n 0, 1) := by decide +kernel
theorem dX7_init_21 : decode cX7_init 21 = .ok (.bipush 12, 2) := by decide +kernel
theorem dX7_init_23 : decode cX7_init 23 = .ok (.newarray .int, 2) := by decide +kernel
theorem dX7_init_25 : decode cX7_init 25 = .ok (.putfield 20, 3) := by decide +kernel
theorem dX7_init_28 : decode cX7_init 28 = .ok (.aload_n 0, 1) := by decide +kernel
theorem dX7_init_29 : decode cX7_init 29 = .ok (.sipush 624, 3) := by decide +kernel
theorem dX7_init_32 : decode cX7_init 32 = .ok (.newarray .int, 2) := by decide +kernel
theorem dX7_init_34 : decode cX7_init 34 = .ok (.putfield 23, 3) := by decide +kernel
theorem dX7_init_37 : decode cX7_init 37 = .ok (.aload_n 0, 1) := by decide +kernel
theorem dX7_init_38 : decode cX7_init 38 = .ok (.sipush 637, 3) := by decide +kernel
theorem dX7_init_41 : decode cX7_init 41 = .ok (.newarray .int, 2) := by decide +kernel
theorem dX7_init_43 : decode cX7_init 43 = .ok (.putfield 26, 3) := by decide +kernel
theorem dX7_init_46 : decode cX7_init 46 = .ok (.aload_n 0, 1) := by decide +kernel
theorem dX7_init_47 : decode cX7_init 47 = .ok (.aload_n 1, 1) := by decide +kernel
theorem dX7_init_48 : decode cX7_init 48 = .ok (.putfield 29, 3) := by decide +kernel
theorem dX7_init_51 : decode cX7_init 51 = .ok (.aload_n 0, 1) := by decide +kernel
theorem dX7_init_52 : decode cX7_init 52 = .ok (.aload_n 2, 1) := by decide +kernel
theorem dX7_init_53 : decode cX7_init 53 = .ok (.putfield 33, 3) := by decide +kernel
theorem dX7_init_56 : decode cX7_init 56 = .ok (.aload_n 0, 1) := by decide +kernel
theorem dX7_init_57 : decode cX7_init 57 = .ok (.aload_n 3, 1) := by decide +kernel
theorem dX7_init_58 : decode cX7_init 58 = .ok (.putfield 37, 3) := by decide +kernel
theorem dX7_init_61 : decode cX7_init 61 = .ok (.return_, 1) := by decide +kernel
abbrev mX7_init : MI := (yX7_init, cX7_init, 4, none, 1, 40, [])
def pX7_init (kA : Nat → ClassId) (b : Nat) (t : Nat) (u : Nat) (v : Nat) (w : va_W) : Prop := ∃ q1 q2 q3 q4 q5 : Nat, w = [(b, .inr (7, [.ref t, .ref u, .ref v, .ref q1, .int 0, .int 0, .int 0, .long 0, .ref q2, .ref q3, .ref q4, .int 0, .ref q5])), (q1, zI kA 48), (q2, zI kA 48), (q3, zI kA 12), (q4, zI kA 624), (q5, zI kA 637)]
abbrev GX7_init (l : Launch) (D : va_G) (kA : Nat → ClassId) (sz0 t0 b : Nat) (t : Nat) (u : Nat) (v : Nat) := Gw l D kA sz0 t0 mX7_init 5 1369 [(b, .inr (7, [.null, .null, .null, .null, .int 0, .int 0, .int 0, .long 0, .null, .null, .null, .int 0, .null]))] (pX7_init kA b t u v)
set_option maxRecDepth 20000 in
theorem ci_X7_init {l : Launch} {D : va_G} {kA : Nat → ClassId} {sz0 t0 b t u v : Nat} : CI l D kA sz0 t0 mX7_init 5 1369 [.ref b, .ref t, .ref u, .ref v] [(b, .inr (7, [.null, .null, .null, .null, .int 0, .int 0, .int 0, .long 0, .null, .null, .null, .int 0, .null]))] (pX7_init kA b t u v) := by
  refine CI.of (lo := [some (.ref b), some (.ref t), some (.ref u), some (.ref v)]) (by decide) rfl rfl rfl (Nat.le_of_ble_eq_true rfl) ?_
  refine g_aload dX7_init_0 rfl ?_
  refine g_obj dX7_init_1 (lw_in (i := 216) (by decide +kernel) (by decide +kernel)) w_obj.1 w_obj.2 (by decide) (Nat.le_of_ble_eq_true rfl) ?_
  refine g_aload dX7_init_4 rfl ?_
  refine g_bipush (v := 48) dX7_init_5 (by decide) ?_
  refine g_newI (N := 48) dX7_init_7 (by decide) (by decide) (by decide) (Nat.le_of_ble_eq_true rfl) (Nat.le_of_ble_eq_true rfl) (fun q1 => ?_)
  show GX7_init l D kA sz0 t0 b t u v 9 [some (.ref b), some (.ref t), some (.ref u), some (.ref v)] [.ref q1, .ref b] [(b, .inr (7, [.null, .null, .null, .null, .int 0, .int 0, .int 0, .long 0, .null, .null, .null, .int 0, .null])), (q1, zI kA 48)] 1 48
  refine g_putF (q0 := 0) (k := 3) (T := TX7) (Cc := RX7) (N := 13) (ty0 := tyX7) (ref := "BellTable$Ranges") dX7_init_9 inX7 tyX7_ok nmX7 rfl rfl (by decide) (lw_in (i := 220) (by decide +kernel) (by decide +kernel)) rfl rfl rfl (tyX7_ok 3 (by decide)) rfl rfl (Nat.le_of_ble_eq_true rfl) ?_
  show GX7_init l D kA sz0 t0 b t u v 12 [some (.ref b), some (.ref t), some (.ref u), some (.ref v)] [] [(b, .inr (7, [.null, .null, .null, .ref q1, .int 0, .int 0, .int 0, .long 0, .null, .null, .null, .int 0, .null])), (q1, zI kA 48)] 1 48
  refine g_aload dX7_init_12 rfl ?_
  refine g_bipush (v := 48) dX7_init_13 (by decide) ?_
  refine g_newI (N := 48) dX7_init_15 (by decide) (by decide) (by decide) (Nat.le_of_ble_eq_true rfl) (Nat.le_of_ble_eq_true rfl) (fun q2 => ?_)
  show GX7_init l D kA sz0 t0 b t u v 17 [some (.ref b), some (.ref t), some (.ref u), some (.ref v)] [.ref q2, .ref b] [(b, .inr (7, [.null, .null, .null, .ref q1, .int 0, .int 0, .int 0, .long 0, .null, .null, .null, .int 0, .null])), (q1, zI kA 48), (q2, zI kA 48)] 2 96
  refine g_putF (q0 := 0) (k := 8) (T := TX7) (Cc := RX7) (N := 13) (ty0 := tyX7) (ref := "BellTable$Ranges") dX7_init_17 inX7 tyX7_ok nmX7 rfl rfl (by decide) (lw_in (i := 229) (by decide +kernel) (by decide +kernel)) rfl rfl rfl (tyX7_ok 8 (by decide)) rfl rfl (Nat.le_of_ble_eq_true rfl) ?_
  show GX7_init l D kA sz0 t0 b t u v 20 [some (.ref b), some (.ref t), some (.ref u), some (.ref v)] [] [(b, .inr (7, [.null, .null, .null, .ref q1, .int 0, .int 0, .int 0, .long 0, .ref q2, .null, .null, .int 0, .null])), (q1, zI kA 48), (q2, zI kA 48)] 2 96
  refine g_aload dX7_init_20 rfl ?_
  refine g_bipush (v := 12) dX7_init_21 (by decide) ?_
  refine g_newI (N := 12) dX7_init_23 (by decide) (by decide) (by decide) (Nat.le_of_ble_eq_true rfl) (Nat.le_of_ble_eq_true rfl) (fun q3 => ?_)
  show GX7_init l D kA sz0 t0 b t u v 25 [some (.ref b), some (.ref t), some (.ref u), some (.ref v)] [.ref q3, .ref b] [(b, .inr (7, [.null, .null, .null, .ref q1, .int 0, .int 0, .int 0, .long 0, .ref q2, .null, .null, .int 0, .null])), (q1, zI kA 48), (q2, zI kA 48), (q3, zI kA 12)] 3 108
  refine g_putF (q0 := 0) (k := 9) (T := TX7) (Cc := RX7) (N := 13) (ty0 := tyX7) (ref := "BellTable$Ranges") dX7_init_25 inX7 tyX7_ok nmX7 rfl rfl (by decide) (lw_in (i := 230) (by decide +kernel) (by decide +kernel)) rfl rfl rfl (tyX7_ok 9 (by decide)) rfl rfl (Nat.le_of_ble_eq_true rfl) ?_
  show GX7_init l D kA sz0 t0 b t u v 28 [some (.ref b), some (.ref t), some (.ref u), some (.ref v)] [] [(b, .inr (7, [.null, .null, .null, .ref q1, .int 0, .int 0, .int 0, .long 0, .ref q2, .ref q3, .null, .int 0, .null])), (q1, zI kA 48), (q2, zI kA 48), (q3, zI kA 12)] 3 108
  refine g_aload dX7_init_28 rfl ?_
  refine g_sipush (v := 624) dX7_init_29 (by decide) ?_
  refine g_newI (N := 624) dX7_init_32 (by decide) (by decide) (by decide) (Nat.le_of_ble_eq_true rfl) (Nat.le_of_ble_eq_true rfl) (fun q4 => ?_)
  show GX7_init l D kA sz0 t0 b t u v 34 [some (.ref b), some (.ref t), some (.ref u), some (.ref v)] [.ref q4, .ref b] [(b, .inr (7, [.null, .null, .null, .ref q1, .int 0, .int 0, .int 0, .long 0, .ref q2, .ref q3, .null, .int 0, .null])), (q1, zI kA 48), (q2, zI kA 48), (q3, zI kA 12), (q4, zI kA 624)] 4 732
  refine g_putF (q0 := 0) (k := 10) (T := TX7) (Cc := RX7) (N := 13) (ty0 := tyX7) (ref := "BellTable$Ranges") dX7_init_34 inX7 tyX7_ok nmX7 rfl rfl (by decide) (lw_in (i := 231) (by decide +kernel) (by decide +kernel)) rfl rfl rfl (tyX7_ok 10 (by decide)) rfl rfl (Nat.le_of_ble_eq_true rfl) ?_
  show GX7_init l D kA sz0 t0 b t u v 37 [some (.ref b), some (.ref t), some (.ref u), some (.ref v)] [] [(b, .inr (7, [.null, .null, .null, .ref q1, .int 0, .int 0, .int 0, .long 0, .ref q2, .ref q3, .ref q4, .int 0, .null])), (q1, zI kA 48), (q2, zI kA 48), (q3, zI kA 12), (q4, zI kA 624)] 4 732
  refine g_aload dX7_init_37 rfl ?_
  refine g_sipush (v := 637) dX7_init_38 (by decide) ?_
  refine g_newI (N := 637) dX7_init_41 (by decide) (by decide) (by decide) (Nat.le_of_ble_eq_true rfl) (Nat.le_of_ble_eq_true rfl) (fun q5 => ?_)
  show GX7_init l D kA sz0 t0 b t u v 43 [some (.ref b), some (.ref t), some (.ref u), some (.ref v)] [.ref q5, .ref b] [(b, .inr (7, [.null, .null, .null, .ref q1, .int 0, .int 0, .int 0, .long 0, .ref q2, .ref q3, .ref q4, .int 0, .null])), (q1, zI kA 48), (q2, zI kA 48), (q3, zI kA 12), (q4, zI kA 624), (q5, zI kA 637)] 5 1369
  refine g_putF (q0 := 0) (k := 12) (T := TX7) (Cc := RX7) (N := 13) (ty0 := tyX7) (ref := "BellTable$Ranges") dX7_init_43 inX7 tyX7_ok nmX7 rfl rfl (by decide) (lw_in (i := 233) (by decide +kernel) (by decide +kernel)) rfl rfl rfl (tyX7_ok 12 (by decide)) rfl rfl (Nat.le_of_ble_eq_true rfl) ?_
  show GX7_init l D kA sz0 t0 b t u v 46 [some (.ref b), some (.ref t), some (.ref u), some (.ref v)] [] [(b, .inr (7, [.null, .null, .null, .ref q1, .int 0, .int 0, .int 0, .long 0, .ref q2, .ref q3, .ref q4, .int 0, .ref q5])), (q1, zI kA 48), (q2, zI kA 48), (q3, zI kA 12), (q4, zI kA 624), (q5, zI kA 637)] 5 1369
  refine g_aload dX7_init_46 rfl ?_
  refine g_aload dX7_init_47 rfl ?_
  refine g_putF (q0 := 0) (k := 0) (T := TX7) (Cc := RX7) (N := 13) (ty0 := tyX7) (ref := "BellTable$Ranges") dX7_init_48 inX7 tyX7_ok nmX7 rfl rfl (by decide) (lw_in (i := 217) (by decide +kernel) (by decide +kernel)) rfl rfl rfl (tyX7_ok 0 (by decide)) rfl rfl (Nat.le_of_ble_eq_true rfl) ?_
  show GX7_init l D kA sz0 t0 b t u v 51 [some (.ref b), some (.ref t), some (.ref u), some (.ref v)] [] [(b, .inr (7, [.ref t, .null, .null, .ref q1, .int 0, .int 0, .int 0, .long 0, .ref q2, .ref q3, .ref q4, .int 0, .ref q5])), (q1, zI kA 48), (q2, zI kA 48), (q3, zI kA 12), (q4, zI kA 624), (q5, zI kA 637)] 5 1369
  refine g_aload dX7_init_51 rfl ?_
  refine g_aload dX7_init_52 rfl ?_
  refine g_putF (q0 := 0) (k := 1) (T := TX7) (Cc := RX7) (N := 13) (ty0 := tyX7) (ref := "BellTable$Ranges") dX7_init_53 inX7 tyX7_ok nmX7 rfl rfl (by decide) (lw_in (i := 218) (by decide +kernel) (by decide +kernel)) rfl rfl rfl (tyX7_ok 1 (by decide)) rfl rfl (Nat.le_of_ble_eq_true rfl) ?_
  show GX7_init l D kA sz0 t0 b t u v 56 [some (.ref b), some (.ref t), some (.ref u), some (.ref v)] [] [(b, .inr (7, [.ref t, .ref u, .null, .ref q1, .int 0, .int 0, .int 0, .long 0, .ref q2, .ref q3, .ref q4, .int 0, .ref q5])), (q1, zI kA 48), (q2, zI kA 48), (q3, zI kA 12), (q4, zI kA 624), (q5, zI kA 637)] 5 1369
  refine g_aload dX7_init_56 rfl ?_
  refine g_aload dX7_init_57 rfl ?_
  refine g_putF (q0 := 0) (k := 2) (T := TX7) (Cc := RX7) (N := 13) (ty0 := tyX7) (ref := "BellTable$Ranges") dX7_init_58 inX7 tyX7_ok nmX7 rfl rfl (by decide) (lw_in (i := 219) (by decide +kernel) (by decide +kernel)) rfl rfl rfl (tyX7_ok 2 (by decide)) rfl rfl (Nat.le_of_ble_eq_true rfl) ?_
  show GX7_init l D kA sz0 t0 b t u v 61 [some (.ref b), some (.ref t), some (.ref u), some (.ref v)] [] [(b, .inr (7, [.ref t, .ref u, .ref v, .ref q1, .int 0, .int 0, .int 0, .long 0, .ref q2, .ref q3, .ref q4, .int 0, .ref q5])), (q1, zI kA 48), (q2, zI kA 48), (q3, zI kA 12), (q4, zI kA 624), (q5, zI kA 637)] 5 1369
  exact g_ret dX7_init_61 ⟨q1, q2, q3, q4, q5, rfl⟩ rfl rfl
theorem dX4_init_0 : decode cX4_init 0 = .ok (.aload_n 0, 1) := by decide +kernel
theorem dX4_init_1 : decode cX4_init 1 = .ok (.invokespecial 3, 3) := by decide +kernel
theorem dX4_init_4 : decode cX4_init 4 = .ok (.aload_n 0, 1) := by decide +kernel
theorem dX4_init_5 : decode cX4_init 5 = .ok (.iconst (-1), 1) := by decide +kernel
theorem dX4_init_6 : decode cX4_init 6 = .ok (.putfield 9, 3) := by decide +kernel
theorem dX4_init_9 : decode cX4_init 9 = .ok (.aload_n 0, 1) := by decide +kernel
theorem dX4_init_10 : decode cX4_init 10 = .ok (.iconst (-1), 1) := by decide +kernel
theorem dX4_init_11 : decode cX4_init 11 = .ok (.putfield 15, 3) := by decide +kernel
theorem dX4_init_14 : decode cX4_init 14 = .ok (.aload_n 0, 1) := by decide +kernel
theorem dX4_init_15 : decode cX4_init 15 = .ok (.sipush 160, 3) := by decide +kernel
theorem dX4_init_18 : decode cX4_init 18 = .ok (.newarray .int, 2) := by decide +kernel
theorem dX4_init_20 : decode cX4_init 20 = .ok (.putfield 18, 3) := by decide +kernel
theorem dX4_init_23 : decode cX4_init 23 = .ok (.aload_n 0, 1) := by decide +kernel
theorem dX4_init_24 : decode cX4_init 24 = .ok (.sipush 160, 3) := by decide +kernel
theorem dX4_init_27 : decode cX4_init 27 = .ok (.newarray .int, 2) := by decide +kernel
theorem dX4_init_29 : decode cX4_init 29 = .ok (.putfield 22, 3) := by decide +kernel
theorem dX4_init_32 : decode cX4_init 32 = .ok (.aload_n 0, 1) := by decide +kernel
theorem dX4_init_33 : decode cX4_init 33 = .ok (.sipush 160, 3) := by decide +kernel
theorem dX4_init_36 : decode cX4_init 36 = .ok (.newarray .int, 2) := by decide +kernel
theorem dX4_init_38 : decode cX4_init 38 = .ok (.putfield 25, 3) := by decide +kernel
theorem dX4_init_41 : decode cX4_init 41 = .ok (.aload_n 0, 1) := by decide +kernel
theorem dX4_init_42 : decode cX4_init 42 = .ok (.aload_n 1, 1) := by decide +kernel
theorem dX4_init_43 : decode cX4_init 43 = .ok (.putfield 28, 3) := by decide +kernel
theorem dX4_init_46 : decode cX4_init 46 = .ok (.aload_n 0, 1) := by decide +kernel
theorem dX4_init_47 : decode cX4_init 47 = .ok (.aload_n 2, 1) := by decide +kernel
theorem dX4_init_48 : decode cX4_init 48 = .ok (.putfield 32, 3) := by decide +kernel
theorem dX4_init_51 : decode cX4_init 51 = .ok (.aload_n 0, 1) := by decide +kernel
theorem dX4_init_52 : decode cX4_init 52 = .ok (.aload_n 3, 1) := by decide +kernel
theorem dX4_init_53 : decode cX4_init 53 = .ok (.putfield 36, 3) := by decide +kernel
theorem dX4_init_56 : decode cX4_init 56 = .ok (.return_, 1) := by decide +kernel
abbrev mX4_init : MI := (yX4_init, cX4_init, 4, none, 1, 40, [])
def pX4_init (kA : Nat → ClassId) (b : Nat) (t : Nat) (u : Nat) (v : Nat) (w : va_W) : Prop := ∃ q1 q2 q3 : Nat, w = [(b, .inr (4, [.ref t, .ref u, .ref v, .int (-1), .int (-1), .ref q1, .ref q2, .ref q3, .int 0])), (q1, zI kA 160), (q2, zI kA 160), (q3, zI kA 160)]
abbrev GX4_init (l : Launch) (D : va_G) (kA : Nat → ClassId) (sz0 t0 b : Nat) (t : Nat) (u : Nat) (v : Nat) := Gw l D kA sz0 t0 mX4_init 3 480 [(b, .inr (4, [.null, .null, .null, .int 0, .int 0, .null, .null, .null, .int 0]))] (pX4_init kA b t u v)
set_option maxRecDepth 20000 in
theorem ci_X4_init {l : Launch} {D : va_G} {kA : Nat → ClassId} {sz0 t0 b t u v : Nat} : CI l D kA sz0 t0 mX4_init 3 480 [.ref b, .ref t, .ref u, .ref v] [(b, .inr (4, [.null, .null, .null, .int 0, .int 0, .null, .null, .null, .int 0]))] (pX4_init kA b t u v) := by
  refine CI.of (lo := [some (.ref b), some (.ref t), some (.ref u), some (.ref v)]) (by decide) rfl rfl rfl (Nat.le_of_ble_eq_true rfl) ?_
  refine g_aload dX4_init_0 rfl ?_
  refine g_obj dX4_init_1 (lw_in (i := 266) (by decide +kernel) (by decide +kernel)) w_obj.1 w_obj.2 (by decide) (Nat.le_of_ble_eq_true rfl) ?_
  refine g_aload dX4_init_4 rfl ?_
  refine g_iconst (v := (-1)) dX4_init_5 (by decide) ?_
  refine g_put (q0 := 0) (k := 3) (T := TX4) (Cc := RX4) (N := 9) (ty0 := tyX4) (ref := "BellTable$Helping") dX4_init_6 inX4 tyX4_ok nmX4 rfl rfl (by decide) (lw_in (i := 270) (by decide +kernel) (by decide +kernel)) rfl rfl (tyX4_ok 3 (by decide)) rfl rfl (Nat.le_of_ble_eq_true rfl) ?_
  show GX4_init l D kA sz0 t0 b t u v 9 [some (.ref b), some (.ref t), some (.ref u), some (.ref v)] [] [(b, .inr (4, [.null, .null, .null, .int (-1), .int 0, .null, .null, .null, .int 0]))] 0 0
  refine g_aload dX4_init_9 rfl ?_
  refine g_iconst (v := (-1)) dX4_init_10 (by decide) ?_
  refine g_put (q0 := 0) (k := 4) (T := TX4) (Cc := RX4) (N := 9) (ty0 := tyX4) (ref := "BellTable$Helping") dX4_init_11 inX4 tyX4_ok nmX4 rfl rfl (by decide) (lw_in (i := 272) (by decide +kernel) (by decide +kernel)) rfl rfl (tyX4_ok 4 (by decide)) rfl rfl (Nat.le_of_ble_eq_true rfl) ?_
  show GX4_init l D kA sz0 t0 b t u v 14 [some (.ref b), some (.ref t), some (.ref u), some (.ref v)] [] [(b, .inr (4, [.null, .null, .null, .int (-1), .int (-1), .null, .null, .null, .int 0]))] 0 0
  refine g_aload dX4_init_14 rfl ?_
  refine g_sipush (v := 160) dX4_init_15 (by decide) ?_
  refine g_newI (N := 160) dX4_init_18 (by decide) (by decide) (by decide) (Nat.le_of_ble_eq_true rfl) (Nat.le_of_ble_eq_true rfl) (fun q1 => ?_)
  show GX4_init l D kA sz0 t0 b t u v 20 [some (.ref b), some (.ref t), some (.ref u), some (.ref v)] [.ref q1, .ref b] [(b, .inr (4, [.null, .null, .null, .int (-1), .int (-1), .null, .null, .null, .int 0])), (q1, zI kA 160)] 1 160
  refine g_putF (q0 := 0) (k := 5) (T := TX4) (Cc := RX4) (N := 9) (ty0 := tyX4) (ref := "BellTable$Helping") dX4_init_20 inX4 tyX4_ok nmX4 rfl rfl (by decide) (lw_in (i := 274) (by decide +kernel) (by decide +kernel)) rfl rfl rfl (tyX4_ok 5 (by decide)) rfl rfl (Nat.le_of_ble_eq_true rfl) ?_
  show GX4_init l D kA sz0 t0 b t u v 23 [some (.ref b), some (.ref t), some (.ref u), some (.ref v)] [] [(b, .inr (4, [.null, .null, .null, .int (-1), .int (-1), .ref q1, .null, .null, .int 0])), (q1, zI kA 160)] 1 160
  refine g_aload dX4_init_23 rfl ?_
  refine g_sipush (v := 160) dX4_init_24 (by decide) ?_
  refine g_newI (N := 160) dX4_init_27 (by decide) (by decide) (by decide) (Nat.le_of_ble_eq_true rfl) (Nat.le_of_ble_eq_true rfl) (fun q2 => ?_)
  show GX4_init l D kA sz0 t0 b t u v 29 [some (.ref b), some (.ref t), some (.ref u), some (.ref v)] [.ref q2, .ref b] [(b, .inr (4, [.null, .null, .null, .int (-1), .int (-1), .ref q1, .null, .null, .int 0])), (q1, zI kA 160), (q2, zI kA 160)] 2 320
  refine g_putF (q0 := 0) (k := 6) (T := TX4) (Cc := RX4) (N := 9) (ty0 := tyX4) (ref := "BellTable$Helping") dX4_init_29 inX4 tyX4_ok nmX4 rfl rfl (by decide) (lw_in (i := 275) (by decide +kernel) (by decide +kernel)) rfl rfl rfl (tyX4_ok 6 (by decide)) rfl rfl (Nat.le_of_ble_eq_true rfl) ?_
  show GX4_init l D kA sz0 t0 b t u v 32 [some (.ref b), some (.ref t), some (.ref u), some (.ref v)] [] [(b, .inr (4, [.null, .null, .null, .int (-1), .int (-1), .ref q1, .ref q2, .null, .int 0])), (q1, zI kA 160), (q2, zI kA 160)] 2 320
  refine g_aload dX4_init_32 rfl ?_
  refine g_sipush (v := 160) dX4_init_33 (by decide) ?_
  refine g_newI (N := 160) dX4_init_36 (by decide) (by decide) (by decide) (Nat.le_of_ble_eq_true rfl) (Nat.le_of_ble_eq_true rfl) (fun q3 => ?_)
  show GX4_init l D kA sz0 t0 b t u v 38 [some (.ref b), some (.ref t), some (.ref u), some (.ref v)] [.ref q3, .ref b] [(b, .inr (4, [.null, .null, .null, .int (-1), .int (-1), .ref q1, .ref q2, .null, .int 0])), (q1, zI kA 160), (q2, zI kA 160), (q3, zI kA 160)] 3 480
  refine g_putF (q0 := 0) (k := 7) (T := TX4) (Cc := RX4) (N := 9) (ty0 := tyX4) (ref := "BellTable$Helping") dX4_init_38 inX4 tyX4_ok nmX4 rfl rfl (by decide) (lw_in (i := 276) (by decide +kernel) (by decide +kernel)) rfl rfl rfl (tyX4_ok 7 (by decide)) rfl rfl (Nat.le_of_ble_eq_true rfl) ?_
  show GX4_init l D kA sz0 t0 b t u v 41 [some (.ref b), some (.ref t), some (.ref u), some (.ref v)] [] [(b, .inr (4, [.null, .null, .null, .int (-1), .int (-1), .ref q1, .ref q2, .ref q3, .int 0])), (q1, zI kA 160), (q2, zI kA 160), (q3, zI kA 160)] 3 480
  refine g_aload dX4_init_41 rfl ?_
  refine g_aload dX4_init_42 rfl ?_
  refine g_putF (q0 := 0) (k := 0) (T := TX4) (Cc := RX4) (N := 9) (ty0 := tyX4) (ref := "BellTable$Helping") dX4_init_43 inX4 tyX4_ok nmX4 rfl rfl (by decide) (lw_in (i := 267) (by decide +kernel) (by decide +kernel)) rfl rfl rfl (tyX4_ok 0 (by decide)) rfl rfl (Nat.le_of_ble_eq_true rfl) ?_
  show GX4_init l D kA sz0 t0 b t u v 46 [some (.ref b), some (.ref t), some (.ref u), some (.ref v)] [] [(b, .inr (4, [.ref t, .null, .null, .int (-1), .int (-1), .ref q1, .ref q2, .ref q3, .int 0])), (q1, zI kA 160), (q2, zI kA 160), (q3, zI kA 160)] 3 480
  refine g_aload dX4_init_46 rfl ?_
  refine g_aload dX4_init_47 rfl ?_
  refine g_putF (q0 := 0) (k := 1) (T := TX4) (Cc := RX4) (N := 9) (ty0 := tyX4) (ref := "BellTable$Helping") dX4_init_48 inX4 tyX4_ok nmX4 rfl rfl (by decide) (lw_in (i := 268) (by decide +kernel) (by decide +kernel)) rfl rfl rfl (tyX4_ok 1 (by decide)) rfl rfl (Nat.le_of_ble_eq_true rfl) ?_
  show GX4_init l D kA sz0 t0 b t u v 51 [some (.ref b), some (.ref t), some (.ref u), some (.ref v)] [] [(b, .inr (4, [.ref t, .ref u, .null, .int (-1), .int (-1), .ref q1, .ref q2, .ref q3, .int 0])), (q1, zI kA 160), (q2, zI kA 160), (q3, zI kA 160)] 3 480
  refine g_aload dX4_init_51 rfl ?_
  refine g_aload dX4_init_52 rfl ?_
  refine g_putF (q0 := 0) (k := 2) (T := TX4) (Cc := RX4) (N := 9) (ty0 := tyX4) (ref := "BellTable$Helping") dX4_init_53 inX4 tyX4_ok nmX4 rfl rfl (by decide) (lw_in (i := 269) (by decide +kernel) (by decide +kernel)) rfl rfl rfl (tyX4_ok 2 (by decide)) rfl rfl (Nat.le_of_ble_eq_true rfl) ?_
  show GX4_init l D kA sz0 t0 b t u v 56 [some (.ref b), some (.ref t), some (.ref u), some (.ref v)] [] [(b, .inr (4, [.ref t, .ref u, .ref v, .int (-1), .int (-1), .ref q1, .ref q2, .ref q3, .int 0])), (q1, zI kA 160), (q2, zI kA 160), (q3, zI kA 160)] 3 480
  exact g_ret dX4_init_56 ⟨q1, q2, q3, rfl⟩ rfl rfl
theorem dX8_init_0 : decode cX8_init 0 = .ok (.aload_n 0, 1) := by decide +kernel
theorem dX8_init_1 : decode cX8_init 1 = .ok (.invokespecial 3, 3) := by decide +kernel
theorem dX8_init_4 : decode cX8_init 4 = .ok (.aload_n 0, 1) := by decide +kernel
theorem dX8_init_5 : decode cX8_init 5 = .ok (.sipush 160, 3) := by decide +kernel
theorem dX8_init_8 : decode cX8_init 8 = .ok (.newarray .int, 2) := by decide +kernel
theorem dX8_init_10 : decode cX8_init 10 = .ok (.putfield 9, 3) := by decide +kernel
theorem dX8_init_13 : decode cX8_init 13 = .ok (.aload_n 0, 1) := by decide +kernel
theorem dX8_init_14 : decode cX8_init 14 = .ok (.iconst (-1), 1) := by decide +kernel
theorem dX8_init_15 : decode cX8_init 15 = .ok (.putfield 15, 3) := by decide +kernel
theorem dX8_init_18 : decode cX8_init 18 = .ok (.aload_n 0, 1) := by decide +kernel
theorem dX8_init_19 : decode cX8_init 19 = .ok (.iconst (-1), 1) := by decide +kernel
theorem dX8_init_20 : decode cX8_init 20 = .ok (.putfield 19, 3) := by decide +kernel
theorem dX8_init_23 : decode cX8_init 23 = .ok (.aload_n 0, 1) := by decide +kernel
theorem dX8_init_24 : decode cX8_init 24 = .ok (.bipush 48, 2) := by decide +kernel
theorem dX8_init_26 : decode cX8_init 26 = .ok (.newarray .int, 2) := by decide +kernel
theorem dX8_init_28 : decode cX8_init 28 = .ok (.putfield 22, 3) := by decide +kernel
theorem dX8_init_31 : decode cX8_init 31 = .ok (.aload_n 0, 1) := by decide +kernel
theorem dX8_init_32 : decode cX8_init 32 = .ok (.aload_n 1, 1) := by decide +kernel
theorem dX8_init_33 : decode cX8_init 33 = .ok (.putfield 25, 3) := by decide +kernel
theorem dX8_init_36 : decode cX8_init 36 = .ok (.return_, 1) := by decide +kernel
abbrev mX8_init : MI := (yX8_init, cX8_init, 2, none, 1, 40, [])
def pX8_init (kA : Nat → ClassId) (b : Nat) (t : Nat) (w : va_W) : Prop := ∃ q1 q2 : Nat, w = [(b, .inr (8, [.ref t, .ref q1, .int (-1), .int (-1), .ref q2])), (q1, zI kA 160), (q2, zI kA 48)]
abbrev GX8_init (l : Launch) (D : va_G) (kA : Nat → ClassId) (sz0 t0 b : Nat) (t : Nat) := Gw l D kA sz0 t0 mX8_init 2 208 [(b, .inr (8, [.null, .null, .int 0, .int 0, .null]))] (pX8_init kA b t)
set_option maxRecDepth 20000 in
theorem ci_X8_init {l : Launch} {D : va_G} {kA : Nat → ClassId} {sz0 t0 b t : Nat} : CI l D kA sz0 t0 mX8_init 2 208 [.ref b, .ref t] [(b, .inr (8, [.null, .null, .int 0, .int 0, .null]))] (pX8_init kA b t) := by
  refine CI.of (lo := [some (.ref b), some (.ref t)]) (by decide) rfl rfl rfl (Nat.le_of_ble_eq_true rfl) ?_
  refine g_aload dX8_init_0 rfl ?_
  refine g_obj dX8_init_1 (lw_in (i := 302) (by decide +kernel) (by decide +kernel)) w_obj.1 w_obj.2 (by decide) (Nat.le_of_ble_eq_true rfl) ?_
  refine g_aload dX8_init_4 rfl ?_
  refine g_sipush (v := 160) dX8_init_5 (by decide) ?_
  refine g_newI (N := 160) dX8_init_8 (by decide) (by decide) (by decide) (Nat.le_of_ble_eq_true rfl) (Nat.le_of_ble_eq_true rfl) (fun q1 => ?_)
  show GX8_init l D kA sz0 t0 b t 10 [some (.ref b), some (.ref t)] [.ref q1, .ref b] [(b, .inr (8, [.null, .null, .int 0, .int 0, .null])), (q1, zI kA 160)] 1 160
  refine g_putF (q0 := 0) (k := 1) (T := TX8) (Cc := RX8) (N := 5) (ty0 := tyX8) (ref := "BellTable$Sound") dX8_init_10 inX8 tyX8_ok nmX8 rfl rfl (by decide) (lw_in (i := 304) (by decide +kernel) (by decide +kernel)) rfl rfl rfl (tyX8_ok 1 (by decide)) rfl rfl (Nat.le_of_ble_eq_true rfl) ?_
  show GX8_init l D kA sz0 t0 b t 13 [some (.ref b), some (.ref t)] [] [(b, .inr (8, [.null, .ref q1, .int 0, .int 0, .null])), (q1, zI kA 160)] 1 160
  refine g_aload dX8_init_13 rfl ?_
  refine g_iconst (v := (-1)) dX8_init_14 (by decide) ?_
  refine g_put (q0 := 0) (k := 2) (T := TX8) (Cc := RX8) (N := 5) (ty0 := tyX8) (ref := "BellTable$Sound") dX8_init_15 inX8 tyX8_ok nmX8 rfl rfl (by decide) (lw_in (i := 306) (by decide +kernel) (by decide +kernel)) rfl rfl (tyX8_ok 2 (by decide)) rfl rfl (Nat.le_of_ble_eq_true rfl) ?_
  show GX8_init l D kA sz0 t0 b t 18 [some (.ref b), some (.ref t)] [] [(b, .inr (8, [.null, .ref q1, .int (-1), .int 0, .null])), (q1, zI kA 160)] 1 160
  refine g_aload dX8_init_18 rfl ?_
  refine g_iconst (v := (-1)) dX8_init_19 (by decide) ?_
  refine g_put (q0 := 0) (k := 3) (T := TX8) (Cc := RX8) (N := 5) (ty0 := tyX8) (ref := "BellTable$Sound") dX8_init_20 inX8 tyX8_ok nmX8 rfl rfl (by decide) (lw_in (i := 308) (by decide +kernel) (by decide +kernel)) rfl rfl (tyX8_ok 3 (by decide)) rfl rfl (Nat.le_of_ble_eq_true rfl) ?_
  show GX8_init l D kA sz0 t0 b t 23 [some (.ref b), some (.ref t)] [] [(b, .inr (8, [.null, .ref q1, .int (-1), .int (-1), .null])), (q1, zI kA 160)] 1 160
  refine g_aload dX8_init_23 rfl ?_
  refine g_bipush (v := 48) dX8_init_24 (by decide) ?_
  refine g_newI (N := 48) dX8_init_26 (by decide) (by decide) (by decide) (Nat.le_of_ble_eq_true rfl) (Nat.le_of_ble_eq_true rfl) (fun q2 => ?_)
  show GX8_init l D kA sz0 t0 b t 28 [some (.ref b), some (.ref t)] [.ref q2, .ref b] [(b, .inr (8, [.null, .ref q1, .int (-1), .int (-1), .null])), (q1, zI kA 160), (q2, zI kA 48)] 2 208
  refine g_putF (q0 := 0) (k := 4) (T := TX8) (Cc := RX8) (N := 5) (ty0 := tyX8) (ref := "BellTable$Sound") dX8_init_28 inX8 tyX8_ok nmX8 rfl rfl (by decide) (lw_in (i := 310) (by decide +kernel) (by decide +kernel)) rfl rfl rfl (tyX8_ok 4 (by decide)) rfl rfl (Nat.le_of_ble_eq_true rfl) ?_
  show GX8_init l D kA sz0 t0 b t 31 [some (.ref b), some (.ref t)] [] [(b, .inr (8, [.null, .ref q1, .int (-1), .int (-1), .ref q2])), (q1, zI kA 160), (q2, zI kA 48)] 2 208
  refine g_aload dX8_init_31 rfl ?_
  refine g_aload dX8_init_32 rfl ?_
  refine g_putF (q0 := 0) (k := 0) (T := TX8) (Cc := RX8) (N := 5) (ty0 := tyX8) (ref := "BellTable$Sound") dX8_init_33 inX8 tyX8_ok nmX8 rfl rfl (by decide) (lw_in (i := 303) (by decide +kernel) (by decide +kernel)) rfl rfl rfl (tyX8_ok 0 (by decide)) rfl rfl (Nat.le_of_ble_eq_true rfl) ?_
  show GX8_init l D kA sz0 t0 b t 36 [some (.ref b), some (.ref t)] [] [(b, .inr (8, [.ref t, .ref q1, .int (-1), .int (-1), .ref q2])), (q1, zI kA 160), (q2, zI kA 48)] 2 208
  exact g_ret dX8_init_36 ⟨q1, q2, rfl⟩ rfl rfl
theorem dX2_init_0 : decode cX2_init 0 = .ok (.aload_n 0, 1) := by decide +kernel
theorem dX2_init_1 : decode cX2_init 1 = .ok (.invokespecial 3, 3) := by decide +kernel
theorem dX2_init_4 : decode cX2_init 4 = .ok (.aload_n 0, 1) := by decide +kernel
theorem dX2_init_5 : decode cX2_init 5 = .ok (.bipush 60, 2) := by decide +kernel
theorem dX2_init_7 : decode cX2_init 7 = .ok (.newarray .int, 2) := by decide +kernel
theorem dX2_init_9 : decode cX2_init 9 = .ok (.putfield 9, 3) := by decide +kernel
theorem dX2_init_12 : decode cX2_init 12 = .ok (.aload_n 0, 1) := by decide +kernel
theorem dX2_init_13 : decode cX2_init 13 = .ok (.bipush 60, 2) := by decide +kernel
theorem dX2_init_15 : decode cX2_init 15 = .ok (.newarray .int, 2) := by decide +kernel
theorem dX2_init_17 : decode cX2_init 17 = .ok (.putfield 15, 3) := by decide +kernel
theorem dX2_init_20 : decode cX2_init 20 = .ok (.aload_n 0, 1) := by decide +kernel
theorem dX2_init_21 : decode cX2_init 21 = .ok (.bipush 60, 2) := by decide +kernel
theorem dX2_init_23 : decode cX2_init 23 = .ok (.newarray .int, 2) := by decide +kernel
theorem dX2_init_25 : decode cX2_init 25 = .ok (.putfield 18, 3) := by decide +kernel
theorem dX2_init_28 : decode cX2_init 28 = .ok (.aload_n 0, 1) := by decide +kernel
theorem dX2_init_29 : decode cX2_init 29 = .ok (.bipush 60, 2) := by decide +kernel
theorem dX2_init_31 : decode cX2_init 31 = .ok (.newarray .int, 2) := by decide +kernel
theorem dX2_init_33 : decode cX2_init 33 = .ok (.putfield 21, 3) := by decide +kernel
theorem dX2_init_36 : decode cX2_init 36 = .ok (.aload_n 0, 1) := by decide +kernel
theorem dX2_init_37 : decode cX2_init 37 = .ok (.bipush 60, 2) := by decide +kernel
theorem dX2_init_39 : decode cX2_init 39 = .ok (.newarray .int, 2) := by decide +kernel
theorem dX2_init_41 : decode cX2_init 41 = .ok (.putfield 24, 3) := by decide +kernel
theorem dX2_init_44 : decode cX2_init 44 = .ok (.aload_n 0, 1) := by decide +kernel
theorem dX2_init_45 : decode cX2_init 45 = .ok (.bipush 60, 2) := by decide +kernel
theorem dX2_init_47 : decode cX2_init 47 = .ok (.newarray .int, 2) := by decide +kernel
theorem dX2_init_49 : decode cX2_init 49 = .ok (.putfield 27, 3) := by decide +kernel
theorem dX2_init_52 : decode cX2_init 52 = .ok (.aload_n 0, 1) := by decide +kernel
theorem dX2_init_53 : decode cX2_init 53 = .ok (.bipush 48, 2) := by decide +kernel
theorem dX2_init_55 : decode cX2_init 55 = .ok (.newarray .boolean, 2) := by decide +kernel
theorem dX2_init_57 : decode cX2_init 57 = .ok (.putfield 30, 3) := by decide +kernel
theorem dX2_init_60 : decode cX2_init 60 = .ok (.aload_n 0, 1) := by decide +kernel
theorem dX2_init_61 : decode cX2_init 61 = .ok (.aload_n 1, 1) := by decide +kernel
theorem dX2_init_62 : decode cX2_init 62 = .ok (.putfield 34, 3) := by decide +kernel
theorem dX2_init_65 : decode cX2_init 65 = .ok (.return_, 1) := by decide +kernel
abbrev mX2_init : MI := (yX2_init, cX2_init, 2, none, 1, 40, [])
def pX2_init (kA : Nat → ClassId) (b : Nat) (t : Nat) (w : va_W) : Prop := ∃ q1 q2 q3 q4 q5 q6 q7 : Nat, w = [(b, .inr (2, [.ref t, .int 0, .int 0, .int 0, .int 0, .int 0, .int 0, .ref q1, .ref q2, .ref q3, .ref q4, .ref q5, .ref q6, .ref q7])), (q1, zI kA 60), (q2, zI kA 60), (q3, zI kA 60), (q4, zI kA 60), (q5, zI kA 60), (q6, zI kA 60), (q7, zZ kA 48)]
abbrev GX2_init (l : Launch) (D : va_G) (kA : Nat → ClassId) (sz0 t0 b : Nat) (t : Nat) := Gw l D kA sz0 t0 mX2_init 7 408 [(b, .inr (2, [.null, .int 0, .int 0, .int 0, .int 0, .int 0, .int 0, .null, .null, .null, .null, .null, .null, .null]))] (pX2_init kA b t)
set_option maxRecDepth 20000 in
theorem ci_X2_init {l : Launch} {D : va_G} {kA : Nat → ClassId} {sz0 t0 b t : Nat} : CI l D kA sz0 t0 mX2_init 7 408 [.ref b, .ref t] [(b, .inr (2, [.null, .int 0, .int 0, .int 0, .int 0, .int 0, .int 0, .null, .null, .null, .null, .null, .null, .null]))] (pX2_init kA b t) := by
  refine CI.of (lo := [some (.ref b), some (.ref t)]) (by decide) rfl rfl rfl (Nat.le_of_ble_eq_true rfl) ?_
  refine g_aload dX2_init_0 rfl ?_
  refine g_obj dX2_init_1 (lw_in (i := 376) (by decide +kernel) (by decide +kernel)) w_obj.1 w_obj.2 (by decide) (Nat.le_of_ble_eq_true rfl) ?_
  refine g_aload dX2_init_4 rfl ?_
  refine g_bipush (v := 60) dX2_init_5 (by decide) ?_
  refine g_newI (N := 60) dX2_init_7 (by decide) (by decide) (by decide) (Nat.le_of_ble_eq_true rfl) (Nat.le_of_ble_eq_true rfl) (fun q1 => ?_)
  show GX2_init l D kA sz0 t0 b t 9 [some (.ref b), some (.ref t)] [.ref q1, .ref b] [(b, .inr (2, [.null, .int 0, .int 0, .int 0, .int 0, .int 0, .int 0, .null, .null, .null, .null, .null, .null, .null])), (q1, zI kA 60)] 1 60
  refine g_putF (q0 := 0) (k := 7) (T := TX2) (Cc := RX2) (N := 14) (ty0 := tyX2) (ref := "BellTable$Days") dX2_init_9 inX2 tyX2_ok nmX2 rfl rfl (by decide) (lw_in (i := 390) (by decide +kernel) (by decide +kernel)) rfl rfl rfl (tyX2_ok 7 (by decide)) rfl rfl (Nat.le_of_ble_eq_true rfl) ?_
  show GX2_init l D kA sz0 t0 b t 12 [some (.ref b), some (.ref t)] [] [(b, .inr (2, [.null, .int 0, .int 0, .int 0, .int 0, .int 0, .int 0, .ref q1, .null, .null, .null, .null, .null, .null])), (q1, zI kA 60)] 1 60
  refine g_aload dX2_init_12 rfl ?_
  refine g_bipush (v := 60) dX2_init_13 (by decide) ?_
  refine g_newI (N := 60) dX2_init_15 (by decide) (by decide) (by decide) (Nat.le_of_ble_eq_true rfl) (Nat.le_of_ble_eq_true rfl) (fun q2 => ?_)
  show GX2_init l D kA sz0 t0 b t 17 [some (.ref b), some (.ref t)] [.ref q2, .ref b] [(b, .inr (2, [.null, .int 0, .int 0, .int 0, .int 0, .int 0, .int 0, .ref q1, .null, .null, .null, .null, .null, .null])), (q1, zI kA 60), (q2, zI kA 60)] 2 120
  refine g_putF (q0 := 0) (k := 8) (T := TX2) (Cc := RX2) (N := 14) (ty0 := tyX2) (ref := "BellTable$Days") dX2_init_17 inX2 tyX2_ok nmX2 rfl rfl (by decide) (lw_in (i := 391) (by decide +kernel) (by decide +kernel)) rfl rfl rfl (tyX2_ok 8 (by decide)) rfl rfl (Nat.le_of_ble_eq_true rfl) ?_
  show GX2_init l D kA sz0 t0 b t 20 [some (.ref b), some (.ref t)] [] [(b, .inr (2, [.null, .int 0, .int 0, .int 0, .int 0, .int 0, .int 0, .ref q1, .ref q2, .null, .null, .null, .null, .null])), (q1, zI kA 60), (q2, zI kA 60)] 2 120
  refine g_aload dX2_init_20 rfl ?_
  refine g_bipush (v := 60) dX2_init_21 (by decide) ?_
  refine g_newI (N := 60) dX2_init_23 (by decide) (by decide) (by decide) (Nat.le_of_ble_eq_true rfl) (Nat.le_of_ble_eq_true rfl) (fun q3 => ?_)
  show GX2_init l D kA sz0 t0 b t 25 [some (.ref b), some (.ref t)] [.ref q3, .ref b] [(b, .inr (2, [.null, .int 0, .int 0, .int 0, .int 0, .int 0, .int 0, .ref q1, .ref q2, .null, .null, .null, .null, .null])), (q1, zI kA 60), (q2, zI kA 60), (q3, zI kA 60)] 3 180
  refine g_putF (q0 := 0) (k := 9) (T := TX2) (Cc := RX2) (N := 14) (ty0 := tyX2) (ref := "BellTable$Days") dX2_init_25 inX2 tyX2_ok nmX2 rfl rfl (by decide) (lw_in (i := 392) (by decide +kernel) (by decide +kernel)) rfl rfl rfl (tyX2_ok 9 (by decide)) rfl rfl (Nat.le_of_ble_eq_true rfl) ?_
  show GX2_init l D kA sz0 t0 b t 28 [some (.ref b), some (.ref t)] [] [(b, .inr (2, [.null, .int 0, .int 0, .int 0, .int 0, .int 0, .int 0, .ref q1, .ref q2, .ref q3, .null, .null, .null, .null])), (q1, zI kA 60), (q2, zI kA 60), (q3, zI kA 60)] 3 180
  refine g_aload dX2_init_28 rfl ?_
  refine g_bipush (v := 60) dX2_init_29 (by decide) ?_
  refine g_newI (N := 60) dX2_init_31 (by decide) (by decide) (by decide) (Nat.le_of_ble_eq_true rfl) (Nat.le_of_ble_eq_true rfl) (fun q4 => ?_)
  show GX2_init l D kA sz0 t0 b t 33 [some (.ref b), some (.ref t)] [.ref q4, .ref b] [(b, .inr (2, [.null, .int 0, .int 0, .int 0, .int 0, .int 0, .int 0, .ref q1, .ref q2, .ref q3, .null, .null, .null, .null])), (q1, zI kA 60), (q2, zI kA 60), (q3, zI kA 60), (q4, zI kA 60)] 4 240
  refine g_putF (q0 := 0) (k := 10) (T := TX2) (Cc := RX2) (N := 14) (ty0 := tyX2) (ref := "BellTable$Days") dX2_init_33 inX2 tyX2_ok nmX2 rfl rfl (by decide) (lw_in (i := 393) (by decide +kernel) (by decide +kernel)) rfl rfl rfl (tyX2_ok 10 (by decide)) rfl rfl (Nat.le_of_ble_eq_true rfl) ?_
  show GX2_init l D kA sz0 t0 b t 36 [some (.ref b), some (.ref t)] [] [(b, .inr (2, [.null, .int 0, .int 0, .int 0, .int 0, .int 0, .int 0, .ref q1, .ref q2, .ref q3, .ref q4, .null, .null, .null])), (q1, zI kA 60), (q2, zI kA 60), (q3, zI kA 60), (q4, zI kA 60)] 4 240
  refine g_aload dX2_init_36 rfl ?_
  refine g_bipush (v := 60) dX2_init_37 (by decide) ?_
  refine g_newI (N := 60) dX2_init_39 (by decide) (by decide) (by decide) (Nat.le_of_ble_eq_true rfl) (Nat.le_of_ble_eq_true rfl) (fun q5 => ?_)
  show GX2_init l D kA sz0 t0 b t 41 [some (.ref b), some (.ref t)] [.ref q5, .ref b] [(b, .inr (2, [.null, .int 0, .int 0, .int 0, .int 0, .int 0, .int 0, .ref q1, .ref q2, .ref q3, .ref q4, .null, .null, .null])), (q1, zI kA 60), (q2, zI kA 60), (q3, zI kA 60), (q4, zI kA 60), (q5, zI kA 60)] 5 300
  refine g_putF (q0 := 0) (k := 11) (T := TX2) (Cc := RX2) (N := 14) (ty0 := tyX2) (ref := "BellTable$Days") dX2_init_41 inX2 tyX2_ok nmX2 rfl rfl (by decide) (lw_in (i := 394) (by decide +kernel) (by decide +kernel)) rfl rfl rfl (tyX2_ok 11 (by decide)) rfl rfl (Nat.le_of_ble_eq_true rfl) ?_
  show GX2_init l D kA sz0 t0 b t 44 [some (.ref b), some (.ref t)] [] [(b, .inr (2, [.null, .int 0, .int 0, .int 0, .int 0, .int 0, .int 0, .ref q1, .ref q2, .ref q3, .ref q4, .ref q5, .null, .null])), (q1, zI kA 60), (q2, zI kA 60), (q3, zI kA 60), (q4, zI kA 60), (q5, zI kA 60)] 5 300
  refine g_aload dX2_init_44 rfl ?_
  refine g_bipush (v := 60) dX2_init_45 (by decide) ?_
  refine g_newI (N := 60) dX2_init_47 (by decide) (by decide) (by decide) (Nat.le_of_ble_eq_true rfl) (Nat.le_of_ble_eq_true rfl) (fun q6 => ?_)
  show GX2_init l D kA sz0 t0 b t 49 [some (.ref b), some (.ref t)] [.ref q6, .ref b] [(b, .inr (2, [.null, .int 0, .int 0, .int 0, .int 0, .int 0, .int 0, .ref q1, .ref q2, .ref q3, .ref q4, .ref q5, .null, .null])), (q1, zI kA 60), (q2, zI kA 60), (q3, zI kA 60), (q4, zI kA 60), (q5, zI kA 60), (q6, zI kA 60)] 6 360
  refine g_putF (q0 := 0) (k := 12) (T := TX2) (Cc := RX2) (N := 14) (ty0 := tyX2) (ref := "BellTable$Days") dX2_init_49 inX2 tyX2_ok nmX2 rfl rfl (by decide) (lw_in (i := 395) (by decide +kernel) (by decide +kernel)) rfl rfl rfl (tyX2_ok 12 (by decide)) rfl rfl (Nat.le_of_ble_eq_true rfl) ?_
  show GX2_init l D kA sz0 t0 b t 52 [some (.ref b), some (.ref t)] [] [(b, .inr (2, [.null, .int 0, .int 0, .int 0, .int 0, .int 0, .int 0, .ref q1, .ref q2, .ref q3, .ref q4, .ref q5, .ref q6, .null])), (q1, zI kA 60), (q2, zI kA 60), (q3, zI kA 60), (q4, zI kA 60), (q5, zI kA 60), (q6, zI kA 60)] 6 360
  refine g_aload dX2_init_52 rfl ?_
  refine g_bipush (v := 48) dX2_init_53 (by decide) ?_
  refine g_newZ (N := 48) dX2_init_55 (by decide) (by decide) (by decide) (Nat.le_of_ble_eq_true rfl) (Nat.le_of_ble_eq_true rfl) (fun q7 => ?_)
  show GX2_init l D kA sz0 t0 b t 57 [some (.ref b), some (.ref t)] [.ref q7, .ref b] [(b, .inr (2, [.null, .int 0, .int 0, .int 0, .int 0, .int 0, .int 0, .ref q1, .ref q2, .ref q3, .ref q4, .ref q5, .ref q6, .null])), (q1, zI kA 60), (q2, zI kA 60), (q3, zI kA 60), (q4, zI kA 60), (q5, zI kA 60), (q6, zI kA 60), (q7, zZ kA 48)] 7 408
  refine g_putF (q0 := 0) (k := 13) (T := TX2) (Cc := RX2) (N := 14) (ty0 := tyX2) (ref := "BellTable$Days") dX2_init_57 inX2 tyX2_ok nmX2 rfl rfl (by decide) (lw_in (i := 396) (by decide +kernel) (by decide +kernel)) rfl rfl rfl (tyX2_ok 13 (by decide)) rfl rfl (Nat.le_of_ble_eq_true rfl) ?_
  show GX2_init l D kA sz0 t0 b t 60 [some (.ref b), some (.ref t)] [] [(b, .inr (2, [.null, .int 0, .int 0, .int 0, .int 0, .int 0, .int 0, .ref q1, .ref q2, .ref q3, .ref q4, .ref q5, .ref q6, .ref q7])), (q1, zI kA 60), (q2, zI kA 60), (q3, zI kA 60), (q4, zI kA 60), (q5, zI kA 60), (q6, zI kA 60), (q7, zZ kA 48)] 7 408
  refine g_aload dX2_init_60 rfl ?_
  refine g_aload dX2_init_61 rfl ?_
  refine g_putF (q0 := 0) (k := 0) (T := TX2) (Cc := RX2) (N := 14) (ty0 := tyX2) (ref := "BellTable$Days") dX2_init_62 inX2 tyX2_ok nmX2 rfl rfl (by decide) (lw_in (i := 377) (by decide +kernel) (by decide +kernel)) rfl rfl rfl (tyX2_ok 0 (by decide)) rfl rfl (Nat.le_of_ble_eq_true rfl) ?_
  show GX2_init l D kA sz0 t0 b t 65 [some (.ref b), some (.ref t)] [] [(b, .inr (2, [.ref t, .int 0, .int 0, .int 0, .int 0, .int 0, .int 0, .ref q1, .ref q2, .ref q3, .ref q4, .ref q5, .ref q6, .ref q7])), (q1, zI kA 60), (q2, zI kA 60), (q3, zI kA 60), (q4, zI kA 60), (q5, zI kA 60), (q6, zI kA 60), (q7, zZ kA 48)] 7 408
  exact g_ret dX2_init_65 ⟨q1, q2, q3, q4, q5, q6, q7, rfl⟩ rfl rfl
theorem dX0_init_0 : decode cX0_init 0 = .ok (.aload_n 0, 1) := by decide +kernel
theorem dX0_init_1 : decode cX0_init 1 = .ok (.invokespecial 3, 3) := by decide +kernel
theorem dX0_init_4 : decode cX0_init 4 = .ok (.aload_n 0, 1) := by decide +kernel
theorem dX0_init_5 : decode cX0_init 5 = .ok (.new 9, 3) := by decide +kernel
theorem dX0_init_8 : decode cX0_init 8 = .ok (.dup, 1) := by decide +kernel
theorem dX0_init_9 : decode cX0_init 9 = .ok (.invokespecial 11, 3) := by decide +kernel
theorem dX0_init_12 : decode cX0_init 12 = .ok (.putfield 12, 3) := by decide +kernel
theorem dX0_init_15 : decode cX0_init 15 = .ok (.aload_n 0, 1) := by decide +kernel
theorem dX0_init_16 : decode cX0_init 16 = .ok (.aload_n 1, 1) := by decide +kernel
theorem dX0_init_17 : decode cX0_init 17 = .ok (.putfield 18, 3) := by decide +kernel
theorem dX0_init_20 : decode cX0_init 20 = .ok (.return_, 1) := by decide +kernel
abbrev mX0_init : MI := (yX0_init, cX0_init, 2, none, 2, 60, [])
def pX0_init (kA : Nat → ClassId) (b : Nat) (t : Nat) (w : va_W) : Prop := ∃ q1 q2 q3 q4 q5 : Nat, w = [(b, .inr (0, [.ref t, .ref q1, .int 0, .int 0, .int 0])), (q1, .inr (9, [.ref q2, .ref q3, .ref q4, .ref q5, .int 0])), (q2, zI kA 160), (q3, zI kA 160), (q4, zI kA 160), (q5, zI kA 160)]
abbrev GX0_init (l : Launch) (D : va_G) (kA : Nat → ClassId) (sz0 t0 b : Nat) (t : Nat) := Gw l D kA sz0 t0 mX0_init 5 645 [(b, .inr (0, [.null, .null, .int 0, .int 0, .int 0]))] (pX0_init kA b t)
set_option maxRecDepth 20000 in
theorem ci_X0_init {l : Launch} {D : va_G} {kA : Nat → ClassId} {sz0 t0 b t : Nat} : CI l D kA sz0 t0 mX0_init 5 645 [.ref b, .ref t] [(b, .inr (0, [.null, .null, .int 0, .int 0, .int 0]))] (pX0_init kA b t) := by
  refine CI.of (lo := [some (.ref b), some (.ref t)]) (by decide) rfl rfl rfl (Nat.le_of_ble_eq_true rfl) ?_
  refine g_aload dX0_init_0 rfl ?_
  refine g_obj dX0_init_1 (lw_in (i := 77) (by decide +kernel) (by decide +kernel)) w_obj.1 w_obj.2 (by decide) (Nat.le_of_ble_eq_true rfl) ?_
  refine g_aload dX0_init_4 rfl ?_
  refine g_new (ci := 9) (fs := [.null, .null, .null, .null, .int 0]) (T := TX9) (Cc := RX9) (N := 5) (ty := tyX9) dX0_init_5 inX9 tyX9_ok (lw_in (i := 78) (by decide +kernel) (by decide +kernel)) (lw_in (i := 79) (by decide +kernel) (by decide +kernel)) (lw_in (i := 4) (by decide +kernel) (by decide +kernel)) rfl dfX9 (Nat.le_of_ble_eq_true rfl) (Nat.le_of_ble_eq_true rfl) (fun q1 => ?_)
  show GX0_init l D kA sz0 t0 b t 8 [some (.ref b), some (.ref t)] [.ref q1, .ref b] [(b, .inr (0, [.null, .null, .int 0, .int 0, .int 0])), (q1, .inr (9, [.null, .null, .null, .null, .int 0]))] 1 5
  refine g_dup dX0_init_8 rfl ?_
  refine g_call (mi2 := mX9_init) (As := []) (rest := [.ref q1, .ref b]) (n := 0) (mc := 4) (ms := 640) (wr := [(b, .inr (0, [.null, .null, .int 0, .int 0, .int 0]))]) dX0_init_9 rfl rfl rfl (Or.inr (List.mem_of_getElem? (i := 1) rfl)) (lw_in (i := 4) (by decide +kernel) (by decide +kernel)) (lw_in (i := 82) (by decide +kernel) (by decide +kernel)) (lw_in (i := 81) (by decide +kernel) (by decide +kernel)) (by decide +kernel) ⟨by decide, by decide⟩ rfl rfl (Nat.le_of_ble_eq_true rfl) (Nat.le_of_ble_eq_true rfl) (Nat.le_of_ble_eq_true rfl) ci_X9_init (fun w1 h1 => ?_)
  obtain ⟨q2, q3, q4, q5, rfl⟩ := h1
  show GX0_init l D kA sz0 t0 b t 12 [some (.ref b), some (.ref t)] [.ref q1, .ref b] [(b, .inr (0, [.null, .null, .int 0, .int 0, .int 0])), (q1, .inr (9, [.ref q2, .ref q3, .ref q4, .ref q5, .int 0])), (q2, zI kA 160), (q3, zI kA 160), (q4, zI kA 160), (q5, zI kA 160)] 5 645
  refine g_putF (q0 := 0) (k := 1) (T := TX0) (Cc := RX0) (N := 5) (ty0 := tyX0) (ref := "BellTable$BeatText") dX0_init_12 inX0 tyX0_ok nmX0 rfl rfl (by decide) (lw_in (i := 127) (by decide +kernel) (by decide +kernel)) rfl rfl rfl (tyX0_ok 1 (by decide)) rfl rfl (Nat.le_of_ble_eq_true rfl) ?_
  show GX0_init l D kA sz0 t0 b t 15 [some (.ref b), some (.ref t)] [] [(b, .inr (0, [.null, .ref q1, .int 0, .int 0, .int 0])), (q1, .inr (9, [.ref q2, .ref q3, .ref q4, .ref q5, .int 0])), (q2, zI kA 160), (q3, zI kA 160), (q4, zI kA 160), (q5, zI kA 160)] 5 645
  refine g_aload dX0_init_15 rfl ?_
  refine g_aload dX0_init_16 rfl ?_
  refine g_putF (q0 := 0) (k := 0) (T := TX0) (Cc := RX0) (N := 5) (ty0 := tyX0) (ref := "BellTable$BeatText") dX0_init_17 inX0 tyX0_ok nmX0 rfl rfl (by decide) (lw_in (i := 126) (by decide +kernel) (by decide +kernel)) rfl rfl rfl (tyX0_ok 0 (by decide)) rfl rfl (Nat.le_of_ble_eq_true rfl) ?_
  show GX0_init l D kA sz0 t0 b t 20 [some (.ref b), some (.ref t)] [] [(b, .inr (0, [.ref t, .ref q1, .int 0, .int 0, .int 0])), (q1, .inr (9, [.ref q2, .ref q3, .ref q4, .ref q5, .int 0])), (q2, zI kA 160), (q3, zI kA 160), (q4, zI kA 160), (q5, zI kA 160)] 5 645
  exact g_ret dX0_init_20 ⟨q1, q2, q3, q4, q5, rfl⟩ rfl rfl
theorem dX5_init_0 : decode cX5_init 0 = .ok (.aload_n 0, 1) := by decide +kernel
theorem dX5_init_1 : decode cX5_init 1 = .ok (.invokespecial 3, 3) := by decide +kernel
theorem dX5_init_4 : decode cX5_init 4 = .ok (.aload_n 0, 1) := by decide +kernel
theorem dX5_init_5 : decode cX5_init 5 = .ok (.sipush 160, 3) := by decide +kernel
theorem dX5_init_8 : decode cX5_init 8 = .ok (.newarray .int, 2) := by decide +kernel
theorem dX5_init_10 : decode cX5_init 10 = .ok (.putfield 9, 3) := by decide +kernel
theorem dX5_init_13 : decode cX5_init 13 = .ok (.aload_n 0, 1) := by decide +kernel
theorem dX5_init_14 : decode cX5_init 14 = .ok (.sipush 160, 3) := by decide +kernel
theorem dX5_init_17 : decode cX5_init 17 = .ok (.newarray .int, 2) := by decide +kernel
theorem dX5_init_19 : decode cX5_init 19 = .ok (.putfield 15, 3) := by decide +kernel
theorem dX5_init_22 : decode cX5_init 22 = .ok (.aload_n 0, 1) := by decide +kernel
theorem dX5_init_23 : decode cX5_init 23 = .ok (.bipush 48, 2) := by decide +kernel
theorem dX5_init_25 : decode cX5_init 25 = .ok (.newarray .int, 2) := by decide +kernel
theorem dX5_init_27 : decode cX5_init 27 = .ok (.putfield 18, 3) := by decide +kernel
theorem dX5_init_30 : decode cX5_init 30 = .ok (.aload_n 0, 1) := by decide +kernel
theorem dX5_init_31 : decode cX5_init 31 = .ok (.sipush 161, 3) := by decide +kernel
theorem dX5_init_34 : decode cX5_init 34 = .ok (.newarray .int, 2) := by decide +kernel
theorem dX5_init_36 : decode cX5_init 36 = .ok (.putfield 21, 3) := by decide +kernel
theorem dX5_init_39 : decode cX5_init 39 = .ok (.aload_n 0, 1) := by decide +kernel
theorem dX5_init_40 : decode cX5_init 40 = .ok (.new 24, 3) := by decide +kernel
theorem dX5_init_43 : decode cX5_init 43 = .ok (.dup, 1) := by decide +kernel
theorem dX5_init_44 : decode cX5_init 44 = .ok (.invokespecial 26, 3) := by decide +kernel
theorem dX5_init_47 : decode cX5_init 47 = .ok (.putfield 27, 3) := by decide +kernel
theorem dX5_init_50 : decode cX5_init 50 = .ok (.aload_n 0, 1) := by decide +kernel
theorem dX5_init_51 : decode cX5_init 51 = .ok (.new 24, 3) := by decide +kernel
theorem dX5_init_54 : decode cX5_init 54 = .ok (.dup, 1) := by decide +kernel
theorem dX5_init_55 : decode cX5_init 55 = .ok (.invokespecial 26, 3) := by decide +kernel
theorem dX5_init_58 : decode cX5_init 58 = .ok (.putfield 31, 3) := by decide +kernel
theorem dX5_init_61 : decode cX5_init 61 = .ok (.aload_n 0, 1) := by decide +kernel
theorem dX5_init_62 : decode cX5_init 62 = .ok (.aload_n 1, 1) := by decide +kernel
theorem dX5_init_63 : decode cX5_init 63 = .ok (.putfield 34, 3) := by decide +kernel
theorem dX5_init_66 : decode cX5_init 66 = .ok (.return_, 1) := by decide +kernel
abbrev mX5_init : MI := (yX5_init, cX5_init, 2, none, 2, 60, [])
def pX5_init (kA : Nat → ClassId) (b : Nat) (t : Nat) (w : va_W) : Prop := ∃ q1 q2 q3 q4 q5 q6 q7 q8 : Nat, w = [(b, .inr (5, [.ref t, .ref q1, .ref q2, .int 0, .int 0, .ref q3, .ref q4, .ref q5, .ref q7])), (q1, zI kA 160), (q2, zI kA 160), (q3, zI kA 48), (q4, zI kA 161), (q5, .inr (1, [.ref q6])), (q6, zJ kA 483), (q7, .inr (1, [.ref q8])), (q8, zJ kA 483)]
abbrev GX5_init (l : Launch) (D : va_G) (kA : Nat → ClassId) (sz0 t0 b : Nat) (t : Nat) := Gw l D kA sz0 t0 mX5_init 8 1497 [(b, .inr (5, [.null, .null, .null, .int 0, .int 0, .null, .null, .null, .null]))] (pX5_init kA b t)
set_option maxRecDepth 20000 in
theorem ci_X5_init {l : Launch} {D : va_G} {kA : Nat → ClassId} {sz0 t0 b t : Nat} : CI l D kA sz0 t0 mX5_init 8 1497 [.ref b, .ref t] [(b, .inr (5, [.null, .null, .null, .int 0, .int 0, .null, .null, .null, .null]))] (pX5_init kA b t) := by
  refine CI.of (lo := [some (.ref b), some (.ref t)]) (by decide) rfl rfl rfl (Nat.le_of_ble_eq_true rfl) ?_
  refine g_aload dX5_init_0 rfl ?_
  refine g_obj dX5_init_1 (lw_in (i := 327) (by decide +kernel) (by decide +kernel)) w_obj.1 w_obj.2 (by decide) (Nat.le_of_ble_eq_true rfl) ?_
  refine g_aload dX5_init_4 rfl ?_
  refine g_sipush (v := 160) dX5_init_5 (by decide) ?_
  refine g_newI (N := 160) dX5_init_8 (by decide) (by decide) (by decide) (Nat.le_of_ble_eq_true rfl) (Nat.le_of_ble_eq_true rfl) (fun q1 => ?_)
  show GX5_init l D kA sz0 t0 b t 10 [some (.ref b), some (.ref t)] [.ref q1, .ref b] [(b, .inr (5, [.null, .null, .null, .int 0, .int 0, .null, .null, .null, .null])), (q1, zI kA 160)] 1 160
  refine g_putF (q0 := 0) (k := 1) (T := TX5) (Cc := RX5) (N := 9) (ty0 := tyX5) (ref := "BellTable$Listening") dX5_init_10 inX5 tyX5_ok nmX5 rfl rfl (by decide) (lw_in (i := 340) (by decide +kernel) (by decide +kernel)) rfl rfl rfl (tyX5_ok 1 (by decide)) rfl rfl (Nat.le_of_ble_eq_true rfl) ?_
  show GX5_init l D kA sz0 t0 b t 13 [some (.ref b), some (.ref t)] [] [(b, .inr (5, [.null, .ref q1, .null, .int 0, .int 0, .null, .null, .null, .null])), (q1, zI kA 160)] 1 160
  refine g_aload dX5_init_13 rfl ?_
  refine g_sipush (v := 160) dX5_init_14 (by decide) ?_
  refine g_newI (N := 160) dX5_init_17 (by decide) (by decide) (by decide) (Nat.le_of_ble_eq_true rfl) (Nat.le_of_ble_eq_true rfl) (fun q2 => ?_)
  show GX5_init l D kA sz0 t0 b t 19 [some (.ref b), some (.ref t)] [.ref q2, .ref b] [(b, .inr (5, [.null, .ref q1, .null, .int 0, .int 0, .null, .null, .null, .null])), (q1, zI kA 160), (q2, zI kA 160)] 2 320
  refine g_putF (q0 := 0) (k := 2) (T := TX5) (Cc := RX5) (N := 9) (ty0 := tyX5) (ref := "BellTable$Listening") dX5_init_19 inX5 tyX5_ok nmX5 rfl rfl (by decide) (lw_in (i := 342) (by decide +kernel) (by decide +kernel)) rfl rfl rfl (tyX5_ok 2 (by decide)) rfl rfl (Nat.le_of_ble_eq_true rfl) ?_
  show GX5_init l D kA sz0 t0 b t 22 [some (.ref b), some (.ref t)] [] [(b, .inr (5, [.null, .ref q1, .ref q2, .int 0, .int 0, .null, .null, .null, .null])), (q1, zI kA 160), (q2, zI kA 160)] 2 320
  refine g_aload dX5_init_22 rfl ?_
  refine g_bipush (v := 48) dX5_init_23 (by decide) ?_
  refine g_newI (N := 48) dX5_init_25 (by decide) (by decide) (by decide) (Nat.le_of_ble_eq_true rfl) (Nat.le_of_ble_eq_true rfl) (fun q3 => ?_)
  show GX5_init l D kA sz0 t0 b t 27 [some (.ref b), some (.ref t)] [.ref q3, .ref b] [(b, .inr (5, [.null, .ref q1, .ref q2, .int 0, .int 0, .null, .null, .null, .null])), (q1, zI kA 160), (q2, zI kA 160), (q3, zI kA 48)] 3 368
  refine g_putF (q0 := 0) (k := 5) (T := TX5) (Cc := RX5) (N := 9) (ty0 := tyX5) (ref := "BellTable$Listening") dX5_init_27 inX5 tyX5_ok nmX5 rfl rfl (by decide) (lw_in (i := 348) (by decide +kernel) (by decide +kernel)) rfl rfl rfl (tyX5_ok 5 (by decide)) rfl rfl (Nat.le_of_ble_eq_true rfl) ?_
  show GX5_init l D kA sz0 t0 b t 30 [some (.ref b), some (.ref t)] [] [(b, .inr (5, [.null, .ref q1, .ref q2, .int 0, .int 0, .ref q3, .null, .null, .null])), (q1, zI kA 160), (q2, zI kA 160), (q3, zI kA 48)] 3 368
  refine g_aload dX5_init_30 rfl ?_
  refine g_sipush (v := 161) dX5_init_31 (by decide) ?_
  refine g_newI (N := 161) dX5_init_34 (by decide) (by decide) (by decide) (Nat.le_of_ble_eq_true rfl) (Nat.le_of_ble_eq_true rfl) (fun q4 => ?_)
  show GX5_init l D kA sz0 t0 b t 36 [some (.ref b), some (.ref t)] [.ref q4, .ref b] [(b, .inr (5, [.null, .ref q1, .ref q2, .int 0, .int 0, .ref q3, .null, .null, .null])), (q1, zI kA 160), (q2, zI kA 160), (q3, zI kA 48), (q4, zI kA 161)] 4 529
  refine g_putF (q0 := 0) (k := 6) (T := TX5) (Cc := RX5) (N := 9) (ty0 := tyX5) (ref := "BellTable$Listening") dX5_init_36 inX5 tyX5_ok nmX5 rfl rfl (by decide) (lw_in (i := 349) (by decide +kernel) (by decide +kernel)) rfl rfl rfl (tyX5_ok 6 (by decide)) rfl rfl (Nat.le_of_ble_eq_true rfl) ?_
  show GX5_init l D kA sz0 t0 b t 39 [some (.ref b), some (.ref t)] [] [(b, .inr (5, [.null, .ref q1, .ref q2, .int 0, .int 0, .ref q3, .ref q4, .null, .null])), (q1, zI kA 160), (q2, zI kA 160), (q3, zI kA 48), (q4, zI kA 161)] 4 529
  refine g_aload dX5_init_39 rfl ?_
  refine g_new (ci := 1) (fs := [.null]) (T := TX1) (Cc := RX1) (N := 1) (ty := tyX1) dX5_init_40 inX1 tyX1_ok (lw_in (i := 328) (by decide +kernel) (by decide +kernel)) (lw_in (i := 329) (by decide +kernel) (by decide +kernel)) (lw_in (i := 12) (by decide +kernel) (by decide +kernel)) rfl dfX1 (Nat.le_of_ble_eq_true rfl) (Nat.le_of_ble_eq_true rfl) (fun q5 => ?_)
  show GX5_init l D kA sz0 t0 b t 43 [some (.ref b), some (.ref t)] [.ref q5, .ref b] [(b, .inr (5, [.null, .ref q1, .ref q2, .int 0, .int 0, .ref q3, .ref q4, .null, .null])), (q1, zI kA 160), (q2, zI kA 160), (q3, zI kA 48), (q4, zI kA 161), (q5, .inr (1, [.null]))] 5 530
  refine g_dup dX5_init_43 rfl ?_
  refine g_call (mi2 := mX1_init) (As := []) (rest := [.ref q5, .ref b]) (n := 0) (mc := 1) (ms := 483) (wr := [(b, .inr (5, [.null, .ref q1, .ref q2, .int 0, .int 0, .ref q3, .ref q4, .null, .null])), (q1, zI kA 160), (q2, zI kA 160), (q3, zI kA 48), (q4, zI kA 161)]) dX5_init_44 rfl rfl rfl (Or.inr (List.mem_of_getElem? (i := 3) rfl)) (lw_in (i := 12) (by decide +kernel) (by decide +kernel)) (lw_in (i := 332) (by decide +kernel) (by decide +kernel)) (lw_in (i := 331) (by decide +kernel) (by decide +kernel)) (by decide +kernel) ⟨by decide, by decide⟩ rfl rfl (Nat.le_of_ble_eq_true rfl) (Nat.le_of_ble_eq_true rfl) (Nat.le_of_ble_eq_true rfl) ci_X1_init (fun w1 h1 => ?_)
  obtain ⟨q6, rfl⟩ := h1
  show GX5_init l D kA sz0 t0 b t 47 [some (.ref b), some (.ref t)] [.ref q5, .ref b] [(b, .inr (5, [.null, .ref q1, .ref q2, .int 0, .int 0, .ref q3, .ref q4, .null, .null])), (q1, zI kA 160), (q2, zI kA 160), (q3, zI kA 48), (q4, zI kA 161), (q5, .inr (1, [.ref q6])), (q6, zJ kA 483)] 6 1013
  refine g_putF (q0 := 0) (k := 7) (T := TX5) (Cc := RX5) (N := 9) (ty0 := tyX5) (ref := "BellTable$Listening") dX5_init_47 inX5 tyX5_ok nmX5 rfl rfl (by decide) (lw_in (i := 350) (by decide +kernel) (by decide +kernel)) rfl rfl rfl (tyX5_ok 7 (by decide)) rfl rfl (Nat.le_of_ble_eq_true rfl) ?_
  show GX5_init l D kA sz0 t0 b t 50 [some (.ref b), some (.ref t)] [] [(b, .inr (5, [.null, .ref q1, .ref q2, .int 0, .int 0, .ref q3, .ref q4, .ref q5, .null])), (q1, zI kA 160), (q2, zI kA 160), (q3, zI kA 48), (q4, zI kA 161), (q5, .inr (1, [.ref q6])), (q6, zJ kA 483)] 6 1013
  refine g_aload dX5_init_50 rfl ?_
  refine g_new (ci := 1) (fs := [.null]) (T := TX1) (Cc := RX1) (N := 1) (ty := tyX1) dX5_init_51 inX1 tyX1_ok (lw_in (i := 328) (by decide +kernel) (by decide +kernel)) (lw_in (i := 329) (by decide +kernel) (by decide +kernel)) (lw_in (i := 12) (by decide +kernel) (by decide +kernel)) rfl dfX1 (Nat.le_of_ble_eq_true rfl) (Nat.le_of_ble_eq_true rfl) (fun q7 => ?_)
  show GX5_init l D kA sz0 t0 b t 54 [some (.ref b), some (.ref t)] [.ref q7, .ref b] [(b, .inr (5, [.null, .ref q1, .ref q2, .int 0, .int 0, .ref q3, .ref q4, .ref q5, .null])), (q1, zI kA 160), (q2, zI kA 160), (q3, zI kA 48), (q4, zI kA 161), (q5, .inr (1, [.ref q6])), (q6, zJ kA 483), (q7, .inr (1, [.null]))] 7 1014
  refine g_dup dX5_init_54 rfl ?_
  refine g_call (mi2 := mX1_init) (As := []) (rest := [.ref q7, .ref b]) (n := 0) (mc := 1) (ms := 483) (wr := [(b, .inr (5, [.null, .ref q1, .ref q2, .int 0, .int 0, .ref q3, .ref q4, .ref q5, .null])), (q1, zI kA 160), (q2, zI kA 160), (q3, zI kA 48), (q4, zI kA 161), (q5, .inr (1, [.ref q6])), (q6, zJ kA 483)]) dX5_init_55 rfl rfl rfl (Or.inr (List.mem_of_getElem? (i := 3) rfl)) (lw_in (i := 12) (by decide +kernel) (by decide +kernel)) (lw_in (i := 332) (by decide +kernel) (by decide +kernel)) (lw_in (i := 331) (by decide +kernel) (by decide +kernel)) (by decide +kernel) ⟨by decide, by decide⟩ rfl rfl (Nat.le_of_ble_eq_true rfl) (Nat.le_of_ble_eq_true rfl) (Nat.le_of_ble_eq_true rfl) ci_X1_init (fun w1 h1 => ?_)
  obtain ⟨q8, rfl⟩ := h1
  show GX5_init l D kA sz0 t0 b t 58 [some (.ref b), some (.ref t)] [.ref q7, .ref b] [(b, .inr (5, [.null, .ref q1, .ref q2, .int 0, .int 0, .ref q3, .ref q4, .ref q5, .null])), (q1, zI kA 160), (q2, zI kA 160), (q3, zI kA 48), (q4, zI kA 161), (q5, .inr (1, [.ref q6])), (q6, zJ kA 483), (q7, .inr (1, [.ref q8])), (q8, zJ kA 483)] 8 1497
  refine g_putF (q0 := 0) (k := 8) (T := TX5) (Cc := RX5) (N := 9) (ty0 := tyX5) (ref := "BellTable$Listening") dX5_init_58 inX5 tyX5_ok nmX5 rfl rfl (by decide) (lw_in (i := 351) (by decide +kernel) (by decide +kernel)) rfl rfl rfl (tyX5_ok 8 (by decide)) rfl rfl (Nat.le_of_ble_eq_true rfl) ?_
  show GX5_init l D kA sz0 t0 b t 61 [some (.ref b), some (.ref t)] [] [(b, .inr (5, [.null, .ref q1, .ref q2, .int 0, .int 0, .ref q3, .ref q4, .ref q5, .ref q7])), (q1, zI kA 160), (q2, zI kA 160), (q3, zI kA 48), (q4, zI kA 161), (q5, .inr (1, [.ref q6])), (q6, zJ kA 483), (q7, .inr (1, [.ref q8])), (q8, zJ kA 483)] 8 1497
  refine g_aload dX5_init_61 rfl ?_
  refine g_aload dX5_init_62 rfl ?_
  refine g_putF (q0 := 0) (k := 0) (T := TX5) (Cc := RX5) (N := 9) (ty0 := tyX5) (ref := "BellTable$Listening") dX5_init_63 inX5 tyX5_ok nmX5 rfl rfl (by decide) (lw_in (i := 339) (by decide +kernel) (by decide +kernel)) rfl rfl rfl (tyX5_ok 0 (by decide)) rfl rfl (Nat.le_of_ble_eq_true rfl) ?_
  show GX5_init l D kA sz0 t0 b t 66 [some (.ref b), some (.ref t)] [] [(b, .inr (5, [.ref t, .ref q1, .ref q2, .int 0, .int 0, .ref q3, .ref q4, .ref q5, .ref q7])), (q1, zI kA 160), (q2, zI kA 160), (q3, zI kA 48), (q4, zI kA 161), (q5, .inr (1, [.ref q6])), (q6, zJ kA 483), (q7, .inr (1, [.ref q8])), (q8, zJ kA 483)] 8 1497
  exact g_ret dX5_init_66 ⟨q1, q2, q3, q4, q5, q6, q7, q8, rfl⟩ rfl rfl
