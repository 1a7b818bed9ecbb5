/-! THE LAW from its entry (printed by wip/gen/genS.py) -/
/-- the law calls a constructor on the world's last cell -/
theorem l_make {p : Program} {l : Launch} {e : Env} {s : State} {m : MethodId} {below : List Frame} {meth : Method} {c : Code} {D : va_G} {kA : Nat → ClassId} {b L t0 : Nat} {xs : Nat → Int32} {mi2 : MI} {index mc ms q cells slots pc : Nat} {e0 : va_E} {wr : va_W} {Q2 : va_W → Prop} {H : Heap} {locs : List Loc} {ls : Array Slot} {rest : List Value} {Q1 : State → Prop} (C0 : lw_At p s m meth c b L xs) (hK : va_K D cls (tyK kA) s) (hSt : St s.heap.size t0 s s.heap) (hl1 : ls.size = 4)
    (d : decode code pc = .ok (.invokespecial index, 3)) (hmi : mi2.y.name = "<init>") (hr2 : mi2.ret = none) (hlink : Cond.methodLink R_law index mi2.y ∈ lw_w) (hini : Cond.initialized mi2.y.cls ∈ lw_w) (hcode : Cond.code mi2.y mi2.cc mi2.nL mi2.ret ∈ lw_w) (hinst : Cond.instanceMethod mi2.y ∈ lw_w) (hdd : mi2.y.cls ≠ "java/lang/invoke/MethodHandle" ∧ mi2.y.cls ≠ "java/lang/invoke/VarHandle" ∧ (parseMethodDescriptor mi2.y.desc).map (fun d => d.parameters.length) = some 0) (hR : RmL mi2) (hw : (rest.map fun v => v.category).sum ≤ 8) (hcells : cells + mc ≤ 601024) (hslots : slots + ms ≤ 7293033)
    (hP : va_P D cls (wr ++ [(q, e0)]) H) (hD : va_D (GA s.heap.size) (wr ++ [(q, e0)])) (hS : va_S (GA s.heap.size) s.heap H locs) (hM : CI l D kA s.heap.size t0 mi2 mc ms [.ref q] [(q, e0)] Q2)
    (K : ∀ (w1 : va_W) (H1 : Heap) (locs1 : List Loc), Q2 w1 → va_P D cls (wr ++ w1) H1 → va_D (GA s.heap.size) (wr ++ w1) → va_S (GA s.heap.size) s.heap H1 locs1 → W p l e room_1 s m #[Value.ref b] below meth c H1 locs1 (cells + mc) (slots + ms) Q1 (F0 m (pc + 3) ls rest)) : W p l e room_1 s m #[Value.ref b] below meth c H locs cells slots Q1 (F0 m pc ls (.ref q :: rest)) := by
  obtain ⟨hx, hb, hr, hml, hown, htb, -⟩ := id C0
  have hts : ∀ w ∈ lw_w, w.before #[Value.ref b] s = true := fun w hw => htb w (List.mem_filter.mp hw).1
  have hat : ∀ (k : Nat) (x : Nat × va_E), [(q, e0)][k]? = some x → (wr ++ [(q, e0)])[wr.length + k]? = some x := by
    intro k x hx
    rw [List.getElem?_append_right (by omega), Nat.add_sub_cancel_left]; exact hx
  have hPc : va_P D cls [(q, e0)] H := fun k x hx => hP _ _ (hat k x hx)
  have hDc : va_D (GA s.heap.size) [(q, e0)] := ⟨fun i j x y hp hq hpq => by
    have := hD.1 _ _ _ _ (hat i x hp) (hat j y hq) hpq
    omega, fun k x hx => hD.2 _ _ (hat k x hx)⟩
  have hFc : ∀ x, va_A [(q, e0)] H.size x → GA s.heap.size x := by
    intro x h
    rcases h with ⟨k, e9, h⟩ | h
    · exact hD.2 _ _ (hat k (x, e9) h)
    · exact Nat.le_trans hS.1 h
  have hrun : va_Run p l e room_1 s m #[Value.ref b] below meth c H locs cells slots mc ms (F0 m pc ls (.ref q :: rest)) rest (va_Qv Q2 (QB D [(q, e0)] H.size) (va_A [(q, e0)] H.size) [Value.ref q].toArray) (va_A [(q, e0)] H.size) :=
    va_runI (cc := code) (As := []) (rest := rest) (Ts := lw_w) (own := R_law) (index := index) (bytes := mi2.cc) (maxL := mi2.nL) (n := 0) ⟨hx, hb, hml, hown, hts⟩ (hM H.size) (cwI 0 hts (good_ws hcode) (by unfold wsOf; rw [hr2]) rfl rfl (hts _ hini) (hts _ hlink) (hts _ hinst) hmi hdd hR) ⟨CPc.blind, fun U hU hW => ⟨rfl, by rw [hU], hS.1, by rw [hU]; exact hPc, va_K.moved hW.alike hK, hDc, by rw [hU]; exact St.warm hW hS.2.1 hSt⟩⟩ rfl rfl hl1 rfl (lv_room hw) d ⟨hcells, hslots⟩
  refine va_callv hrun hS (fun x _ h => hFc x h) hFc (fun w1 t H1 locs1 ht hvm hq hB hz hk hS1 => ?_)
  obtain ⟨hP1, hD1⟩ := hB
  rw [ht] at hP1
  have hold : ∀ (k : Nat) (x : Nat × va_E), wr[k]? = some x → H1[x.1]? = H[x.1]? ∧ ¬ va_A [(q, e0)] H.size x.1 ∧ (wr ++ [(q, e0)])[k]? = some x := by
    intro k x hx
    have hk' : k < wr.length := (List.getElem?_eq_some_iff.mp hx).1
    have h9 : (wr ++ [(q, e0)])[k]? = some x := by rw [List.getElem?_append_left hk']; exact hx
    have hlt : x.1 < H.size := (hP _ _ h9).lt
    have hna : ¬ va_A [(q, e0)] H.size x.1 := by
      rintro (⟨j, e9, h⟩ | h)
      · have := hD.1 k (wr.length + j) x (x.1, e9) h9 (hat j _ h) rfl
        omega
      · omega
    exact ⟨hk x.1 hlt hna, hna, h9⟩
  have hP2 : va_P D cls (wr ++ w1) H1 := (show va_P D cls wr H1 from fun k x hx => (hP _ _ (hold k x hx).2.2).kept (hold k x hx).1).app hP1
  have hD2 : va_D (GA s.heap.size) (wr ++ w1) := va_D.app ⟨fun i j x y hp hq hpq => hD.1 i j x y (hold i x hp).2.2 (hold j y hq).2.2 hpq, fun k x hx => hD.2 _ _ (hold k x hx).2.2⟩ (hD1.weaken (fun _ _ _ h => hFc _ h)) (fun i j x y hp hq hpq => (hold i x hp).2.1 (by rw [hpq]; exact hD1.2 j y hq))
  exact K w1 H1 locs1 hq hP2 hD2 hS1
/-- behind the constructors -/
theorem l_finish {p : Program} {l : Launch} {e : Env} {s : State} {m : MethodId} {below : List Frame} {meth : Method} {c : Code} {D : va_G} {kA : Nat → ClassId} {b L : Nat} {xs : Nat → Int32} {H : Heap} {locs : List Loc} {ls : Array Slot} {ad aS aK aV : Nat → Nat} (hL : L ≤ 3072) (C0 : lw_At p s m meth c b L xs) (hK : va_K D cls (tyK kA) s) (hG : OutG s.heap.size aS aK aV s s.heap) (h1 : ∀ j, j < 3 → ad (200 + j) = aS j) (h2 : ∀ i, i < 15 → ad (210 + i) = aK i) (h3 : ∀ i, i < 15 → ad (230 + i) = aV i)
    (hP : va_P D cls (w_all ad kA) H) (hD : va_D (GA s.heap.size) (w_all ad kA)) (hS : va_S (GA s.heap.size) s.heap H locs) (hl : lv_has ls 4 [(3, .int (nI 0)), (2, .ref (ad 54)), (1, .ref (ad 0)), (0, .ref b)]) : W p l e room_1 s m #[Value.ref b] below meth c H locs 601024 7293033 (lw_Z below #[Value.ref b] s) (F0 m 18 ls []) := by
  rw [← wl_M0] at hP hD
  obtain ⟨hap, hAW⟩ := wl_apart hD
  exact law_loop hL (L + 1) 0 M0 (Nat.zero_le _) (by omega) rel_M0 p e s m below meth c ⟨C0, hK, hap, hG.out hAW h1 h2 h3, hAW⟩ H locs ls hP hS (lv_sub hl [3, 2, 1, 0] rfl)
set_option maxHeartbeats 4000000 in
set_option maxRecDepth 100000 in
theorem whole_start {p : Program} {e : Env} {s : State} {m : MethodId} {below : List Frame} {meth : Method} {c : Code} (l : Launch) {b L : Nat} {xs : Nat → Int32} (hL : L ≤ 3072) (C0 : lw_At p s m meth c b L xs) : W p l e room_1 s m #[Value.ref b] below meth c s.heap [] 0 0 (lw_Z below #[Value.ref b] s) (entryFrame m ([Value.ref b] : List Value).toArray 4) := by
  obtain ⟨hx, hb, hr, hml, hown, htb, hX, hbl, hlocks, hgv⟩ := id C0
  have hts : ∀ w ∈ lw_w, w.before #[Value.ref b] s = true := fun w hw => htb w (List.mem_filter.mp hw).1
  obtain ⟨D, kA, hK⟩ := k_start hts
  obtain ⟨aS, aK, aV, hG, hSt⟩ := start_of htb hgv
  have hS : va_S (GA s.heap.size) s.heap s.heap [] := va_S.rf
  have hP : va_P D cls [] s.heap := fun k q h => by simp at h
  have hD : va_D (GA s.heap.size) [] := ⟨fun i j p q h => by simp at h, fun k q h => by simp at h⟩
  have hl := lv_entry ([.ref b]) (n := 4) (Nat.le_of_ble_eq_true rfl)
  rw [lg_entry_eq]
  generalize (lg_sl ([.ref b]) ++ List.replicate (4 - (lg_sl ([.ref b])).length) Slot.unset).toArray = ls at hl ⊢
  have hl : lv_has ls 4 [(0, .ref b)] := hl
  refine va_new (ci := 11) (fs := [.null, .null, .null, .null, .null, .null, .null, .null, .null, .null, .null, .int 0]) (C := RX11) (T := TX11) (N := 12) hx hb hts inX11 tyX11 tyX11_ok hown (hts _ (lw_in (i := 23) (by decide +kernel) (by decide +kernel))) (hts _ (lw_in (i := 24) (by decide +kernel) (by decide +kernel))) (hts _ (lw_in (i := 1) (by decide +kernel) (by decide +kernel))) hK hP hD hS (fun q h => h) rfl dfX11 (Nat.le_of_ble_eq_true rfl) (Nat.le_of_ble_eq_true rfl) d_law_0 (fun x0 H hP hD hS => ?_)
  refine lv_dup hx hb d_law_3 rfl ?_
  refine l_make (wr := []) (mi2 := mX11_init) (mc := 52) (ms := 19909) C0 hK hSt hl.1 d_law_4 rfl rfl (lw_in (i := 25) (by decide +kernel) (by decide +kernel)) (lw_in (i := 1) (by decide +kernel) (by decide +kernel)) (lw_in (i := 27) (by decide +kernel) (by decide +kernel)) (lw_in (i := 26) (by decide +kernel) (by decide +kernel)) (by decide +kernel) ⟨by decide, by decide⟩ (Nat.le_of_ble_eq_true rfl) (Nat.le_of_ble_eq_true rfl) (Nat.le_of_ble_eq_true rfl) hP hD hS ci_X11_init (fun w1 H locs hw hP hD hS => ?_)
  obtain ⟨x1, x2, x3, x4, x5, x6, x7, x8, x9, x10, x11, x12, x13, x14, x15, x16, x17, x18, x19, x20, x21, x22, x23, x24, x25, x26, x27, x28, x29, x30, x31, x32, x33, x34, x35, x36, x37, x38, x39, x40, x41, x42, x43, x44, x45, x46, x47, x48, x49, x50, x51, x52, rfl⟩ := hw
  refine lv_astore_n (lv' := [(1, .ref x0), (0, .ref b)]) hx hb d_law_7 rfl hl (by decide) rfl (fun ls hl => ?_)
  refine va_new (ci := 13) (fs := [.null, .null, .int 0, .int 0, .int 0, .int 0, .int 0, .int 0, .int 0, .int 0, .int 0, .int 0, .null, .null, .null, .null, .null, .null, .null, .null, .null, .null, .null, .int 0, .null, .null, .int 0, .null, .null, .null, .null, .int 0, .int 0, .null, .null, .null, .null, .null, .null, .null, .int 0, .int 0, .int 0, .int 0, .int 0, .int 0, .int 0, .null, .null, .null, .null, .null, .int 0, .int 0, .int 0, .int 0, .int 0, .int 0, .null, .null, .null, .null, .null, .null, .null, .int 0]) (C := RX13) (T := TX13) (N := 66) hx hb hts inX13 tyX13 tyX13_ok hown (hts _ (lw_in (i := 1092) (by decide +kernel) (by decide +kernel))) (hts _ (lw_in (i := 1083) (by decide +kernel) (by decide +kernel))) (hts _ (lw_in (i := 14) (by decide +kernel) (by decide +kernel))) hK hP hD hS (fun q h => h) rfl dfX13 (Nat.le_of_ble_eq_true rfl) (Nat.le_of_ble_eq_true rfl) d_law_8 (fun y0 H hP hD hS => ?_)
  refine lv_dup hx hb d_law_11 rfl ?_
  refine l_make (wr := [(x0, .inr (11, [.ref x1, .ref x3, .ref x9, .ref x14, .ref x17, .ref x22, .ref x28, .ref x32, .ref x35, .ref x44, .ref x52, .int 4])), (x1, .inr (10, [.int 0, .int 0, .int 0, .int 0, .int (-1), .ref x2, .int 0, .int 0])), (x2, zB kA 1200), (x3, .inr (0, [.ref x1, .ref x4, .int 0, .int 0, .int 0])), (x4, .inr (9, [.ref x5, .ref x6, .ref x7, .ref x8, .int 0])), (x5, zI kA 160), (x6, zI kA 160), (x7, zI kA 160), (x8, zI kA 160), (x9, .inr (9, [.ref x10, .ref x11, .ref x12, .ref x13, .int 0])), (x10, zI kA 160), (x11, zI kA 160), (x12, zI kA 160), (x13, zI kA 160), (x14, .inr (6, [.ref x15, .ref x16, .int 0, .int 0, .int 0])), (x15, .inl (kA 0, 4, .inl rule0)), (x16, zI kA 4), (x17, .inr (3, [.ref x9, .ref x14, .ref x18, .int 0, .ref x19, .int 0, .ref x20, .int 0, .ref x21])), (x18, zI kA 160), (x19, zI kA 160), (x20, zI kA 12880), (x21, zI kA 160), (x22, .inr (7, [.ref x9, .ref x14, .ref x17, .ref x23, .int 0, .int 0, .int 0, .long 0, .ref x24, .ref x25, .ref x26, .int 0, .ref x27])), (x23, zI kA 48), (x24, zI kA 48), (x25, zI kA 12), (x26, zI kA 624), (x27, zI kA 637), (x28, .inr (4, [.ref x9, .ref x17, .ref x22, .int (-1), .int (-1), .ref x29, .ref x30, .ref x31, .int 0])), (x29, zI kA 160), (x30, zI kA 160), (x31, zI kA 160), (x32, .inr (8, [.ref x9, .ref x33, .int (-1), .int (-1), .ref x34])), (x33, zI kA 160), (x34, zI kA 48), (x35, .inr (5, [.ref x9, .ref x36, .ref x37, .int 0, .int 0, .ref x38, .ref x39, .ref x40, .ref x42])), (x36, zI kA 160), (x37, zI kA 160), (x38, zI kA 48), (x39, zI kA 161), (x40, .inr (1, [.ref x41])), (x41, zJ kA 483), (x42, .inr (1, [.ref x43])), (x43, zJ kA 483), (x44, .inr (2, [.ref x9, .int 0, .int 0, .int 0, .int 0, .int 0, .int 0, .ref x45, .ref x46, .ref x47, .ref x48, .ref x49, .ref x50, .ref x51])), (x45, zI kA 60), (x46, zI kA 60), (x47, zI kA 60), (x48, zI kA 60), (x49, zI kA 60), (x50, zI kA 60), (x51, zZ kA 48), (x52, zZ kA 12)]) (mi2 := mX13_init) (mc := 38) (ms := 86074) C0 hK hSt hl.1 d_law_12 rfl rfl (lw_in (i := 1093) (by decide +kernel) (by decide +kernel)) (lw_in (i := 14) (by decide +kernel) (by decide +kernel)) (lw_in (i := 1095) (by decide +kernel) (by decide +kernel)) (lw_in (i := 1094) (by decide +kernel) (by decide +kernel)) (by decide +kernel) ⟨by decide, by decide⟩ (Nat.le_of_ble_eq_true rfl) (Nat.le_of_ble_eq_true rfl) (Nat.le_of_ble_eq_true rfl) hP hD hS ci_X13_init (fun w1 H locs hw hP hD hS => ?_)
  obtain ⟨y1, y2, y3, y4, y5, y6, y7, y8, y9, y10, y11, y12, y13, y14, y15, y16, y17, y18, y19, y20, y21, y22, y23, y24, y25, y26, y27, y28, y29, y30, y31, y32, y33, y34, y35, y36, y37, y38, rfl⟩ := hw
  refine lv_astore_n (lv' := [(2, .ref y0), (1, .ref x0), (0, .ref b)]) hx hb d_law_15 rfl hl (by decide) rfl (fun ls hl => ?_)
  refine lv_iconst (v := nI 0) hx hb d_law_16 (by decide) ?_
  refine lv_istore_n (lv' := [(3, .int (nI 0)), (2, .ref y0), (1, .ref x0), (0, .ref b)]) hx hb d_law_17 rfl hl (by decide) rfl (fun ls hl => ?_)
  refine W.widen (k := 601024) (n := 7293033) (Nat.le_of_ble_eq_true rfl) (Nat.le_of_ble_eq_true rfl) ?_
  exact l_finish (ad := adF [x0, x1, x2, x3, x4, x5, x6, x7, x8, x9, x10, x11, x12, x13, x14, x15, x16, x17, x18, x19, x20, x21, x22, x23, x24, x25, x26, x27, x28, x29, x30, x31, x32, x33, x34, x35, x36, x37, x38, x39, x40, x41, x42, x43, x44, x45, x46, x47, x48, x49, x50, x51, x52, y1, y0, y2, y3, y4, y5, y6, y7, y8, y9, y10, y11, y12, y13, y14, y15, y16, y17, y18, y19, y20, y21, y22, y23, y24, y25, y26, y27, y28, y29, y30, y31, y32, y33, y34, y35, y36, y37, y38] aS aK aV) hL C0 hK hG adF_S adF_K adF_V (hP.sub [0, 1, 2, 3, 4, 5, 6, 7, 8, 9, 10, 11, 12, 13, 14, 15, 16, 17, 18, 19, 20, 21, 22, 23, 24, 25, 26, 27, 28, 29, 30, 31, 32, 33, 34, 35, 36, 37, 38, 39, 40, 41, 42, 43, 44, 45, 46, 47, 48, 49, 50, 51, 52, 54, 53, 55, 56, 57, 58, 59, 60, 61, 62, 63, 64, 65, 66, 67, 68, 69, 70, 71, 72, 73, 74, 75, 76, 77, 78, 79, 80, 81, 82, 83, 84, 85, 86, 87, 88, 89, 90, 91] rfl) (hD.sub [0, 1, 2, 3, 4, 5, 6, 7, 8, 9, 10, 11, 12, 13, 14, 15, 16, 17, 18, 19, 20, 21, 22, 23, 24, 25, 26, 27, 28, 29, 30, 31, 32, 33, 34, 35, 36, 37, 38, 39, 40, 41, 42, 43, 44, 45, 46, 47, 48, 49, 50, 51, 52, 54, 53, 55, 56, 57, 58, 59, 60, 61, 62, 63, 64, 65, 66, 67, 68, 69, 70, 71, 72, 73, 74, 75, 76, 77, 78, 79, 80, 81, 82, 83, 84, 85, 86, 87, 88, 89, 90, 91] (by decide +kernel) rfl) hS hl
