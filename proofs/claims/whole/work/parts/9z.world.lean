/-! THE WORLD behind the two constructors (printed by wip/gen/gen9z.py) -/
def M0 : Mem := (fun c => if c = 0 then (fun i => if i = 11 then 4 else 0) else if c = 1 then (fun i => if i = 4 then (-1) else 0) else if c = 15 then rule0 else if c = 28 then (fun i => if i = 3 then (-1) else if i = 4 then (-1) else 0) else if c = 32 then (fun i => if i = 2 then (-1) else if i = 3 then (-1) else 0) else if c = 54 then (fun i => if i = 9 then (-1) else if i = 23 then 4 else 0) else if c = 65 then (upd (upd (upd (upd (fun _ => 0) 0 1) 1 4) 2 12) 3 1) else fun _ => 0, fun _ _ => 0)
def mpF {α β : Type} (f : Nat → α → β) : Nat → List α → List β
  | _, [] => []
  | n, a :: l => f n a :: mpF f (n + 1) l
theorem mpF_eq {α β : Type} (l : List α) : ∀ (f : Nat → α → β) (n : Nat), mpF f n l = l.mapIdx (fun i => f (n + i)) := by
  induction l with
  | nil => intro f n; rfl
  | cons a l ih =>
    intro f n
    rw [List.mapIdx_cons]
    show f n a :: mpF f (n + 1) l = f (n + 0) a :: l.mapIdx (fun i => f (n + (i + 1)))
    rw [ih]
    have e : (fun i => f (n + 1 + i)) = fun i => f (n + (i + 1)) := by funext i; rw [show n + 1 + i = n + (i + 1) by omega]
    rw [e]; rfl
def ce2 (ad : Nat → Nat) (kA : Nat → ClassId) (M : Mem) (c : Nat) (sh : Shp) : va_E := match sh with
  | .inl a => .inl (kA a.1, a.2, if a.1 = 3 then .inr (.inl (gL M c)) else .inl (gI M c))
  | .inr q => .inr (q.1, mpF (fv ad M c) 0 q.2)
theorem ce2_eq {ad : Nat → Nat} {kA : Nat → ClassId} {M : Mem} {c : Nat} {sh : Shp} : ce ad kA M c sh = ce2 ad kA M c sh := by
  cases sh with
  | inl a => rfl
  | inr q =>
    show Sum.inr (q.1, q.2.mapIdx (fv ad M c)) = Sum.inr (q.1, mpF (fv ad M c) 0 q.2)
    rw [mpF_eq]
    have e : (fun i => fv ad M c (0 + i)) = fv ad M c := by funext i; rw [Nat.zero_add]
    rw [e]
theorem wl2 {ad : Nat → Nat} {kA : Nat → ClassId} {M : Mem} : wl ad kA M = mpF (fun c sh => (ad c, ce2 ad kA M c sh)) 0 shL := by
  rw [mpF_eq]
  unfold wl
  congr 1
  funext c sh
  rw [ce2_eq, Nat.zero_add]
def w_all (ad : Nat → Nat) (kA : Nat → ClassId) : va_W := [(ad 0, .inr (11, [.ref (ad 1), .ref (ad 3), .ref (ad 9), .ref (ad 14), .ref (ad 17), .ref (ad 22), .ref (ad 28), .ref (ad 32), .ref (ad 35), .ref (ad 44), .ref (ad 52), .int 4])),
  (ad 1, .inr (10, [.int 0, .int 0, .int 0, .int 0, .int (-1), .ref (ad 2), .int 0, .int 0])),
  (ad 2, zB kA 1200),
  (ad 3, .inr (0, [.ref (ad 1), .ref (ad 4), .int 0, .int 0, .int 0])),
  (ad 4, .inr (9, [.ref (ad 5), .ref (ad 6), .ref (ad 7), .ref (ad 8), .int 0])),
  (ad 5, zI kA 160),
  (ad 6, zI kA 160),
  (ad 7, zI kA 160),
  (ad 8, zI kA 160),
  (ad 9, .inr (9, [.ref (ad 10), .ref (ad 11), .ref (ad 12), .ref (ad 13), .int 0])),
  (ad 10, zI kA 160),
  (ad 11, zI kA 160),
  (ad 12, zI kA 160),
  (ad 13, zI kA 160),
  (ad 14, .inr (6, [.ref (ad 15), .ref (ad 16), .int 0, .int 0, .int 0])),
  (ad 15, .inl (kA 0, 4, .inl rule0)),
  (ad 16, zI kA 4),
  (ad 17, .inr (3, [.ref (ad 9), .ref (ad 14), .ref (ad 18), .int 0, .ref (ad 19), .int 0, .ref (ad 20), .int 0, .ref (ad 21)])),
  (ad 18, zI kA 160),
  (ad 19, zI kA 160),
  (ad 20, zI kA 12880),
  (ad 21, zI kA 160),
  (ad 22, .inr (7, [.ref (ad 9), .ref (ad 14), .ref (ad 17), .ref (ad 23), .int 0, .int 0, .int 0, .long 0, .ref (ad 24), .ref (ad 25), .ref (ad 26), .int 0, .ref (ad 27)])),
  (ad 23, zI kA 48),
  (ad 24, zI kA 48),
  (ad 25, zI kA 12),
  (ad 26, zI kA 624),
  (ad 27, zI kA 637),
  (ad 28, .inr (4, [.ref (ad 9), .ref (ad 17), .ref (ad 22), .int (-1), .int (-1), .ref (ad 29), .ref (ad 30), .ref (ad 31), .int 0])),
  (ad 29, zI kA 160),
  (ad 30, zI kA 160),
  (ad 31, zI kA 160),
  (ad 32, .inr (8, [.ref (ad 9), .ref (ad 33), .int (-1), .int (-1), .ref (ad 34)])),
  (ad 33, zI kA 160),
  (ad 34, zI kA 48),
  (ad 35, .inr (5, [.ref (ad 9), .ref (ad 36), .ref (ad 37), .int 0, .int 0, .ref (ad 38), .ref (ad 39), .ref (ad 40), .ref (ad 42)])),
  (ad 36, zI kA 160),
  (ad 37, zI kA 160),
  (ad 38, zI kA 48),
  (ad 39, zI kA 161),
  (ad 40, .inr (1, [.ref (ad 41)])),
  (ad 41, zJ kA 483),
  (ad 42, .inr (1, [.ref (ad 43)])),
  (ad 43, zJ kA 483),
  (ad 44, .inr (2, [.ref (ad 9), .int 0, .int 0, .int 0, .int 0, .int 0, .int 0, .ref (ad 45), .ref (ad 46), .ref (ad 47), .ref (ad 48), .ref (ad 49), .ref (ad 50), .ref (ad 51)])),
  (ad 45, zI kA 60),
  (ad 46, zI kA 60),
  (ad 47, zI kA 60),
  (ad 48, zI kA 60),
  (ad 49, zI kA 60),
  (ad 50, zI kA 60),
  (ad 51, zZ kA 48),
  (ad 52, zZ kA 12),
  (ad 53, .inr (12, [.null, .null, .null, .null, .null, .int 0])),
  (ad 54, .inr (13, [.ref (ad 53), .ref (ad 55), .int 0, .int 0, .int 0, .int 0, .int 0, .int 0, .int 0, .int (-1), .int 0, .int 0, .ref (ad 56), .ref (ad 57), .ref (ad 58), .ref (ad 59), .ref (ad 60), .ref (ad 61), .ref (ad 62), .ref (ad 63), .ref (ad 64), .ref (ad 65), .ref (ad 66), .int 4, .ref (ad 67), .ref (ad 68), .int 0, .ref (ad 69), .ref (ad 70), .ref (ad 71), .ref (ad 72), .int 0, .int 0, .ref (ad 73), .ref (ad 74), .ref (ad 75), .ref (ad 76), .ref (ad 77), .ref (ad 78), .ref (ad 79), .int 0, .int 0, .int 0, .int 0, .int 0, .int 0, .int 0, .ref (ad 80), .ref (ad 81), .ref (ad 82), .ref (ad 83), .ref (ad 84), .int 0, .int 0, .int 0, .int 0, .int 0, .int 0, .ref (ad 85), .ref (ad 86), .ref (ad 87), .ref (ad 88), .ref (ad 89), .ref (ad 90), .ref (ad 91), .int 0])),
  (ad 55, zB kA 1200),
  (ad 56, zI kA 160),
  (ad 57, zI kA 160),
  (ad 58, zI kA 160),
  (ad 59, zI kA 160),
  (ad 60, zI kA 160),
  (ad 61, zI kA 160),
  (ad 62, zI kA 160),
  (ad 63, zI kA 160),
  (ad 64, zI kA 4),
  (ad 65, .inl (kA 0, 4, .inl (upd (upd (upd (upd (fun _ => 0) 0 1) 1 4) 2 12) 3 1))),
  (ad 66, zZ kA 4),
  (ad 67, zZ kA 12),
  (ad 68, zI kA 48),
  (ad 69, zI kA 160),
  (ad 70, zI kA 51842),
  (ad 71, zI kA 160),
  (ad 72, zI kA 2),
  (ad 73, zI kA 48),
  (ad 74, zI kA 12),
  (ad 75, zI kA 2352),
  (ad 76, zI kA 637),
  (ad 77, zI kA 637),
  (ad 78, zI kA 637),
  (ad 79, zI kA 48),
  (ad 80, zI kA 160),
  (ad 81, zI kA 160),
  (ad 82, zI kA 160),
  (ad 83, zI kA 25921),
  (ad 84, zZ kA 160),
  (ad 85, zI kA 60),
  (ad 86, zI kA 60),
  (ad 87, zI kA 60),
  (ad 88, zI kA 60),
  (ad 89, zI kA 60),
  (ad 90, zI kA 60),
  (ad 91, zZ kA 60)]
set_option maxRecDepth 20000 in
theorem wl_M0 {ad : Nat → Nat} {kA : Nat → ClassId} : wl ad kA M0 = w_all ad kA := by
  rw [wl2]
  rfl
theorem no_a {a : Nat} {x : Int32} (h0 : x = 0) (h : (a : Int) < x.toInt) : False := by
  rw [h0] at h
  have e : (0 : Int32).toInt = 0 := rfl
  rw [e] at h
  omega
theorem use_M0 : ∀ b : Nat, b < 48 → v_X7_uses M0 (nI b) = 0 := by decide +kernel
theorem no_used (b : Int32) : ¬ usedM M0 b := fun ⟨_, h, _⟩ => no_a (x := gI M0 54 10) rfl h
theorem ub_M0 : ub M0 = [] := List.filter_eq_nil_iff.mpr (fun b _ h => no_used _ (uB_t.mp h))
theorem rule_M0 : (∀ a : Nat, a < 4 → gI M0 15 a = gI M0 65 a) ∧ (0 ≤ (gI M0 15 0).toInt ∧ (gI M0 15 0).toInt ≤ 9) ∧ (1 ≤ (gI M0 15 1).toInt ∧ (gI M0 15 1).toInt ≤ 12) ∧ (0 ≤ (gI M0 15 2).toInt ∧ (gI M0 15 2).toInt ≤ 47) ∧ (0 ≤ (gI M0 15 3).toInt ∧ (gI M0 15 3).toInt ≤ 9) := by decide +kernel
theorem rel_M0 : Rel M0 := by
  refine ⟨⟨rfl, by decide +kernel, fun a h => (no_a (x := gI M0 1 0) rfl h).elim⟩, ⟨rfl, rfl⟩, ⟨rfl, by decide +kernel, fun a h => (no_a (x := gI M0 9 4) rfl h).elim, fun a b _ h => (no_a (x := gI M0 9 4) rfl h).elim⟩, rule_M0, fun a h => (no_a (x := gI M0 9 4) rfl h).elim, ⟨rfl, by decide +kernel, fun a _ => ⟨rfl, Or.inl rfl⟩⟩, r0_part rfl rfl, fun b hb => ⟨fun _ => no_used _, fun _ => use_M0 b hb⟩, ⟨?_, ?_⟩, r0_weighed rfl, r0_hands rfl rfl, ⟨fun _ => ⟨rfl, rfl⟩, fun h => absurd rfl h⟩, r0_laid rfl rfl, r0_blame rfl, ⟨rfl, by decide +kernel, rfl, by decide +kernel, fun a h => (no_a (x := gI M0 44 2) rfl h).elim, fun a _ _ => rfl⟩, r0_key rfl rfl⟩
  · rw [ub_M0]; rfl
  · rw [ub_M0]; intro i b h; simp at h
/-- addresses by number: the world's cells, the static rows, the String constants and their bytes -/
def adF (L : List Nat) (aS aK aV : Nat → Nat) (i : Nat) : Nat := if i < 92 then L.getD i 0 else if i < 210 then aS (i - 200) else if i < 230 then aK (i - 210) else aV (i - 230)
theorem adF_S {L : List Nat} {aS aK aV : Nat → Nat} (j : Nat) (hj : j < 3) : adF L aS aK aV (200 + j) = aS j := by
  unfold adF
  rw [if_neg (by omega), if_pos (by omega)]
  rw [Nat.add_sub_cancel_left]
theorem adF_K {L : List Nat} {aS aK aV : Nat → Nat} (j : Nat) (hj : j < 15) : adF L aS aK aV (210 + j) = aK j := by
  unfold adF
  rw [if_neg (by omega), if_neg (by omega), if_pos (by omega)]
  rw [Nat.add_sub_cancel_left]
theorem adF_V {L : List Nat} {aS aK aV : Nat → Nat} (j : Nat) (hj : j < 15) : adF L aS aK aV (230 + j) = aV j := by
  unfold adF
  rw [if_neg (by omega), if_neg (by omega), if_neg (by omega)]
  rw [Nat.add_sub_cancel_left]
theorem wl_apart {A : Nat → Prop} {ad : Nat → Nat} {kA : Nat → ClassId} {M : Mem} (h : va_D A (wl ad kA M)) : apart ad ∧ ∀ q, AW ad q → A q := by
  have hc : ∀ c, c < nC → ∃ sh, shL[c]? = some sh := fun c h => ⟨shL[c]'(by rw [shL_len]; exact h), List.getElem?_eq_getElem _⟩
  constructor
  · intro i j hi hj e
    obtain ⟨s1, h1⟩ := hc i hi
    obtain ⟨s2, h2⟩ := hc j hj
    exact h.1 i j _ _ (wl_at h1) (wl_at h2) e
  · rintro q ⟨i, hi, rfl⟩
    obtain ⟨s1, h1⟩ := hc i hi
    exact h.2 i _ (wl_at h1)
