/-! RANGES in the model: the best of what is left -/
theorem sub_nI {a b : Nat} (ha : a < 2147483648) (hb : b < 2147483648) : (nI a - nI b).toInt = (a : Int) - b := by
  rw [i_sub, i_nI ha, i_nI hb] <;> rw [i_nI ha, i_nI hb] <;> omega
theorem cmp_val {x y : Nat × Nat × Nat} (hx : small3 x) (hy : small3 y) {o : Nat} (ho : o ≤ 48) : (0 < (if nI (x.1 + o) = nI (y.1 + o) then if nI x.2.1 = nI y.2.1 then nI y.2.2 - nI x.2.2 else nI y.2.1 - nI x.2.1 else nI (y.1 + o) - nI (x.1 + o)) ↔ enc3 x < enc3 y) ∧ ((if nI (x.1 + o) = nI (y.1 + o) then if nI x.2.1 = nI y.2.1 then nI y.2.2 - nI x.2.2 else nI y.2.1 - nI x.2.1 else nI (y.1 + o) - nI (x.1 + o)) = 0 ↔ enc3 x = enc3 y) := by
  obtain ⟨l1, l2⟩ := enc_lex hx hy
  rw [l1, l2]
  obtain ⟨x1, x2, x3⟩ := hx
  obtain ⟨y1, y2, y3⟩ := hy
  have q0 := n0
  by_cases c1 : x.1 = y.1
  · rw [if_pos (by rw [c1])]
    by_cases c2 : x.2.1 = y.2.1
    · rw [if_pos (by rw [c2]), i_lt, i_eq, sub_nI (by omega) (by omega)]; omega
    · rw [if_neg (by rw [nI_eq (by omega) (by omega)]; exact c2), i_lt, i_eq, sub_nI (by omega) (by omega)]; omega
  · rw [if_neg (by rw [nI_eq (by omega) (by omega)]; omega), i_lt, i_eq, sub_nI (by omega) (by omega)]; omega
def sR3 (c i : Nat) : Bool := c == 76 || c == 77 || c == 78
section RangeM
variable {l : Launch} {D : va_G} {ad : Nat → Nat} {kA : Nat → ClassId} {M M0 : Mem} {Q : Outcome → Mem → Prop} {w : Nat} {h : Nat → Nat → Nat → Nat} {off : Nat → Nat}
/-- what the model's search rests on, over the BELLS of M0 -/
def okG (M0 M : Mem) (w : Nat) (h : Nat → Nat → Nat → Nat) (off : Nat → Nat) : Prop := okR (ub M0).length (PP M0) h (nSt M0) ∧ w ≤ 12 ∧ gI M 54 40 = nI (ub M0).length ∧ gI M 54 41 = nI w ∧ (∀ i j : Nat, i < j → j ≤ (ub M0).length → gI M 75 (49 * i + j) = nI (PP M0 i j)) ∧ (∀ i, off i ≤ 48) ∧ off (ub M0).length = 0 ∧ ∀ r i j, r < w → i ≤ j → j ≤ (ub M0).length → chN (gI M 79) (gI M 74 r) (j - i) i + off j = h r i j + off i
theorem okG.fr {S : Nat → Nat → Bool} {M' : Mem} (k : okG M0 M w h off) (hf : Fr S M M') (h1 : S 54 40 = false ∧ S 54 41 = false) (h2 : ∀ i, S 75 i = false ∧ S 79 i = false ∧ S 74 i = false) : okG M0 M' w h off := by
  obtain ⟨k1, k2, k3, k4, k5, k6, k7, k8⟩ := k
  refine ⟨k1, k2, by rw [hf.1 54 40 h1.1]; exact k3, by rw [hf.1 54 41 h1.2]; exact k4, fun i j a1 a2 => by rw [hf.1 75 _ (h2 _).1]; exact k5 i j a1 a2, k6, k7, fun r i j a1 a2 a3 => ?_⟩
  have e : gI M' 79 = gI M 79 := funext (fun i => hf.1 79 i (h2 i).2.1)
  rw [e, hf.1 74 r (h2 r).2.2]
  exact k8 r i j a1 a2 a3
theorem lp_ci6 {x : Int32} {j : Nat} (hj : j ≤ 48) : ∀ (n k acc : Nat), k + n = j → acc + n ≤ 1000 → Q (.returned (some (.int (nI (acc + chN (gI M 79) x n k))))) M →
    Fw l D ad kA mX13_changedIn 6 [some (.ref (ad 54)), none, some (.int (nI j)), some (.int x), some (.int (nI acc)), some (.int (nI k))] [] M Q := by
  intro n
  induction n with
  | zero =>
    intro k acc hk ha K
    have hle : nI j ≤ nI k := by rw [nI_leI (by omega) (by omega)]; omega
    exact t_X13_changedIn_6 (fun q => absurd hle q) (fun _ => K) (fun q => absurd hle q)
  | succ n ih =>
    intro k acc hk ha K
    have hnle : ¬ nI j ≤ nI k := by rw [nI_leI (by omega) (by omega)]; omega
    refine t_X13_changedIn_6 (fun _ => ixN (by omega) (by omega)) (fun q => absurd q hnle) (fun _ => ?_)
    rw [nI_clamp (by omega), nI_1]
    unfold chN at K
    by_cases c : gI M 79 k = x
    · rw [if_pos c]
      simp only [if_pos c] at K
      have : nI acc + 0 = nI acc := Int32.add_zero _
      rw [this]
      exact ih (k + 1) acc (by omega) (by omega) (by rw [show acc + (0 + chN (gI M 79) x n (k + 1)) = acc + chN (gI M 79) x n (k + 1) by omega] at K; exact K)
    · rw [if_neg c, nI_1]
      simp only [if_neg c] at K
      exact ih (k + 1) (acc + 1) (by omega) (by omega) (by rw [show acc + (1 + chN (gI M 79) x n (k + 1)) = acc + 1 + chN (gI M 79) x n (k + 1) by omega] at K; exact K)
theorem ct_changedIn {x : Int32} {i j : Nat} (hij : i ≤ j) (hj : j ≤ 48) (K : Q (.returned (some (.int (nI (chN (gI M 79) x (j - i) i))))) M) : Cal l D ad kA mX13_changedIn [.ref (ad 54), .int (nI i), .int (nI j), .int x] M Q :=
  en_X13_changedIn (t_X13_changedIn_0 (lp_ci6 hj (j - i) i 0 (by omega) (by omega) (by rw [Nat.zero_add]; exact K)))
/-- a place of the model's table is right -/
def tblOk (M0 M : Mem) (w : Nat) (h : Nat → Nat → Nat → Nat) (off : Nat → Nat) (r i : Nat) : Prop := (∀ x, GG (ub M0).length w (PP M0) h (w - r) i = some x → gI M 76 (49 * r + i) = nI (x.1 + off i) ∧ gI M 77 (49 * r + i) = nI x.2.1 ∧ gI M 78 (49 * r + i) = nI x.2.2) ∧ (GG (ub M0).length w (PP M0) h (w - r) i = none → gI M 77 (49 * r + i) = nI 1000000)
theorem v_spot {r i : Nat} : v_X13_spot (nI r) (nI i) = nI (49 * r + i) := by
  unfold v_X13_spot
  rw [show (49 : Int32) = nI 49 from rfl, nI_mul, nI_add]
/-- the fold's step from r and i -/
noncomputable def cnd (M0 : Mem) (w : Nat) (h : Nat → Nat → Nat → Nat) (r i n : Nat) : Option (Nat × Nat × Nat) := cand (GG (ub M0).length w (PP M0) h (w - (r + 1))) (PP M0) (h r) i n
theorem v_mayHave (k : okG M0 M w h off) {r i n : Nat} (hr : r < w) (hin : i + n ≤ (ub M0).length) (ht : tblOk M0 M w h off (r + 1) (i + n)) : (v_X13_mayHave M (nI r) (nI i) (nI (i + n)) = 0 ↔ cnd M0 w h r i n = none) ∧ g_X13_mayHave M (nI r) (nI i) (nI (i + n)) := by
  obtain ⟨k1, k2, k3, k4, k5, k6, k7, k8⟩ := k
  have hl := ub_len (M := M0)
  have e49 : 49 * nI i + nI (i + n) = nI (49 * i + (i + n)) := by rw [show (49 : Int32) = nI 49 from rfl, nI_mul, nI_add]
  constructor
  · unfold v_X13_mayHave cnd cand
    rw [nI_1, v_spot, nI_clamp (by omega), e49, nI_clamp (by omega)]
    cases hg : GG (ub M0).length w (PP M0) h (w - (r + 1)) (i + n) with
    | none =>
      rw [ht.2 hg, if_pos (by decide)]
      exact ⟨fun _ => rfl, fun _ => rfl⟩
    | some y =>
      have hs := GG_small k1 (k := w - (r + 1)) (by omega) hin hg
      have h2 := hs.2.1
      rw [(ht.1 y hg).2.1, if_neg (by rw [show (1000000 : Int32) = nI 1000000 from rfl, nI_leI (by omega) (by omega)]; omega)]
      obtain ⟨c, t, kk⟩ := y
      show _ ↔ (if n = 0 then some (c, t, kk) else if PP M0 i (i + n) < 1000000 then _ else none) = none
      by_cases c0 : n = 0
      · rw [if_pos c0, if_pos (by rw [c0, Nat.add_zero])]
        exact ⟨fun z => absurd z (by decide), fun z => by cases z⟩
      · rw [if_neg c0, if_neg (by rw [nI_eq (by omega) (by omega)]; omega), k5 i (i + n) (by omega) hin]
        have := PP_le (M := M0) (i := i) (j := i + n)
        by_cases c1 : PP M0 i (i + n) < 1000000
        · rw [if_pos c1, if_neg (by rw [show (1000000 : Int32) = nI 1000000 from rfl, nI_leI (by omega) (by omega)]; omega)]
          exact ⟨fun z => absurd z (by decide), fun z => by cases z⟩
        · rw [if_neg c1, if_pos (by rw [show (1000000 : Int32) = nI 1000000 from rfl, nI_leI (by omega) (by omega)]; omega)]
          exact ⟨fun _ => rfl, fun _ => rfl⟩
  · unfold g_X13_mayHave
    rw [nI_1, v_spot, e49]
    refine ⟨ixN (by omega) (by omega), fun _ c => ixN ?_ (by omega)⟩
    rw [nI_eq (by omega) (by omega)] at c
    omega
/-- the new triple, read off the table -/
theorem new3 (k : okG M0 M w h off) {r i n : Nat} (hr : r < w) (hin : i + n ≤ (ub M0).length) (ht : tblOk M0 M w h off (r + 1) (i + n)) {x : Nat × Nat × Nat} (hx : cnd M0 w h r i n = some x) :
    nI (chN (gI M 79) (gI M 74 r) (i + n - i) i) + gI M 76 (49 * (r + 1) + (i + n)) = nI (x.1 + off i) ∧ (if nI i = nI (i + n) then 0 else gI M 75 (49 * i + (i + n))) + gI M 77 (49 * (r + 1) + (i + n)) = nI x.2.1 ∧ (if nI i = nI (i + n) then 0 else 1) + gI M 78 (49 * (r + 1) + (i + n)) = nI x.2.2 ∧ small3 x := by
  obtain ⟨k1, k2, k3, k4, k5, k6, k7, k8⟩ := k
  have hl := ub_len (M := M0)
  have hsm : small3 x := cand_small k1 (by omega) hin hx
  obtain ⟨c, t, kk, g1, g2⟩ := cand_some hx
  obtain ⟨t1, t2, t3⟩ := ht.1 _ g1
  have hch := k8 r i (i + n) hr (by omega) hin
  have z0 : ∀ a : Nat, (0 : Int32) + nI a = nI a := fun a => Int32.zero_add _
  rw [t1, t2, t3, nI_add]
  show nI (_ + (c + off (i + n))) = _ ∧ _ + nI t = _ ∧ _ + nI kk = _ ∧ _
  rcases g2 with ⟨z, rfl⟩ | ⟨z1, z2, rfl⟩
  · subst z
    rw [if_pos (show nI i = nI (i + 0) from rfl), if_pos (show nI i = nI (i + 0) from rfl), z0, z0]
    refine ⟨congrArg nI ?_, rfl, rfl, hsm⟩
    show _ = c + off i
    rw [show i + 0 - i = 0 by omega] at hch ⊢
    show 0 + (c + off (i + 0)) = c + off i
    rw [Nat.add_zero]; omega
  · rw [if_neg (by rw [nI_eq (by omega) (by omega)]; omega), if_neg (by rw [nI_eq (by omega) (by omega)]; omega), k5 i (i + n) (by omega) hin, nI_add, show (1 : Int32) = nI 1 from rfl, nI_add]
    refine ⟨congrArg nI ?_, congrArg nI ?_, congrArg nI ?_, hsm⟩
    · show _ = c + h r i (i + n) + off i; omega
    · show _ = t + PP M0 i (i + n); omega
    · show _ = kk + 1; omega
theorem ct_compare (k : okG M0 M w h off) {r i n : Nat} (hr : r < w) (hin : i + n ≤ (ub M0).length) (ht : tblOk M0 M w h off (r + 1) (i + n)) {x : Nat × Nat × Nat} (hx : cnd M0 w h r i n = some x) {C T W : Int32}
    (K : Q (.returned (some (.int (if nI (x.1 + off i) = C then if nI x.2.1 = T then W - nI x.2.2 else T - nI x.2.1 else C - nI (x.1 + off i))))) M) : Cal l D ad kA mX13_compare [.ref (ad 54), .int (nI r), .int (nI i), .int (nI (i + n)), .int C, .int T, .int W] M Q := by
  have hl := ub_len (M := M0)
  have hw := k.2.1
  obtain ⟨v1, v2, v3, -⟩ := new3 k hr hin ht hx
  have e49 : 49 * nI i + nI (i + n) = nI (49 * i + (i + n)) := by rw [show (49 : Int32) = nI 49 from rfl, nI_mul, nI_add]
  refine en_X13_compare (t_X13_compare_0 (ixN (by omega) (by omega)) ?_)
  rw [nI_clamp (by omega)]
  refine ct_changedIn (by omega) (by omega) ⟨_, rfl, ?_⟩
  rw [nI_1, v_spot]
  refine t_X13_compare_21 (ixN (by omega) (by omega)) (fun c => ?_) ?_
  · rw [e49]
    rw [nI_eq (by omega) (by omega)] at c
    exact ixN (by omega) (by omega)
  · rw [nI_clamp (by omega), e49, nI_clamp (by omega), v1, v2, v3]
    exact K
/-- the best so far -/
def curOk (M : Mem) (off : Nat → Nat) (r i : Nat) (b : Option (Nat × Nat × Nat)) : Prop := (∀ x, b = some x → gI M 76 (49 * r + i) = nI (x.1 + off i) ∧ gI M 77 (49 * r + i) = nI x.2.1 ∧ gI M 78 (49 * r + i) = nI x.2.2) ∧ (b = none → gI M 76 (49 * r + i) = nI 1000000 ∧ gI M 77 (49 * r + i) = nI 1000000 ∧ gI M 78 (49 * r + i) = nI 1000000)
theorem lp_fr133 (k : okG M0 M w h off) {r i : Nat} (hr : r < w) (hi : i ≤ (ub M0).length) (ht : ∀ j, j ≤ (ub M0).length → tblOk M0 M w h off (r + 1) j)
    (K : ∀ M', Fr sR3 M M' → (∀ a, ¬ a = 49 * r + i → gI M' 76 a = gI M 76 a ∧ gI M' 77 a = gI M 77 a ∧ gI M' 78 a = gI M 78 a) → tblOk M0 M' w h off r i → Fw l D ad kA mX13_findRanges 89 [some (.ref (ad 54)), some (.int (nI r)), some (.int (nI (i + 1))), none, none, none] [] M' Q) : ∀ (j n : Nat) (M' : Mem), i + n + j = (ub M0).length + 1 → Fr sR3 M M' → (∀ a, ¬ a = 49 * r + i → gI M' 76 a = gI M 76 a ∧ gI M' 77 a = gI M 77 a ∧ gI M' 78 a = gI M 78 a) → curOk M' off r i (foldB (cnd M0 w h r i) n) →
    Fw l D ad kA mX13_findRanges 133 [some (.ref (ad 54)), some (.int (nI r)), some (.int (nI i)), some (.int (nI (49 * r + i))), some (.int (nI (i + n))), none] [] M' Q := by
  have hl := ub_len (M := M0)
  have hw := k.2.1
  have bnd : ∀ n, i + n ≤ (ub M0).length + 1 → ∀ x, foldB (cnd M0 w h r i) n = some x → small3 x := by
    intro n hn x e
    obtain ⟨m, h1, h2⟩ := fold_mem n e
    exact cand_small k.1 (by omega) (by omega) h2
  intro j
  induction j with
  | zero =>
    intro n M' hn hf ho hcur
    have k' := k.fr hf ⟨rfl, rfl⟩ (fun _ => ⟨rfl, rfl, rfl⟩)
    have hlt : gI M' 54 40 < nI (i + n) := by rw [k'.2.2.1]; exact nI_lt (by omega) (by omega)
    refine t_X13_findRanges_133 (fun q => absurd hlt q) (fun q => absurd hlt q) (fun _ => ?_) (fun q => absurd hlt q) (fun q => absurd hlt q)
    rw [nI_1]
    have ek : w - r = (w - (r + 1)) + 1 := by omega
    have er : w - (w - (r + 1) + 1) = r := by omega
    have eg : GG (ub M0).length w (PP M0) h (w - r) i = foldB (cnd M0 w h r i) n := by
      rw [ek]
      show foldB (cand _ (PP M0) (h (w - (w - (r + 1) + 1))) i) ((ub M0).length - i + 1) = _
      rw [er, show (ub M0).length - i + 1 = n by omega]
      rfl
    refine K M' hf ho ?_
    unfold tblOk
    rw [eg]
    exact ⟨hcur.1, fun z => (hcur.2 z).2.1⟩
  | succ j ih =>
    intro n M' hn hf ho hcur
    have k' := k.fr hf ⟨rfl, rfl⟩ (fun _ => ⟨rfl, rfl, rfl⟩)
    have hin : i + n ≤ (ub M0).length := by omega
    have hnlt : ¬ gI M' 54 40 < nI (i + n) := by rw [k'.2.2.1]; exact nI_nlt hin (by omega)
    have ht' : tblOk M0 M' w h off (r + 1) (i + n) := by
      obtain ⟨o1, o2, o3⟩ := ho (49 * (r + 1) + (i + n)) (by omega)
      unfold tblOk
      rw [o1, o2, o3]
      exact ht (i + n) hin
    obtain ⟨m1, m2⟩ := v_mayHave k' hr hin ht'
    have efold : foldB (cnd M0 w h r i) (n + 1) = better (foldB (cnd M0 w h r i) n) (cnd M0 w h r i n) := rfl
    refine t_X13_findRanges_133 (fun _ => m2) (fun _ _ => ixN (by omega) (by omega)) (fun q => absurd q hnlt) (fun _ c => ?_) (fun _ c => ?_)
    · rw [m1] at c
      rw [nI_1]
      refine ih (n + 1) M' (by omega) hf ho ?_
      rw [efold, c]
      exact hcur
    · rw [m1] at c
      obtain ⟨x, hx⟩ : ∃ x, cnd M0 w h r i n = some x := by
        cases e : cnd M0 w h r i n with
        | none => exact absurd e c
        | some x => exact ⟨x, rfl⟩
      obtain ⟨v1, v2, v3, hsx⟩ := new3 k' hr hin ht' hx
      have ho6 := k.2.2.2.2.2.1 i
      refine ct_compare k' hr hin ht' hx ⟨_, rfl, ?_⟩
      rw [nI_clamp (by omega)]
      have e49 : 49 * nI i + nI (i + n) = nI (49 * i + (i + n)) := by rw [show (49 : Int32) = nI 49 from rfl, nI_mul, nI_add]
      have put : better (foldB (cnd M0 w h r i) n) (some x) = some x → Cal l D ad kA mX13_changedIn [.ref (ad 54), .int (nI i), .int (nI (i + n)), .int (gI M' 74 (nI r).toNatClampNeg)] M' (fun oc M2 => ∃ r_1 : Int32, oc = .returned (some (.int r_1)) ∧ Fw l D ad kA mX13_findRanges 213 [some (.ref (ad 54)), some (.int (nI r)), some (.int (nI i)), some (.int (nI (49 * r + i))), some (.int (nI (i + n))), some (.int (v_X13_spot (nI r + 1) (nI (i + n))))] [.int r_1, .int (nI (49 * r + i)), .ref (ad 76)] M2 Q) := by
        intro hb
        refine ct_changedIn (by omega) (by omega) ⟨_, rfl, ?_⟩
        rw [nI_1, v_spot, nI_clamp (by omega)]
        refine t_X13_findRanges_213 (ixN (by omega) (by omega)) (ixN (by omega) (by omega)) ?_
        rw [nI_clamp (by omega), nI_clamp (by omega), v1]
        refine t_X13_findRanges_222 (fun c => ?_) (ixN (by omega) (by omega)) (ixN (by omega) (by omega)) ?_
        · rw [e49]
          rw [nI_eq (by omega) (by omega)] at c
          exact ixN (by omega) (by omega)
        · rw [nI_clamp (by omega), nI_clamp (by omega), e49, nI_clamp (by omega)]
          have w2 : (if nI i = nI (i + n) then 0 else gI (sI M' 76 (49 * r + i) (nI (x.1 + off i))) 75 (49 * i + (i + n))) + gI (sI M' 76 (49 * r + i) (nI (x.1 + off i))) 77 (49 * (r + 1) + (i + n)) = nI x.2.1 := v2
          rw [w2]
          refine t_X13_findRanges_258 (ixN (by omega) (by omega)) (ixN (by omega) (by omega)) ?_
          rw [nI_clamp (by omega), nI_clamp (by omega)]
          have w3 : (if nI i = nI (i + n) then 0 else 1) + gI (sI (sI M' 76 (49 * r + i) (nI (x.1 + off i))) 77 (49 * r + i) (nI x.2.1)) 78 (49 * (r + 1) + (i + n)) = nI x.2.2 := v3
          rw [w3, nI_1]
          refine ih (n + 1) _ (by omega) (((hf.sI rfl).sI rfl).sI rfl) (fun a ha => ?_) ?_
          · obtain ⟨o1, o2, o3⟩ := ho a ha
            refine ⟨?_, ?_, ?_⟩
            · rw [gI_o (by omega), gI_o (by omega), gI_oi ha]; exact o1
            · rw [gI_o (by omega), gI_oi ha, gI_o (by omega)]; exact o2
            · rw [gI_oi ha, gI_o (by omega), gI_o (by omega)]; exact o3
          · rw [efold, hx, hb]
            refine ⟨fun y hy => ?_, fun hy => by cases hy⟩
            cases hy
            refine ⟨?_, ?_, ?_⟩
            · rw [gI_o (by omega), gI_o (by omega), gI_self]
            · rw [gI_o (by omega), gI_self]
            · rw [gI_self]
      cases hb : foldB (cnd M0 w h r i) n with
      | none =>
        rw [hb] at hcur put
        obtain ⟨u1, u2, u3⟩ := hcur.2 rfl
        obtain ⟨s1, s2, s3⟩ := hsx
        have pos : 0 < (if nI (x.1 + off i) = gI M' 76 (49 * r + i) then if nI x.2.1 = gI M' 77 (49 * r + i) then gI M' 78 (49 * r + i) - nI x.2.2 else gI M' 77 (49 * r + i) - nI x.2.1 else gI M' 76 (49 * r + i) - nI (x.1 + off i)) := by
          rw [u1, if_neg (by rw [nI_eq (by omega) (by omega)]; omega), i_lt, sub_nI (by omega) (by omega)]
          have := n0
          omega
        exact t_X13_findRanges_179 (fun _ => ixN (by omega) (by omega)) (fun _ => put rfl) (fun q => absurd pos q)
      | some y =>
        rw [hb] at hcur put
        obtain ⟨u1, u2, u3⟩ := hcur.1 y rfl
        have hsy := bnd n (by omega) y hb
        have cv := (cmp_val hsx hsy ho6).1
        rw [u1, u2, u3]
        refine t_X13_findRanges_179 (fun _ => ixN (by omega) (by omega)) (fun q => put ?_) (fun q => ?_)
        · exact if_pos (cv.mp q)
        · rw [nI_1]
          refine ih (n + 1) M' (by omega) hf ho ?_
          rw [efold, hb, hx]
          have : better (some y) (some x) = some y := if_neg (fun z => q (cv.mpr z))
          rw [this]
          exact hcur
end RangeM
