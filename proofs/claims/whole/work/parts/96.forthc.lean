/-! HELP in the class: forth, skipping, inserting -/
theorem okN_mn {f : Nat → Nat} (h : ∀ o, okN (f o)) : ∀ n, okN (mnF f n) := by
  intro n
  induction n with
  | zero => exact .inr (Nat.le_refl _)
  | succ n ih =>
    have := h n
    unfold okN at *
    show min _ _ ≤ 1000 ∨ 1000000 ≤ min _ _
    omega
theorem v_others {d : Nat} (h : d ≤ 160) : v_X3_others (nI d) = nI (max 1 d) := by
  unfold v_X3_others imax
  rw [show (1 : Int32) = nI 1 from rfl]
  by_cases c : 1 < d
  · rw [if_pos ((nI_ltI (by omega) (by omega)).mpr c), Nat.max_eq_right (by omega)]
  · rw [if_neg (fun z => c ((nI_ltI (by omega) (by omega)).mp z)), Nat.max_eq_left (by omega)]
def PastOk (M0 M : Mem) (L : List Nat) (d : Nat) : Prop := ∀ o, o < max 1 d → gI M 21 o = nE (Pw (mvP M0) (hlP M0) L d o)
def s21 (c i : Nat) : Bool := c == 21
section ForthC
variable {l : Launch} {D : va_G} {ad : Nat → Nat} {kA : Nat → ClassId} {M M0 : Mem} {Q : Outcome → Mem → Prop} {L : List Nat} {s : Nat}
theorem okN_cs (p q : Option Nat) (n : Nat) : okN (cs (mvP M) (hlP M) p q n) := by
  have := cs_rng (hl := hlP M) (okP M) p q n
  unfold okN; omega
theorem okN_F (hl : L.length ≤ 160) (p q : Option Nat) (d : Nat) : okN (Ff (mvP M) (hlP M) p q (L.drop d)) := by
  have := Ff_b (hl := hlP M) (okP M) (L.drop d) p q
  have h2 : (L.drop d).length ≤ 160 := by rw [List.length_drop]; omega
  unfold okN; omega
theorem okN_P {d : Nat} (hd : d ≤ 160) (o : Nat) : okN (Pw (mvP M) (hlP M) L d o) := by
  have := Pw_b (hl := hlP M) (L := L) (okP M) d o
  unfold okN; omega
theorem okN_Pc {d : Nat} (hd : d ≤ 160) (o : Nat) (p q : Option Nat) (n : Nat) : okN (Pw (mvP M) (hlP M) L d o + cs (mvP M) (hlP M) p q n) := by
  have := Pw_b (hl := hlP M) (L := L) (okP M) d o
  have := cs_rng (hl := hlP M) (okP M) p q n
  unfold okN; omega
theorem getD_at {d : Nat} (h : d < L.length) : L.getD d 0 = L[d] := by rw [List.getD_eq_getElem?_getD, List.getElem?_eq_getElem h]; rfl
theorem lp_sf20 (h : RowC M0 L s) (hsm : SameAll M0 s) {d : Nat} (hd : d < L.length) (hp : ∀ o, o < max 1 d → gI M 21 o = nE (Pw (mvP M0) (hlP M0) L d o)) (hf0 : Fr s21 M0 M)
    (K : ∀ M', Fr s21 M M' → PastOk M0 M' L (d + 1) → Q (.returned none) M') : ∀ (j o : Nat) (M' : Mem), o + j = max 1 d → Fr s21 M M' → (∀ o', o' < o → gI M' 21 o' = nE (Pw (mvP M0) (hlP M0) L d o' + cs (mvP M0) (hlP M0) (dO L d) (dO L o') L[d])) → (∀ o', o ≤ o' → gI M' 21 o' = gI M 21 o') →
    Fw l D ad kA mX3_stepForth 20 [some (.ref (ad 17)), some (.int (nI d)), some (.int (nI L[d])), some (.int (oC (dO L d))), some (.int (nE (mnF (fun o' => Pw (mvP M0) (hlP M0) L d o' + cs (mvP M0) (hlP M0) (dO L o') (dO L d) L[d]) o))), some (.int (nI o)), none] [] M' Q := by
  have h3 := h.2.2.1
  have hs160 := hsm.1
  have hld := (h.at hd).2
  have hov := v_others (d := d) (by omega)
  have hgd := getD_at hd
  intro j
  induction j with
  | zero =>
    intro o M' ho hf hA hB
    have hle : v_X3_others (nI d) ≤ nI o := by rw [hov, nI_leI (by omega) (by omega)]; omega
    have hP : ∀ o', o' < max 1 d → Pw (mvP M0) (hlP M0) L (d + 1) o' = Pw (mvP M0) (hlP M0) L d o' + cs (mvP M0) (hlP M0) (dO L d) (dO L o') L[d] := by
      intro o' ho'
      show (if 1 ≤ d ∧ o' = d then _ else _) = _
      rw [if_neg (by omega), hgd]
    refine t_X3_stepForth_20 (fun _ _ => ix (by omega)) (fun q => absurd hle q) (fun q => absurd hle q) (fun q => absurd hle q) (fun q => absurd hle q) (fun _ c => K M' hf (fun o' ho' => ?_)) (fun _ c => ?_) (fun q => absurd hle q)
    · have : d = 0 := by
        apply Classical.byContradiction
        intro q
        exact nI_nle (by omega) (by omega) c
      subst this
      rw [hA o' (by omega), hP o' (by omega)]
    · have hd1 : 1 ≤ d := by
        apply Classical.byContradiction
        intro q
        apply c
        rw [show d = 0 by omega]
        decide
      rw [nI_clamp (by omega)]
      refine K _ (hf.sI rfl) (fun o' ho' => ?_)
      have hm : max 1 (d + 1) = d + 1 := by omega
      have hm2 : max 1 d = d := by omega
      rw [hm] at ho'
      by_cases e : o' = d
      · subst e
        rw [gI_self]
        show _ = nE (if 1 ≤ o' ∧ o' = o' then mnF (fun o'' => Pw (mvP M0) (hlP M0) L o' o'' + cs (mvP M0) (hlP M0) (dO L o'') (dO L o') (L.getD o' 0)) o' else _)
        rw [if_pos (by omega), hgd, show o = o' by omega]
      · rw [gI_oi e, hA o' (by omega), hP o' (by omega)]
  | succ j ih =>
    intro o M' ho hf hA hB
    have hnle : ¬ v_X3_others (nI d) ≤ nI o := by rw [hov, nI_leI (by omega) (by omega)]; omega
    have hf' := hf0.tr hf
    obtain ⟨c1, c2⟩ := costs_fr hf' (fun i => ⟨rfl, rfl, rfl, rfl, rfl⟩)
    have hrow := h.fr hf' rfl (fun _ => rfl)
    have hsm' := hsm.fr hf' (fun _ => ⟨⟨rfl, rfl, rfl, rfl, rfl⟩, rfl, rfl, rfl, rfl, rfl⟩)
    obtain ⟨d1, d2⟩ := v_did hrow (o := o) (by omega)
    have hpb := inO_d (s := s) h.2.2.2 o
    have hpd := inO_d (s := s) h.2.2.2 d
    have e21 : gI M' 21 o = nE (Pw (mvP M0) (hlP M0) L d o) := by rw [hB o (Nat.le_refl _)]; exact hp o (by omega)
    refine t_X3_stepForth_20 (fun q => absurd q hnle) (fun _ => d2) (fun _ => ix (by omega)) (fun _ => by rw [d1]; exact g_step hs160 hpb hpd hld) (fun _ => by rw [d1]; exact g_step hs160 hpd hpb hld) (fun q => absurd q hnle) (fun q => absurd q hnle) (fun _ => ?_)
    rw [d1, v_step hsm' hpb hpd hld, v_step hsm' hpd hpb hld, nI_clamp (by omega), e21, c1, c2, nE_least2 (okN_P (by omega) o) (okN_cs _ _ _), nE_sum2 (okN_P (by omega) o) (okN_cs _ _ _), nI_1]
    refine ih (o + 1) _ (by omega) (hf.sI rfl) (fun o' ho' => ?_) (fun o' ho' => ?_)
    · by_cases e : o' = o
      · subst e; rw [gI_self]
      · rw [gI_oi e]; exact hA o' (by omega)
    · rw [gI_oi (by omega)]; exact hB o' (by omega)
theorem ct_stepForth (h : RowC M0 L s) (hsm : SameAll M0 s) (hf0 : Fr s21 M0 M) {d : Nat} (hd : d < L.length) (hp : PastOk M0 M L d) (K : ∀ M', Fr s21 M M' → PastOk M0 M' L (d + 1) → Q (.returned none) M') : Cal l D ad kA mX3_stepForth [.ref (ad 17), .int (nI d)] M Q := by
  have h3 := h.2.2.1
  have hrow := h.fr hf0 rfl (fun _ => rfl)
  obtain ⟨d1, d2⟩ := v_did hrow (o := d) (by omega)
  refine en_X3_stepForth (t_X3_stepForth_0 (ix (by omega)) d2 ?_)
  rw [nI_clamp (by omega), (hrow.at hd).1, d1]
  exact lp_sf20 h hsm hd hp hf0 K (max 1 d) 0 M (by omega) Fr.rf (fun o' ho' => by omega) (fun _ _ => rfl)
/-- restOf in a memory where only what is past has changed -/
theorem rest21 (hr : RestOk M0 M0 L) (hf : Fr s21 M0 M) {d o : Nat} (h1 : 1 ≤ d) (hd : d ≤ L.length) (ho : o < d) : v_X3_restOf M (nI d) (nI o) = nE (Ff (mvP M0) (hlP M0) L[d - 1]? (dO L o) (L.drop d)) := by
  rw [restOf_fr hf rfl (fun _ => rfl)]
  exact (hr d o h1 hd ho).1
theorem lp_sk12 (h : RowC M0 L s) (hsm : SameAll M0 s) (hr : RestOk M0 M0 L) (hf0 : Fr s21 M0 M) {d : Nat} (hd : d < L.length) (hp : PastOk M0 M L d)
    (K : Q (.returned (some (.int (nE (Ff (mvP M0) (hlP M0) none none (L.take d ++ L.drop (d + 1))))))) M) : ∀ (j o : Nat), o + j = max 1 d →
    Fw l D ad kA mX3_takesSkipping 12 [some (.ref (ad 17)), some (.int (nI d)), some (.int (oC (dO L d))), some (.int (nE (mnF (fun o => Pw (mvP M0) (hlP M0) L d o + Ff (mvP M0) (hlP M0) (dO L d) (dO L o) (L.drop (d + 1))) o))), some (.int (nI o)), none, none, none, none, none] [] M Q := by
  have h3 := h.2.2.1
  have hs160 := hsm.1
  have hov := v_others (d := d) (by omega)
  obtain ⟨c1, c2⟩ := costs_fr hf0 (fun i => ⟨rfl, rfl, rfl, rfl, rfl⟩)
  have hrow := h.fr hf0 rfl (fun _ => rfl)
  have hsm' := hsm.fr hf0 (fun _ => ⟨⟨rfl, rfl, rfl, rfl, rfl⟩, rfl, rfl, rfl, rfl, rfl⟩)
  have e5 : gI M 17 5 = nI L.length := hrow.1
  intro j
  induction j with
  | zero =>
    intro o ho
    have hle : v_X3_others (nI d) ≤ nI o := by rw [hov, nI_leI (by omega) (by omega)]; omega
    refine t_X3_takesSkipping_12 (fun q => absurd hle q) (fun q => absurd hle q) (fun q => absurd hle q) (fun q => absurd hle q) (fun q => absurd hle q) (fun q => absurd hle q) (fun q => absurd hle q) (fun _ => ?_) (fun q => absurd hle q)
    have := decomp (mv := mvP M0) (hl := hlP M0) (L := L) d (by omega) (L.drop (d + 1))
    rw [show o = max 1 d by omega, ← this, nE_cap (y := Ff (mvP M0) (hlP M0) none none (L.take d ++ L.drop (d + 1))) (by omega)]
    exact K
  | succ j ih =>
    intro o ho
    have hnle : ¬ v_X3_others (nI d) ≤ nI o := by rw [hov, nI_leI (by omega) (by omega)]; omega
    obtain ⟨d1, d2⟩ := v_did hrow (o := o) (by omega)
    have hpb := inO_d (s := s) h.2.2.2 o
    have hpd := inO_d (s := s) h.2.2.2 d
    have e21 := hp o (by omega)
    have ex2 : nI d + 2 = nI (d + 2) := by rw [show (2 : Int32) = nI 2 from rfl, nI_add]
    have inl : ¬ gI M 17 5 ≤ nI d + 1 → d + 1 < L.length := by
      intro c
      rw [e5, nI_1, nI_leI (by omega) (by omega)] at c
      omega
    have more : bigE (if gI M 17 5 ≤ nI d + 1 then 0 else imin (v_X3_step M (oC (dO L d)) (v_X3_did M (nI o)) (gI M 19 (nI d + 1).toNatClampNeg) + v_X3_restOf M (nI d + 2) (nI o)) (v_X3_step M (v_X3_did M (nI o)) (oC (dO L d)) (gI M 19 (nI d + 1).toNatClampNeg) + v_X3_restOf M (nI d + 2) (nI d))) (Ff (mvP M0) (hlP M0) (dO L d) (dO L o) (L.drop (d + 1))) ∧ (if gI M 17 5 ≤ nI d + 1 then (0 : Int32) else imin (v_X3_step M (oC (dO L d)) (v_X3_did M (nI o)) (gI M 19 (nI d + 1).toNatClampNeg) + v_X3_restOf M (nI d + 2) (nI o)) (v_X3_step M (v_X3_did M (nI o)) (oC (dO L d)) (gI M 19 (nI d + 1).toNatClampNeg) + v_X3_restOf M (nI d + 2) (nI d))).toInt ≤ 33554432 := by
      by_cases c : gI M 17 5 ≤ nI d + 1
      · rw [if_pos c]
        rw [e5, nI_1, nI_leI (by omega) (by omega)] at c
        rw [List.drop_of_length_le c]
        exact ⟨by show bigE 0 0; rw [← nE_0]; exact bigE_nE 0, by rw [n0]; omega⟩
      · have hlt := inl c
        rw [if_neg c, nI_1, nI_clamp (by omega), (hrow.at hlt).1, d1, ex2, v_step hsm' hpd hpb (hrow.at hlt).2, v_step hsm' hpb hpd (hrow.at hlt).2, rest21 hr hf0 (by omega) (by omega) (by omega), rest21 hr hf0 (by omega) (by omega) (by omega), c1, c2]
        rw [show d + 2 - 1 = d + 1 by omega, List.getElem?_eq_getElem hlt, List.drop_eq_getElem_cons hlt]
        have r1 := nE_rng (cs (mvP M0) (hlP M0) (dO L d) (dO L o) L[d + 1])
        have r2 := nE_rng (Ff (mvP M0) (hlP M0) (some L[d + 1]) (dO L o) (L.drop (d + 2)))
        have r3 := nE_rng (cs (mvP M0) (hlP M0) (dO L o) (dO L d) L[d + 1])
        have r4 := nE_rng (Ff (mvP M0) (hlP M0) (some L[d + 1]) (dO L d) (L.drop (d + 2)))
        have a1 := bigE_add (bigE_nE (cs (mvP M0) (hlP M0) (dO L d) (dO L o) L[d + 1])) (bigE_nE (Ff (mvP M0) (hlP M0) (some L[d + 1]) (dO L o) (L.drop (d + 2)))) (okN_cs _ _ _) (okN_F h3 _ _ _) (by omega)
        have a2 := bigE_add (bigE_nE (cs (mvP M0) (hlP M0) (dO L o) (dO L d) L[d + 1])) (bigE_nE (Ff (mvP M0) (hlP M0) (some L[d + 1]) (dO L d) (L.drop (d + 2)))) (okN_cs _ _ _) (okN_F h3 _ _ _) (by omega)
        refine ⟨bigE_min a1 a2, ?_⟩
        rw [i_min, nE_add, nE_add]
        split <;> omega
    have r0 := nE_rng (Pw (mvP M0) (hlP M0) L d o)
    refine t_X3_takesSkipping_12 (fun _ => d2) (fun _ c => ?_) (fun _ c => ?_) (fun _ c => ?_) (fun _ c => ?_) (fun _ c => ?_) (fun _ => ix (by omega)) (fun q => absurd q hnle) (fun _ => ?_)
    · have := inl c; rw [nI_1]; exact ix (by omega)
    · have := inl c; rw [d1, nI_1, nI_clamp (by omega), (hrow.at this).1]; exact g_step hs160 hpd hpb (hrow.at this).2
    · have := inl c; rw [ex2]; exact g_rest h3 (by omega) (by omega)
    · have := inl c; rw [d1, nI_1, nI_clamp (by omega), (hrow.at this).1]; exact g_step hs160 hpb hpd (hrow.at this).2
    · have := inl c; rw [ex2]; exact g_rest h3 (by omega) (by omega)
    · rw [show (nI o).toNatClampNeg = o from nI_clamp (by omega), e21]
      rw [bigE_least (bigE_add (bigE_nE _) more.1 (okN_P (by omega) o) (okN_F h3 _ _ _) (by omega)), nI_1]
      exact ih (o + 1) (by omega)
theorem ct_takesSkipping (h : RowC M0 L s) (hsm : SameAll M0 s) (hr : RestOk M0 M0 L) (hf0 : Fr s21 M0 M) {d : Nat} (hd : d < L.length) (hp : PastOk M0 M L d)
    (K : Q (.returned (some (.int (nE (Ff (mvP M0) (hlP M0) none none (L.take d ++ L.drop (d + 1))))))) M) : Cal l D ad kA mX3_takesSkipping [.ref (ad 17), .int (nI d)] M Q := by
  have hrow := h.fr hf0 rfl (fun _ => rfl)
  obtain ⟨d1, d2⟩ := v_did hrow (o := d) (by omega)
  refine en_X3_takesSkipping (t_X3_takesSkipping_0 d2 ?_)
  rw [d1]
  exact lp_sk12 h hsm hr hf0 hd hp K (max 1 d) 0 (by omega)
end ForthC
