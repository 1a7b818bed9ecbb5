/-! HELP in the class: with one STROKE more -/
section Insert
variable {l : Launch} {D : va_G} {ad : Nat → Nat} {kA : Nat → ClassId} {M M0 : Mem} {Q : Outcome → Mem → Prop} {L : List Nat} {s : Nat}
theorem lp_rb10 (h : RowC M0 L s) (hsm : SameAll M0 s) (hr : RestOk M0 M0 L) (hf0 : Fr s21 M0 M) {k e : Nat} (hk : k < s) (he : 1 ≤ e) (he2 : e ≤ L.length)
    (K : Q (.returned (some (.int (nE (Ff (mvP M0) (hlP M0) L[e - 1]? (some k) (L.drop e)))))) M) : ∀ (j : Nat), e + j ≤ L.length →
    Fw l D ad kA mX3_restBeside 10 [some (.ref (ad 17)), some (.int (nI k)), some (.int (nI e)), some (.int (nE (Ff (mvP M0) (hlP M0) L[e + j - 1]? (some k) (L.drop (e + j))))), some (.int (nI (e + j) - 1)), none, none] [] M Q := by
  have h3 := h.2.2.1
  have hs160 := hsm.1
  obtain ⟨c1, c2⟩ := costs_fr hf0 (fun i => ⟨rfl, rfl, rfl, rfl, rfl⟩)
  have hrow := h.fr hf0 rfl (fun _ => rfl)
  have hsm' := hsm.fr hf0 (fun _ => ⟨⟨rfl, rfl, rfl, rfl, rfl⟩, rfl, rfl, rfl, rfl, rfl⟩)
  have hik : inO s (some k) := hk
  intro j
  induction j with
  | zero =>
    intro hj
    obtain ⟨m, rfl⟩ : ∃ m, e = m + 1 := ⟨e - 1, by omega⟩
    have hlt : nI (m + 1 + 0) - 1 < nI (m + 1) := by rw [Nat.add_zero, nI_pred]; exact nI_lt (by omega) (by omega)
    exact t_X3_restBeside_10 (fun q => absurd hlt q) (fun q => absurd hlt q) (fun q => absurd hlt q) (fun q => absurd hlt q) (fun q => absurd hlt q) (fun _ => K) (fun q => absurd hlt q)
  | succ j ih =>
    intro hj
    have et : nI (e + (j + 1)) - 1 = nI (e + j) := by rw [show e + (j + 1) = e + j + 1 by omega, nI_pred]
    rw [et]
    have hnlt : ¬ nI (e + j) < nI e := nI_nlt (by omega) (by omega)
    have ht : e + j < L.length := by omega
    have ht1 : e + j - 1 < L.length := by omega
    obtain ⟨b1, b2⟩ := hrow.at ht
    have a1 : gI M 19 (e + j - 1) = oC L[e + j - 1]? := by rw [(hrow.at ht1).1, List.getElem?_eq_getElem ht1]; rfl
    have hpl := inO_pos (s := s) h.2.2.2 (e + j - 1)
    have ep : nI (e + j) - 1 = nI (e + j - 1) := by
      obtain ⟨m, em⟩ : ∃ m, e + j = m + 1 := ⟨e + j - 1, by omega⟩
      rw [em, nI_pred]; rfl
    have ek : nI k = oC (some k) := rfl
    refine t_X3_restBeside_10 (fun _ => by rw [ep]; exact ix (by omega)) (fun _ => ix (by omega)) (fun _ => ?_) (fun _ => ?_) (fun _ => by rw [nI_1]; exact g_rest h3 (by omega) (by omega)) (fun q => absurd q hnlt) (fun _ => ?_)
    · rw [ep, nI_clamp (by omega), nI_clamp (by omega), a1, b1, ek]; exact g_step hs160 hpl hik b2
    · rw [ep, nI_clamp (by omega), nI_clamp (by omega), a1, b1, ek]; exact g_step hs160 hik hpl b2
    · rw [ep, show (nI (e + j - 1)).toNatClampNeg = e + j - 1 from nI_clamp (by omega), show (nI (e + j)).toNatClampNeg = e + j from nI_clamp (by omega), a1, b1]
      rw [show v_X3_step M (oC L[e + j - 1]?) (nI k) (nI L[e + j]) = nE (cs (mvP M0) (hlP M0) L[e + j - 1]? (some k) L[e + j]) by rw [ek, v_step hsm' hpl hik b2, c1, c2], show v_X3_step M (nI k) (oC L[e + j - 1]?) (nI L[e + j]) = nE (cs (mvP M0) (hlP M0) (some k) L[e + j - 1]? L[e + j]) by rw [ek, v_step hsm' hik hpl b2, c1, c2]]
      rw [nI_1, rest21 hr hf0 (by omega) (by omega) (by omega), show e + j + 1 - 1 = e + j by omega, dO_pos (by omega)]
      rw [show e + (j + 1) - 1 = e + j by omega, show e + (j + 1) = e + j + 1 by omega]
      have a2 := bigE_add (bigE_nE (cs (mvP M0) (hlP M0) L[e + j - 1]? (some k) L[e + j])) (bigE_nE (Ff (mvP M0) (hlP M0) L[e + j]? (some k) (L.drop (e + j + 1)))) (okN_cs _ _ _) (okN_F h3 _ _ _) (by have := nE_rng (cs (mvP M0) (hlP M0) L[e + j - 1]? (some k) L[e + j]); have := nE_rng (Ff (mvP M0) (hlP M0) L[e + j]? (some k) (L.drop (e + j + 1))); omega)
      have a3 := bigE_add (bigE_nE (cs (mvP M0) (hlP M0) (some k) L[e + j - 1]? L[e + j])) (bigE_nE (Ff (mvP M0) (hlP M0) L[e + j]? L[e + j - 1]? (L.drop (e + j + 1)))) (okN_cs _ _ _) (okN_F h3 _ _ _) (by have := nE_rng (cs (mvP M0) (hlP M0) (some k) L[e + j - 1]? L[e + j]); have := nE_rng (Ff (mvP M0) (hlP M0) L[e + j]? L[e + j - 1]? (L.drop (e + j + 1))); omega)
      have fin := bigE_least (b := 1000000) (bigE_min a2 a3)
      rw [nE_B] at fin
      rw [fin]
      have ih' := ih (by omega)
      rw [ep] at ih'
      have e2 : nI (e + j) + (-1) = nI (e + j - 1) := by rw [i_eq, i_add, i_nI, i_nI, nm1] <;> (try rw [i_nI]) <;> (try rw [nm1]) <;> omega
      rw [e2]
      have ev : nE (min 1000000 (min (cs (mvP M0) (hlP M0) L[e + j - 1]? (some k) L[e + j] + Ff (mvP M0) (hlP M0) L[e + j]? (some k) (L.drop (e + j + 1))) (cs (mvP M0) (hlP M0) (some k) L[e + j - 1]? L[e + j] + Ff (mvP M0) (hlP M0) L[e + j]? L[e + j - 1]? (L.drop (e + j + 1))))) = nE (Ff (mvP M0) (hlP M0) L[e + j - 1]? (some k) (L.drop (e + j))) := by
        rw [List.drop_eq_getElem_cons ht, List.getElem?_eq_getElem ht]
        refine nE_cap ?_
        show min 1000000 (min 1000000 _) = min 1000000 (min _ _)
        omega
      rw [ev]
      exact ih'
theorem ct_restBeside (h : RowC M0 L s) (hsm : SameAll M0 s) (hr : RestOk M0 M0 L) (hf0 : Fr s21 M0 M) {k d : Nat} (hk : k < s) (hd : d ≤ L.length)
    (K : ∀ z : Int32, (d < L.length → z = nE (Ff (mvP M0) (hlP M0) L[d]? (some k) (L.drop (d + 1)))) → Q (.returned (some (.int z))) M) : Cal l D ad kA mX3_restBeside [.ref (ad 17), .int (nI k), .int (nI (d + 1))] M Q := by
  have h3 := h.2.2.1
  have hrow := h.fr hf0 rfl (fun _ => rfl)
  refine en_X3_restBeside (t_X3_restBeside_0 ?_)
  rw [hrow.1]
  by_cases c : d < L.length
  · have := lp_rb10 (l := l) (D := D) (ad := ad) (kA := kA) (Q := Q) h hsm hr hf0 (k := k) (e := d + 1) hk (by omega) (by omega) (K _ (fun _ => rfl)) (L.length - (d + 1)) (by omega)
    rw [show d + 1 + (L.length - (d + 1)) = L.length by omega, List.drop_of_length_le (Nat.le_refl _)] at this
    have e0 : nE (Ff (mvP M0) (hlP M0) L[L.length - 1]? (some k) []) = 0 := nE_0
    rw [e0] at this
    exact this
  · have hlt : nI L.length - 1 < nI (d + 1) := by
      cases hL : L.length with
      | zero => rw [i_lt, i_nI (by omega)]; have : (nI 0 - 1).toInt = -1 := by decide
                omega
      | succ m => rw [nI_pred]; exact nI_lt (by omega) (by omega)
    exact t_X3_restBeside_10 (fun q => absurd hlt q) (fun q => absurd hlt q) (fun q => absurd hlt q) (fun q => absurd hlt q) (fun q => absurd hlt q) (fun _ => K 0 (fun q => absurd q c)) (fun q => absurd hlt q)
/-- what is left behind a STROKE from outside -/
theorem v_behind (h : RowC M0 L s) (hsm : SameAll M0 s) (hr : RestOk M0 M0 L) (hf0 : Fr s21 M0 M) {k d o : Nat} (hk : k < s) (hd : d ≤ L.length) (ho : o < d + 1) {z : Int32} (hz : d < L.length → z = nE (Ff (mvP M0) (hlP M0) L[d]? (some k) (L.drop (d + 1)))) :
    (bigE (v_X3_restBehind M (nI k) (nI o) (nI d) z) (Ff (mvP M0) (hlP M0) (some k) (dO L o) (L.drop d)) ∧ (v_X3_restBehind M (nI k) (nI o) (nI d) z).toInt ≤ 33554432) ∧ g_X3_restBehind M (nI k) (nI o) (nI d) z := by
  have h3 := h.2.2.1
  have hs160 := hsm.1
  obtain ⟨c1, c2⟩ := costs_fr hf0 (fun i => ⟨rfl, rfl, rfl, rfl, rfl⟩)
  have hrow := h.fr hf0 rfl (fun _ => rfl)
  have hsm' := hsm.fr hf0 (fun _ => ⟨⟨rfl, rfl, rfl, rfl, rfl⟩, rfl, rfl, rfl, rfl, rfl⟩)
  have hik : inO s (some k) := hk
  have hpb := inO_d (s := s) h.2.2.2 o
  obtain ⟨d1, d2⟩ := v_did hrow (o := o) (by omega)
  have ek : nI k = oC (some k) := rfl
  unfold v_X3_restBehind g_X3_restBehind
  rw [hrow.1]
  by_cases c : d < L.length
  · have hlt := nI_lt (a := d) (b := L.length) c (by omega)
    obtain ⟨b1, b2⟩ := hrow.at c
    rw [if_pos hlt, d1, nI_clamp (by omega), b1, nI_1, hz c]
    have e1 : v_X3_step M (nI k) (oC (dO L o)) (nI L[d]) = nE (cs (mvP M0) (hlP M0) (some k) (dO L o) L[d]) := by rw [ek, v_step hsm' hik hpb b2, c1, c2]
    have e2 : v_X3_step M (oC (dO L o)) (nI k) (nI L[d]) = nE (cs (mvP M0) (hlP M0) (dO L o) (some k) L[d]) := by rw [ek, v_step hsm' hpb hik b2, c1, c2]
    rw [e1, e2, rest21 hr hf0 (by omega) (by omega) ho, show d + 1 - 1 = d by omega, List.getElem?_eq_getElem c, List.drop_eq_getElem_cons c]
    have r1 := nE_rng (cs (mvP M0) (hlP M0) (some k) (dO L o) L[d])
    have r2 := nE_rng (Ff (mvP M0) (hlP M0) (some L[d]) (dO L o) (L.drop (d + 1)))
    have r3 := nE_rng (cs (mvP M0) (hlP M0) (dO L o) (some k) L[d])
    have r4 := nE_rng (Ff (mvP M0) (hlP M0) (some L[d]) (some k) (L.drop (d + 1)))
    have a1 := bigE_add (bigE_nE (cs (mvP M0) (hlP M0) (some k) (dO L o) L[d])) (bigE_nE (Ff (mvP M0) (hlP M0) (some L[d]) (dO L o) (L.drop (d + 1)))) (okN_cs _ _ _) (okN_F h3 _ _ _) (by omega)
    have a2 := bigE_add (bigE_nE (cs (mvP M0) (hlP M0) (dO L o) (some k) L[d])) (bigE_nE (Ff (mvP M0) (hlP M0) (some L[d]) (some k) (L.drop (d + 1)))) (okN_cs _ _ _) (okN_F h3 _ _ _) (by omega)
    refine ⟨⟨bigE_min a1 a2, ?_⟩, fun _ => ix (by omega), fun _ => d2, fun _ => ?_, fun _ => g_rest h3 (by omega) (by omega), fun _ => ?_⟩
    · rw [i_min, nE_add, nE_add]
      split <;> omega
    · rw [ek]; exact g_step hs160 hik hpb b2
    · rw [ek]; exact g_step hs160 hpb hik b2
  · have hnlt : ¬ nI d < nI L.length := nI_nlt (by omega) (by omega)
    rw [if_neg hnlt, List.drop_of_length_le (by omega)]
    exact ⟨⟨by show bigE 0 0; rw [← nE_0]; exact bigE_nE 0, by rw [n0]; omega⟩, fun q => absurd q hnlt, fun q => absurd q hnlt, fun q => absurd q hnlt, fun q => absurd q hnlt, fun q => absurd q hnlt⟩
theorem lp_ti27 (h : RowC M0 L s) (hsm : SameAll M0 s) (hr : RestOk M0 M0 L) (hf0 : Fr s21 M0 M) {k d : Nat} (hk : k < s) (hd : d ≤ L.length) (hp : PastOk M0 M L d) {z : Int32} (hz : d < L.length → z = nE (Ff (mvP M0) (hlP M0) L[d]? (some k) (L.drop (d + 1))))
    (K : Q (.returned (some (.int (nE (Ff (mvP M0) (hlP M0) none none (L.take d ++ k :: L.drop d)))))) M) : ∀ (j o : Nat), o + j = max 1 d →
    Fw l D ad kA mX3_takesInserting 27 [some (.ref (ad 17)), some (.int (nI k)), some (.int (nI d)), some (.int (oC (dO L d))), some (.int z), some (.int (nE (mnF (fun o => Pw (mvP M0) (hlP M0) L d o + cs (mvP M0) (hlP M0) (dO L d) (dO L o) k + Ff (mvP M0) (hlP M0) (some k) (dO L o) (L.drop d)) o))), some (.int (nE (mnF (fun o => Pw (mvP M0) (hlP M0) L d o + cs (mvP M0) (hlP M0) (dO L o) (dO L d) k) o))), some (.int (nI o)), none, none] [] M Q := by
  have h3 := h.2.2.1
  have hs160 := hsm.1
  have hov := v_others (d := d) (by omega)
  obtain ⟨c1, c2⟩ := costs_fr hf0 (fun i => ⟨rfl, rfl, rfl, rfl, rfl⟩)
  have hrow := h.fr hf0 rfl (fun _ => rfl)
  have hsm' := hsm.fr hf0 (fun _ => ⟨⟨rfl, rfl, rfl, rfl, rfl⟩, rfl, rfl, rfl, rfl, rfl⟩)
  have hpd := inO_d (s := s) h.2.2.2 d
  intro j
  induction j with
  | zero =>
    intro o ho
    have hle : v_X3_others (nI d) ≤ nI o := by rw [hov, nI_leI (by omega) (by omega)]; omega
    obtain ⟨⟨w1, w2⟩, w3⟩ := v_behind h hsm hr hf0 hk hd (o := d) (by omega) hz
    refine t_X3_takesInserting_27 (fun _ => w3) (fun q => absurd hle q) (fun q => absurd hle q) (fun q => absurd hle q) (fun q => absurd hle q) (fun q => absurd hle q) (fun _ => ?_) (fun q => absurd hle q)
    have r0 := nE_rng (mnF (fun o => Pw (mvP M0) (hlP M0) L d o + cs (mvP M0) (hlP M0) (dO L o) (dO L d) k) o)
    rw [bigE_least (bigE_add (bigE_nE _) w1 (okN_mn (fun o => okN_Pc (by omega) o _ _ _) _) (okN_F h3 _ _ _) (by omega))]
    have dc := decomp (mv := mvP M0) (hl := hlP M0) (L := L) d hd (k :: L.drop d)
    have e1 : mnF (fun o => Pw (mvP M0) (hlP M0) L d o + Ff (mvP M0) (hlP M0) (dO L d) (dO L o) (k :: L.drop d)) (max 1 d) = min (mnF (fun o => Pw (mvP M0) (hlP M0) L d o + cs (mvP M0) (hlP M0) (dO L d) (dO L o) k + Ff (mvP M0) (hlP M0) (some k) (dO L o) (L.drop d)) (max 1 d)) (mnF (fun o => Pw (mvP M0) (hlP M0) L d o + cs (mvP M0) (hlP M0) (dO L o) (dO L d) k + Ff (mvP M0) (hlP M0) (some k) (dO L d) (L.drop d)) (max 1 d)) := by
      rw [← mnF_min]
      refine mnF_ext _ (fun o _ => ?_)
      show Pw (mvP M0) (hlP M0) L d o + min _ _ = _
      omega
    have e2 := mnF_add (f := fun o => Pw (mvP M0) (hlP M0) L d o + cs (mvP M0) (hlP M0) (dO L o) (dO L d) k) (x := Ff (mvP M0) (hlP M0) (some k) (dO L d) (L.drop d)) (max 1 d)
    have e2' : mnF (fun o => Pw (mvP M0) (hlP M0) L d o + cs (mvP M0) (hlP M0) (dO L o) (dO L d) k + Ff (mvP M0) (hlP M0) (some k) (dO L d) (L.drop d)) (max 1 d) = min 1000000 (mnF (fun o => Pw (mvP M0) (hlP M0) L d o + cs (mvP M0) (hlP M0) (dO L o) (dO L d) k) (max 1 d) + Ff (mvP M0) (hlP M0) (some k) (dO L d) (L.drop d)) := e2
    have e3 := mnF_le (f := fun o => Pw (mvP M0) (hlP M0) L d o + cs (mvP M0) (hlP M0) (dO L d) (dO L o) k + Ff (mvP M0) (hlP M0) (some k) (dO L o) (L.drop d)) (max 1 d)
    rw [e1, e2'] at dc
    rw [show o = max 1 d by omega]
    rw [nE_cap (y := Ff (mvP M0) (hlP M0) none none (L.take d ++ k :: L.drop d)) (by rw [dc]; omega)]
    exact K
  | succ j ih =>
    intro o ho
    have hnle : ¬ v_X3_others (nI d) ≤ nI o := by rw [hov, nI_leI (by omega) (by omega)]; omega
    have hod : o < d + 1 := by omega
    obtain ⟨d1, d2⟩ := v_did hrow (o := o) (by omega)
    have hpb := inO_d (s := s) h.2.2.2 o
    have e21 := hp o (by omega)
    obtain ⟨⟨w1, w2⟩, w3⟩ := v_behind h hsm hr hf0 hk hd hod hz
    refine t_X3_takesInserting_27 (fun q => absurd q hnle) (fun _ => d2) (fun _ => ix (by omega)) (fun _ => by rw [d1]; exact g_step hs160 hpd hpb hk) (fun _ => w3) (fun _ => by rw [d1]; exact g_step hs160 hpb hpd hk) (fun q => absurd q hnle) (fun _ => ?_)
    rw [d1, v_step hsm' hpd hpb hk, v_step hsm' hpb hpd hk, show (nI o).toNatClampNeg = o from nI_clamp (by omega), e21, c1, c2]
    have r0 := nE_rng (Pw (mvP M0) (hlP M0) L d o)
    have r1 := nE_rng (cs (mvP M0) (hlP M0) (dO L d) (dO L o) k)
    have b1 := bigE_add (bigE_nE (Pw (mvP M0) (hlP M0) L d o)) (bigE_nE (cs (mvP M0) (hlP M0) (dO L d) (dO L o) k)) (okN_P (by omega) o) (okN_cs _ _ _) (by omega)
    have b2 := bigE_add b1 w1 (okN_Pc (by omega) o _ _ _) (okN_F h3 _ _ _) (by rw [nE_add]; omega)
    rw [bigE_least b2, nE_least2 (okN_P (by omega) o) (okN_cs _ _ _), nI_1]
    exact ih (o + 1) (by omega)
theorem ct_takesInserting (h : RowC M0 L s) (hsm : SameAll M0 s) (hr : RestOk M0 M0 L) (hf0 : Fr s21 M0 M) {k d : Nat} (hk : k < s) (hd : d ≤ L.length) (hp : PastOk M0 M L d)
    (K : Q (.returned (some (.int (nE (Ff (mvP M0) (hlP M0) none none (L.take d ++ k :: L.drop d)))))) M) : Cal l D ad kA mX3_takesInserting [.ref (ad 17), .int (nI k), .int (nI d)] M Q := by
  have hrow := h.fr hf0 rfl (fun _ => rfl)
  obtain ⟨d1, d2⟩ := v_did hrow (o := d) (by omega)
  refine en_X3_takesInserting (t_X3_takesInserting_0 d2 ?_)
  rw [nI_1]
  refine ct_restBeside h hsm hr hf0 hk hd (fun z hz => ⟨_, rfl, t_X3_takesInserting_14 ?_⟩)
  rw [d1]
  exact lp_ti27 h hsm hr hf0 hk hd hp hz K (max 1 d) 0 (by omega)
end Insert
