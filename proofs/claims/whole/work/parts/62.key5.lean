/-! KEY: the pair -/
section KeyQ
variable {l : Launch} {D : va_G} {ad : Nat → Nat} {kA : Nat → ClassId} {Q : Outcome → Mem → Prop}
theorem ly_of {M M1 : Mem} {d k : Int32} (hy : ∀ b, b < 48 → (gI M1 51 b = 0 ∨ gI M1 51 b = 1) ∧ (gI M1 51 b = 1 ↔ thr M (nI b) d k)) : lyOk (LB M d k) (sI M1 44 3 1) := by
  intro b hb
  obtain ⟨g1, g2⟩ := hy b hb
  have e : gI (sI M1 44 3 1) 51 b = gI M1 51 b := gI_o (fun q => absurd q.1 (by decide))
  rw [e]
  refine ⟨g1, ?_⟩
  rw [g2, LB_t]
  unfold okB
  rw [i_nI (by omega)]
  constructor
  · exact fun t => ⟨by omega, t⟩
  · exact fun t => t.2
theorem ct_seekKey {M : Mem} {d k : Int32} {K : Nat} (h : RDays M) (hk : gI M 9 4 = nI K) (hk2 : K ≤ 160)
    (Kf : ∀ M', Fr sKc M M' → gI M' 44 3 = 1 → gI M' 44 4 = (kBest (LB M d k) (gI M 11) K).2.1 → gI M' 44 5 = nI (kBest (LB M d k) (gI M 11) K).2.2.1 → gI M' 44 6 = nI (kBest (LB M d k) (gI M 11) K).2.2.2 → Q (.returned (some (.int (nI (kBest (LB M d k) (gI M 11) K).1)))) M') :
    Cal l D ad kA mX2_seekKey [.ref (ad 44), .int d, .int k] M Q := by
  have hL : ∀ b, LB M d k b = true → 0 ≤ b.toInt ∧ b.toInt ≤ 47 := fun b q => (LB_t.mp q).1
  unfold kBest at Kf
  refine en_X2_seekKey (t_X2_seekKey_0 (lp_fill h 48 0 M rfl Fr.rf (fun b hb => by omega) (fun M1 hF1 hy => ?_)))
  have fa : Fr sKc M (sI M1 44 3 1) := (hF1.mono (fun c i q => by simp [sKc] at q; simp; omega)).sI rfl
  have e11 : gI (sI M1 44 3 1) 11 = gI M 11 := by funext b; rw [gI_o (fun q => absurd q.1 (by decide))]; exact hF1.1 11 b rfl
  have e9 : gI (sI M1 44 3 1) 9 4 = nI K := by rw [gI_o (fun q => absurd q.1 (by decide)), hF1.1 9 4 rfl, hk]
  refine seek38 hL (ly_of hy) e9 hk2 (fun M4 h4 => ?_)
  rw [e11] at h4 ⊢
  obtain ⟨f4, a4, a5, a6⟩ := h4
  refine Kf M4 (fa.tr (f4.mono (fun c i q => by simp [sKc] at q; simp [sKey]; omega))) ?_ a4 a5 a6
  rw [f4.1 44 3 rfl]; exact gI_self
theorem pr_key {M : Mem} {x y : Int32} (h : RDays M) (hs : RScore M) : Two l D ad kA mX11_key mX13_key [.int x, .int y] M (fun M2 => Fr sKp M M2 ∧ (M2 = M ∨ RKey M2)) := by
  have bad : ((x.toInt < 0 ∨ 999 < x.toInt) ∨ (y.toInt < 0 ∨ 999 < y.toInt)) → Cal l D ad kA mX13_key (.ref (ad 54) :: [.int x, .int y]) M (fun oc2 M2 => oc2 = .returned (some (.int (-2))) ∧ Fr sKp M M2 ∧ (M2 = M ∨ RKey M2)) := by
    intro hb
    have w : ¬ ((¬ v_X13_isDay x = 0) ∧ (¬ v_X13_isDay y = 0)) := by rw [day0m, day0m]; omega
    exact en_X13_key (t_X13_key_0 (fun _ => ⟨rfl, Fr.rf, Or.inl rfl⟩) (fun a b => absurd ⟨a, b⟩ w) (fun _ _ => ⟨rfl, Fr.rf, Or.inl rfl⟩))
  refine en_X11_key (t_X11_key_0 (fun c => ⟨_, rfl, bad (Or.inl (day0.mp c))⟩) (fun c1 c2 => ?_) (fun c1 c2 => ⟨_, rfl, bad (Or.inr (day0.mp c2))⟩))
  rw [day0] at c1 c2
  have d1 : ¬ v_X13_isDay x = 0 := by rw [day0m]; exact c1
  have d2 : ¬ v_X13_isDay y = 0 := by rw [day0m]; exact c2
  obtain ⟨s1, s2, s3, -⟩ := hs
  obtain ⟨K, hK1, hK2, hK3⟩ := i_nat s2.1
  refine ct_seekKey h hK1 (by omega) (fun M1 f1 a3 a4 a5 a6 => ⟨_, rfl, t_X11_key_26 ⟨_, rfl, ?_⟩⟩)
  have hR : RDays M1 := h.fr f1 (fun c i q => by simp [sDays, sKc] at q ⊢; omega)
  have eL : LB M1 x y = LB M x y := LB_fr f1 (fun c i q => by simp [sKc] at q ⊢; omega) x y
  have e57 : gI M1 57 = gI M 57 := by funext b; exact f1.1 57 b rfl
  have e10 : gI M1 54 10 = nI K := by rw [f1.1 54 10 rfl, ← s1, hK1]
  have eb : kBest (LB M x y) (gI M 57) K = kBest (LB M x y) (gI M 11) K := kBest_congr (fun a ha => (s3 a (by omega)).1.2.1.symm)
  refine ct_keyM hR e10 (by omega) d1 d2 (fun M2 h2 => ?_)
  rw [eL, e57, eb] at h2 ⊢
  obtain ⟨f2, b4, b5, b6⟩ := h2
  refine ⟨rfl, ((f1.mono (fun c i q => by simp [sKp] at q; simp [sKc]; omega)).tr (f2.mono (fun c i q => by simp [sKp] at q; simp [sKeyM]; omega))).sI rfl, Or.inr ⟨?_, fun _ => ⟨?_, ?_, ?_⟩⟩⟩
  · show gI M2 44 3 = 1
    rw [f2.1 44 3 rfl]; exact a3
  · show gI M2 44 4 = gI M2 54 55
    rw [f2.1 44 4 rfl, a4, b4]
  · show gI M2 44 5 = gI M2 54 56
    rw [f2.1 44 5 rfl, a5, b5]
  · show gI M2 44 6 = gI M2 54 57
    rw [f2.1 44 6 rfl, a6, b6]
end KeyQ
