/-! KEY: class and model, move by move -/
/-- the best so far: points, move, left out, octaves -/
def kf (L : Int32 → Bool) (bell : Nat → Int32) (k : Nat) (s : Nat × Int32 × Nat × Nat) (m : Int32) : Nat × Int32 × Nat × Nat :=
  if (kc L bell m k 0).2 + 3 * (kc L bell m k 0).1 < s.1 then ((kc L bell m k 0).2 + 3 * (kc L bell m k 0).1, m, (kc L bell m k 0).1, (kc L bell m k 0).2) else s
theorem kf_le {L : Int32 → Bool} {bell : Nat → Int32} {k B : Nat} {s : Nat × Int32 × Nat × Nat} {m : Int32} (h : s.1 ≤ B) : (kf L bell k s m).1 ≤ B := by
  unfold kf
  split
  · simp only; omega
  · exact h
def mvL : Nat → Nat → List Int32
  | 0, _ => []
  | j + 1, f => nI f :: (-(nI f)) :: mvL j (f + 1)
def sKey (c i : Nat) : Bool := c == 44 && (i == 4 || i == 5 || i == 6)
def KM (M0 : Mem) (s : Nat × Int32 × Nat × Nat) (M : Mem) : Prop := Fr sKey M0 M ∧ gI M 44 4 = s.2.1 ∧ gI M 44 5 = nI s.2.2.1 ∧ gI M 44 6 = nI s.2.2.2
section KeyC
variable {l : Launch} {D : va_G} {ad : Nat → Nat} {kA : Nat → ClassId} {Q : Outcome → Mem → Prop}
theorem ct_tryMove {L : Int32 → Bool} {M0 M : Mem} {k P : Nat} {m : Int32} (hL : ∀ b, L b = true → 0 ≤ b.toInt ∧ b.toInt ≤ 47) (hy : lyOk L M0) (hk : gI M0 9 4 = nI k) (hk2 : k ≤ 160) (hF : Fr sKey M0 M) (hP : P < 2147483648)
    (K1 : (kc L (gI M0 11) m k 0).2 + 3 * (kc L (gI M0 11) m k 0).1 < P → ∀ M', KM M0 ((kc L (gI M0 11) m k 0).2 + 3 * (kc L (gI M0 11) m k 0).1, m, (kc L (gI M0 11) m k 0).1, (kc L (gI M0 11) m k 0).2) M' → Q (.returned (some (.int (nI ((kc L (gI M0 11) m k 0).2 + 3 * (kc L (gI M0 11) m k 0).1))))) M')
    (K2 : ¬ (kc L (gI M0 11) m k 0).2 + 3 * (kc L (gI M0 11) m k 0).1 < P → Q (.returned (some (.int (nI P)))) M) : Cal l D ad kA mX2_tryMove [.ref (ad 44), .int m, .int (nI P)] M Q := by
  have e11 : gI M 11 = gI M0 11 := by funext b; exact hF.1 11 b rfl
  have hy2 : lyOk L M := fun b hb => by rw [hF.1 51 b rfl]; exact hy b hb
  have e9 : gI M 9 4 = nI k := by rw [hF.1 9 4 rfl, hk]
  have hb := kc_le L (gI M0 11) m k 0
  refine en_X2_tryMove (t_X2_tryMove_0 (lp_tryMove hL hy2 (by rw [e9, i_nI (by omega)]; omega) k 0 0 0 (by rw [e9, i_nI (by omega)]; omega) (Nat.le_refl 0) (fun O C hO hC q => ?_) (fun O C hO hC q => ?_)))
  · rw [e11, Nat.zero_add] at hO hC
    subst hO; subst hC
    rw [i_lt, i_nI (by omega), i_nI (by omega)] at q
    exact K1 (by omega) _ ⟨((hF.sI rfl).sI rfl).sI rfl, rfl, rfl, rfl⟩
  · rw [e11, Nat.zero_add] at hO hC
    subst hO; subst hC
    rw [i_lt, i_nI (by omega), i_nI (by omega)] at q
    exact K2 (by omega)
theorem tm {L : Int32 → Bool} {M0 M : Mem} {k : Nat} {m : Int32} {s : Nat × Int32 × Nat × Nat} (hL : ∀ b, L b = true → 0 ≤ b.toInt ∧ b.toInt ≤ 47) (hy : lyOk L M0) (hk : gI M0 9 4 = nI k) (hk2 : k ≤ 160) (hs : s.1 ≤ 480) (hM : KM M0 s M)
    (K : ∀ M', KM M0 (kf L (gI M0 11) k s m) M' → Q (.returned (some (.int (nI (kf L (gI M0 11) k s m).1)))) M') : Cal l D ad kA mX2_tryMove [.ref (ad 44), .int m, .int (nI s.1)] M Q := by
  refine ct_tryMove hL hy hk hk2 hM.1 (by omega) (fun q M' h => ?_) (fun q => ?_)
  · unfold kf at K
    rw [if_pos q] at K
    exact K M' h
  · unfold kf at K
    rw [if_neg q] at K
    exact K M hM
theorem lp_seek {L : Int32 → Bool} {M0 : Mem} {k : Nat} (hL : ∀ b, L b = true → 0 ≤ b.toInt ∧ b.toInt ≤ 47) (hy : lyOk L M0) (hk : gI M0 9 4 = nI k) (hk2 : k ≤ 160) : ∀ (j f : Nat) (s : Nat × Int32 × Nat × Nat) (M : Mem), f + j = 13 → s.1 ≤ 480 → KM M0 s M →
    (∀ M', KM M0 ((mvL j f).foldl (kf L (gI M0 11) k) s) M' → Q (.returned (some (.int (nI ((mvL j f).foldl (kf L (gI M0 11) k) s).1)))) M') →
    Fw l D ad kA mX2_seekKey 38 [some (.ref (ad 44)), none, none, some (.int (nI s.1)), some (.int (nI f))] [] M Q := by
  intro j
  induction j with
  | zero =>
    intro f s M hf hs hM K
    have hlt : (12 : Int32) < nI f := by rw [i_lt, i_nI (by omega), n12]; omega
    exact t_X2_seekKey_38 (fun _ => K M hM) (fun q => absurd hlt q)
  | succ j ih =>
    intro f s M hf hs hM K
    have hnlt : ¬ (12 : Int32) < nI f := by rw [i_lt, i_nI (by omega), n12]; omega
    refine t_X2_seekKey_38 (fun q => absurd q hnlt) (fun _ => tm hL hy hk hk2 hs hM (fun M1 h1 => ⟨_, rfl, t_X2_seekKey_52 (tm hL hy hk hk2 (kf_le hs) h1 (fun M2 h2 => ⟨_, rfl, t_X2_seekKey_61 ?_⟩))⟩))
    rw [nI_1]
    exact ih (f + 1) _ M2 (by omega) (kf_le (kf_le hs)) h2 K
theorem lp_fill {d k : Int32} {M0 : Mem} (h : RDays M0) : ∀ (j i : Nat) (M : Mem), i + j = 48 → Fr (fun c _ => c == 51) M0 M → (∀ b, b < i → (gI M 51 b = 0 ∨ gI M 51 b = 1) ∧ (gI M 51 b = 1 ↔ thr M0 (nI b) d k)) →
    (∀ M', Fr (fun c _ => c == 51) M0 M' → (∀ b, b < 48 → (gI M' 51 b = 0 ∨ gI M' 51 b = 1) ∧ (gI M' 51 b = 1 ↔ thr M0 (nI b) d k)) → Fw l D ad kA mX2_seekKey 38 [some (.ref (ad 44)), none, none, some (.int 16777216), some (.int 0)] [] (sI M' 44 3 1) Q) →
    Fw l D ad kA mX2_seekKey 2 [some (.ref (ad 44)), some (.int d), some (.int k), some (.int (nI i)), none] [] M Q := by
  have q48 : (48 : Int32).toInt = 48 := by decide
  have same : ∀ M, Fr (fun c _ => c == 51) M0 M → ∀ b, thr M b d k ↔ thr M0 b d k := by
    intro M hF b
    have e : ∀ j i, noHit M b d k j i ↔ noHit M0 b d k j i := by
      intro j
      induction j with
      | zero => intro i; exact Iff.rfl
      | succ j ih =>
        intro i
        unfold noHit hit
        rw [ih, hF.1 45 i rfl, hF.1 46 i rfl, hF.1 47 i rfl, hF.1 48 i rfl, hF.1 49 i rfl, hF.1 50 i rfl]
    unfold thr
    rw [hF.1 44 2 rfl]
    exact e _ _
  intro j
  induction j with
  | zero =>
    intro i M hi hF hb K
    have hle : (48 : Int32) ≤ nI i := by rw [i_le, i_nI (by omega), q48]; omega
    exact t_X2_seekKey_2 (fun _ => K M hF (fun b q => hb b (by omega))) (fun q => absurd hle q)
  | succ j ih =>
    intro i M hi hF hb K
    have hnle : ¬ (48 : Int32) ≤ nI i := by rw [i_le, i_nI (by omega), q48]; omega
    have hR : RDays M := h.fr hF (fun c a q => by
      simp [sDays] at q ⊢; omega)
    have next : ∀ v : Int32, (v = 0 ∨ v = 1) → (v = 1 ↔ thr M0 (nI i) d k) → Fw l D ad kA mX2_seekKey 20 [some (.ref (ad 44)), some (.int d), some (.int k), some (.int (nI i)), none] [.int v, .int (nI i), .ref (ad 51)] M Q := by
      intro v hv hv2
      refine t_X2_seekKey_20 (vin_of (by rw [i_nI (by omega)]; omega) (by rw [i_nI (by omega)]; omega)) hv ?_
      rw [nI_1, nI_clamp (by omega)]
      refine ih (i + 1) _ (by omega) (hF.sI rfl) (fun b hb2 => ?_) K
      by_cases q : b = i
      · subst q; rw [gI_self]; exact ⟨hv, hv2⟩
      · rw [gI_oi q]; exact hb b (by omega)
    refine t_X2_seekKey_2 (fun q => absurd q hnle) (fun _ => ct_lies hR (fun t => ⟨_, rfl, next 1 (Or.inr rfl) ⟨fun _ => (same M hF _).mp t, fun _ => rfl⟩⟩) (fun t => ⟨_, rfl, next 0 (Or.inl rfl) ⟨fun q => absurd q (by decide), fun q => absurd ((same M hF _).mpr q) t⟩⟩))
end KeyC
