/-! KEY: the pair -/
theorem kc_congr {L : Int32 → Bool} {f g : Nat → Int32} {m : Int32} : ∀ (j i : Nat), (∀ a, i ≤ a → a < i + j → f a = g a) → kc L f m j i = kc L g m j i
  | 0, _, _ => rfl
  | j + 1, i, h => by
    have e := kc_congr (L := L) (f := f) (g := g) (m := m) j (i + 1) (fun a h1 h2 => h a (by omega) (by omega))
    have e2 := h i (Nat.le_refl i) (by omega)
    unfold kc
    rw [e, e2]
theorem kf_congr {L : Int32 → Bool} {f g : Nat → Int32} {k : Nat} (h : ∀ a, a < k → f a = g a) : kf L f k = kf L g k := by
  funext s m
  have e := kc_congr (L := L) (m := m) k 0 (fun a _ h2 => h a (by omega))
  unfold kf
  rw [e]
theorem kBest_congr {L : Int32 → Bool} {f g : Nat → Int32} {k : Nat} (h : ∀ a, a < k → f a = g a) : kBest L f k = kBest L g k := by
  have e := kc_congr (L := L) (m := 0) k 0 (fun a _ h2 => h a (by omega))
  unfold kBest k0
  rw [kf_congr h, e]
theorem kf_k0 {L : Int32 → Bool} {f : Nat → Int32} {k : Nat} : kf L f k (k0 L f k) 0 = k0 L f k := by
  unfold kf k0
  exact if_neg (Nat.lt_irrefl _)
theorem fold_le {L : Int32 → Bool} {f : Nat → Int32} {k B : Nat} : ∀ (ms : List Int32) (s : Nat × Int32 × Nat × Nat), s.1 ≤ B → (ms.foldl (kf L f k) s).1 ≤ B
  | [], _, h => h
  | m :: ms, s, h => fold_le ms _ (kf_le h)
section KeyP
variable {l : Launch} {D : va_G} {ad : Nat → Nat} {kA : Nat → ClassId} {Q : Outcome → Mem → Prop}
theorem lp_outM {M0 : Mem} {d k : Int32} {K : Nat} (h : RDays M0) (hk : gI M0 54 10 = nI K) (hk2 : K ≤ 160) : ∀ (j n : Nat) (s : Nat × Int32 × Nat × Nat) (M : Mem), n + j = 25 → s.1 ≤ 480 → KMm M0 s M →
    (∀ M', KMm M0 ((mdL j n).foldl (kf (LB M0 d k) (gI M0 57) K) s) M' → Q (.returned (some (.int (nI ((mdL j n).foldl (kf (LB M0 d k) (gI M0 57) K) s).1)))) (sI M' 54 65 1)) →
    Fw l D ad kA mX13_key 24 [some (.ref (ad 54)), some (.int d), some (.int k), some (.int (nI s.1)), some (.int (nI n)), none, none, none, none, none] [] M Q := by
  intro j
  induction j with
  | zero =>
    intro n s M hn hs hM Kf
    have q24 : (24 : Int32).toInt = 24 := by decide
    have hlt : (24 : Int32) < nI n := by rw [i_lt, i_nI (by omega), q24]; omega
    exact t_X13_key_24 (fun _ => Kf M hM) (fun q => absurd hlt q)
  | succ j ih =>
    intro n s M hn hs hM Kf
    have step : ∀ M', KMm M0 (kf (LB M0 d k) (gI M0 57) K s (mvE n)) M' → Fw l D ad kA mX13_key 24 [some (.ref (ad 54)), some (.int d), some (.int k), some (.int (nI (kf (LB M0 d k) (gI M0 57) K s (mvE n)).1)), some (.int (nI (n + 1))), none, none, none, none, none] [] M' Q := fun M' h' => ih (n + 1) _ M' (by omega) (kf_le hs) h' Kf
    refine mv_M h hk hk2 hM.1 (by omega) (by omega) (fun q M' h' => ?_) (fun q => ?_)
    · unfold kf at step
      rw [if_pos q] at step
      exact step M' h'
    · unfold kf at step
      rw [if_neg q] at step
      exact step M hM
/-- which cells key() may change -/
def sKc (c i : Nat) : Bool := (c == 44 && (i == 3 || i == 4 || i == 5 || i == 6)) || c == 51
def sKp (c i : Nat) : Bool := (c == 44 && (i == 3 || i == 4 || i == 5 || i == 6)) || c == 51 || (c == 54 && (i == 55 || i == 56 || i == 57 || i == 65))
theorem seek38 {L : Int32 → Bool} {Ma : Mem} {K : Nat} (hL : ∀ b, L b = true → 0 ≤ b.toInt ∧ b.toInt ≤ 47) (hyA : lyOk L Ma) (e9 : gI Ma 9 4 = nI K) (hk2 : K ≤ 160)
    (Kf : ∀ M4, KM Ma ((mvL 12 1).foldl (kf L (gI Ma 11) K) (k0 L (gI Ma 11) K)) M4 → Q (.returned (some (.int (nI ((mvL 12 1).foldl (kf L (gI Ma 11) K) (k0 L (gI Ma 11) K)).1)))) M4) :
    Fw l D ad kA mX2_seekKey 38 [some (.ref (ad 44)), none, none, some (.int 16777216), some (.int 0)] [] Ma Q := by
  have hb := kc_le L (gI Ma 11) 0 K 0
  obtain ⟨P, hP1, hP2, hP3⟩ : ∃ P : Nat, (16777216 : Int32) = nI P ∧ 480 < P ∧ P < 2147483648 := ⟨16777216, by decide, by decide, by decide⟩
  rw [hP1]
  have hw : ¬ ¬ (kc L (gI Ma 11) 0 K 0).2 + 3 * (kc L (gI Ma 11) 0 K 0).1 < P := by omega
  have n12' : ¬ (12 : Int32) < 0 := by decide
  have nz : (-0 : Int32) = 0 := by decide
  have o1 : (0 : Int32) + 1 = nI 1 := by decide
  refine t_X2_seekKey_38 (fun q => absurd q n12') (fun _ => ct_tryMove hL hyA e9 hk2 Fr.rf hP3 (fun _ M2 h2 => ⟨_, rfl, t_X2_seekKey_52 ?_⟩) (fun q => absurd q hw))
  rw [nz]
  refine tm (s := k0 L (gI Ma 11) K) hL hyA e9 hk2 (k0_le hk2) h2 (fun M3 h3 => ⟨_, rfl, t_X2_seekKey_61 ?_⟩)
  rw [kf_k0] at h3 ⊢
  rw [o1]
  exact lp_seek hL hyA e9 hk2 12 1 (k0 L (gI Ma 11) K) M3 rfl (k0_le hk2) h3 Kf
theorem ct_keyM {M : Mem} {d k : Int32} {K : Nat} (h : RDays M) (hk : gI M 54 10 = nI K) (hk2 : K ≤ 160) (hd : ¬ v_X13_isDay d = 0) (hkn : ¬ v_X13_isDay k = 0)
    (Kf : ∀ M', KMm M (kBest (LB M d k) (gI M 57) K) M' → Q (.returned (some (.int (nI (kBest (LB M d k) (gI M 57) K).1)))) (sI M' 54 65 1)) :
    Cal l D ad kA mX13_key [.ref (ad 54), .int d, .int k] M Q := by
  have hb := kc_le (LB M d k) (gI M 57) 0 K 0
  refine en_X13_key (t_X13_key_0 (fun q => absurd q hd) (fun _ _ => ?_) (fun _ q => absurd q hkn))
  obtain ⟨P, hP1, hP2, hP3⟩ : ∃ P : Nat, (1000000 : Int32) = nI P ∧ 480 < P ∧ P < 2147483648 := ⟨1000000, by decide, by decide, by decide⟩
  rw [hP1, show (0 : Int32) = nI 0 from rfl]
  refine mv_M h hk hk2 Fr.rf (by omega) (by omega) (fun _ M1 h1 => ?_) (fun q => absurd (by rw [md_all.1]; omega) q)
  rw [md_all.1] at h1 ⊢
  have h1' : KMm M (k0 (LB M d k) (gI M 57) K) M1 := h1
  refine lp_outM h hk hk2 24 1 (k0 (LB M d k) (gI M 57) K) M1 rfl (k0_le hk2) h1' (fun M2 h2 => ?_)
  rw [md_all.2] at h2 ⊢
  exact Kf M2 h2
end KeyP
