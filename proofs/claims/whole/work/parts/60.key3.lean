/-! KEY: the model, and the pair -/
def mvE (n : Nat) : Int32 := if nI n - nI n / 2 * 2 = 1 then (nI n + 1) / 2 else -(nI n / 2)
def mdL : Nat → Nat → List Int32
  | 0, _ => []
  | j + 1, n => mvE n :: mdL j (n + 1)
theorem md_all : mvE 0 = 0 ∧ mdL 24 1 = mvL 12 1 := by decide +kernel
def sKeyM (c i : Nat) : Bool := c == 54 && (i == 55 || i == 56 || i == 57)
def KMm (M0 : Mem) (s : Nat × Int32 × Nat × Nat) (M : Mem) : Prop := Fr sKeyM M0 M ∧ gI M 54 55 = s.2.1 ∧ gI M 54 56 = nI s.2.2.1 ∧ gI M 54 57 = nI s.2.2.2
/-- the best move of all, 0 first -/
def k0 (L : Int32 → Bool) (bell : Nat → Int32) (k : Nat) : Nat × Int32 × Nat × Nat := ((kc L bell 0 k 0).2 + 3 * (kc L bell 0 k 0).1, 0, (kc L bell 0 k 0).1, (kc L bell 0 k 0).2)
def kBest (L : Int32 → Bool) (bell : Nat → Int32) (k : Nat) : Nat × Int32 × Nat × Nat := (mvL 12 1).foldl (kf L bell k) (k0 L bell k)
theorem k0_le {L : Int32 → Bool} {bell : Nat → Int32} {k : Nat} (h : k ≤ 160) : (k0 L bell k).1 ≤ 480 := by
  have := kc_le L bell 0 k 0
  show (kc L bell 0 k 0).2 + 3 * (kc L bell 0 k 0).1 ≤ 480
  omega
section KeyM
variable {l : Launch} {D : va_G} {ad : Nat → Nat} {kA : Nat → ClassId} {Q : Outcome → Mem → Prop}
theorem ct_isThereL {M : Mem} {b d k : Int32} (h : RDays M) (K1 : LB M d k b = true → Q (.returned (some (.int 1))) M) (K0 : LB M d k b = false → Q (.returned (some (.int 0))) M) : Cal l D ad kA mX13_isThere [.ref (ad 54), .int b, .int d, .int k] M Q :=
  ct_isThere h (fun a t => K1 (LB_t.mpr ⟨a, t⟩)) (fun q => K0 (by
    cases r : LB M d k b with
    | false => rfl
    | true => exact absurd (LB_t.mp r) q))
theorem lp_keyM {M : Mem} {d k m x3 x4 : Int32} (h : RDays M) (hs : 0 ≤ (gI M 54 10).toInt ∧ (gI M 54 10).toInt ≤ 160) : ∀ (j i o c : Nat), (i : Int) + j = (gI M 54 10).toInt → o + c ≤ i →
    (∀ O C : Nat, O = o + (kc (LB M d k) (gI M 57) m j i).1 → C = c + (kc (LB M d k) (gI M 57) m j i).2 → nI (C + 3 * O) < x3 → Fw l D ad kA mX13_key 24 [some (.ref (ad 54)), some (.int d), some (.int k), some (.int (nI (C + 3 * O))), some (.int (x4 + 1)), none, none, none, none, none] [] (sI (sI (sI M 54 55 m) 54 56 (nI O)) 54 57 (nI C)) Q) →
    (∀ O C : Nat, O = o + (kc (LB M d k) (gI M 57) m j i).1 → C = c + (kc (LB M d k) (gI M 57) m j i).2 → ¬ nI (C + 3 * O) < x3 → Fw l D ad kA mX13_key 24 [some (.ref (ad 54)), some (.int d), some (.int k), some (.int x3), some (.int (x4 + 1)), none, none, none, none, none] [] M Q) →
    Fw l D ad kA mX13_key 64 [some (.ref (ad 54)), some (.int d), some (.int k), some (.int x3), some (.int x4), some (.int m), some (.int (nI o)), some (.int (nI c)), some (.int (nI i)), none] [] M Q := by
  have n10 : ¬ (1 : Int32) = 0 := by decide
  intro j
  induction j with
  | zero =>
    intro i o c hi hoc K1 K2
    have hle : gI M 54 10 ≤ nI i := by rw [i_le, i_nI (by omega)]; omega
    have e : 3 * nI o + nI c = nI (c + 3 * o) := by
      rw [show (3 : Int32) = nI 3 from rfl, pk_mul, nI_add, Nat.add_comm]
    refine t_X13_key_64 (fun q => absurd hle q) (fun _ q => ?_) (fun _ q => ?_) (fun q => absurd hle q)
    · rw [e] at q ⊢
      exact K1 o c (by simp [kc]) (by simp [kc]) q
    · rw [e] at q
      exact K2 o c (by simp [kc]) (by simp [kc]) q
  | succ j ih =>
    intro i o c hi hoc K1 K2
    have hnle : ¬ gI M 54 10 ≤ nI i := by rw [i_le, i_nI (by omega)]; omega
    have hin : vp_in (nI i) 160 := vin_of (by rw [i_nI (by omega)]; omega) (by rw [i_nI (by omega)]; omega)
    have hcl : (nI i).toNatClampNeg = i := nI_clamp (by omega)
    have oct : ¬ LB M d k (gI M 57 i + m) = true → (LB M d k (gI M 57 i + m + 12) || LB M d k (gI M 57 i + m - 12)) = true → Fw l D ad kA mX13_key 64 [some (.ref (ad 54)), some (.int d), some (.int k), some (.int x3), some (.int x4), some (.int m), some (.int (nI o)), some (.int (nI (c + 1))), some (.int (nI (i + 1))), none] [] M Q := by
      intro q1 r
      have e : kc (LB M d k) (gI M 57) m (j + 1) i = ((kc (LB M d k) (gI M 57) m j (i + 1)).1, (kc (LB M d k) (gI M 57) m j (i + 1)).2 + 1) := by rw [kc, if_neg q1, if_pos r]
      rw [e] at K1 K2
      exact ih (i + 1) o (c + 1) (by omega) (by omega) (fun O C hO hC => K1 O C hO (by rw [hC]; simp only; omega)) (fun O C hO hC => K2 O C hO (by rw [hC]; simp only; omega))
    refine t_X13_key_64 (fun _ => hin) (fun q => absurd q hnle) (fun q => absurd q hnle) (fun _ => ?_)
    rw [hcl]
    refine ct_isThereL h (fun q1 => ⟨_, rfl, t_X13_key_93 (fun z => absurd z n10) (fun _ => ?_)⟩) (fun q1 => ⟨_, rfl, t_X13_key_93 (fun _ => ct_isThereL h (fun q2 => ⟨_, rfl, t_X13_key_110 (fun _ => ?_) (fun z => absurd z n10)⟩) (fun q2 => ⟨_, rfl, t_X13_key_110 (fun z => absurd rfl z) (fun _ => ct_isThereL h (fun q3 => ⟨_, rfl, t_X13_key_124 ?_⟩) (fun q3 => ⟨_, rfl, t_X13_key_124 ?_⟩))⟩)) (fun z => absurd rfl z)⟩)
    · have e : kc (LB M d k) (gI M 57) m (j + 1) i = kc (LB M d k) (gI M 57) m j (i + 1) := by rw [kc, if_pos q1]
      rw [e] at K1 K2
      rw [nI_1]
      exact ih (i + 1) o c (by omega) (by omega) K1 K2
    · rw [nI_1, nI_1]
      exact oct (by rw [q1]; decide) (by rw [q2]; rfl)
    · rw [if_neg n10, if_neg n10, nI_1, nI_1]
      exact oct (by rw [q1]; decide) (by rw [q3, Bool.or_true])
    · have q1' : ¬ LB M d k (gI M 57 i + m) = true := by rw [q1]; decide
      have r : ¬ (LB M d k (gI M 57 i + m + 12) || LB M d k (gI M 57 i + m - 12)) = true := by rw [q2, q3]; decide
      have e : kc (LB M d k) (gI M 57) m (j + 1) i = ((kc (LB M d k) (gI M 57) m j (i + 1)).1 + 1, (kc (LB M d k) (gI M 57) m j (i + 1)).2) := by rw [kc, if_neg q1', if_neg r]
      rw [e] at K1 K2
      rw [if_pos rfl, if_pos rfl, nI_1, nI_1]
      exact ih (i + 1) (o + 1) c (by omega) (by omega) (fun O C hO hC => K1 O C (by rw [hO]; simp only; omega) hC) (fun O C hO hC => K2 O C (by rw [hO]; simp only; omega) hC)
theorem thr_fr {S : Nat → Nat → Bool} {M M' : Mem} (hF : Fr S M M') (hs : ∀ c i, (c == 44 && i == 2) || (45 ≤ c && c ≤ 50) → S c i = false) (b d k : Int32) : thr M' b d k ↔ thr M b d k := by
  have e : ∀ j i, noHit M' b d k j i ↔ noHit M b d k j i := by
    intro j
    induction j with
    | zero => intro i; exact Iff.rfl
    | succ j ih =>
      intro i
      unfold noHit hit
      rw [ih, hF.1 45 i (hs 45 i rfl), hF.1 46 i (hs 46 i rfl), hF.1 47 i (hs 47 i rfl), hF.1 48 i (hs 48 i rfl), hF.1 49 i (hs 49 i rfl), hF.1 50 i (hs 50 i rfl)]
  unfold thr
  rw [hF.1 44 2 (hs 44 2 rfl)]
  exact e _ _
theorem LB_fr {S : Nat → Nat → Bool} {M M' : Mem} (hF : Fr S M M') (hs : ∀ c i, (c == 44 && i == 2) || (45 ≤ c && c ≤ 50) → S c i = false) (d k : Int32) : LB M' d k = LB M d k := by
  funext b
  have : okB M' d k b ↔ okB M d k b := by unfold okB; rw [thr_fr hF hs]
  cases q : LB M d k b with
  | true => exact LB_t.mpr (this.mpr (LB_t.mp q))
  | false =>
    cases r : LB M' d k b with
    | false => rfl
    | true => rw [LB_t.mpr (this.mp (LB_t.mp r))] at q; cases q
/-- one move of the model -/
theorem mv_M {M0 M : Mem} {d k : Int32} {n P K : Nat} (h : RDays M0) (hk : gI M0 54 10 = nI K) (hk2 : K ≤ 160) (hF : Fr sKeyM M0 M) (hn : n ≤ 24) (hP : P < 2147483648)
    (K1 : (kc (LB M0 d k) (gI M0 57) (mvE n) K 0).2 + 3 * (kc (LB M0 d k) (gI M0 57) (mvE n) K 0).1 < P → ∀ M', KMm M0 ((kc (LB M0 d k) (gI M0 57) (mvE n) K 0).2 + 3 * (kc (LB M0 d k) (gI M0 57) (mvE n) K 0).1, mvE n, (kc (LB M0 d k) (gI M0 57) (mvE n) K 0).1, (kc (LB M0 d k) (gI M0 57) (mvE n) K 0).2) M' → Fw l D ad kA mX13_key 24 [some (.ref (ad 54)), some (.int d), some (.int k), some (.int (nI ((kc (LB M0 d k) (gI M0 57) (mvE n) K 0).2 + 3 * (kc (LB M0 d k) (gI M0 57) (mvE n) K 0).1))), some (.int (nI (n + 1))), none, none, none, none, none] [] M' Q)
    (K2 : ¬ (kc (LB M0 d k) (gI M0 57) (mvE n) K 0).2 + 3 * (kc (LB M0 d k) (gI M0 57) (mvE n) K 0).1 < P → Fw l D ad kA mX13_key 24 [some (.ref (ad 54)), some (.int d), some (.int k), some (.int (nI P)), some (.int (nI (n + 1))), none, none, none, none, none] [] M Q) :
    Fw l D ad kA mX13_key 24 [some (.ref (ad 54)), some (.int d), some (.int k), some (.int (nI P)), some (.int (nI n)), none, none, none, none, none] [] M Q := by
  have q24 : (24 : Int32).toInt = 24 := by decide
  have hsub : ∀ c i, sDays c i = true → sKeyM c i = false := fun c i q => by simp [sDays, sKeyM] at q ⊢; omega
  have hR : RDays M := h.fr hF hsub
  have eL : LB M d k = LB M0 d k := LB_fr hF (fun c i q => by simp [sKeyM] at q ⊢; omega) d k
  have e57 : gI M 57 = gI M0 57 := by funext b; exact hF.1 57 b rfl
  have e10 : gI M 54 10 = nI K := by rw [hF.1 54 10 rfl, hk]
  have hb := kc_le (LB M0 d k) (gI M0 57) (mvE n) K 0
  have hnlt : ¬ (24 : Int32) < nI n := by rw [i_lt, i_nI (by omega), q24]; omega
  refine t_X13_key_24 (fun q => absurd q hnlt) (fun _ => lp_keyM (m := mvE n) hR (by rw [e10, i_nI (by omega)]; omega) K 0 0 0 (by rw [e10, i_nI (by omega)]; omega) (Nat.le_refl 0) (fun O C hO hC q => ?_) (fun O C hO hC q => ?_))
  · rw [eL, e57, Nat.zero_add] at hO hC
    subst hO; subst hC
    rw [i_lt, i_nI (by omega), i_nI (by omega)] at q
    rw [nI_1]
    exact K1 (by omega) _ ⟨((hF.sI rfl).sI rfl).sI rfl, rfl, rfl, rfl⟩
  · rw [eL, e57, Nat.zero_add] at hO hC
    subst hO; subst hC
    rw [i_lt, i_nI (by omega), i_nI (by omega)] at q
    rw [nI_1]
    exact K2 (by omega)
end KeyM
