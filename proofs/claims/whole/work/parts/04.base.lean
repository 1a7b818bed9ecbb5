/-! THE BASE: a memory of numbers by cell and place; a frame's judgement Fw; a method's judgement Cal -/
def gI (M : Mem) (c i : Nat) : Int32 := M.1 c i
def gL (M : Mem) (c i : Nat) : Int64 := M.2 c i
def sI (M : Mem) (c i : Nat) (v : Int32) : Mem := (fun a b => if a = c ∧ b = i then v else M.1 a b, M.2)
def sL (M : Mem) (c i : Nat) (v : Int64) : Mem := (M.1, fun a b => if a = c ∧ b = i then v else M.2 a b)
theorem gI_sI (M : Mem) (c i : Nat) (v : Int32) (a b : Nat) : gI (sI M c i v) a b = if a = c ∧ b = i then v else gI M a b := rfl
theorem gI_sL (M : Mem) (c i : Nat) (v : Int64) (a b : Nat) : gI (sL M c i v) a b = gI M a b := rfl
theorem gL_sL (M : Mem) (c i : Nat) (v : Int64) (a b : Nat) : gL (sL M c i v) a b = if a = c ∧ b = i then v else gL M a b := rfl
theorem gL_sI (M : Mem) (c i : Nat) (v : Int32) (a b : Nat) : gL (sI M c i v) a b = gL M a b := rfl
def fv (ad : Nat → Nat) (M : Mem) (c j : Nat) (f : Nat × Nat) : Value := if f.1 = 0 then .int (gI M c j) else if f.1 = 1 then .ref (ad f.2) else if f.1 = 2 then .long (gL M c j) else .null
def ce (ad : Nat → Nat) (kA : Nat → ClassId) (M : Mem) (c : Nat) (sh : Shp) : va_E := match sh with
  | .inl a => .inl (kA a.1, a.2, if a.1 = 3 then .inr (.inl (gL M c)) else .inl (gI M c))
  | .inr q => .inr (q.1, q.2.mapIdx (fv ad M c))
def wl (ad : Nat → Nat) (kA : Nat → ClassId) (M : Mem) : va_W := shL.mapIdx (fun c sh => (ad c, ce ad kA M c sh))
theorem wl_at {ad : Nat → Nat} {kA : Nat → ClassId} {M : Mem} {c : Nat} {sh : Shp} (h : shL[c]? = some sh) : (wl ad kA M)[c]? = some (ad c, ce ad kA M c sh) := by
  simp [wl, List.getElem?_mapIdx, h]
theorem wl_of {ad : Nat → Nat} {kA : Nat → ClassId} {M : Mem} {c : Nat} {q : Nat × va_E} (h : (wl ad kA M)[c]? = some q) : ∃ sh, shL[c]? = some sh ∧ q = (ad c, ce ad kA M c sh) := by
  simp only [wl, List.getElem?_mapIdx, Option.map_eq_some_iff] at h
  obtain ⟨sh, h1, h2⟩ := h
  exact ⟨sh, h1, h2.symm⟩
theorem sh_lt {c : Nat} {sh : Shp} (h : shL[c]? = some sh) : c < nC := by
  have := (List.getElem?_eq_some_iff.mp h).1
  rw [shL_len] at this
  exact this
theorem wl_set {ad : Nat → Nat} {kA : Nat → ClassId} {M M' : Mem} {c : Nat} {sh : Shp} (h : shL[c]? = some sh) (he : ∀ j sh', j ≠ c → ce ad kA M' j sh' = ce ad kA M j sh') : (wl ad kA M).set c (ad c, ce ad kA M' c sh) = wl ad kA M' := by
  apply List.ext_getElem?
  intro j
  rw [List.getElem?_set]
  have hlen : c < (wl ad kA M).length := by
    have := (List.getElem?_eq_some_iff.mp h).1
    simpa [wl] using this
  by_cases hj : c = j
  · subst hj
    rw [if_pos rfl, if_pos hlen, wl_at h]
  · rw [if_neg hj]
    simp only [wl, List.getElem?_mapIdx]
    cases shL[j]? with
    | none => rfl
    | some sh' =>
      show some (ad j, ce ad kA M j sh') = some (ad j, ce ad kA M' j sh')
      rw [he j sh' (fun e => hj e.symm)]
theorem ce_oI {ad : Nat → Nat} {kA : Nat → ClassId} {M : Mem} {c i : Nat} {v : Int32} : ∀ (j : Nat) (sh : Shp), j ≠ c → ce ad kA (sI M c i v) j sh = ce ad kA M j sh := by
  intro j sh hj
  have e1 : gI (sI M c i v) j = gI M j := by funext b; rw [gI_sI, if_neg (fun h => hj h.1)]
  have e2 : gL (sI M c i v) j = gL M j := by funext b; rfl
  have e3 : fv ad (sI M c i v) j = fv ad M j := by funext b f; simp only [fv, e1, e2]
  cases sh with
  | inl a => simp only [ce, e1, e2]
  | inr q => simp only [ce, e3]
theorem ce_oL {ad : Nat → Nat} {kA : Nat → ClassId} {M : Mem} {c i : Nat} {v : Int64} : ∀ (j : Nat) (sh : Shp), j ≠ c → ce ad kA (sL M c i v) j sh = ce ad kA M j sh := by
  intro j sh hj
  have e1 : gL (sL M c i v) j = gL M j := by funext b; rw [gL_sL, if_neg (fun h => hj h.1)]
  have e2 : gI (sL M c i v) j = gI M j := by funext b; rfl
  have e3 : fv ad (sL M c i v) j = fv ad M j := by funext b f; simp only [fv, e1, e2]
  cases sh with
  | inl a => simp only [ce, e1, e2]
  | inr q => simp only [ce, e3]
theorem ce_aI {ad : Nat → Nat} {kA : Nat → ClassId} {M : Mem} {c i k n : Nat} {v : Int32} (hk : k ≠ 3) : ce ad kA (sI M c i v) c (.inl (k, n)) = .inl (kA k, n, .inl (upd (gI M c) i v)) := by
  have e1 : gI (sI M c i v) c = upd (gI M c) i v := by funext b; rw [gI_sI]; simp only [upd, true_and]
  simp only [ce, if_neg hk, e1]
theorem ce_aL {ad : Nat → Nat} {kA : Nat → ClassId} {M : Mem} {c i n : Nat} {v : Int64} : ce ad kA (sL M c i v) c (.inl (3, n)) = .inl (kA 3, n, .inr (.inl (vp_updL (gL M c) i v))) := by
  have e1 : gL (sL M c i v) c = vp_updL (gL M c) i v := by funext b; rw [gL_sL]; simp only [vp_updL, true_and]
  simp only [ce, e1, if_true]
theorem ce_fI {ad : Nat → Nat} {kA : Nat → ClassId} {M : Mem} {c k ci r : Nat} {fs : List (Nat × Nat)} {v : Int32} (hf : fs[k]? = some (0, r)) : ce ad kA (sI M c k v) c (.inr (ci, fs)) = .inr (ci, (fs.mapIdx (fv ad M c)).set k (.int v)) := by
  simp only [ce]
  congr 2
  apply List.ext_getElem?
  intro j
  have hl : k < (fs.mapIdx (fv ad M c)).length := by
    have := (List.getElem?_eq_some_iff.mp hf).1
    simpa using this
  rw [List.getElem?_set, List.getElem?_mapIdx]
  by_cases hj : k = j
  · subst hj
    rw [if_pos rfl, if_pos hl, hf]
    simp [fv, gI_sI]
  · rw [if_neg hj, List.getElem?_mapIdx]
    congr 1
    funext f
    have e : ¬ j = k := fun h => hj h.symm
    simp [fv, gI_sI, gL_sI, e]
theorem ce_fL {ad : Nat → Nat} {kA : Nat → ClassId} {M : Mem} {c k ci r : Nat} {fs : List (Nat × Nat)} {v : Int64} (hf : fs[k]? = some (2, r)) : ce ad kA (sL M c k v) c (.inr (ci, fs)) = .inr (ci, (fs.mapIdx (fv ad M c)).set k (.long v)) := by
  simp only [ce]
  congr 2
  apply List.ext_getElem?
  intro j
  have hl : k < (fs.mapIdx (fv ad M c)).length := by
    have := (List.getElem?_eq_some_iff.mp hf).1
    simpa using this
  rw [List.getElem?_set, List.getElem?_mapIdx]
  by_cases hj : k = j
  · subst hj
    rw [if_pos rfl, if_pos hl, hf]
    simp [fv, gL_sL]
  · rw [if_neg hj, List.getElem?_mapIdx]
    congr 1
    funext f
    have e : ¬ j = k := fun h => hj h.symm
    simp [fv, gI_sL, gL_sL, e]
/-- which cells may change -/
def AW (ad : Nat → Nat) : Nat → Prop := fun q => ∃ i, i < nC ∧ ad i = q
def apart (ad : Nat → Nat) : Prop := ∀ i j, i < nC → j < nC → ad i = ad j → i = j
theorem wl_D {ad : Nat → Nat} {kA : Nat → ClassId} {M : Mem} (h : apart ad) : va_D (AW ad) (wl ad kA M) := by
  constructor
  · intro i j p q hp hq hpq
    obtain ⟨s1, a1, rfl⟩ := wl_of hp
    obtain ⟨s2, a2, rfl⟩ := wl_of hq
    exact h i j (sh_lt a1) (sh_lt a2) hpq
  · intro k q hq
    obtain ⟨s1, a1, rfl⟩ := wl_of hq
    exact ⟨k, sh_lt a1, rfl⟩
theorem fsh_spec {c k ci tag r : Nat} (h : fsh c k = some (ci, tag, r)) : ∃ fs, shL[c]? = some (.inr (ci, fs)) ∧ fs[k]? = some (tag, r) := by
  unfold fsh at h
  cases hs : shL[c]? with
  | none => rw [hs] at h; cases h
  | some sh =>
    rw [hs] at h
    cases sh with
    | inl a => cases h
    | inr q =>
      obtain ⟨q1, q2⟩ := q
      simp only [Option.map_eq_some_iff] at h
      obtain ⟨f, h1, h2⟩ := h
      cases h2
      exact ⟨q2, rfl, h1⟩
