/-! what stands between the class and the model, kept by every call (printed by wip/gen/gen9t.py) -/
theorem RTape.fr {S : Nat → Nat → Bool} {M M' : Mem} (h : RTape M) (hf : Fr S M M') (h1 : S 1 0 = false ∧ S 54 2 = false) (h2 : ∀ i, S 2 i = false ∧ S 55 i = false) : RTape M' := by
  obtain ⟨k0, k1⟩ := h1
  have e1_0 := hf.1 1 0 k0
  have e54_2 := hf.1 54 2 k1
  have a2 : ∀ i, gI M' 2 i = gI M 2 i := fun i => hf.1 2 i (h2 i).1
  have a55 : ∀ i, gI M' 55 i = gI M 55 i := fun i => hf.1 55 i (h2 i).2
  unfold RTape
  rw [e1_0, e54_2]
  exact ⟨h.1, h.2.1, fun a ha => by rw [a2, a55]; exact h.2.2 a ha⟩
theorem RFault.fr {S : Nat → Nat → Bool} {M M' : Mem} (h : RFault M) (hf : Fr S M M') (h1 : S 1 3 = false ∧ S 1 4 = false ∧ S 54 8 = false ∧ S 54 9 = false) : RFault M' := by
  obtain ⟨k0, k1, k2, k3⟩ := h1
  have e1_3 := hf.1 1 3 k0
  have e1_4 := hf.1 1 4 k1
  have e54_8 := hf.1 54 8 k2
  have e54_9 := hf.1 54 9 k3
  unfold RFault
  rw [e1_3, e1_4, e54_8, e54_9]
  exact h
theorem RScore.fr {S : Nat → Nat → Bool} {M M' : Mem} (h : RScore M) (hf : Fr S M M') (h1 : S 9 4 = false ∧ S 54 10 = false) (h2 : ∀ i, S 10 i = false ∧ S 11 i = false ∧ S 12 i = false ∧ S 13 i = false ∧ S 56 i = false ∧ S 57 i = false ∧ S 58 i = false ∧ S 59 i = false) : RScore M' := by
  obtain ⟨k0, k1⟩ := h1
  have e9_4 := hf.1 9 4 k0
  have e54_10 := hf.1 54 10 k1
  have a10 : ∀ i, gI M' 10 i = gI M 10 i := fun i => hf.1 10 i (h2 i).1
  have a11 : ∀ i, gI M' 11 i = gI M 11 i := fun i => hf.1 11 i (h2 i).2.1
  have a12 : ∀ i, gI M' 12 i = gI M 12 i := fun i => hf.1 12 i (h2 i).2.2.1
  have a13 : ∀ i, gI M' 13 i = gI M 13 i := fun i => hf.1 13 i (h2 i).2.2.2.1
  have a56 : ∀ i, gI M' 56 i = gI M 56 i := fun i => hf.1 56 i (h2 i).2.2.2.2.1
  have a57 : ∀ i, gI M' 57 i = gI M 57 i := fun i => hf.1 57 i (h2 i).2.2.2.2.2.1
  have a58 : ∀ i, gI M' 58 i = gI M 58 i := fun i => hf.1 58 i (h2 i).2.2.2.2.2.2.1
  have a59 : ∀ i, gI M' 59 i = gI M 59 i := fun i => hf.1 59 i (h2 i).2.2.2.2.2.2.2
  unfold RScore
  rw [e9_4, e54_10]
  exact ⟨h.1, h.2.1, fun a ha => by rw [a10, a11, a12, a13, a56, a57, a58, a59]; exact h.2.2.1 a ha, fun a b h1 h2 => by rw [a10, a10]; exact h.2.2.2 a b h1 h2⟩
theorem RRule.fr {S : Nat → Nat → Bool} {M M' : Mem} (h : RRule M) (hf : Fr S M M') (h2 : ∀ i, S 15 i = false ∧ S 65 i = false) : RRule M' := by
  have a15 : ∀ i, gI M' 15 i = gI M 15 i := fun i => hf.1 15 i (h2 i).1
  have a65 : ∀ i, gI M' 65 i = gI M 65 i := fun i => hf.1 65 i (h2 i).2
  unfold RRule
  rw [a15, a15, a15, a15]
  exact ⟨fun a ha => by rw [a15, a65]; exact h.1 a ha, h.2⟩
theorem REnds.fr {S : Nat → Nat → Bool} {M M' : Mem} (h : REnds M) (hf : Fr S M M') (h1 : S 9 4 = false ∧ S 54 10 = false) (h2 : ∀ i, S 33 i = false ∧ S 56 i = false ∧ S 57 i = false ∧ S 58 i = false) : REnds M' := by
  obtain ⟨k0, k1⟩ := h1
  have e9_4 := hf.1 9 4 k0
  have e54_10 := hf.1 54 10 k1
  have a33 : ∀ i, gI M' 33 i = gI M 33 i := fun i => hf.1 33 i (h2 i).1
  have a56 : ∀ i, gI M' 56 i = gI M 56 i := fun i => hf.1 56 i (h2 i).2.1
  have a57 : ∀ i, gI M' 57 i = gI M 57 i := fun i => hf.1 57 i (h2 i).2.2.1
  have a58 : ∀ i, gI M' 58 i = gI M 58 i := fun i => hf.1 58 i (h2 i).2.2.2
  intro a ha
  rw [e9_4] at ha
  have k := h a ha
  unfold endS at k ⊢
  rw [a33, e54_10, show gI M' 56 = gI M 56 from funext a56, show gI M' 57 = gI M 57 from funext a57, a58]
  exact k
theorem RRing.fr {S : Nat → Nat → Bool} {M M' : Mem} (h : RRing M) (hf : Fr S M M') (h1 : S 0 11 = false ∧ S 54 23 = false) (h2 : ∀ i, S 52 i = false ∧ S 67 i = false) : RRing M' := by
  obtain ⟨k0, k1⟩ := h1
  have e0_11 := hf.1 0 11 k0
  have e54_23 := hf.1 54 23 k1
  have a52 : ∀ i, gI M' 52 i = gI M 52 i := fun i => hf.1 52 i (h2 i).1
  have a67 : ∀ i, gI M' 67 i = gI M 67 i := fun i => hf.1 67 i (h2 i).2
  unfold RRing
  rw [e0_11, e54_23]
  exact ⟨h.1, h.2.1, fun a ha => by rw [a52, a67]; exact h.2.2 a ha⟩
theorem RPart.fr {S : Nat → Nat → Bool} {M M' : Mem} (h : RPart M) (hf : Fr S M M') (h1 : S 22 4 = false ∧ S 54 26 = false ∧ S 54 10 = false) (h2 : ∀ i, S 23 i = false ∧ S 68 i = false ∧ S 57 i = false) : RPart M' := by
  obtain ⟨k0, k1, k2⟩ := h1
  have e22_4 := hf.1 22 4 k0
  have e54_26 := hf.1 54 26 k1
  have e54_10 := hf.1 54 10 k2
  have a23 : ∀ i, gI M' 23 i = gI M 23 i := fun i => hf.1 23 i (h2 i).1
  have a68 : ∀ i, gI M' 68 i = gI M 68 i := fun i => hf.1 68 i (h2 i).2.1
  have a57 : ∀ i, gI M' 57 i = gI M 57 i := fun i => hf.1 57 i (h2 i).2.2
  unfold RPart
  rw [e22_4, e54_26]
  refine ⟨h.1, fun q b hb => ?_⟩
  rw [a23, a68, usedM_fr e54_10 a57]
  exact h.2 q b hb
theorem RUse.fr {S : Nat → Nat → Bool} {M M' : Mem} (h : RUse M) (hf : Fr S M M') (h1 : S 22 7 = false ∧ S 54 10 = false) (h2 : ∀ i, S 57 i = false) : RUse M' := by
  obtain ⟨k0, k1⟩ := h1
  have e22_7 := hf.1 22 7 k0
  have e54_10 := hf.1 54 10 k1
  have a57 : ∀ i, gI M' 57 i = gI M 57 i := fun i => hf.1 57 i (h2 i)
  intro b hb
  have e := h b hb
  rw [uses_lb hb] at e ⊢
  rw [hf.2 22 7 k0, usedM_fr e54_10 a57]
  exact e
theorem RUsed.fr {S : Nat → Nat → Bool} {M M' : Mem} (h : RUsed M) (hf : Fr S M M') (h1 : S 22 5 = false ∧ S 54 10 = false) (h2 : ∀ i, S 24 i = false ∧ S 57 i = false) : RUsed M' := by
  obtain ⟨k0, k1⟩ := h1
  have e22_5 := hf.1 22 5 k0
  have e54_10 := hf.1 54 10 k1
  have a24 : ∀ i, gI M' 24 i = gI M 24 i := fun i => hf.1 24 i (h2 i).1
  have a57 : ∀ i, gI M' 57 i = gI M 57 i := fun i => hf.1 57 i (h2 i).2
  unfold RUsed
  rw [e22_5, ub_congr e54_10 a57]
  exact ⟨h.1, h.2.fr (fun i _ => a24 i)⟩
theorem RHelp.fr {S : Nat → Nat → Bool} {M M' : Mem} (h : RHelp M) (hf : Fr S M M') (h1 : S 28 3 = false ∧ S 28 4 = false ∧ S 54 42 = false ∧ S 54 43 = false ∧ S 54 44 = false) : RHelp M' := by
  obtain ⟨k0, k1, k2, k3, k4⟩ := h1
  have e28_3 := hf.1 28 3 k0
  have e28_4 := hf.1 28 4 k1
  have e54_42 := hf.1 54 42 k2
  have e54_43 := hf.1 54 43 k3
  have e54_44 := hf.1 54 44 k4
  unfold RHelp
  rw [e28_3, e28_4, e54_42, e54_43, e54_44]
  exact h
theorem RLaid.fr {S : Nat → Nat → Bool} {M M' : Mem} (h : RLaid M) (hf : Fr S M M') (h1 : S 35 3 = false ∧ S 35 4 = false ∧ S 54 46 = false ∧ S 54 52 = false ∧ S 9 4 = false) (h2 : ∀ i, S 36 i = false ∧ S 37 i = false ∧ S 56 i = false ∧ S 80 i = false ∧ S 81 i = false ∧ S 82 i = false) : RLaid M' := by
  obtain ⟨k0, k1, k2, k3, k4⟩ := h1
  have e35_3 := hf.1 35 3 k0
  have e35_4 := hf.1 35 4 k1
  have e54_46 := hf.1 54 46 k2
  have e54_52 := hf.1 54 52 k3
  have e9_4 := hf.1 9 4 k4
  have a36 : ∀ i, gI M' 36 i = gI M 36 i := fun i => hf.1 36 i (h2 i).1
  have a37 : ∀ i, gI M' 37 i = gI M 37 i := fun i => hf.1 37 i (h2 i).2.1
  have a56 : ∀ i, gI M' 56 i = gI M 56 i := fun i => hf.1 56 i (h2 i).2.2.1
  have a80 : ∀ i, gI M' 80 i = gI M 80 i := fun i => hf.1 80 i (h2 i).2.2.2.1
  have a81 : ∀ i, gI M' 81 i = gI M 81 i := fun i => hf.1 81 i (h2 i).2.2.2.2.1
  have a82 : ∀ i, gI M' 82 i = gI M 82 i := fun i => hf.1 82 i (h2 i).2.2.2.2.2
  unfold RLaid
  rw [e35_3, e35_4, e54_46, e54_52, e9_4]
  refine ⟨h.1, fun q => ⟨(h.2 q).1, fun a ha => ?_⟩⟩
  rw [a36, a37, a82, a81, a80, a56]
  exact (h.2 q).2 a ha
theorem RBlame.fr {S : Nat → Nat → Bool} {M M' : Mem} (h : RBlame M) (hf : Fr S M M') (h1 : S 35 4 = false ∧ S 54 45 = false ∧ S 9 4 = false) (h2 : ∀ i, S 38 i = false ∧ S 56 i = false ∧ S 57 i = false ∧ S 80 i = false ∧ S 81 i = false ∧ S 82 i = false ∧ S 84 i = false) : RBlame M' := by
  obtain ⟨k0, k1, k2⟩ := h1
  have e35_4 := hf.1 35 4 k0
  have e54_45 := hf.1 54 45 k1
  have e9_4 := hf.1 9 4 k2
  have a38 : ∀ i, gI M' 38 i = gI M 38 i := fun i => hf.1 38 i (h2 i).1
  have a56 : ∀ i, gI M' 56 i = gI M 56 i := fun i => hf.1 56 i (h2 i).2.1
  have a57 : ∀ i, gI M' 57 i = gI M 57 i := fun i => hf.1 57 i (h2 i).2.2.1
  have a80 : ∀ i, gI M' 80 i = gI M 80 i := fun i => hf.1 80 i (h2 i).2.2.2.1
  have a81 : ∀ i, gI M' 81 i = gI M 81 i := fun i => hf.1 81 i (h2 i).2.2.2.2.1
  have a82 : ∀ i, gI M' 82 i = gI M 82 i := fun i => hf.1 82 i (h2 i).2.2.2.2.2.1
  have a84 : ∀ i, gI M' 84 i = gI M 84 i := fun i => hf.1 84 i (h2 i).2.2.2.2.2.2
  unfold RBlame
  rw [e35_4, e54_45, e9_4, show gI M' 81 = gI M 81 from funext a81, show gI M' 84 = gI M 84 from funext a84, show gI M' 80 = gI M 80 from funext a80, show gI M' 82 = gI M 82 from funext a82, show gI M' 38 = gI M 38 from funext a38, show gI M' 56 = gI M 56 from funext a56, show gI M' 57 = gI M 57 from funext a57]
  exact h
theorem RKey.fr {S : Nat → Nat → Bool} {M M' : Mem} (h : RKey M) (hf : Fr S M M') (h1 : S 44 3 = false ∧ S 44 4 = false ∧ S 44 5 = false ∧ S 44 6 = false ∧ S 54 65 = false ∧ S 54 55 = false ∧ S 54 56 = false ∧ S 54 57 = false) : RKey M' := by
  obtain ⟨k0, k1, k2, k3, k4, k5, k6, k7⟩ := h1
  have e44_3 := hf.1 44 3 k0
  have e44_4 := hf.1 44 4 k1
  have e44_5 := hf.1 44 5 k2
  have e44_6 := hf.1 44 6 k3
  have e54_65 := hf.1 54 65 k4
  have e54_55 := hf.1 54 55 k5
  have e54_56 := hf.1 54 56 k6
  have e54_57 := hf.1 54 57 k7
  unfold RKey
  rw [e44_3, e44_4, e44_5, e44_6, e54_65, e54_55, e54_56, e54_57]
  exact h
def Rel (M : Mem) : Prop := RTape M ∧ RFault M ∧ RScore M ∧ RRule M ∧ REnds M ∧ RRing M ∧ RPart M ∧ RUse M ∧ RUsed M ∧ RWeighed M ∧ RHands M ∧ RHelp M ∧ RLaid M ∧ RBlame M ∧ RDays M ∧ RKey M
theorem Rel.tape {M : Mem} (h : Rel M) : RTape M := h.1
theorem Rel.fault {M : Mem} (h : Rel M) : RFault M := h.2.1
theorem Rel.score {M : Mem} (h : Rel M) : RScore M := h.2.2.1
theorem Rel.rule {M : Mem} (h : Rel M) : RRule M := h.2.2.2.1
theorem Rel.ends {M : Mem} (h : Rel M) : REnds M := h.2.2.2.2.1
theorem Rel.ring {M : Mem} (h : Rel M) : RRing M := h.2.2.2.2.2.1
theorem Rel.part {M : Mem} (h : Rel M) : RPart M := h.2.2.2.2.2.2.1
theorem Rel.use {M : Mem} (h : Rel M) : RUse M := h.2.2.2.2.2.2.2.1
theorem Rel.used {M : Mem} (h : Rel M) : RUsed M := h.2.2.2.2.2.2.2.2.1
theorem Rel.weighed {M : Mem} (h : Rel M) : RWeighed M := h.2.2.2.2.2.2.2.2.2.1
theorem Rel.hands {M : Mem} (h : Rel M) : RHands M := h.2.2.2.2.2.2.2.2.2.2.1
theorem Rel.help {M : Mem} (h : Rel M) : RHelp M := h.2.2.2.2.2.2.2.2.2.2.2.1
theorem Rel.laid {M : Mem} (h : Rel M) : RLaid M := h.2.2.2.2.2.2.2.2.2.2.2.2.1
theorem Rel.blame {M : Mem} (h : Rel M) : RBlame M := h.2.2.2.2.2.2.2.2.2.2.2.2.2.1
theorem Rel.days {M : Mem} (h : Rel M) : RDays M := h.2.2.2.2.2.2.2.2.2.2.2.2.2.2.1
theorem Rel.key {M : Mem} (h : Rel M) : RKey M := h.2.2.2.2.2.2.2.2.2.2.2.2.2.2.2
theorem r0_part {M : Mem} (a : gI M 22 4 = 0) (b : gI M 54 26 = 0) : RPart M := ⟨by rw [a, b], fun q => absurd a q⟩
theorem r0_hands {M : Mem} (a : gI M 17 3 = 0) (b : gI M 54 32 = 0) : RHands M := ⟨by rw [a, b], fun q => absurd a q⟩
theorem r0_laid {M : Mem} (a : gI M 35 4 = 0) (b : gI M 54 52 = 0) : RLaid M := ⟨by rw [a, b], fun q => absurd a q⟩
theorem r0_blame {M : Mem} (a : gI M 35 4 = 0) : RBlame M := fun q => absurd a q
theorem r0_weighed {M : Mem} (a : gI M 22 11 = 0) : RWeighed M := fun q => absurd a q
theorem r0_key {M : Mem} (a : gI M 44 3 = 0) (b : gI M 54 65 = 0) : RKey M := ⟨by rw [a, b], fun q => absurd a q⟩
section Kept
variable {l : Launch} {D : va_G} {ad : Nat → Nat} {kA : Nat → ClassId} {mi mx mm : MI} {M : Mem} {Q : Outcome → Mem → Prop}
theorem CalH.imp {av : List Value} {Q' : Outcome → Mem → Prop} (h : ∀ oc M', Q oc M' → Q' oc M') (k : CalH l D ad kA mi av M Q) : CalH l D ad kA mi av M Q' := by
  intro p e h1 h2 h3 s m args below h4 h5 h6 h7
  obtain ⟨n, oc, g1, g2, g3, ⟨⟨M', q1, q2⟩, q3⟩, g5⟩ := k p e h1 h2 h3 s m args below h4 h5 h6 h7
  exact ⟨n, oc, g1, g2, g3, ⟨⟨M', h _ _ q1, q2⟩, q3⟩, g5⟩
theorem Two.imp {as : List Value} {P P' : Mem → Prop} (k : Two l D ad kA mx mm as M P) (h : ∀ M2, P M2 → P' M2) : Two l D ad kA mx mm as M P' :=
  Cal.imp (fun _ _ ⟨r, e, q⟩ => ⟨r, e, Cal.imp (fun _ _ ⟨e2, q2⟩ => ⟨e2, h _ q2⟩) q⟩) k
theorem TwoH.imp {as : List Value} {P P' : Mem → Prop} (k : TwoH l D ad kA mx mm as M P) (h : ∀ M2, P M2 → P' M2) : TwoH l D ad kA mx mm as M P' :=
  Cal.imp (fun _ _ ⟨r, e, q⟩ => ⟨r, e, CalH.imp (fun _ _ ⟨e2, q2⟩ => ⟨e2, h _ q2⟩) q⟩) k
theorem kp_fault {x : Int32} (h : Rel M) : Two l D ad kA mX11_fault mX13_fault [.int x] M Rel := (pr_fault h.fault).imp (fun _ q => by rw [q]; exact h)
theorem kp_keyed {x : Int32} (h : Rel M) : Two l D ad kA mX11_keyed mX13_keyed [.int x] M Rel := (pr_keyed h.key).imp (fun _ q => by rw [q]; exact h)
theorem kp_rule {x : Int32} (h : Rel M) : Two l D ad kA mX11_rule mX13_rule [.int x] M Rel := (pr_rule h.rule).imp (fun _ q => by rw [q]; exact h)
theorem kp_there {x y z : Int32} (h : Rel M) : Two l D ad kA mX11_there mX13_there [.int x, .int y, .int z] M Rel := (pr_there h.days).imp (fun _ q => by rw [q]; exact h)
theorem kp_hand {x : Int32} (h : Rel M) : Two l D ad kA mX11_hand mX13_hand [.int x] M Rel := (pr_hand h.hands h.score).imp (fun _ q => by rw [q]; exact h)
theorem kp_helped {x : Int32} (h : Rel M) : Two l D ad kA mX11_helped mX13_helped [.int x] M Rel := (pr_helped h.help).imp (fun _ q => by rw [q]; exact h)
theorem kp_more (h : Rel M) : Two l D ad kA mX11_more mX13_more [] M Rel := (pr_more h.laid).imp (fun _ q => by rw [q]; exact h)
theorem kp_laid {x y : Int32} (h : Rel M) : Two l D ad kA mX11_laid mX13_laid [.int x, .int y] M Rel := (pr_laid h.laid h.score).imp (fun _ q => by rw [q]; exact h)
theorem kp_stroke {x y : Int32} (h : Rel M) : Two l D ad kA mX11_stroke mX13_stroke [.int x, .int y] M Rel := (pr_stroke h.score h.ends).imp (fun _ q => by rw [q]; exact h)
theorem kp_parted {x : Int32} (h : Rel M) : Two l D ad kA mX11_parted mX13_parted [.int x] M Rel := (pr_parted h.score h.use h.part).imp (fun _ q => by rw [q]; exact h)
theorem kp_blame {x : Int32} (h : Rel M) : Two l D ad kA mX11_blame mX13_blame [.int x] M Rel := (pr_blame h.score h.ring h.used h.part h.laid h.blame).imp (fun _ q => by rw [q]; exact h)
theorem kp_pass {x : Int32} (h : Rel M) : Two l D ad kA mX11_pass mX13_pass [.int x] M Rel := (pr_pass h.days).imp (fun _ ⟨hf, q⟩ => ⟨h.tape.fr hf ⟨rfl, rfl⟩ (fun _ => ⟨rfl, rfl⟩), h.fault.fr hf ⟨rfl, rfl, rfl, rfl⟩, h.score.fr hf ⟨rfl, rfl⟩ (fun _ => ⟨rfl, rfl, rfl, rfl, rfl, rfl, rfl, rfl⟩), h.rule.fr hf (fun _ => ⟨rfl, rfl⟩), h.ends.fr hf ⟨rfl, rfl⟩ (fun _ => ⟨rfl, rfl, rfl, rfl⟩), h.ring.fr hf ⟨rfl, rfl⟩ (fun _ => ⟨rfl, rfl⟩), h.part.fr hf ⟨rfl, rfl, rfl⟩ (fun _ => ⟨rfl, rfl, rfl⟩), h.use.fr hf ⟨rfl, rfl⟩ (fun _ => rfl), h.used.fr hf ⟨rfl, rfl⟩ (fun _ => ⟨rfl, rfl⟩), h.weighed.fr hf (fun _ => ⟨rfl, rfl, rfl, rfl, rfl⟩) rfl rfl (fun _ => rfl), h.hands.fr hf ⟨rfl, rfl, rfl⟩ (fun _ => ⟨rfl, rfl⟩), h.help.fr hf ⟨rfl, rfl, rfl, rfl, rfl⟩, h.laid.fr hf ⟨rfl, rfl, rfl, rfl, rfl⟩ (fun _ => ⟨rfl, rfl, rfl, rfl, rfl, rfl⟩), h.blame.fr hf ⟨rfl, rfl, rfl⟩ (fun _ => ⟨rfl, rfl, rfl, rfl, rfl, rfl, rfl⟩), q, h.key.fr hf ⟨rfl, rfl, rfl, rfl, rfl, rfl, rfl, rfl⟩⟩)
theorem kp_away {x y z : Int32} (h : Rel M) : Two l D ad kA mX11_away mX13_away [.int x, .int y, .int z] M Rel := (pr_away h.days).imp (fun _ ⟨hf, q⟩ => ⟨h.tape.fr hf ⟨rfl, rfl⟩ (fun _ => ⟨rfl, rfl⟩), h.fault.fr hf ⟨rfl, rfl, rfl, rfl⟩, h.score.fr hf ⟨rfl, rfl⟩ (fun _ => ⟨rfl, rfl, rfl, rfl, rfl, rfl, rfl, rfl⟩), h.rule.fr hf (fun _ => ⟨rfl, rfl⟩), h.ends.fr hf ⟨rfl, rfl⟩ (fun _ => ⟨rfl, rfl, rfl, rfl⟩), h.ring.fr hf ⟨rfl, rfl⟩ (fun _ => ⟨rfl, rfl⟩), h.part.fr hf ⟨rfl, rfl, rfl⟩ (fun _ => ⟨rfl, rfl, rfl⟩), h.use.fr hf ⟨rfl, rfl⟩ (fun _ => rfl), h.used.fr hf ⟨rfl, rfl⟩ (fun _ => ⟨rfl, rfl⟩), h.weighed.fr hf (fun _ => ⟨rfl, rfl, rfl, rfl, rfl⟩) rfl rfl (fun _ => rfl), h.hands.fr hf ⟨rfl, rfl, rfl⟩ (fun _ => ⟨rfl, rfl⟩), h.help.fr hf ⟨rfl, rfl, rfl, rfl, rfl⟩, h.laid.fr hf ⟨rfl, rfl, rfl, rfl, rfl⟩ (fun _ => ⟨rfl, rfl, rfl, rfl, rfl, rfl⟩), h.blame.fr hf ⟨rfl, rfl, rfl⟩ (fun _ => ⟨rfl, rfl, rfl, rfl, rfl, rfl, rfl⟩), q, h.key.fr hf ⟨rfl, rfl, rfl, rfl, rfl, rfl, rfl, rfl⟩⟩)
theorem kp_back {x y : Int32} (h : Rel M) : Two l D ad kA mX11_back mX13_back [.int x, .int y] M Rel := (pr_back h.days).imp (fun _ ⟨hf, q⟩ => ⟨h.tape.fr hf ⟨rfl, rfl⟩ (fun _ => ⟨rfl, rfl⟩), h.fault.fr hf ⟨rfl, rfl, rfl, rfl⟩, h.score.fr hf ⟨rfl, rfl⟩ (fun _ => ⟨rfl, rfl, rfl, rfl, rfl, rfl, rfl, rfl⟩), h.rule.fr hf (fun _ => ⟨rfl, rfl⟩), h.ends.fr hf ⟨rfl, rfl⟩ (fun _ => ⟨rfl, rfl, rfl, rfl⟩), h.ring.fr hf ⟨rfl, rfl⟩ (fun _ => ⟨rfl, rfl⟩), h.part.fr hf ⟨rfl, rfl, rfl⟩ (fun _ => ⟨rfl, rfl, rfl⟩), h.use.fr hf ⟨rfl, rfl⟩ (fun _ => rfl), h.used.fr hf ⟨rfl, rfl⟩ (fun _ => ⟨rfl, rfl⟩), h.weighed.fr hf (fun _ => ⟨rfl, rfl, rfl, rfl, rfl⟩) rfl rfl (fun _ => rfl), h.hands.fr hf ⟨rfl, rfl, rfl⟩ (fun _ => ⟨rfl, rfl⟩), h.help.fr hf ⟨rfl, rfl, rfl, rfl, rfl⟩, h.laid.fr hf ⟨rfl, rfl, rfl, rfl, rfl⟩ (fun _ => ⟨rfl, rfl, rfl, rfl, rfl, rfl⟩), h.blame.fr hf ⟨rfl, rfl, rfl⟩ (fun _ => ⟨rfl, rfl, rfl, rfl, rfl, rfl, rfl⟩), q, h.key.fr hf ⟨rfl, rfl, rfl, rfl, rfl, rfl, rfl, rfl⟩⟩)
theorem kp_absent {x b : Int32} (hb : b = 0 ∨ b = 1) (h : Rel M) : Two l D ad kA mX11_absent mX13_absent [.int x, .int b] M Rel := (pr_absent hb h.ring).imp (fun _ ⟨hf, q⟩ => ⟨h.tape.fr hf ⟨rfl, rfl⟩ (fun _ => ⟨rfl, rfl⟩), h.fault.fr hf ⟨rfl, rfl, rfl, rfl⟩, h.score.fr hf ⟨rfl, rfl⟩ (fun _ => ⟨rfl, rfl, rfl, rfl, rfl, rfl, rfl, rfl⟩), h.rule.fr hf (fun _ => ⟨rfl, rfl⟩), h.ends.fr hf ⟨rfl, rfl⟩ (fun _ => ⟨rfl, rfl, rfl, rfl⟩), q, h.part.fr hf ⟨rfl, rfl, rfl⟩ (fun _ => ⟨rfl, rfl, rfl⟩), h.use.fr hf ⟨rfl, rfl⟩ (fun _ => rfl), h.used.fr hf ⟨rfl, rfl⟩ (fun _ => ⟨rfl, rfl⟩), h.weighed.fr hf (fun _ => ⟨rfl, rfl, rfl, rfl, rfl⟩) rfl rfl (fun _ => rfl), h.hands.fr hf ⟨rfl, rfl, rfl⟩ (fun _ => ⟨rfl, rfl⟩), h.help.fr hf ⟨rfl, rfl, rfl, rfl, rfl⟩, h.laid.fr hf ⟨rfl, rfl, rfl, rfl, rfl⟩ (fun _ => ⟨rfl, rfl, rfl, rfl, rfl, rfl⟩), h.blame.fr hf ⟨rfl, rfl, rfl⟩ (fun _ => ⟨rfl, rfl, rfl, rfl, rfl, rfl, rfl⟩), h.days.fr hf (fun c i q => by simp [sDays] at q; simp [sAbs]; omega), h.key.fr hf ⟨rfl, rfl, rfl, rfl, rfl, rfl, rfl, rfl⟩⟩)
theorem kp_ringers {x : Int32} (h : Rel M) : Two l D ad kA mX11_ringers mX13_ringers [.int x] M Rel := by
  refine (pr_ringers h.ring).imp (fun M2 ⟨hf, q, z⟩ => ?_)
  rcases z with e | ⟨z1, z2⟩
  · rw [e]; exact h
  · exact ⟨h.tape.fr hf ⟨rfl, rfl⟩ (fun _ => ⟨rfl, rfl⟩), h.fault.fr hf ⟨rfl, rfl, rfl, rfl⟩, h.score.fr hf ⟨rfl, rfl⟩ (fun _ => ⟨rfl, rfl, rfl, rfl, rfl, rfl, rfl, rfl⟩), h.rule.fr hf (fun _ => ⟨rfl, rfl⟩), h.ends.fr hf ⟨rfl, rfl⟩ (fun _ => ⟨rfl, rfl, rfl, rfl⟩), q, r0_part z1 z2, h.use.fr hf ⟨rfl, rfl⟩ (fun _ => rfl), h.used.fr hf ⟨rfl, rfl⟩ (fun _ => ⟨rfl, rfl⟩), h.weighed.fr hf (fun _ => ⟨rfl, rfl, rfl, rfl, rfl⟩) rfl rfl (fun _ => rfl), h.hands.fr hf ⟨rfl, rfl, rfl⟩ (fun _ => ⟨rfl, rfl⟩), h.help.fr hf ⟨rfl, rfl, rfl, rfl, rfl⟩, h.laid.fr hf ⟨rfl, rfl, rfl, rfl, rfl⟩ (fun _ => ⟨rfl, rfl, rfl, rfl, rfl, rfl⟩), h.blame.fr hf ⟨rfl, rfl, rfl⟩ (fun _ => ⟨rfl, rfl, rfl, rfl, rfl, rfl, rfl⟩), h.days.fr hf (fun c i q => by simp [sDays] at q; simp [sRing]; omega), h.key.fr hf ⟨rfl, rfl, rfl, rfl, rfl, rfl, rfl, rfl⟩⟩
theorem kp_end {x : Int32} (h : Rel M) : Two l D ad kA mX11_end mX13_end [.int x] M Rel := (pr_end h.tape).imp (fun _ ⟨hf, q⟩ => ⟨q, h.fault.fr hf ⟨rfl, rfl, rfl, rfl⟩, h.score.fr hf ⟨rfl, rfl⟩ (fun _ => ⟨rfl, rfl, rfl, rfl, rfl, rfl, rfl, rfl⟩), h.rule.fr hf (fun _ => ⟨rfl, rfl⟩), h.ends.fr hf ⟨rfl, rfl⟩ (fun _ => ⟨rfl, rfl, rfl, rfl⟩), h.ring.fr hf ⟨rfl, rfl⟩ (fun _ => ⟨rfl, rfl⟩), h.part.fr hf ⟨rfl, rfl, rfl⟩ (fun _ => ⟨rfl, rfl, rfl⟩), h.use.fr hf ⟨rfl, rfl⟩ (fun _ => rfl), h.used.fr hf ⟨rfl, rfl⟩ (fun _ => ⟨rfl, rfl⟩), h.weighed.fr hf (fun _ => ⟨rfl, rfl, rfl, rfl, rfl⟩) rfl rfl (fun _ => rfl), h.hands.fr hf ⟨rfl, rfl, rfl⟩ (fun _ => ⟨rfl, rfl⟩), h.help.fr hf ⟨rfl, rfl, rfl, rfl, rfl⟩, h.laid.fr hf ⟨rfl, rfl, rfl, rfl, rfl⟩ (fun _ => ⟨rfl, rfl, rfl, rfl, rfl, rfl⟩), h.blame.fr hf ⟨rfl, rfl, rfl⟩ (fun _ => ⟨rfl, rfl, rfl, rfl, rfl, rfl, rfl⟩), h.days.fr hf (fun c i q => by simp [sDays] at q; simp [sEnd]; omega), h.key.fr hf ⟨rfl, rfl, rfl, rfl, rfl, rfl, rfl, rfl⟩⟩)
theorem kp_feed {a b c d e : Int32} (h : Rel M) : Two l D ad kA mX11_feed mX13_feed [.int a, .int b, .int c, .int d, .int e] M Rel := (pr_feed h.tape).imp (fun _ ⟨hf, q⟩ => ⟨q, h.fault.fr hf ⟨rfl, rfl, rfl, rfl⟩, h.score.fr hf ⟨rfl, rfl⟩ (fun _ => ⟨rfl, rfl, rfl, rfl, rfl, rfl, rfl, rfl⟩), h.rule.fr hf (fun _ => ⟨rfl, rfl⟩), h.ends.fr hf ⟨rfl, rfl⟩ (fun _ => ⟨rfl, rfl, rfl, rfl⟩), h.ring.fr hf ⟨rfl, rfl⟩ (fun _ => ⟨rfl, rfl⟩), h.part.fr hf ⟨rfl, rfl, rfl⟩ (fun _ => ⟨rfl, rfl, rfl⟩), h.use.fr hf ⟨rfl, rfl⟩ (fun _ => rfl), h.used.fr hf ⟨rfl, rfl⟩ (fun _ => ⟨rfl, rfl⟩), h.weighed.fr hf (fun _ => ⟨rfl, rfl, rfl, rfl, rfl⟩) rfl rfl (fun _ => rfl), h.hands.fr hf ⟨rfl, rfl, rfl⟩ (fun _ => ⟨rfl, rfl⟩), h.help.fr hf ⟨rfl, rfl, rfl, rfl, rfl⟩, h.laid.fr hf ⟨rfl, rfl, rfl, rfl, rfl⟩ (fun _ => ⟨rfl, rfl, rfl, rfl, rfl, rfl⟩), h.blame.fr hf ⟨rfl, rfl, rfl⟩ (fun _ => ⟨rfl, rfl, rfl, rfl, rfl, rfl, rfl⟩), h.days.fr hf (fun c i q => by simp [sDays] at q; simp [sFeed]; omega), h.key.fr hf ⟨rfl, rfl, rfl, rfl, rfl, rfl, rfl, rfl⟩⟩)
theorem kp_key {x y : Int32} (h : Rel M) : Two l D ad kA mX11_key mX13_key [.int x, .int y] M Rel := by
  refine (pr_key h.days h.score).imp (fun M2 ⟨hf, z⟩ => ?_)
  rcases z with e | q
  · rw [e]; exact h
  · exact ⟨h.tape.fr hf ⟨rfl, rfl⟩ (fun _ => ⟨rfl, rfl⟩), h.fault.fr hf ⟨rfl, rfl, rfl, rfl⟩, h.score.fr hf ⟨rfl, rfl⟩ (fun _ => ⟨rfl, rfl, rfl, rfl, rfl, rfl, rfl, rfl⟩), h.rule.fr hf (fun _ => ⟨rfl, rfl⟩), h.ends.fr hf ⟨rfl, rfl⟩ (fun _ => ⟨rfl, rfl, rfl, rfl⟩), h.ring.fr hf ⟨rfl, rfl⟩ (fun _ => ⟨rfl, rfl⟩), h.part.fr hf ⟨rfl, rfl, rfl⟩ (fun _ => ⟨rfl, rfl, rfl⟩), h.use.fr hf ⟨rfl, rfl⟩ (fun _ => rfl), h.used.fr hf ⟨rfl, rfl⟩ (fun _ => ⟨rfl, rfl⟩), h.weighed.fr hf (fun _ => ⟨rfl, rfl, rfl, rfl, rfl⟩) rfl rfl (fun _ => rfl), h.hands.fr hf ⟨rfl, rfl, rfl⟩ (fun _ => ⟨rfl, rfl⟩), h.help.fr hf ⟨rfl, rfl, rfl, rfl, rfl⟩, h.laid.fr hf ⟨rfl, rfl, rfl, rfl, rfl⟩ (fun _ => ⟨rfl, rfl, rfl, rfl, rfl, rfl⟩), h.blame.fr hf ⟨rfl, rfl, rfl⟩ (fun _ => ⟨rfl, rfl, rfl, rfl, rfl, rfl, rfl⟩), h.days.fr hf (fun c i q => by simp [sDays] at q; simp [sKp]; omega), q⟩
theorem kp_give {x y : Int32} (h : Rel M) : Two l D ad kA mX11_give mX13_give [.int x, .int y] M Rel := (pr_give h.score h.ring h.use h.part).imp (fun _ ⟨hf, q⟩ => ⟨h.tape.fr hf ⟨rfl, rfl⟩ (fun _ => ⟨rfl, rfl⟩), h.fault.fr hf ⟨rfl, rfl, rfl, rfl⟩, h.score.fr hf ⟨rfl, rfl⟩ (fun _ => ⟨rfl, rfl, rfl, rfl, rfl, rfl, rfl, rfl⟩), h.rule.fr hf (fun _ => ⟨rfl, rfl⟩), h.ends.fr hf ⟨rfl, rfl⟩ (fun _ => ⟨rfl, rfl, rfl, rfl⟩), h.ring.fr hf ⟨rfl, rfl⟩ (fun _ => ⟨rfl, rfl⟩), q, h.use.fr hf ⟨rfl, rfl⟩ (fun _ => rfl), h.used.fr hf ⟨rfl, rfl⟩ (fun _ => ⟨rfl, rfl⟩), h.weighed.fr hf (fun _ => ⟨rfl, rfl, rfl, rfl, rfl⟩) rfl rfl (fun _ => rfl), h.hands.fr hf ⟨rfl, rfl, rfl⟩ (fun _ => ⟨rfl, rfl⟩), h.help.fr hf ⟨rfl, rfl, rfl, rfl, rfl⟩, h.laid.fr hf ⟨rfl, rfl, rfl, rfl, rfl⟩ (fun _ => ⟨rfl, rfl, rfl, rfl, rfl, rfl⟩), h.blame.fr hf ⟨rfl, rfl, rfl⟩ (fun _ => ⟨rfl, rfl, rfl, rfl, rfl, rfl, rfl⟩), h.days.fr hf (fun c i q => by simp [sDays] at q; simp [sGive]; omega), h.key.fr hf ⟨rfl, rfl, rfl, rfl, rfl, rfl, rfl, rfl⟩⟩)
theorem kp_clashes (h : Rel M) : Two l D ad kA mX11_clashes mX13_clashes [] M Rel := (pr_clashes h.score h.ends).imp (fun _ hf => ⟨h.tape.fr hf ⟨rfl, rfl⟩ (fun _ => ⟨rfl, rfl⟩), h.fault.fr hf ⟨rfl, rfl, rfl, rfl⟩, h.score.fr hf ⟨rfl, rfl⟩ (fun _ => ⟨rfl, rfl, rfl, rfl, rfl, rfl, rfl, rfl⟩), h.rule.fr hf (fun _ => ⟨rfl, rfl⟩), h.ends.fr hf ⟨rfl, rfl⟩ (fun _ => ⟨rfl, rfl, rfl, rfl⟩), h.ring.fr hf ⟨rfl, rfl⟩ (fun _ => ⟨rfl, rfl⟩), h.part.fr hf ⟨rfl, rfl, rfl⟩ (fun _ => ⟨rfl, rfl, rfl⟩), h.use.fr hf ⟨rfl, rfl⟩ (fun _ => rfl), h.used.fr hf ⟨rfl, rfl⟩ (fun _ => ⟨rfl, rfl⟩), h.weighed.fr hf (fun _ => ⟨rfl, rfl, rfl, rfl, rfl⟩) rfl rfl (fun _ => rfl), h.hands.fr hf ⟨rfl, rfl, rfl⟩ (fun _ => ⟨rfl, rfl⟩), h.help.fr hf ⟨rfl, rfl, rfl, rfl, rfl⟩, h.laid.fr hf ⟨rfl, rfl, rfl, rfl, rfl⟩ (fun _ => ⟨rfl, rfl, rfl, rfl, rfl, rfl⟩), h.blame.fr hf ⟨rfl, rfl, rfl⟩ (fun _ => ⟨rfl, rfl, rfl, rfl, rfl, rfl, rfl⟩), h.days.fr hf (fun c i q => by simp [sDays] at q; simp [sClash]; omega), h.key.fr hf ⟨rfl, rfl, rfl, rfl, rfl, rfl, rfl, rfl⟩⟩)
theorem kp_clash {x y : Int32} (h : Rel M) : Two l D ad kA mX11_clash mX13_clash [.int x, .int y] M Rel := (pr_clash h.score h.ends).imp (fun _ hf => ⟨h.tape.fr hf ⟨rfl, rfl⟩ (fun _ => ⟨rfl, rfl⟩), h.fault.fr hf ⟨rfl, rfl, rfl, rfl⟩, h.score.fr hf ⟨rfl, rfl⟩ (fun _ => ⟨rfl, rfl, rfl, rfl, rfl, rfl, rfl, rfl⟩), h.rule.fr hf (fun _ => ⟨rfl, rfl⟩), h.ends.fr hf ⟨rfl, rfl⟩ (fun _ => ⟨rfl, rfl, rfl, rfl⟩), h.ring.fr hf ⟨rfl, rfl⟩ (fun _ => ⟨rfl, rfl⟩), h.part.fr hf ⟨rfl, rfl, rfl⟩ (fun _ => ⟨rfl, rfl, rfl⟩), h.use.fr hf ⟨rfl, rfl⟩ (fun _ => rfl), h.used.fr hf ⟨rfl, rfl⟩ (fun _ => ⟨rfl, rfl⟩), h.weighed.fr hf (fun _ => ⟨rfl, rfl, rfl, rfl, rfl⟩) rfl rfl (fun _ => rfl), h.hands.fr hf ⟨rfl, rfl, rfl⟩ (fun _ => ⟨rfl, rfl⟩), h.help.fr hf ⟨rfl, rfl, rfl, rfl, rfl⟩, h.laid.fr hf ⟨rfl, rfl, rfl, rfl, rfl⟩ (fun _ => ⟨rfl, rfl, rfl, rfl, rfl, rfl⟩), h.blame.fr hf ⟨rfl, rfl, rfl⟩ (fun _ => ⟨rfl, rfl, rfl, rfl, rfl, rfl, rfl⟩), h.days.fr hf (fun c i q => by simp [sDays] at q; simp [sClash]; omega), h.key.fr hf ⟨rfl, rfl, rfl, rfl, rfl, rfl, rfl, rfl⟩⟩)
theorem kp_damp (h : Rel M) : Two l D ad kA mX11_damp mX13_damp [] M Rel := (pr_damp h.score h.ends).imp (fun _ ⟨hf, q1, q2, q3, q4, q5⟩ => ⟨h.tape.fr hf ⟨rfl, rfl⟩ (fun _ => ⟨rfl, rfl⟩), h.fault.fr hf ⟨rfl, rfl, rfl, rfl⟩, q1, h.rule.fr hf (fun _ => ⟨rfl, rfl⟩), q2, h.ring.fr hf ⟨rfl, rfl⟩ (fun _ => ⟨rfl, rfl⟩), h.part.fr hf ⟨rfl, rfl, rfl⟩ (fun _ => ⟨rfl, rfl, rfl⟩), h.use.fr hf ⟨rfl, rfl⟩ (fun _ => rfl), h.used.fr hf ⟨rfl, rfl⟩ (fun _ => ⟨rfl, rfl⟩), r0_weighed q5, r0_hands q3 q4, h.help.fr hf ⟨rfl, rfl, rfl, rfl, rfl⟩, h.laid.fr hf ⟨rfl, rfl, rfl, rfl, rfl⟩ (fun _ => ⟨rfl, rfl, rfl, rfl, rfl, rfl⟩), h.blame.fr hf ⟨rfl, rfl, rfl⟩ (fun _ => ⟨rfl, rfl, rfl, rfl, rfl, rfl, rfl⟩), h.days.fr hf (fun c i q => by simp [sDays] at q; simp [sDamp]; omega), h.key.fr hf ⟨rfl, rfl, rfl, rfl, rfl, rfl, rfl, rfl⟩⟩)
theorem kp_count {x : Int32} (h : Rel M) : Two l D ad kA mX11_count mX13_count [.int x] M Rel := (pr_count h.score h.ring h.days h.tape h.used h.part).imp (fun _ hf => ⟨h.tape.fr hf ⟨rfl, rfl⟩ (fun _ => ⟨rfl, rfl⟩), h.fault.fr hf ⟨rfl, rfl, rfl, rfl⟩, h.score.fr hf ⟨rfl, rfl⟩ (fun _ => ⟨rfl, rfl, rfl, rfl, rfl, rfl, rfl, rfl⟩), h.rule.fr hf (fun _ => ⟨rfl, rfl⟩), h.ends.fr hf ⟨rfl, rfl⟩ (fun _ => ⟨rfl, rfl, rfl, rfl⟩), h.ring.fr hf ⟨rfl, rfl⟩ (fun _ => ⟨rfl, rfl⟩), h.part.fr hf ⟨rfl, rfl, rfl⟩ (fun _ => ⟨rfl, rfl, rfl⟩), h.use.fr hf ⟨rfl, rfl⟩ (fun _ => rfl), h.used.fr hf ⟨rfl, rfl⟩ (fun _ => ⟨rfl, rfl⟩), h.weighed.fr hf (fun _ => ⟨rfl, rfl, rfl, rfl, rfl⟩) rfl rfl (fun _ => rfl), h.hands.fr hf ⟨rfl, rfl, rfl⟩ (fun _ => ⟨rfl, rfl⟩), h.help.fr hf ⟨rfl, rfl, rfl, rfl, rfl⟩, h.laid.fr hf ⟨rfl, rfl, rfl, rfl, rfl⟩ (fun _ => ⟨rfl, rfl, rfl, rfl, rfl, rfl⟩), h.blame.fr hf ⟨rfl, rfl, rfl⟩ (fun _ => ⟨rfl, rfl, rfl, rfl, rfl, rfl, rfl⟩), h.days.fr hf (fun c i q => by simp [sDays] at q; simp [sFU]; omega), h.key.fr hf ⟨rfl, rfl, rfl, rfl, rfl, rfl, rfl, rfl⟩⟩)
theorem kp_load {x : Int32} (h : Rel M) : Two l D ad kA mX11_load mX13_load [.int x] M Rel := (pr_load h.score h.rule h.ring h.used h.part).imp (fun _ hf => ⟨h.tape.fr hf ⟨rfl, rfl⟩ (fun _ => ⟨rfl, rfl⟩), h.fault.fr hf ⟨rfl, rfl, rfl, rfl⟩, h.score.fr hf ⟨rfl, rfl⟩ (fun _ => ⟨rfl, rfl, rfl, rfl, rfl, rfl, rfl, rfl⟩), h.rule.fr hf (fun _ => ⟨rfl, rfl⟩), h.ends.fr hf ⟨rfl, rfl⟩ (fun _ => ⟨rfl, rfl, rfl, rfl⟩), h.ring.fr hf ⟨rfl, rfl⟩ (fun _ => ⟨rfl, rfl⟩), h.part.fr hf ⟨rfl, rfl, rfl⟩ (fun _ => ⟨rfl, rfl, rfl⟩), h.use.fr hf ⟨rfl, rfl⟩ (fun _ => rfl), h.used.fr hf ⟨rfl, rfl⟩ (fun _ => ⟨rfl, rfl⟩), h.weighed.fr hf (fun _ => ⟨rfl, rfl, rfl, rfl, rfl⟩) rfl rfl (fun _ => rfl), h.hands.fr hf ⟨rfl, rfl, rfl⟩ (fun _ => ⟨rfl, rfl⟩), h.help.fr hf ⟨rfl, rfl, rfl, rfl, rfl⟩, h.laid.fr hf ⟨rfl, rfl, rfl, rfl, rfl⟩ (fun _ => ⟨rfl, rfl, rfl, rfl, rfl, rfl⟩), h.blame.fr hf ⟨rfl, rfl, rfl⟩ (fun _ => ⟨rfl, rfl, rfl, rfl, rfl, rfl, rfl⟩), h.days.fr hf (fun c i q => by simp [sDays] at q; simp [sTakes]; omega), h.key.fr hf ⟨rfl, rfl, rfl, rfl, rfl, rfl, rfl, rfl⟩⟩)
theorem kp_hands {z : Int64} (h : Rel M) : Two l D ad kA mX11_hands mX13_hands [.long z] M Rel := (pr_hands h.score h.rule h.hands).imp (fun _ ⟨hf, q⟩ => ⟨h.tape.fr hf ⟨rfl, rfl⟩ (fun _ => ⟨rfl, rfl⟩), h.fault.fr hf ⟨rfl, rfl, rfl, rfl⟩, h.score.fr hf ⟨rfl, rfl⟩ (fun _ => ⟨rfl, rfl, rfl, rfl, rfl, rfl, rfl, rfl⟩), h.rule.fr hf (fun _ => ⟨rfl, rfl⟩), h.ends.fr hf ⟨rfl, rfl⟩ (fun _ => ⟨rfl, rfl, rfl, rfl⟩), h.ring.fr hf ⟨rfl, rfl⟩ (fun _ => ⟨rfl, rfl⟩), h.part.fr hf ⟨rfl, rfl, rfl⟩ (fun _ => ⟨rfl, rfl, rfl⟩), h.use.fr hf ⟨rfl, rfl⟩ (fun _ => rfl), h.used.fr hf ⟨rfl, rfl⟩ (fun _ => ⟨rfl, rfl⟩), h.weighed.fr hf (fun _ => ⟨rfl, rfl, rfl, rfl, rfl⟩) rfl rfl (fun _ => rfl), q, h.help.fr hf ⟨rfl, rfl, rfl, rfl, rfl⟩, h.laid.fr hf ⟨rfl, rfl, rfl, rfl, rfl⟩ (fun _ => ⟨rfl, rfl, rfl, rfl, rfl, rfl⟩), h.blame.fr hf ⟨rfl, rfl, rfl⟩ (fun _ => ⟨rfl, rfl, rfl, rfl, rfl, rfl, rfl⟩), h.days.fr hf (fun c i q => by simp [sDays] at q; simp [sHands]; omega), h.key.fr hf ⟨rfl, rfl, rfl, rfl, rfl, rfl, rfl, rfl⟩⟩)
theorem kp_part (h : Rel M) : Two l D ad kA mX11_part mX13_part [] M Rel := (pr_part h.score h.rule h.ring h.used h.part h.weighed).imp (fun _ ⟨hf, q1, q2⟩ => ⟨h.tape.fr hf ⟨rfl, rfl⟩ (fun _ => ⟨rfl, rfl⟩), h.fault.fr hf ⟨rfl, rfl, rfl, rfl⟩, h.score.fr hf ⟨rfl, rfl⟩ (fun _ => ⟨rfl, rfl, rfl, rfl, rfl, rfl, rfl, rfl⟩), h.rule.fr hf (fun _ => ⟨rfl, rfl⟩), h.ends.fr hf ⟨rfl, rfl⟩ (fun _ => ⟨rfl, rfl, rfl, rfl⟩), h.ring.fr hf ⟨rfl, rfl⟩ (fun _ => ⟨rfl, rfl⟩), q1, h.use.fr hf ⟨rfl, rfl⟩ (fun _ => rfl), h.used.fr hf ⟨rfl, rfl⟩ (fun _ => ⟨rfl, rfl⟩), q2, h.hands.fr hf ⟨rfl, rfl, rfl⟩ (fun _ => ⟨rfl, rfl⟩), h.help.fr hf ⟨rfl, rfl, rfl, rfl, rfl⟩, h.laid.fr hf ⟨rfl, rfl, rfl, rfl, rfl⟩ (fun _ => ⟨rfl, rfl, rfl, rfl, rfl, rfl⟩), h.blame.fr hf ⟨rfl, rfl, rfl⟩ (fun _ => ⟨rfl, rfl, rfl, rfl, rfl, rfl, rfl⟩), h.days.fr hf (fun c i q => by simp [sDays] at q; simp [sPart]; omega), h.key.fr hf ⟨rfl, rfl, rfl, rfl, rfl, rfl, rfl, rfl⟩⟩)
theorem kp_cover {x : Int32} (h : Rel M) : Two l D ad kA mX11_cover mX13_cover [.int x] M Rel := (pr_cover h.score h.rule h.ring h.used h.part h.weighed).imp (fun _ ⟨hf, q1, q2⟩ => ⟨h.tape.fr hf ⟨rfl, rfl⟩ (fun _ => ⟨rfl, rfl⟩), h.fault.fr hf ⟨rfl, rfl, rfl, rfl⟩, h.score.fr hf ⟨rfl, rfl⟩ (fun _ => ⟨rfl, rfl, rfl, rfl, rfl, rfl, rfl, rfl⟩), h.rule.fr hf (fun _ => ⟨rfl, rfl⟩), h.ends.fr hf ⟨rfl, rfl⟩ (fun _ => ⟨rfl, rfl, rfl, rfl⟩), h.ring.fr hf ⟨rfl, rfl⟩ (fun _ => ⟨rfl, rfl⟩), q1, h.use.fr hf ⟨rfl, rfl⟩ (fun _ => rfl), h.used.fr hf ⟨rfl, rfl⟩ (fun _ => ⟨rfl, rfl⟩), q2, h.hands.fr hf ⟨rfl, rfl, rfl⟩ (fun _ => ⟨rfl, rfl⟩), h.help.fr hf ⟨rfl, rfl, rfl, rfl, rfl⟩, h.laid.fr hf ⟨rfl, rfl, rfl, rfl, rfl⟩ (fun _ => ⟨rfl, rfl, rfl, rfl, rfl, rfl⟩), h.blame.fr hf ⟨rfl, rfl, rfl⟩ (fun _ => ⟨rfl, rfl, rfl, rfl, rfl, rfl, rfl⟩), h.days.fr hf (fun c i q => by simp [sDays] at q; simp [sPart]; omega), h.key.fr hf ⟨rfl, rfl, rfl, rfl, rfl, rfl, rfl, rfl⟩⟩)
theorem kp_help {x : Int32} (h : Rel M) : Two l D ad kA mX11_help mX13_help [.int x] M Rel := (pr_help h.score h.rule h.ring h.used h.part h.help).imp (fun _ ⟨hf, q⟩ => ⟨h.tape.fr hf ⟨rfl, rfl⟩ (fun _ => ⟨rfl, rfl⟩), h.fault.fr hf ⟨rfl, rfl, rfl, rfl⟩, h.score.fr hf ⟨rfl, rfl⟩ (fun _ => ⟨rfl, rfl, rfl, rfl, rfl, rfl, rfl, rfl⟩), h.rule.fr hf (fun _ => ⟨rfl, rfl⟩), h.ends.fr hf ⟨rfl, rfl⟩ (fun _ => ⟨rfl, rfl, rfl, rfl⟩), h.ring.fr hf ⟨rfl, rfl⟩ (fun _ => ⟨rfl, rfl⟩), h.part.fr hf ⟨rfl, rfl, rfl⟩ (fun _ => ⟨rfl, rfl, rfl⟩), h.use.fr hf ⟨rfl, rfl⟩ (fun _ => rfl), h.used.fr hf ⟨rfl, rfl⟩ (fun _ => ⟨rfl, rfl⟩), h.weighed.fr hf (fun _ => ⟨rfl, rfl, rfl, rfl, rfl⟩) rfl rfl (fun _ => rfl), h.hands.fr hf ⟨rfl, rfl, rfl⟩ (fun _ => ⟨rfl, rfl⟩), q, h.laid.fr hf ⟨rfl, rfl, rfl, rfl, rfl⟩ (fun _ => ⟨rfl, rfl, rfl, rfl, rfl, rfl⟩), h.blame.fr hf ⟨rfl, rfl, rfl⟩ (fun _ => ⟨rfl, rfl, rfl, rfl, rfl, rfl, rfl⟩), h.days.fr hf (fun c i q => by simp [sDays] at q; simp [sHelp]; omega), h.key.fr hf ⟨rfl, rfl, rfl, rfl, rfl, rfl, rfl, rfl⟩⟩)
theorem kp_manners (h : Rel M) : TwoH l D ad kA mX11_manners mX13_manners [] M Rel := (pr_manners h.tape h.rule h.hands h.weighed).imp (fun _ ⟨hf, q1, q2, q3, q4, q5⟩ => ⟨q1, q2, h.score.fr hf ⟨rfl, rfl⟩ (fun _ => ⟨rfl, rfl, rfl, rfl, rfl, rfl, rfl, rfl⟩), q3, h.ends.fr hf ⟨rfl, rfl⟩ (fun _ => ⟨rfl, rfl, rfl, rfl⟩), h.ring.fr hf ⟨rfl, rfl⟩ (fun _ => ⟨rfl, rfl⟩), h.part.fr hf ⟨rfl, rfl, rfl⟩ (fun _ => ⟨rfl, rfl, rfl⟩), h.use.fr hf ⟨rfl, rfl⟩ (fun _ => rfl), h.used.fr hf ⟨rfl, rfl⟩ (fun _ => ⟨rfl, rfl⟩), q5, q4, h.help.fr hf ⟨rfl, rfl, rfl, rfl, rfl⟩, h.laid.fr hf ⟨rfl, rfl, rfl, rfl, rfl⟩ (fun _ => ⟨rfl, rfl, rfl, rfl, rfl, rfl⟩), h.blame.fr hf ⟨rfl, rfl, rfl⟩ (fun _ => ⟨rfl, rfl, rfl, rfl, rfl, rfl, rfl⟩), h.days.fr hf (fun c i q => by simp [sDays] at q; simp [sMan]; omega), h.key.fr hf ⟨rfl, rfl, rfl, rfl, rfl, rfl, rfl, rfl⟩⟩)
theorem kp_score (h : Rel M) : TwoH l D ad kA mX11_score mX13_score [] M Rel := by
  refine (pr_score h.tape).imp (fun M2 ⟨q1, q2, z⟩ => ?_)
  rcases z with hf | ⟨hf, n1, n2, n3, n4, ⟨n5, n6⟩, ⟨n7, n8⟩, n9, ⟨n10, n11⟩, ⟨n12, n13⟩, n14⟩
  · exact ⟨q1, q2, h.score.fr hf ⟨rfl, rfl⟩ (fun _ => ⟨rfl, rfl, rfl, rfl, rfl, rfl, rfl, rfl⟩), h.rule.fr hf (fun _ => ⟨rfl, rfl⟩), h.ends.fr hf ⟨rfl, rfl⟩ (fun _ => ⟨rfl, rfl, rfl, rfl⟩), h.ring.fr hf ⟨rfl, rfl⟩ (fun _ => ⟨rfl, rfl⟩), h.part.fr hf ⟨rfl, rfl, rfl⟩ (fun _ => ⟨rfl, rfl, rfl⟩), h.use.fr hf ⟨rfl, rfl⟩ (fun _ => rfl), h.used.fr hf ⟨rfl, rfl⟩ (fun _ => ⟨rfl, rfl⟩), h.weighed.fr hf (fun _ => ⟨rfl, rfl, rfl, rfl, rfl⟩) rfl rfl (fun _ => rfl), h.hands.fr hf ⟨rfl, rfl, rfl⟩ (fun _ => ⟨rfl, rfl⟩), h.help.fr hf ⟨rfl, rfl, rfl, rfl, rfl⟩, h.laid.fr hf ⟨rfl, rfl, rfl, rfl, rfl⟩ (fun _ => ⟨rfl, rfl, rfl, rfl, rfl, rfl⟩), h.blame.fr hf ⟨rfl, rfl, rfl⟩ (fun _ => ⟨rfl, rfl, rfl, rfl, rfl, rfl, rfl⟩), h.days.fr hf (fun c i q => by simp [sDays] at q; simp [sText]; omega), h.key.fr hf ⟨rfl, rfl, rfl, rfl, rfl, rfl, rfl, rfl⟩⟩
  · exact ⟨q1, q2, n1, h.rule.fr hf (fun _ => ⟨rfl, rfl⟩), n2, h.ring.fr hf ⟨rfl, rfl⟩ (fun _ => ⟨rfl, rfl⟩), r0_part n5 n6, n3, n4, r0_weighed n14, r0_hands n7 n8, n9, r0_laid n10 n11, r0_blame n10, h.days.fr hf (fun c i q => by simp [sDays] at q; simp [sScore, sText, sScX, sScM]; omega), r0_key n12 n13⟩
theorem kp_heard (h : Rel M) : TwoH l D ad kA mX11_heard mX13_heard [] M Rel := by
  refine (pr_heard h.tape h.score).imp (fun M2 ⟨q1, q2, z⟩ => ?_)
  rcases z with hf | ⟨hf, n1, n2⟩
  · exact ⟨q1, q2, h.score.fr hf ⟨rfl, rfl⟩ (fun _ => ⟨rfl, rfl, rfl, rfl, rfl, rfl, rfl, rfl⟩), h.rule.fr hf (fun _ => ⟨rfl, rfl⟩), h.ends.fr hf ⟨rfl, rfl⟩ (fun _ => ⟨rfl, rfl, rfl, rfl⟩), h.ring.fr hf ⟨rfl, rfl⟩ (fun _ => ⟨rfl, rfl⟩), h.part.fr hf ⟨rfl, rfl, rfl⟩ (fun _ => ⟨rfl, rfl, rfl⟩), h.use.fr hf ⟨rfl, rfl⟩ (fun _ => rfl), h.used.fr hf ⟨rfl, rfl⟩ (fun _ => ⟨rfl, rfl⟩), h.weighed.fr hf (fun _ => ⟨rfl, rfl, rfl, rfl, rfl⟩) rfl rfl (fun _ => rfl), h.hands.fr hf ⟨rfl, rfl, rfl⟩ (fun _ => ⟨rfl, rfl⟩), h.help.fr hf ⟨rfl, rfl, rfl, rfl, rfl⟩, h.laid.fr hf ⟨rfl, rfl, rfl, rfl, rfl⟩ (fun _ => ⟨rfl, rfl, rfl, rfl, rfl, rfl⟩), h.blame.fr hf ⟨rfl, rfl, rfl⟩ (fun _ => ⟨rfl, rfl, rfl, rfl, rfl, rfl, rfl⟩), h.days.fr hf (fun c i q => by simp [sDays] at q; simp [sText]; omega), h.key.fr hf ⟨rfl, rfl, rfl, rfl, rfl, rfl, rfl, rfl⟩⟩
  · exact ⟨q1, q2, h.score.fr hf ⟨rfl, rfl⟩ (fun _ => ⟨rfl, rfl, rfl, rfl, rfl, rfl, rfl, rfl⟩), h.rule.fr hf (fun _ => ⟨rfl, rfl⟩), h.ends.fr hf ⟨rfl, rfl⟩ (fun _ => ⟨rfl, rfl, rfl, rfl⟩), h.ring.fr hf ⟨rfl, rfl⟩ (fun _ => ⟨rfl, rfl⟩), h.part.fr hf ⟨rfl, rfl, rfl⟩ (fun _ => ⟨rfl, rfl, rfl⟩), h.use.fr hf ⟨rfl, rfl⟩ (fun _ => rfl), h.used.fr hf ⟨rfl, rfl⟩ (fun _ => ⟨rfl, rfl⟩), h.weighed.fr hf (fun _ => ⟨rfl, rfl, rfl, rfl, rfl⟩) rfl rfl (fun _ => rfl), h.hands.fr hf ⟨rfl, rfl, rfl⟩ (fun _ => ⟨rfl, rfl⟩), h.help.fr hf ⟨rfl, rfl, rfl, rfl, rfl⟩, n1, n2, h.days.fr hf (fun c i q => by simp [sDays] at q; simp [sHeard, sText, sHeX, sHeM]; omega), h.key.fr hf ⟨rfl, rfl, rfl, rfl, rfl, rfl, rfl, rfl⟩⟩
end Kept
