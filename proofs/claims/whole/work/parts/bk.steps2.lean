/-! MORE STEPS: FRACTIONS, TRAYS, THE TAPE, A LIFE -/
section STQ
variable {p : Nat → Prop} {σ τ : MS} {a b u w : Nat} {s : Sx} {A : Ofc} {y : Nat} {as : List Value} {r : Value} {v : Int32} {f : Fr}
def Sx.fr (s : Sx) (f : Fr) : Sx := if f.1 = 0 then (s.wS (nI 0)).wB (lN (f.2.1 / Nat.gcd f.2.1 f.2.2)) (lN (f.2.2 / Nat.gcd f.2.1 f.2.2)) else s.wS (nI f.1)
theorem xF_ag (σ : MS) (f : Fr) : Ag (fun c => c = 1) σ (xF σ f) := by
  unfold xF
  by_cases h : f.1 = 0
  · rw [if_pos h]; unfold fx; exact (((Ag.rf (p := fun c => c = 1)).setL rfl).setL rfl).setI rfl
  · rw [if_neg h]; exact Ag.rf.setI rfl
theorem mF_ag (σ : MS) (f : Fr) : Ag (fun c => c = 120) σ (mF σ f) := by
  unfold mF
  by_cases h : f.1 = 0
  · rw [if_pos h]; unfold fm; exact (((Ag.rf (p := fun c => c = 120)).setL rfl).setL rfl).setI rfl
  · rw [if_neg h]; exact Ag.rf.setI rfl
theorem IXc.fr (I : IXc σ a b u w s) (hm : s.m ≤ 3) (f : Fr) : IXc (xF σ f) a b u w (s.fr f) := by
  have g := xF_ag σ f
  unfold xF Sx.fr at *
  by_cases h : f.1 = 0
  · rw [if_pos h] at g
    rw [if_pos h, if_pos h]
    refine I.frc hm (fun _ => rfl) ?_ ?_ ?_ ?_ g
    · unfold fx; rw [sI_setI, if_pos ⟨rfl, rfl⟩]
    · intro j hj; unfold fx; rw [sI_setI, if_neg (fun h => hj h.2)]; rfl
    · show sL (setL (setL σ 1 1 _) 1 2 _) 1 1 = _; rw [sL_setL, if_neg (by omega), sL_setL, if_pos ⟨rfl, rfl⟩]
    · show sL (setL (setL σ 1 1 _) 1 2 _) 1 2 = _; rw [sL_setL, if_pos ⟨rfl, rfl⟩]
  · rw [if_neg h, if_neg h]
    exact I.st1 hm _
theorem XC.fra (I : IXc σ a b u w s) (S : SOk s) (c : ∀ K, zC 30 y as σ K = K (some r) (xF σ f)) : XC σ y as r (s.fr f) :=
  ⟨_, ⟨a, b, u, w, I.fr S.m3 f⟩, (xF_ag σ f).x (q := fun _ => True) (fun c h => by omega), .inl (xF_ag σ f).1, c⟩
theorem XC.ff (I : IXc τ a b u w s) (S : SOk s) (g : Ag p σ τ) (h : ∀ c, p c → 1 ≤ c ∧ c < 120) (c : ∀ K, zC 30 y as σ K = K (some r) (xF τ f)) : XC σ y as r (s.fr f) :=
  ⟨_, ⟨a, b, u, w, I.fr S.m3 f⟩, ((g.mono h).tr ((xF_ag τ f).mono (fun c h => by omega))).toN, .inl (g.1 ▸ (xF_ag τ f).1), c⟩
theorem IMc.z120 (J : IMc σ s) (f : Ag (fun c => c = 120) σ τ) (z : ∀ j, j ≠ 2 → sI τ 120 j = sI σ 120 j) (h2 : sI τ 120 2 = v) {x l : Int64} (h3 : sL τ 120 3 = x) (h4 : sL τ 120 4 = l) : IMc τ ((s.wS v).wB x l) := by
  have i1 := fun j => f.I (b := 121) (by omega) j
  have l2 := fun j => f.L (b := 122) (by omega) j
  refine IMc.mk (J.m.ag f (by omega) (by omega)) (RDp.keep J.d (fun j _ => i1 j)) (J.t.ag f (by omega) (by omega) (by omega)) (RTq.mk ((z _ (by omega)).trans J.p.n) (fun j hj => (f.I (by omega) j).trans (J.p.b j hj))) (RTi.mk ((z _ (by omega)).trans J.q.t0) (fun x hx => ⟨fun q hq => (f.I (by omega) q).trans ((J.q.c x hx).1 q hq), (f.I (by omega) 4).trans (J.q.c x hx).2⟩)) ((z _ (by omega)).trans J.m47) (fun k hk => ⟨?_, ?_⟩) h2 ((z _ (by omega)).trans J.f0) ((z _ (by omega)).trans J.f1) h3 h4
  · have S := (J.mo k hk).1
    exact RSl.mk ((i1 _).trans S.a0) ((i1 _).trans S.a1) ((i1 _).trans S.a2) ((i1 _).trans S.a3) ((i1 _).trans S.a4) ((i1 _).trans S.a5) ((i1 _).trans S.a6) (fun q hq => (i1 _).trans (S.a8 q hq)) (fun q hq => (i1 _).trans (S.a16 q hq)) (fun q hq => (i1 _).trans (S.a17 q hq)) (fun q hq => (i1 _).trans (S.a32 q hq)) (fun q hq => (l2 _).trans (S.n0 q hq)) (fun q hq => (l2 _).trans (S.n8 q hq)) (fun q hq => (l2 _).trans (S.n16 q hq))
  · have d := (J.mo k hk).2
    show RDq τ (k + 1) (s.ME k)
    cases he : s.ME k with
    | none => rw [he] at d; exact (i1 _).trans d
    | some z =>
      rw [he] at d
      have d : RDm σ (k + 1) z.1 := d
      exact RDm.mk ((i1 _).trans d.s7) (fun q hq => (i1 _).trans (d.q0 q hq)) (fun q hq => (i1 _).trans (d.q1 q hq)) (fun q hq => (i1 _).trans (d.q2 q hq)) (fun q hq => (i1 _).trans (d.q4 q hq)) (fun q hq => (i1 _).trans (d.q5 q hq))
theorem IMc.fr (J : IMc σ s) (f : Fr) : IMc (mF σ f) (s.fr f) := by
  have g := mF_ag σ f
  unfold mF Sx.fr at *
  by_cases h : f.1 = 0
  · rw [if_pos h] at g
    rw [if_pos h, if_pos h]
    refine J.z120 g ?_ ?_ ?_ ?_
    · intro j hj; unfold fm; rw [sI_setI, if_neg (fun h => hj h.2)]; rfl
    · unfold fm; rw [sI_setI, if_pos ⟨rfl, rfl⟩]
    · show sL (setL (setL σ 120 3 _) 120 4 _) 120 3 = _; rw [sL_setL, if_neg (by omega), sL_setL, if_pos ⟨rfl, rfl⟩]
    · show sL (setL (setL σ 120 3 _) 120 4 _) 120 4 = _; rw [sL_setL, if_pos ⟨rfl, rfl⟩]
  · rw [if_neg h, if_neg h]
    exact J.sta _
theorem MC.fra (J : IMc σ s) (c : ∀ K, zC 30 y as σ K = K (some r) (mF σ f)) : MC σ y as r (s.fr f) :=
  ⟨_, J.fr f, (mF_ag σ f).mono (fun c h => by omega), c⟩
theorem MC.mff (J : IMc σ s) (S : SOk s) (h : MF σ τ) (M : RMod τ s.A) (c : ∀ K, zC 30 y as σ K = K (some r) (mF τ f)) : MC σ y as r (s.fr f) := by
  have J' : IMc τ s := J.mfn S h.n M
  exact ⟨_, J'.fr f, (h.1.mono (fun c hc => by omega)).tr ((mF_ag τ f).mono (fun c h => by omega)), c⟩
theorem MC.mfa (J : IMc σ s) (S : SOk s) (h : MF σ τ) (M : RMod τ s.A) (c : ∀ K, zC 30 y as σ K = K (some r) (setI τ 120 2 v)) : MC σ y as r (s.wS v) := by
  have J' : IMc τ s := J.mfn S h.n M
  exact ⟨_, J'.sta v, (h.1.mono (fun c hc => by omega)).setI (by omega), c⟩
theorem MC.mfm (J : IMc σ s) (S : SOk s) (h : MFN σ τ) (M : RMod τ A) (c : ∀ K, zC 30 y as σ K = K (some r) (setI τ 120 2 v)) : MC σ y as r ((s.wA A).wS v) := 
  ⟨_, (J.mfn S h M).sta v, (h.1.mono (fun c hc => by omega)).setI (by omega), c⟩
theorem MC.tra (J : IMc σ s) {T : Trs} (h : Ag (fun b => b = 123 ∨ b = 124 ∨ b = 125) σ τ) (M : RTm τ T) (c : ∀ K, zC 30 y as σ K = K (some r) (setI τ 120 2 v)) : MC σ y as r ((s.wT T).wS v) := by
  have i1 := fun j => h.I (b := 121) (by omega) j
  have l2 := fun j => h.L (b := 122) (by omega) j
  have z := fun j => h.I (b := 120) (by omega) j
  have J' : IMc τ (s.wT T) := by
    refine IMc.mk (J.m.ag h (by omega) (by omega)) (RDp.keep J.d (fun j _ => i1 j)) M (RTq.mk ((z _).trans J.p.n) (fun j hj => (h.I (by omega) j).trans (J.p.b j hj))) (RTi.mk ((z _).trans J.q.t0) (fun x hx => ⟨fun q hq => (h.I (by omega) q).trans ((J.q.c x hx).1 q hq), (h.I (by omega) 4).trans (J.q.c x hx).2⟩)) ((z _).trans J.m47) (fun k hk => ⟨?_, ?_⟩) ((z _).trans J.st) ((z _).trans J.f0) ((z _).trans J.f1) ((h.L (by omega) _).trans J.tp) ((h.L (by omega) _).trans J.bt)
    · have S := (J.mo k hk).1
      exact RSl.mk ((i1 _).trans S.a0) ((i1 _).trans S.a1) ((i1 _).trans S.a2) ((i1 _).trans S.a3) ((i1 _).trans S.a4) ((i1 _).trans S.a5) ((i1 _).trans S.a6) (fun q hq => (i1 _).trans (S.a8 q hq)) (fun q hq => (i1 _).trans (S.a16 q hq)) (fun q hq => (i1 _).trans (S.a17 q hq)) (fun q hq => (i1 _).trans (S.a32 q hq)) (fun q hq => (l2 _).trans (S.n0 q hq)) (fun q hq => (l2 _).trans (S.n8 q hq)) (fun q hq => (l2 _).trans (S.n16 q hq))
    · have d := (J.mo k hk).2
      show RDq τ (k + 1) (s.ME k)
      cases he : s.ME k with
      | none => rw [he] at d; exact (i1 _).trans d
      | some z =>
        rw [he] at d
        have d : RDm σ (k + 1) z.1 := d
        exact RDm.mk ((i1 _).trans d.s7) (fun q hq => (i1 _).trans (d.q0 q hq)) (fun q hq => (i1 _).trans (d.q1 q hq)) (fun q hq => (i1 _).trans (d.q2 q hq)) (fun q hq => (i1 _).trans (d.q4 q hq)) (fun q hq => (i1 _).trans (d.q5 q hq))
  exact ⟨_, J'.sta v, (h.mono (fun c hc => by omega)).setI (by omega), c⟩
theorem XC.tra (I : IXc σ a b u w s) (S : SOk s) {T : Trs} (h : Ag (fun c => 36 ≤ c ∧ c ≤ 44) σ τ) (H : RTr τ T) (c : ∀ K, zC 30 y as σ K = K (some r) (setI τ 1 0 v)) : XC σ y as r ((s.wT T).wS v) :=
  XC.of (s := s.wT T) (I.tra S.m3 H h) S.m3 h (fun c hc => by omega) c
theorem XC.tap (I : IXc σ a b u w s) (S : SOk s) {P : Tp} (h : TxF σ τ) (H : RTp τ P) (c : ∀ K, zC 30 y as σ K = K (some r) τ) : XC σ y as r (s.wP P) :=
  ⟨τ, ⟨a, b, u, w, I.tap S.m3 H h.1⟩, h.1.x (q := fun _ => True) (fun c hc => by omega), .inl h.1.1, c⟩
/-- what changes neither the slots nor the names of the Model -/
theorem IMc.mo121 (J : IMc σ s) (i1 : ∀ j, 36 ≤ j → sI τ 121 j = sI σ 121 j) (l2 : ∀ j, sL τ 122 j = sL σ 122 j) : ∀ k, k < s.m → RSl τ (k + 1) (s.MA k) ∧ RDq τ (k + 1) (s.ME k) := by
  intro k hk
  have S := (J.mo k hk).1
  have d := (J.mo k hk).2
  refine ⟨RSl.mk ((i1 _ (by omega)).trans S.a0) ((i1 _ (by omega)).trans S.a1) ((i1 _ (by omega)).trans S.a2) ((i1 _ (by omega)).trans S.a3) ((i1 _ (by omega)).trans S.a4) ((i1 _ (by omega)).trans S.a5) ((i1 _ (by omega)).trans S.a6) (fun q hq => (i1 _ (by omega)).trans (S.a8 q hq)) (fun q hq => (i1 _ (by omega)).trans (S.a16 q hq)) (fun q hq => (i1 _ (by omega)).trans (S.a17 q hq)) (fun q hq => (i1 _ (by omega)).trans (S.a32 q hq)) (fun q hq => (l2 _).trans (S.n0 q hq)) (fun q hq => (l2 _).trans (S.n8 q hq)) (fun q hq => (l2 _).trans (S.n16 q hq)), ?_⟩
  cases he : s.ME k with
  | none => rw [he] at d; exact (i1 _ (by omega)).trans d
  | some z =>
    rw [he] at d
    have d : RDm σ (k + 1) z.1 := d
    exact RDm.mk ((i1 _ (by omega)).trans d.s7) (fun q hq => (i1 _ (by omega)).trans (d.q0 q hq)) (fun q hq => (i1 _ (by omega)).trans (d.q1 q hq)) (fun q hq => (i1 _ (by omega)).trans (d.q2 q hq)) (fun q hq => (i1 _ (by omega)).trans (d.q4 q hq)) (fun q hq => (i1 _ (by omega)).trans (d.q5 q hq))
theorem MC.tap (J : IMc σ s) {P : Tp} (h : TqF σ τ) (H : RTq τ P) (c : ∀ K, zC 30 y as σ K = K (some r) τ) : MC σ y as r (s.wP P) := by
  obtain ⟨f, z, l⟩ := h
  have i1 := fun j => f.I (b := 121) (by omega) j
  have l2 := fun j => f.L (b := 122) (by omega) j
  refine ⟨τ, ?_, f.mono (fun c hc => by omega), c⟩
  exact IMc.mk (J.m.ag f (by omega) (by omega)) (RDp.keep J.d (fun j _ => i1 j)) (J.t.ag f (by omega) (by omega) (by omega)) H (RTi.mk ((z _ (by omega)).trans J.q.t0) (fun x hx => ⟨fun q hq => (f.I (by omega) q).trans ((J.q.c x hx).1 q hq), (f.I (by omega) 4).trans (J.q.c x hx).2⟩)) ((z _ (by omega)).trans J.m47) (J.mo121 (fun j _ => i1 j) l2) ((z _ (by omega)).trans J.st) ((z _ (by omega)).trans J.f0) ((z _ (by omega)).trans J.f1) ((l _).trans J.tp) ((l _).trans J.bt)
theorem XC.liv (I : IXc σ a b u w s) (S : SOk s) {Q : Tl} (h : Ag (fun c => (a ≤ c ∧ c ≤ a + 11) ∨ c = 101) σ τ) (H : ROff τ a A) (R : RLi τ Q) (c : ∀ K, zC 30 y as σ K = K (some r) (setI τ 1 0 v)) : XC σ y as r (((s.wA A).wQ Q).wS v) := by
  have hab := I.ab
  exact XC.of (s := (s.wA A).wQ Q) (I.liv S.m3 H R h) S.m3 h (fun c hc => by omega) c
theorem MC.liv (J : IMc σ s) {Q : Tl} (h : GLm σ τ) (M : RMod τ A) (R : RTi τ Q) (c : ∀ K, zC 30 y as σ K = K (some r) (setI τ 120 2 v)) : MC σ y as r (((s.wA A).wQ Q).wS v) := by
  obtain ⟨f, z, l, i⟩ := h
  have l2 := fun j => f.L (b := 122) (by omega) j
  have J' : IMc τ ((s.wA A).wQ Q) :=
    IMc.mk M (RDp.keep J.d (fun j hj => i j hj)) (J.t.ag f (by omega) (by omega) (by omega)) (RTq.mk ((z _ (by omega) (by omega) (by omega) (by omega) (by omega)).trans J.p.n) (fun j hj => (f.I (by omega) j).trans (J.p.b j hj))) R ((z _ (by omega) (by omega) (by omega) (by omega) (by omega)).trans J.m47) (J.mo121 (fun j hj => i j (.inr hj)) l2) ((z _ (by omega) (by omega) (by omega) (by omega) (by omega)).trans J.st) ((z _ (by omega) (by omega) (by omega) (by omega) (by omega)).trans J.f0) ((z _ (by omega) (by omega) (by omega) (by omega) (by omega)).trans J.f1) ((l _).trans J.tp) ((l _).trans J.bt)
  exact ⟨_, J'.sta v, (f.mono (fun c hc => by omega)).setI (by omega), c⟩
end STQ
