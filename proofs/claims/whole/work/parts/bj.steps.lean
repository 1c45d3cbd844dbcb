/-! CALLS OF BOTH, AS STEPS -/
section STP
variable {p : Nat → Prop} {σ τ : MS} {a b u w : Nat} {s : Sx} {A : Ofc}
theorem RMk.cong (M : RMk σ) (z : ∀ c, 120 ≤ c → c ≤ 142 → sK τ c = sK σ c) (y : ∀ j, sR τ 120 j = sR σ 120 j) : RMk τ := by
  obtain ⟨h1, h2, h3, h4, h5, h6, h7, h8, h9, h10, h11, h12, h13, h14, h15, h16, h17, h18, h19, h20, h21, h22, h23, h24, h25, h26, h27, h28, h29, h30, h31, h32, h33, h34, h35, h36, h37, h38, h39, h40, h41, h42, h43, h44, h45⟩ := M
  unfold RMk
  simp (disch := omega) only [z, y]
  exact ⟨h1, h2, h3, h4, h5, h6, h7, h8, h9, h10, h11, h12, h13, h14, h15, h16, h17, h18, h19, h20, h21, h22, h23, h24, h25, h26, h27, h28, h29, h30, h31, h32, h33, h34, h35, h36, h37, h38, h39, h40, h41, h42, h43, h44, h45⟩
/-- the Model's side stands while the class is called -/
theorem IMc.far (J : IMc σ s) (h : AgN (fun c => 1 ≤ c ∧ c < 120) σ τ) : IMc τ s := by
  have z : ∀ c, 120 ≤ c → c ≤ 142 → sK τ c = sK σ c := fun c h1 h2 => h.K (by omega)
  have i : ∀ c j, 120 ≤ c → c ≤ 142 → sI τ c j = sI σ c j := fun c j h1 h2 => h.I (by omega) (by omega) j
  have l : ∀ c j, 120 ≤ c → c ≤ 142 → sL τ c j = sL σ c j := fun c j h1 h2 => h.L (by omega) (by omega) j
  have r : ∀ j, sR τ 120 j = sR σ 120 j := fun j => h.R (by omega) (by omega) j
  have i1 := fun j => i 121 j (by omega) (by omega)
  have l2 := fun j => l 122 j (by omega) (by omega)
  have i0 := fun j => i 120 j (by omega) (by omega)
  have l0 := fun j => l 120 j (by omega) (by omega)
  have dm : ∀ (l : Nat) (D : Dy), RDm σ l D → RDm τ l D := fun l D R => RDm.mk ((i1 _).trans R.s7) (fun q hq => (i1 _).trans (R.q0 q hq)) (fun q hq => (i1 _).trans (R.q1 q hq)) (fun q hq => (i1 _).trans (R.q2 q hq)) (fun q hq => (i1 _).trans (R.q4 q hq)) (fun q hq => (i1 _).trans (R.q5 q hq))
  have M := J.m
  refine IMc.mk ?_ ?_ ?_ ?_ ?_ ((i0 _).trans J.m47) (fun k hk => ⟨?_, ?_⟩) ((i0 _).trans J.st) ((i0 _).trans J.f0) ((i0 _).trans J.f1) ((l0 _).trans J.tp) ((l0 _).trans J.bt)
  · exact RMod.mk (M.m.cong z r) ((i1 _).trans M.a0) ((i1 _).trans M.a1) ((i1 _).trans M.a2) ((i1 _).trans M.a3) ((i1 _).trans M.a4) ((i1 _).trans M.a5) ((i1 _).trans M.a6) (fun q hq => (i1 _).trans (M.a8 q hq)) (fun q hq => (i1 _).trans (M.a16 q hq)) (fun q hq => (i1 _).trans (M.a17 q hq)) (fun q hq => (i1 _).trans (M.a32 q hq)) (fun q hq => (l2 _).trans (M.n0 q hq)) (fun q hq => (l2 _).trans (M.n8 q hq)) (fun q hq => (l2 _).trans (M.n16 q hq))
  · have d := J.d
    cases he : s.E with
    | none => rw [he] at d; exact (i1 7).trans d
    | some z => rw [he] at d; exact dm 0 z.1 d
  · have t := J.t
    exact RTm.mk (fun k hk e => (i 124 k (by omega) (by omega)).trans (t.no k hk e)) (fun k x hk e => (i 123 k (by omega) (by omega)).trans (t.i1 k x hk e)) (fun k x hk e => (i 124 k (by omega) (by omega)).trans (t.i2 k x hk e)) (fun k x j hk e hj => (l 125 _ (by omega) (by omega)).trans (t.l3 k x j hk e hj))
  · exact RTq.mk ((i0 _).trans J.p.n) (fun j hj => (i 126 j (by omega) (by omega)).trans (J.p.b j hj))
  · exact RTi.mk ((i0 _).trans J.q.t0) (fun x hx => ⟨fun q hq => (i 142 q (by omega) (by omega)).trans ((J.q.c x hx).1 q hq), (i 142 4 (by omega) (by omega)).trans (J.q.c x hx).2⟩)
  · have S := (J.mo k hk).1
    exact RSl.mk ((i1 _).trans S.a0) ((i1 _).trans S.a1) ((i1 _).trans S.a2) ((i1 _).trans S.a3) ((i1 _).trans S.a4) ((i1 _).trans S.a5) ((i1 _).trans S.a6) (fun q hq => (i1 _).trans (S.a8 q hq)) (fun q hq => (i1 _).trans (S.a16 q hq)) (fun q hq => (i1 _).trans (S.a17 q hq)) (fun q hq => (i1 _).trans (S.a32 q hq)) (fun q hq => (l2 _).trans (S.n0 q hq)) (fun q hq => (l2 _).trans (S.n8 q hq)) (fun q hq => (l2 _).trans (S.n16 q hq))
  · have d := (J.mo k hk).2
    cases he : s.ME k with
    | none => rw [he] at d; exact (i1 _).trans d
    | some z => rw [he] at d; exact dm (k + 1) z.1 d
/-- what the Model's frames leave of a marked slot -/
theorem slot_keep (i1 : ∀ j, 36 ≤ j → j < 1616 → sI τ 121 j = sI σ 121 j) (l2 : ∀ j, 20 ≤ j → j < 80 → sL τ 122 j = sL σ 122 j) {k : Nat} (hk : k < 3) {E : Option (Dy × Pg 4)} (O : OfcOk A) (W : DOo A E) (S : RSl σ (k + 1) A) (d : RDq σ (k + 1) E) : RSl τ (k + 1) A ∧ RDq τ (k + 1) E := by
  have t8 := O.t8
  have p8 := O.p8
  have c4 := O.c4
  refine ⟨RSl.mk ((i1 _ (by omega) (by omega)).trans S.a0) ((i1 _ (by omega) (by omega)).trans S.a1) ((i1 _ (by omega) (by omega)).trans S.a2) ((i1 _ (by omega) (by omega)).trans S.a3) ((i1 _ (by omega) (by omega)).trans S.a4) ((i1 _ (by omega) (by omega)).trans S.a5) ((i1 _ (by omega) (by omega)).trans S.a6) (fun q hq => (i1 _ (by omega) (by omega)).trans (S.a8 q hq)) (fun q hq => (i1 _ (by omega) (by omega)).trans (S.a16 q hq)) (fun q hq => (i1 _ (by omega) (by omega)).trans (S.a17 q hq)) (fun q hq => (i1 _ (by omega) (by omega)).trans (S.a32 q hq)) (fun q hq => (l2 _ (by omega) (by omega)).trans (S.n0 q hq)) (fun q hq => (l2 _ (by omega) (by omega)).trans (S.n8 q hq)) (fun q hq => (l2 _ (by omega) (by omega)).trans (S.n16 q hq)), ?_⟩
  cases E with
  | none => exact (i1 _ (by omega) (by omega)).trans d
  | some z =>
    have d : RDm σ (k + 1) z.1 := d
    have d60 := (W z rfl).2.1
    exact RDm.mk ((i1 _ (by omega) (by omega)).trans d.s7) (fun q hq => (i1 _ (by omega) (by omega)).trans (d.q0 q hq)) (fun q hq => (i1 _ (by omega) (by omega)).trans (d.q1 q hq)) (fun q hq => (i1 _ (by omega) (by omega)).trans (d.q2 q hq)) (fun q hq => (i1 _ (by omega) (by omega)).trans (d.q4 q hq)) (fun q hq => (i1 _ (by omega) (by omega)).trans (d.q5 q hq))
theorem RDp.keep3 {E : Option (Dy × Pg 4)} (W : DOo A E) (R : RDp σ E) (h : ∀ j, (j = 7 ∨ 36 ≤ j) → j < 1616 → sI τ 121 j = sI σ 121 j) : RDp τ E := by
  cases E with
  | none => exact (h 7 (.inl rfl) (by omega)).trans R
  | some z =>
    have d : RDm σ 0 z.1 := R
    have d60 := (W z rfl).2.1
    exact RDm.mk ((h _ (by omega) (by omega)).trans d.s7) (fun q hq => (h _ (by omega) (by omega)).trans (d.q0 q hq)) (fun q hq => (h _ (by omega) (by omega)).trans (d.q1 q hq)) (fun q hq => (h _ (by omega) (by omega)).trans (d.q2 q hq)) (fun q hq => (h _ (by omega) (by omega)).trans (d.q4 q hq)) (fun q hq => (h _ (by omega) (by omega)).trans (d.q5 q hq))
theorem IMc.mfn (J : IMc σ s) (S : SOk s) (h : MFN σ τ) (M : RMod τ A) : IMc τ (s.wA A) := by
  obtain ⟨f, z, l, i, n⟩ := h
  have m3 := S.m3
  refine IMc.mk M (RDp.keep3 S.e J.d i) (J.t.ag f (by omega) (by omega) (by omega)) (RTq.mk ((z _ (by omega)).trans J.p.n) (fun j hj => (f.I (by omega) j).trans (J.p.b j hj))) (RTi.mk ((z _ (by omega)).trans J.q.t0) (fun x hx => ⟨fun q hq => (f.I (by omega) q).trans ((J.q.c x hx).1 q hq), (f.I (by omega) 4).trans (J.q.c x hx).2⟩)) ((z _ (by omega)).trans J.m47) (fun k (hk : k < s.m) => ?_) ((z _ (by omega)).trans J.st) ((z _ (by omega)).trans J.f0) ((z _ (by omega)).trans J.f1) ((l _).trans J.tp) ((l _).trans J.bt)
  obtain ⟨q1, q2, q3⟩ := S.mq k hk
  exact slot_keep (fun j h1 h2 => i j (.inr h1) h2) (fun j h1 _ => n j h1) (by omega) q1 q3 (J.mo k hk).1 (J.mo k hk).2
theorem IMc.sta (J : IMc σ s) (v : Int32) : IMc (setI σ 120 2 v) (s.wS v) := by
  have f : Ag (fun c => c = 120) σ (setI σ 120 2 v) := Ag.rf.setI rfl
  have z : ∀ j, j ≠ 2 → sI (setI σ 120 2 v) 120 j = sI σ 120 j := fun j hj => by rw [sI_setI, if_neg (fun h => hj h.2)]
  have i1 := fun j => f.I (b := 121) (by omega) j
  refine IMc.mk (J.m.ag f (by omega) (by omega)) (RDp.keep J.d (fun j _ => i1 j)) (J.t.ag f (by omega) (by omega) (by omega)) (RTq.mk ((z _ (by omega)).trans J.p.n) (fun j hj => (f.I (by omega) j).trans (J.p.b j hj))) (RTi.mk ((z _ (by omega)).trans J.q.t0) (fun x hx => ⟨fun q hq => (f.I (by omega) q).trans ((J.q.c x hx).1 q hq), (f.I (by omega) 4).trans (J.q.c x hx).2⟩)) ((z _ (by omega)).trans J.m47) (fun k hk => J.mo k hk) (by rw [sI_setI, if_pos ⟨rfl, rfl⟩]; rfl) ((z _ (by omega)).trans J.f0) ((z _ (by omega)).trans J.f1) J.tp J.bt
def Grw (σ τ : MS) : Prop := τ.1 = σ.1 ∨ τ.1 = σ.1 ++ [(0, 6)] ∨ τ.1 = σ.1 ++ [(0, 2)] ++ [(1, 3)]
def XC (σ : MS) (y : Nat) (as : List Value) (r : Value) (s' : Sx) : Prop := ∃ τ, (∃ a b u w, IXc τ a b u w s') ∧ AgN (fun c => 1 ≤ c ∧ c < 120) σ τ ∧ Grw σ τ ∧ ∀ K, zC 30 y as σ K = K (some r) τ
def MC (σ : MS) (y : Nat) (as : List Value) (r : Value) (s' : Sx) : Prop := ∃ τ, IMc τ s' ∧ Ag (fun c => 120 ≤ c ∧ c ≤ 142) σ τ ∧ ∀ K, zC 30 y as σ K = K (some r) τ
variable {y : Nat} {as : List Value} {r : Value} {v : Int32}
theorem IXc.st1 (I : IXc σ a b u w s) (hm : s.m ≤ 3) (v : Int32) : IXc (setI σ 1 0 v) a b u w (s.wS v) :=
  I.sta hm (fun _ => rfl) (by rw [sI_setI, if_pos ⟨rfl, rfl⟩]) (fun j hj => by rw [sI_setI, if_neg (fun h => hj h.2)]) (fun _ => rfl) (Ag.rf.setI rfl)
theorem Ag.x {q : Nat → Prop} (f : Ag p σ τ) (h : ∀ c, p c → 1 ≤ c ∧ c < 120) : AgN (fun c => 1 ≤ c ∧ c < 120) σ τ := f.toN.mono (fun c _ hc => h c hc)
theorem XC.id (I : IXc σ a b u w s) (c : ∀ K, zC 30 y as σ K = K (some r) σ) : XC σ y as r s := ⟨σ, ⟨a, b, u, w, I⟩, Ag.toN Ag.rf, .inl rfl, c⟩
theorem MC.id (J : IMc σ s) (c : ∀ K, zC 30 y as σ K = K (some r) σ) : MC σ y as r s := ⟨σ, J, Ag.rf, c⟩
theorem XC.ask (I : IXc σ a b u w s) (S : SOk s) (c : ∀ K, zC 30 y as σ K = K (some r) (setI σ 1 0 v)) : XC σ y as r (s.wS v) :=
  ⟨_, ⟨a, b, u, w, I.st1 S.m3 v⟩, ((Ag.rf.setI (p := fun c => 1 ≤ c ∧ c < 120) (by omega)).toN), .inl rfl, c⟩
theorem MC.ask (J : IMc σ s) (c : ∀ K, zC 30 y as σ K = K (some r) (setI σ 120 2 v)) : MC σ y as r (s.wS v) :=
  ⟨_, J.sta v, Ag.rf.setI (by omega), c⟩
theorem MC.mf (J : IMc σ s) (S : SOk s) (h : MF σ τ) (M : RMod τ A) (c : ∀ K, zC 30 y as σ K = K (some r) (setI τ 120 2 v)) : MC σ y as r ((s.wA A).wS v) :=
  ⟨_, (J.mfn S h.n M).sta v, (h.1.mono (fun c hc => by omega)).setI (by omega), c⟩
theorem XC.of (I : IXc τ a b u w s) (S : s.m ≤ 3) (f : Ag p σ τ) (h : ∀ c, p c → 1 ≤ c ∧ c < 120) (c : ∀ K, zC 30 y as σ K = K (some r) (setI τ 1 0 v)) : XC σ y as r (s.wS v) :=
  ⟨_, ⟨a, b, u, w, I.st1 S v⟩, ((f.mono h).setI (by omega)).toN, .inl f.1, c⟩
theorem XC.ofc (I : IXc σ a b u w s) (S : SOk s) (f : Ag (fun c => a ≤ c ∧ c ≤ a + 11) σ τ) (H : ROff τ a A) (c : ∀ K, zC 30 y as σ K = K (some r) (setI τ 1 0 v)) : XC σ y as r ((s.wA A).wS v) := by
  have hab := I.ab
  exact XC.of (I.ofc S.m3 H f) S.m3 f (fun c hc => by omega) c
end STP
