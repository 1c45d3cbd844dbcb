/-! TEXTS READ, AS STEPS -/
section STX
variable {p : Nat → Prop} {σ τ ν : MS} {a b u w n k : Nat} {s : Sx} {A : Ofc} {v : Int32}
theorem RDo.kp {E : Option (Dy × Pg 4)} (X : RDo σ u E) (h : ∀ c j, u ≤ c → c ≤ u + 4 → sI τ c j = sI σ c j) : RDo τ u E := by
  cases E with
  | none => exact (h u 0 (by omega) (by omega)).trans X
  | some z =>
    have X : RDc σ u z.1 := X
    exact RDc.mk ((h _ _ (by omega) (by omega)).trans X.u0) ((h _ _ (by omega) (by omega)).trans X.u1) (fun i hi => (h _ _ (by omega) (by omega)).trans (X.c1 i hi)) (fun i hi => (h _ _ (by omega) (by omega)).trans (X.c2 i hi)) (fun i hi => (h _ _ (by omega) (by omega)).trans (X.c3 i hi)) (fun i hi => (h _ _ (by omega) (by omega)).trans (X.c4 i hi))
theorem RTp.emp {P : Tp} (X : RTx σ) (h : sI σ 98 1 = nI 0) : RTp σ (0, P.2) := RTp.mk X h (fun j hj => absurd hj (Nat.not_lt_zero j))
theorem RTq.emp {P : Tp} (h : sI σ 120 10 = nI 0) : RTq σ (0, P.2) := RTq.mk h (fun j hj => absurd hj (Nat.not_lt_zero j))
def Sx.ansR (s : Sx) (v : Int32) : Int32 × Int32 := match ix v (s.P.1 + 1) with
  | none => qR 1
  | some n => qReg (qText (tB s.P) n)
def Sx.uRg (s : Sx) (v : Int32) : Sx := match ix v (s.P.1 + 1) with
  | none => s
  | some n => match qText (tB s.P) n with
    | .inl e => (s.wP (0, s.P.2)).wF (nI e.1) (nI e.2)
    | .inr A => (((s.wA A).wE none).wP (0, s.P.2)).wF (nI 0) (-nI 1)
def Sx.ansD (s : Sx) (v : Int32) : Int32 × Int32 := match ix v (s.P.1 + 1) with
  | none => qR 1
  | some n => if n ≤ 300 then qDy (qDays (tB s.P) n s.A) else qR 1
def Sx.uDa (s : Sx) (l : Pg 4) (v : Int32) : Sx := match ix v (s.P.1 + 1) with
  | none => s
  | some n => if n ≤ 300 then (match qDays (tB s.P) n s.A with
    | .inl e => (s.wP (0, s.P.2)).wF (nI e.1) (nI e.2)
    | .inr D => ((s.wE (some (D, l))).wP (0, s.P.2)).wF (nI 0) (-nI 1)) else s
theorem IXc.rgE (I : IXc σ a b u w s) (hm : s.m ≤ 3) {e : Er} (f : Ag (fun c => c = 1 ∨ c = 98 ∨ (b ≤ c ∧ c ≤ b + 11) ∨ c = u) σ ν) (z1 : sI ν 98 1 = nI 0) (hl : ∀ j, sL ν 1 j = sL σ 1 j) (h : ∀ j, j ≠ 3 → j ≠ 4 → sI ν 1 j = sI σ 1 j) (r : ∀ j, j ≠ 6 → j ≠ 7 → sR ν 1 j = sR σ 1 j) (g0 : sI ν 1 3 = nI e.1) (g1 : sI ν 1 4 = nI e.2) (k6 : sR ν 1 6 = a) (k7 : sR ν 1 7 = b) (hu : ∀ j, sI ν u j = sI σ u j) : IXc ν a b u w ((s.wP (0, s.P.2)).wF (nI e.1) (nI e.2)) := by
  have hab := I.ab
  have huw := I.uw
  have k8 : sR ν 1 8 = u := (r _ (by decide) (by decide)).trans I.r8
  have k9 : sR ν 1 9 = w := (r _ (by decide) (by decide)).trans I.r9
  have x : RXk ν a := I.x.keep (f.K 1) (fun j => by
    by_cases j6 : j = 6
    · rw [j6, k6, I.x.r6]
    · by_cases j7 : j = 7
      · rw [j7, k7, I.r7]
      · exact r j j6 j7)
  have ee : RDo ν u s.E := I.e.kp (fun c j h1 h2 => by
    by_cases cu : c = u
    · rw [cu]; exact hu j
    · exact f.I (by omega) j)
  exact IXc.mk I.ab I.uw x k7 k8 k9 (I.o.ag f (fun c _ _ => by omega)) (I.ob.ag' f (by unfold rX; omega)) (I.du.ag' f (by unfold rX; omega)) (I.dw.ag' f (by unfold rX; omega)) ee (I.t.ag f (fun c _ _ => by omega)) (RTp.emp (I.p.x.ag f) z1) (fun k hk => (f.L (by omega) k).trans (I.wd k hk)) (I.q.ag f (by omega)) ((f.K _).trans I.k102) (I.bk.ag2 f (fun j _ => f.R (by omega) j)) (I.bc.ag f (fun c _ _ => by omega)) (I.pk.ag f (fun j => f.R (by omega) j)) (I.wk.ag f) ⟨(f.K _).trans I.k45.1, (f.K _).trans I.k45.2⟩ (fun k hk => ⟨(f.Rx (by unfold rX; omega) _).trans (I.r45 k hk).1, (f.Rx (by unfold rX; omega) _).trans (I.r45 k hk).2⟩) (fun k hk => ⟨(I.mq k hk).1.ag' f (by unfold rX; omega), (I.mq k hk).2.ag' f (by unfold rX; omega)⟩) ((h _ (by decide) (by decide)).trans I.m5) (fun i (hi : i < s.m) => ⟨(I.mo i hi).1.ag f (fun c _ _ => by omega), (I.mo i hi).2.ag f (fun c _ _ => by omega)⟩) ((h _ (by decide) (by decide)).trans I.st) g0 g1 ((hl _).trans I.tp) ((hl _).trans I.bt)
theorem IXc.rgA (I : IXc σ a b u w s) (hm : s.m ≤ 3) (f : Ag (fun c => c = 1 ∨ c = 98 ∨ (b ≤ c ∧ c ≤ b + 11) ∨ c = u) σ ν) (z1 : sI ν 98 1 = nI 0) (hl : ∀ j, sL ν 1 j = sL σ 1 j) (h : ∀ j, j ≠ 3 → j ≠ 4 → sI ν 1 j = sI σ 1 j) (r : ∀ j, j ≠ 6 → j ≠ 7 → sR ν 1 j = sR σ 1 j) (g0 : sI ν 1 3 = nI 0) (g1 : sI ν 1 4 = -nI 1) (k6 : sR ν 1 6 = b) (k7 : sR ν 1 7 = a) (o : ROff ν b A) (hu : sI ν u 0 = nI 0) : IXc ν b a u w ((((s.wA A).wE none).wP (0, s.P.2)).wF (nI 0) (-nI 1)) := by
  have hab := I.ab
  have huw := I.uw
  have k8 : sR ν 1 8 = u := (r _ (by decide) (by decide)).trans I.r8
  have k9 : sR ν 1 9 = w := (r _ (by decide) (by decide)).trans I.r9
  have X := I.x
  have x : RXk ν b := RXk.mk ((f.K 1).trans X.k) k6 ((r _ (by decide) (by decide)).trans X.r10) ((r _ (by decide) (by decide)).trans X.r11) ((r _ (by decide) (by decide)).trans X.r12) ((r _ (by decide) (by decide)).trans X.r13) ((r _ (by decide) (by decide)).trans X.r14) ((r _ (by decide) (by decide)).trans X.r15) ((r _ (by decide) (by decide)).trans X.r16) ((r _ (by decide) (by decide)).trans X.r17) ((r _ (by decide) (by decide)).trans X.r18)
  exact IXc.mk (by omega) I.uw x k7 k8 k9 o (I.o.kk.ag' f (by unfold rX; omega)) (I.du.ag' f (by unfold rX; omega)) (I.dw.ag' f (by unfold rX; omega)) hu (I.t.ag f (fun c _ _ => by omega)) (RTp.emp (I.p.x.ag f) z1) (fun k hk => (f.L (by omega) k).trans (I.wd k hk)) (I.q.ag f (by omega)) ((f.K _).trans I.k102) (I.bk.ag2 f (fun j _ => f.R (by omega) j)) (I.bc.ag f (fun c _ _ => by omega)) (I.pk.ag f (fun j => f.R (by omega) j)) (I.wk.ag f) ⟨(f.K _).trans I.k45.1, (f.K _).trans I.k45.2⟩ (fun k hk => ⟨(f.Rx (by unfold rX; omega) _).trans (I.r45 k hk).1, (f.Rx (by unfold rX; omega) _).trans (I.r45 k hk).2⟩) (fun k hk => ⟨(I.mq k hk).1.ag' f (by unfold rX; omega), (I.mq k hk).2.ag' f (by unfold rX; omega)⟩) ((h _ (by decide) (by decide)).trans I.m5) (fun i (hi : i < s.m) => ⟨(I.mo i hi).1.ag f (fun c _ _ => by omega), (I.mo i hi).2.ag f (fun c _ _ => by omega)⟩) ((h _ (by decide) (by decide)).trans I.st) g0 g1 ((hl _).trans I.tp) ((hl _).trans I.bt)
theorem XC.far {y : Nat} {as : List Value} {r : Value} {a' b' u' w' : Nat} (I : IXc ν a' b' u' w' s) (hm : s.m ≤ 3) (f : AgN p σ τ) (h : ∀ c, p c → 1 ≤ c ∧ c < 120) (n1 : Ag3 ν τ) (g : Grw σ τ) (c : ∀ K, zC 30 y as σ K = K (some r) (setI τ 1 0 v)) : XC σ y as r (s.wS v) :=
  ⟨_, ⟨a', b', u', w', (I.far hm n1).st1 hm v⟩, (f.mono (fun c _ hc => h c hc)).tr ((Ag.rf.setI (p := fun c => 1 ≤ c ∧ c < 120) (by omega)).toN), g, c⟩
theorem X_registry (I : IXc σ a b u w s) (S : SOk s) (hl : 143 ≤ σ.1.length) (hl2 : σ.1.length < 10000) (v : Int32) : XC σ 150 [.ref 1, .int v] (.int (s.ansR v).1) ((s.uRg v).wS (s.ansR v).2) := by
  have hab := I.ab
  have huw := I.uw
  have h9 := S.p.1
  unfold Sx.ansR Sx.uRg
  rcases ix_cases v (n := s.P.1) (by omega) with ⟨_, hv⟩ | ⟨_, _, hv⟩ | ⟨k, hk, rfl⟩
  · rw [hv]; exact XC.ask I S (fun K => x_registryNo (d := 28) I.x I.p h9 hv)
  · rw [hv]; exact XC.ask I S (fun K => x_registryNo (d := 28) I.x I.p h9 hv)
  · rw [ix_t hk (by omega)]
    dsimp only
    obtain ⟨τ, ⟨f, t1, z1, hl, h, r, m⟩, e⟩ := x_registry (d := 22) (n := k) I.x I.r7 I.ob I.p S.p I.wd I.r8 I.du (by omega) hl hl2 (by omega) (by omega) (by omega)
    obtain ⟨ν, f', n1, n2⟩ := f.vir
    cases hq : qText (tB s.P) k with
    | inl er =>
      rw [hq] at m e
      obtain ⟨g0, g1, k6, k7, hu⟩ := m
      exact XC.far (s := (s.wP (0, s.P.2)).wF (nI er.1) (nI er.2)) (I.rgE S.m3 f' ((n2.I (by omega) _).trans z1) (fun j => (n2.L (by omega) _).trans (hl j)) (fun j j3 j4 => (n2.I (by omega) _).trans (h j j3 j4)) (fun j j3 j4 => (n2.R (by omega) _).trans (r j j3 j4)) ((n2.I (by omega) _).trans g0) ((n2.I (by omega) _).trans g1) ((n2.R (by omega) _).trans k6) ((n2.R (by omega) _).trans k7) (fun j => (n2.I (by omega) _).trans (hu j))) S.m3 f (fun c hc => by omega) n1 (.inr (.inl t1)) e
    | inr A =>
      rw [hq] at m e
      obtain ⟨g0, g1, k6, k7, o, hu, _⟩ := m
      exact XC.far (s := (((s.wA A).wE none).wP (0, s.P.2)).wF (nI 0) (-nI 1)) (I.rgA S.m3 f' ((n2.I (by omega) _).trans z1) (fun j => (n2.L (by omega) _).trans (hl j)) (fun j j3 j4 => (n2.I (by omega) _).trans (h j j3 j4)) (fun j j3 j4 => (n2.R (by omega) _).trans (r j j3 j4)) ((n2.I (by omega) _).trans g0) ((n2.I (by omega) _).trans g1) ((n2.R (by omega) _).trans k6) ((n2.R (by omega) _).trans k7) (o.far n2 (by omega)) ((n2.I (by omega) _).trans hu)) S.m3 f (fun c hc => by omega) n1 (.inr (.inl t1)) e
theorem M_registry (J : IMc σ s) (S : SOk s) (v : Int32) : MC σ 264 [.ref 120, .int v] (.int (s.ansR v).1) ((s.uRg v).wS (s.ansR v).2) := by
  have h9 := S.p.1
  have hm3 := S.m3
  unfold Sx.ansR Sx.uRg
  rcases ix_cases v (n := s.P.1) (by omega) with ⟨_, hv⟩ | ⟨_, _, hv⟩ | ⟨k, hk, rfl⟩
  · rw [hv]; exact MC.ask J (fun K => m_registryNo (d := 26) J.m.m J.p h9 hv)
  · rw [hv]; exact MC.ask J (fun K => m_registryNo (d := 26) J.m.m J.p h9 hv)
  · rw [ix_t hk (by omega)]
    dsimp only
    obtain ⟨τ, ⟨f, i, l, h, hl, z, m⟩, e⟩ := m_registry (d := 23) (n := k) J.m.m J.p S.p (by omega)
    have mo : ∀ i, i < s.m → RSl τ (i + 1) (s.MA i) ∧ RDq τ (i + 1) (s.ME i) := fun t ht => by
      obtain ⟨q1, q2, q3⟩ := S.mq t ht
      exact ⟨(J.mo t ht).1.to q1 (fun j hj => i _ (by omega) (by omega)) (fun j hj => l _ (by omega) (by omega)), RDq.cp (J.mo t ht).2 q3 (fun j hj => i _ (by omega) (by omega))⟩
    have t := J.t.ag f (by omega) (by omega) (by omega)
    have q : RTi τ s.Q := RTi.mk ((h _ (by omega)).trans J.q.t0) (fun x hx => ⟨fun q hq => (f.I (by omega) q).trans ((J.q.c x hx).1 q hq), (f.I (by omega) 4).trans (J.q.c x hx).2⟩)
    cases hq : qText (tB s.P) k with
    | inl er =>
      rw [hq] at m e
      obtain ⟨g0, g1, y1, y2⟩ := m
      have J' : IMc τ ((s.wP (0, s.P.2)).wF (nI er.1) (nI er.2)) := IMc.mk ((J.m.sl.to S.o (fun j hj => y1 _ (by omega)) (fun j hj => y2 _ (by omega))).mod (J.m.m.ag f)) (RDq.dp (RDq.cp J.d.q S.e (fun j hj => y1 _ (by omega)))) t (RTq.emp z) q ((h _ (by omega)).trans J.m47) mo ((h _ (by omega)).trans J.st) g0 g1 ((hl _).trans J.tp) ((hl _).trans J.bt)
      exact ⟨_, J'.sta _, (f.mono (fun c hc => by omega)).setI (by omega), e⟩
    | inr A =>
      rw [hq] at m e
      obtain ⟨g0, g1, y1, y2⟩ := m
      have J' : IMc τ ((((s.wA A).wE none).wP (0, s.P.2)).wF (nI 0) (-nI 1)) := IMc.mk (y1.mod (J.m.m.ag f)) y2 t (RTq.emp z) q ((h _ (by omega)).trans J.m47) mo ((h _ (by omega)).trans J.st) g0 g1 ((hl _).trans J.tp) ((hl _).trans J.bt)
      exact ⟨_, J'.sta _, (f.mono (fun c hc => by omega)).setI (by omega), e⟩
theorem IXc.dyE (I : IXc σ a b u w s) (hm : s.m ≤ 3) {e : Er} (f : Ag (fun c => c = 1 ∨ c = 98 ∨ (w ≤ c ∧ c ≤ w + 4)) σ ν) (z1 : sI ν 98 1 = nI 0) (hl : ∀ j, sL ν 1 j = sL σ 1 j) (h : ∀ j, j ≠ 3 → j ≠ 4 → sI ν 1 j = sI σ 1 j) (r : ∀ j, j ≠ 8 → j ≠ 9 → sR ν 1 j = sR σ 1 j) (g0 : sI ν 1 3 = nI e.1) (g1 : sI ν 1 4 = nI e.2) (k8 : sR ν 1 8 = u) (k9 : sR ν 1 9 = w) : IXc ν a b u w ((s.wP (0, s.P.2)).wF (nI e.1) (nI e.2)) := by
  have hab := I.ab
  have huw := I.uw
  have k7 : sR ν 1 7 = b := (r _ (by decide) (by decide)).trans I.r7
  have X := I.x
  have x : RXk ν a := RXk.mk ((f.K 1).trans X.k) ((r _ (by decide) (by decide)).trans X.r6) ((r _ (by decide) (by decide)).trans X.r10) ((r _ (by decide) (by decide)).trans X.r11) ((r _ (by decide) (by decide)).trans X.r12) ((r _ (by decide) (by decide)).trans X.r13) ((r _ (by decide) (by decide)).trans X.r14) ((r _ (by decide) (by decide)).trans X.r15) ((r _ (by decide) (by decide)).trans X.r16) ((r _ (by decide) (by decide)).trans X.r17) ((r _ (by decide) (by decide)).trans X.r18)
  exact IXc.mk I.ab I.uw x k7 k8 k9 (I.o.ag f (fun c _ _ => by omega)) (I.ob.ag' f (by unfold rX; omega)) (I.du.ag' f (by unfold rX; omega)) (I.dw.ag' f (by unfold rX; omega)) (I.e.ag f (fun c _ _ => by omega)) (I.t.ag f (fun c _ _ => by omega)) (RTp.emp (I.p.x.ag f) z1) (fun k hk => (f.L (by omega) k).trans (I.wd k hk)) (I.q.ag f (by omega)) ((f.K _).trans I.k102) (I.bk.ag2 f (fun j _ => f.R (by omega) j)) (I.bc.ag f (fun c _ _ => by omega)) (I.pk.ag f (fun j => f.R (by omega) j)) (I.wk.ag f) ⟨(f.K _).trans I.k45.1, (f.K _).trans I.k45.2⟩ (fun k hk => ⟨(f.Rx (by unfold rX; omega) _).trans (I.r45 k hk).1, (f.Rx (by unfold rX; omega) _).trans (I.r45 k hk).2⟩) (fun k hk => ⟨(I.mq k hk).1.ag' f (by unfold rX; omega), (I.mq k hk).2.ag' f (by unfold rX; omega)⟩) ((h _ (by decide) (by decide)).trans I.m5) (fun i (hi : i < s.m) => ⟨(I.mo i hi).1.ag f (fun c _ _ => by omega), (I.mo i hi).2.ag f (fun c _ _ => by omega)⟩) ((h _ (by decide) (by decide)).trans I.st) g0 g1 ((hl _).trans I.tp) ((hl _).trans I.bt)
theorem IXc.dyA (I : IXc σ a b u w s) (hm : s.m ≤ 3) {D : Dy} (l : Pg 4) (f : Ag (fun c => c = 1 ∨ c = 98 ∨ (w ≤ c ∧ c ≤ w + 4)) σ ν) (z1 : sI ν 98 1 = nI 0) (hl : ∀ j, sL ν 1 j = sL σ 1 j) (h : ∀ j, j ≠ 3 → j ≠ 4 → sI ν 1 j = sI σ 1 j) (r : ∀ j, j ≠ 8 → j ≠ 9 → sR ν 1 j = sR σ 1 j) (g0 : sI ν 1 3 = nI 0) (g1 : sI ν 1 4 = -nI 1) (k8 : sR ν 1 8 = w) (k9 : sR ν 1 9 = u) (c : RDc ν w D) : IXc ν a b w u (((s.wE (some (D, l))).wP (0, s.P.2)).wF (nI 0) (-nI 1)) := by
  have hab := I.ab
  have huw := I.uw
  have k7 : sR ν 1 7 = b := (r _ (by decide) (by decide)).trans I.r7
  have X := I.x
  have x : RXk ν a := RXk.mk ((f.K 1).trans X.k) ((r _ (by decide) (by decide)).trans X.r6) ((r _ (by decide) (by decide)).trans X.r10) ((r _ (by decide) (by decide)).trans X.r11) ((r _ (by decide) (by decide)).trans X.r12) ((r _ (by decide) (by decide)).trans X.r13) ((r _ (by decide) (by decide)).trans X.r14) ((r _ (by decide) (by decide)).trans X.r15) ((r _ (by decide) (by decide)).trans X.r16) ((r _ (by decide) (by decide)).trans X.r17) ((r _ (by decide) (by decide)).trans X.r18)
  exact IXc.mk I.ab (by omega) x k7 k8 k9 (I.o.ag f (fun c _ _ => by omega)) (I.ob.ag' f (by unfold rX; omega)) (I.dw.ag' f (by unfold rX; omega)) (I.du.ag' f (by unfold rX; omega)) c (I.t.ag f (fun c _ _ => by omega)) (RTp.emp (I.p.x.ag f) z1) (fun k hk => (f.L (by omega) k).trans (I.wd k hk)) (I.q.ag f (by omega)) ((f.K _).trans I.k102) (I.bk.ag2 f (fun j _ => f.R (by omega) j)) (I.bc.ag f (fun c _ _ => by omega)) (I.pk.ag f (fun j => f.R (by omega) j)) (I.wk.ag f) ⟨(f.K _).trans I.k45.1, (f.K _).trans I.k45.2⟩ (fun k hk => ⟨(f.Rx (by unfold rX; omega) _).trans (I.r45 k hk).1, (f.Rx (by unfold rX; omega) _).trans (I.r45 k hk).2⟩) (fun k hk => ⟨(I.mq k hk).1.ag' f (by unfold rX; omega), (I.mq k hk).2.ag' f (by unfold rX; omega)⟩) ((h _ (by decide) (by decide)).trans I.m5) (fun i (hi : i < s.m) => ⟨(I.mo i hi).1.ag f (fun c _ _ => by omega), (I.mo i hi).2.ag f (fun c _ _ => by omega)⟩) ((h _ (by decide) (by decide)).trans I.st) g0 g1 ((hl _).trans I.tp) ((hl _).trans I.bt)
theorem no300 {v : Int32} {n k : Nat} (hk : k < n + 1) (hn : n ≤ 900) (e : v = nI k) (h : ¬ k ≤ 300) : v < nI 0 ∨ (¬ v < nI 0 ∧ nI n < v) ∨ (¬ v < nI 0 ∧ ¬ nI n < v ∧ nI 300 < v) := by
  subst e
  refine .inr (.inr ⟨?_, ?_, ?_⟩)
  · rw [nI_ltI (by omega) (by omega)]; omega
  · rw [nI_ltI (by omega) (by omega)]; omega
  · rw [nI_ltI (by omega) (by omega)]; omega
theorem X_days (I : IXc σ a b u w s) (S : SOk s) (hl : 143 ≤ σ.1.length) (hl2 : σ.1.length < 10000) (l : Pg 4) (v : Int32) : XC σ 151 [.ref 1, .int v] (.int (s.ansD v).1) ((s.uDa l v).wS (s.ansD v).2) := by
  have hab := I.ab
  have huw := I.uw
  have h9 := S.p.1
  unfold Sx.ansD Sx.uDa
  rcases ix_cases v (n := s.P.1) (by omega) with ⟨g, hv⟩ | ⟨g, g2, hv⟩ | ⟨k, hk, hv⟩
  · rw [hv]; exact XC.ask I S (fun K => x_daysNo (d := 28) I.x I.p h9 (.inl g))
  · rw [hv]; exact XC.ask I S (fun K => x_daysNo (d := 28) I.x I.p h9 (.inr (.inl ⟨g, g2⟩)))
  · rw [hv, ix_t hk (by omega)]
    dsimp only
    by_cases h3 : k ≤ 300
    · rw [if_pos h3, if_pos h3]
      obtain ⟨τ, ⟨f, t1, z1, hl, h, r, m⟩, e⟩ := x_days (d := 22) (n := k) I.x I.r8 I.r9 I.dw I.o S.o S.n I.p S.p I.wd (by omega) h3 hl hl2 (by omega) (by omega) (by omega)
      obtain ⟨ν, f', n1, n2⟩ := f.vir
      cases hq : qDays (tB s.P) k s.A with
      | inl er =>
        rw [hq] at m e
        obtain ⟨g0, g1, k8, k9⟩ := m
        exact XC.far (s := (s.wP (0, s.P.2)).wF (nI er.1) (nI er.2)) (I.dyE S.m3 f' ((n2.I (by omega) _).trans z1) (fun j => (n2.L (by omega) _).trans (hl j)) (fun j j3 j4 => (n2.I (by omega) _).trans (h j j3 j4)) (fun j j3 j4 => (n2.R (by omega) _).trans (r j j3 j4)) ((n2.I (by omega) _).trans g0) ((n2.I (by omega) _).trans g1) ((n2.R (by omega) _).trans k8) ((n2.R (by omega) _).trans k9)) S.m3 f (fun c hc => by omega) n1 (.inr (.inr t1)) e
      | inr D =>
        rw [hq] at m e
        obtain ⟨g0, g1, k8, k9, o⟩ := m
        exact XC.far (s := ((s.wE (some (D, l))).wP (0, s.P.2)).wF (nI 0) (-nI 1)) (I.dyA S.m3 l f' ((n2.I (by omega) _).trans z1) (fun j => (n2.L (by omega) _).trans (hl j)) (fun j j3 j4 => (n2.I (by omega) _).trans (h j j3 j4)) (fun j j3 j4 => (n2.R (by omega) _).trans (r j j3 j4)) ((n2.I (by omega) _).trans g0) ((n2.I (by omega) _).trans g1) ((n2.R (by omega) _).trans k8) ((n2.R (by omega) _).trans k9) (o.far n2 (by omega))) S.m3 f (fun c hc => by omega) n1 (.inr (.inr t1)) e
    · rw [if_neg h3, if_neg h3]
      exact XC.ask I S (fun K => x_daysNo (d := 28) I.x I.p h9 (no300 hk h9 rfl h3))
theorem M_days (J : IMc σ s) (S : SOk s) (l : Pg 4) (v : Int32) : MC σ 270 [.ref 120, .int v] (.int (s.ansD v).1) ((s.uDa l v).wS (s.ansD v).2) := by
  have h9 := S.p.1
  have hm3 := S.m3
  unfold Sx.ansD Sx.uDa
  rcases ix_cases v (n := s.P.1) (by omega) with ⟨g, hv⟩ | ⟨g, g2, hv⟩ | ⟨k, hk, hv⟩
  · rw [hv]; exact MC.ask J (fun K => m_daysNo (d := 26) J.m.m J.p h9 (.inl g))
  · rw [hv]; exact MC.ask J (fun K => m_daysNo (d := 26) J.m.m J.p h9 (.inr (.inl ⟨g, g2⟩)))
  · rw [hv, ix_t hk (by omega)]
    dsimp only
    by_cases h3 : k ≤ 300
    · rw [if_pos h3, if_pos h3]
      obtain ⟨τ, ⟨f, i, h, hl, z, m⟩, e⟩ := m_days (d := 21) (n := k) J.m S.o S.n J.p S.p (by omega) h3
      have l2 := fun j => f.L (b := 122) (by omega) j
      have mo : ∀ i, i < s.m → RSl τ (i + 1) (s.MA i) ∧ RDq τ (i + 1) (s.ME i) := fun t ht => by
        obtain ⟨q1, q2, q3⟩ := S.mq t ht
        exact ⟨(J.mo t ht).1.to q1 (fun j hj => i _ (by omega)) (fun j hj => l2 _), RDq.cp (J.mo t ht).2 q3 (fun j hj => i _ (by omega))⟩
      have t := J.t.ag f (by omega) (by omega) (by omega)
      have q : RTi τ s.Q := RTi.mk ((h _ (by omega)).trans J.q.t0) (fun x hx => ⟨fun q hq => (f.I (by omega) q).trans ((J.q.c x hx).1 q hq), (f.I (by omega) 4).trans (J.q.c x hx).2⟩)
      have M := J.m
      have t8 := S.o.t8
      have p8 := S.o.p8
      have c4 := S.o.c4
      have M' : RMod τ s.A := RMod.mk (M.m.ag f) ((i _ (by omega)).trans M.a0) ((i _ (by omega)).trans M.a1) ((i _ (by omega)).trans M.a2) ((i _ (by omega)).trans M.a3) ((i _ (by omega)).trans M.a4) ((i _ (by omega)).trans M.a5) ((i _ (by omega)).trans M.a6) (fun q hq => (i _ (by omega)).trans (M.a8 q hq)) (fun q hq => (i _ (by omega)).trans (M.a16 q hq)) (fun q hq => (i _ (by omega)).trans (M.a17 q hq)) (fun q hq => (i _ (by omega)).trans (M.a32 q hq)) (fun q hq => (l2 _).trans (M.n0 q hq)) (fun q hq => (l2 _).trans (M.n8 q hq)) (fun q hq => (l2 _).trans (M.n16 q hq))
      cases hq : qDays (tB s.P) k s.A with
      | inl er =>
        rw [hq] at m e
        obtain ⟨g0, g1, y1⟩ := m
        have J' : IMc τ ((s.wP (0, s.P.2)).wF (nI er.1) (nI er.2)) := IMc.mk M' (RDq.dp (RDq.cp J.d.q S.e (fun j hj => y1 _ (by omega)))) t (RTq.emp z) q ((h _ (by omega)).trans J.m47) mo ((h _ (by omega)).trans J.st) g0 g1 ((hl _).trans J.tp) ((hl _).trans J.bt)
        exact ⟨_, J'.sta _, (f.mono (fun c hc => by omega)).setI (by omega), e⟩
      | inr D =>
        rw [hq] at m e
        obtain ⟨g0, g1, y1⟩ := m
        have J' : IMc τ (((s.wE (some (D, l))).wP (0, s.P.2)).wF (nI 0) (-nI 1)) := IMc.mk M' y1 t (RTq.emp z) q ((h _ (by omega)).trans J.m47) mo ((h _ (by omega)).trans J.st) g0 g1 ((hl _).trans J.tp) ((hl _).trans J.bt)
        exact ⟨_, J'.sta _, (f.mono (fun c hc => by omega)).setI (by omega), e⟩
    · rw [if_neg h3, if_neg h3]
      exact MC.ask J (fun K => m_daysNo (d := 26) J.m.m J.p h9 (no300 hk h9 rfl h3))
theorem X_status (I : IXc σ a b u w s) : XC σ 142 [.ref 1] (.int s.st) s := XC.id I (fun K => (x_status (d := 29) I.x).trans (by rw [I.st]))
theorem M_status (J : IMc σ s) : MC σ 220 [.ref 120] (.int s.st) s := MC.id J (fun K => (m_status (d := 29) J.m.m).trans (by rw [J.st]))
theorem X_top (I : IXc σ a b u w s) : XC σ 143 [.ref 1] (.long s.tp) s := XC.id I (fun K => (x_top (d := 29) I.x).trans (by rw [I.tp]))
theorem M_top (J : IMc σ s) : MC σ 221 [.ref 120] (.long s.tp) s := MC.id J (fun K => (m_top (d := 29) J.m.m).trans (by rw [J.tp]))
theorem X_bottom (I : IXc σ a b u w s) : XC σ 144 [.ref 1] (.long s.bt) s := XC.id I (fun K => (x_bottom (d := 29) I.x).trans (by rw [I.bt]))
theorem M_bottom (J : IMc σ s) : MC σ 222 [.ref 120] (.long s.bt) s := MC.id J (fun K => (m_bottom (d := 29) J.m.m).trans (by rw [J.bt]))
theorem X_fault (I : IXc σ a b u w s) (v : Int32) : XC σ 152 [.ref 1, .int v] (.int (if v = nI 0 then s.f0 else if v = nI 1 then s.f1 else -nI 1)) s := XC.id I (fun K => (x_fault (d := 29) I.x v).trans (by rw [I.f0, I.f1]))
theorem M_fault (J : IMc σ s) (v : Int32) : MC σ 252 [.ref 120, .int v] (.int (if v = nI 0 then s.f0 else if v = nI 1 then s.f1 else -nI 1)) s := MC.id J (fun K => (m_fault (d := 29) J.m.m v).trans (by rw [J.f0, J.f1]))
end STX
