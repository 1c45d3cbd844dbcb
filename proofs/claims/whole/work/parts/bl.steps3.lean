/-! FAR STATES; MARKS; TEXTS, AS STEPS -/
section STR
variable {p : Nat → Prop} {σ τ : MS} {a b u w n k : Nat} {s : Sx} {A : Ofc} {y : Nat} {as : List Value} {r : Value} {v : Int32}
theorem RBk.far (X : RBk σ) (h : Ag3 σ τ) : RBk τ := RBk.mk ((h.K (by omega)).trans X.k) ((h.R (by omega) _).trans X.r4) ((h.R (by omega) _).trans X.r5) ((h.R (by omega) _).trans X.r6) ((h.R (by omega) _).trans X.r7) ((h.R (by omega) _).trans X.r8) ((h.R (by omega) _).trans X.r9) ((h.R (by omega) _).trans X.r10) ((h.R (by omega) _).trans X.r12) ((h.R (by omega) _).trans X.r13) ((h.K (by omega)).trans X.k104) ((h.K (by omega)).trans X.k105) ((h.K (by omega)).trans X.k106) ((h.K (by omega)).trans X.k107) ((h.K (by omega)).trans X.k108) ((h.K (by omega)).trans X.k109) ((h.K (by omega)).trans X.k110) ((h.K (by omega)).trans X.k111) ((h.K (by omega)).trans X.k112)
theorem RPk.far (X : RPk σ) (h : Ag3 σ τ) : RPk τ := RPk.mk ((h.K (by omega)).trans X.k) ((h.R (by omega) _).trans X.r4) ((h.K (by omega)).trans X.k1)
theorem RWk.far (X : RWk σ) (h : Ag3 σ τ) : RWk τ := RWk.mk ((h.K (by omega)).trans X.k) ((h.R (by omega) _).trans X.r3) ((h.R (by omega) _).trans X.r4) ((h.R (by omega) _).trans X.r5) ((h.R (by omega) _).trans X.r6) ((h.K (by omega)).trans X.k1) ((h.K (by omega)).trans X.k2) ((h.K (by omega)).trans X.k3) ((h.K (by omega)).trans X.k4)
theorem RTr.far {T : Trs} (X : RTr σ T) (h : Ag3 σ τ) : RTr τ T := RTr.mk ((h.K (by omega)).trans X.k36) (fun k hk => (h.R (by omega) _).trans (X.r36 k hk)) (fun k hk => (h.K (by omega)).trans (X.ob k hk)) (fun k hk => (h.R (by omega) _).trans (X.nr k hk)) (fun k hk => (h.K (by omega)).trans (X.nk k hk)) (fun k hk e => (h.I (by omega) _).trans (X.no k hk e)) (fun k x hk e => (h.I (by omega) _).trans (X.i0 k x hk e)) (fun k x hk e => (h.I (by omega) _).trans (X.i1 k x hk e)) (fun k x hk e => (h.I (by omega) _).trans (X.i2 k x hk e)) (fun k x j hk e hj => (h.L (by omega) _).trans (X.l3 k x j hk e hj))
theorem RTp.far {P : Tp} (X : RTp σ P) (h : Ag3 σ τ) : RTp τ P := RTp.mk (X.x.far h) ((h.I (by omega) _).trans X.n) (fun j hj => (h.I (by omega) _).trans (X.b j hj))
theorem RLi.far {T : Tl} (X : RLi σ T) (h : Ag3 σ τ) : RLi τ T := RLi.mk ((h.K (by omega)).trans X.k) ((h.I (by omega) _).trans X.t0) (fun l hl => ⟨fun i hi => (h.I (by omega) _).trans ((X.c l hl).1 i hi), (h.I (by omega) _).trans (X.c l hl).2⟩)
theorem RDc.far {D : Dy} (X : RDc σ u D) (h : Ag3 σ τ) (hu : u + 4 < 143) : RDc τ u D := RDc.mk ((h.I (by omega) _).trans X.u0) ((h.I (by omega) _).trans X.u1) (fun i hi => (h.I (by omega) _).trans (X.c1 i hi)) (fun i hi => (h.I (by omega) _).trans (X.c2 i hi)) (fun i hi => (h.I (by omega) _).trans (X.c3 i hi)) (fun i hi => (h.I (by omega) _).trans (X.c4 i hi))
theorem RDo.far {E : Option (Dy × Pg 4)} (X : RDo σ u E) (h : Ag3 σ τ) (hu : u + 4 < 143) : RDo τ u E := by
  cases E with
  | none => exact (h.I (by omega) 0).trans X
  | some z => exact RDc.far X h hu
theorem BCa.far (C : BCa σ) (h : Ag3 σ τ) : BCa τ := by
  have y : ∀ c j, 103 ≤ c → c ≤ 112 → sI τ c j = sI σ c j := fun c j h1 h2 => h.I (by omega) j
  obtain ⟨⟨g, g1, g2⟩, C2⟩ := C
  refine ⟨⟨g, g1, fun j hj => (y 108 j (by omega) (by omega)).trans (g2 j hj)⟩, ?_⟩
  rcases C2 with C2 | ⟨A, O, S⟩
  · exact .inl ((y 103 11 (by omega) (by omega)).trans C2)
  · exact .inr ⟨A, O, BSo.mk ((y _ _ (by omega) (by omega)).trans S.wi) (fun c hc => (y _ _ (by omega) (by omega)).trans (S.la c hc)) (fun p q hp hq => (y _ _ (by omega) (by omega)).trans (S.al p q hp hq)) ((y _ _ (by omega) (by omega)).trans S.to) ((y _ _ (by omega) (by omega)).trans S.n) (fun k hk => (y _ _ (by omega) (by omega)).trans (S.c k hk)) (fun k hk => (y _ _ (by omega) (by omega)).trans (S.w k hk))⟩
theorem IXc.far (I : IXc σ a b u w s) (hm : s.m ≤ 3) (h : Ag3 σ τ) : IXc τ a b u w s := by
  have hab := I.ab
  have huw := I.uw
  exact IXc.mk I.ab I.uw (I.x.far h) ((h.R (by omega) _).trans I.r7) ((h.R (by omega) _).trans I.r8) ((h.R (by omega) _).trans I.r9) (I.o.far h (by omega)) (I.ob.far h (by omega)) (I.du.far h (by omega)) (I.dw.far h (by omega)) (I.e.far h (by omega)) (I.t.far h) (I.p.far h) (fun k hk => (h.L (by omega) k).trans (I.wd k hk)) (I.q.far h) ((h.K (by omega)).trans I.k102) (I.bk.far h) (I.bc.far h) (I.pk.far h) (I.wk.far h) ⟨(h.K (by omega)).trans I.k45.1, (h.K (by omega)).trans I.k45.2⟩ (fun k hk => ⟨(h.R (by omega) _).trans (I.r45 k hk).1, (h.R (by omega) _).trans (I.r45 k hk).2⟩) (fun k hk => ⟨(I.mq k hk).1.far h (by omega), (I.mq k hk).2.far h (by omega)⟩) ((h.I (by omega) _).trans I.m5) (fun i (hi : i < s.m) => ⟨(I.mo i hi).1.far h (by omega), (I.mo i hi).2.far h (by omega)⟩) ((h.I (by omega) _).trans I.st) ((h.I (by omega) _).trans I.f0) ((h.I (by omega) _).trans I.f1) ((h.L (by omega) _).trans I.tp) ((h.L (by omega) _).trans I.bt)
theorem RDo.cp {E : Option (Dy × Pg 4)} {o : Nat} (X : RDo σ o E) (W : DOo A E) (c : DCp σ o τ u) : RDo τ u E := by
  cases E with
  | none => exact (c.1 0 (by omega)).trans X
  | some z =>
    have W1 := (W z rfl).1
    have X : RDc σ o z.1 := X
    exact RDc.mk ((c.1 0 (by omega)).trans X.u0) ((c.1 1 (by omega)).trans X.u1) (fun i hi => (c.2 1 i (by omega) (by omega) (by omega)).trans (X.c1 i hi)) (fun i hi => (c.2 2 i (by omega) (by omega) (by omega)).trans (X.c2 i hi)) (fun i hi => (c.2 3 i (by omega) (by omega) (by omega)).trans (X.c3 i hi)) (fun i hi => (c.2 4 i (by omega) (by omega) (by omega)).trans (X.c4 i hi))
theorem RDo.b01 {E : Option (Dy × Pg 4)} (X : RDo σ u E) : sI σ u 0 = nI 0 ∨ sI σ u 0 = nI 1 := by
  cases E with
  | none => exact .inl X
  | some z => exact .inr (RDc.u0 X)
def Sx.mk1 (s : Sx) : Sx := s.wM (s.m + 1) (fun i => if i = s.m then s.A else s.MA i) (fun i => if i = s.m then s.E else s.ME i)
def Sx.un1 (s : Sx) : Sx := ((s.wA (s.MA (s.m - 1))).wE (s.ME (s.m - 1))).wM (s.m - 1) s.MA s.ME
theorem IXc.mrk (I : IXc σ a b u w s) (S : SOk s) (hm : s.m < 3) (f : Ag (fun c => c = 1 ∨ (47 + 17 * s.m ≤ c ∧ c ≤ 63 + 17 * s.m)) σ τ) (H : ROff τ (47 + 17 * s.m) s.A) (c : DCp σ u τ (59 + 17 * s.m)) (h5 : sI τ 1 5 = nI (s.m + 1)) (h : ∀ j, j ≠ 5 → sI τ 1 j = sI σ 1 j) (hl : ∀ j, sL τ 1 j = sL σ 1 j) (r : ∀ j, sR τ 1 j = sR σ 1 j) : IXc τ a b u w s.mk1 := by
  have hab := I.ab
  have huw := I.uw
  have mo : ∀ i, i < s.m + 1 → ROff τ (47 + 17 * i) (if i = s.m then s.A else s.MA i) ∧ RDo τ (59 + 17 * i) (if i = s.m then s.E else s.ME i) := fun i hi => by
    by_cases e : i = s.m
    · rw [if_pos e, if_pos e, e]; exact ⟨H, I.e.cp S.e c⟩
    · rw [if_neg e, if_neg e]; exact ⟨(I.mo i (by omega)).1.ag f (fun c _ _ => by omega), (I.mo i (by omega)).2.ag f (fun c _ _ => by omega)⟩
  exact IXc.mk I.ab I.uw (I.x.keep (f.K 1) r) ((r _).trans I.r7) ((r _).trans I.r8) ((r _).trans I.r9) (I.o.ag f (fun c _ _ => by omega)) (I.ob.ag' f (by unfold rX; omega)) (I.du.ag' f (by unfold rX; omega)) (I.dw.ag' f (by unfold rX; omega)) (I.e.ag f (fun c _ _ => by omega)) (I.t.ag f (fun c _ _ => by omega)) (I.p.ag' f (by omega) (by omega)) (fun k hk => (f.L (by omega) k).trans (I.wd k hk)) (I.q.ag f (by omega)) ((f.K _).trans I.k102) (I.bk.ag2 f (fun j _ => f.R (by omega) j)) (I.bc.ag f (fun c _ _ => by omega)) (I.pk.ag f (fun j => f.R (by omega) j)) (I.wk.ag f) ⟨(f.K _).trans I.k45.1, (f.K _).trans I.k45.2⟩ (fun k hk => ⟨(f.Rx (by unfold rX; omega) _).trans (I.r45 k hk).1, (f.Rx (by unfold rX; omega) _).trans (I.r45 k hk).2⟩) (fun k hk => ⟨(I.mq k hk).1.ag' f (by unfold rX; omega), (I.mq k hk).2.ag' f (by unfold rX; omega)⟩) h5 mo ((h _ (by decide)).trans I.st) ((h _ (by decide)).trans I.f0) ((h _ (by decide)).trans I.f1) ((hl _).trans I.tp) ((hl _).trans I.bt)
theorem IXc.und (I : IXc σ a b u w s) (S : SOk s) (hm : 0 < s.m) (f : Ag (fun c => c = 1 ∨ (a ≤ c ∧ c ≤ a + 11) ∨ (u ≤ c ∧ c ≤ u + 4)) σ τ) (H : ROff τ a (s.MA (s.m - 1))) (c : DCp σ (59 + 17 * (s.m - 1)) τ u) (h5 : sI τ 1 5 = nI (s.m - 1)) (h : ∀ j, j ≠ 5 → sI τ 1 j = sI σ 1 j) (hl : ∀ j, sL τ 1 j = sL σ 1 j) (r : ∀ j, sR τ 1 j = sR σ 1 j) : IXc τ a b u w s.un1 := by
  have hab := I.ab
  have huw := I.uw
  have hm3 := S.m3
  have mo : ∀ i, i < s.m - 1 → ROff τ (47 + 17 * i) (s.MA i) ∧ RDo τ (59 + 17 * i) (s.ME i) := fun i hi => ⟨(I.mo i (by omega)).1.ag f (fun c _ _ => by omega), (I.mo i (by omega)).2.ag f (fun c _ _ => by omega)⟩
  exact IXc.mk I.ab I.uw (I.x.keep (f.K 1) r) ((r _).trans I.r7) ((r _).trans I.r8) ((r _).trans I.r9) H (I.ob.ag' f (by unfold rX; omega)) (I.du.ag' f (by unfold rX; omega)) (I.dw.ag' f (by unfold rX; omega)) ((I.mo (s.m - 1) (by omega)).2.cp (S.mq (s.m - 1) (by omega)).2.2 c) (I.t.ag f (fun c _ _ => by omega)) (I.p.ag' f (by omega) (by omega)) (fun k hk => (f.L (by omega) k).trans (I.wd k hk)) (I.q.ag f (by omega)) ((f.K _).trans I.k102) (I.bk.ag2 f (fun j _ => f.R (by omega) j)) (I.bc.ag f (fun c _ _ => by omega)) (I.pk.ag f (fun j => f.R (by omega) j)) (I.wk.ag f) ⟨(f.K _).trans I.k45.1, (f.K _).trans I.k45.2⟩ (fun k hk => ⟨(f.Rx (by unfold rX; omega) _).trans (I.r45 k hk).1, (f.Rx (by unfold rX; omega) _).trans (I.r45 k hk).2⟩) (fun k hk => ⟨(I.mq k hk).1.ag' f (by unfold rX; omega), (I.mq k hk).2.ag' f (by unfold rX; omega)⟩) h5 mo ((h _ (by decide)).trans I.st) ((h _ (by decide)).trans I.f0) ((h _ (by decide)).trans I.f1) ((hl _).trans I.tp) ((hl _).trans I.bt)
theorem X_mark (I : IXc σ a b u w s) (S : SOk s) : XC σ 204 [.ref 1] (.int (if s.m < 3 then nI (s.m + 1) else (qR 4).1)) (if s.m < 3 then s.mk1.wS (nI 0) else s.wS (qR 4).2) := by
  have hab := I.ab
  have huw := I.uw
  have hm3 := S.m3
  by_cases hm : s.m < 3
  · rw [if_pos hm, if_pos hm]
    obtain ⟨τ, f, H, c, h5, h, hl, r, e⟩ := x_mark (d := 28) I.x I.rma I.o S.o I.du I.e.b01 I.m5 hm (by omega) (by omega)
    exact XC.of (s := s.mk1) (I.mrk S hm f H c h5 h hl r) (show s.m + 1 ≤ 3 by omega) f (fun c hc => by omega) e
  · rw [if_neg hm, if_neg hm]
    have h3 : s.m = 3 := by omega
    exact XC.ask I S (fun K => x_markNo (d := 28) I.x (by rw [← h3]; exact I.m5))
theorem X_undo (I : IXc σ a b u w s) (S : SOk s) : XC σ 205 [.ref 1] (.int (if 0 < s.m then nI (s.m - 1) else (qR 6).1)) (if 0 < s.m then s.un1.wS (nI 0) else s.wS (qR 6).2) := by
  have hab := I.ab
  have huw := I.uw
  have hm3 := S.m3
  by_cases hm : 0 < s.m
  · rw [if_pos hm, if_pos hm]
    obtain ⟨τ, f, H, c, h5, h, hl, r, e⟩ := x_undo (d := 28) (k := s.m - 1) I.x I.rma I.o.kk (I.mo (s.m - 1) (by omega)).1 (S.mq (s.m - 1) (by omega)).1 I.du (I.mo (s.m - 1) (by omega)).2.b01 (by rw [show s.m - 1 + 1 = s.m by omega]; exact I.m5) (by omega) (by omega) (by omega) (by omega)
    exact XC.of (s := s.un1) (I.und S hm f H c h5 h hl r) (show s.m - 1 ≤ 3 by omega) f (fun c hc => by omega) e
  · rw [if_neg hm, if_neg hm]
    have h3 : s.m = 0 := by omega
    exact XC.ask I S (fun K => x_undoNo (d := 28) I.x (by rw [← h3]; exact I.m5))
theorem RDq.cp {E : Option (Dy × Pg 4)} {o t : Nat} (X : RDq σ o E) (W : DOo A E) (c : ∀ j, j < 404 → sI τ 121 (404 * t + j) = sI σ 121 (404 * o + j)) : RDq τ t E := by
  cases E with
  | none => exact (c 7 (by omega)).trans X
  | some z =>
    have W1 := (W z rfl).2.1
    have d : RDm σ o z.1 := X
    exact RDm.mk ((c _ (by omega)).trans d.s7) (fun q hq => (c _ (by omega)).trans (d.q0 q hq)) (fun q hq => (c _ (by omega)).trans (d.q1 q hq)) (fun q hq => (c _ (by omega)).trans (d.q2 q hq)) (fun q hq => (c _ (by omega)).trans (d.q4 q hq)) (fun q hq => (c _ (by omega)).trans (d.q5 q hq))
theorem RDp.q {E : Option (Dy × Pg 4)} (X : RDp σ E) : RDq σ 0 E := by cases E <;> exact X
theorem RDq.dp {E : Option (Dy × Pg 4)} (X : RDq σ 0 E) : RDp σ E := by cases E <;> exact X
theorem RSl.sm (S : RSl σ k A) (i1 : ∀ j, sI τ 121 (404 * k + j) = sI σ 121 (404 * k + j)) (l2 : ∀ j, j < 20 → sL τ 122 (20 * k + j) = sL σ 122 (20 * k + j)) (O : OfcOk A) : RSl τ k A := S.to O (fun j _ => i1 j) l2
theorem M_mark (J : IMc σ s) (S : SOk s) : MC σ 383 [.ref 120] (.int (if s.m < 3 then nI (s.m + 1) else (qR 4).1)) (if s.m < 3 then s.mk1.wS (nI 0) else s.wS (qR 4).2) := by
  have hm3 := S.m3
  by_cases hm : s.m < 3
  · rw [if_pos hm, if_pos hm]
    obtain ⟨τ, f, ⟨c1, c2, c3, c4⟩, h47, h, hl, e⟩ := m_mark (d := 28) J.m.m J.m47 hm
    have lo : ∀ t, t ≠ s.m + 1 → (∀ j, j < 404 → sI τ 121 (404 * t + j) = sI σ 121 (404 * t + j)) ∧ (∀ j, j < 20 → sL τ 122 (20 * t + j) = sL σ 122 (20 * t + j)) := fun t ht => ⟨fun j hj => c2 _ (by omega), fun j hj => c4 _ (by omega)⟩
    have S0 := J.m.sl
    have mo : ∀ i, i < s.m + 1 → RSl τ (i + 1) (if i = s.m then s.A else s.MA i) ∧ RDq τ (i + 1) (if i = s.m then s.E else s.ME i) := fun i hi => by
      by_cases ei : i = s.m
      · rw [if_pos ei, if_pos ei, ei]
        exact ⟨S0.to S.o (fun j hj => c1 j (by omega)) c3, RDq.cp J.d.q S.e c1⟩
      · rw [if_neg ei, if_neg ei]
        obtain ⟨q1, q2, q3⟩ := S.mq i (by omega)
        exact ⟨(J.mo i (by omega)).1.to q1 (fun j hj => (lo (i + 1) (by omega)).1 j (by omega)) (lo (i + 1) (by omega)).2, RDq.cp (J.mo i (by omega)).2 q3 (lo (i + 1) (by omega)).1⟩
    have J' : IMc τ s.mk1 := IMc.mk ((S0.to S.o (fun j hj => (lo 0 (by omega)).1 j (by omega)) (lo 0 (by omega)).2).mod (J.m.m.ag f)) (RDq.dp (RDq.cp J.d.q S.e (lo 0 (by omega)).1)) (J.t.ag f (by omega) (by omega) (by omega)) (RTq.mk ((h _ (by omega)).trans J.p.n) (fun j hj => (f.I (by omega) j).trans (J.p.b j hj))) (RTi.mk ((h _ (by omega)).trans J.q.t0) (fun x hx => ⟨fun q hq => (f.I (by omega) q).trans ((J.q.c x hx).1 q hq), (f.I (by omega) 4).trans (J.q.c x hx).2⟩)) h47 mo ((h _ (by omega)).trans J.st) ((h _ (by omega)).trans J.f0) ((h _ (by omega)).trans J.f1) ((hl _).trans J.tp) ((hl _).trans J.bt)
    exact ⟨_, J'.sta (nI 0), (f.mono (fun c hc => by omega)).setI (by omega), e⟩
  · rw [if_neg hm, if_neg hm]
    have h3 : s.m = 3 := by omega
    exact MC.ask J (fun K => m_markNo (d := 28) J.m.m (by rw [← h3]; exact J.m47))
theorem M_undo (J : IMc σ s) (S : SOk s) : MC σ 384 [.ref 120] (.int (if 0 < s.m then nI (s.m - 1) else (qR 6).1)) (if 0 < s.m then s.un1.wS (nI 0) else s.wS (qR 6).2) := by
  have hm3 := S.m3
  by_cases hm : 0 < s.m
  · rw [if_pos hm, if_pos hm]
    have e1 : s.m - 1 + 1 = s.m := by omega
    obtain ⟨τ, f, ⟨c1, c2, c3, c4⟩, h47, h, hl, e⟩ := m_undo (d := 28) (k := s.m - 1) J.m.m (by rw [e1]; exact J.m47) (by omega)
    have lo : ∀ t, t ≠ 0 → (∀ j, j < 404 → sI τ 121 (404 * t + j) = sI σ 121 (404 * t + j)) ∧ (∀ j, j < 20 → sL τ 122 (20 * t + j) = sL σ 122 (20 * t + j)) := fun t ht => ⟨fun j hj => c2 _ (by omega), fun j hj => c4 _ (by omega)⟩
    obtain ⟨p1, p2, p3⟩ := S.mq (s.m - 1) (by omega)
    obtain ⟨n1, n2⟩ := J.mo (s.m - 1) (by omega)
    have mo : ∀ i, i < s.m - 1 → RSl τ (i + 1) (s.MA i) ∧ RDq τ (i + 1) (s.ME i) := fun i hi => by
      obtain ⟨q1, q2, q3⟩ := S.mq i (by omega)
      exact ⟨(J.mo i (by omega)).1.to q1 (fun j hj => (lo (i + 1) (by omega)).1 j (by omega)) (lo (i + 1) (by omega)).2, RDq.cp (J.mo i (by omega)).2 q3 (lo (i + 1) (by omega)).1⟩
    have J' : IMc τ s.un1 := IMc.mk ((n1.to p1 (fun j hj => c1 j (by omega)) c3).mod (J.m.m.ag f)) (RDq.dp (RDq.cp n2 p3 c1)) (J.t.ag f (by omega) (by omega) (by omega)) (RTq.mk ((h _ (by omega)).trans J.p.n) (fun j hj => (f.I (by omega) j).trans (J.p.b j hj))) (RTi.mk ((h _ (by omega)).trans J.q.t0) (fun x hx => ⟨fun q hq => (f.I (by omega) q).trans ((J.q.c x hx).1 q hq), (f.I (by omega) 4).trans (J.q.c x hx).2⟩)) h47 mo ((h _ (by omega)).trans J.st) ((h _ (by omega)).trans J.f0) ((h _ (by omega)).trans J.f1) ((hl _).trans J.tp) ((hl _).trans J.bt)
    exact ⟨_, J'.sta (nI 0), (f.mono (fun c hc => by omega)).setI (by omega), e⟩
  · rw [if_neg hm, if_neg hm]
    have h3 : s.m = 0 := by omega
    exact MC.ask J (fun K => m_undoNo (d := 28) J.m.m (by rw [← h3]; exact J.m47))
end STR
