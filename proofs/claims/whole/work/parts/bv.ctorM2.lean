/-! THE CLASS'S SIDE WHILE THE MODEL IS BUILT -/
section CTV
variable {n m k a b u w : Nat} {s : Sx} {σ τ ρ : MS} {A : Ofc}
def Ag1 (σ τ : MS) : Prop := ∀ c, c < 120 → sK τ c = sK σ c ∧ (∀ j, sI τ c j = sI σ c j) ∧ (∀ j, sL τ c j = sL σ c j) ∧ (∀ j, sR τ c j = sR σ c j)
theorem Ag1.K (h : Ag1 σ τ) {c : Nat} (hc : c < 120) : sK τ c = sK σ c := (h c hc).1
theorem Ag1.I (h : Ag1 σ τ) {c : Nat} (hc : c < 120) (j : Nat) : sI τ c j = sI σ c j := (h c hc).2.1 j
theorem Ag1.L (h : Ag1 σ τ) {c : Nat} (hc : c < 120) (j : Nat) : sL τ c j = sL σ c j := (h c hc).2.2.1 j
theorem Ag1.R (h : Ag1 σ τ) {c : Nat} (hc : c < 120) (j : Nat) : sR τ c j = sR σ c j := (h c hc).2.2.2 j
theorem ROffK.lo (X : ROffK σ a) (h : Ag1 σ τ) (ha : a + 11 < 120) : ROffK τ a := by
  have z : ∀ k, k ≤ 11 → sK τ (a + k) = sK σ (a + k) := fun k hk => h.K (by omega)
  have y : ∀ j, sR τ a j = sR σ a j := fun j => h.R (by omega) j
  obtain ⟨h1, h2, h3, h4, h5, h6, h7, h8, h9, h10, h11, h12, h13, h14, h15, h16, h17, h18, h19, h20, h21, h22, h23⟩ := X
  exact ⟨(z 0 (by omega)).trans h1, (y _).trans h2, (y _).trans h3, (y _).trans h4, (y _).trans h5, (y _).trans h6, (y _).trans h7, (y _).trans h8, (y _).trans h9, (y _).trans h10, (y _).trans h11, (y _).trans h12, (z 1 (by omega)).trans h13, (z 2 (by omega)).trans h14, (z 3 (by omega)).trans h15, (z 4 (by omega)).trans h16, (z 5 (by omega)).trans h17, (z 6 (by omega)).trans h18, (z 7 (by omega)).trans h19, (z 8 (by omega)).trans h20, (z 9 (by omega)).trans h21, (z 10 (by omega)).trans h22, (z 11 (by omega)).trans h23⟩
theorem RTx.lo (X : RTx σ) (h : Ag1 σ τ) : RTx τ := RTx.mk ((h.K (by omega)).trans X.k) ((h.R (by omega) _).trans X.r0) ((h.R (by omega) _).trans X.r12) ((h.K (by omega)).trans X.k99) ((h.K (by omega)).trans X.k100)
theorem RXk.lo (X : RXk σ a) (h : Ag1 σ τ) : RXk τ a := by
  have y : ∀ j, sR τ 1 j = sR σ 1 j := fun j => h.R (by omega) j
  exact RXk.keep X (h.K (by omega)) y
theorem ROff.lo (X : ROff σ a A) (h : Ag1 σ τ) (ha : a + 11 < 120) : ROff τ a A :=
  X.congr (fun b h1 h2 => h.K (by omega)) (fun b j h1 h2 => h.I (by omega) j) (fun b j h1 h2 => h.L (by omega) j) (fun j => h.R (by omega) j)
theorem RDk.lo (X : RDk σ u) (h : Ag1 σ τ) (hu : u + 4 < 120) : RDk τ u :=
  RDk.mk ((h.K (by omega)).trans X.k) ((h.R (by omega) _).trans X.r2) ((h.R (by omega) _).trans X.r3) ((h.R (by omega) _).trans X.r4) ((h.R (by omega) _).trans X.r5) ((h.K (by omega)).trans X.k1) ((h.K (by omega)).trans X.k2) ((h.K (by omega)).trans X.k3) ((h.K (by omega)).trans X.k4)
theorem RBk.lo (X : RBk σ) (h : Ag1 σ τ) : RBk τ := RBk.mk ((h.K (by omega)).trans X.k) ((h.R (by omega) _).trans X.r4) ((h.R (by omega) _).trans X.r5) ((h.R (by omega) _).trans X.r6) ((h.R (by omega) _).trans X.r7) ((h.R (by omega) _).trans X.r8) ((h.R (by omega) _).trans X.r9) ((h.R (by omega) _).trans X.r10) ((h.R (by omega) _).trans X.r12) ((h.R (by omega) _).trans X.r13) ((h.K (by omega)).trans X.k104) ((h.K (by omega)).trans X.k105) ((h.K (by omega)).trans X.k106) ((h.K (by omega)).trans X.k107) ((h.K (by omega)).trans X.k108) ((h.K (by omega)).trans X.k109) ((h.K (by omega)).trans X.k110) ((h.K (by omega)).trans X.k111) ((h.K (by omega)).trans X.k112)
theorem RPk.lo (X : RPk σ) (h : Ag1 σ τ) : RPk τ := RPk.mk ((h.K (by omega)).trans X.k) ((h.R (by omega) _).trans X.r4) ((h.K (by omega)).trans X.k1)
theorem RWk.lo (X : RWk σ) (h : Ag1 σ τ) : RWk τ := RWk.mk ((h.K (by omega)).trans X.k) ((h.R (by omega) _).trans X.r3) ((h.R (by omega) _).trans X.r4) ((h.R (by omega) _).trans X.r5) ((h.R (by omega) _).trans X.r6) ((h.K (by omega)).trans X.k1) ((h.K (by omega)).trans X.k2) ((h.K (by omega)).trans X.k3) ((h.K (by omega)).trans X.k4)
theorem RTr.lo {T : Trs} (X : RTr σ T) (h : Ag1 σ τ) : RTr τ T := RTr.mk ((h.K (by omega)).trans X.k36) (fun k hk => (h.R (by omega) _).trans (X.r36 k hk)) (fun k hk => (h.K (by omega)).trans (X.ob k hk)) (fun k hk => (h.R (by omega) _).trans (X.nr k hk)) (fun k hk => (h.K (by omega)).trans (X.nk k hk)) (fun k hk e => (h.I (by omega) _).trans (X.no k hk e)) (fun k x hk e => (h.I (by omega) _).trans (X.i0 k x hk e)) (fun k x hk e => (h.I (by omega) _).trans (X.i1 k x hk e)) (fun k x hk e => (h.I (by omega) _).trans (X.i2 k x hk e)) (fun k x j hk e hj => (h.L (by omega) _).trans (X.l3 k x j hk e hj))
theorem RTp.lo {P : Tp} (X : RTp σ P) (h : Ag1 σ τ) : RTp τ P := RTp.mk (X.x.lo h) ((h.I (by omega) _).trans X.n) (fun j hj => (h.I (by omega) _).trans (X.b j hj))
theorem RLi.lo {T : Tl} (X : RLi σ T) (h : Ag1 σ τ) : RLi τ T := RLi.mk ((h.K (by omega)).trans X.k) ((h.I (by omega) _).trans X.t0) (fun l hl => ⟨fun i hi => (h.I (by omega) _).trans ((X.c l hl).1 i hi), (h.I (by omega) _).trans (X.c l hl).2⟩)
theorem RDc.lo {D : Dy} (X : RDc σ u D) (h : Ag1 σ τ) (hu : u + 4 < 120) : RDc τ u D := RDc.mk ((h.I (by omega) _).trans X.u0) ((h.I (by omega) _).trans X.u1) (fun i hi => (h.I (by omega) _).trans (X.c1 i hi)) (fun i hi => (h.I (by omega) _).trans (X.c2 i hi)) (fun i hi => (h.I (by omega) _).trans (X.c3 i hi)) (fun i hi => (h.I (by omega) _).trans (X.c4 i hi))
theorem RDo.lo {E : Option (Dy × Pg 4)} (X : RDo σ u E) (h : Ag1 σ τ) (hu : u + 4 < 120) : RDo τ u E := by
  cases E with
  | none => exact (h.I (by omega) 0).trans X
  | some z => exact RDc.lo X h hu
theorem BCa.lo (C : BCa σ) (h : Ag1 σ τ) : BCa τ := by
  have y : ∀ c j, 103 ≤ c → c ≤ 112 → sI τ c j = sI σ c j := fun c j h1 h2 => h.I (by omega) j
  obtain ⟨⟨g, g1, g2⟩, C2⟩ := C
  refine ⟨⟨g, g1, fun j hj => (y 108 j (by omega) (by omega)).trans (g2 j hj)⟩, ?_⟩
  rcases C2 with C2 | ⟨A, O, S⟩
  · exact .inl ((y 103 11 (by omega) (by omega)).trans C2)
  · exact .inr ⟨A, O, BSo.mk ((y _ _ (by omega) (by omega)).trans S.wi) (fun c hc => (y _ _ (by omega) (by omega)).trans (S.la c hc)) (fun p q hp hq => (y _ _ (by omega) (by omega)).trans (S.al p q hp hq)) ((y _ _ (by omega) (by omega)).trans S.to) ((y _ _ (by omega) (by omega)).trans S.n) (fun k hk => (y _ _ (by omega) (by omega)).trans (S.c k hk)) (fun k hk => (y _ _ (by omega) (by omega)).trans (S.w k hk))⟩
theorem IXc.lo (I : IXc σ a b u w s) (hm : s.m ≤ 3) (h : Ag1 σ τ) : IXc τ a b u w s := by
  have hab := I.ab
  have huw := I.uw
  exact IXc.mk I.ab I.uw (I.x.lo h) ((h.R (by omega) _).trans I.r7) ((h.R (by omega) _).trans I.r8) ((h.R (by omega) _).trans I.r9) (I.o.lo h (by omega)) (I.ob.lo h (by omega)) (I.du.lo h (by omega)) (I.dw.lo h (by omega)) (I.e.lo h (by omega)) (I.t.lo h) (I.p.lo h) (fun k hk => (h.L (by omega) k).trans (I.wd k hk)) (I.q.lo h) ((h.K (by omega)).trans I.k102) (I.bk.lo h) (I.bc.lo h) (I.pk.lo h) (I.wk.lo h) ⟨(h.K (by omega)).trans I.k45.1, (h.K (by omega)).trans I.k45.2⟩ (fun k hk => ⟨(h.R (by omega) _).trans (I.r45 k hk).1, (h.R (by omega) _).trans (I.r45 k hk).2⟩) (fun k hk => ⟨(I.mq k hk).1.lo h (by omega), (I.mq k hk).2.lo h (by omega)⟩) ((h.I (by omega) _).trans I.m5) (fun i (hi : i < s.m) => ⟨(I.mo i hi).1.lo h (by omega), (I.mo i hi).2.lo h (by omega)⟩) ((h.I (by omega) _).trans I.st) ((h.I (by omega) _).trans I.f0) ((h.I (by omega) _).trans I.f1) ((h.L (by omega) _).trans I.tp) ((h.L (by omega) _).trans I.bt)
theorem M_init {σ : MS} {d : Nat} (hn : σ.1.length = 120) : ∃ τ, τ.1 = σ.1 ++ (0, 11) :: fMod.map (fun p => p.2) ∧ Ag1 σ τ ∧ IMc τ s0 ∧ ∀ K, zC (d + 5) 218 [.ref 120] (zNew σ (0, 11)) K = K none τ := by
  obtain ⟨g, _, hp, h3, h4, h5, h6, h7, h0, e⟩ := m_plain (d := d + 2) (mRh_k hn) (b := 0) (by omega)
  have mk := (mRh_k hn).ag (Ag.rf.upA (p := fun b => b = 121) (f := g) rfl)
  have al0 : ∀ b j, 120 ≤ b → b ≤ 142 → sI (alO σ 11 fMod) b j = nI 0 := fun b j h1 h2 => al_I hn 11 fMod h1 h2
  have mi : ∀ j, j ≠ 16 → j ≠ 17 → sI (upA (mRh σ) 121 g) 120 j = nI 0 := fun j j1 j2 => by
    rw [sI_upA, if_neg (by omega)]
    unfold mRh
    rw [sI_setI, if_neg (by omega), sI_setI, if_neg (by omega), sI_setI, if_neg (by omega), sI_setI, if_neg (by omega), sI_setI, if_neg (by omega), sI_setI, if_neg (by omega)]
    exact al0 120 j (by omega) (by omega)
  have m16 : sI (upA (mRh σ) 121 g) 120 16 = -nI 1 := by
    rw [sI_upA, if_neg (by omega)]
    unfold mRh
    rw [sI_setI, if_neg (by omega), sI_setI, if_pos ⟨rfl, rfl⟩]
  have m17 : sI (upA (mRh σ) 121 g) 120 17 = -nI 1 := by
    rw [sI_upA, if_neg (by omega)]
    unfold mRh
    rw [sI_setI, if_pos ⟨rfl, rfl⟩]
  have m124 : ∀ k, k < 4 → sI (upA (mRh σ) 121 g) 124 k = -nI 1 := fun k hk => by
    rw [sI_upA, if_neg (by omega)]
    unfold mRh
    rw [sI_setI, if_neg (by omega), sI_setI, if_neg (by omega)]
    have : k = 0 ∨ k = 1 ∨ k = 2 ∨ k = 3 := by omega
    rcases this with rfl | rfl | rfl | rfl
    · rw [sI_setI, if_neg (by omega), sI_setI, if_neg (by omega), sI_setI, if_neg (by omega), sI_setI, if_pos ⟨rfl, rfl⟩]
    · rw [sI_setI, if_neg (by omega), sI_setI, if_neg (by omega), sI_setI, if_pos ⟨rfl, rfl⟩]
    · rw [sI_setI, if_neg (by omega), sI_setI, if_pos ⟨rfl, rfl⟩]
    · rw [sI_setI, if_pos ⟨rfl, rfl⟩]
  have ml : ∀ j, sL (upA (mRh σ) 121 g) 120 j = if j = 4 then lN 1 else lN 0 := fun j => by
    show sL (setL (alO σ 11 fMod) 120 4 (lN 1)) 120 j = _
    rw [sL_setL]
    by_cases h : j = 4
    · rw [if_pos ⟨rfl, h⟩, if_pos h]
    · rw [if_neg (fun x => h x.2), if_neg h]
      show (if σ.1.length ≤ 120 ∧ 120 ≤ σ.1.length + fMod.length then 0 else σ.2.2.1 120 j) = lN 0
      rw [if_pos ⟨by omega, by omega⟩]
      rfl
  have a1 : Ag1 σ (upA (mRh σ) 121 g) := fun c hc => by
    obtain ⟨o1, o2, o3, o4⟩ := ((al_mk hn (by omega) 11 fMod).old (q := fun _ => False)) c hc
    refine ⟨o1, fun j => ?_, fun j => ?_, fun j => o4 (fun x => x) j⟩
    · rw [sI_upA, if_neg (by omega)]
      unfold mRh
      rw [sI_setI, if_neg (by omega), sI_setI, if_neg (by omega), sI_setI, if_neg (by omega), sI_setI, if_neg (by omega), sI_setI, if_neg (by omega), sI_setI, if_neg (by omega)]
      exact o2 j
    · show sL (setL (alO σ 11 fMod) 120 4 (lN 1)) c j = _
      rw [sL_setL, if_neg (by omega)]
      exact o3 j
  refine ⟨upA (mRh σ) 121 g, rfl, a1, ?_, fun K => m_build hn e⟩
  have z : ∀ x, 404 * 0 + x = 0 + x := fun x => by omega
  exact IMc.mk (RSl.mod (RSl.plain (s := 0) (fun p h => by rw [z]; exact hp p h) (by rw [z]; exact h3) (by rw [z]; exact h4) (by rw [z]; exact h5) (by rw [z]; exact h6) (fun j j1 j2 j3 => by rw [z]; exact h0 j j1 j2 j3)) mk) (show sI (upA (mRh σ) 121 g) 121 7 = -nI 1 by rw [sI_upA, if_pos rfl]; exact h7) (RTm.mk (fun k hk _ => m124 k hk) (fun k x hk e => by cases e) (fun k x hk e => by cases e) (fun k x j hk e _ => by cases e)) (RTq.mk (mi 10 (by decide) (by decide)) (fun j hj => absurd hj (Nat.not_lt_zero j))) (RTi.mk (mi 46 (by decide) (by decide)) (fun l hl => by cases hl)) (mi 47 (by decide) (by decide)) (fun k hk => absurd hk (Nat.not_lt_zero k)) (mi 2 (by decide) (by decide)) m16 m17 (by rw [ml]; rfl) (by rw [ml]; rfl)
theorem SOk_s0 : SOk s0 := SOk.mk nil_ok (NmOk.mk (fun t ht => absurd ht (Nat.not_lt_zero t)) (fun t ht => absurd ht (Nat.not_lt_zero t)) (fun t ht => absurd ht (Nat.not_lt_zero t))) (fun z hz => by cases hz) (fun k s m f h => by cases h) ⟨Nat.zero_le _, fun j hj => absurd hj (Nat.not_lt_zero j)⟩ (Nat.zero_le _) (fun k hk => absurd hk (Nat.not_lt_zero k))
end CTV
