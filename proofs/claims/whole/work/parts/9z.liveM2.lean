/-! THE MODEL LIVES: a life so far -/
def RLm (σ : MS) (D : Dy) (s : Lf) : Prop := (RMod σ s.1) ∧ (sI σ 120 41 = nI s.2.2.2.2.2) ∧ (sI σ 120 42 = nI s.2.1) ∧ (∀ i, i < 4 → sI σ 141 i = nI (s.2.2.1 i)) ∧ (sI σ 141 4 = bI s.2.2.2.1) ∧ (RDm σ 0 D)
theorem RLm.m {σ : MS} {D : Dy} {s : Lf} (H : RLm σ D s) : RMod σ s.1 := H.1
theorem RLm.d41 {σ : MS} {D : Dy} {s : Lf} (H : RLm σ D s) : sI σ 120 41 = nI s.2.2.2.2.2 := H.2.1
theorem RLm.d42 {σ : MS} {D : Dy} {s : Lf} (H : RLm σ D s) : sI σ 120 42 = nI s.2.1 := H.2.2.1
theorem RLm.c {σ : MS} {D : Dy} {s : Lf} (H : RLm σ D s) : ∀ i, i < 4 → sI σ 141 i = nI (s.2.2.1 i) := H.2.2.2.1
theorem RLm.c4 {σ : MS} {D : Dy} {s : Lf} (H : RLm σ D s) : sI σ 141 4 = bI s.2.2.2.1 := H.2.2.2.2.1
theorem RLm.w {σ : MS} {D : Dy} {s : Lf} (H : RLm σ D s) : RDm σ 0 D := H.2.2.2.2.2
theorem RLm.mk {σ : MS} {D : Dy} {s : Lf} (m : RMod σ s.1) (d41 : sI σ 120 41 = nI s.2.2.2.2.2) (d42 : sI σ 120 42 = nI s.2.1) (c : ∀ i, i < 4 → sI σ 141 i = nI (s.2.2.1 i)) (c4 : sI σ 141 4 = bI s.2.2.2.1) (w : RDm σ 0 D) : RLm σ D s := ⟨m, d41, d42, c, c4, w⟩
/-- the Office has changed, nothing else -/
def FDm (σ τ : MS) : Prop := Ag (fun b => b = 120 ∨ b = 121 ∨ b = 129 ∨ b = 130) σ τ ∧ (∀ j, j ≠ 26 → j ≠ 27 → sI τ 120 j = sI σ 120 j) ∧ (∀ j, sL τ 120 j = sL σ 120 j) ∧ (∀ j, (j = 7 ∨ 36 ≤ j) → sI τ 121 j = sI σ 121 j)
/-- a life has gone on; which loops it may have touched -/
def FLm (r t : Nat) (σ τ : MS) : Prop := Ag (fun b => b = 120 ∨ b = 121 ∨ b = 129 ∨ b = 130 ∨ b = 140 ∨ b = 141) σ τ ∧ (∀ j, j ≠ 26 → j ≠ 27 → j ≠ 41 → j ≠ 42 → sI τ 120 j = sI σ 120 j) ∧ (∀ j, sL τ 120 j = sL σ 120 j) ∧ (∀ j, (j = 7 ∨ 36 ≤ j) → sI τ 121 j = sI σ 121 j) ∧ (∀ j, (j < r ∨ t ≤ j) → sI τ 140 j = sI σ 140 j)
section LM2
variable {d : Nat} {σ τ ρ : MS} {r t r2 t2 : Nat} {D : Dy} {s : Lf} {A : Ofc} {K : Option Value → MS → Prop}
theorem FDm.rf : FDm σ σ := ⟨Ag.rf, fun _ _ _ => rfl, fun _ => rfl, fun _ _ => rfl⟩
theorem FDm.at (h : FDm σ τ) {j : Nat} {v : Int32} (hj : j < 36) (h7 : j ≠ 7) : FDm σ (setI τ 121 j v) :=
  ⟨h.1.tr (Ag.rf.setI (.inr (.inl rfl))), fun i a b => by rw [sI_setI, if_neg (by omega)]; exact h.2.1 i a b, h.2.2.1, fun i hi => by rw [sI_setI, if_neg (by omega)]; exact h.2.2.2 i hi⟩
theorem FLm.rf : FLm r t σ σ := ⟨Ag.rf, fun _ _ _ _ _ => rfl, fun _ => rfl, fun _ _ => rfl, fun _ _ => rfl⟩
theorem FLm.tr (h1 : FLm r t σ τ) (h2 : FLm r t τ ρ) : FLm r t σ ρ := ⟨h1.1.tr h2.1, fun j a b c e => (h2.2.1 j a b c e).trans (h1.2.1 j a b c e), fun j => (h2.2.2.1 j).trans (h1.2.2.1 j), fun j a => (h2.2.2.2.1 j a).trans (h1.2.2.2.1 j a), fun j a => (h2.2.2.2.2 j a).trans (h1.2.2.2.2 j a)⟩
theorem FLm.mono (h : FLm r t σ τ) (hr : r2 ≤ r) (ht : t ≤ t2) : FLm r2 t2 σ τ := ⟨h.1, h.2.1, h.2.2.1, h.2.2.2.1, fun j hj => h.2.2.2.2 j (by omega)⟩
theorem FDm.l (h : FDm σ τ) : FLm r t σ τ := ⟨h.1.mono (fun b hb => by omega), fun j a b _ _ => h.2.1 j a b, h.2.2.1, h.2.2.2, fun j _ => h.1.I (by omega) j⟩
theorem FLm.s1 {j : Nat} {v : Int32} (hj : j = 41 ∨ j = 42) : FLm r t σ (setI σ 120 j v) := ⟨Ag.rf.setI (.inl rfl), fun i _ _ _ _ => by rw [sI_setI, if_neg (by omega)], fun _ => rfl, fun i _ => by rw [sI_setI, if_neg (by omega)], fun i _ => by rw [sI_setI, if_neg (by omega)]⟩
theorem FLm.s2 {j : Nat} {v : Int32} : FLm r t σ (setI σ 141 j v) := ⟨Ag.rf.setI (by omega), fun i _ _ _ _ => by rw [sI_setI, if_neg (by omega)], fun _ => rfl, fun i _ => by rw [sI_setI, if_neg (by omega)], fun i _ => by rw [sI_setI, if_neg (by omega)]⟩
theorem FLm.s3 {j : Nat} {v : Int32} (h1 : r ≤ j) (h2 : j < t) : FLm r t σ (setI σ 140 j v) := ⟨Ag.rf.setI (by omega), fun i _ _ _ _ => by rw [sI_setI, if_neg (by omega)], fun _ => rfl, fun i _ => by rw [sI_setI, if_neg (by omega)], fun i hi => by rw [sI_setI, if_neg (by omega)]⟩
theorem RDm.keep (W : RDm σ 0 D) (h : ∀ j, (j = 7 ∨ 36 ≤ j) → sI τ 121 j = sI σ 121 j) : RDm τ 0 D :=
  RDm.mk ((h _ (by omega)).trans W.s7) (fun i hi => (h _ (by omega)).trans (W.q0 i hi)) (fun i hi => (h _ (by omega)).trans (W.q1 i hi)) (fun i hi => (h _ (by omega)).trans (W.q2 i hi)) (fun i hi => (h _ (by omega)).trans (W.q4 i hi)) (fun i hi => (h _ (by omega)).trans (W.q5 i hi))
theorem RLm.off (L : RLm σ D s) (f : FDm σ τ) (M : RMod τ A) : RLm τ D (s.o A) :=
  RLm.mk M ((f.2.1 _ (by omega) (by omega)).trans L.d41) ((f.2.1 _ (by omega) (by omega)).trans L.d42) (fun i hi => (f.1.I (by omega) _).trans (L.c i hi)) ((f.1.I (by omega) _).trans L.c4) (L.w.keep f.2.2.2)
theorem RLm.cnt (L : RLm σ D s) {i : Nat} (hi : i < 4) : RLm (setI σ 141 i (nI (s.2.2.1 i + 1))) D (s.w s.1 i) := by
  have f : Ag (fun b => b = 141) σ (setI σ 141 i (nI (s.2.2.1 i + 1))) := Ag.rf.setI rfl
  refine RLm.mk (L.m.ag f (by omega) (by omega)) ((f.I (by omega) _).trans L.d41) ((f.I (by omega) _).trans L.d42) (fun k hk => ?_) ?_ (L.w.keep (fun j _ => f.I (by omega) j))
  · show sI (setI σ 141 i (nI (s.2.2.1 i + 1))) 141 k = nI (upF s.2.2.1 i (s.2.2.1 i + 1) k)
    rw [sI_setI]
    by_cases h : k = i
    · rw [if_pos ⟨rfl, h⟩, h, upF_s]
    · rw [if_neg (fun hh => h hh.2), upF_n _ _ h]; exact L.c k hk
  · rw [sI_setI, if_neg (by omega)]; exact L.c4
theorem RLm.ct (L : RLm σ D s) : RLm (setI σ 141 4 (nI 1)) D s.ct := by
  have f : Ag (fun b => b = 141) σ (setI σ 141 4 (nI 1)) := Ag.rf.setI rfl
  refine RLm.mk (L.m.ag f (by omega) (by omega)) ((f.I (by omega) _).trans L.d41) ((f.I (by omega) _).trans L.d42) (fun k hk => ?_) ?_ (L.w.keep (fun j _ => f.I (by omega) j))
  · rw [sI_setI, if_neg (by omega)]; exact L.c k hk
  · rw [sI_setI, if_pos ⟨rfl, rfl⟩]; rfl
theorem RLm.ov (L : RLm σ D s) : RLm σ D s.ov := RLm.mk L.m L.d41 L.d42 L.c L.c4 L.w
theorem RLm.st (L : RLm σ D s) : RLm (setI σ 120 42 (nI (s.2.1 + 1))) D s.st := by
  have f : Ag (fun b => b = 120) σ (setI σ 120 42 (nI (s.2.1 + 1))) := Ag.rf.setI rfl
  exact RLm.mk (L.m.ag f (by omega) (by omega)) (by rw [sI_setI, if_neg (by omega)]; exact L.d41) (by rw [sI_setI, if_pos ⟨rfl, rfl⟩]; rfl) (fun k hk => (f.I (by omega) _).trans (L.c k hk)) ((f.I (by omega) _).trans L.c4) (L.w.keep (fun j _ => f.I (by omega) j))
theorem RLm.lo (L : RLm σ D s) {j : Nat} {v : Int32} : RLm (setI σ 140 j v) D s := by
  have f : Ag (fun b => b = 140) σ (setI σ 140 j v) := Ag.rf.setI rfl
  exact RLm.mk (L.m.ag f (by omega) (by omega)) ((f.I (by omega) _).trans L.d41) ((f.I (by omega) _).trans L.d42) (fun k hk => (f.I (by omega) _).trans (L.c k hk)) ((f.I (by omega) _).trans L.c4) (L.w.keep (fun j _ => f.I (by omega) j))
theorem m_counts (M : RMk σ) {i n : Nat} (hi : i < 4) (h : sI σ 141 i = nI n) (w : Bool) : zC (d + 1) 372 [.ref 120, .int (nI i), .int (bI w)] σ K = K (some (.int (bI w))) (if w = true then setI σ 141 i (nI (n + 1)) else σ) := by
  rw [E_372]
  have i5 : i < 5 := by omega
  cases w with
  | true =>
    simp (disch := omega) only [L_372_0, zt_372_0, L_372_15, zt_372_15, L_372_16, zt_372_16, ↓e_iconst0, ↓e_iconst1, ↓e_bipush0, ↓e_bipush1, ↓e_sipush0, ↓e_sipush1, ↓e_ldc0, ↓e_ldc1, ↓e_ldc_w0, ↓e_ldc_w1, ↓e_ldc2, ↓e_lconst0, ↓e_lconst1, ↓e_ldc2_w0, ↓e_ldc2_w1, ↓e_iload, ↓e_iload_n, ↓e_istore, ↓e_istore_n, ↓e_lload, ↓e_lload_n, ↓e_lstore, ↓e_lstore_n, ↓e_aload, ↓e_aload_n, ↓e_astore, ↓e_astore_n, ↓e_iinc0, ↓e_iinc1, ↓e_iadd, ↓e_isub, ↓e_imul, ↓e_iand, ↓e_ior, ↓e_ixor, ↓e_ishl, ↓e_ishr, ↓e_iushr, ↓e_ladd, ↓e_lsub, ↓e_lmul, ↓e_land, ↓e_lor, ↓e_idiv, ↓e_irem, ↓e_ldiv, ↓e_lrem, ↓e_lshl, ↓e_lcmp, ↓e_i2l, ↓e_l2i, ↓e_i2b, ↓e_i2s, ↓e_dup_int, ↓e_pop_int, ↓e_dup_ref, ↓e_pop_ref, ↓e_dup2, ↓e_goto, ↓e_nop, ↓e_ifCond_eq, ↓e_if_icmp_eq, ↓e_ifCond_ne, ↓e_if_icmp_ne, ↓e_ifCond_lt, ↓e_if_icmp_lt, ↓e_ifCond_ge, ↓e_if_icmp_ge, ↓e_ifCond_gt, ↓e_if_icmp_gt, ↓e_ifCond_le, ↓e_if_icmp_le, ↓e_tab, ↓e_look, ↓e_get0, ↓e_get1, ↓e_get2, ↓e_get3, ↓e_put0, ↓e_put1, ↓e_put2, ↓e_put3, ↓e_iaload, ↓e_laload, ↓e_baload, ↓e_aaload, ↓e_iastore, ↓e_lastore, ↓e_bastore, ↓e_aastore, ↓e_alen, ↓e_new, ↓e_newarray, ↓e_anewarray, ↓e_objinit, ↓e_virt1, ↓e_virt2, ↓e_virt3, ↓e_virt4, ↓e_virt5, ↓e_virt6, ↓e_virt7, ↓e_stat0, ↓e_stat1, ↓e_stat2, ↓e_stat3, ↓e_stat4, ↓e_stat5, ↓e_stat6, ↓e_stat7, ↓e_spec1, ↓e_spec2, ↓e_spec3, ↓e_spec4, ↓e_spec5, ↓e_strlen, ↓e_charAt, ↓e_copy, ↓e_iret0, ↓e_iret1, ↓e_lret, ↓e_aret, ↓e_vret, zIsI_int, zIsL_long, zIsA_ref, zInt_int, true_and, and_true, ↓reduceIte, zGet, zSet, zSet2, zEnt, zWid, Value.category, List.map_cons, List.map_nil, List.sum_cons, List.sum_nil, List.replicate, Option.toList, Nat.reduceAdd, Nat.reduceSub, Nat.reduceMul, Nat.reduceLeDiff, Nat.reduceEqDiff, Nat.reduceLT, List.cons_append, List.nil_append, true_or, or_true, or_false, false_or, M.k, M.r0, M.r1, M.r5, M.r6, M.r7, M.r8, M.r9, M.r21, M.r24, M.r25, M.r28, M.r29, M.r30, M.r31, M.r35, M.r36, M.r37, M.r38, M.r40, M.r43, M.r44, M.r45, M.k121, M.k122, M.k123, M.k124, M.k125, M.k126, M.k127, M.k128, M.k129, M.k130, M.k131, M.k132, M.k133, M.k134, M.k135, M.k136, M.k137, M.k138, M.k139, M.k140, M.k141, M.k142, nI_ltI, nI_leI, nI_eq, nI_clamp, zIn_nI, bI_0, nI_add, nI_mul, nI_or, nI_and, nI_shl1, nI_bit, ↓pk_rem, pk_div, Nat.lt_irrefl, Nat.not_lt_zero, reduceCtorEq, h, i5, show bI true = nI 1 from rfl, bI_1, bI_tf]
  | false =>
    have e : setI σ 141 i (nI n) = σ := setI_id h
    simp (disch := omega) only [L_372_0, zt_372_0, L_372_15, zt_372_15, L_372_16, zt_372_16, ↓e_iconst0, ↓e_iconst1, ↓e_bipush0, ↓e_bipush1, ↓e_sipush0, ↓e_sipush1, ↓e_ldc0, ↓e_ldc1, ↓e_ldc_w0, ↓e_ldc_w1, ↓e_ldc2, ↓e_lconst0, ↓e_lconst1, ↓e_ldc2_w0, ↓e_ldc2_w1, ↓e_iload, ↓e_iload_n, ↓e_istore, ↓e_istore_n, ↓e_lload, ↓e_lload_n, ↓e_lstore, ↓e_lstore_n, ↓e_aload, ↓e_aload_n, ↓e_astore, ↓e_astore_n, ↓e_iinc0, ↓e_iinc1, ↓e_iadd, ↓e_isub, ↓e_imul, ↓e_iand, ↓e_ior, ↓e_ixor, ↓e_ishl, ↓e_ishr, ↓e_iushr, ↓e_ladd, ↓e_lsub, ↓e_lmul, ↓e_land, ↓e_lor, ↓e_idiv, ↓e_irem, ↓e_ldiv, ↓e_lrem, ↓e_lshl, ↓e_lcmp, ↓e_i2l, ↓e_l2i, ↓e_i2b, ↓e_i2s, ↓e_dup_int, ↓e_pop_int, ↓e_dup_ref, ↓e_pop_ref, ↓e_dup2, ↓e_goto, ↓e_nop, ↓e_ifCond_eq, ↓e_if_icmp_eq, ↓e_ifCond_ne, ↓e_if_icmp_ne, ↓e_ifCond_lt, ↓e_if_icmp_lt, ↓e_ifCond_ge, ↓e_if_icmp_ge, ↓e_ifCond_gt, ↓e_if_icmp_gt, ↓e_ifCond_le, ↓e_if_icmp_le, ↓e_tab, ↓e_look, ↓e_get0, ↓e_get1, ↓e_get2, ↓e_get3, ↓e_put0, ↓e_put1, ↓e_put2, ↓e_put3, ↓e_iaload, ↓e_laload, ↓e_baload, ↓e_aaload, ↓e_iastore, ↓e_lastore, ↓e_bastore, ↓e_aastore, ↓e_alen, ↓e_new, ↓e_newarray, ↓e_anewarray, ↓e_objinit, ↓e_virt1, ↓e_virt2, ↓e_virt3, ↓e_virt4, ↓e_virt5, ↓e_virt6, ↓e_virt7, ↓e_stat0, ↓e_stat1, ↓e_stat2, ↓e_stat3, ↓e_stat4, ↓e_stat5, ↓e_stat6, ↓e_stat7, ↓e_spec1, ↓e_spec2, ↓e_spec3, ↓e_spec4, ↓e_spec5, ↓e_strlen, ↓e_charAt, ↓e_copy, ↓e_iret0, ↓e_iret1, ↓e_lret, ↓e_aret, ↓e_vret, zIsI_int, zIsL_long, zIsA_ref, zInt_int, true_and, and_true, ↓reduceIte, zGet, zSet, zSet2, zEnt, zWid, Value.category, List.map_cons, List.map_nil, List.sum_cons, List.sum_nil, List.replicate, Option.toList, Nat.reduceAdd, Nat.reduceSub, Nat.reduceMul, Nat.reduceLeDiff, Nat.reduceEqDiff, Nat.reduceLT, List.cons_append, List.nil_append, true_or, or_true, or_false, false_or, M.k, M.r0, M.r1, M.r5, M.r6, M.r7, M.r8, M.r9, M.r21, M.r24, M.r25, M.r28, M.r29, M.r30, M.r31, M.r35, M.r36, M.r37, M.r38, M.r40, M.r43, M.r44, M.r45, M.k121, M.k122, M.k123, M.k124, M.k125, M.k126, M.k127, M.k128, M.k129, M.k130, M.k131, M.k132, M.k133, M.k134, M.k135, M.k136, M.k137, M.k138, M.k139, M.k140, M.k141, M.k142, nI_ltI, nI_leI, nI_eq, nI_clamp, zIn_nI, bI_0, nI_add, nI_mul, nI_or, nI_and, nI_shl1, nI_bit, ↓pk_rem, pk_div, Nat.lt_irrefl, Nat.not_lt_zero, reduceCtorEq, h, i5, show bI false = nI 0 from rfl, Nat.add_zero, e, bI_1, bI_tf, Bool.false_eq_true]
def MXP (σ : MS) (D : Dy) (s r : Lf) (τ : MS) (w : Bool) : Prop := FLm 0 0 σ τ ∧ ∃ t, t.2.2.1 0 = s.2.2.1 0 ∧ RLm τ D t ∧ r = if w = true then t else t.mi
theorem mx_fil (L : RLm σ D s) (O : OfcOk s.1) {p : Nat} (hp : p < s.1.np) : ∃ τ w, MXP σ D s (filL s p) τ w ∧ ∃ ρ, sK ρ 120 = (0, 11) ∧ (∀ d K, zC (d + 6) 298 [.ref 120, .int (nI p)] σ K = K (some (.int (bI w))) ρ) ∧ ∀ d K, zC (d + 1) 372 [.ref 120, .int (nI 1), .int (bI w)] ρ K = K (some (.int (bI w))) τ := by
  have h8 := O.p8
  have c := fun d (K : Option Value → MS → Prop) => m_files (d := d) (K := K) L.m O hp
  unfold filL
  have no : ∀ d K, zC (d + 1) 372 [.ref 120, .int (nI 1), .int (bI false)] σ K = K (some (.int (bI false))) σ := fun d K => m_counts (d := d) (K := K) L.m.m (by decide) (L.c 1 (by decide)) false
  cases hl : s.1.pl p with
  | some q => rw [hl] at c; exact ⟨σ, false, ⟨FLm.rf, s, rfl, L, rfl⟩, σ, L.m.m.k, c, no⟩
  | none =>
    cases hf : s.1.fileTo p with
    | none => rw [hl, hf] at c; exact ⟨σ, false, ⟨FLm.rf, s, rfl, L, rfl⟩, σ, L.m.m.k, c, no⟩
    | some f =>
      rw [hl, hf] at c
      have g : FDm σ (setI σ 121 (16 + 2 * p + 1) (nI f.1)) := FDm.rf.at (by omega) (by omega)
      have L2 := L.off g (L.m.put O (c := f.1) hp)
      exact ⟨_, true, ⟨g.l.tr FLm.s2, s.w (s.1.put p f.1) 1, rfl, L2.cnt (i := 1) (by decide), rfl⟩, _, L2.m.m.k, c, fun d K => m_counts (d := d) (K := K) L2.m.m (by decide) (L2.c 1 (by decide)) true⟩
theorem mx_tak (L : RLm σ D s) (O : OfcOk s.1) {p : Nat} (hp : p < s.1.np) : ∃ τ w, MXP σ D s (takL s p) τ w ∧ ∃ ρ, sK ρ 120 = (0, 11) ∧ (∀ d K, zC (d + 4) 301 [.ref 120, .int (nI p)] σ K = K (some (.int (bI w))) ρ) ∧ ∀ d K, zC (d + 1) 372 [.ref 120, .int (nI 2), .int (bI w)] ρ K = K (some (.int (bI w))) τ := by
  have h8 := O.p8
  have c := fun d (K : Option Value → MS → Prop) => m_takes (d := d) (K := K) L.m O hp
  unfold takL
  cases hl : s.1.pl p with
  | none =>
    rw [hl] at c
    have e : setI σ 121 (16 + 2 * p + 1) (-nI 1) = σ := setI_id (by rw [L.m.a17 p hp, hl]; rfl)
    rw [e] at c
    exact ⟨σ, false, ⟨FLm.rf, s, rfl, L, rfl⟩, σ, L.m.m.k, c, fun d K => m_counts (d := d) (K := K) L.m.m (by decide) (L.c 2 (by decide)) false⟩
  | some q =>
    rw [hl] at c
    have g : FDm σ (setI σ 121 (16 + 2 * p + 1) (-nI 1)) := FDm.rf.at (by omega) (by omega)
    have L2 := L.off g (L.m.tak O hp)
    exact ⟨_, true, ⟨g.l.tr FLm.s2, s.w (s.1.tak p) 2, rfl, L2.cnt (i := 2) (by decide), rfl⟩, _, L2.m.m.k, c, fun d K => m_counts (d := d) (K := K) L2.m.m (by decide) (L2.c 2 (by decide)) true⟩
end LM2
