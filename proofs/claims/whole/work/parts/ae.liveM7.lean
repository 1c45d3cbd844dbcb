/-! THE MODEL LIVES: lives, live, lived -/
section LM7
variable {d : Nat} {σ τ ρ : MS} {D : Dy} {A : Ofc} {P : Pg 4} {seed : Nat} {K : Option Value → MS → Prop}
theorem kM_18 {x : Op} {np nc cl : Nat} (V : OpV np nc cl x) : kM x.1 ≠ 18 ∧ kM x.1 < 2 ^ 31 := by
  rcases V with ⟨h1 | h1 | h1, _⟩ | ⟨h1, _⟩ | ⟨h1, _⟩ | ⟨h1, _⟩ | ⟨h1, _⟩ | ⟨h1, _⟩ | ⟨h1 | h1 | h1, _⟩ <;> rw [h1] <;> decide
theorem row0 {α : Type} {g : α → Nat → Nat → Nat → Nat → Prop} {np nc cl : Nat} (l : List (Op × Option α)) {i j r t : Nat} (h : layL g (OpV np nc cl) D l i j r t) (hr : r < t) : (D.2.2.2 r).1 ≠ 18 ∧ (D.2.2.2 r).1 < 2 ^ 31 := by
  cases l with
  | nil => have := h.2; omega
  | cons y l =>
    obtain ⟨e, q, h1, -⟩ := h
    obtain ⟨o, b⟩ := y
    obtain ⟨v1, v2, v3⟩ := h1
    have k := kM_18 v1
    cases b with
    | none => rw [v3.1]; exact k
    | some I => obtain ⟨p, w1, -⟩ := v3; rw [w1]; exact k
theorem Beh.fn {k a b : Nat} {s1 s2 : MS} (h1 : Beh σ k a s1) (h2 : Beh σ k b s2) : nI b = nI a ∧ s2 = s1 := by
  have e := (h1 0 0 none (fun v ρ => v = some (.int (nI a)) ∧ ρ = s1)).symm.trans (h2 0 0 none (fun v ρ => v = some (.int (nI a)) ∧ ρ = s1))
  have := e.mp ⟨rfl, rfl⟩
  obtain ⟨e1, e2⟩ := this
  cases e2
  refine ⟨?_, rfl⟩
  injection e1 with e1
  injection e1
theorem m_lives (M : RMod σ A) (O : OfcOk A) (W : RDm σ 0 D) (Q : DOk A D P) (hs : seed < 65536) : ∃ τ, FLm 0 100 σ τ ∧ RLm τ D (lv P A seed) ∧ ∀ K, zC (d + 9) 378 [.ref 120, .int (nI seed)] σ K = K none τ := by
  have hD := Q.2.1
  have g1 : FLm 0 0 σ (setI (setI σ 120 41 (nI seed)) 120 42 (nI 0)) := (FLm.s1 (.inl rfl)).tr (FLm.s1 (.inr rfl))
  have a1 : Ag (fun b => b = 120) σ (setI (setI σ 120 41 (nI seed)) 120 42 (nI 0)) := (Ag.rf.setI (p := fun b => b = 120) rfl).setI rfl
  have M1 := M.m.ag a1
  have e41 : sI (setI (setI σ 120 41 (nI seed)) 120 42 (nI 0)) 120 41 = nI seed := by rw [sI_setI, if_neg (by omega), sI_setI, if_pos ⟨rfl, rfl⟩]
  have e42 : sI (setI (setI σ 120 41 (nI seed)) 120 42 (nI 0)) 120 42 = nI 0 := by rw [sI_setI, if_pos ⟨rfl, rfl⟩]
  have MA : RMod (setI (setI σ 120 41 (nI seed)) 120 42 (nI 0)) A := M.ag a1 (by omega) (by omega)
  have WA : RDm (setI (setI σ 120 41 (nI seed)) 120 42 (nI 0)) 0 D := W.keep (fun j _ => a1.I (by omega) j)
  have en : ∀ K, zC (d + 9) 378 [.ref 120, .int (nI seed)] σ K = zX (d + 8) 378 12 [.ref 120, .int (nI seed), .int (nI 0), .null] [] (setI (setI σ 120 41 (nI seed)) 120 42 (nI 0)) K := fun K => by
    rw [E_378]
    simp (disch := omega) only [L_378_0, zt_378_0, ↓e_iconst0, ↓e_iconst1, ↓e_bipush0, ↓e_bipush1, ↓e_sipush0, ↓e_sipush1, ↓e_ldc0, ↓e_ldc1, ↓e_ldc_w0, ↓e_ldc_w1, ↓e_ldc2, ↓e_lconst0, ↓e_lconst1, ↓e_ldc2_w0, ↓e_ldc2_w1, ↓e_iload, ↓e_iload_n, ↓e_istore, ↓e_istore_n, ↓e_lload, ↓e_lload_n, ↓e_lstore, ↓e_lstore_n, ↓e_aload, ↓e_aload_n, ↓e_astore, ↓e_astore_n, ↓e_iinc0, ↓e_iinc1, ↓e_iadd, ↓e_isub, ↓e_imul, ↓e_iand, ↓e_ior, ↓e_ixor, ↓e_ishl, ↓e_ishr, ↓e_iushr, ↓e_ladd, ↓e_lsub, ↓e_lmul, ↓e_land, ↓e_lor, ↓e_idiv, ↓e_irem, ↓e_ldiv, ↓e_lrem, ↓e_lshl, ↓e_lcmp, ↓e_i2l, ↓e_l2i, ↓e_i2b, ↓e_i2s, ↓e_dup_int, ↓e_pop_int, ↓e_dup_ref, ↓e_pop_ref, ↓e_dup2, ↓e_goto, ↓e_nop, ↓e_ifCond_eq, ↓e_if_icmp_eq, ↓e_ifCond_ne, ↓e_if_icmp_ne, ↓e_ifCond_lt, ↓e_if_icmp_lt, ↓e_ifCond_ge, ↓e_if_icmp_ge, ↓e_ifCond_gt, ↓e_if_icmp_gt, ↓e_ifCond_le, ↓e_if_icmp_le, ↓e_tab, ↓e_look, ↓e_get0, ↓e_get1, ↓e_get2, ↓e_get3, ↓e_put0, ↓e_put1, ↓e_put2, ↓e_put3, ↓e_iaload, ↓e_laload, ↓e_baload, ↓e_aaload, ↓e_iastore, ↓e_lastore, ↓e_bastore, ↓e_aastore, ↓e_alen, ↓e_new, ↓e_newarray, ↓e_anewarray, ↓e_objinit, ↓e_virt1, ↓e_virt2, ↓e_virt3, ↓e_virt4, ↓e_virt5, ↓e_virt6, ↓e_virt7, ↓e_stat0, ↓e_stat1, ↓e_stat2, ↓e_stat3, ↓e_stat4, ↓e_stat5, ↓e_stat6, ↓e_stat7, ↓e_spec1, ↓e_spec2, ↓e_spec3, ↓e_spec4, ↓e_spec5, ↓e_strlen, ↓e_charAt, ↓e_copy, ↓e_iret0, ↓e_iret1, ↓e_lret, ↓e_aret, ↓e_vret, zIsI_int, zIsL_long, zIsA_ref, zInt_int, true_and, and_true, ↓reduceIte, zGet, zSet, zSet2, zEnt, zWid, Value.category, List.map_cons, List.map_nil, List.sum_cons, List.sum_nil, List.replicate, Option.toList, Nat.reduceAdd, Nat.reduceSub, Nat.reduceMul, Nat.reduceLeDiff, Nat.reduceEqDiff, Nat.reduceLT, List.cons_append, List.nil_append, true_or, or_true, or_false, false_or, M.m.k, M.m.r0, M.m.r1, M.m.r5, M.m.r6, M.m.r7, M.m.r8, M.m.r9, M.m.r21, M.m.r24, M.m.r25, M.m.r28, M.m.r29, M.m.r30, M.m.r31, M.m.r35, M.m.r36, M.m.r37, M.m.r38, M.m.r40, M.m.r43, M.m.r44, M.m.r45, M.m.k121, M.m.k122, M.m.k123, M.m.k124, M.m.k125, M.m.k126, M.m.k127, M.m.k128, M.m.k129, M.m.k130, M.m.k131, M.m.k132, M.m.k133, M.m.k134, M.m.k135, M.m.k136, M.m.k137, M.m.k138, M.m.k139, M.m.k140, M.m.k141, M.m.k142, M.a0, M.a1, M.a2, M.a3, M.a4, M.a5, M.a6, nI_ltI, nI_leI, nI_eq, nI_clamp, zIn_nI, bI_0, nI_add, nI_mul, nI_or, nI_and, nI_shl1, nI_bit, ↓pk_rem, pk_div, Nat.lt_irrefl, Nat.not_lt_zero, reduceCtorEq, sK_setI, sR_setI, sL_setI]
  generalize setI (setI σ 120 41 (nI seed)) 120 42 (nI 0) = σ1 at g1 M1 e41 e42 MA WA en
  obtain ⟨τ, ⟨f1, f2, f3⟩, e1⟩ := zloop (fun (k : Nat) (τ : MS) => FLm 0 0 σ1 τ ∧ Ag (fun b => b = 141) σ1 τ ∧ ∀ i, i < k → sI τ 141 i = nI 0) (P := fun k τ K => zX (d + 8) 378 12 [.ref 120, .int (nI seed), .int (nI k), .null] [] τ K) (n := 5) (fun k τ hk f => by
    obtain ⟨f1, f2, f3⟩ := f
    have M := M1.ag f2
    refine ⟨setI τ 141 k (nI 0), ⟨f1.tr FLm.s2, f2.setI rfl, fun i hi => ?_⟩, ?_⟩
    · rw [sI_setI]
      by_cases h : i = k
      · rw [if_pos ⟨rfl, h⟩]
      · rw [if_neg (by omega)]; exact f3 i (by omega)
    · funext K
      rw [L_378_12, zt_378_12]
      simp (disch := omega) only [↓e_iconst0, ↓e_iconst1, ↓e_bipush0, ↓e_bipush1, ↓e_sipush0, ↓e_sipush1, ↓e_ldc0, ↓e_ldc1, ↓e_ldc_w0, ↓e_ldc_w1, ↓e_ldc2, ↓e_lconst0, ↓e_lconst1, ↓e_ldc2_w0, ↓e_ldc2_w1, ↓e_iload, ↓e_iload_n, ↓e_istore, ↓e_istore_n, ↓e_lload, ↓e_lload_n, ↓e_lstore, ↓e_lstore_n, ↓e_aload, ↓e_aload_n, ↓e_astore, ↓e_astore_n, ↓e_iinc0, ↓e_iinc1, ↓e_iadd, ↓e_isub, ↓e_imul, ↓e_iand, ↓e_ior, ↓e_ixor, ↓e_ishl, ↓e_ishr, ↓e_iushr, ↓e_ladd, ↓e_lsub, ↓e_lmul, ↓e_land, ↓e_lor, ↓e_idiv, ↓e_irem, ↓e_ldiv, ↓e_lrem, ↓e_lshl, ↓e_lcmp, ↓e_i2l, ↓e_l2i, ↓e_i2b, ↓e_i2s, ↓e_dup_int, ↓e_pop_int, ↓e_dup_ref, ↓e_pop_ref, ↓e_dup2, ↓e_goto, ↓e_nop, ↓e_ifCond_eq, ↓e_if_icmp_eq, ↓e_ifCond_ne, ↓e_if_icmp_ne, ↓e_ifCond_lt, ↓e_if_icmp_lt, ↓e_ifCond_ge, ↓e_if_icmp_ge, ↓e_ifCond_gt, ↓e_if_icmp_gt, ↓e_ifCond_le, ↓e_if_icmp_le, ↓e_tab, ↓e_look, ↓e_get0, ↓e_get1, ↓e_get2, ↓e_get3, ↓e_put0, ↓e_put1, ↓e_put2, ↓e_put3, ↓e_iaload, ↓e_laload, ↓e_baload, ↓e_aaload, ↓e_iastore, ↓e_lastore, ↓e_bastore, ↓e_aastore, ↓e_alen, ↓e_new, ↓e_newarray, ↓e_anewarray, ↓e_objinit, ↓e_virt1, ↓e_virt2, ↓e_virt3, ↓e_virt4, ↓e_virt5, ↓e_virt6, ↓e_virt7, ↓e_stat0, ↓e_stat1, ↓e_stat2, ↓e_stat3, ↓e_stat4, ↓e_stat5, ↓e_stat6, ↓e_stat7, ↓e_spec1, ↓e_spec2, ↓e_spec3, ↓e_spec4, ↓e_spec5, ↓e_strlen, ↓e_charAt, ↓e_copy, ↓e_iret0, ↓e_iret1, ↓e_lret, ↓e_aret, ↓e_vret, zIsI_int, zIsL_long, zIsA_ref, zInt_int, true_and, and_true, ↓reduceIte, zGet, zSet, zSet2, zEnt, zWid, Value.category, List.map_cons, List.map_nil, List.sum_cons, List.sum_nil, List.replicate, Option.toList, Nat.reduceAdd, Nat.reduceSub, Nat.reduceMul, Nat.reduceLeDiff, Nat.reduceEqDiff, Nat.reduceLT, List.cons_append, List.nil_append, true_or, or_true, or_false, false_or, M.k, M.r0, M.r1, M.r5, M.r6, M.r7, M.r8, M.r9, M.r21, M.r24, M.r25, M.r28, M.r29, M.r30, M.r31, M.r35, M.r36, M.r37, M.r38, M.r40, M.r43, M.r44, M.r45, M.k121, M.k122, M.k123, M.k124, M.k125, M.k126, M.k127, M.k128, M.k129, M.k130, M.k131, M.k132, M.k133, M.k134, M.k135, M.k136, M.k137, M.k138, M.k139, M.k140, M.k141, M.k142, nI_ltI, nI_leI, nI_eq, nI_clamp, zIn_nI, bI_0, nI_add, nI_mul, nI_or, nI_and, nI_shl1, nI_bit, ↓pk_rem, pk_div, Nat.lt_irrefl, Nat.not_lt_zero, reduceCtorEq, hk]) σ1 ⟨FLm.rf, Ag.rf, fun i hi => absurd hi (Nat.not_lt_zero i)⟩
  have L0 : RLm τ D (A, 0, fun _ => 0, false, false, seed) := RLm.mk (MA.ag f2 (by omega) (by omega)) ((f2.I (by omega) _).trans e41) ((f2.I (by omega) _).trans e42) (fun i hi => f3 i (by omega)) (f3 4 (by omega)) (WA.keep (fun j _ => f2.I (by omega) j))
  obtain ⟨ρ, g2, L2, c⟩ := sim_run (d := d) (np := A.np) (nc := A.nc) (wi := A.wide) (hi := A.high) hD 4 P 0 D.1 0 D.2.1 Q.2.2 (Nat.le_refl _) τ _ L0 ⟨O, rfl, rfl, rfl, rfl, Nat.zero_le _, hs⟩ rfl
  refine ⟨ρ, ((g1.tr f1).e).tr (g2.mono (Nat.le_refl _) (by omega)), L2, fun K => ?_⟩
  have G := c (nI seed) K (K none ρ) (fun _ => rfl) (fun _ => Go.of L2 hD (.inl (Nat.le_refl _)) (by omega) (fun x => by
    have M := L2.m
    have s7 := L2.w.s7
    rw [Nat.mul_zero, Nat.zero_add] at s7
    rw [L_378_32, zt_378_32]
    cases x <;> simp (disch := omega) only [L_378_184, zt_378_184, ↓e_iconst0, ↓e_iconst1, ↓e_bipush0, ↓e_bipush1, ↓e_sipush0, ↓e_sipush1, ↓e_ldc0, ↓e_ldc1, ↓e_ldc_w0, ↓e_ldc_w1, ↓e_ldc2, ↓e_lconst0, ↓e_lconst1, ↓e_ldc2_w0, ↓e_ldc2_w1, ↓e_iload, ↓e_iload_n, ↓e_istore, ↓e_istore_n, ↓e_lload, ↓e_lload_n, ↓e_lstore, ↓e_lstore_n, ↓e_aload, ↓e_aload_n, ↓e_astore, ↓e_astore_n, ↓e_iinc0, ↓e_iinc1, ↓e_iadd, ↓e_isub, ↓e_imul, ↓e_iand, ↓e_ior, ↓e_ixor, ↓e_ishl, ↓e_ishr, ↓e_iushr, ↓e_ladd, ↓e_lsub, ↓e_lmul, ↓e_land, ↓e_lor, ↓e_idiv, ↓e_irem, ↓e_ldiv, ↓e_lrem, ↓e_lshl, ↓e_lcmp, ↓e_i2l, ↓e_l2i, ↓e_i2b, ↓e_i2s, ↓e_dup_int, ↓e_pop_int, ↓e_dup_ref, ↓e_pop_ref, ↓e_dup2, ↓e_goto, ↓e_nop, ↓e_ifCond_eq, ↓e_if_icmp_eq, ↓e_ifCond_ne, ↓e_if_icmp_ne, ↓e_ifCond_lt, ↓e_if_icmp_lt, ↓e_ifCond_ge, ↓e_if_icmp_ge, ↓e_ifCond_gt, ↓e_if_icmp_gt, ↓e_ifCond_le, ↓e_if_icmp_le, ↓e_tab, ↓e_look, ↓e_get0, ↓e_get1, ↓e_get2, ↓e_get3, ↓e_put0, ↓e_put1, ↓e_put2, ↓e_put3, ↓e_iaload, ↓e_laload, ↓e_baload, ↓e_aaload, ↓e_iastore, ↓e_lastore, ↓e_bastore, ↓e_aastore, ↓e_alen, ↓e_new, ↓e_newarray, ↓e_anewarray, ↓e_objinit, ↓e_virt1, ↓e_virt2, ↓e_virt3, ↓e_virt4, ↓e_virt5, ↓e_virt6, ↓e_virt7, ↓e_stat0, ↓e_stat1, ↓e_stat2, ↓e_stat3, ↓e_stat4, ↓e_stat5, ↓e_stat6, ↓e_stat7, ↓e_spec1, ↓e_spec2, ↓e_spec3, ↓e_spec4, ↓e_spec5, ↓e_strlen, ↓e_charAt, ↓e_copy, ↓e_iret0, ↓e_iret1, ↓e_lret, ↓e_aret, ↓e_vret, zIsI_int, zIsL_long, zIsA_ref, zInt_int, true_and, and_true, ↓reduceIte, zGet, zSet, zSet2, zEnt, zWid, Value.category, List.map_cons, List.map_nil, List.sum_cons, List.sum_nil, List.replicate, Option.toList, Nat.reduceAdd, Nat.reduceSub, Nat.reduceMul, Nat.reduceLeDiff, Nat.reduceEqDiff, Nat.reduceLT, List.cons_append, List.nil_append, true_or, or_true, or_false, false_or, M.m.k, M.m.r0, M.m.r1, M.m.r5, M.m.r6, M.m.r7, M.m.r8, M.m.r9, M.m.r21, M.m.r24, M.m.r25, M.m.r28, M.m.r29, M.m.r30, M.m.r31, M.m.r35, M.m.r36, M.m.r37, M.m.r38, M.m.r40, M.m.r43, M.m.r44, M.m.r45, M.m.k121, M.m.k122, M.m.k123, M.m.k124, M.m.k125, M.m.k126, M.m.k127, M.m.k128, M.m.k129, M.m.k130, M.m.k131, M.m.k132, M.m.k133, M.m.k134, M.m.k135, M.m.k136, M.m.k137, M.m.k138, M.m.k139, M.m.k140, M.m.k141, M.m.k142, M.a0, M.a1, M.a2, M.a3, M.a4, M.a5, M.a6, nI_ltI, nI_leI, nI_eq, nI_clamp, zIn_nI, bI_0, nI_add, nI_mul, nI_or, nI_and, nI_shl1, nI_bit, ↓pk_rem, pk_div, Nat.lt_irrefl, Nat.not_lt_zero, reduceCtorEq, s7]))
  have B0 : Beh τ 0 0 τ := Beh.nil L0.m L0.w hD (by
    by_cases h : D.2.1 = 0
    · exact .inl (by omega)
    · exact .inr ⟨by omega, row0 (g := Lay (OpV A.np A.nc (A.wide * A.high)) D 3) P Q.2.2 (by omega)⟩) (by omega)
  obtain ⟨k2, σ2, B, H⟩ := G
  obtain ⟨b1, b2⟩ := B0.fn B
  rw [b2] at H
  have H := H none
  dsimp only at H
  rw [en]
  refine Eq.trans (congrFun e1 K) ?_
  have M := L0.m
  have e30 : zX (d + 8) 378 12 [.ref 120, .int (nI seed), .int (nI 5), .null] [] τ K = zX (d + 8) 378 32 [.ref 120, .int (nI seed), .int (nI 0), .null] [] τ K := by
    rw [L_378_12, zt_378_12]
    simp (disch := omega) only [L_378_30, zt_378_30, ↓e_iconst0, ↓e_iconst1, ↓e_bipush0, ↓e_bipush1, ↓e_sipush0, ↓e_sipush1, ↓e_ldc0, ↓e_ldc1, ↓e_ldc_w0, ↓e_ldc_w1, ↓e_ldc2, ↓e_lconst0, ↓e_lconst1, ↓e_ldc2_w0, ↓e_ldc2_w1, ↓e_iload, ↓e_iload_n, ↓e_istore, ↓e_istore_n, ↓e_lload, ↓e_lload_n, ↓e_lstore, ↓e_lstore_n, ↓e_aload, ↓e_aload_n, ↓e_astore, ↓e_astore_n, ↓e_iinc0, ↓e_iinc1, ↓e_iadd, ↓e_isub, ↓e_imul, ↓e_iand, ↓e_ior, ↓e_ixor, ↓e_ishl, ↓e_ishr, ↓e_iushr, ↓e_ladd, ↓e_lsub, ↓e_lmul, ↓e_land, ↓e_lor, ↓e_idiv, ↓e_irem, ↓e_ldiv, ↓e_lrem, ↓e_lshl, ↓e_lcmp, ↓e_i2l, ↓e_l2i, ↓e_i2b, ↓e_i2s, ↓e_dup_int, ↓e_pop_int, ↓e_dup_ref, ↓e_pop_ref, ↓e_dup2, ↓e_goto, ↓e_nop, ↓e_ifCond_eq, ↓e_if_icmp_eq, ↓e_ifCond_ne, ↓e_if_icmp_ne, ↓e_ifCond_lt, ↓e_if_icmp_lt, ↓e_ifCond_ge, ↓e_if_icmp_ge, ↓e_ifCond_gt, ↓e_if_icmp_gt, ↓e_ifCond_le, ↓e_if_icmp_le, ↓e_tab, ↓e_look, ↓e_get0, ↓e_get1, ↓e_get2, ↓e_get3, ↓e_put0, ↓e_put1, ↓e_put2, ↓e_put3, ↓e_iaload, ↓e_laload, ↓e_baload, ↓e_aaload, ↓e_iastore, ↓e_lastore, ↓e_bastore, ↓e_aastore, ↓e_alen, ↓e_new, ↓e_newarray, ↓e_anewarray, ↓e_objinit, ↓e_virt1, ↓e_virt2, ↓e_virt3, ↓e_virt4, ↓e_virt5, ↓e_virt6, ↓e_virt7, ↓e_stat0, ↓e_stat1, ↓e_stat2, ↓e_stat3, ↓e_stat4, ↓e_stat5, ↓e_stat6, ↓e_stat7, ↓e_spec1, ↓e_spec2, ↓e_spec3, ↓e_spec4, ↓e_spec5, ↓e_strlen, ↓e_charAt, ↓e_copy, ↓e_iret0, ↓e_iret1, ↓e_lret, ↓e_aret, ↓e_vret, zIsI_int, zIsL_long, zIsA_ref, zInt_int, true_and, and_true, ↓reduceIte, zGet, zSet, zSet2, zEnt, zWid, Value.category, List.map_cons, List.map_nil, List.sum_cons, List.sum_nil, List.replicate, Option.toList, Nat.reduceAdd, Nat.reduceSub, Nat.reduceMul, Nat.reduceLeDiff, Nat.reduceEqDiff, Nat.reduceLT, List.cons_append, List.nil_append, true_or, or_true, or_false, false_or, M.m.k, M.m.r0, M.m.r1, M.m.r5, M.m.r6, M.m.r7, M.m.r8, M.m.r9, M.m.r21, M.m.r24, M.m.r25, M.m.r28, M.m.r29, M.m.r30, M.m.r31, M.m.r35, M.m.r36, M.m.r37, M.m.r38, M.m.r40, M.m.r43, M.m.r44, M.m.r45, M.m.k121, M.m.k122, M.m.k123, M.m.k124, M.m.k125, M.m.k126, M.m.k127, M.m.k128, M.m.k129, M.m.k130, M.m.k131, M.m.k132, M.m.k133, M.m.k134, M.m.k135, M.m.k136, M.m.k137, M.m.k138, M.m.k139, M.m.k140, M.m.k141, M.m.k142, M.a0, M.a1, M.a2, M.a3, M.a4, M.a5, M.a6, nI_ltI, nI_leI, nI_eq, nI_clamp, zIn_nI, bI_0, nI_add, nI_mul, nI_or, nI_and, nI_shl1, nI_bit, ↓pk_rem, pk_div, Nat.lt_irrefl, Nat.not_lt_zero, reduceCtorEq]
  rw [e30, show nI 0 = nI k2 from b1.symm]
  exact H
end LM7
