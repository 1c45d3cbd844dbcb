/-! THE MODEL READS DAYS: a step -/
section DM4
variable {d : Nat} {σ τ ρ : MS} {n m : Nat} {A : Ofc} {B : Nat → Nat} {T U : Tk} {S S' : Ps} {q : Nat × Nat × Nat × Nat × Nat} {K : Option Value → MS → Prop}
theorem RDn.cong (X : RDn σ B n T A S) (h1 : S'.1.1 = S.1.1) (h2 : S'.1.2.1 = S.1.2.1) (h3 : S'.1.2.2.2 = S.1.2.2.2) (h4 : S'.2 = S.2) : RDn σ B n T A S' :=
  RDn.mk X.m X.x (X.s7.trans (by rw [h2])) (fun i h => by rw [h3]; exact X.q0 i (by omega)) (fun i h => by rw [h3]; exact X.q1 i (by omega)) (fun i h => by rw [h3]; exact X.q2 i (by omega)) (fun i h => by rw [h3]; exact X.q4 i (by omega)) (fun i h => by rw [h3]; exact X.q5 i (by omega)) (X.dp.trans (by rw [h4])) (X.ct.trans (by rw [h1])) (fun k h => by rw [h4] at h ⊢; exact X.op k h) X.z X.z7
/-- the head of a row -/
def hdS (σ : MS) (m k c : Nat) : MS := setI (setI (setI (setI (setI (setI (setI (setI σ 120 23 (nI c)) 121 (1652 + 6 * m) (nI k)) 121 (1652 + 6 * m + 1) (nI 0)) 121 (1652 + 6 * m + 2) (nI 0)) 121 (1652 + 6 * m + 3) (nI 0)) 121 (1652 + 6 * m + 4) (nI 0)) 121 (1652 + 6 * m + 5) (nI 0)) 121 1623 (nI (m + 1))
theorem RDn.head (X : RDn σ B n T A S) (O : OfcOk A) {k c : Nat} (hm : S.1.2.1 = m) (hm2 : m < 60) : RDn (hdS σ m k c) B n T A (Ps.row ((c, m + 1, S.1.2.2.1, S.1.2.2.2), S.2) m (k, 0, 0, 0, 0)) ∧ FN σ (hdS σ m k c) := by
  have f : FN σ (hdS σ m k c) := (((((((FN.s0 (.inr rfl)).tr (FN.st (by omega))).tr (FN.st (by omega))).tr (FN.st (by omega))).tr (FN.st (by omega))).tr (FN.st (by omega))).tr (FN.st (by omega))).tr (FN.st (by omega))
  have i0 : ∀ j, j ≠ 23 → sI (hdS σ m k c) 120 j = sI σ 120 j := fun j hj => by
    unfold hdS
    rw [sI_setI, if_neg (by omega), sI_setI, if_neg (by omega), sI_setI, if_neg (by omega), sI_setI, if_neg (by omega), sI_setI, if_neg (by omega), sI_setI, if_neg (by omega), sI_setI, if_neg (by omega), sI_setI, if_neg (by omega)]
  have i23 : sI (hdS σ m k c) 120 23 = nI c := by
    unfold hdS
    rw [sI_setI, if_neg (by omega), sI_setI, if_neg (by omega), sI_setI, if_neg (by omega), sI_setI, if_neg (by omega), sI_setI, if_neg (by omega), sI_setI, if_neg (by omega), sI_setI, if_neg (by omega), sI_setI, if_pos ⟨rfl, rfl⟩]
  have s7 : sI (hdS σ m k c) 121 1623 = nI (m + 1) := by unfold hdS; rw [sI_setI, if_pos ⟨rfl, rfl⟩]
  have ro : ∀ j, j ≠ 1623 → (j < 1652 + 6 * m ∨ 1652 + 6 * m + 6 ≤ j) → sI (hdS σ m k c) 121 j = sI σ 121 j := fun j h1 h2 => by
    unfold hdS
    rw [sI_setI, if_neg (by omega), sI_setI, if_neg (by omega), sI_setI, if_neg (by omega), sI_setI, if_neg (by omega), sI_setI, if_neg (by omega), sI_setI, if_neg (by omega), sI_setI, if_neg (by omega), sI_setI, if_neg (by omega)]
  have r0 : sI (hdS σ m k c) 121 (1652 + 6 * m) = nI k := by
    unfold hdS
    rw [sI_setI, if_neg (by omega), sI_setI, if_neg (by omega), sI_setI, if_neg (by omega), sI_setI, if_neg (by omega), sI_setI, if_neg (by omega), sI_setI, if_neg (by omega), sI_setI, if_pos ⟨rfl, rfl⟩]
  have r1 : sI (hdS σ m k c) 121 (1652 + 6 * m + 1) = nI 0 := by
    unfold hdS
    rw [sI_setI, if_neg (by omega), sI_setI, if_neg (by omega), sI_setI, if_neg (by omega), sI_setI, if_neg (by omega), sI_setI, if_neg (by omega), sI_setI, if_pos ⟨rfl, rfl⟩]
  have r2 : sI (hdS σ m k c) 121 (1652 + 6 * m + 2) = nI 0 := by
    unfold hdS
    rw [sI_setI, if_neg (by omega), sI_setI, if_neg (by omega), sI_setI, if_neg (by omega), sI_setI, if_neg (by omega), sI_setI, if_pos ⟨rfl, rfl⟩]
  have r4 : sI (hdS σ m k c) 121 (1652 + 6 * m + 4) = nI 0 := by
    unfold hdS
    rw [sI_setI, if_neg (by omega), sI_setI, if_neg (by omega), sI_setI, if_pos ⟨rfl, rfl⟩]
  have r5 : sI (hdS σ m k c) 121 (1652 + 6 * m + 5) = nI 0 := by
    unfold hdS
    rw [sI_setI, if_neg (by omega), sI_setI, if_pos ⟨rfl, rfl⟩]
  have i128 : ∀ j, sI (hdS σ m k c) 128 j = sI σ 128 j := fun j => by
    unfold hdS
    rw [sI_setI, if_neg (by omega), sI_setI, if_neg (by omega), sI_setI, if_neg (by omega), sI_setI, if_neg (by omega), sI_setI, if_neg (by omega), sI_setI, if_neg (by omega), sI_setI, if_neg (by omega), sI_setI, if_neg (by omega)]
  have i127 : ∀ j, sI (hdS σ m k c) 127 j = sI σ 127 j := fun j => f.1.I (by omega) j
  refine ⟨RDn.mk (X.m.fn O f) (RTn.mk ((i0 _ (by omega)).trans X.x.len) (fun j hj => by rw [i127]; exact X.x.b j hj) ((i0 _ (by omega)).trans X.x.k2) ((i0 _ (by omega)).trans X.x.k3) ((i0 _ (by omega)).trans X.x.k4) (fun h => (i0 _ (by omega)).trans (X.x.vn h)) (fun h => (i0 _ (by omega)).trans (X.x.vs h))) s7 (fun i hi => ?_) (fun i hi => ?_) (fun i hi => ?_) (fun i hi => ?_) (fun i hi => ?_) ((i0 _ (by omega)).trans X.dp) i23 (fun i hi => (i128 _).trans (X.op i hi)) ((i0 _ (by omega)).trans X.z) ((i0 _ (by omega)).trans X.z7), f⟩
  · have hi : i < m + 1 := hi
    show _ = nI (upF S.1.2.2.2 m (k, 0, 0, 0, 0) i).1
    by_cases e : i = m
    · rw [e, upF_s]; exact r0
    · rw [upF_n _ _ e, ro _ (by omega) (by omega)]; exact X.q0 i (by omega)
  · have hi : i < m + 1 := hi
    show _ = nI (upF S.1.2.2.2 m (k, 0, 0, 0, 0) i).2.1
    by_cases e : i = m
    · rw [e, upF_s]; exact r1
    · rw [upF_n _ _ e, ro _ (by omega) (by omega)]; exact X.q1 i (by omega)
  · have hi : i < m + 1 := hi
    show _ = nI (upF S.1.2.2.2 m (k, 0, 0, 0, 0) i).2.2.1
    by_cases e : i = m
    · rw [e, upF_s]; exact r2
    · rw [upF_n _ _ e, ro _ (by omega) (by omega)]; exact X.q2 i (by omega)
  · have hi : i < m + 1 := hi
    show _ = nI (upF S.1.2.2.2 m (k, 0, 0, 0, 0) i).2.2.2.1
    by_cases e : i = m
    · rw [e, upF_s]; exact r4
    · rw [upF_n _ _ e, ro _ (by omega) (by omega)]; exact X.q4 i (by omega)
  · have hi : i < m + 1 := hi
    show _ = nI (upF S.1.2.2.2 m (k, 0, 0, 0, 0) i).2.2.2.2
    by_cases e : i = m
    · rw [e, upF_s]; exact r5
    · rw [upF_n _ _ e, ro _ (by omega) (by omega)]; exact X.q5 i (by omega)
/-- the head is written -/
theorem m_head {p0 : Nat} (M : RMk σ) (hc : sI σ 120 23 = nI p0) (h7 : sI σ 121 1623 = nI m) (hm2 : m < 60) {k o c : Nat} (hp : p0 < 100) (hk : k < 22) (ho : o < 2) (hcc : c = if k = 18 then p0 else p0 + 1) : zX (d + 7) 269 117 [.ref 120, .int (nI k), .int (nI m), .int (nI (1652 + 6 * m)), .int (nI o), .null] [] σ K = zX (d + 7) 269 170 [.ref 120, .int (nI k), .int (nI m), .int (nI (1652 + 6 * m)), .int (nI o), .int (nI 6)] [] (setI (setI (setI (setI (setI (setI (setI σ 120 23 (nI c)) 121 (1652 + 6 * m) (nI k)) 121 (1652 + 6 * m + 1) (nI 0)) 121 (1652 + 6 * m + 2) (nI 0)) 121 (1652 + 6 * m + 3) (nI 0)) 121 (1652 + 6 * m + 4) (nI 0)) 121 (1652 + 6 * m + 5) (nI 0)) K := by
  have b0 : 1652 + 6 * m < 2640 := by omega
  have st : ∀ (i : Nat) (ρ : MS), RMk ρ → 1 ≤ i → i < 6 → zX (d + 7) 269 147 [.ref 120, .int (nI k), .int (nI m), .int (nI (1652 + 6 * m)), .int (nI o), .int (nI i)] [] ρ K = zX (d + 7) 269 147 [.ref 120, .int (nI k), .int (nI m), .int (nI (1652 + 6 * m)), .int (nI o), .int (nI (i + 1))] [] (setI ρ 121 (1652 + 6 * m + i) (nI 0)) K := fun i ρ M h1 h6 => by
    have b1 : 1652 + 6 * m + i < 2640 := by omega
    rw [L_269_147, zt_269_147]
    simp (disch := omega) only [↓e_iconst0, ↓e_iconst1, ↓e_bipush0, ↓e_bipush1, ↓e_sipush0, ↓e_sipush1, ↓e_ldc0, ↓e_ldc1, ↓e_ldc_w0, ↓e_ldc_w1, ↓e_ldc2, ↓e_lconst0, ↓e_lconst1, ↓e_ldc2_w0, ↓e_ldc2_w1, ↓e_iload, ↓e_iload_n, ↓e_istore, ↓e_istore_n, ↓e_lload, ↓e_lload_n, ↓e_lstore, ↓e_lstore_n, ↓e_aload, ↓e_aload_n, ↓e_astore, ↓e_astore_n, ↓e_iinc0, ↓e_iinc1, ↓e_iadd, ↓e_isub, ↓e_imul, ↓e_iand, ↓e_ior, ↓e_ixor, ↓e_ishl, ↓e_ishr, ↓e_iushr, ↓e_ladd, ↓e_lsub, ↓e_lmul, ↓e_land, ↓e_lor, ↓e_idiv, ↓e_irem, ↓e_ldiv, ↓e_lrem, ↓e_lshl, ↓e_lcmp, ↓e_i2l, ↓e_l2i, ↓e_i2b, ↓e_i2s, ↓e_dup_int, ↓e_pop_int, ↓e_dup_ref, ↓e_pop_ref, ↓e_dup2, ↓e_goto, ↓e_nop, ↓e_ifCond_eq, ↓e_if_icmp_eq, ↓e_ifCond_ne, ↓e_if_icmp_ne, ↓e_ifCond_lt, ↓e_if_icmp_lt, ↓e_ifCond_ge, ↓e_if_icmp_ge, ↓e_ifCond_gt, ↓e_if_icmp_gt, ↓e_ifCond_le, ↓e_if_icmp_le, ↓e_tab, ↓e_look, ↓e_get0, ↓e_get1, ↓e_get2, ↓e_get3, ↓e_put0, ↓e_put1, ↓e_put2, ↓e_put3, ↓e_iaload, ↓e_laload, ↓e_baload, ↓e_aaload, ↓e_iastore, ↓e_lastore, ↓e_bastore, ↓e_aastore, ↓e_alen, ↓e_new, ↓e_newarray, ↓e_anewarray, ↓e_objinit, ↓e_virt1, ↓e_virt2, ↓e_virt3, ↓e_virt4, ↓e_virt5, ↓e_virt6, ↓e_virt7, ↓e_stat0, ↓e_stat1, ↓e_stat2, ↓e_stat3, ↓e_stat4, ↓e_stat5, ↓e_stat6, ↓e_stat7, ↓e_spec1, ↓e_spec2, ↓e_spec3, ↓e_spec4, ↓e_spec5, ↓e_strlen, ↓e_charAt, ↓e_copy, ↓e_iret0, ↓e_iret1, ↓e_lret, ↓e_aret, ↓e_vret, zIsI_int, zIsL_long, zIsA_ref, zInt_int, true_and, and_true, ↓reduceIte, zGet, zSet, zSet2, zEnt, zWid, Value.category, List.map_cons, List.map_nil, List.sum_cons, List.sum_nil, List.replicate, Option.toList, Nat.reduceAdd, Nat.reduceSub, Nat.reduceMul, Nat.reduceLeDiff, Nat.reduceEqDiff, Nat.reduceLT, List.cons_append, List.nil_append, true_or, or_true, or_false, false_or, nI_ltI, nI_leI, nI_eq, nI_clamp, zIn_nI, bI_0, nI_add, nI_mul, nI_or, nI_and, nI_shl1, nI_bit, ↓pk_rem, pk_div, Nat.lt_irrefl, Nat.not_lt_zero, reduceCtorEq, M.k, M.r0, M.r1, M.r5, M.r6, M.r7, M.r8, M.r9, M.r21, M.r24, M.r25, M.r28, M.r29, M.r30, M.r31, M.r35, M.r36, M.r37, M.r38, M.r40, M.r43, M.r44, M.r45, M.k121, M.k122, M.k123, M.k124, M.k125, M.k126, M.k127, M.k128, M.k129, M.k130, M.k131, M.k132, M.k133, M.k134, M.k135, M.k136, M.k137, M.k138, M.k139, M.k140, M.k141, M.k142, h6, b1]
  have mk : ∀ (ρ : MS) i v, RMk ρ → RMk (setI ρ 121 i v) := fun ρ i v M => M.ag (Ag.rf.setI (p := fun b => b = 121) rfl)
  have M1 : RMk (setI σ 120 23 (nI c)) := M.ag (Ag.rf.setI (p := fun b => b = 120) rfl)
  have M2 := mk _ (1652 + 6 * m) (nI k) M1
  have M3 := mk _ (1652 + 6 * m + 1) (nI 0) M2
  have M4 := mk _ (1652 + 6 * m + 2) (nI 0) M3
  have M5 := mk _ (1652 + 6 * m + 3) (nI 0) M4
  have M6 := mk _ (1652 + 6 * m + 4) (nI 0) M5
  have e0 : zX (d + 7) 269 117 [.ref 120, .int (nI k), .int (nI m), .int (nI (1652 + 6 * m)), .int (nI o), .null] [] σ K = zX (d + 7) 269 147 [.ref 120, .int (nI k), .int (nI m), .int (nI (1652 + 6 * m)), .int (nI o), .int (nI 1)] [] (setI (setI σ 120 23 (nI c)) 121 (1652 + 6 * m) (nI k)) K := by
    rw [L_269_117, zt_269_117]
    by_cases h18 : k = 18
    · rw [if_pos h18] at hcc
      subst hcc
      simp (disch := omega) only [L_269_132, zt_269_132, L_269_133, zt_269_133, ↓e_iconst0, ↓e_iconst1, ↓e_bipush0, ↓e_bipush1, ↓e_sipush0, ↓e_sipush1, ↓e_ldc0, ↓e_ldc1, ↓e_ldc_w0, ↓e_ldc_w1, ↓e_ldc2, ↓e_lconst0, ↓e_lconst1, ↓e_ldc2_w0, ↓e_ldc2_w1, ↓e_iload, ↓e_iload_n, ↓e_istore, ↓e_istore_n, ↓e_lload, ↓e_lload_n, ↓e_lstore, ↓e_lstore_n, ↓e_aload, ↓e_aload_n, ↓e_astore, ↓e_astore_n, ↓e_iinc0, ↓e_iinc1, ↓e_iadd, ↓e_isub, ↓e_imul, ↓e_iand, ↓e_ior, ↓e_ixor, ↓e_ishl, ↓e_ishr, ↓e_iushr, ↓e_ladd, ↓e_lsub, ↓e_lmul, ↓e_land, ↓e_lor, ↓e_idiv, ↓e_irem, ↓e_ldiv, ↓e_lrem, ↓e_lshl, ↓e_lcmp, ↓e_i2l, ↓e_l2i, ↓e_i2b, ↓e_i2s, ↓e_dup_int, ↓e_pop_int, ↓e_dup_ref, ↓e_pop_ref, ↓e_dup2, ↓e_goto, ↓e_nop, ↓e_ifCond_eq, ↓e_if_icmp_eq, ↓e_ifCond_ne, ↓e_if_icmp_ne, ↓e_ifCond_lt, ↓e_if_icmp_lt, ↓e_ifCond_ge, ↓e_if_icmp_ge, ↓e_ifCond_gt, ↓e_if_icmp_gt, ↓e_ifCond_le, ↓e_if_icmp_le, ↓e_tab, ↓e_look, ↓e_get0, ↓e_get1, ↓e_get2, ↓e_get3, ↓e_put0, ↓e_put1, ↓e_put2, ↓e_put3, ↓e_iaload, ↓e_laload, ↓e_baload, ↓e_aaload, ↓e_iastore, ↓e_lastore, ↓e_bastore, ↓e_aastore, ↓e_alen, ↓e_new, ↓e_newarray, ↓e_anewarray, ↓e_objinit, ↓e_virt1, ↓e_virt2, ↓e_virt3, ↓e_virt4, ↓e_virt5, ↓e_virt6, ↓e_virt7, ↓e_stat0, ↓e_stat1, ↓e_stat2, ↓e_stat3, ↓e_stat4, ↓e_stat5, ↓e_stat6, ↓e_stat7, ↓e_spec1, ↓e_spec2, ↓e_spec3, ↓e_spec4, ↓e_spec5, ↓e_strlen, ↓e_charAt, ↓e_copy, ↓e_iret0, ↓e_iret1, ↓e_lret, ↓e_aret, ↓e_vret, zIsI_int, zIsL_long, zIsA_ref, zInt_int, true_and, and_true, ↓reduceIte, zGet, zSet, zSet2, zEnt, zWid, Value.category, List.map_cons, List.map_nil, List.sum_cons, List.sum_nil, List.replicate, Option.toList, Nat.reduceAdd, Nat.reduceSub, Nat.reduceMul, Nat.reduceLeDiff, Nat.reduceEqDiff, Nat.reduceLT, List.cons_append, List.nil_append, true_or, or_true, or_false, false_or, nI_ltI, nI_leI, nI_eq, nI_clamp, zIn_nI, bI_0, nI_add, nI_mul, nI_or, nI_and, nI_shl1, nI_bit, ↓pk_rem, pk_div, Nat.lt_irrefl, Nat.not_lt_zero, reduceCtorEq, M.k, M.r0, M.r1, M.r5, M.r6, M.r7, M.r8, M.r9, M.r21, M.r24, M.r25, M.r28, M.r29, M.r30, M.r31, M.r35, M.r36, M.r37, M.r38, M.r40, M.r43, M.r44, M.r45, M.k121, M.k122, M.k123, M.k124, M.k125, M.k126, M.k127, M.k128, M.k129, M.k130, M.k131, M.k132, M.k133, M.k134, M.k135, M.k136, M.k137, M.k138, M.k139, M.k140, M.k141, M.k142, M1.k, M1.r0, M1.r1, M1.r5, M1.r6, M1.r7, M1.r8, M1.r9, M1.r21, M1.r24, M1.r25, M1.r28, M1.r29, M1.r30, M1.r31, M1.r35, M1.r36, M1.r37, M1.r38, M1.r40, M1.r43, M1.r44, M1.r45, M1.k121, M1.k122, M1.k123, M1.k124, M1.k125, M1.k126, M1.k127, M1.k128, M1.k129, M1.k130, M1.k131, M1.k132, M1.k133, M1.k134, M1.k135, M1.k136, M1.k137, M1.k138, M1.k139, M1.k140, M1.k141, M1.k142, hc, h18, b0, Nat.add_zero]
    · rw [if_neg h18] at hcc
      subst hcc
      simp (disch := omega) only [L_269_132, zt_269_132, L_269_133, zt_269_133, ↓e_iconst0, ↓e_iconst1, ↓e_bipush0, ↓e_bipush1, ↓e_sipush0, ↓e_sipush1, ↓e_ldc0, ↓e_ldc1, ↓e_ldc_w0, ↓e_ldc_w1, ↓e_ldc2, ↓e_lconst0, ↓e_lconst1, ↓e_ldc2_w0, ↓e_ldc2_w1, ↓e_iload, ↓e_iload_n, ↓e_istore, ↓e_istore_n, ↓e_lload, ↓e_lload_n, ↓e_lstore, ↓e_lstore_n, ↓e_aload, ↓e_aload_n, ↓e_astore, ↓e_astore_n, ↓e_iinc0, ↓e_iinc1, ↓e_iadd, ↓e_isub, ↓e_imul, ↓e_iand, ↓e_ior, ↓e_ixor, ↓e_ishl, ↓e_ishr, ↓e_iushr, ↓e_ladd, ↓e_lsub, ↓e_lmul, ↓e_land, ↓e_lor, ↓e_idiv, ↓e_irem, ↓e_ldiv, ↓e_lrem, ↓e_lshl, ↓e_lcmp, ↓e_i2l, ↓e_l2i, ↓e_i2b, ↓e_i2s, ↓e_dup_int, ↓e_pop_int, ↓e_dup_ref, ↓e_pop_ref, ↓e_dup2, ↓e_goto, ↓e_nop, ↓e_ifCond_eq, ↓e_if_icmp_eq, ↓e_ifCond_ne, ↓e_if_icmp_ne, ↓e_ifCond_lt, ↓e_if_icmp_lt, ↓e_ifCond_ge, ↓e_if_icmp_ge, ↓e_ifCond_gt, ↓e_if_icmp_gt, ↓e_ifCond_le, ↓e_if_icmp_le, ↓e_tab, ↓e_look, ↓e_get0, ↓e_get1, ↓e_get2, ↓e_get3, ↓e_put0, ↓e_put1, ↓e_put2, ↓e_put3, ↓e_iaload, ↓e_laload, ↓e_baload, ↓e_aaload, ↓e_iastore, ↓e_lastore, ↓e_bastore, ↓e_aastore, ↓e_alen, ↓e_new, ↓e_newarray, ↓e_anewarray, ↓e_objinit, ↓e_virt1, ↓e_virt2, ↓e_virt3, ↓e_virt4, ↓e_virt5, ↓e_virt6, ↓e_virt7, ↓e_stat0, ↓e_stat1, ↓e_stat2, ↓e_stat3, ↓e_stat4, ↓e_stat5, ↓e_stat6, ↓e_stat7, ↓e_spec1, ↓e_spec2, ↓e_spec3, ↓e_spec4, ↓e_spec5, ↓e_strlen, ↓e_charAt, ↓e_copy, ↓e_iret0, ↓e_iret1, ↓e_lret, ↓e_aret, ↓e_vret, zIsI_int, zIsL_long, zIsA_ref, zInt_int, true_and, and_true, ↓reduceIte, zGet, zSet, zSet2, zEnt, zWid, Value.category, List.map_cons, List.map_nil, List.sum_cons, List.sum_nil, List.replicate, Option.toList, Nat.reduceAdd, Nat.reduceSub, Nat.reduceMul, Nat.reduceLeDiff, Nat.reduceEqDiff, Nat.reduceLT, List.cons_append, List.nil_append, true_or, or_true, or_false, false_or, nI_ltI, nI_leI, nI_eq, nI_clamp, zIn_nI, bI_0, nI_add, nI_mul, nI_or, nI_and, nI_shl1, nI_bit, ↓pk_rem, pk_div, Nat.lt_irrefl, Nat.not_lt_zero, reduceCtorEq, M.k, M.r0, M.r1, M.r5, M.r6, M.r7, M.r8, M.r9, M.r21, M.r24, M.r25, M.r28, M.r29, M.r30, M.r31, M.r35, M.r36, M.r37, M.r38, M.r40, M.r43, M.r44, M.r45, M.k121, M.k122, M.k123, M.k124, M.k125, M.k126, M.k127, M.k128, M.k129, M.k130, M.k131, M.k132, M.k133, M.k134, M.k135, M.k136, M.k137, M.k138, M.k139, M.k140, M.k141, M.k142, M1.k, M1.r0, M1.r1, M1.r5, M1.r6, M1.r7, M1.r8, M1.r9, M1.r21, M1.r24, M1.r25, M1.r28, M1.r29, M1.r30, M1.r31, M1.r35, M1.r36, M1.r37, M1.r38, M1.r40, M1.r43, M1.r44, M1.r45, M1.k121, M1.k122, M1.k123, M1.k124, M1.k125, M1.k126, M1.k127, M1.k128, M1.k129, M1.k130, M1.k131, M1.k132, M1.k133, M1.k134, M1.k135, M1.k136, M1.k137, M1.k138, M1.k139, M1.k140, M1.k141, M1.k142, hc, h18, b0]
  rw [e0, st 1 _ M2 (by decide) (by decide), st 2 _ M3 (by decide) (by decide), st 3 _ M4 (by decide) (by decide), st 4 _ M5 (by decide) (by decide), st 5 _ M6 (by decide) (by decide), L_269_147, zt_269_147]
  simp (disch := omega) only [↓e_iconst0, ↓e_iconst1, ↓e_bipush0, ↓e_bipush1, ↓e_sipush0, ↓e_sipush1, ↓e_ldc0, ↓e_ldc1, ↓e_ldc_w0, ↓e_ldc_w1, ↓e_ldc2, ↓e_lconst0, ↓e_lconst1, ↓e_ldc2_w0, ↓e_ldc2_w1, ↓e_iload, ↓e_iload_n, ↓e_istore, ↓e_istore_n, ↓e_lload, ↓e_lload_n, ↓e_lstore, ↓e_lstore_n, ↓e_aload, ↓e_aload_n, ↓e_astore, ↓e_astore_n, ↓e_iinc0, ↓e_iinc1, ↓e_iadd, ↓e_isub, ↓e_imul, ↓e_iand, ↓e_ior, ↓e_ixor, ↓e_ishl, ↓e_ishr, ↓e_iushr, ↓e_ladd, ↓e_lsub, ↓e_lmul, ↓e_land, ↓e_lor, ↓e_idiv, ↓e_irem, ↓e_ldiv, ↓e_lrem, ↓e_lshl, ↓e_lcmp, ↓e_i2l, ↓e_l2i, ↓e_i2b, ↓e_i2s, ↓e_dup_int, ↓e_pop_int, ↓e_dup_ref, ↓e_pop_ref, ↓e_dup2, ↓e_goto, ↓e_nop, ↓e_ifCond_eq, ↓e_if_icmp_eq, ↓e_ifCond_ne, ↓e_if_icmp_ne, ↓e_ifCond_lt, ↓e_if_icmp_lt, ↓e_ifCond_ge, ↓e_if_icmp_ge, ↓e_ifCond_gt, ↓e_if_icmp_gt, ↓e_ifCond_le, ↓e_if_icmp_le, ↓e_tab, ↓e_look, ↓e_get0, ↓e_get1, ↓e_get2, ↓e_get3, ↓e_put0, ↓e_put1, ↓e_put2, ↓e_put3, ↓e_iaload, ↓e_laload, ↓e_baload, ↓e_aaload, ↓e_iastore, ↓e_lastore, ↓e_bastore, ↓e_aastore, ↓e_alen, ↓e_new, ↓e_newarray, ↓e_anewarray, ↓e_objinit, ↓e_virt1, ↓e_virt2, ↓e_virt3, ↓e_virt4, ↓e_virt5, ↓e_virt6, ↓e_virt7, ↓e_stat0, ↓e_stat1, ↓e_stat2, ↓e_stat3, ↓e_stat4, ↓e_stat5, ↓e_stat6, ↓e_stat7, ↓e_spec1, ↓e_spec2, ↓e_spec3, ↓e_spec4, ↓e_spec5, ↓e_strlen, ↓e_charAt, ↓e_copy, ↓e_iret0, ↓e_iret1, ↓e_lret, ↓e_aret, ↓e_vret, zIsI_int, zIsL_long, zIsA_ref, zInt_int, true_and, and_true, ↓reduceIte, zGet, zSet, zSet2, zEnt, zWid, Value.category, List.map_cons, List.map_nil, List.sum_cons, List.sum_nil, List.replicate, Option.toList, Nat.reduceAdd, Nat.reduceSub, Nat.reduceMul, Nat.reduceLeDiff, Nat.reduceEqDiff, Nat.reduceLT, List.cons_append, List.nil_append, true_or, or_true, or_false, false_or, nI_ltI, nI_leI, nI_eq, nI_clamp, zIn_nI, bI_0, nI_add, nI_mul, nI_or, nI_and, nI_shl1, nI_bit, ↓pk_rem, pk_div, Nat.lt_irrefl, Nat.not_lt_zero, reduceCtorEq]
end DM4
