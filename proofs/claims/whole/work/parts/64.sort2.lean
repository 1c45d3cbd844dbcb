section SRT2
variable {d : Nat} {σ τ : MS} {a : Nat} {A : Ofc} {K : Option Value → MS → Prop}
def Ofc.mvk (A : Ofc) (k : Nat) : Nat := sm k (fun i => om (nth A.lie A.np i) fun q => if A.pl q = A.srF q then 0 else 1)
theorem mvk_N : A.mvk A.N = A.mv := nth_sum (fun q => if A.pl q = A.srF q then 0 else 1) A.np
theorem m_sorting (M : RMod σ A) (O : OfcOk A) :
   ∃ τ, MF σ τ ∧ RMod τ A.srt ∧ ∀ K, zC (d + 5) 306 [.ref 120] σ K = K (some (.int (nI A.mv))) τ := by
  have h8 := O.p8
  have h20 := cells20 O
  have hN := N8 O
  have M0 := M
  obtain ⟨τ0, ag0, rd, e0⟩ := m_laysLying (d := d) M O
  have f0 : MF σ τ0 := ⟨ag0.mono (fun b hb => by omega), fun j _ => ag0.I (by decide) j, fun j => ag0.L (by decide) j, fun j _ _ => ag0.I (by decide) j⟩
  have M1 : RMod τ0 A := M.ag ag0 (by decide) (by decide)
  have mv8 : ∀ k, k ≤ 8 → A.mvk k ≤ 8 := fun k hk => by
    have : A.mvk k ≤ 0 + 1 * k := zfor_le (fun i x _ => by
      dsimp only
      cases nth A.lie A.np i with
      | none => exact Nat.le_add_right _ _
      | some q =>
        rw [om_some]
        refine Nat.add_le_add_left ?_ _
        split <;> omega)
    omega
  obtain ⟨g, ⟨i1, i2⟩, e1⟩ := zloop (fun k (g : Nat → Int32) => (∀ q, q < A.np → g (16 + 2 * q + 1) = oI (if A.lie q = true ∧ ct A.lie q < k then A.srF q else A.pl q)) ∧ (∀ j, (∀ q, q < A.np → j ≠ 16 + 2 * q + 1) → g j = sI τ0 121 j)) (P := fun k g K => zX (d + 4) 306 9 [.ref 120, .int (nI A.N), .int (nI (A.mvk k)), .int (nI k)] [] (upA τ0 121 g) K) (n := A.N) (fun k g hk hg => by
    obtain ⟨p, hp⟩ := nth_ex (P := A.lie) (n := A.np) hk
    obtain ⟨p1, p2, p3⟩ := nth_is hp
    obtain ⟨c, hc⟩ := srF_ex O p2
    have hc2 : nth A.occ (A.wide * A.high) k = some c := by
      unfold Ofc.srF at hc
      rw [if_pos p2, p3] at hc
      exact hc
    have c1 := occ_c O ((srF_iff O).mp hc).2.1
    have hk8 : k < 8 := by omega
    obtain ⟨r1, r2⟩ := rd k hk
    have r1 : sI (upA τ0 121 g) 129 k = nI c := by rw [sI_upA, if_neg (by decide), r1, hc2]; rfl
    have r2 : sI (upA τ0 121 g) 130 k = nI p := by rw [sI_upA, if_neg (by decide), r2, hp]; rfl
    have r3 : sI (upA τ0 121 g) 121 (16 + 2 * p + 1) = oI (A.pl p) := by
      rw [sI_upA, if_pos rfl, hg.1 p p1, if_neg (by omega)]
    have M : RMk (upA τ0 121 g) := M1.m.ag (Ag.rf.upA (p := fun b => b = 121) rfl)
    have hb : 16 + 2 * p + 1 < 2640 := by omega
    have hm := mv8 k (by omega)
    refine ⟨fun j => if j = 16 + 2 * p + 1 then nI c else g j, ⟨fun q hq => ?_, fun j hj => ?_⟩, ?_⟩
    · show (if 16 + 2 * q + 1 = 16 + 2 * p + 1 then nI c else g (16 + 2 * q + 1)) = _
      by_cases h : q = p
      · subst h
        rw [if_pos rfl, if_pos ⟨p2, by omega⟩, hc]
        rfl
      · rw [if_neg (by omega), hg.1 q hq]
        by_cases hl : A.lie q = true
        · have : ct A.lie q ≠ k := fun hh => h (ct_inj hl p2 (hh.trans p3.symm))
          by_cases h2 : ct A.lie q < k
          · rw [if_pos ⟨hl, h2⟩, if_pos ⟨hl, by omega⟩]
          · rw [if_neg (fun h => h2 h.2), if_neg (fun h => by have := h.2; omega)]
        · rw [if_neg (fun h => hl h.1), if_neg (fun h => hl h.1)]
    · show (if j = 16 + 2 * p + 1 then nI c else g j) = _
      rw [if_neg (hj p p1)]
      exact hg.2 j hj
    · funext K
      have em : A.mvk (k + 1) = A.mvk k + (if A.pl p = some c then 0 else 1) := by
        show A.mvk k + om (nth A.lie A.np k) _ = _
        rw [hp, om_some, hc]
      rw [em, ← setI_upA]
      have e31 := oI_eq (A.pl p) (pl31 O) (e := c) (by omega)
      generalize upA τ0 121 g = ρ at M r1 r2 r3
      rw [L_306_9, zt_306_9]
      by_cases h : A.pl p = some c
      · simp (disch := omega) only [L_306_38, zt_306_38, L_306_39, zt_306_39, ↓e_iconst0, ↓e_iconst1, ↓e_bipush0, ↓e_bipush1, ↓e_sipush0, ↓e_sipush1, ↓e_ldc0, ↓e_ldc1, ↓e_ldc_w0, ↓e_ldc_w1, ↓e_ldc2, ↓e_lconst0, ↓e_lconst1, ↓e_ldc2_w0, ↓e_ldc2_w1, ↓e_iload, ↓e_iload_n, ↓e_istore, ↓e_istore_n, ↓e_lload, ↓e_lload_n, ↓e_lstore, ↓e_lstore_n, ↓e_aload, ↓e_aload_n, ↓e_astore, ↓e_astore_n, ↓e_iinc0, ↓e_iinc1, ↓e_iadd, ↓e_isub, ↓e_imul, ↓e_iand, ↓e_ior, ↓e_ixor, ↓e_ishl, ↓e_ishr, ↓e_iushr, ↓e_ladd, ↓e_lsub, ↓e_lmul, ↓e_land, ↓e_lor, ↓e_idiv, ↓e_irem, ↓e_ldiv, ↓e_lrem, ↓e_lshl, ↓e_lcmp, ↓e_i2l, ↓e_l2i, ↓e_i2b, ↓e_i2s, ↓e_dup_int, ↓e_pop_int, ↓e_dup_ref, ↓e_pop_ref, ↓e_dup2, ↓e_goto, ↓e_nop, ↓e_ifCond_eq, ↓e_if_icmp_eq, ↓e_ifCond_ne, ↓e_if_icmp_ne, ↓e_ifCond_lt, ↓e_if_icmp_lt, ↓e_ifCond_ge, ↓e_if_icmp_ge, ↓e_ifCond_gt, ↓e_if_icmp_gt, ↓e_ifCond_le, ↓e_if_icmp_le, ↓e_tab, ↓e_look, ↓e_get0, ↓e_get1, ↓e_get2, ↓e_get3, ↓e_put0, ↓e_put1, ↓e_put2, ↓e_put3, ↓e_iaload, ↓e_laload, ↓e_baload, ↓e_aaload, ↓e_iastore, ↓e_lastore, ↓e_bastore, ↓e_aastore, ↓e_alen, ↓e_new, ↓e_newarray, ↓e_anewarray, ↓e_objinit, ↓e_virt1, ↓e_virt2, ↓e_virt3, ↓e_virt4, ↓e_virt5, ↓e_virt6, ↓e_virt7, ↓e_stat0, ↓e_stat1, ↓e_stat2, ↓e_stat3, ↓e_stat4, ↓e_stat5, ↓e_stat6, ↓e_stat7, ↓e_spec1, ↓e_spec2, ↓e_spec3, ↓e_spec4, ↓e_spec5, ↓e_strlen, ↓e_charAt, ↓e_copy, ↓e_iret0, ↓e_iret1, ↓e_lret, ↓e_aret, ↓e_vret, zIsI_int, zIsL_long, zIsA_ref, zInt_int, true_and, and_true, ↓reduceIte, zGet, zSet, zSet2, zEnt, zWid, Value.category, List.map_cons, List.map_nil, List.sum_cons, List.sum_nil, List.replicate, Option.toList, Nat.reduceAdd, Nat.reduceSub, Nat.reduceMul, Nat.reduceLeDiff, Nat.reduceEqDiff, Nat.reduceLT, List.cons_append, List.nil_append, true_or, or_true, or_false, false_or, M.k, M.r0, M.r1, M.r5, M.r6, M.r7, M.r8, M.r9, M.r21, M.r24, M.r25, M.r28, M.r29, M.r30, M.r31, M.r35, M.r36, M.r37, M.r38, M.r40, M.r43, M.r44, M.r45, M.k121, M.k122, M.k123, M.k124, M.k125, M.k126, M.k127, M.k128, M.k129, M.k130, M.k131, M.k132, M.k133, M.k134, M.k135, M.k136, M.k137, M.k138, M.k139, M.k140, M.k141, M.k142, nI_ltI, nI_leI, nI_eq, nI_clamp, zIn_nI, bI_0, nI_add, nI_mul, nI_or, nI_and, nI_shl1, nI_bit, ↓pk_rem, pk_div, Nat.lt_irrefl, Nat.not_lt_zero, reduceCtorEq, hk, hk8, r1, r2, ↓m_whereOfR M (show p < 8 by omega), r3, h, show ∀ k, oI (some k) = nI k from fun _ => rfl, ↓m_paperRow, hb]
      · simp (disch := omega) only [L_306_38, zt_306_38, L_306_39, zt_306_39, ↓e_iconst0, ↓e_iconst1, ↓e_bipush0, ↓e_bipush1, ↓e_sipush0, ↓e_sipush1, ↓e_ldc0, ↓e_ldc1, ↓e_ldc_w0, ↓e_ldc_w1, ↓e_ldc2, ↓e_lconst0, ↓e_lconst1, ↓e_ldc2_w0, ↓e_ldc2_w1, ↓e_iload, ↓e_iload_n, ↓e_istore, ↓e_istore_n, ↓e_lload, ↓e_lload_n, ↓e_lstore, ↓e_lstore_n, ↓e_aload, ↓e_aload_n, ↓e_astore, ↓e_astore_n, ↓e_iinc0, ↓e_iinc1, ↓e_iadd, ↓e_isub, ↓e_imul, ↓e_iand, ↓e_ior, ↓e_ixor, ↓e_ishl, ↓e_ishr, ↓e_iushr, ↓e_ladd, ↓e_lsub, ↓e_lmul, ↓e_land, ↓e_lor, ↓e_idiv, ↓e_irem, ↓e_ldiv, ↓e_lrem, ↓e_lshl, ↓e_lcmp, ↓e_i2l, ↓e_l2i, ↓e_i2b, ↓e_i2s, ↓e_dup_int, ↓e_pop_int, ↓e_dup_ref, ↓e_pop_ref, ↓e_dup2, ↓e_goto, ↓e_nop, ↓e_ifCond_eq, ↓e_if_icmp_eq, ↓e_ifCond_ne, ↓e_if_icmp_ne, ↓e_ifCond_lt, ↓e_if_icmp_lt, ↓e_ifCond_ge, ↓e_if_icmp_ge, ↓e_ifCond_gt, ↓e_if_icmp_gt, ↓e_ifCond_le, ↓e_if_icmp_le, ↓e_tab, ↓e_look, ↓e_get0, ↓e_get1, ↓e_get2, ↓e_get3, ↓e_put0, ↓e_put1, ↓e_put2, ↓e_put3, ↓e_iaload, ↓e_laload, ↓e_baload, ↓e_aaload, ↓e_iastore, ↓e_lastore, ↓e_bastore, ↓e_aastore, ↓e_alen, ↓e_new, ↓e_newarray, ↓e_anewarray, ↓e_objinit, ↓e_virt1, ↓e_virt2, ↓e_virt3, ↓e_virt4, ↓e_virt5, ↓e_virt6, ↓e_virt7, ↓e_stat0, ↓e_stat1, ↓e_stat2, ↓e_stat3, ↓e_stat4, ↓e_stat5, ↓e_stat6, ↓e_stat7, ↓e_spec1, ↓e_spec2, ↓e_spec3, ↓e_spec4, ↓e_spec5, ↓e_strlen, ↓e_charAt, ↓e_copy, ↓e_iret0, ↓e_iret1, ↓e_lret, ↓e_aret, ↓e_vret, zIsI_int, zIsL_long, zIsA_ref, zInt_int, true_and, and_true, ↓reduceIte, zGet, zSet, zSet2, zEnt, zWid, Value.category, List.map_cons, List.map_nil, List.sum_cons, List.sum_nil, List.replicate, Option.toList, Nat.reduceAdd, Nat.reduceSub, Nat.reduceMul, Nat.reduceLeDiff, Nat.reduceEqDiff, Nat.reduceLT, List.cons_append, List.nil_append, true_or, or_true, or_false, false_or, M.k, M.r0, M.r1, M.r5, M.r6, M.r7, M.r8, M.r9, M.r21, M.r24, M.r25, M.r28, M.r29, M.r30, M.r31, M.r35, M.r36, M.r37, M.r38, M.r40, M.r43, M.r44, M.r45, M.k121, M.k122, M.k123, M.k124, M.k125, M.k126, M.k127, M.k128, M.k129, M.k130, M.k131, M.k132, M.k133, M.k134, M.k135, M.k136, M.k137, M.k138, M.k139, M.k140, M.k141, M.k142, nI_ltI, nI_leI, nI_eq, nI_clamp, zIn_nI, bI_0, nI_add, nI_mul, nI_or, nI_and, nI_shl1, nI_bit, ↓pk_rem, pk_div, Nat.lt_irrefl, Nat.not_lt_zero, reduceCtorEq, hk, hk8, r1, r2, ↓m_whereOfR M (show p < 8 by omega), r3, e31, h, ↓m_paperRow, hb]) (fun j => sI τ0 121 j) ⟨fun q hq => by rw [if_neg (by omega)]; exact M1.a17 q hq, fun _ _ => rfl⟩
  have f1 : MF τ0 (upA τ0 121 g) := ⟨Ag.rf.upA (.inr (.inl rfl)), fun _ _ => rfl, fun _ => rfl, fun j hj _ => by
    rw [sI_upA, if_pos rfl]
    exact i2 j (fun q hq => by omega)⟩
  refine ⟨upA τ0 121 g, f0.tr f1, ?_, fun K => ?_⟩
  · refine M1.setPl O _ f1 (fun j _ hj => by rw [sI_upA, if_pos rfl]; exact i2 j hj) (fun q hq => ?_)
    rw [sI_upA, if_pos rfl, i1 q hq]
    by_cases hl : A.lie q = true
    · rw [if_pos ⟨hl, lie_N O hl⟩]
    · rw [if_neg (fun h => hl h.1)]
      unfold Ofc.srF
      rw [if_neg hl]
      unfold Ofc.lie at hl
      cases hp : A.pl q with
      | none => rfl
      | some c => rw [hp] at hl; exact absurd rfl hl
  · have e1 := congrFun e1 K
    rw [upA_self] at e1
    rw [E_306]
    simp (disch := omega) only [L_306_0, zt_306_0, ↓e_iconst0, ↓e_iconst1, ↓e_bipush0, ↓e_bipush1, ↓e_sipush0, ↓e_sipush1, ↓e_ldc0, ↓e_ldc1, ↓e_ldc_w0, ↓e_ldc_w1, ↓e_ldc2, ↓e_lconst0, ↓e_lconst1, ↓e_ldc2_w0, ↓e_ldc2_w1, ↓e_iload, ↓e_iload_n, ↓e_istore, ↓e_istore_n, ↓e_lload, ↓e_lload_n, ↓e_lstore, ↓e_lstore_n, ↓e_aload, ↓e_aload_n, ↓e_astore, ↓e_astore_n, ↓e_iinc0, ↓e_iinc1, ↓e_iadd, ↓e_isub, ↓e_imul, ↓e_iand, ↓e_ior, ↓e_ixor, ↓e_ishl, ↓e_ishr, ↓e_iushr, ↓e_ladd, ↓e_lsub, ↓e_lmul, ↓e_land, ↓e_lor, ↓e_idiv, ↓e_irem, ↓e_ldiv, ↓e_lrem, ↓e_lshl, ↓e_lcmp, ↓e_i2l, ↓e_l2i, ↓e_i2b, ↓e_i2s, ↓e_dup_int, ↓e_pop_int, ↓e_dup_ref, ↓e_pop_ref, ↓e_dup2, ↓e_goto, ↓e_nop, ↓e_ifCond_eq, ↓e_if_icmp_eq, ↓e_ifCond_ne, ↓e_if_icmp_ne, ↓e_ifCond_lt, ↓e_if_icmp_lt, ↓e_ifCond_ge, ↓e_if_icmp_ge, ↓e_ifCond_gt, ↓e_if_icmp_gt, ↓e_ifCond_le, ↓e_if_icmp_le, ↓e_tab, ↓e_look, ↓e_get0, ↓e_get1, ↓e_get2, ↓e_get3, ↓e_put0, ↓e_put1, ↓e_put2, ↓e_put3, ↓e_iaload, ↓e_laload, ↓e_baload, ↓e_aaload, ↓e_iastore, ↓e_lastore, ↓e_bastore, ↓e_aastore, ↓e_alen, ↓e_new, ↓e_newarray, ↓e_anewarray, ↓e_objinit, ↓e_virt1, ↓e_virt2, ↓e_virt3, ↓e_virt4, ↓e_virt5, ↓e_virt6, ↓e_virt7, ↓e_stat0, ↓e_stat1, ↓e_stat2, ↓e_stat3, ↓e_stat4, ↓e_stat5, ↓e_stat6, ↓e_stat7, ↓e_spec1, ↓e_spec2, ↓e_spec3, ↓e_spec4, ↓e_spec5, ↓e_strlen, ↓e_charAt, ↓e_copy, ↓e_iret0, ↓e_iret1, ↓e_lret, ↓e_aret, ↓e_vret, zIsI_int, zIsL_long, zIsA_ref, zInt_int, true_and, and_true, ↓reduceIte, zGet, zSet, zSet2, zEnt, zWid, Value.category, List.map_cons, List.map_nil, List.sum_cons, List.sum_nil, List.replicate, Option.toList, Nat.reduceAdd, Nat.reduceSub, Nat.reduceMul, Nat.reduceLeDiff, Nat.reduceEqDiff, Nat.reduceLT, List.cons_append, List.nil_append, true_or, or_true, or_false, false_or, M.m.k, M.m.r0, M.m.r1, M.m.r5, M.m.r6, M.m.r7, M.m.r8, M.m.r9, M.m.r21, M.m.r24, M.m.r25, M.m.r28, M.m.r29, M.m.r30, M.m.r31, M.m.r35, M.m.r36, M.m.r37, M.m.r38, M.m.r40, M.m.r43, M.m.r44, M.m.r45, M.m.k121, M.m.k122, M.m.k123, M.m.k124, M.m.k125, M.m.k126, M.m.k127, M.m.k128, M.m.k129, M.m.k130, M.m.k131, M.m.k132, M.m.k133, M.m.k134, M.m.k135, M.m.k136, M.m.k137, M.m.k138, M.m.k139, M.m.k140, M.m.k141, M.m.k142, M.a0, M.a1, M.a2, M.a3, M.a4, M.a5, M.a6, nI_ltI, nI_leI, nI_eq, nI_clamp, zIn_nI, bI_0, nI_add, nI_mul, nI_or, nI_and, nI_shl1, nI_bit, ↓pk_rem, pk_div, Nat.lt_irrefl, Nat.not_lt_zero, reduceCtorEq, ↓e0]
    refine Eq.trans e1 ?_
    rw [L_306_9, zt_306_9, mvk_N]
    simp (disch := omega) only [L_306_69, zt_306_69, ↓e_iconst0, ↓e_iconst1, ↓e_bipush0, ↓e_bipush1, ↓e_sipush0, ↓e_sipush1, ↓e_ldc0, ↓e_ldc1, ↓e_ldc_w0, ↓e_ldc_w1, ↓e_ldc2, ↓e_lconst0, ↓e_lconst1, ↓e_ldc2_w0, ↓e_ldc2_w1, ↓e_iload, ↓e_iload_n, ↓e_istore, ↓e_istore_n, ↓e_lload, ↓e_lload_n, ↓e_lstore, ↓e_lstore_n, ↓e_aload, ↓e_aload_n, ↓e_astore, ↓e_astore_n, ↓e_iinc0, ↓e_iinc1, ↓e_iadd, ↓e_isub, ↓e_imul, ↓e_iand, ↓e_ior, ↓e_ixor, ↓e_ishl, ↓e_ishr, ↓e_iushr, ↓e_ladd, ↓e_lsub, ↓e_lmul, ↓e_land, ↓e_lor, ↓e_idiv, ↓e_irem, ↓e_ldiv, ↓e_lrem, ↓e_lshl, ↓e_lcmp, ↓e_i2l, ↓e_l2i, ↓e_i2b, ↓e_i2s, ↓e_dup_int, ↓e_pop_int, ↓e_dup_ref, ↓e_pop_ref, ↓e_dup2, ↓e_goto, ↓e_nop, ↓e_ifCond_eq, ↓e_if_icmp_eq, ↓e_ifCond_ne, ↓e_if_icmp_ne, ↓e_ifCond_lt, ↓e_if_icmp_lt, ↓e_ifCond_ge, ↓e_if_icmp_ge, ↓e_ifCond_gt, ↓e_if_icmp_gt, ↓e_ifCond_le, ↓e_if_icmp_le, ↓e_tab, ↓e_look, ↓e_get0, ↓e_get1, ↓e_get2, ↓e_get3, ↓e_put0, ↓e_put1, ↓e_put2, ↓e_put3, ↓e_iaload, ↓e_laload, ↓e_baload, ↓e_aaload, ↓e_iastore, ↓e_lastore, ↓e_bastore, ↓e_aastore, ↓e_alen, ↓e_new, ↓e_newarray, ↓e_anewarray, ↓e_objinit, ↓e_virt1, ↓e_virt2, ↓e_virt3, ↓e_virt4, ↓e_virt5, ↓e_virt6, ↓e_virt7, ↓e_stat0, ↓e_stat1, ↓e_stat2, ↓e_stat3, ↓e_stat4, ↓e_stat5, ↓e_stat6, ↓e_stat7, ↓e_spec1, ↓e_spec2, ↓e_spec3, ↓e_spec4, ↓e_spec5, ↓e_strlen, ↓e_charAt, ↓e_copy, ↓e_iret0, ↓e_iret1, ↓e_lret, ↓e_aret, ↓e_vret, zIsI_int, zIsL_long, zIsA_ref, zInt_int, true_and, and_true, ↓reduceIte, zGet, zSet, zSet2, zEnt, zWid, Value.category, List.map_cons, List.map_nil, List.sum_cons, List.sum_nil, List.replicate, Option.toList, Nat.reduceAdd, Nat.reduceSub, Nat.reduceMul, Nat.reduceLeDiff, Nat.reduceEqDiff, Nat.reduceLT, List.cons_append, List.nil_append, true_or, or_true, or_false, false_or, nI_ltI, nI_leI, nI_eq, nI_clamp, zIn_nI, bI_0, nI_add, nI_mul, nI_or, nI_and, nI_shl1, nI_bit, ↓pk_rem, pk_div, Nat.lt_irrefl, Nat.not_lt_zero, reduceCtorEq]
theorem setI_upA2 (σ : MS) {b c : Nat} (h : b ≠ c) (f g : Nat → Int32) (i : Nat) (v : Int32) : setI (upA (upA σ b f) c g) b i v = upA (upA σ b (fun j => if j = i then v else f j)) c g := by
  unfold setI upA
  congr 2
  funext q j
  by_cases hq : q = b
  · subst hq
    by_cases hj : j = i <;> simp [hj, h]
  · by_cases hc : q = c
    · simp [hc, show ¬ c = b from fun hh => h hh.symm]
    · simp [hq, hc]
def low1 (x r : Nat) : Bool := ((x &&& (x - 1)).testBit r == (x.testBit r && !(r == ntz x))) && decide (x &&& (x - 1) < 256)
def low2 (x r : Nat) : Bool := !(x.testBit r) || ((ntz x < r) || (ntz x == r)) && x.testBit (ntz x)
theorem low1_t : ∀ x, x < 256 → ∀ r, r < 8 → low1 x r = true := by decide +kernel
theorem low2_t : ∀ x, x < 256 → ∀ r, r < 8 → low2 x r = true := by decide +kernel
theorem ntz_is {x q : Nat} (hx : x < 256) (hq : q < 8) (h : x.testBit q = true) (hl : ∀ r, r < q → x.testBit r = false) : ntz x = q := by
  have h1 := low2_t x hx q hq
  unfold low2 at h1
  rw [h, Bool.not_true, Bool.false_or, Bool.and_eq_true, Bool.or_eq_true, decide_eq_true_eq, beq_iff_eq] at h1
  rcases h1.1 with h2 | h2
  · rw [hl _ h2] at h1; cases h1.2
  · exact h2
def Ofc.mvc (A : Ofc) (i : Nat) : Nat := sm i (fun c => if A.occ c = true then (om (A.gr c) fun q => if A.pl q = some c then 0 else 1) else 0)
theorem mvc_all (O : OfcOk A) : A.mvc (A.wide * A.high) = A.mv := by
  rw [← mvk_N]
  unfold Ofc.mvc
  rw [← nth_sum (fun c => om (A.gr c) fun q => if A.pl q = some c then 0 else 1), N_occ O]
  refine sm_congr (fun k hk => ?_)
  obtain ⟨p, hp⟩ := nth_ex (P := A.lie) (n := A.np) hk
  obtain ⟨p1, p2, p3⟩ := nth_is hp
  obtain ⟨c, hc⟩ := nth_ex (P := A.occ) (n := A.wide * A.high) (k := k) (by rw [N_occ O]; exact hk)
  obtain ⟨c1, c2, c3⟩ := nth_is hc
  have e1 := (gr_iff O).mpr ⟨p2, c2, p3.trans c3.symm⟩
  have e2 := (srF_iff O).mpr ⟨p2, c2, p3.trans c3.symm⟩
  rw [hp, hc, om_some, om_some, e1, om_some, e2]
theorem c_layByNumber (H : ROff σ a A) (O : OfcOk A) :
   ∃ τ, Ag (fun b => a ≤ b ∧ b ≤ a + 11) σ τ ∧ ROff τ a A.srt ∧ ∀ K, zC (d + 3) 64 [.ref a] σ K = K (some (.int (nI A.mv))) τ := by
  have h8 := O.p8
  have h20 := cells20 O
  have hN := N8 O
  have hL := lying256 O
  have H0 := H
  have mv20 : ∀ k, k ≤ 20 → A.mvc k ≤ 20 := fun k hk => by
    have : A.mvc k ≤ 0 + 1 * k := zfor_le (fun i x _ => by
      refine Nat.add_le_add_left ?_ _
      dsimp only
      split
      · cases A.gr i with
        | none => exact Nat.zero_le _
        | some q =>
          rw [om_some]
          split <;> omega
      · omega)
    omega
  obtain ⟨x, ⟨i1, i2, i3, i4⟩, e1⟩ := zloop (β := Nat × (Nat → Int32) × (Nat → Int32) × Value) (fun i x => x.1 < 256 ∧ (∀ q, x.1.testBit q = (A.lie q && decide (ct A.occ i ≤ ct A.lie q))) ∧ (∀ q, q < 8 → x.2.1 q = oI (if A.lie q = true ∧ ct A.lie q < ct A.occ i then A.srF q else A.pl q)) ∧ (∀ c, c < 20 → x.2.2.1 c = oI (if c < i then A.gr c else A.who c))) (P := fun i x K => zX (d + 2) 64 9 [.ref a, .int (nI x.1), .int (nI (A.mvc i)), .int (nI i), x.2.2.2] [] (upA (upA σ (a + 4) x.2.1) (a + 8) x.2.2.1) K) (n := A.wide * A.high) (fun i x hi hx => by
    obtain ⟨left, g4, g8, j⟩ := x
    obtain ⟨x1, x2, x3, x4⟩ := hx
    dsimp only at x1 x2 x3 x4
    have hi20 : i < 20 := by omega
    have hm := mv20 i (by omega)
    have H : ROffN (upA (upA σ (a + 4) g4) (a + 8) g8) a A := H0.n.keep (fun _ => rfl) (fun j => by rw [sI_upA, if_neg (by omega), sI_upA, if_neg (by omega)]) (fun _ => rfl)
    have rc : sI (upA (upA σ (a + 4) g4) (a + 8) g8) (a + 8) i = oI (A.who i) := by rw [sI_upA, if_pos rfl, x4 i hi20, if_neg (by omega)]
    cases ho : A.occ i with
    | false =>
      have hw : A.who i = none := by
        unfold Ofc.occ at ho
        cases hw : A.who i with
        | none => rfl
        | some q => rw [hw] at ho; cases ho
      have em : A.mvc (i + 1) = A.mvc i := by
        show A.mvc i + (if A.occ i = true then _ else 0) = _
        rw [if_neg (by rw [ho]; decide), Nat.add_zero]
      refine ⟨(left, g4, g8, j), ⟨x1, ?_, ?_, fun c hc => ?_⟩, ?_⟩
      · rw [ct_f ho]; exact x2
      · rw [ct_f ho]; exact x3
      · show g8 c = _
        rw [x4 c hc]
        by_cases h : c = i
        · subst h
          rw [if_neg (by omega), if_pos (by omega), hw]
          unfold Ofc.gr
          rw [if_neg (by rw [ho]; decide)]
        · by_cases h2 : c < i
          · rw [if_pos h2, if_pos (by omega)]
          · rw [if_neg h2, if_neg (by omega)]
      · funext K
        dsimp only
        rw [em, L_64_9, zt_64_9]
        simp (disch := omega) only [L_64_72, zt_64_72, L_64_79, zt_64_79, ↓e_iconst0, ↓e_iconst1, ↓e_bipush0, ↓e_bipush1, ↓e_sipush0, ↓e_sipush1, ↓e_ldc0, ↓e_ldc1, ↓e_ldc_w0, ↓e_ldc_w1, ↓e_ldc2, ↓e_lconst0, ↓e_lconst1, ↓e_ldc2_w0, ↓e_ldc2_w1, ↓e_iload, ↓e_iload_n, ↓e_istore, ↓e_istore_n, ↓e_lload, ↓e_lload_n, ↓e_lstore, ↓e_lstore_n, ↓e_aload, ↓e_aload_n, ↓e_astore, ↓e_astore_n, ↓e_iinc0, ↓e_iinc1, ↓e_iadd, ↓e_isub, ↓e_imul, ↓e_iand, ↓e_ior, ↓e_ixor, ↓e_ishl, ↓e_ishr, ↓e_iushr, ↓e_ladd, ↓e_lsub, ↓e_lmul, ↓e_land, ↓e_lor, ↓e_idiv, ↓e_irem, ↓e_ldiv, ↓e_lrem, ↓e_lshl, ↓e_lcmp, ↓e_i2l, ↓e_l2i, ↓e_i2b, ↓e_i2s, ↓e_dup_int, ↓e_pop_int, ↓e_dup_ref, ↓e_pop_ref, ↓e_dup2, ↓e_goto, ↓e_nop, ↓e_ifCond_eq, ↓e_if_icmp_eq, ↓e_ifCond_ne, ↓e_if_icmp_ne, ↓e_ifCond_lt, ↓e_if_icmp_lt, ↓e_ifCond_ge, ↓e_if_icmp_ge, ↓e_ifCond_gt, ↓e_if_icmp_gt, ↓e_ifCond_le, ↓e_if_icmp_le, ↓e_tab, ↓e_look, ↓e_get0, ↓e_get1, ↓e_get2, ↓e_get3, ↓e_put0, ↓e_put1, ↓e_put2, ↓e_put3, ↓e_iaload, ↓e_laload, ↓e_baload, ↓e_aaload, ↓e_iastore, ↓e_lastore, ↓e_bastore, ↓e_aastore, ↓e_alen, ↓e_new, ↓e_newarray, ↓e_anewarray, ↓e_objinit, ↓e_virt1, ↓e_virt2, ↓e_virt3, ↓e_virt4, ↓e_virt5, ↓e_virt6, ↓e_virt7, ↓e_stat0, ↓e_stat1, ↓e_stat2, ↓e_stat3, ↓e_stat4, ↓e_stat5, ↓e_stat6, ↓e_stat7, ↓e_spec1, ↓e_spec2, ↓e_spec3, ↓e_spec4, ↓e_spec5, ↓e_strlen, ↓e_charAt, ↓e_copy, ↓e_iret0, ↓e_iret1, ↓e_lret, ↓e_aret, ↓e_vret, zIsI_int, zIsL_long, zIsA_ref, zInt_int, true_and, and_true, ↓reduceIte, zGet, zSet, zSet2, zEnt, zWid, Value.category, List.map_cons, List.map_nil, List.sum_cons, List.sum_nil, List.replicate, Option.toList, Nat.reduceAdd, Nat.reduceSub, Nat.reduceMul, Nat.reduceLeDiff, Nat.reduceEqDiff, Nat.reduceLT, List.cons_append, List.nil_append, true_or, or_true, or_false, false_or, H.k, H.i0, H.i1, H.i2, H.i3, H.i4, H.i5, H.i6, H.i7, H.r8, H.r9, H.r10, H.r11, H.r12, H.r13, H.r14, H.r15, H.r16, H.r17, H.r18, H.k1, H.k2, H.k3, H.k4, H.k5, H.k6, H.k7, H.k8, H.k9, H.k10, H.k11, nI_ltI, nI_leI, nI_eq, nI_clamp, zIn_nI, bI_0, nI_add, nI_mul, nI_or, nI_and, nI_shl1, nI_bit, ↓pk_rem, pk_div, Nat.lt_irrefl, Nat.not_lt_zero, reduceCtorEq, hi, hi20, rc, hw, show oI none = -nI 1 from rfl]
    | true =>
      obtain ⟨q, hq⟩ := gr_ex O ho
      obtain ⟨q1, q2, q3⟩ := (gr_iff O).mp hq
      have qn := lie_np O q1
      have qs := (srF_iff O).mpr ⟨q1, q2, q3⟩
      have hb : left.testBit q = true := by rw [x2 q, q1, Bool.true_and, decide_eq_true_eq]; omega
      have hl0 : ¬ left = 0 := fun h => by rw [h, Nat.zero_testBit] at hb; cases hb
      have hz : ntz left = q := ntz_is x1 (by omega) hb (fun r hr => by
        rw [x2 r]
        cases hlr : A.lie r with
        | false => rfl
        | true =>
          have := ct_lt hr hlr
          rw [Bool.true_and, decide_eq_false_iff_not]
          omega)
      have hlow : ∀ r, r < 8 → (left &&& (left - 1)).testBit r = (left.testBit r && !(r == q)) ∧ left &&& (left - 1) < 256 := fun r hr => by
        have := low1_t left x1 r hr
        unfold low1 at this
        rw [Bool.and_eq_true, beq_iff_eq, decide_eq_true_eq, hz] at this
        exact this
      obtain ⟨w, hw⟩ : ∃ w, A.who i = some w := by
        unfold Ofc.occ at ho
        cases hw : A.who i with
        | none => rw [hw] at ho; cases ho
        | some w => exact ⟨w, rfl⟩
      have nm : ¬ nI w = -nI 1 := fun hh => nI_pos (n := w) (by have := who_np O hw; omega) (by rw [hh]; decide)
      have em : A.mvc (i + 1) = A.mvc i + (if A.pl q = some i then 0 else 1) := by
        show A.mvc i + (if A.occ i = true then _ else 0) = _
        rw [if_pos ho, hq, om_some]
      have hq8 : q < 8 := by omega
      have rp : sI (upA (upA σ (a + 4) g4) (a + 8) g8) (a + 4) q = oI (A.pl q) := by rw [sI_upA, if_neg (by omega), sI_upA, if_pos rfl, x3 q hq8, if_neg (by omega)]
      have e31 := oI_eq (A.pl q) (pl31 O) (e := i) (by omega)
      refine ⟨(left &&& (left - 1), fun j => if j = q then nI i else g4 j, fun j => if j = i then nI q else g8 j, .int (nI q)), ⟨(hlow 0 (by omega)).2, fun r => ?_, fun r hr => ?_, fun c hc => ?_⟩, ?_⟩
      · show (left &&& (left - 1)).testBit r = _
        by_cases hr : r < 8
        · rw [(hlow r hr).1, x2 r, ct_t ho]
          cases hlr : A.lie r with
          | false => rfl
          | true =>
            by_cases hrq : r = q
            · subst hrq
              simp only [Bool.true_and, beq_self_eq_true, Bool.not_true, Bool.and_false]
              symm
              rw [decide_eq_false_iff_not]
              omega
            · have : ct A.lie r ≠ ct A.lie q := fun h => hrq (ct_inj hlr q1 h)
              simp only [Bool.true_and, beq_eq_false_iff_ne.mpr hrq, Bool.not_false, Bool.and_true]
              congr 1
              refine propext ⟨fun h => by omega, fun h => by omega⟩
        · have n1 : A.lie r = false := by
            cases hlr : A.lie r with
            | false => rfl
            | true => have := lie_np O hlr; omega
          rw [n1, Bool.false_and]
          exact Nat.testBit_lt_two_pow (Nat.lt_of_lt_of_le (hlow 0 (by omega)).2 (show 256 ≤ 2 ^ r from Nat.pow_le_pow_right (n := 2) (by decide) (show 8 ≤ r by omega)))
      · show (if r = q then nI i else g4 r) = _
        by_cases h : r = q
        · subst h
          rw [if_pos rfl, if_pos ⟨q1, by rw [ct_t ho]; omega⟩, qs]
          rfl
        · rw [if_neg h, x3 r hr, ct_t ho]
          by_cases hl : A.lie r = true
          · have : ct A.lie r ≠ ct A.lie q := fun hh => h (ct_inj hl q1 hh)
            by_cases h2 : ct A.lie r < ct A.occ i
            · rw [if_pos ⟨hl, h2⟩, if_pos ⟨hl, by omega⟩]
            · rw [if_neg (fun h => h2 h.2), if_neg (fun h => by have := h.2; omega)]
          · rw [if_neg (fun h => hl h.1), if_neg (fun h => hl h.1)]
      · show (if c = i then nI q else g8 c) = _
        by_cases h : c = i
        · subst h
          rw [if_pos rfl, if_pos (by omega), hq]
          rfl
        · rw [if_neg h, x4 c hc]
          by_cases h2 : c < i
          · rw [if_pos h2, if_pos (by omega)]
          · rw [if_neg h2, if_neg (by omega)]
      · funext K
        dsimp only
        have ew : setI (setI (upA (upA σ (a + 4) g4) (a + 8) g8) (a + 4) q (nI i)) (a + 8) i (nI q) = upA (upA σ (a + 4) (fun j => if j = q then nI i else g4 j)) (a + 8) (fun j => if j = i then nI q else g8 j) := by
          rw [setI_upA2 _ (by omega), setI_upA]
        rw [em, ← ew]
        have hl1 : 1 ≤ left := by omega
        generalize upA (upA σ (a + 4) g4) (a + 8) g8 = ρ at H rc rp
        rw [L_64_9, zt_64_9]
        by_cases h : A.pl q = some i
        · simp (disch := omega) only [L_64_72, zt_64_72, L_64_79, zt_64_79, ↓e_iconst0, ↓e_iconst1, ↓e_bipush0, ↓e_bipush1, ↓e_sipush0, ↓e_sipush1, ↓e_ldc0, ↓e_ldc1, ↓e_ldc_w0, ↓e_ldc_w1, ↓e_ldc2, ↓e_lconst0, ↓e_lconst1, ↓e_ldc2_w0, ↓e_ldc2_w1, ↓e_iload, ↓e_iload_n, ↓e_istore, ↓e_istore_n, ↓e_lload, ↓e_lload_n, ↓e_lstore, ↓e_lstore_n, ↓e_aload, ↓e_aload_n, ↓e_astore, ↓e_astore_n, ↓e_iinc0, ↓e_iinc1, ↓e_iadd, ↓e_isub, ↓e_imul, ↓e_iand, ↓e_ior, ↓e_ixor, ↓e_ishl, ↓e_ishr, ↓e_iushr, ↓e_ladd, ↓e_lsub, ↓e_lmul, ↓e_land, ↓e_lor, ↓e_idiv, ↓e_irem, ↓e_ldiv, ↓e_lrem, ↓e_lshl, ↓e_lcmp, ↓e_i2l, ↓e_l2i, ↓e_i2b, ↓e_i2s, ↓e_dup_int, ↓e_pop_int, ↓e_dup_ref, ↓e_pop_ref, ↓e_dup2, ↓e_goto, ↓e_nop, ↓e_ifCond_eq, ↓e_if_icmp_eq, ↓e_ifCond_ne, ↓e_if_icmp_ne, ↓e_ifCond_lt, ↓e_if_icmp_lt, ↓e_ifCond_ge, ↓e_if_icmp_ge, ↓e_ifCond_gt, ↓e_if_icmp_gt, ↓e_ifCond_le, ↓e_if_icmp_le, ↓e_tab, ↓e_look, ↓e_get0, ↓e_get1, ↓e_get2, ↓e_get3, ↓e_put0, ↓e_put1, ↓e_put2, ↓e_put3, ↓e_iaload, ↓e_laload, ↓e_baload, ↓e_aaload, ↓e_iastore, ↓e_lastore, ↓e_bastore, ↓e_aastore, ↓e_alen, ↓e_new, ↓e_newarray, ↓e_anewarray, ↓e_objinit, ↓e_virt1, ↓e_virt2, ↓e_virt3, ↓e_virt4, ↓e_virt5, ↓e_virt6, ↓e_virt7, ↓e_stat0, ↓e_stat1, ↓e_stat2, ↓e_stat3, ↓e_stat4, ↓e_stat5, ↓e_stat6, ↓e_stat7, ↓e_spec1, ↓e_spec2, ↓e_spec3, ↓e_spec4, ↓e_spec5, ↓e_strlen, ↓e_charAt, ↓e_copy, ↓e_iret0, ↓e_iret1, ↓e_lret, ↓e_aret, ↓e_vret, zIsI_int, zIsL_long, zIsA_ref, zInt_int, true_and, and_true, ↓reduceIte, zGet, zSet, zSet2, zEnt, zWid, Value.category, List.map_cons, List.map_nil, List.sum_cons, List.sum_nil, List.replicate, Option.toList, Nat.reduceAdd, Nat.reduceSub, Nat.reduceMul, Nat.reduceLeDiff, Nat.reduceEqDiff, Nat.reduceLT, List.cons_append, List.nil_append, true_or, or_true, or_false, false_or, H.k, H.i0, H.i1, H.i2, H.i3, H.i4, H.i5, H.i6, H.i7, H.r8, H.r9, H.r10, H.r11, H.r12, H.r13, H.r14, H.r15, H.r16, H.r17, H.r18, H.k1, H.k2, H.k3, H.k4, H.k5, H.k6, H.k7, H.k8, H.k9, H.k10, H.k11, nI_ltI, nI_leI, nI_eq, nI_clamp, zIn_nI, bI_0, nI_add, nI_mul, nI_or, nI_and, nI_shl1, nI_bit, ↓pk_rem, pk_div, Nat.lt_irrefl, Nat.not_lt_zero, reduceCtorEq, nI_sub, hi, hi20, rc, hw, show ∀ k, oI (some k) = nI k from fun _ => rfl, nm, hl0, ↓c_ntz x1 hl0, hz, ↓n_isPaper H h8, isI_np O qn, hq8, rp, h, ↓n_putInto H h8 h20 qn hi, Nat.add_zero]
        · simp (disch := omega) only [L_64_72, zt_64_72, L_64_79, zt_64_79, ↓e_iconst0, ↓e_iconst1, ↓e_bipush0, ↓e_bipush1, ↓e_sipush0, ↓e_sipush1, ↓e_ldc0, ↓e_ldc1, ↓e_ldc_w0, ↓e_ldc_w1, ↓e_ldc2, ↓e_lconst0, ↓e_lconst1, ↓e_ldc2_w0, ↓e_ldc2_w1, ↓e_iload, ↓e_iload_n, ↓e_istore, ↓e_istore_n, ↓e_lload, ↓e_lload_n, ↓e_lstore, ↓e_lstore_n, ↓e_aload, ↓e_aload_n, ↓e_astore, ↓e_astore_n, ↓e_iinc0, ↓e_iinc1, ↓e_iadd, ↓e_isub, ↓e_imul, ↓e_iand, ↓e_ior, ↓e_ixor, ↓e_ishl, ↓e_ishr, ↓e_iushr, ↓e_ladd, ↓e_lsub, ↓e_lmul, ↓e_land, ↓e_lor, ↓e_idiv, ↓e_irem, ↓e_ldiv, ↓e_lrem, ↓e_lshl, ↓e_lcmp, ↓e_i2l, ↓e_l2i, ↓e_i2b, ↓e_i2s, ↓e_dup_int, ↓e_pop_int, ↓e_dup_ref, ↓e_pop_ref, ↓e_dup2, ↓e_goto, ↓e_nop, ↓e_ifCond_eq, ↓e_if_icmp_eq, ↓e_ifCond_ne, ↓e_if_icmp_ne, ↓e_ifCond_lt, ↓e_if_icmp_lt, ↓e_ifCond_ge, ↓e_if_icmp_ge, ↓e_ifCond_gt, ↓e_if_icmp_gt, ↓e_ifCond_le, ↓e_if_icmp_le, ↓e_tab, ↓e_look, ↓e_get0, ↓e_get1, ↓e_get2, ↓e_get3, ↓e_put0, ↓e_put1, ↓e_put2, ↓e_put3, ↓e_iaload, ↓e_laload, ↓e_baload, ↓e_aaload, ↓e_iastore, ↓e_lastore, ↓e_bastore, ↓e_aastore, ↓e_alen, ↓e_new, ↓e_newarray, ↓e_anewarray, ↓e_objinit, ↓e_virt1, ↓e_virt2, ↓e_virt3, ↓e_virt4, ↓e_virt5, ↓e_virt6, ↓e_virt7, ↓e_stat0, ↓e_stat1, ↓e_stat2, ↓e_stat3, ↓e_stat4, ↓e_stat5, ↓e_stat6, ↓e_stat7, ↓e_spec1, ↓e_spec2, ↓e_spec3, ↓e_spec4, ↓e_spec5, ↓e_strlen, ↓e_charAt, ↓e_copy, ↓e_iret0, ↓e_iret1, ↓e_lret, ↓e_aret, ↓e_vret, zIsI_int, zIsL_long, zIsA_ref, zInt_int, true_and, and_true, ↓reduceIte, zGet, zSet, zSet2, zEnt, zWid, Value.category, List.map_cons, List.map_nil, List.sum_cons, List.sum_nil, List.replicate, Option.toList, Nat.reduceAdd, Nat.reduceSub, Nat.reduceMul, Nat.reduceLeDiff, Nat.reduceEqDiff, Nat.reduceLT, List.cons_append, List.nil_append, true_or, or_true, or_false, false_or, H.k, H.i0, H.i1, H.i2, H.i3, H.i4, H.i5, H.i6, H.i7, H.r8, H.r9, H.r10, H.r11, H.r12, H.r13, H.r14, H.r15, H.r16, H.r17, H.r18, H.k1, H.k2, H.k3, H.k4, H.k5, H.k6, H.k7, H.k8, H.k9, H.k10, H.k11, nI_ltI, nI_leI, nI_eq, nI_clamp, zIn_nI, bI_0, nI_add, nI_mul, nI_or, nI_and, nI_shl1, nI_bit, ↓pk_rem, pk_div, Nat.lt_irrefl, Nat.not_lt_zero, reduceCtorEq, nI_sub, hi, hi20, rc, hw, show ∀ k, oI (some k) = nI k from fun _ => rfl, nm, hl0, ↓c_ntz x1 hl0, hz, ↓n_isPaper H h8, isI_np O qn, hq8, rp, e31, h, ↓n_putInto H h8 h20 qn hi]) (A.lying, fun j => sI σ (a + 4) j, fun j => sI σ (a + 8) j, .null) ⟨hL, fun q => by
        show A.lying.testBit q = _
        rw [lying_lie O, ct_0]
        simp, fun q hq => by
        show sI σ (a + 4) q = _
        rw [if_neg (by rw [ct_0]; omega)]
        exact H0.a4 q hq, fun c hc => by
        show sI σ (a + 8) c = _
        rw [if_neg (by omega)]
        exact H0.a8 c hc⟩
  obtain ⟨left, g4, g8, j⟩ := x
  dsimp only at i1 i2 i3 i4 e1
  have p4 : a ≤ a + 4 ∧ a + 4 ≤ a + 11 := ⟨by omega, by omega⟩
  have p8 : a ≤ a + 8 ∧ a + 8 ≤ a + 11 := ⟨by omega, by omega⟩
  refine ⟨upA (upA σ (a + 4) g4) (a + 8) g8, (Ag.rf.upA p4).upA p8, ?_, fun K => ?_⟩
  · refine H.setPl _ (fun _ _ _ => rfl) (fun b j _ _ n4 n8 => by rw [sI_upA, if_neg n8, sI_upA, if_neg n4]) (fun _ _ _ _ => rfl) (fun _ => rfl) (fun q hq => ?_) (fun c hc => ?_)
    · rw [sI_upA, if_neg (by omega), sI_upA, if_pos rfl, i3 q hq, N_occ O]
      by_cases hl : A.lie q = true
      · rw [if_pos ⟨hl, lie_N O hl⟩]
      · rw [if_neg (fun h => hl h.1)]
        unfold Ofc.srF
        rw [if_neg hl]
        unfold Ofc.lie at hl
        cases hp : A.pl q with
        | none => rfl
        | some c => rw [hp] at hl; exact absurd rfl hl
    · rw [sI_upA, if_pos rfl, i4 c hc, show (A.setPl A.srF).who c = A.srt.who c from rfl, srt_who O c]
      by_cases h : c < A.wide * A.high
      · rw [if_pos h]
      · rw [if_neg h]
        have h1 : A.occ c = false := by
          cases ho : A.occ c with
          | false => rfl
          | true => exact absurd (occ_c O ho) h
        unfold Ofc.gr
        rw [if_neg (by rw [h1]; decide)]
        unfold Ofc.occ at h1
        cases hw : A.who c with
        | none => rfl
        | some q => rw [hw] at h1; cases h1
  · have e1 := congrFun e1 K
    rw [upA_self] at e1
    have e9 : upA σ (a + 8) (fun j => sI σ (a + 8) j) = σ := upA_self σ (a + 8)
    rw [e9] at e1
    rw [E_64]
    simp (disch := omega) only [L_64_0, zt_64_0, ↓e_iconst0, ↓e_iconst1, ↓e_bipush0, ↓e_bipush1, ↓e_sipush0, ↓e_sipush1, ↓e_ldc0, ↓e_ldc1, ↓e_ldc_w0, ↓e_ldc_w1, ↓e_ldc2, ↓e_lconst0, ↓e_lconst1, ↓e_ldc2_w0, ↓e_ldc2_w1, ↓e_iload, ↓e_iload_n, ↓e_istore, ↓e_istore_n, ↓e_lload, ↓e_lload_n, ↓e_lstore, ↓e_lstore_n, ↓e_aload, ↓e_aload_n, ↓e_astore, ↓e_astore_n, ↓e_iinc0, ↓e_iinc1, ↓e_iadd, ↓e_isub, ↓e_imul, ↓e_iand, ↓e_ior, ↓e_ixor, ↓e_ishl, ↓e_ishr, ↓e_iushr, ↓e_ladd, ↓e_lsub, ↓e_lmul, ↓e_land, ↓e_lor, ↓e_idiv, ↓e_irem, ↓e_ldiv, ↓e_lrem, ↓e_lshl, ↓e_lcmp, ↓e_i2l, ↓e_l2i, ↓e_i2b, ↓e_i2s, ↓e_dup_int, ↓e_pop_int, ↓e_dup_ref, ↓e_pop_ref, ↓e_dup2, ↓e_goto, ↓e_nop, ↓e_ifCond_eq, ↓e_if_icmp_eq, ↓e_ifCond_ne, ↓e_if_icmp_ne, ↓e_ifCond_lt, ↓e_if_icmp_lt, ↓e_ifCond_ge, ↓e_if_icmp_ge, ↓e_ifCond_gt, ↓e_if_icmp_gt, ↓e_ifCond_le, ↓e_if_icmp_le, ↓e_tab, ↓e_look, ↓e_get0, ↓e_get1, ↓e_get2, ↓e_get3, ↓e_put0, ↓e_put1, ↓e_put2, ↓e_put3, ↓e_iaload, ↓e_laload, ↓e_baload, ↓e_aaload, ↓e_iastore, ↓e_lastore, ↓e_bastore, ↓e_aastore, ↓e_alen, ↓e_new, ↓e_newarray, ↓e_anewarray, ↓e_objinit, ↓e_virt1, ↓e_virt2, ↓e_virt3, ↓e_virt4, ↓e_virt5, ↓e_virt6, ↓e_virt7, ↓e_stat0, ↓e_stat1, ↓e_stat2, ↓e_stat3, ↓e_stat4, ↓e_stat5, ↓e_stat6, ↓e_stat7, ↓e_spec1, ↓e_spec2, ↓e_spec3, ↓e_spec4, ↓e_spec5, ↓e_strlen, ↓e_charAt, ↓e_copy, ↓e_iret0, ↓e_iret1, ↓e_lret, ↓e_aret, ↓e_vret, zIsI_int, zIsL_long, zIsA_ref, zInt_int, true_and, and_true, ↓reduceIte, zGet, zSet, zSet2, zEnt, zWid, Value.category, List.map_cons, List.map_nil, List.sum_cons, List.sum_nil, List.replicate, Option.toList, Nat.reduceAdd, Nat.reduceSub, Nat.reduceMul, Nat.reduceLeDiff, Nat.reduceEqDiff, Nat.reduceLT, List.cons_append, List.nil_append, true_or, or_true, or_false, false_or, H.k, H.i0, H.i1, H.i2, H.i3, H.i4, H.i5, H.i6, H.i7, H.r8, H.r9, H.r10, H.r11, H.r12, H.r13, H.r14, H.r15, H.r16, H.r17, H.r18, H.k1, H.k2, H.k3, H.k4, H.k5, H.k6, H.k7, H.k8, H.k9, H.k10, H.k11, nI_ltI, nI_leI, nI_eq, nI_clamp, zIn_nI, bI_0, nI_add, nI_mul, nI_or, nI_and, nI_shl1, nI_bit, ↓pk_rem, pk_div, Nat.lt_irrefl, Nat.not_lt_zero, reduceCtorEq, ↓c_lyingSet H O]
    refine Eq.trans e1 ?_
    have H : ROffN (upA (upA σ (a + 4) g4) (a + 8) g8) a A := H0.n.keep (fun _ => rfl) (fun j => by rw [sI_upA, if_neg (by omega), sI_upA, if_neg (by omega)]) (fun _ => rfl)
    rw [L_64_9, zt_64_9, mvc_all O]
    simp (disch := omega) only [L_64_85, zt_64_85, ↓e_iconst0, ↓e_iconst1, ↓e_bipush0, ↓e_bipush1, ↓e_sipush0, ↓e_sipush1, ↓e_ldc0, ↓e_ldc1, ↓e_ldc_w0, ↓e_ldc_w1, ↓e_ldc2, ↓e_lconst0, ↓e_lconst1, ↓e_ldc2_w0, ↓e_ldc2_w1, ↓e_iload, ↓e_iload_n, ↓e_istore, ↓e_istore_n, ↓e_lload, ↓e_lload_n, ↓e_lstore, ↓e_lstore_n, ↓e_aload, ↓e_aload_n, ↓e_astore, ↓e_astore_n, ↓e_iinc0, ↓e_iinc1, ↓e_iadd, ↓e_isub, ↓e_imul, ↓e_iand, ↓e_ior, ↓e_ixor, ↓e_ishl, ↓e_ishr, ↓e_iushr, ↓e_ladd, ↓e_lsub, ↓e_lmul, ↓e_land, ↓e_lor, ↓e_idiv, ↓e_irem, ↓e_ldiv, ↓e_lrem, ↓e_lshl, ↓e_lcmp, ↓e_i2l, ↓e_l2i, ↓e_i2b, ↓e_i2s, ↓e_dup_int, ↓e_pop_int, ↓e_dup_ref, ↓e_pop_ref, ↓e_dup2, ↓e_goto, ↓e_nop, ↓e_ifCond_eq, ↓e_if_icmp_eq, ↓e_ifCond_ne, ↓e_if_icmp_ne, ↓e_ifCond_lt, ↓e_if_icmp_lt, ↓e_ifCond_ge, ↓e_if_icmp_ge, ↓e_ifCond_gt, ↓e_if_icmp_gt, ↓e_ifCond_le, ↓e_if_icmp_le, ↓e_tab, ↓e_look, ↓e_get0, ↓e_get1, ↓e_get2, ↓e_get3, ↓e_put0, ↓e_put1, ↓e_put2, ↓e_put3, ↓e_iaload, ↓e_laload, ↓e_baload, ↓e_aaload, ↓e_iastore, ↓e_lastore, ↓e_bastore, ↓e_aastore, ↓e_alen, ↓e_new, ↓e_newarray, ↓e_anewarray, ↓e_objinit, ↓e_virt1, ↓e_virt2, ↓e_virt3, ↓e_virt4, ↓e_virt5, ↓e_virt6, ↓e_virt7, ↓e_stat0, ↓e_stat1, ↓e_stat2, ↓e_stat3, ↓e_stat4, ↓e_stat5, ↓e_stat6, ↓e_stat7, ↓e_spec1, ↓e_spec2, ↓e_spec3, ↓e_spec4, ↓e_spec5, ↓e_strlen, ↓e_charAt, ↓e_copy, ↓e_iret0, ↓e_iret1, ↓e_lret, ↓e_aret, ↓e_vret, zIsI_int, zIsL_long, zIsA_ref, zInt_int, true_and, and_true, ↓reduceIte, zGet, zSet, zSet2, zEnt, zWid, Value.category, List.map_cons, List.map_nil, List.sum_cons, List.sum_nil, List.replicate, Option.toList, Nat.reduceAdd, Nat.reduceSub, Nat.reduceMul, Nat.reduceLeDiff, Nat.reduceEqDiff, Nat.reduceLT, List.cons_append, List.nil_append, true_or, or_true, or_false, false_or, H.k, H.i0, H.i1, H.i2, H.i3, H.i4, H.i5, H.i6, H.i7, H.r8, H.r9, H.r10, H.r11, H.r12, H.r13, H.r14, H.r15, H.r16, H.r17, H.r18, H.k1, H.k2, H.k3, H.k4, H.k5, H.k6, H.k7, H.k8, H.k9, H.k10, H.k11, nI_ltI, nI_leI, nI_eq, nI_clamp, zIn_nI, bI_0, nI_add, nI_mul, nI_or, nI_and, nI_shl1, nI_bit, ↓pk_rem, pk_div, Nat.lt_irrefl, Nat.not_lt_zero, reduceCtorEq]
end SRT2
