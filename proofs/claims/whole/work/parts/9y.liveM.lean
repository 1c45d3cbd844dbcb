/-! THE MODEL LIVES: what a step leaves -/
section LMS
variable {d : Nat} {σ τ : MS} {a : Nat} {A : Ofc} {K : Option Value → MS → Prop}
theorem m_sorting2 (M : RMod σ A) (O : OfcOk A) :
   ∃ τ, (Ag (fun b => b = 121 ∨ b = 129 ∨ b = 130) σ τ ∧ ∀ j, (j < 16 ∨ 32 ≤ j) → sI τ 121 j = sI σ 121 j) ∧ RMod τ A.srt ∧ ∀ K, zC (d + 5) 306 [.ref 120] σ K = K (some (.int (nI A.mv))) τ := by
  have h8 := O.p8
  have h20 := cells20 O
  have hN := N8 O
  have M0 := M
  obtain ⟨τ0, ag0, rd, e0⟩ := m_laysLying (d := d) M O
  have f0 : MF σ τ0 := ⟨ag0.mono (fun b hb => by omega), fun j _ => ag0.I (by decide) j, fun j => ag0.L (by decide) j, fun j _ _ => ag0.I (by decide) j⟩
  have M1 : RMod τ0 A := M.ag ag0 (by decide) (by decide)
  have mv8 : ∀ k, k ≤ 8 → A.mvk k ≤ 8 := fun k hk => by
    have : A.mvk k ≤ 0 + 1 * k := zfor_le (fun i x _ => by
      dsimp only
      cases nth A.lie A.np i with
      | none => exact Nat.le_add_right _ _
      | some q =>
        rw [om_some]
        refine Nat.add_le_add_left ?_ _
        split <;> omega)
    omega
  obtain ⟨g, ⟨i1, i2⟩, e1⟩ := zloop (fun k (g : Nat → Int32) => (∀ q, q < A.np → g (16 + 2 * q + 1) = oI (if A.lie q = true ∧ ct A.lie q < k then A.srF q else A.pl q)) ∧ (∀ j, (∀ q, q < A.np → j ≠ 16 + 2 * q + 1) → g j = sI τ0 121 j)) (P := fun k g K => zX (d + 4) 306 9 [.ref 120, .int (nI A.N), .int (nI (A.mvk k)), .int (nI k)] [] (upA τ0 121 g) K) (n := A.N) (fun k g hk hg => by
    obtain ⟨p, hp⟩ := nth_ex (P := A.lie) (n := A.np) hk
    obtain ⟨p1, p2, p3⟩ := nth_is hp
    obtain ⟨c, hc⟩ := srF_ex O p2
    have hc2 : nth A.occ (A.wide * A.high) k = some c := by
      unfold Ofc.srF at hc
      rw [if_pos p2, p3] at hc
      exact hc
    have c1 := occ_c O ((srF_iff O).mp hc).2.1
    have hk8 : k < 8 := by omega
    obtain ⟨r1, r2⟩ := rd k hk
    have r1 : sI (upA τ0 121 g) 129 k = nI c := by rw [sI_upA, if_neg (by decide), r1, hc2]; rfl
    have r2 : sI (upA τ0 121 g) 130 k = nI p := by rw [sI_upA, if_neg (by decide), r2, hp]; rfl
    have r3 : sI (upA τ0 121 g) 121 (16 + 2 * p + 1) = oI (A.pl p) := by
      rw [sI_upA, if_pos rfl, hg.1 p p1, if_neg (by omega)]
    have M : RMk (upA τ0 121 g) := M1.m.ag (Ag.rf.upA (p := fun b => b = 121) rfl)
    have hb : 16 + 2 * p + 1 < 2640 := by omega
    have hm := mv8 k (by omega)
    refine ⟨fun j => if j = 16 + 2 * p + 1 then nI c else g j, ⟨fun q hq => ?_, fun j hj => ?_⟩, ?_⟩
    · show (if 16 + 2 * q + 1 = 16 + 2 * p + 1 then nI c else g (16 + 2 * q + 1)) = _
      by_cases h : q = p
      · subst h
        rw [if_pos rfl, if_pos ⟨p2, by omega⟩, hc]
        rfl
      · rw [if_neg (by omega), hg.1 q hq]
        by_cases hl : A.lie q = true
        · have : ct A.lie q ≠ k := fun hh => h (ct_inj hl p2 (hh.trans p3.symm))
          by_cases h2 : ct A.lie q < k
          · rw [if_pos ⟨hl, h2⟩, if_pos ⟨hl, by omega⟩]
          · rw [if_neg (fun h => h2 h.2), if_neg (fun h => by have := h.2; omega)]
        · rw [if_neg (fun h => hl h.1), if_neg (fun h => hl h.1)]
    · show (if j = 16 + 2 * p + 1 then nI c else g j) = _
      rw [if_neg (hj p p1)]
      exact hg.2 j hj
    · funext K
      have em : A.mvk (k + 1) = A.mvk k + (if A.pl p = some c then 0 else 1) := by
        show A.mvk k + om (nth A.lie A.np k) _ = _
        rw [hp, om_some, hc]
      rw [em, ← setI_upA]
      have e31 := oI_eq (A.pl p) (pl31 O) (e := c) (by omega)
      generalize upA τ0 121 g = ρ at M r1 r2 r3
      rw [L_306_9, zt_306_9]
      by_cases h : A.pl p = some c
      · simp (disch := omega) only [L_306_38, zt_306_38, L_306_39, zt_306_39, ↓e_iconst0, ↓e_iconst1, ↓e_bipush0, ↓e_bipush1, ↓e_sipush0, ↓e_sipush1, ↓e_ldc0, ↓e_ldc1, ↓e_ldc_w0, ↓e_ldc_w1, ↓e_ldc2, ↓e_lconst0, ↓e_lconst1, ↓e_ldc2_w0, ↓e_ldc2_w1, ↓e_iload, ↓e_iload_n, ↓e_istore, ↓e_istore_n, ↓e_lload, ↓e_lload_n, ↓e_lstore, ↓e_lstore_n, ↓e_aload, ↓e_aload_n, ↓e_astore, ↓e_astore_n, ↓e_iinc0, ↓e_iinc1, ↓e_iadd, ↓e_isub, ↓e_imul, ↓e_iand, ↓e_ior, ↓e_ixor, ↓e_ishl, ↓e_ishr, ↓e_iushr, ↓e_ladd, ↓e_lsub, ↓e_lmul, ↓e_land, ↓e_lor, ↓e_idiv, ↓e_irem, ↓e_ldiv, ↓e_lrem, ↓e_lshl, ↓e_lcmp, ↓e_i2l, ↓e_l2i, ↓e_i2b, ↓e_i2s, ↓e_dup_int, ↓e_pop_int, ↓e_dup_ref, ↓e_pop_ref, ↓e_dup2, ↓e_goto, ↓e_nop, ↓e_ifCond_eq, ↓e_if_icmp_eq, ↓e_ifCond_ne, ↓e_if_icmp_ne, ↓e_ifCond_lt, ↓e_if_icmp_lt, ↓e_ifCond_ge, ↓e_if_icmp_ge, ↓e_ifCond_gt, ↓e_if_icmp_gt, ↓e_ifCond_le, ↓e_if_icmp_le, ↓e_tab, ↓e_look, ↓e_get0, ↓e_get1, ↓e_get2, ↓e_get3, ↓e_put0, ↓e_put1, ↓e_put2, ↓e_put3, ↓e_iaload, ↓e_laload, ↓e_baload, ↓e_aaload, ↓e_iastore, ↓e_lastore, ↓e_bastore, ↓e_aastore, ↓e_alen, ↓e_new, ↓e_newarray, ↓e_anewarray, ↓e_objinit, ↓e_virt1, ↓e_virt2, ↓e_virt3, ↓e_virt4, ↓e_virt5, ↓e_virt6, ↓e_virt7, ↓e_stat0, ↓e_stat1, ↓e_stat2, ↓e_stat3, ↓e_stat4, ↓e_stat5, ↓e_stat6, ↓e_stat7, ↓e_spec1, ↓e_spec2, ↓e_spec3, ↓e_spec4, ↓e_spec5, ↓e_strlen, ↓e_charAt, ↓e_copy, ↓e_iret0, ↓e_iret1, ↓e_lret, ↓e_aret, ↓e_vret, zIsI_int, zIsL_long, zIsA_ref, zInt_int, true_and, and_true, ↓reduceIte, zGet, zSet, zSet2, zEnt, zWid, Value.category, List.map_cons, List.map_nil, List.sum_cons, List.sum_nil, List.replicate, Option.toList, Nat.reduceAdd, Nat.reduceSub, Nat.reduceMul, Nat.reduceLeDiff, Nat.reduceEqDiff, Nat.reduceLT, List.cons_append, List.nil_append, true_or, or_true, or_false, false_or, M.k, M.r0, M.r1, M.r5, M.r6, M.r7, M.r8, M.r9, M.r21, M.r24, M.r25, M.r28, M.r29, M.r30, M.r31, M.r35, M.r36, M.r37, M.r38, M.r40, M.r43, M.r44, M.r45, M.k121, M.k122, M.k123, M.k124, M.k125, M.k126, M.k127, M.k128, M.k129, M.k130, M.k131, M.k132, M.k133, M.k134, M.k135, M.k136, M.k137, M.k138, M.k139, M.k140, M.k141, M.k142, nI_ltI, nI_leI, nI_eq, nI_clamp, zIn_nI, bI_0, nI_add, nI_mul, nI_or, nI_and, nI_shl1, nI_bit, ↓pk_rem, pk_div, Nat.lt_irrefl, Nat.not_lt_zero, reduceCtorEq, hk, hk8, r1, r2, ↓m_whereOfR M (show p < 8 by omega), r3, h, show ∀ k, oI (some k) = nI k from fun _ => rfl, ↓m_paperRow, hb]
      · simp (disch := omega) only [L_306_38, zt_306_38, L_306_39, zt_306_39, ↓e_iconst0, ↓e_iconst1, ↓e_bipush0, ↓e_bipush1, ↓e_sipush0, ↓e_sipush1, ↓e_ldc0, ↓e_ldc1, ↓e_ldc_w0, ↓e_ldc_w1, ↓e_ldc2, ↓e_lconst0, ↓e_lconst1, ↓e_ldc2_w0, ↓e_ldc2_w1, ↓e_iload, ↓e_iload_n, ↓e_istore, ↓e_istore_n, ↓e_lload, ↓e_lload_n, ↓e_lstore, ↓e_lstore_n, ↓e_aload, ↓e_aload_n, ↓e_astore, ↓e_astore_n, ↓e_iinc0, ↓e_iinc1, ↓e_iadd, ↓e_isub, ↓e_imul, ↓e_iand, ↓e_ior, ↓e_ixor, ↓e_ishl, ↓e_ishr, ↓e_iushr, ↓e_ladd, ↓e_lsub, ↓e_lmul, ↓e_land, ↓e_lor, ↓e_idiv, ↓e_irem, ↓e_ldiv, ↓e_lrem, ↓e_lshl, ↓e_lcmp, ↓e_i2l, ↓e_l2i, ↓e_i2b, ↓e_i2s, ↓e_dup_int, ↓e_pop_int, ↓e_dup_ref, ↓e_pop_ref, ↓e_dup2, ↓e_goto, ↓e_nop, ↓e_ifCond_eq, ↓e_if_icmp_eq, ↓e_ifCond_ne, ↓e_if_icmp_ne, ↓e_ifCond_lt, ↓e_if_icmp_lt, ↓e_ifCond_ge, ↓e_if_icmp_ge, ↓e_ifCond_gt, ↓e_if_icmp_gt, ↓e_ifCond_le, ↓e_if_icmp_le, ↓e_tab, ↓e_look, ↓e_get0, ↓e_get1, ↓e_get2, ↓e_get3, ↓e_put0, ↓e_put1, ↓e_put2, ↓e_put3, ↓e_iaload, ↓e_laload, ↓e_baload, ↓e_aaload, ↓e_iastore, ↓e_lastore, ↓e_bastore, ↓e_aastore, ↓e_alen, ↓e_new, ↓e_newarray, ↓e_anewarray, ↓e_objinit, ↓e_virt1, ↓e_virt2, ↓e_virt3, ↓e_virt4, ↓e_virt5, ↓e_virt6, ↓e_virt7, ↓e_stat0, ↓e_stat1, ↓e_stat2, ↓e_stat3, ↓e_stat4, ↓e_stat5, ↓e_stat6, ↓e_stat7, ↓e_spec1, ↓e_spec2, ↓e_spec3, ↓e_spec4, ↓e_spec5, ↓e_strlen, ↓e_charAt, ↓e_copy, ↓e_iret0, ↓e_iret1, ↓e_lret, ↓e_aret, ↓e_vret, zIsI_int, zIsL_long, zIsA_ref, zInt_int, true_and, and_true, ↓reduceIte, zGet, zSet, zSet2, zEnt, zWid, Value.category, List.map_cons, List.map_nil, List.sum_cons, List.sum_nil, List.replicate, Option.toList, Nat.reduceAdd, Nat.reduceSub, Nat.reduceMul, Nat.reduceLeDiff, Nat.reduceEqDiff, Nat.reduceLT, List.cons_append, List.nil_append, true_or, or_true, or_false, false_or, M.k, M.r0, M.r1, M.r5, M.r6, M.r7, M.r8, M.r9, M.r21, M.r24, M.r25, M.r28, M.r29, M.r30, M.r31, M.r35, M.r36, M.r37, M.r38, M.r40, M.r43, M.r44, M.r45, M.k121, M.k122, M.k123, M.k124, M.k125, M.k126, M.k127, M.k128, M.k129, M.k130, M.k131, M.k132, M.k133, M.k134, M.k135, M.k136, M.k137, M.k138, M.k139, M.k140, M.k141, M.k142, nI_ltI, nI_leI, nI_eq, nI_clamp, zIn_nI, bI_0, nI_add, nI_mul, nI_or, nI_and, nI_shl1, nI_bit, ↓pk_rem, pk_div, Nat.lt_irrefl, Nat.not_lt_zero, reduceCtorEq, hk, hk8, r1, r2, ↓m_whereOfR M (show p < 8 by omega), r3, e31, h, ↓m_paperRow, hb]) (fun j => sI τ0 121 j) ⟨fun q hq => by rw [if_neg (by omega)]; exact M1.a17 q hq, fun _ _ => rfl⟩
  have f1 : MF τ0 (upA τ0 121 g) := ⟨Ag.rf.upA (.inr (.inl rfl)), fun _ _ => rfl, fun _ => rfl, fun j hj _ => by
    rw [sI_upA, if_pos rfl]
    exact i2 j (fun q hq => by omega)⟩
  refine ⟨upA τ0 121 g, ⟨(ag0.mono (fun b hb => by omega)).tr (Ag.rf.upA (.inl rfl)), fun j hj => by rw [sI_upA, if_pos rfl]; exact (i2 j (fun q hq => by omega)).trans (ag0.I (by decide) j)⟩, ?_, fun K => ?_⟩
  · refine M1.setPl O _ f1 (fun j _ hj => by rw [sI_upA, if_pos rfl]; exact i2 j hj) (fun q hq => ?_)
    rw [sI_upA, if_pos rfl, i1 q hq]
    by_cases hl : A.lie q = true
    · rw [if_pos ⟨hl, lie_N O hl⟩]
    · rw [if_neg (fun h => hl h.1)]
      unfold Ofc.srF
      rw [if_neg hl]
      unfold Ofc.lie at hl
      cases hp : A.pl q with
      | none => rfl
      | some c => rw [hp] at hl; exact absurd rfl hl
  · have e1 := congrFun e1 K
    rw [upA_self] at e1
    rw [E_306]
    simp (disch := omega) only [L_306_0, zt_306_0, ↓e_iconst0, ↓e_iconst1, ↓e_bipush0, ↓e_bipush1, ↓e_sipush0, ↓e_sipush1, ↓e_ldc0, ↓e_ldc1, ↓e_ldc_w0, ↓e_ldc_w1, ↓e_ldc2, ↓e_lconst0, ↓e_lconst1, ↓e_ldc2_w0, ↓e_ldc2_w1, ↓e_iload, ↓e_iload_n, ↓e_istore, ↓e_istore_n, ↓e_lload, ↓e_lload_n, ↓e_lstore, ↓e_lstore_n, ↓e_aload, ↓e_aload_n, ↓e_astore, ↓e_astore_n, ↓e_iinc0, ↓e_iinc1, ↓e_iadd, ↓e_isub, ↓e_imul, ↓e_iand, ↓e_ior, ↓e_ixor, ↓e_ishl, ↓e_ishr, ↓e_iushr, ↓e_ladd, ↓e_lsub, ↓e_lmul, ↓e_land, ↓e_lor, ↓e_idiv, ↓e_irem, ↓e_ldiv, ↓e_lrem, ↓e_lshl, ↓e_lcmp, ↓e_i2l, ↓e_l2i, ↓e_i2b, ↓e_i2s, ↓e_dup_int, ↓e_pop_int, ↓e_dup_ref, ↓e_pop_ref, ↓e_dup2, ↓e_goto, ↓e_nop, ↓e_ifCond_eq, ↓e_if_icmp_eq, ↓e_ifCond_ne, ↓e_if_icmp_ne, ↓e_ifCond_lt, ↓e_if_icmp_lt, ↓e_ifCond_ge, ↓e_if_icmp_ge, ↓e_ifCond_gt, ↓e_if_icmp_gt, ↓e_ifCond_le, ↓e_if_icmp_le, ↓e_tab, ↓e_look, ↓e_get0, ↓e_get1, ↓e_get2, ↓e_get3, ↓e_put0, ↓e_put1, ↓e_put2, ↓e_put3, ↓e_iaload, ↓e_laload, ↓e_baload, ↓e_aaload, ↓e_iastore, ↓e_lastore, ↓e_bastore, ↓e_aastore, ↓e_alen, ↓e_new, ↓e_newarray, ↓e_anewarray, ↓e_objinit, ↓e_virt1, ↓e_virt2, ↓e_virt3, ↓e_virt4, ↓e_virt5, ↓e_virt6, ↓e_virt7, ↓e_stat0, ↓e_stat1, ↓e_stat2, ↓e_stat3, ↓e_stat4, ↓e_stat5, ↓e_stat6, ↓e_stat7, ↓e_spec1, ↓e_spec2, ↓e_spec3, ↓e_spec4, ↓e_spec5, ↓e_strlen, ↓e_charAt, ↓e_copy, ↓e_iret0, ↓e_iret1, ↓e_lret, ↓e_aret, ↓e_vret, zIsI_int, zIsL_long, zIsA_ref, zInt_int, true_and, and_true, ↓reduceIte, zGet, zSet, zSet2, zEnt, zWid, Value.category, List.map_cons, List.map_nil, List.sum_cons, List.sum_nil, List.replicate, Option.toList, Nat.reduceAdd, Nat.reduceSub, Nat.reduceMul, Nat.reduceLeDiff, Nat.reduceEqDiff, Nat.reduceLT, List.cons_append, List.nil_append, true_or, or_true, or_false, false_or, M.m.k, M.m.r0, M.m.r1, M.m.r5, M.m.r6, M.m.r7, M.m.r8, M.m.r9, M.m.r21, M.m.r24, M.m.r25, M.m.r28, M.m.r29, M.m.r30, M.m.r31, M.m.r35, M.m.r36, M.m.r37, M.m.r38, M.m.r40, M.m.r43, M.m.r44, M.m.r45, M.m.k121, M.m.k122, M.m.k123, M.m.k124, M.m.k125, M.m.k126, M.m.k127, M.m.k128, M.m.k129, M.m.k130, M.m.k131, M.m.k132, M.m.k133, M.m.k134, M.m.k135, M.m.k136, M.m.k137, M.m.k138, M.m.k139, M.m.k140, M.m.k141, M.m.k142, M.a0, M.a1, M.a2, M.a3, M.a4, M.a5, M.a6, nI_ltI, nI_leI, nI_eq, nI_clamp, zIn_nI, bI_0, nI_add, nI_mul, nI_or, nI_and, nI_shl1, nI_bit, ↓pk_rem, pk_div, Nat.lt_irrefl, Nat.not_lt_zero, reduceCtorEq, ↓e0]
    refine Eq.trans e1 ?_
    rw [L_306_9, zt_306_9, mvk_N]
    simp (disch := omega) only [L_306_69, zt_306_69, ↓e_iconst0, ↓e_iconst1, ↓e_bipush0, ↓e_bipush1, ↓e_sipush0, ↓e_sipush1, ↓e_ldc0, ↓e_ldc1, ↓e_ldc_w0, ↓e_ldc_w1, ↓e_ldc2, ↓e_lconst0, ↓e_lconst1, ↓e_ldc2_w0, ↓e_ldc2_w1, ↓e_iload, ↓e_iload_n, ↓e_istore, ↓e_istore_n, ↓e_lload, ↓e_lload_n, ↓e_lstore, ↓e_lstore_n, ↓e_aload, ↓e_aload_n, ↓e_astore, ↓e_astore_n, ↓e_iinc0, ↓e_iinc1, ↓e_iadd, ↓e_isub, ↓e_imul, ↓e_iand, ↓e_ior, ↓e_ixor, ↓e_ishl, ↓e_ishr, ↓e_iushr, ↓e_ladd, ↓e_lsub, ↓e_lmul, ↓e_land, ↓e_lor, ↓e_idiv, ↓e_irem, ↓e_ldiv, ↓e_lrem, ↓e_lshl, ↓e_lcmp, ↓e_i2l, ↓e_l2i, ↓e_i2b, ↓e_i2s, ↓e_dup_int, ↓e_pop_int, ↓e_dup_ref, ↓e_pop_ref, ↓e_dup2, ↓e_goto, ↓e_nop, ↓e_ifCond_eq, ↓e_if_icmp_eq, ↓e_ifCond_ne, ↓e_if_icmp_ne, ↓e_ifCond_lt, ↓e_if_icmp_lt, ↓e_ifCond_ge, ↓e_if_icmp_ge, ↓e_ifCond_gt, ↓e_if_icmp_gt, ↓e_ifCond_le, ↓e_if_icmp_le, ↓e_tab, ↓e_look, ↓e_get0, ↓e_get1, ↓e_get2, ↓e_get3, ↓e_put0, ↓e_put1, ↓e_put2, ↓e_put3, ↓e_iaload, ↓e_laload, ↓e_baload, ↓e_aaload, ↓e_iastore, ↓e_lastore, ↓e_bastore, ↓e_aastore, ↓e_alen, ↓e_new, ↓e_newarray, ↓e_anewarray, ↓e_objinit, ↓e_virt1, ↓e_virt2, ↓e_virt3, ↓e_virt4, ↓e_virt5, ↓e_virt6, ↓e_virt7, ↓e_stat0, ↓e_stat1, ↓e_stat2, ↓e_stat3, ↓e_stat4, ↓e_stat5, ↓e_stat6, ↓e_stat7, ↓e_spec1, ↓e_spec2, ↓e_spec3, ↓e_spec4, ↓e_spec5, ↓e_strlen, ↓e_charAt, ↓e_copy, ↓e_iret0, ↓e_iret1, ↓e_lret, ↓e_aret, ↓e_vret, zIsI_int, zIsL_long, zIsA_ref, zInt_int, true_and, and_true, ↓reduceIte, zGet, zSet, zSet2, zEnt, zWid, Value.category, List.map_cons, List.map_nil, List.sum_cons, List.sum_nil, List.replicate, Option.toList, Nat.reduceAdd, Nat.reduceSub, Nat.reduceMul, Nat.reduceLeDiff, Nat.reduceEqDiff, Nat.reduceLT, List.cons_append, List.nil_append, true_or, or_true, or_false, false_or, nI_ltI, nI_leI, nI_eq, nI_clamp, zIn_nI, bI_0, nI_add, nI_mul, nI_or, nI_and, nI_shl1, nI_bit, ↓pk_rem, pk_div, Nat.lt_irrefl, Nat.not_lt_zero, reduceCtorEq]
end LMS
