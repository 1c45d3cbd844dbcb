/-! THE MODEL LIVES: rows after rows -/
section LM6
variable {d np nc wi hi : Nat} {σ τ ρ : MS} {r t k k2 : Nat} {D : Dy} {s : Lf} {A : Ofc} {K : Option Value → MS → Prop} {R : Prop} {sd : Int32}
theorem FLm.e (h : FLm 0 0 σ τ) : FLm r t σ τ := ⟨h.1, h.2.1, h.2.2.1, h.2.2.2.1, fun j _ => h.2.2.2.2 j (by omega)⟩
theorem doL_stop {o : Op} (h : o.1 = 21) (s : Lf) : doL o s = s.ov := by
  unfold doL
  rw [if_neg (by omega), if_neg (by omega), if_neg (by omega), if_neg (by omega), if_neg (by omega), if_neg (by omega)]
theorem sim_one {α : Type} {g : α → Lf → Lf} {o : Op} (V : OpV np nc (wi * hi) o) (hb : isBk o.1 = false) (hw : D.2.2.2 r = rwO o 0) (hr : r < D.2.1) (hD : D.2.1 ≤ 60) : SimQ d np nc wi hi D (fun s => itL g (o, none) s) r (r + 1) := by
  intro σ s L O ho
  obtain ⟨n18, n17, n16, n19⟩ := kM_no V hb
  have e0 : (D.2.2.2 r).1 = kM o.1 := by rw [hw]; rfl
  have go : ∀ {K : Option Value → MS → Prop} {R : Prop} {sd : Int32}, Hd (d + 8) sd σ r K R → Go (d + 8) sd σ r K R := fun H => Go.of L hD (.inr ⟨hr, by rw [e0]; exact n18, by rw [e0]; omega⟩) (by omega) H
  dsimp only
  have s300 := O.2.2.2.2.2.1
  by_cases h300 : s.2.1 < 300
  · rw [itL_st g _ ho h300, stL_no]
    by_cases h21 : o.1 = 21
    · rw [doL_stop h21]
      refine ⟨_, FLm.s1 (.inr rfl), L.st.ov, fun sd K R h _ => ?_⟩
      rw [h rfl]
      exact go (hd_stop L hD hr h300 (by rw [e0]; exact n19.mpr h21))
    · obtain ⟨τ, w, X, c⟩ := m_does (d := d) L.st O.1 O.2.2.2.2.2.2 (O.V V) hb h21 hr hD hw
      obtain ⟨ρ, f, Lr, h⟩ := hd_do (d := d) L hD hr h300 (by rw [e0]; exact n16) (by rw [e0]; exact fun hh => h21 (n19.mp hh)) (by rw [e0]; exact n17) X c
      refine ⟨ρ, f.e, Lr, fun sd K R _ hh => go (h sd K R (hh ?_))⟩
      rw [doL_ov V hb h21]
      exact ho
  · rw [itL_ct g _ ho h300]
    refine ⟨_, FLm.s2, L.ct, fun sd K R h _ => ?_⟩
    rw [h rfl]
    exact go (hd_cut L hD hr (by omega))
/-- LOOP -/
theorem hd_loop (L : RLm σ D s) (hD : D.2.1 ≤ 60) (hr : r < D.2.1) (h : s.2.1 < 300) (h17 : (D.2.2.2 r).1 = 17) {v : Nat} (hv : 1 ≤ v) (hv2 : v ≤ 99) (h1 : (D.2.2.2 r).2.1 = v) : RLm (setI (setI σ 120 42 (nI (s.2.1 + 1))) 140 r (nI (v - 1))) D s.st ∧ ∀ sd K R, Go (d + 8) sd (setI (setI σ 120 42 (nI (s.2.1 + 1))) 140 r (nI (v - 1))) (r + 1) K R → Hd (d + 8) sd σ r K R := by
  have M := L.m
  have s7 := L.w.s7
  rw [Nat.mul_zero, Nat.zero_add] at s7
  have b0 : 36 + 6 * r < 2640 := by omega
  have b1 : 36 + 6 * r + 1 < 2640 := by omega
  have r80 : r < 80 := by omega
  have L1 := L.st
  have p0 := L1.w.q0 r hr
  have p1 := L1.w.q1 r hr
  rw [Nat.mul_zero, Nat.zero_add] at p0 p1
  rw [h17] at p0
  rw [h1] at p1
  have M1 := L1.m.m
  have c0 : sI (setI σ 120 42 (nI (s.2.1 + 1))) 141 0 = nI (s.st.2.2.1 0) := L1.c 0 (by decide)
  have es : setI (setI σ 120 42 (nI (s.2.1 + 1))) 141 0 (nI (s.st.2.2.1 0)) = setI σ 120 42 (nI (s.2.1 + 1)) := setI_id c0
  have L2 : RLm (setI (setI σ 120 42 (nI (s.2.1 + 1))) 140 r (nI (v - 1))) D s.st := L1.lo
  have p2 := L2.w.q0 r hr
  rw [Nat.mul_zero, Nat.zero_add, h17] at p2
  have ev : nI v - nI 1 = nI (v - 1) := nI_sub hv
  have c := fun (K : Option Value → MS → Prop) => m_does0 (d := d + 7) (K := K) L1.m (k := 17) (.inl rfl) (r := r) (by omega) p0
  refine ⟨L2, fun sd K R G => ?_⟩
  obtain ⟨k2, σ2, B, H⟩ := G
  intro x
  have H := fun z => H (some z)
  dsimp only at H
  rw [L_378_32, zt_378_32]
  cases x <;> simp (disch := omega) only [L_378_61, zt_378_61, L_378_91, zt_378_91, L_378_110, zt_378_110, L_378_111, zt_378_111, L_378_140, zt_378_140, L_378_174, zt_378_174, L_378_177, zt_378_177, ↓e_iconst0, ↓e_iconst1, ↓e_bipush0, ↓e_bipush1, ↓e_sipush0, ↓e_sipush1, ↓e_ldc0, ↓e_ldc1, ↓e_ldc_w0, ↓e_ldc_w1, ↓e_ldc2, ↓e_lconst0, ↓e_lconst1, ↓e_ldc2_w0, ↓e_ldc2_w1, ↓e_iload, ↓e_iload_n, ↓e_istore, ↓e_istore_n, ↓e_lload, ↓e_lload_n, ↓e_lstore, ↓e_lstore_n, ↓e_aload, ↓e_aload_n, ↓e_astore, ↓e_astore_n, ↓e_iinc0, ↓e_iinc1, ↓e_iadd, ↓e_isub, ↓e_imul, ↓e_iand, ↓e_ior, ↓e_ixor, ↓e_ishl, ↓e_ishr, ↓e_iushr, ↓e_ladd, ↓e_lsub, ↓e_lmul, ↓e_land, ↓e_lor, ↓e_idiv, ↓e_irem, ↓e_ldiv, ↓e_lrem, ↓e_lshl, ↓e_lcmp, ↓e_i2l, ↓e_l2i, ↓e_i2b, ↓e_i2s, ↓e_dup_int, ↓e_pop_int, ↓e_dup_ref, ↓e_pop_ref, ↓e_dup2, ↓e_goto, ↓e_nop, ↓e_ifCond_eq, ↓e_if_icmp_eq, ↓e_ifCond_ne, ↓e_if_icmp_ne, ↓e_ifCond_lt, ↓e_if_icmp_lt, ↓e_ifCond_ge, ↓e_if_icmp_ge, ↓e_ifCond_gt, ↓e_if_icmp_gt, ↓e_ifCond_le, ↓e_if_icmp_le, ↓e_tab, ↓e_look, ↓e_get0, ↓e_get1, ↓e_get2, ↓e_get3, ↓e_put0, ↓e_put1, ↓e_put2, ↓e_put3, ↓e_iaload, ↓e_laload, ↓e_baload, ↓e_aaload, ↓e_iastore, ↓e_lastore, ↓e_bastore, ↓e_aastore, ↓e_alen, ↓e_new, ↓e_newarray, ↓e_anewarray, ↓e_objinit, ↓e_virt1, ↓e_virt2, ↓e_virt3, ↓e_virt4, ↓e_virt5, ↓e_virt6, ↓e_virt7, ↓e_stat0, ↓e_stat1, ↓e_stat2, ↓e_stat3, ↓e_stat4, ↓e_stat5, ↓e_stat6, ↓e_stat7, ↓e_spec1, ↓e_spec2, ↓e_spec3, ↓e_spec4, ↓e_spec5, ↓e_strlen, ↓e_charAt, ↓e_copy, ↓e_iret0, ↓e_iret1, ↓e_lret, ↓e_aret, ↓e_vret, zIsI_int, zIsL_long, zIsA_ref, zInt_int, true_and, and_true, ↓reduceIte, zGet, zSet, zSet2, zEnt, zWid, Value.category, List.map_cons, List.map_nil, List.sum_cons, List.sum_nil, List.replicate, Option.toList, Nat.reduceAdd, Nat.reduceSub, Nat.reduceMul, Nat.reduceLeDiff, Nat.reduceEqDiff, Nat.reduceLT, List.cons_append, List.nil_append, true_or, or_true, or_false, false_or, M.m.k, M.m.r0, M.m.r1, M.m.r5, M.m.r6, M.m.r7, M.m.r8, M.m.r9, M.m.r21, M.m.r24, M.m.r25, M.m.r28, M.m.r29, M.m.r30, M.m.r31, M.m.r35, M.m.r36, M.m.r37, M.m.r38, M.m.r40, M.m.r43, M.m.r44, M.m.r45, M.m.k121, M.m.k122, M.m.k123, M.m.k124, M.m.k125, M.m.k126, M.m.k127, M.m.k128, M.m.k129, M.m.k130, M.m.k131, M.m.k132, M.m.k133, M.m.k134, M.m.k135, M.m.k136, M.m.k137, M.m.k138, M.m.k139, M.m.k140, M.m.k141, M.m.k142, M.a0, M.a1, M.a2, M.a3, M.a4, M.a5, M.a6, M1.k, M1.r0, M1.r1, M1.r5, M1.r6, M1.r7, M1.r8, M1.r9, M1.r21, M1.r24, M1.r25, M1.r28, M1.r29, M1.r30, M1.r31, M1.r35, M1.r36, M1.r37, M1.r38, M1.r40, M1.r43, M1.r44, M1.r45, M1.k121, M1.k122, M1.k123, M1.k124, M1.k125, M1.k126, M1.k127, M1.k128, M1.k129, M1.k130, M1.k131, M1.k132, M1.k133, M1.k134, M1.k135, M1.k136, M1.k137, M1.k138, M1.k139, M1.k140, M1.k141, M1.k142, nI_ltI, nI_leI, nI_eq, nI_clamp, zIn_nI, bI_0, nI_add, nI_mul, nI_or, nI_and, nI_shl1, nI_bit, ↓pk_rem, pk_div, Nat.lt_irrefl, Nat.not_lt_zero, reduceCtorEq, sK_setI, sR_setI, sL_setI, s7, hr, L.d42, show ¬ s.2.1 = 300 from by omega, b0, b1, r80, p0, p1, p2, c0, ↓c, Nat.add_zero, es, ev, ↓m_behindC B, ↓H]
/-- a test -/
theorem hd_test (L : RLm σ D s) (O : OfcOk s.1) {o : Op} (V : OpV s.1.np s.1.nc (s.1.wide * s.1.high) o) (hk : o.1 = 9 ∨ o.1 = 17 ∨ o.1 = 18) (hD : D.2.1 ≤ 60) (hr : r < D.2.1) (h : s.2.1 < 300) (hw : D.2.2.2 r = rwO o t) (ht : t < 100) : ∀ sd K R, Go (d + 8) sd (setI σ 120 42 (nI (s.2.1 + 1))) (if hold o s.1 = true then r + 1 else t + 1) K R → Hd (d + 8) sd σ r K R := by
  have M := L.m
  have s7 := L.w.s7
  rw [Nat.mul_zero, Nat.zero_add] at s7
  have b0 : 36 + 6 * r < 2640 := by omega
  have b4 : 36 + 6 * r + 4 < 2640 := by omega
  have L1 := L.st
  have p0 := L1.w.q0 r hr
  have p4 := L1.w.q4 r hr
  rw [Nat.mul_zero, Nat.zero_add, hw] at p0 p4
  have p4 : sI (setI σ 120 42 (nI (s.2.1 + 1))) 121 (36 + 6 * r + 4) = nI t := p4
  have hkk : kM o.1 = 1606 ∨ kM o.1 = 1620 ∨ kM o.1 = 1621 := by
    rcases hk with h | h | h
    · rw [h]; decide
    · rw [h]; decide
    · rw [h]; decide
  have p0 : sI (setI σ 120 42 (nI (s.2.1 + 1))) 121 (36 + 6 * r) = nI (kM o.1) := p0
  have M1 := L1.m.m
  have c0 : sI (setI σ 120 42 (nI (s.2.1 + 1))) 141 0 = nI (s.st.2.2.1 0) := L1.c 0 (by decide)
  have es : setI (setI σ 120 42 (nI (s.2.1 + 1))) 141 0 (nI (s.st.2.2.1 0)) = setI σ 120 42 (nI (s.2.1 + 1)) := setI_id c0
  have c := fun (K : Option Value → MS → Prop) => m_does0 (d := d + 7) (K := K) L1.m (k := kM o.1) (.inr hkk) (r := r) (by omega) p0
  have ch := fun (K : Option Value → MS → Prop) => m_holds (d := d + 2) (K := K) L1 O V hk hr hD hw
  intro sd K R G
  obtain ⟨k2, σ2, B, H⟩ := G
  intro x
  have H := fun z => H (some z)
  dsimp only at H
  have eh : hold o s.st.1 = hold o s.1 := rfl
  rw [eh] at ch
  rw [L_378_32, zt_378_32]
  generalize kM o.1 = kk at *
  cases hh : hold o s.1 with
  | true =>
    rw [hh] at B ch
    rw [if_pos rfl] at B
    cases x <;> simp (disch := omega) only [L_378_61, zt_378_61, L_378_91, zt_378_91, L_378_110, zt_378_110, L_378_111, zt_378_111, L_378_140, zt_378_140, L_378_174, zt_378_174, L_378_177, zt_378_177, ↓e_iconst0, ↓e_iconst1, ↓e_bipush0, ↓e_bipush1, ↓e_sipush0, ↓e_sipush1, ↓e_ldc0, ↓e_ldc1, ↓e_ldc_w0, ↓e_ldc_w1, ↓e_ldc2, ↓e_lconst0, ↓e_lconst1, ↓e_ldc2_w0, ↓e_ldc2_w1, ↓e_iload, ↓e_iload_n, ↓e_istore, ↓e_istore_n, ↓e_lload, ↓e_lload_n, ↓e_lstore, ↓e_lstore_n, ↓e_aload, ↓e_aload_n, ↓e_astore, ↓e_astore_n, ↓e_iinc0, ↓e_iinc1, ↓e_iadd, ↓e_isub, ↓e_imul, ↓e_iand, ↓e_ior, ↓e_ixor, ↓e_ishl, ↓e_ishr, ↓e_iushr, ↓e_ladd, ↓e_lsub, ↓e_lmul, ↓e_land, ↓e_lor, ↓e_idiv, ↓e_irem, ↓e_ldiv, ↓e_lrem, ↓e_lshl, ↓e_lcmp, ↓e_i2l, ↓e_l2i, ↓e_i2b, ↓e_i2s, ↓e_dup_int, ↓e_pop_int, ↓e_dup_ref, ↓e_pop_ref, ↓e_dup2, ↓e_goto, ↓e_nop, ↓e_ifCond_eq, ↓e_if_icmp_eq, ↓e_ifCond_ne, ↓e_if_icmp_ne, ↓e_ifCond_lt, ↓e_if_icmp_lt, ↓e_ifCond_ge, ↓e_if_icmp_ge, ↓e_ifCond_gt, ↓e_if_icmp_gt, ↓e_ifCond_le, ↓e_if_icmp_le, ↓e_tab, ↓e_look, ↓e_get0, ↓e_get1, ↓e_get2, ↓e_get3, ↓e_put0, ↓e_put1, ↓e_put2, ↓e_put3, ↓e_iaload, ↓e_laload, ↓e_baload, ↓e_aaload, ↓e_iastore, ↓e_lastore, ↓e_bastore, ↓e_aastore, ↓e_alen, ↓e_new, ↓e_newarray, ↓e_anewarray, ↓e_objinit, ↓e_virt1, ↓e_virt2, ↓e_virt3, ↓e_virt4, ↓e_virt5, ↓e_virt6, ↓e_virt7, ↓e_stat0, ↓e_stat1, ↓e_stat2, ↓e_stat3, ↓e_stat4, ↓e_stat5, ↓e_stat6, ↓e_stat7, ↓e_spec1, ↓e_spec2, ↓e_spec3, ↓e_spec4, ↓e_spec5, ↓e_strlen, ↓e_charAt, ↓e_copy, ↓e_iret0, ↓e_iret1, ↓e_lret, ↓e_aret, ↓e_vret, zIsI_int, zIsL_long, zIsA_ref, zInt_int, true_and, and_true, ↓reduceIte, zGet, zSet, zSet2, zEnt, zWid, Value.category, List.map_cons, List.map_nil, List.sum_cons, List.sum_nil, List.replicate, Option.toList, Nat.reduceAdd, Nat.reduceSub, Nat.reduceMul, Nat.reduceLeDiff, Nat.reduceEqDiff, Nat.reduceLT, List.cons_append, List.nil_append, true_or, or_true, or_false, false_or, M.m.k, M.m.r0, M.m.r1, M.m.r5, M.m.r6, M.m.r7, M.m.r8, M.m.r9, M.m.r21, M.m.r24, M.m.r25, M.m.r28, M.m.r29, M.m.r30, M.m.r31, M.m.r35, M.m.r36, M.m.r37, M.m.r38, M.m.r40, M.m.r43, M.m.r44, M.m.r45, M.m.k121, M.m.k122, M.m.k123, M.m.k124, M.m.k125, M.m.k126, M.m.k127, M.m.k128, M.m.k129, M.m.k130, M.m.k131, M.m.k132, M.m.k133, M.m.k134, M.m.k135, M.m.k136, M.m.k137, M.m.k138, M.m.k139, M.m.k140, M.m.k141, M.m.k142, M.a0, M.a1, M.a2, M.a3, M.a4, M.a5, M.a6, M1.k, M1.r0, M1.r1, M1.r5, M1.r6, M1.r7, M1.r8, M1.r9, M1.r21, M1.r24, M1.r25, M1.r28, M1.r29, M1.r30, M1.r31, M1.r35, M1.r36, M1.r37, M1.r38, M1.r40, M1.r43, M1.r44, M1.r45, M1.k121, M1.k122, M1.k123, M1.k124, M1.k125, M1.k126, M1.k127, M1.k128, M1.k129, M1.k130, M1.k131, M1.k132, M1.k133, M1.k134, M1.k135, M1.k136, M1.k137, M1.k138, M1.k139, M1.k140, M1.k141, M1.k142, nI_ltI, nI_leI, nI_eq, nI_clamp, zIn_nI, bI_0, nI_add, nI_mul, nI_or, nI_and, nI_shl1, nI_bit, ↓pk_rem, pk_div, Nat.lt_irrefl, Nat.not_lt_zero, reduceCtorEq, sK_setI, sR_setI, sL_setI, s7, hr, L.d42, show ¬ s.2.1 = 300 from by omega, b0, p0, c0, show ¬ kk = 19 from by omega, show ¬ kk = 17 from by omega, show ¬ kk < 1600 from by omega, ↓c, Nat.add_zero, es, ↓ch, show bI true = nI 1 from rfl, ↓m_behindC B, ↓H]
  | false =>
    rw [hh] at B ch
    rw [if_neg Bool.false_ne_true] at B
    cases x <;> simp (disch := omega) only [L_378_61, zt_378_61, L_378_91, zt_378_91, L_378_110, zt_378_110, L_378_111, zt_378_111, L_378_140, zt_378_140, L_378_174, zt_378_174, L_378_177, zt_378_177, ↓e_iconst0, ↓e_iconst1, ↓e_bipush0, ↓e_bipush1, ↓e_sipush0, ↓e_sipush1, ↓e_ldc0, ↓e_ldc1, ↓e_ldc_w0, ↓e_ldc_w1, ↓e_ldc2, ↓e_lconst0, ↓e_lconst1, ↓e_ldc2_w0, ↓e_ldc2_w1, ↓e_iload, ↓e_iload_n, ↓e_istore, ↓e_istore_n, ↓e_lload, ↓e_lload_n, ↓e_lstore, ↓e_lstore_n, ↓e_aload, ↓e_aload_n, ↓e_astore, ↓e_astore_n, ↓e_iinc0, ↓e_iinc1, ↓e_iadd, ↓e_isub, ↓e_imul, ↓e_iand, ↓e_ior, ↓e_ixor, ↓e_ishl, ↓e_ishr, ↓e_iushr, ↓e_ladd, ↓e_lsub, ↓e_lmul, ↓e_land, ↓e_lor, ↓e_idiv, ↓e_irem, ↓e_ldiv, ↓e_lrem, ↓e_lshl, ↓e_lcmp, ↓e_i2l, ↓e_l2i, ↓e_i2b, ↓e_i2s, ↓e_dup_int, ↓e_pop_int, ↓e_dup_ref, ↓e_pop_ref, ↓e_dup2, ↓e_goto, ↓e_nop, ↓e_ifCond_eq, ↓e_if_icmp_eq, ↓e_ifCond_ne, ↓e_if_icmp_ne, ↓e_ifCond_lt, ↓e_if_icmp_lt, ↓e_ifCond_ge, ↓e_if_icmp_ge, ↓e_ifCond_gt, ↓e_if_icmp_gt, ↓e_ifCond_le, ↓e_if_icmp_le, ↓e_tab, ↓e_look, ↓e_get0, ↓e_get1, ↓e_get2, ↓e_get3, ↓e_put0, ↓e_put1, ↓e_put2, ↓e_put3, ↓e_iaload, ↓e_laload, ↓e_baload, ↓e_aaload, ↓e_iastore, ↓e_lastore, ↓e_bastore, ↓e_aastore, ↓e_alen, ↓e_new, ↓e_newarray, ↓e_anewarray, ↓e_objinit, ↓e_virt1, ↓e_virt2, ↓e_virt3, ↓e_virt4, ↓e_virt5, ↓e_virt6, ↓e_virt7, ↓e_stat0, ↓e_stat1, ↓e_stat2, ↓e_stat3, ↓e_stat4, ↓e_stat5, ↓e_stat6, ↓e_stat7, ↓e_spec1, ↓e_spec2, ↓e_spec3, ↓e_spec4, ↓e_spec5, ↓e_strlen, ↓e_charAt, ↓e_copy, ↓e_iret0, ↓e_iret1, ↓e_lret, ↓e_aret, ↓e_vret, zIsI_int, zIsL_long, zIsA_ref, zInt_int, true_and, and_true, ↓reduceIte, zGet, zSet, zSet2, zEnt, zWid, Value.category, List.map_cons, List.map_nil, List.sum_cons, List.sum_nil, List.replicate, Option.toList, Nat.reduceAdd, Nat.reduceSub, Nat.reduceMul, Nat.reduceLeDiff, Nat.reduceEqDiff, Nat.reduceLT, List.cons_append, List.nil_append, true_or, or_true, or_false, false_or, M.m.k, M.m.r0, M.m.r1, M.m.r5, M.m.r6, M.m.r7, M.m.r8, M.m.r9, M.m.r21, M.m.r24, M.m.r25, M.m.r28, M.m.r29, M.m.r30, M.m.r31, M.m.r35, M.m.r36, M.m.r37, M.m.r38, M.m.r40, M.m.r43, M.m.r44, M.m.r45, M.m.k121, M.m.k122, M.m.k123, M.m.k124, M.m.k125, M.m.k126, M.m.k127, M.m.k128, M.m.k129, M.m.k130, M.m.k131, M.m.k132, M.m.k133, M.m.k134, M.m.k135, M.m.k136, M.m.k137, M.m.k138, M.m.k139, M.m.k140, M.m.k141, M.m.k142, M.a0, M.a1, M.a2, M.a3, M.a4, M.a5, M.a6, M1.k, M1.r0, M1.r1, M1.r5, M1.r6, M1.r7, M1.r8, M1.r9, M1.r21, M1.r24, M1.r25, M1.r28, M1.r29, M1.r30, M1.r31, M1.r35, M1.r36, M1.r37, M1.r38, M1.r40, M1.r43, M1.r44, M1.r45, M1.k121, M1.k122, M1.k123, M1.k124, M1.k125, M1.k126, M1.k127, M1.k128, M1.k129, M1.k130, M1.k131, M1.k132, M1.k133, M1.k134, M1.k135, M1.k136, M1.k137, M1.k138, M1.k139, M1.k140, M1.k141, M1.k142, nI_ltI, nI_leI, nI_eq, nI_clamp, zIn_nI, bI_0, nI_add, nI_mul, nI_or, nI_and, nI_shl1, nI_bit, ↓pk_rem, pk_div, Nat.lt_irrefl, Nat.not_lt_zero, reduceCtorEq, sK_setI, sR_setI, sL_setI, s7, hr, L.d42, show ¬ s.2.1 = 300 from by omega, b0, b4, p0, p4, c0, show ¬ kk = 19 from by omega, show ¬ kk = 17 from by omega, show ¬ kk < 1600 from by omega, ↓c, Nat.add_zero, es, ↓ch, show bI false = nI 0 from rfl, ↓m_behindC B, ↓H]
theorem sim_body {f : Lf → Lf} (F : SimQ d np nc wi hi D f (r + 1) t) (Fo : ∀ s : Lf, s.2.2.2.2.1 = true → f s = s) (Fk : ∀ s, LOk np nc wi hi s → LOk np nc wi hi (f s)) (hD : D.2.1 ≤ 60) (hrt : r < t) (ht : t < D.2.1) (h17 : (D.2.2.2 r).1 = 17) (he : D.2.2.2 t = (18, 0, 0, r, 0)) : ∀ (m : Nat) (σ : MS) (s : Lf), m < 100 → RLm σ D s → LOk np nc wi hi s → s.2.2.2.2.1 = false → sI σ 140 r = nI m → ∃ τ, FLm r (t + 1) σ τ ∧ RLm τ D (itn f (m + 1) s) ∧ ∀ sd K R, ((itn f (m + 1) s).2.2.2.2.1 = true → R = K none τ) → ((itn f (m + 1) s).2.2.2.2.1 = false → Go (d + 8) sd τ (t + 1) K R) → Go (d + 8) sd σ (r + 1) K R := by
  intro m
  induction m with
  | zero =>
    intro σ s _ L O ho h0
    obtain ⟨τ, f1, L1, c⟩ := F σ s L O ho
    have e1 : itn f (0 + 1) s = f s := rfl
    rw [e1]
    refine ⟨τ, f1.mono (by omega) (by omega), L1, fun sd K R h1 h2 => c sd K R h1 (fun h => ?_)⟩
    obtain ⟨k2, σ2, B, H⟩ := h2 h
    have e : sI τ 140 r = nI 0 := (f1.2.2.2.2 r (by omega)).trans h0
    exact ⟨k2, σ2, Beh.end (n := 0) L1.m L1.w hD ht he (by omega) (by rw [h17]; decide) (.inr ⟨h17, by decide, e, .inl ⟨rfl, B⟩⟩), H⟩
  | succ m ih =>
    intro σ s hm L O ho h0
    obtain ⟨τ, f1, L1, c⟩ := F σ s L O ho
    have e1 : itn f (m + 1 + 1) s = itn f (m + 1) (f s) := rfl
    rw [e1]
    cases hf : (f s).2.2.2.2.1 with
    | true =>
      rw [itn_fix (Fo _ hf)]
      refine ⟨τ, f1.mono (by omega) (by omega), L1, fun sd K R h1 h2 => c sd K R h1 (fun h => ?_)⟩
      rw [hf] at h
      cases h
    | false =>
      have e : sI τ 140 r = nI (m + 1) := (f1.2.2.2.2 r (by omega)).trans h0
      have L2 : RLm (setI τ 140 r (nI (m + 1 - 1))) D (f s) := L1.lo
      obtain ⟨ρ, f2, L3, c2⟩ := ih (setI τ 140 r (nI (m + 1 - 1))) (f s) (by omega) L2 (Fk s O) hf (by rw [sI_setI, if_pos ⟨rfl, rfl⟩]; rfl)
      refine ⟨ρ, ((f1.mono (by omega) (by omega)).tr (FLm.s3 (by omega) (by omega))).tr f2, L3, fun sd K R h1 h2 => c sd K R (fun h => ?_) (fun h => ?_)⟩
      · rw [hf] at h; cases h
      · obtain ⟨k2, σ2, B, H⟩ := c2 sd K R h1 h2
        exact ⟨k2, σ2, Beh.end (n := m + 1) L1.m L1.w hD ht he (by omega) (by rw [h17]; decide) (.inr ⟨h17, by omega, e, .inr ⟨by omega, B⟩⟩), H⟩
theorem sim_blk {α : Type} {g : α → Lf → Lf} {o : Op} {I : α} (F : SimQ d np nc wi hi D (g I) (r + 1) t) (Fo : ∀ s : Lf, s.2.2.2.2.1 = true → g I s = s) (Fk : ∀ s, LOk np nc wi hi s → LOk np nc wi hi (g I s)) (V : OpV np nc (wi * hi) o) (hb : isBk o.1 = true) (hw : D.2.2.2 r = rwO o t) (he : D.2.2.2 t = (18, 0, 0, r, 0)) (hrt : r < t) (ht : t < D.2.1) (hD : D.2.1 ≤ 60) : SimQ d np nc wi hi D (fun s => itL g (o, some I) s) r (t + 1) := by
  intro σ s L O ho
  have e0 : (D.2.2.2 r).1 = kM o.1 := by rw [hw]; rfl
  have hk : o.1 = 19 ∨ o.1 = 9 ∨ o.1 = 17 ∨ o.1 = 18 := by
    unfold isBk at hb
    simp only [Bool.or_eq_true, decide_eq_true_eq] at hb
    omega
  have n18 : kM o.1 ≠ 18 ∧ kM o.1 < 2 ^ 31 := by rcases hk with h | h | h | h <;> rw [h] <;> decide
  have go : ∀ {K : Option Value → MS → Prop} {R : Prop} {sd : Int32}, Hd (d + 8) sd σ r K R → Go (d + 8) sd σ r K R := fun H => Go.of L hD (.inr ⟨by omega, by rw [e0]; exact n18.1, by rw [e0]; exact n18.2⟩) (by omega) H
  dsimp only
  have s300 := O.2.2.2.2.2.1
  by_cases h300 : s.2.1 < 300
  · rw [itL_st g _ ho h300]
    by_cases h19 : o.1 = 19
    · rw [stL_lo g I _ h19]
      have h17 : (D.2.2.2 r).1 = 17 := by rw [e0, h19]; rfl
      have hv : ∃ v, o.2.1.getD 0 = v ∧ 1 ≤ v ∧ v ≤ 99 ∧ (D.2.2.2 r).2.1 = v := by
        obtain ⟨k, b, c⟩ := o
        dsimp only at h19
        subst h19
        rcases V with ⟨h1 | h1 | h1, _⟩ | ⟨h1, _⟩ | ⟨h1, _⟩ | ⟨h1, _⟩ | ⟨h1, v, v1, v2, v3⟩ | ⟨h1, _⟩ | ⟨h1 | h1 | h1, _⟩
        · cases h1
        · cases h1
        · cases h1
        · cases h1
        · cases h1
        · cases h1
        · cases v3
          exact ⟨v, rfl, v1, v2, by rw [hw]; rfl⟩
        · cases h1
        · cases h1
        · cases h1
        · cases h1
      obtain ⟨v, ev, v1, v2, h1⟩ := hv
      rw [ev]
      obtain ⟨L2, c⟩ := hd_loop (d := d) L hD (by omega) h300 h17 v1 v2 h1
      obtain ⟨ρ, f2, L3, c2⟩ := sim_body F Fo Fk hD hrt ht h17 he (v - 1) _ s.st (by omega) L2 (O.st h300) ho (by rw [sI_setI, if_pos ⟨rfl, rfl⟩])
      have e1 : v - 1 + 1 = v := by omega
      rw [e1] at L3 c2
      exact ⟨ρ, ((FLm.s1 (.inr rfl)).tr (FLm.s3 (by omega) (by omega))).tr f2, L3, fun sd K R h1 h2 => go (c sd K R (c2 sd K R h1 h2))⟩
    · rw [stL_te g I _ h19]
      have hk2 := hk.resolve_left h19
      have n17 : kM o.1 ≠ 17 := by rcases hk2 with h | h | h <;> rw [h] <;> decide
      have c := hd_test (d := d) L O.1 (O.V V) hk2 hD (by omega) h300 hw (by omega)
      have eh : hold o s.st.1 = hold o s.1 := rfl
      rw [eh]
      cases hh : hold o s.1 with
      | false =>
        rw [if_neg Bool.false_ne_true]
        rw [hh, if_neg Bool.false_ne_true] at c
        exact ⟨_, FLm.s1 (.inr rfl), L.st, fun sd K R _ h2 => go (c sd K R (h2 ho))⟩
      | true =>
        rw [if_pos rfl]
        rw [hh, if_pos rfl] at c
        obtain ⟨ρ, f2, L3, c2⟩ := F _ s.st L.st (O.st h300) ho
        refine ⟨ρ, (FLm.s1 (.inr rfl)).tr (f2.mono (by omega) (by omega)), L3, fun sd K R h1 h2 => go (c sd K R (c2 sd K R h1 (fun h => ?_)))⟩
        obtain ⟨k2, σ2, B, H⟩ := h2 h
        exact ⟨k2, σ2, Beh.end (n := 0) L3.m L3.w hD ht he (by omega) (by rw [e0]; exact n18.2) (.inl ⟨by rw [e0]; exact n17, B⟩), H⟩
  · rw [itL_ct g _ ho h300]
    refine ⟨_, FLm.s2, L.ct, fun sd K R h _ => ?_⟩
    rw [h rfl]
    exact go (hd_cut L hD (by omega) (by omega))
theorem sim_list {α : Type} {g : α → Nat → Nat → Nat → Nat → Prop} {f : α → Lf → Lf} (Le : ∀ I i j r s, g I i j r s → i ≤ j ∧ r ≤ s) (F : ∀ I i j r t, g I i j r t → t ≤ D.2.1 → SimQ d np nc wi hi D (f I) r t) (Fo : ∀ I s, s.2.2.2.2.1 = true → f I s = s) (Fk : ∀ I i j r t, g I i j r t → ∀ s, LOk np nc wi hi s → LOk np nc wi hi (f I s)) (hD : D.2.1 ≤ 60) : ∀ (l : List (Op × Option α)) (i j r t : Nat), layL g (OpV np nc (wi * hi)) D l i j r t → t ≤ D.2.1 → SimQ d np nc wi hi D (runL f l) r t := by
  intro l
  induction l with
  | nil =>
    intro i j r t h ht σ s L O ho
    obtain ⟨-, rfl⟩ := h
    exact ⟨σ, FLm.rf, L, fun sd K R _ h2 => h2 ho⟩
  | cons y l ih =>
    intro i j r t h ht σ s L O ho
    obtain ⟨e, q, h1, h2⟩ := h
    have l1 := itm_le Le h1
    have l2 := layL_le Le l h2
    have S1 : SimQ d np nc wi hi D (fun s => itL f y s) r q := by
      obtain ⟨o, b⟩ := y
      obtain ⟨v1, v2, v3⟩ := h1
      cases b with
      | none =>
        obtain ⟨w1, w2, w3, w4⟩ := v3
        subst w3
        exact sim_one v1 w4 w1 (by omega) hD
      | some I =>
        obtain ⟨p, w1, w2, w3, w4, w5⟩ := v3
        subst w4
        have := Le _ _ _ _ _ w3
        exact sim_blk (F I _ _ _ _ w3 (by omega)) (Fo I) (Fk I _ _ _ _ w3) v1 w5 w1 w2 (by omega) (by omega) hD
    obtain ⟨τ, f1, L1, c1⟩ := S1 σ s L O ho
    dsimp only at L1 c1
    have O1 : LOk np nc wi hi (itL f y s) := itL_ok Fk h1 O
    show ∃ τ, FLm r t σ τ ∧ RLm τ D (runL f l (itL f y s)) ∧ ∀ sd K R, ((runL f l (itL f y s)).2.2.2.2.1 = true → R = K none τ) → ((runL f l (itL f y s)).2.2.2.2.1 = false → Go (d + 8) sd τ t K R) → Go (d + 8) sd σ r K R
    cases hf : (itL f y s).2.2.2.2.1 with
    | true =>
      rw [runL_over hf]
      refine ⟨τ, f1.mono (by omega) (by omega), L1, fun sd K R h1 _ => c1 sd K R h1 (fun h => ?_)⟩
      rw [hf] at h
      cases h
    | false =>
      obtain ⟨ρ, f2, L2, c2⟩ := ih e j q t h2 ht τ _ L1 O1 hf
      refine ⟨ρ, (f1.mono (by omega) (by omega)).tr (f2.mono (by omega) (by omega)), L2, fun sd K R h1 h2 => c1 sd K R (fun h => ?_) (fun _ => c2 sd K R h1 h2)⟩
      rw [hf] at h
      cases h
theorem sim_run (hD : D.2.1 ≤ 60) : ∀ (n : Nat) (P : Pg n) (i j r t : Nat), Lay (OpV np nc (wi * hi)) D n P i j r t → t ≤ D.2.1 → SimQ d np nc wi hi D (run n P) r t := by
  intro n
  induction n with
  | zero => intro P i j r t h; exact absurd h id
  | succ n ih =>
    intro P i j r t h ht
    exact sim_list (g := Lay (OpV np nc (wi * hi)) D n) (fun I i j r s h => Lay_le n I h) (fun I i j r t h ht => ih I i j r t h ht) (fun I s h => run_over h n I) (fun I i j r t h s L => run_ok n I s h L) hD P i j r t h ht
end LM6
