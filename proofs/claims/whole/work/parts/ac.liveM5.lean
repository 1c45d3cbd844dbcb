/-! THE MODEL LIVES: one row -/
/-- from the head of the Model's loop, at row k, all ends as R says -/
def Hd (d : Nat) (sd : Int32) (σ : MS) (k : Nat) (K : Option Value → MS → Prop) (R : Prop) : Prop := ∀ (x : Option Int32), zX d 378 32 [.ref 120, .int sd, .int (nI k), (match x with | none => .null | some z => .int z)] [] σ K = R
/-- from row k, ends there passed over -/
def Go (d : Nat) (sd : Int32) (σ : MS) (k : Nat) (K : Option Value → MS → Prop) (R : Prop) : Prop := ∃ k2 σ2, Beh σ k k2 σ2 ∧ Hd d sd σ2 k2 K R
def SimQ (d np nc wi hi : Nat) (D : Dy) (f : Lf → Lf) (r t : Nat) : Prop := ∀ σ s, RLm σ D s → LOk np nc wi hi s → s.2.2.2.2.1 = false → ∃ τ, FLm r t σ τ ∧ RLm τ D (f s) ∧ ∀ sd K R, ((f s).2.2.2.2.1 = true → R = K none τ) → ((f s).2.2.2.2.1 = false → Go (d + 8) sd τ t K R) → Go (d + 8) sd σ r K R
section LM5
variable {d np nc wi hi : Nat} {σ τ ρ : MS} {r t k k2 : Nat} {D : Dy} {s : Lf} {A : Ofc} {K : Option Value → MS → Prop} {R : Prop} {sd : Int32}
theorem m_behindC {σ2 : MS} (B : Beh σ k k2 σ2) : zC (d + 1) 377 [.ref 120, .int (nI k)] σ K = K (some (.int (nI k2))) σ2 := by
  have b := B d (nI k) none K
  dsimp only at b
  rw [E_377]
  simp (disch := omega) only [L_377_0, zt_377_0, ↓e_iconst0, ↓e_iconst1, ↓e_bipush0, ↓e_bipush1, ↓e_sipush0, ↓e_sipush1, ↓e_ldc0, ↓e_ldc1, ↓e_ldc_w0, ↓e_ldc_w1, ↓e_ldc2, ↓e_lconst0, ↓e_lconst1, ↓e_ldc2_w0, ↓e_ldc2_w1, ↓e_iload, ↓e_iload_n, ↓e_istore, ↓e_istore_n, ↓e_lload, ↓e_lload_n, ↓e_lstore, ↓e_lstore_n, ↓e_aload, ↓e_aload_n, ↓e_astore, ↓e_astore_n, ↓e_iinc0, ↓e_iinc1, ↓e_iadd, ↓e_isub, ↓e_imul, ↓e_iand, ↓e_ior, ↓e_ixor, ↓e_ishl, ↓e_ishr, ↓e_iushr, ↓e_ladd, ↓e_lsub, ↓e_lmul, ↓e_land, ↓e_lor, ↓e_idiv, ↓e_irem, ↓e_ldiv, ↓e_lrem, ↓e_lshl, ↓e_lcmp, ↓e_i2l, ↓e_l2i, ↓e_i2b, ↓e_i2s, ↓e_dup_int, ↓e_pop_int, ↓e_dup_ref, ↓e_pop_ref, ↓e_dup2, ↓e_goto, ↓e_nop, ↓e_ifCond_eq, ↓e_if_icmp_eq, ↓e_ifCond_ne, ↓e_if_icmp_ne, ↓e_ifCond_lt, ↓e_if_icmp_lt, ↓e_ifCond_ge, ↓e_if_icmp_ge, ↓e_ifCond_gt, ↓e_if_icmp_gt, ↓e_ifCond_le, ↓e_if_icmp_le, ↓e_tab, ↓e_look, ↓e_get0, ↓e_get1, ↓e_get2, ↓e_get3, ↓e_put0, ↓e_put1, ↓e_put2, ↓e_put3, ↓e_iaload, ↓e_laload, ↓e_baload, ↓e_aaload, ↓e_iastore, ↓e_lastore, ↓e_bastore, ↓e_aastore, ↓e_alen, ↓e_new, ↓e_newarray, ↓e_anewarray, ↓e_objinit, ↓e_virt1, ↓e_virt2, ↓e_virt3, ↓e_virt4, ↓e_virt5, ↓e_virt6, ↓e_virt7, ↓e_stat0, ↓e_stat1, ↓e_stat2, ↓e_stat3, ↓e_stat4, ↓e_stat5, ↓e_stat6, ↓e_stat7, ↓e_spec1, ↓e_spec2, ↓e_spec3, ↓e_spec4, ↓e_spec5, ↓e_strlen, ↓e_charAt, ↓e_copy, ↓e_iret0, ↓e_iret1, ↓e_lret, ↓e_aret, ↓e_vret, zIsI_int, zIsL_long, zIsA_ref, zInt_int, true_and, and_true, ↓reduceIte, zGet, zSet, zSet2, zEnt, zWid, Value.category, List.map_cons, List.map_nil, List.sum_cons, List.sum_nil, List.replicate, Option.toList, Nat.reduceAdd, Nat.reduceSub, Nat.reduceMul, Nat.reduceLeDiff, Nat.reduceEqDiff, Nat.reduceLT, List.cons_append, List.nil_append, true_or, or_true, or_false, false_or, nI_ltI, nI_leI, nI_eq, nI_clamp, zIn_nI, bI_0, nI_add, nI_mul, nI_or, nI_and, nI_shl1, nI_bit, ↓pk_rem, pk_div, Nat.lt_irrefl, Nat.not_lt_zero, reduceCtorEq, ↓b]
theorem kM_no {x : Op} {np nc cl : Nat} (V : OpV np nc cl x) (hb : isBk x.1 = false) : kM x.1 ≠ 18 ∧ kM x.1 ≠ 17 ∧ kM x.1 < 1600 ∧ (kM x.1 = 19 ↔ x.1 = 21) := by
  rcases V with ⟨h1 | h1 | h1, _⟩ | ⟨h1, _⟩ | ⟨h1, _⟩ | ⟨h1, _⟩ | ⟨h1, _⟩ | ⟨h1, _⟩ | ⟨h1 | h1 | h1, _⟩
  · exact isBk_f hb (.inl h1)
  · rw [h1]; decide
  · rw [h1]; decide
  · exact isBk_f hb (.inr (.inl h1))
  · rw [h1]; decide
  · rw [h1]; decide
  · exact isBk_f hb (.inr (.inr (.inr h1)))
  · exact isBk_f hb (.inr (.inr (.inl h1)))
  · rw [h1]; decide
  · rw [h1]; decide
  · rw [h1]; decide
theorem takL_ov (s : Lf) (p : Nat) : (takL s p).2.2.2.2.1 = s.2.2.2.2.1 := by
  unfold takL
  cases s.1.pl p <;> rfl
theorem filL_ov (s : Lf) (p : Nat) : (filL s p).2.2.2.2.1 = s.2.2.2.2.1 := by
  unfold filL
  cases s.1.pl p <;> cases s.1.fileTo p <;> rfl
theorem dr_ov (s : Lf) : s.dr.2.2.2.2.1 = s.2.2.2.2.1 := by unfold Lf.dr; rfl
theorem doL_ov {x : Op} {np nc cl : Nat} (V : OpV np nc cl x) (hb : isBk x.1 = false) (h21 : x.1 ≠ 21) : (doL x s).2.2.2.2.1 = s.2.2.2.2.1 := by
  obtain ⟨k, b, c⟩ := x
  rcases V with ⟨h1 | h1 | h1, p, h2, h3⟩ | ⟨h1, p, q, h2, h4, h3⟩ | ⟨h1, p, q, h2, h4, h3⟩ | ⟨h1, p, q, h2, h4, h3⟩ | ⟨h1, _⟩ | ⟨h1, _⟩ | ⟨h1 | h1 | h1, h3⟩ <;> dsimp only at h1
  · exact isBk_f hb (.inl h1)
  · subst h1; cases h3; rw [doL_10]; exact filL_ov s p
  · subst h1; cases h3; rw [doL_11]; exact takL_ov s p
  · exact isBk_f hb (.inr (.inl h1))
  · subst h1; cases h3; rw [doL_14]; unfold askL; cases s.1.found p (s.1.tr q) <;> rfl
  · subst h1; cases h3; rw [doL_12]; unfold swaL; split <;> rfl
  · exact isBk_f hb (.inr (.inr (.inr h1)))
  · exact isBk_f hb (.inr (.inr (.inl h1)))
  · subst h1; cases h3; rfl
  · subst h1; cases h3; rw [doL_15]
    unfold anyL
    split
    · rfl
    · split
      · rw [takL_ov, dr_ov]
      · rw [filL_ov, dr_ov]
  · exact absurd h1 h21
theorem Go.of (L : RLm σ D s) (hD : D.2.1 ≤ 60) (h : D.2.1 ≤ k ∨ (k < D.2.1 ∧ (D.2.2.2 k).1 ≠ 18 ∧ (D.2.2.2 k).1 < 2 ^ 31)) (hk : k < 100) (H : Hd d sd σ k K R) : Go d sd σ k K R := ⟨k, σ, Beh.nil L.m L.w hD h hk, H⟩
/-- 300 steps are done: cut off -/
theorem hd_cut (L : RLm σ D s) (hD : D.2.1 ≤ 60) (hr : r < D.2.1) (h : s.2.1 = 300) : Hd d sd σ r K (K none (setI σ 141 4 (nI 1))) := by
  intro x
  have M := L.m
  have s7 := L.w.s7
  rw [Nat.mul_zero, Nat.zero_add] at s7
  have d42 := L.d42
  rw [h] at d42
  rw [L_378_32, zt_378_32]
  cases x <;> simp (disch := omega) only [↓e_iconst0, ↓e_iconst1, ↓e_bipush0, ↓e_bipush1, ↓e_sipush0, ↓e_sipush1, ↓e_ldc0, ↓e_ldc1, ↓e_ldc_w0, ↓e_ldc_w1, ↓e_ldc2, ↓e_lconst0, ↓e_lconst1, ↓e_ldc2_w0, ↓e_ldc2_w1, ↓e_iload, ↓e_iload_n, ↓e_istore, ↓e_istore_n, ↓e_lload, ↓e_lload_n, ↓e_lstore, ↓e_lstore_n, ↓e_aload, ↓e_aload_n, ↓e_astore, ↓e_astore_n, ↓e_iinc0, ↓e_iinc1, ↓e_iadd, ↓e_isub, ↓e_imul, ↓e_iand, ↓e_ior, ↓e_ixor, ↓e_ishl, ↓e_ishr, ↓e_iushr, ↓e_ladd, ↓e_lsub, ↓e_lmul, ↓e_land, ↓e_lor, ↓e_idiv, ↓e_irem, ↓e_ldiv, ↓e_lrem, ↓e_lshl, ↓e_lcmp, ↓e_i2l, ↓e_l2i, ↓e_i2b, ↓e_i2s, ↓e_dup_int, ↓e_pop_int, ↓e_dup_ref, ↓e_pop_ref, ↓e_dup2, ↓e_goto, ↓e_nop, ↓e_ifCond_eq, ↓e_if_icmp_eq, ↓e_ifCond_ne, ↓e_if_icmp_ne, ↓e_ifCond_lt, ↓e_if_icmp_lt, ↓e_ifCond_ge, ↓e_if_icmp_ge, ↓e_ifCond_gt, ↓e_if_icmp_gt, ↓e_ifCond_le, ↓e_if_icmp_le, ↓e_tab, ↓e_look, ↓e_get0, ↓e_get1, ↓e_get2, ↓e_get3, ↓e_put0, ↓e_put1, ↓e_put2, ↓e_put3, ↓e_iaload, ↓e_laload, ↓e_baload, ↓e_aaload, ↓e_iastore, ↓e_lastore, ↓e_bastore, ↓e_aastore, ↓e_alen, ↓e_new, ↓e_newarray, ↓e_anewarray, ↓e_objinit, ↓e_virt1, ↓e_virt2, ↓e_virt3, ↓e_virt4, ↓e_virt5, ↓e_virt6, ↓e_virt7, ↓e_stat0, ↓e_stat1, ↓e_stat2, ↓e_stat3, ↓e_stat4, ↓e_stat5, ↓e_stat6, ↓e_stat7, ↓e_spec1, ↓e_spec2, ↓e_spec3, ↓e_spec4, ↓e_spec5, ↓e_strlen, ↓e_charAt, ↓e_copy, ↓e_iret0, ↓e_iret1, ↓e_lret, ↓e_aret, ↓e_vret, zIsI_int, zIsL_long, zIsA_ref, zInt_int, true_and, and_true, ↓reduceIte, zGet, zSet, zSet2, zEnt, zWid, Value.category, List.map_cons, List.map_nil, List.sum_cons, List.sum_nil, List.replicate, Option.toList, Nat.reduceAdd, Nat.reduceSub, Nat.reduceMul, Nat.reduceLeDiff, Nat.reduceEqDiff, Nat.reduceLT, List.cons_append, List.nil_append, true_or, or_true, or_false, false_or, M.m.k, M.m.r0, M.m.r1, M.m.r5, M.m.r6, M.m.r7, M.m.r8, M.m.r9, M.m.r21, M.m.r24, M.m.r25, M.m.r28, M.m.r29, M.m.r30, M.m.r31, M.m.r35, M.m.r36, M.m.r37, M.m.r38, M.m.r40, M.m.r43, M.m.r44, M.m.r45, M.m.k121, M.m.k122, M.m.k123, M.m.k124, M.m.k125, M.m.k126, M.m.k127, M.m.k128, M.m.k129, M.m.k130, M.m.k131, M.m.k132, M.m.k133, M.m.k134, M.m.k135, M.m.k136, M.m.k137, M.m.k138, M.m.k139, M.m.k140, M.m.k141, M.m.k142, M.a0, M.a1, M.a2, M.a3, M.a4, M.a5, M.a6, nI_ltI, nI_leI, nI_eq, nI_clamp, zIn_nI, bI_0, nI_add, nI_mul, nI_or, nI_and, nI_shl1, nI_bit, ↓pk_rem, pk_div, Nat.lt_irrefl, Nat.not_lt_zero, reduceCtorEq, s7, hr, d42]
/-- STOP -/
theorem hd_stop (L : RLm σ D s) (hD : D.2.1 ≤ 60) (hr : r < D.2.1) (h : s.2.1 < 300) (q0 : (D.2.2.2 r).1 = 19) : Hd d sd σ r K (K none (setI σ 120 42 (nI (s.2.1 + 1)))) := by
  intro x
  have M := L.m
  have s7 := L.w.s7
  rw [Nat.mul_zero, Nat.zero_add] at s7
  have b0 : 36 + 6 * r < 2640 := by omega
  have L1 := L.st
  have p0 := L1.w.q0 r hr
  rw [Nat.mul_zero, Nat.zero_add, q0] at p0
  have M1 := L1.m.m
  rw [L_378_32, zt_378_32]
  cases x <;> simp (disch := omega) only [L_378_61, zt_378_61, ↓e_iconst0, ↓e_iconst1, ↓e_bipush0, ↓e_bipush1, ↓e_sipush0, ↓e_sipush1, ↓e_ldc0, ↓e_ldc1, ↓e_ldc_w0, ↓e_ldc_w1, ↓e_ldc2, ↓e_lconst0, ↓e_lconst1, ↓e_ldc2_w0, ↓e_ldc2_w1, ↓e_iload, ↓e_iload_n, ↓e_istore, ↓e_istore_n, ↓e_lload, ↓e_lload_n, ↓e_lstore, ↓e_lstore_n, ↓e_aload, ↓e_aload_n, ↓e_astore, ↓e_astore_n, ↓e_iinc0, ↓e_iinc1, ↓e_iadd, ↓e_isub, ↓e_imul, ↓e_iand, ↓e_ior, ↓e_ixor, ↓e_ishl, ↓e_ishr, ↓e_iushr, ↓e_ladd, ↓e_lsub, ↓e_lmul, ↓e_land, ↓e_lor, ↓e_idiv, ↓e_irem, ↓e_ldiv, ↓e_lrem, ↓e_lshl, ↓e_lcmp, ↓e_i2l, ↓e_l2i, ↓e_i2b, ↓e_i2s, ↓e_dup_int, ↓e_pop_int, ↓e_dup_ref, ↓e_pop_ref, ↓e_dup2, ↓e_goto, ↓e_nop, ↓e_ifCond_eq, ↓e_if_icmp_eq, ↓e_ifCond_ne, ↓e_if_icmp_ne, ↓e_ifCond_lt, ↓e_if_icmp_lt, ↓e_ifCond_ge, ↓e_if_icmp_ge, ↓e_ifCond_gt, ↓e_if_icmp_gt, ↓e_ifCond_le, ↓e_if_icmp_le, ↓e_tab, ↓e_look, ↓e_get0, ↓e_get1, ↓e_get2, ↓e_get3, ↓e_put0, ↓e_put1, ↓e_put2, ↓e_put3, ↓e_iaload, ↓e_laload, ↓e_baload, ↓e_aaload, ↓e_iastore, ↓e_lastore, ↓e_bastore, ↓e_aastore, ↓e_alen, ↓e_new, ↓e_newarray, ↓e_anewarray, ↓e_objinit, ↓e_virt1, ↓e_virt2, ↓e_virt3, ↓e_virt4, ↓e_virt5, ↓e_virt6, ↓e_virt7, ↓e_stat0, ↓e_stat1, ↓e_stat2, ↓e_stat3, ↓e_stat4, ↓e_stat5, ↓e_stat6, ↓e_stat7, ↓e_spec1, ↓e_spec2, ↓e_spec3, ↓e_spec4, ↓e_spec5, ↓e_strlen, ↓e_charAt, ↓e_copy, ↓e_iret0, ↓e_iret1, ↓e_lret, ↓e_aret, ↓e_vret, zIsI_int, zIsL_long, zIsA_ref, zInt_int, true_and, and_true, ↓reduceIte, zGet, zSet, zSet2, zEnt, zWid, Value.category, List.map_cons, List.map_nil, List.sum_cons, List.sum_nil, List.replicate, Option.toList, Nat.reduceAdd, Nat.reduceSub, Nat.reduceMul, Nat.reduceLeDiff, Nat.reduceEqDiff, Nat.reduceLT, List.cons_append, List.nil_append, true_or, or_true, or_false, false_or, M.m.k, M.m.r0, M.m.r1, M.m.r5, M.m.r6, M.m.r7, M.m.r8, M.m.r9, M.m.r21, M.m.r24, M.m.r25, M.m.r28, M.m.r29, M.m.r30, M.m.r31, M.m.r35, M.m.r36, M.m.r37, M.m.r38, M.m.r40, M.m.r43, M.m.r44, M.m.r45, M.m.k121, M.m.k122, M.m.k123, M.m.k124, M.m.k125, M.m.k126, M.m.k127, M.m.k128, M.m.k129, M.m.k130, M.m.k131, M.m.k132, M.m.k133, M.m.k134, M.m.k135, M.m.k136, M.m.k137, M.m.k138, M.m.k139, M.m.k140, M.m.k141, M.m.k142, M.a0, M.a1, M.a2, M.a3, M.a4, M.a5, M.a6, M1.k, M1.r0, M1.r1, M1.r5, M1.r6, M1.r7, M1.r8, M1.r9, M1.r21, M1.r24, M1.r25, M1.r28, M1.r29, M1.r30, M1.r31, M1.r35, M1.r36, M1.r37, M1.r38, M1.r40, M1.r43, M1.r44, M1.r45, M1.k121, M1.k122, M1.k123, M1.k124, M1.k125, M1.k126, M1.k127, M1.k128, M1.k129, M1.k130, M1.k131, M1.k132, M1.k133, M1.k134, M1.k135, M1.k136, M1.k137, M1.k138, M1.k139, M1.k140, M1.k141, M1.k142, nI_ltI, nI_leI, nI_eq, nI_clamp, zIn_nI, bI_0, nI_add, nI_mul, nI_or, nI_and, nI_shl1, nI_bit, ↓pk_rem, pk_div, Nat.lt_irrefl, Nat.not_lt_zero, reduceCtorEq, sK_setI, sR_setI, sL_setI, s7, hr, L.d42, show ¬ s.2.1 = 300 from by omega, b0, p0]
/-- a row that does something -/
theorem hd_do (L : RLm σ D s) (hD : D.2.1 ≤ 60) (hr : r < D.2.1) (h : s.2.1 < 300) (h31 : (D.2.2.2 r).1 < 1600) (h19 : (D.2.2.2 r).1 ≠ 19) (h17 : (D.2.2.2 r).1 ≠ 17) {w : Bool} {g : Lf} (X : MXP (setI σ 120 42 (nI (s.2.1 + 1))) D s.st g τ w) (c : ∀ K, zC (d + 8) 375 [.ref 120, .int (nI (36 + 6 * r))] (setI σ 120 42 (nI (s.2.1 + 1))) K = K (some (.int (bI w))) τ) : ∃ ρ, FLm 0 0 σ ρ ∧ RLm ρ D g ∧ ∀ sd K R, Go (d + 8) sd ρ (r + 1) K R → Hd (d + 8) sd σ r K R := by
  have M := L.m
  have s7 := L.w.s7
  rw [Nat.mul_zero, Nat.zero_add] at s7
  have b0 : 36 + 6 * r < 2640 := by omega
  have L1 := L.st
  have p0 := L1.w.q0 r hr
  rw [Nat.mul_zero, Nat.zero_add] at p0
  have M1 := L1.m.m
  have c0 : sI (setI σ 120 42 (nI (s.2.1 + 1))) 141 0 = nI (s.st.2.2.1 0) := L1.c 0 (by decide)
  obtain ⟨f, t, te, Lt, e⟩ := X
  have Mt := Lt.m.m
  have p1 := Lt.w.q0 r hr
  rw [Nat.mul_zero, Nat.zero_add] at p1
  have t0 := Lt.c 0 (by decide)
  rw [te] at t0
  cases w with
  | true =>
    rw [if_pos rfl] at e
    subst e
    refine ⟨τ, (FLm.s1 (.inr rfl)).tr f, Lt, fun sd K R G => ?_⟩
    obtain ⟨k2, σ2, B, H⟩ := G
    intro x
    have H := fun z => H (some z)
    dsimp only at H
    have es : setI τ 141 0 (nI (s.st.2.2.1 0)) = τ := setI_id t0
    rw [L_378_32, zt_378_32]
    cases x <;> simp (disch := omega) only [L_378_61, zt_378_61, L_378_91, zt_378_91, L_378_110, zt_378_110, L_378_111, zt_378_111, L_378_140, zt_378_140, L_378_174, zt_378_174, L_378_177, zt_378_177, ↓e_iconst0, ↓e_iconst1, ↓e_bipush0, ↓e_bipush1, ↓e_sipush0, ↓e_sipush1, ↓e_ldc0, ↓e_ldc1, ↓e_ldc_w0, ↓e_ldc_w1, ↓e_ldc2, ↓e_lconst0, ↓e_lconst1, ↓e_ldc2_w0, ↓e_ldc2_w1, ↓e_iload, ↓e_iload_n, ↓e_istore, ↓e_istore_n, ↓e_lload, ↓e_lload_n, ↓e_lstore, ↓e_lstore_n, ↓e_aload, ↓e_aload_n, ↓e_astore, ↓e_astore_n, ↓e_iinc0, ↓e_iinc1, ↓e_iadd, ↓e_isub, ↓e_imul, ↓e_iand, ↓e_ior, ↓e_ixor, ↓e_ishl, ↓e_ishr, ↓e_iushr, ↓e_ladd, ↓e_lsub, ↓e_lmul, ↓e_land, ↓e_lor, ↓e_idiv, ↓e_irem, ↓e_ldiv, ↓e_lrem, ↓e_lshl, ↓e_lcmp, ↓e_i2l, ↓e_l2i, ↓e_i2b, ↓e_i2s, ↓e_dup_int, ↓e_pop_int, ↓e_dup_ref, ↓e_pop_ref, ↓e_dup2, ↓e_goto, ↓e_nop, ↓e_ifCond_eq, ↓e_if_icmp_eq, ↓e_ifCond_ne, ↓e_if_icmp_ne, ↓e_ifCond_lt, ↓e_if_icmp_lt, ↓e_ifCond_ge, ↓e_if_icmp_ge, ↓e_ifCond_gt, ↓e_if_icmp_gt, ↓e_ifCond_le, ↓e_if_icmp_le, ↓e_tab, ↓e_look, ↓e_get0, ↓e_get1, ↓e_get2, ↓e_get3, ↓e_put0, ↓e_put1, ↓e_put2, ↓e_put3, ↓e_iaload, ↓e_laload, ↓e_baload, ↓e_aaload, ↓e_iastore, ↓e_lastore, ↓e_bastore, ↓e_aastore, ↓e_alen, ↓e_new, ↓e_newarray, ↓e_anewarray, ↓e_objinit, ↓e_virt1, ↓e_virt2, ↓e_virt3, ↓e_virt4, ↓e_virt5, ↓e_virt6, ↓e_virt7, ↓e_stat0, ↓e_stat1, ↓e_stat2, ↓e_stat3, ↓e_stat4, ↓e_stat5, ↓e_stat6, ↓e_stat7, ↓e_spec1, ↓e_spec2, ↓e_spec3, ↓e_spec4, ↓e_spec5, ↓e_strlen, ↓e_charAt, ↓e_copy, ↓e_iret0, ↓e_iret1, ↓e_lret, ↓e_aret, ↓e_vret, zIsI_int, zIsL_long, zIsA_ref, zInt_int, true_and, and_true, ↓reduceIte, zGet, zSet, zSet2, zEnt, zWid, Value.category, List.map_cons, List.map_nil, List.sum_cons, List.sum_nil, List.replicate, Option.toList, Nat.reduceAdd, Nat.reduceSub, Nat.reduceMul, Nat.reduceLeDiff, Nat.reduceEqDiff, Nat.reduceLT, List.cons_append, List.nil_append, true_or, or_true, or_false, false_or, M.m.k, M.m.r0, M.m.r1, M.m.r5, M.m.r6, M.m.r7, M.m.r8, M.m.r9, M.m.r21, M.m.r24, M.m.r25, M.m.r28, M.m.r29, M.m.r30, M.m.r31, M.m.r35, M.m.r36, M.m.r37, M.m.r38, M.m.r40, M.m.r43, M.m.r44, M.m.r45, M.m.k121, M.m.k122, M.m.k123, M.m.k124, M.m.k125, M.m.k126, M.m.k127, M.m.k128, M.m.k129, M.m.k130, M.m.k131, M.m.k132, M.m.k133, M.m.k134, M.m.k135, M.m.k136, M.m.k137, M.m.k138, M.m.k139, M.m.k140, M.m.k141, M.m.k142, M.a0, M.a1, M.a2, M.a3, M.a4, M.a5, M.a6, M1.k, M1.r0, M1.r1, M1.r5, M1.r6, M1.r7, M1.r8, M1.r9, M1.r21, M1.r24, M1.r25, M1.r28, M1.r29, M1.r30, M1.r31, M1.r35, M1.r36, M1.r37, M1.r38, M1.r40, M1.r43, M1.r44, M1.r45, M1.k121, M1.k122, M1.k123, M1.k124, M1.k125, M1.k126, M1.k127, M1.k128, M1.k129, M1.k130, M1.k131, M1.k132, M1.k133, M1.k134, M1.k135, M1.k136, M1.k137, M1.k138, M1.k139, M1.k140, M1.k141, M1.k142, Mt.k, Mt.r0, Mt.r1, Mt.r5, Mt.r6, Mt.r7, Mt.r8, Mt.r9, Mt.r21, Mt.r24, Mt.r25, Mt.r28, Mt.r29, Mt.r30, Mt.r31, Mt.r35, Mt.r36, Mt.r37, Mt.r38, Mt.r40, Mt.r43, Mt.r44, Mt.r45, Mt.k121, Mt.k122, Mt.k123, Mt.k124, Mt.k125, Mt.k126, Mt.k127, Mt.k128, Mt.k129, Mt.k130, Mt.k131, Mt.k132, Mt.k133, Mt.k134, Mt.k135, Mt.k136, Mt.k137, Mt.k138, Mt.k139, Mt.k140, Mt.k141, Mt.k142, nI_ltI, nI_leI, nI_eq, nI_clamp, zIn_nI, bI_0, nI_add, nI_mul, nI_or, nI_and, nI_shl1, nI_bit, ↓pk_rem, pk_div, Nat.lt_irrefl, Nat.not_lt_zero, reduceCtorEq, sK_setI, sR_setI, sL_setI, s7, hr, L.d42, show ¬ s.2.1 = 300 from by omega, b0, p0, p1, h19, h17, c0, ↓c, show bI true = nI 1 from rfl, Nat.add_zero, es, h31, ↓m_behindC B, ↓H]
  | false =>
    rw [if_neg Bool.false_ne_true] at e
    subst e
    have L2 : RLm (setI τ 141 0 (nI (s.st.2.2.1 0 + 1))) D t.mi := by rw [← te]; exact Lt.cnt (i := 0) (by decide)
    have M2 := L2.m.m
    have p2 := L2.w.q0 r hr
    rw [Nat.mul_zero, Nat.zero_add] at p2
    refine ⟨_, ((FLm.s1 (.inr rfl)).tr f).tr FLm.s2, L2, fun sd K R G => ?_⟩
    obtain ⟨k2, σ2, B, H⟩ := G
    intro x
    have H := fun z => H (some z)
    dsimp only at H
    rw [L_378_32, zt_378_32]
    cases x <;> simp (disch := omega) only [L_378_61, zt_378_61, L_378_91, zt_378_91, L_378_110, zt_378_110, L_378_111, zt_378_111, L_378_140, zt_378_140, L_378_174, zt_378_174, L_378_177, zt_378_177, ↓e_iconst0, ↓e_iconst1, ↓e_bipush0, ↓e_bipush1, ↓e_sipush0, ↓e_sipush1, ↓e_ldc0, ↓e_ldc1, ↓e_ldc_w0, ↓e_ldc_w1, ↓e_ldc2, ↓e_lconst0, ↓e_lconst1, ↓e_ldc2_w0, ↓e_ldc2_w1, ↓e_iload, ↓e_iload_n, ↓e_istore, ↓e_istore_n, ↓e_lload, ↓e_lload_n, ↓e_lstore, ↓e_lstore_n, ↓e_aload, ↓e_aload_n, ↓e_astore, ↓e_astore_n, ↓e_iinc0, ↓e_iinc1, ↓e_iadd, ↓e_isub, ↓e_imul, ↓e_iand, ↓e_ior, ↓e_ixor, ↓e_ishl, ↓e_ishr, ↓e_iushr, ↓e_ladd, ↓e_lsub, ↓e_lmul, ↓e_land, ↓e_lor, ↓e_idiv, ↓e_irem, ↓e_ldiv, ↓e_lrem, ↓e_lshl, ↓e_lcmp, ↓e_i2l, ↓e_l2i, ↓e_i2b, ↓e_i2s, ↓e_dup_int, ↓e_pop_int, ↓e_dup_ref, ↓e_pop_ref, ↓e_dup2, ↓e_goto, ↓e_nop, ↓e_ifCond_eq, ↓e_if_icmp_eq, ↓e_ifCond_ne, ↓e_if_icmp_ne, ↓e_ifCond_lt, ↓e_if_icmp_lt, ↓e_ifCond_ge, ↓e_if_icmp_ge, ↓e_ifCond_gt, ↓e_if_icmp_gt, ↓e_ifCond_le, ↓e_if_icmp_le, ↓e_tab, ↓e_look, ↓e_get0, ↓e_get1, ↓e_get2, ↓e_get3, ↓e_put0, ↓e_put1, ↓e_put2, ↓e_put3, ↓e_iaload, ↓e_laload, ↓e_baload, ↓e_aaload, ↓e_iastore, ↓e_lastore, ↓e_bastore, ↓e_aastore, ↓e_alen, ↓e_new, ↓e_newarray, ↓e_anewarray, ↓e_objinit, ↓e_virt1, ↓e_virt2, ↓e_virt3, ↓e_virt4, ↓e_virt5, ↓e_virt6, ↓e_virt7, ↓e_stat0, ↓e_stat1, ↓e_stat2, ↓e_stat3, ↓e_stat4, ↓e_stat5, ↓e_stat6, ↓e_stat7, ↓e_spec1, ↓e_spec2, ↓e_spec3, ↓e_spec4, ↓e_spec5, ↓e_strlen, ↓e_charAt, ↓e_copy, ↓e_iret0, ↓e_iret1, ↓e_lret, ↓e_aret, ↓e_vret, zIsI_int, zIsL_long, zIsA_ref, zInt_int, true_and, and_true, ↓reduceIte, zGet, zSet, zSet2, zEnt, zWid, Value.category, List.map_cons, List.map_nil, List.sum_cons, List.sum_nil, List.replicate, Option.toList, Nat.reduceAdd, Nat.reduceSub, Nat.reduceMul, Nat.reduceLeDiff, Nat.reduceEqDiff, Nat.reduceLT, List.cons_append, List.nil_append, true_or, or_true, or_false, false_or, M.m.k, M.m.r0, M.m.r1, M.m.r5, M.m.r6, M.m.r7, M.m.r8, M.m.r9, M.m.r21, M.m.r24, M.m.r25, M.m.r28, M.m.r29, M.m.r30, M.m.r31, M.m.r35, M.m.r36, M.m.r37, M.m.r38, M.m.r40, M.m.r43, M.m.r44, M.m.r45, M.m.k121, M.m.k122, M.m.k123, M.m.k124, M.m.k125, M.m.k126, M.m.k127, M.m.k128, M.m.k129, M.m.k130, M.m.k131, M.m.k132, M.m.k133, M.m.k134, M.m.k135, M.m.k136, M.m.k137, M.m.k138, M.m.k139, M.m.k140, M.m.k141, M.m.k142, M.a0, M.a1, M.a2, M.a3, M.a4, M.a5, M.a6, M1.k, M1.r0, M1.r1, M1.r5, M1.r6, M1.r7, M1.r8, M1.r9, M1.r21, M1.r24, M1.r25, M1.r28, M1.r29, M1.r30, M1.r31, M1.r35, M1.r36, M1.r37, M1.r38, M1.r40, M1.r43, M1.r44, M1.r45, M1.k121, M1.k122, M1.k123, M1.k124, M1.k125, M1.k126, M1.k127, M1.k128, M1.k129, M1.k130, M1.k131, M1.k132, M1.k133, M1.k134, M1.k135, M1.k136, M1.k137, M1.k138, M1.k139, M1.k140, M1.k141, M1.k142, Mt.k, Mt.r0, Mt.r1, Mt.r5, Mt.r6, Mt.r7, Mt.r8, Mt.r9, Mt.r21, Mt.r24, Mt.r25, Mt.r28, Mt.r29, Mt.r30, Mt.r31, Mt.r35, Mt.r36, Mt.r37, Mt.r38, Mt.r40, Mt.r43, Mt.r44, Mt.r45, Mt.k121, Mt.k122, Mt.k123, Mt.k124, Mt.k125, Mt.k126, Mt.k127, Mt.k128, Mt.k129, Mt.k130, Mt.k131, Mt.k132, Mt.k133, Mt.k134, Mt.k135, Mt.k136, Mt.k137, Mt.k138, Mt.k139, Mt.k140, Mt.k141, Mt.k142, M2.k, M2.r0, M2.r1, M2.r5, M2.r6, M2.r7, M2.r8, M2.r9, M2.r21, M2.r24, M2.r25, M2.r28, M2.r29, M2.r30, M2.r31, M2.r35, M2.r36, M2.r37, M2.r38, M2.r40, M2.r43, M2.r44, M2.r45, M2.k121, M2.k122, M2.k123, M2.k124, M2.k125, M2.k126, M2.k127, M2.k128, M2.k129, M2.k130, M2.k131, M2.k132, M2.k133, M2.k134, M2.k135, M2.k136, M2.k137, M2.k138, M2.k139, M2.k140, M2.k141, M2.k142, nI_ltI, nI_leI, nI_eq, nI_clamp, zIn_nI, bI_0, nI_add, nI_mul, nI_or, nI_and, nI_shl1, nI_bit, ↓pk_rem, pk_div, Nat.lt_irrefl, Nat.not_lt_zero, reduceCtorEq, sK_setI, sR_setI, sL_setI, s7, hr, L.d42, show ¬ s.2.1 = 300 from by omega, b0, p0, p1, p2, h19, h17, c0, ↓c, show bI false = nI 0 from rfl, h31, ↓m_behindC B, ↓H]
end LM5
