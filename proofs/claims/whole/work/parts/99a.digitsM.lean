section DGM
variable {d : Nat} {σ τ : MS} {n s : Nat} {B : Nat → Nat} {x : Value} {K : Option Value → MS → Prop}
theorem set_1514 (σ : MS) (a b j c : Int32) : setI (setI (setI (setI σ 120 15 a) 120 14 j) 120 15 b) 120 14 c = setI (setI σ 120 15 b) 120 14 c := by
  rw [setI_comm (setI σ 120 15 a) 120 14 15 j b (by decide), setI_setI, setI_setI]
theorem m_isDigitN {k : Nat} (h : k < 256) : zC (d + 1) 240 [.int (nI k)] σ K = K (some (.int (bI (isDi k)))) σ := m_isDigit (o := some k) (fun q hq => by cases hq; exact h)
/-- the Model passes digits -/
theorem m_digits (M0 : RMk σ) (hn : sI σ 120 11 = nI n) (h9 : n ≤ 900) (hb : ∀ j, j < n → bx (B j) (sI σ 127 j)) : ∀ k j, n - j = k → s ≤ j → j ≤ n → zX (d + 1) 241 128 [.ref 120, x] [] (setI (setI σ 120 15 (nI (dM B s (j - s)))) 120 14 (nI j)) K = zX (d + 1) 241 183 [.ref 120, x] [] (setI (setI σ 120 15 (nI (dM B s (skp isDi B n j - s)))) 120 14 (nI (skp isDi B n j))) K := by
  have M2 : ∀ u v, RMk (setI (setI σ 120 15 u) 120 14 v) := fun u v => M0.ag ((Ag.rf.setI (p := fun b => b = 120) rfl).setI rfl)
  have n2 : ∀ u v, sI (setI (setI σ 120 15 u) 120 14 v) 120 11 = nI n := fun u v => by rw [sI_setI, if_neg (by omega), sI_setI, if_neg (by omega)]; exact hn
  have i2 : ∀ u v, sI (setI (setI σ 120 15 u) 120 14 v) 120 14 = v := fun u v => by rw [sI_setI, if_pos ⟨rfl, rfl⟩]
  have i3 : ∀ u v, sI (setI (setI σ 120 15 u) 120 14 v) 120 15 = u := fun u v => by rw [sI_setI, if_neg (by omega), sI_setI, if_pos ⟨rfl, rfl⟩]
  have i4 : ∀ u v w, sI (setI (setI (setI σ 120 15 u) 120 14 v) 120 15 w) 120 14 = v := fun u v w => by rw [sI_setI, if_neg (by omega), i2]
  have t2 : ∀ u v j, j < n → bx (B j) (sI (setI (setI σ 120 15 u) 120 14 v) 127 j) := fun u v j hj => by rw [sI_setI, if_neg (by omega), sI_setI, if_neg (by omega)]; exact hb j hj
  have b6 : ∀ j k, bAt B n j = some k → k < 256 := fun j k h => by
    unfold bAt at h
    by_cases hj : j < n
    · rw [if_pos hj] at h
      cases h
      exact (hb j hj).1
    · rw [if_neg hj] at h; cases h
  intro k
  induction k with
  | zero =>
    intro j h1 hs h2
    have hj : ¬ j < n := by omega
    have M := M2 (nI (dM B s (j - s))) (nI j)
    have o : isO isDi (bAt B n j) = false := by rw [show bAt B n j = none from if_neg hj]; rfl
    rw [skp_n (fun hh => hj hh.1), L_241_128, zt_241_128]
    simp (disch := omega) only [↓e_iconst0, ↓e_iconst1, ↓e_bipush0, ↓e_bipush1, ↓e_sipush0, ↓e_sipush1, ↓e_ldc0, ↓e_ldc1, ↓e_ldc_w0, ↓e_ldc_w1, ↓e_ldc2, ↓e_lconst0, ↓e_lconst1, ↓e_ldc2_w0, ↓e_ldc2_w1, ↓e_iload, ↓e_iload_n, ↓e_istore, ↓e_istore_n, ↓e_lload, ↓e_lload_n, ↓e_lstore, ↓e_lstore_n, ↓e_aload, ↓e_aload_n, ↓e_astore, ↓e_astore_n, ↓e_iinc0, ↓e_iinc1, ↓e_iadd, ↓e_isub, ↓e_imul, ↓e_iand, ↓e_ior, ↓e_ixor, ↓e_ishl, ↓e_ishr, ↓e_iushr, ↓e_ladd, ↓e_lsub, ↓e_lmul, ↓e_land, ↓e_lor, ↓e_idiv, ↓e_irem, ↓e_ldiv, ↓e_lrem, ↓e_lshl, ↓e_lcmp, ↓e_i2l, ↓e_l2i, ↓e_i2b, ↓e_i2s, ↓e_dup_int, ↓e_pop_int, ↓e_dup_ref, ↓e_pop_ref, ↓e_dup2, ↓e_goto, ↓e_nop, ↓e_ifCond_eq, ↓e_if_icmp_eq, ↓e_ifCond_ne, ↓e_if_icmp_ne, ↓e_ifCond_lt, ↓e_if_icmp_lt, ↓e_ifCond_ge, ↓e_if_icmp_ge, ↓e_ifCond_gt, ↓e_if_icmp_gt, ↓e_ifCond_le, ↓e_if_icmp_le, ↓e_tab, ↓e_look, ↓e_get0, ↓e_get1, ↓e_get2, ↓e_get3, ↓e_put0, ↓e_put1, ↓e_put2, ↓e_put3, ↓e_iaload, ↓e_laload, ↓e_baload, ↓e_aaload, ↓e_iastore, ↓e_lastore, ↓e_bastore, ↓e_aastore, ↓e_alen, ↓e_new, ↓e_newarray, ↓e_anewarray, ↓e_objinit, ↓e_virt1, ↓e_virt2, ↓e_virt3, ↓e_virt4, ↓e_virt5, ↓e_virt6, ↓e_virt7, ↓e_stat0, ↓e_stat1, ↓e_stat2, ↓e_stat3, ↓e_stat4, ↓e_stat5, ↓e_stat6, ↓e_stat7, ↓e_spec1, ↓e_spec2, ↓e_spec3, ↓e_spec4, ↓e_spec5, ↓e_strlen, ↓e_charAt, ↓e_copy, ↓e_iret0, ↓e_iret1, ↓e_lret, ↓e_aret, ↓e_vret, zIsI_int, zIsL_long, zIsA_ref, zInt_int, true_and, and_true, ↓reduceIte, zGet, zSet, zSet2, zEnt, zWid, Value.category, List.map_cons, List.map_nil, List.sum_cons, List.sum_nil, List.replicate, Option.toList, Nat.reduceAdd, Nat.reduceSub, Nat.reduceMul, Nat.reduceLeDiff, Nat.reduceEqDiff, Nat.reduceLT, List.cons_append, List.nil_append, true_or, or_true, or_false, false_or, nI_ltI, nI_leI, nI_eq, nI_clamp, zIn_nI, bI_0, nI_add, nI_mul, nI_or, nI_and, nI_shl1, nI_bit, ↓pk_rem, pk_div, Nat.lt_irrefl, Nat.not_lt_zero, reduceCtorEq, M.k, i2, ↓m_byteAt M (n2 _ _) h9 (t2 _ _) (show j < 2 ^ 31 by omega), ↓m_isDigit (b6 j), o, show bI false = nI 0 from rfl]
  | succ k ih =>
    intro j h1 hs h2
    have hj : j < n := by omega
    have M := M2 (nI (dM B s (j - s))) (nI j)
    have ob : bAt B n j = some (B j) := if_pos hj
    have o : isO isDi (bAt B n j) = isDi (B j) := by rw [ob]; rfl
    have o2 : isO isDi (some (B j)) = isDi (B j) := rfl
    have b7 := (hb j hj).1
    have ek : ∀ k, oI (some k) = nI k := fun _ => rfl
    rw [L_241_128, zt_241_128]
    cases e : isDi (B j) with
    | true =>
      have h3 := e
      unfold isDi at h3
      rw [Bool.and_eq_true, decide_eq_true_eq, decide_eq_true_eq] at h3
      have v1 := dM_le B s (j - s)
      have es : dM B s (j + 1 - s) = min 100000 (10 * dM B s (j - s) + B j - 48) := by
        rw [show j + 1 - s = (j - s) + 1 by omega]
        show min 100000 (10 * dM B s (j - s) + B (s + (j - s)) - 48) = _
        rw [show s + (j - s) = j by omega]
      rw [skp_y hj e, ← ih (j + 1) (by omega) (by omega) (by omega), es]
      simp (disch := omega) only [↓e_iconst0, ↓e_iconst1, ↓e_bipush0, ↓e_bipush1, ↓e_sipush0, ↓e_sipush1, ↓e_ldc0, ↓e_ldc1, ↓e_ldc_w0, ↓e_ldc_w1, ↓e_ldc2, ↓e_lconst0, ↓e_lconst1, ↓e_ldc2_w0, ↓e_ldc2_w1, ↓e_iload, ↓e_iload_n, ↓e_istore, ↓e_istore_n, ↓e_lload, ↓e_lload_n, ↓e_lstore, ↓e_lstore_n, ↓e_aload, ↓e_aload_n, ↓e_astore, ↓e_astore_n, ↓e_iinc0, ↓e_iinc1, ↓e_iadd, ↓e_isub, ↓e_imul, ↓e_iand, ↓e_ior, ↓e_ixor, ↓e_ishl, ↓e_ishr, ↓e_iushr, ↓e_ladd, ↓e_lsub, ↓e_lmul, ↓e_land, ↓e_lor, ↓e_idiv, ↓e_irem, ↓e_ldiv, ↓e_lrem, ↓e_lshl, ↓e_lcmp, ↓e_i2l, ↓e_l2i, ↓e_i2b, ↓e_i2s, ↓e_dup_int, ↓e_pop_int, ↓e_dup_ref, ↓e_pop_ref, ↓e_dup2, ↓e_goto, ↓e_nop, ↓e_ifCond_eq, ↓e_if_icmp_eq, ↓e_ifCond_ne, ↓e_if_icmp_ne, ↓e_ifCond_lt, ↓e_if_icmp_lt, ↓e_ifCond_ge, ↓e_if_icmp_ge, ↓e_ifCond_gt, ↓e_if_icmp_gt, ↓e_ifCond_le, ↓e_if_icmp_le, ↓e_tab, ↓e_look, ↓e_get0, ↓e_get1, ↓e_get2, ↓e_get3, ↓e_put0, ↓e_put1, ↓e_put2, ↓e_put3, ↓e_iaload, ↓e_laload, ↓e_baload, ↓e_aaload, ↓e_iastore, ↓e_lastore, ↓e_bastore, ↓e_aastore, ↓e_alen, ↓e_new, ↓e_newarray, ↓e_anewarray, ↓e_objinit, ↓e_virt1, ↓e_virt2, ↓e_virt3, ↓e_virt4, ↓e_virt5, ↓e_virt6, ↓e_virt7, ↓e_stat0, ↓e_stat1, ↓e_stat2, ↓e_stat3, ↓e_stat4, ↓e_stat5, ↓e_stat6, ↓e_stat7, ↓e_spec1, ↓e_spec2, ↓e_spec3, ↓e_spec4, ↓e_spec5, ↓e_strlen, ↓e_charAt, ↓e_copy, ↓e_iret0, ↓e_iret1, ↓e_lret, ↓e_aret, ↓e_vret, zIsI_int, zIsL_long, zIsA_ref, zInt_int, true_and, and_true, ↓reduceIte, zGet, zSet, zSet2, zEnt, zWid, Value.category, List.map_cons, List.map_nil, List.sum_cons, List.sum_nil, List.replicate, Option.toList, Nat.reduceAdd, Nat.reduceSub, Nat.reduceMul, Nat.reduceLeDiff, Nat.reduceEqDiff, Nat.reduceLT, List.cons_append, List.nil_append, true_or, or_true, or_false, false_or, nI_ltI, nI_leI, nI_eq, nI_clamp, zIn_nI, bI_0, nI_add, nI_mul, nI_or, nI_and, nI_shl1, nI_bit, ↓pk_rem, pk_div, Nat.lt_irrefl, Nat.not_lt_zero, reduceCtorEq, M.k, i2, i3, i4, ↓m_byteAt M (n2 _ _) h9 (t2 _ _) (show j < 2 ^ 31 by omega), ob, ↓m_isDigitN b7, e, ek, nI_sub, ↓c_min, sK_setI, sR_setI, sL_setI, set_1514, show bI true = nI 1 from rfl]
    | false =>
      rw [skp_n (fun hh => by rw [e] at hh; cases hh.2)]
      simp (disch := omega) only [↓e_iconst0, ↓e_iconst1, ↓e_bipush0, ↓e_bipush1, ↓e_sipush0, ↓e_sipush1, ↓e_ldc0, ↓e_ldc1, ↓e_ldc_w0, ↓e_ldc_w1, ↓e_ldc2, ↓e_lconst0, ↓e_lconst1, ↓e_ldc2_w0, ↓e_ldc2_w1, ↓e_iload, ↓e_iload_n, ↓e_istore, ↓e_istore_n, ↓e_lload, ↓e_lload_n, ↓e_lstore, ↓e_lstore_n, ↓e_aload, ↓e_aload_n, ↓e_astore, ↓e_astore_n, ↓e_iinc0, ↓e_iinc1, ↓e_iadd, ↓e_isub, ↓e_imul, ↓e_iand, ↓e_ior, ↓e_ixor, ↓e_ishl, ↓e_ishr, ↓e_iushr, ↓e_ladd, ↓e_lsub, ↓e_lmul, ↓e_land, ↓e_lor, ↓e_idiv, ↓e_irem, ↓e_ldiv, ↓e_lrem, ↓e_lshl, ↓e_lcmp, ↓e_i2l, ↓e_l2i, ↓e_i2b, ↓e_i2s, ↓e_dup_int, ↓e_pop_int, ↓e_dup_ref, ↓e_pop_ref, ↓e_dup2, ↓e_goto, ↓e_nop, ↓e_ifCond_eq, ↓e_if_icmp_eq, ↓e_ifCond_ne, ↓e_if_icmp_ne, ↓e_ifCond_lt, ↓e_if_icmp_lt, ↓e_ifCond_ge, ↓e_if_icmp_ge, ↓e_ifCond_gt, ↓e_if_icmp_gt, ↓e_ifCond_le, ↓e_if_icmp_le, ↓e_tab, ↓e_look, ↓e_get0, ↓e_get1, ↓e_get2, ↓e_get3, ↓e_put0, ↓e_put1, ↓e_put2, ↓e_put3, ↓e_iaload, ↓e_laload, ↓e_baload, ↓e_aaload, ↓e_iastore, ↓e_lastore, ↓e_bastore, ↓e_aastore, ↓e_alen, ↓e_new, ↓e_newarray, ↓e_anewarray, ↓e_objinit, ↓e_virt1, ↓e_virt2, ↓e_virt3, ↓e_virt4, ↓e_virt5, ↓e_virt6, ↓e_virt7, ↓e_stat0, ↓e_stat1, ↓e_stat2, ↓e_stat3, ↓e_stat4, ↓e_stat5, ↓e_stat6, ↓e_stat7, ↓e_spec1, ↓e_spec2, ↓e_spec3, ↓e_spec4, ↓e_spec5, ↓e_strlen, ↓e_charAt, ↓e_copy, ↓e_iret0, ↓e_iret1, ↓e_lret, ↓e_aret, ↓e_vret, zIsI_int, zIsL_long, zIsA_ref, zInt_int, true_and, and_true, ↓reduceIte, zGet, zSet, zSet2, zEnt, zWid, Value.category, List.map_cons, List.map_nil, List.sum_cons, List.sum_nil, List.replicate, Option.toList, Nat.reduceAdd, Nat.reduceSub, Nat.reduceMul, Nat.reduceLeDiff, Nat.reduceEqDiff, Nat.reduceLT, List.cons_append, List.nil_append, true_or, or_true, or_false, false_or, nI_ltI, nI_leI, nI_eq, nI_clamp, zIn_nI, bI_0, nI_add, nI_mul, nI_or, nI_and, nI_shl1, nI_bit, ↓pk_rem, pk_div, Nat.lt_irrefl, Nat.not_lt_zero, reduceCtorEq, M.k, i2, ↓m_byteAt M (n2 _ _) h9 (t2 _ _) (show j < 2 ^ 31 by omega), ob, ek, ↓m_isDigitN b7, e, show bI false = nI 0 from rfl]
end DGM
