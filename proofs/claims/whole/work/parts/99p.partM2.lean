/-! THE MODEL READS A REGISTRY: papers, what lies -/
def qMarksM (B : Nat → Nat) (n p : Nat) : Nat → Ofc → Tk → Er ⊕ (Ofc × Tk)
  | 0, A, T => .inr (A, T)
  | m + 1, A, T => if isNm B T = true then (match A.tOf (tw B T) with
    | none => .inl (3, T.2.1)
    | some t => if (A.tr p).testBit t = true then .inl (5, T.2.1) else qMarksM B n p m (A.setTr (updN A.tr p (A.tr p ||| 2 ^ t))) (nx B n T)) else .inr (A, T)
def qPaperM (B : Nat → Nat) (n : Nat) (A : Ofc) (T : Tk) : Er ⊕ (Ofc × Tk) := if A.np = 8 then .inl (6, T.2.1) else kA B n A (nx B n T) fun l T => qMarksM B n A.np 9 (A.addP l 0) T
section PM2
variable {d : Nat} {σ τ ρ : MS} {n : Nat} {A A' : Ofc} {B : Nat → Nat} {T U : Tk} {K : Option Value → MS → Prop}
theorem qMarksM_s (B : Nat → Nat) (n p m : Nat) (A : Ofc) (T : Tk) : qMarksM B n p (m + 1) A T = if isNm B T = true then (match A.tOf (tw B T) with
    | none => .inl (3, T.2.1)
    | some t => if (A.tr p).testBit t = true then .inl (5, T.2.1) else qMarksM B n p m (A.setTr (updN A.tr p (A.tr p ||| 2 ^ t))) (nx B n T)) else .inr (A, T) := rfl
theorem isS_nm {c : Nat} (h : isS B T c = true) : isNm B T = false := by
  unfold isS at h
  rw [Bool.and_eq_true, beq_iff_eq] at h
  unfold isNm
  rw [beq_eq_false_iff_ne.mpr (show T.1 ≠ 2 by omega)]
  rfl
theorem qMarksM_toE {p : Nat} (F : Fl) : ∀ (m : Nat) (A : Ofc) (T : Tk), toE B n (qMarksM B n p m A T) F = toE B n (qMarks B n p m A T) F := by
  intro m
  induction m with
  | zero => intro A T; rfl
  | succ m ih =>
    intro A T
    rw [qMarksM_s, qMarks_s]
    cases hs : isS B T 59 with
    | true => rw [if_pos rfl, isS_nm hs, if_neg Bool.false_ne_true]
    | false =>
      rw [if_neg Bool.false_ne_true]
      cases hn : isNm B T with
      | true =>
        rw [if_pos rfl, if_pos rfl]
        cases A.tOf (tw B T) with
        | none => rfl
        | some t =>
          dsimp only
          split
          · rfl
          · exact ih _ _
      | false =>
        rw [if_neg Bool.false_ne_true, if_neg Bool.false_ne_true]
        have hx : toE B n (.inr (A, T)) F = kE B n T (fun T => .inr ((A, F), T)) := rfl
        rw [hx]
        unfold kE
        rw [hs, if_neg Bool.false_ne_true]
        rfl
theorem qPaperM_toE (F : Fl) : toE B n (qPaperM B n A T) F = toE B n (qPaper B n A T) F := by
  unfold qPaperM qPaper kA
  dsimp only
  split
  · rfl
  · split
    · split
      · rfl
      · exact qMarksM_toE F _ _ _
    · rfl
theorem qMarksM_tk {p : Nat} : ∀ (m : Nat) (A : Ofc) (T : Tk), TkOk B n T → ∀ y, qMarksM B n p m A T = .inr y → TkOk B n y.2 := by
  intro m
  induction m with
  | zero => intro A T H y h; cases h; exact H
  | succ m ih =>
    intro A T H y h
    rw [qMarksM_s] at h
    split at h
    · split at h
      · cases h
      · split at h
        · cases h
        · exact ih _ _ (nx_ok H) y h
    · cases h; exact H
theorem addP_at (A : Ofc) (l : List Nat) (s : Nat) : (A.addP l s).tr A.np = s := by
  show updN A.tr A.np s A.np = s
  unfold updN
  rw [if_pos rfl]
theorem addP_set (A : Ofc) (l : List Nat) (s t : Nat) : (A.addP l s).setTr (updN (A.addP l s).tr A.np t) = A.addP l t := by
  have e : updN (updN A.tr A.np s) A.np t = updN A.tr A.np t := by
    funext i
    unfold updN
    by_cases h : i = A.np
    · rw [if_pos h, if_pos h]
    · rw [if_neg h, if_neg h, if_neg h]
  show (A.addP l s).setTr (updN (updN A.tr A.np s) A.np t) = A.addP l t
  rw [e]
  rfl
theorem m_marks (h9 : n ≤ 900) (O : OfcOk A) (N : NmOk A) {l : List Nat} (h8 : A.np < 8) : ∀ (m s : Nat) (σ : MS) (T : Tk), unN A.nt s < m → s < 256 → RRm σ B n T A → TkOk B n T → sL σ 122 (88 + A.np) = lN (nm256 l) →
   ∃ τ, MPost σ B n (qMarksM B n A.np m (A.addP l s) T) τ ∧ ∀ K j, zX (d + 4) 259 16 [.ref 120, .int (nI s), j] [] σ K = K (some (.int (bI (okR (qMarksM B n A.np m (A.addP l s) T))))) τ := by
  intro m
  induction m with
  | zero => intro s σ T hu; omega
  | succ m ih =>
    intro s σ T hu hs X H hl
    have t8 := O.t8
    have M := X.m
    rw [qMarksM_s]
    have inm := fun (K : Option Value → MS → Prop) => m_isName (d := d + 1) (K := K) M X.x H h9
    cases hn : isNm B T with
    | false =>
      rw [if_neg Bool.false_ne_true]
      have f1 : FM σ (setI σ 121 (1632 + 2 * A.np) (nI s)) := FM.sI (by omega)
      have X1 := X.free O (i := 1632 + 2 * A.np) (v := nI s) (by omega) (fun t h => by omega) (fun t h => by omega) (fun t h => by omega) (fun t h => by omega)
      have v1 : sI (setI σ 121 (1632 + 2 * A.np) (nI s)) 121 (1632 + 2 * A.np) = nI s := by rw [sI_setI, if_pos ⟨rfl, rfl⟩]
      have X2 := X1.addP O (l := l) v1 hl
      have M1 := X1.m
      have n1 := X1.n1
      refine ⟨_, MP.yes (f1.tr (FM.sI (by omega))) X2, fun K j => ?_⟩
      have ei : 1616 + (16 + 2 * A.np) = 1632 + 2 * A.np := by omega
      have b1 : 1632 + 2 * A.np < 2640 := by omega
      rw [L_259_16, zt_259_16]
      simp (disch := omega) only [L_259_51, zt_259_51, L_259_66, zt_259_66, L_259_79, zt_259_79, ↓e_iconst0, ↓e_iconst1, ↓e_bipush0, ↓e_bipush1, ↓e_sipush0, ↓e_sipush1, ↓e_ldc0, ↓e_ldc1, ↓e_ldc_w0, ↓e_ldc_w1, ↓e_ldc2, ↓e_lconst0, ↓e_lconst1, ↓e_ldc2_w0, ↓e_ldc2_w1, ↓e_iload, ↓e_iload_n, ↓e_istore, ↓e_istore_n, ↓e_lload, ↓e_lload_n, ↓e_lstore, ↓e_lstore_n, ↓e_aload, ↓e_aload_n, ↓e_astore, ↓e_astore_n, ↓e_iinc0, ↓e_iinc1, ↓e_iadd, ↓e_isub, ↓e_imul, ↓e_iand, ↓e_ior, ↓e_ixor, ↓e_ishl, ↓e_ishr, ↓e_iushr, ↓e_ladd, ↓e_lsub, ↓e_lmul, ↓e_land, ↓e_lor, ↓e_idiv, ↓e_irem, ↓e_ldiv, ↓e_lrem, ↓e_lshl, ↓e_lcmp, ↓e_i2l, ↓e_l2i, ↓e_i2b, ↓e_i2s, ↓e_dup_int, ↓e_pop_int, ↓e_dup_ref, ↓e_pop_ref, ↓e_dup2, ↓e_goto, ↓e_nop, ↓e_ifCond_eq, ↓e_if_icmp_eq, ↓e_ifCond_ne, ↓e_if_icmp_ne, ↓e_ifCond_lt, ↓e_if_icmp_lt, ↓e_ifCond_ge, ↓e_if_icmp_ge, ↓e_ifCond_gt, ↓e_if_icmp_gt, ↓e_ifCond_le, ↓e_if_icmp_le, ↓e_tab, ↓e_look, ↓e_get0, ↓e_get1, ↓e_get2, ↓e_get3, ↓e_put0, ↓e_put1, ↓e_put2, ↓e_put3, ↓e_iaload, ↓e_laload, ↓e_baload, ↓e_aaload, ↓e_iastore, ↓e_lastore, ↓e_bastore, ↓e_aastore, ↓e_alen, ↓e_new, ↓e_newarray, ↓e_anewarray, ↓e_objinit, ↓e_virt1, ↓e_virt2, ↓e_virt3, ↓e_virt4, ↓e_virt5, ↓e_virt6, ↓e_virt7, ↓e_stat0, ↓e_stat1, ↓e_stat2, ↓e_stat3, ↓e_stat4, ↓e_stat5, ↓e_stat6, ↓e_stat7, ↓e_spec1, ↓e_spec2, ↓e_spec3, ↓e_spec4, ↓e_spec5, ↓e_strlen, ↓e_charAt, ↓e_copy, ↓e_iret0, ↓e_iret1, ↓e_lret, ↓e_aret, ↓e_vret, zIsI_int, zIsL_long, zIsA_ref, zInt_int, true_and, and_true, ↓reduceIte, zGet, zSet, zSet2, zEnt, zWid, Value.category, List.map_cons, List.map_nil, List.sum_cons, List.sum_nil, List.replicate, Option.toList, Nat.reduceAdd, Nat.reduceSub, Nat.reduceMul, Nat.reduceLeDiff, Nat.reduceEqDiff, Nat.reduceLT, List.cons_append, List.nil_append, true_or, or_true, or_false, false_or, nI_ltI, nI_leI, nI_eq, nI_clamp, zIn_nI, bI_0, nI_add, nI_mul, nI_or, nI_and, nI_shl1, nI_bit, ↓pk_rem, pk_div, Nat.lt_irrefl, Nat.not_lt_zero, reduceCtorEq, M.k, M.r0, M.r1, M.r5, M.r6, M.r7, M.r8, M.r9, M.r21, M.r24, M.r25, M.r28, M.r29, M.r30, M.r31, M.r35, M.r36, M.r37, M.r38, M.r40, M.r43, M.r44, M.r45, M.k121, M.k122, M.k123, M.k124, M.k125, M.k126, M.k127, M.k128, M.k129, M.k130, M.k131, M.k132, M.k133, M.k134, M.k135, M.k136, M.k137, M.k138, M.k139, M.k140, M.k141, M.k142, ↓inm, hn, show bI false = nI 0 from rfl, X.n1, ↓m_paperRow, ei, b1, M1.k, M1.r0, M1.r1, M1.r5, M1.r6, M1.r7, M1.r8, M1.r9, M1.r21, M1.r24, M1.r25, M1.r28, M1.r29, M1.r30, M1.r31, M1.r35, M1.r36, M1.r37, M1.r38, M1.r40, M1.r43, M1.r44, M1.r45, M1.k121, M1.k122, M1.k123, M1.k124, M1.k125, M1.k126, M1.k127, M1.k128, M1.k129, M1.k130, M1.k131, M1.k132, M1.k133, M1.k134, M1.k135, M1.k136, M1.k137, M1.k138, M1.k139, M1.k140, M1.k141, M1.k142, n1]
      rfl
    | true =>
      rw [if_pos rfl]
      have e3 := (m_find3 (d := d + 1) X H h9 O N hn).1
      have T1n : T.1 ≠ 1 := by have := (isNm_is hn).1; omega
      have et : (A.addP l s).tOf (tw B T) = A.tOf (tw B T) := rfl
      rw [et]
      cases ht : A.tOf (tw B T) with
      | none =>
        refine ⟨_, MP.no FM.rf, fun K j => ?_⟩
        rw [L_259_16, zt_259_16]
        simp (disch := omega) only [L_259_51, zt_259_51, L_259_66, zt_259_66, L_259_79, zt_259_79, ↓e_iconst0, ↓e_iconst1, ↓e_bipush0, ↓e_bipush1, ↓e_sipush0, ↓e_sipush1, ↓e_ldc0, ↓e_ldc1, ↓e_ldc_w0, ↓e_ldc_w1, ↓e_ldc2, ↓e_lconst0, ↓e_lconst1, ↓e_ldc2_w0, ↓e_ldc2_w1, ↓e_iload, ↓e_iload_n, ↓e_istore, ↓e_istore_n, ↓e_lload, ↓e_lload_n, ↓e_lstore, ↓e_lstore_n, ↓e_aload, ↓e_aload_n, ↓e_astore, ↓e_astore_n, ↓e_iinc0, ↓e_iinc1, ↓e_iadd, ↓e_isub, ↓e_imul, ↓e_iand, ↓e_ior, ↓e_ixor, ↓e_ishl, ↓e_ishr, ↓e_iushr, ↓e_ladd, ↓e_lsub, ↓e_lmul, ↓e_land, ↓e_lor, ↓e_idiv, ↓e_irem, ↓e_ldiv, ↓e_lrem, ↓e_lshl, ↓e_lcmp, ↓e_i2l, ↓e_l2i, ↓e_i2b, ↓e_i2s, ↓e_dup_int, ↓e_pop_int, ↓e_dup_ref, ↓e_pop_ref, ↓e_dup2, ↓e_goto, ↓e_nop, ↓e_ifCond_eq, ↓e_if_icmp_eq, ↓e_ifCond_ne, ↓e_if_icmp_ne, ↓e_ifCond_lt, ↓e_if_icmp_lt, ↓e_ifCond_ge, ↓e_if_icmp_ge, ↓e_ifCond_gt, ↓e_if_icmp_gt, ↓e_ifCond_le, ↓e_if_icmp_le, ↓e_tab, ↓e_look, ↓e_get0, ↓e_get1, ↓e_get2, ↓e_get3, ↓e_put0, ↓e_put1, ↓e_put2, ↓e_put3, ↓e_iaload, ↓e_laload, ↓e_baload, ↓e_aaload, ↓e_iastore, ↓e_lastore, ↓e_bastore, ↓e_aastore, ↓e_alen, ↓e_new, ↓e_newarray, ↓e_anewarray, ↓e_objinit, ↓e_virt1, ↓e_virt2, ↓e_virt3, ↓e_virt4, ↓e_virt5, ↓e_virt6, ↓e_virt7, ↓e_stat0, ↓e_stat1, ↓e_stat2, ↓e_stat3, ↓e_stat4, ↓e_stat5, ↓e_stat6, ↓e_stat7, ↓e_spec1, ↓e_spec2, ↓e_spec3, ↓e_spec4, ↓e_spec5, ↓e_strlen, ↓e_charAt, ↓e_copy, ↓e_iret0, ↓e_iret1, ↓e_lret, ↓e_aret, ↓e_vret, zIsI_int, zIsL_long, zIsA_ref, zInt_int, true_and, and_true, ↓reduceIte, zGet, zSet, zSet2, zEnt, zWid, Value.category, List.map_cons, List.map_nil, List.sum_cons, List.sum_nil, List.replicate, Option.toList, Nat.reduceAdd, Nat.reduceSub, Nat.reduceMul, Nat.reduceLeDiff, Nat.reduceEqDiff, Nat.reduceLT, List.cons_append, List.nil_append, true_or, or_true, or_false, false_or, nI_ltI, nI_leI, nI_eq, nI_clamp, zIn_nI, bI_0, nI_add, nI_mul, nI_or, nI_and, nI_shl1, nI_bit, ↓pk_rem, pk_div, Nat.lt_irrefl, Nat.not_lt_zero, reduceCtorEq, M.k, M.r0, M.r1, M.r5, M.r6, M.r7, M.r8, M.r9, M.r21, M.r24, M.r25, M.r28, M.r29, M.r30, M.r31, M.r35, M.r36, M.r37, M.r38, M.r40, M.r43, M.r44, M.r45, M.k121, M.k122, M.k123, M.k124, M.k125, M.k126, M.k127, M.k128, M.k129, M.k130, M.k131, M.k132, M.k133, M.k134, M.k135, M.k136, M.k137, M.k138, M.k139, M.k140, M.k141, M.k142, ↓inm, hn, show bI true = nI 1 from rfl, X.n0, ↓e3, ht, show oI none = -nI 1 from rfl, ↓m_failsW M X.x H X.z T1n]
        rfl
      | some t =>
        have tl := (ff_is ht).1
        have nt1 : ¬ nI t = -nI 1 := oI_some_ne (k := t) (by omega)
        dsimp only
        rw [addP_at]
        cases hb : s.testBit t with
        | true =>
          rw [if_pos rfl]
          refine ⟨_, MP.no FM.rf, fun K j => ?_⟩
          rw [L_259_16, zt_259_16]
          simp (disch := omega) only [L_259_51, zt_259_51, L_259_66, zt_259_66, L_259_79, zt_259_79, ↓e_iconst0, ↓e_iconst1, ↓e_bipush0, ↓e_bipush1, ↓e_sipush0, ↓e_sipush1, ↓e_ldc0, ↓e_ldc1, ↓e_ldc_w0, ↓e_ldc_w1, ↓e_ldc2, ↓e_lconst0, ↓e_lconst1, ↓e_ldc2_w0, ↓e_ldc2_w1, ↓e_iload, ↓e_iload_n, ↓e_istore, ↓e_istore_n, ↓e_lload, ↓e_lload_n, ↓e_lstore, ↓e_lstore_n, ↓e_aload, ↓e_aload_n, ↓e_astore, ↓e_astore_n, ↓e_iinc0, ↓e_iinc1, ↓e_iadd, ↓e_isub, ↓e_imul, ↓e_iand, ↓e_ior, ↓e_ixor, ↓e_ishl, ↓e_ishr, ↓e_iushr, ↓e_ladd, ↓e_lsub, ↓e_lmul, ↓e_land, ↓e_lor, ↓e_idiv, ↓e_irem, ↓e_ldiv, ↓e_lrem, ↓e_lshl, ↓e_lcmp, ↓e_i2l, ↓e_l2i, ↓e_i2b, ↓e_i2s, ↓e_dup_int, ↓e_pop_int, ↓e_dup_ref, ↓e_pop_ref, ↓e_dup2, ↓e_goto, ↓e_nop, ↓e_ifCond_eq, ↓e_if_icmp_eq, ↓e_ifCond_ne, ↓e_if_icmp_ne, ↓e_ifCond_lt, ↓e_if_icmp_lt, ↓e_ifCond_ge, ↓e_if_icmp_ge, ↓e_ifCond_gt, ↓e_if_icmp_gt, ↓e_ifCond_le, ↓e_if_icmp_le, ↓e_tab, ↓e_look, ↓e_get0, ↓e_get1, ↓e_get2, ↓e_get3, ↓e_put0, ↓e_put1, ↓e_put2, ↓e_put3, ↓e_iaload, ↓e_laload, ↓e_baload, ↓e_aaload, ↓e_iastore, ↓e_lastore, ↓e_bastore, ↓e_aastore, ↓e_alen, ↓e_new, ↓e_newarray, ↓e_anewarray, ↓e_objinit, ↓e_virt1, ↓e_virt2, ↓e_virt3, ↓e_virt4, ↓e_virt5, ↓e_virt6, ↓e_virt7, ↓e_stat0, ↓e_stat1, ↓e_stat2, ↓e_stat3, ↓e_stat4, ↓e_stat5, ↓e_stat6, ↓e_stat7, ↓e_spec1, ↓e_spec2, ↓e_spec3, ↓e_spec4, ↓e_spec5, ↓e_strlen, ↓e_charAt, ↓e_copy, ↓e_iret0, ↓e_iret1, ↓e_lret, ↓e_aret, ↓e_vret, zIsI_int, zIsL_long, zIsA_ref, zInt_int, true_and, and_true, ↓reduceIte, zGet, zSet, zSet2, zEnt, zWid, Value.category, List.map_cons, List.map_nil, List.sum_cons, List.sum_nil, List.replicate, Option.toList, Nat.reduceAdd, Nat.reduceSub, Nat.reduceMul, Nat.reduceLeDiff, Nat.reduceEqDiff, Nat.reduceLT, List.cons_append, List.nil_append, true_or, or_true, or_false, false_or, nI_ltI, nI_leI, nI_eq, nI_clamp, zIn_nI, bI_0, nI_add, nI_mul, nI_or, nI_and, nI_shl1, nI_bit, ↓pk_rem, pk_div, Nat.lt_irrefl, Nat.not_lt_zero, reduceCtorEq, M.k, M.r0, M.r1, M.r5, M.r6, M.r7, M.r8, M.r9, M.r21, M.r24, M.r25, M.r28, M.r29, M.r30, M.r31, M.r35, M.r36, M.r37, M.r38, M.r40, M.r43, M.r44, M.r45, M.k121, M.k122, M.k123, M.k124, M.k125, M.k126, M.k127, M.k128, M.k129, M.k130, M.k131, M.k132, M.k133, M.k134, M.k135, M.k136, M.k137, M.k138, M.k139, M.k140, M.k141, M.k142, ↓inm, hn, show bI true = nI 1 from rfl, X.n0, ↓e3, ht, show oI (some t) = nI t from rfl, nt1, hb, ↓m_failsW M X.x H X.z T1n]
          rfl
        | false =>
          rw [if_neg Bool.false_ne_true, addP_set]
          obtain ⟨τ1, f1, Y1, e1⟩ := m_adv (d := d + 2) M X.x H h9
          have X1 := X.tm f1 Y1
          obtain ⟨τ2, P2, e2⟩ := ih (s ||| 2 ^ t) τ1 (nx B n T) (by have := unN_lt tl hb; omega) (or256 hs (pow256 (by omega))) X1 (nx_ok H) ((f1.1.L (by omega) _).trans hl)
          refine ⟨τ2, MP.tr (FM.tm f1) P2, fun K j => ?_⟩
          have n01 : ¬ nI 0 = nI 1 := by decide
          rw [← e2 K (.int (nI t)), L_259_16, zt_259_16]
          simp (disch := omega) only [L_259_51, zt_259_51, L_259_66, zt_259_66, L_259_79, zt_259_79, ↓e_iconst0, ↓e_iconst1, ↓e_bipush0, ↓e_bipush1, ↓e_sipush0, ↓e_sipush1, ↓e_ldc0, ↓e_ldc1, ↓e_ldc_w0, ↓e_ldc_w1, ↓e_ldc2, ↓e_lconst0, ↓e_lconst1, ↓e_ldc2_w0, ↓e_ldc2_w1, ↓e_iload, ↓e_iload_n, ↓e_istore, ↓e_istore_n, ↓e_lload, ↓e_lload_n, ↓e_lstore, ↓e_lstore_n, ↓e_aload, ↓e_aload_n, ↓e_astore, ↓e_astore_n, ↓e_iinc0, ↓e_iinc1, ↓e_iadd, ↓e_isub, ↓e_imul, ↓e_iand, ↓e_ior, ↓e_ixor, ↓e_ishl, ↓e_ishr, ↓e_iushr, ↓e_ladd, ↓e_lsub, ↓e_lmul, ↓e_land, ↓e_lor, ↓e_idiv, ↓e_irem, ↓e_ldiv, ↓e_lrem, ↓e_lshl, ↓e_lcmp, ↓e_i2l, ↓e_l2i, ↓e_i2b, ↓e_i2s, ↓e_dup_int, ↓e_pop_int, ↓e_dup_ref, ↓e_pop_ref, ↓e_dup2, ↓e_goto, ↓e_nop, ↓e_ifCond_eq, ↓e_if_icmp_eq, ↓e_ifCond_ne, ↓e_if_icmp_ne, ↓e_ifCond_lt, ↓e_if_icmp_lt, ↓e_ifCond_ge, ↓e_if_icmp_ge, ↓e_ifCond_gt, ↓e_if_icmp_gt, ↓e_ifCond_le, ↓e_if_icmp_le, ↓e_tab, ↓e_look, ↓e_get0, ↓e_get1, ↓e_get2, ↓e_get3, ↓e_put0, ↓e_put1, ↓e_put2, ↓e_put3, ↓e_iaload, ↓e_laload, ↓e_baload, ↓e_aaload, ↓e_iastore, ↓e_lastore, ↓e_bastore, ↓e_aastore, ↓e_alen, ↓e_new, ↓e_newarray, ↓e_anewarray, ↓e_objinit, ↓e_virt1, ↓e_virt2, ↓e_virt3, ↓e_virt4, ↓e_virt5, ↓e_virt6, ↓e_virt7, ↓e_stat0, ↓e_stat1, ↓e_stat2, ↓e_stat3, ↓e_stat4, ↓e_stat5, ↓e_stat6, ↓e_stat7, ↓e_spec1, ↓e_spec2, ↓e_spec3, ↓e_spec4, ↓e_spec5, ↓e_strlen, ↓e_charAt, ↓e_copy, ↓e_iret0, ↓e_iret1, ↓e_lret, ↓e_aret, ↓e_vret, zIsI_int, zIsL_long, zIsA_ref, zInt_int, true_and, and_true, ↓reduceIte, zGet, zSet, zSet2, zEnt, zWid, Value.category, List.map_cons, List.map_nil, List.sum_cons, List.sum_nil, List.replicate, Option.toList, Nat.reduceAdd, Nat.reduceSub, Nat.reduceMul, Nat.reduceLeDiff, Nat.reduceEqDiff, Nat.reduceLT, List.cons_append, List.nil_append, true_or, or_true, or_false, false_or, nI_ltI, nI_leI, nI_eq, nI_clamp, zIn_nI, bI_0, nI_add, nI_mul, nI_or, nI_and, nI_shl1, nI_bit, ↓pk_rem, pk_div, Nat.lt_irrefl, Nat.not_lt_zero, reduceCtorEq, M.k, M.r0, M.r1, M.r5, M.r6, M.r7, M.r8, M.r9, M.r21, M.r24, M.r25, M.r28, M.r29, M.r30, M.r31, M.r35, M.r36, M.r37, M.r38, M.r40, M.r43, M.r44, M.r45, M.k121, M.k122, M.k123, M.k124, M.k125, M.k126, M.k127, M.k128, M.k129, M.k130, M.k131, M.k132, M.k133, M.k134, M.k135, M.k136, M.k137, M.k138, M.k139, M.k140, M.k141, M.k142, ↓inm, hn, show bI true = nI 1 from rfl, show bI false = nI 0 from rfl, n01, X.n0, ↓e3, ht, show oI (some t) = nI t from rfl, nt1, hb, ↓e1]
theorem m_aPaper (X : RRm σ B n T A) (H : TkOk B n T) (h9 : n ≤ 900) (O : OfcOk A) (N : NmOk A) (hT : T.1 = 2) :
   ∃ τ, MPost σ B n (qPaperM B n A T) τ ∧ (∀ y, qPaperM B n A T = .inr y → TkOk B n y.2) ∧ ∀ K, zC (d + 5) 259 [.ref 120] σ K = K (some (.int (bI (okR (qPaperM B n A T))))) τ := by
  have t8 := O.t8
  have p8 := O.p8
  have c4 := O.c4
  have M := X.m
  obtain ⟨τ1, P1, j1, e1⟩ := m_newOne (d := d) X H h9 O N hT (many := 1) (most := 8) (s0 := 8) (c := A.np) (by omega) (by omega) (by omega) X.n1 p8 (fun _ t h => by omega) (fun _ t h => by omega) (fun _ t h => by omega)
  unfold qPaperM
  rw [new_bnd]
  cases hq : qNew B n A.np 8 A T with
  | inl e =>
    rw [hq] at P1 e1
    have e1 : ∀ K, zC (d + 4) 255 [.ref 120, .int (nI 1), .int (nI 8), .int (nI 8)] σ K = K (some (.int (nI 0))) τ1 := e1
    refine ⟨τ1, P1, (fun y h => by cases h), fun K => ?_⟩
    rw [E_259]
    simp (disch := omega) only [L_259_0, zt_259_0, L_259_14, zt_259_14, ↓e_iconst0, ↓e_iconst1, ↓e_bipush0, ↓e_bipush1, ↓e_sipush0, ↓e_sipush1, ↓e_ldc0, ↓e_ldc1, ↓e_ldc_w0, ↓e_ldc_w1, ↓e_ldc2, ↓e_lconst0, ↓e_lconst1, ↓e_ldc2_w0, ↓e_ldc2_w1, ↓e_iload, ↓e_iload_n, ↓e_istore, ↓e_istore_n, ↓e_lload, ↓e_lload_n, ↓e_lstore, ↓e_lstore_n, ↓e_aload, ↓e_aload_n, ↓e_astore, ↓e_astore_n, ↓e_iinc0, ↓e_iinc1, ↓e_iadd, ↓e_isub, ↓e_imul, ↓e_iand, ↓e_ior, ↓e_ixor, ↓e_ishl, ↓e_ishr, ↓e_iushr, ↓e_ladd, ↓e_lsub, ↓e_lmul, ↓e_land, ↓e_lor, ↓e_idiv, ↓e_irem, ↓e_ldiv, ↓e_lrem, ↓e_lshl, ↓e_lcmp, ↓e_i2l, ↓e_l2i, ↓e_i2b, ↓e_i2s, ↓e_dup_int, ↓e_pop_int, ↓e_dup_ref, ↓e_pop_ref, ↓e_dup2, ↓e_goto, ↓e_nop, ↓e_ifCond_eq, ↓e_if_icmp_eq, ↓e_ifCond_ne, ↓e_if_icmp_ne, ↓e_ifCond_lt, ↓e_if_icmp_lt, ↓e_ifCond_ge, ↓e_if_icmp_ge, ↓e_ifCond_gt, ↓e_if_icmp_gt, ↓e_ifCond_le, ↓e_if_icmp_le, ↓e_tab, ↓e_look, ↓e_get0, ↓e_get1, ↓e_get2, ↓e_get3, ↓e_put0, ↓e_put1, ↓e_put2, ↓e_put3, ↓e_iaload, ↓e_laload, ↓e_baload, ↓e_aaload, ↓e_iastore, ↓e_lastore, ↓e_bastore, ↓e_aastore, ↓e_alen, ↓e_new, ↓e_newarray, ↓e_anewarray, ↓e_objinit, ↓e_virt1, ↓e_virt2, ↓e_virt3, ↓e_virt4, ↓e_virt5, ↓e_virt6, ↓e_virt7, ↓e_stat0, ↓e_stat1, ↓e_stat2, ↓e_stat3, ↓e_stat4, ↓e_stat5, ↓e_stat6, ↓e_stat7, ↓e_spec1, ↓e_spec2, ↓e_spec3, ↓e_spec4, ↓e_spec5, ↓e_strlen, ↓e_charAt, ↓e_copy, ↓e_iret0, ↓e_iret1, ↓e_lret, ↓e_aret, ↓e_vret, zIsI_int, zIsL_long, zIsA_ref, zInt_int, true_and, and_true, ↓reduceIte, zGet, zSet, zSet2, zEnt, zWid, Value.category, List.map_cons, List.map_nil, List.sum_cons, List.sum_nil, List.replicate, Option.toList, Nat.reduceAdd, Nat.reduceSub, Nat.reduceMul, Nat.reduceLeDiff, Nat.reduceEqDiff, Nat.reduceLT, List.cons_append, List.nil_append, true_or, or_true, or_false, false_or, nI_ltI, nI_leI, nI_eq, nI_clamp, zIn_nI, bI_0, nI_add, nI_mul, nI_or, nI_and, nI_shl1, nI_bit, ↓pk_rem, pk_div, Nat.lt_irrefl, Nat.not_lt_zero, reduceCtorEq, M.k, ↓e1]
    rfl
  | inr y =>
    obtain ⟨H1, nm, hne⟩ := qNew_tk H y hq
    rw [hq] at P1 e1
    have e7 : ∀ K, zC (d + 4) 255 [.ref 120, .int (nI 1), .int (nI 8), .int (nI 8)] σ K = K (some (.int (nI 1))) τ1 := e1
    obtain ⟨f1, X1, s1⟩ := P1
    obtain ⟨l, T1⟩ := y
    dsimp only at X1 s1 H1 nm ⊢
    have h8 : A.np < 8 := by omega
    obtain ⟨τ2, P2, e2⟩ := m_marks (d := d) (l := l) h9 O N h8 9 0 τ1 T1 (by have := ct_le (P := fun i => !((0 : Nat).testBit i)) A.nt; unfold unN; omega) (by decide) X1 H1 (by rw [show 88 + A.np = 80 + 8 + A.np by omega]; exact s1)
    refine ⟨τ2, MP.tr f1 P2, qMarksM_tk 9 _ _ H1, fun K => ?_⟩
    rw [← e2 K .null, E_259]
    simp (disch := omega) only [L_259_0, zt_259_0, L_259_14, zt_259_14, ↓e_iconst0, ↓e_iconst1, ↓e_bipush0, ↓e_bipush1, ↓e_sipush0, ↓e_sipush1, ↓e_ldc0, ↓e_ldc1, ↓e_ldc_w0, ↓e_ldc_w1, ↓e_ldc2, ↓e_lconst0, ↓e_lconst1, ↓e_ldc2_w0, ↓e_ldc2_w1, ↓e_iload, ↓e_iload_n, ↓e_istore, ↓e_istore_n, ↓e_lload, ↓e_lload_n, ↓e_lstore, ↓e_lstore_n, ↓e_aload, ↓e_aload_n, ↓e_astore, ↓e_astore_n, ↓e_iinc0, ↓e_iinc1, ↓e_iadd, ↓e_isub, ↓e_imul, ↓e_iand, ↓e_ior, ↓e_ixor, ↓e_ishl, ↓e_ishr, ↓e_iushr, ↓e_ladd, ↓e_lsub, ↓e_lmul, ↓e_land, ↓e_lor, ↓e_idiv, ↓e_irem, ↓e_ldiv, ↓e_lrem, ↓e_lshl, ↓e_lcmp, ↓e_i2l, ↓e_l2i, ↓e_i2b, ↓e_i2s, ↓e_dup_int, ↓e_pop_int, ↓e_dup_ref, ↓e_pop_ref, ↓e_dup2, ↓e_goto, ↓e_nop, ↓e_ifCond_eq, ↓e_if_icmp_eq, ↓e_ifCond_ne, ↓e_if_icmp_ne, ↓e_ifCond_lt, ↓e_if_icmp_lt, ↓e_ifCond_ge, ↓e_if_icmp_ge, ↓e_ifCond_gt, ↓e_if_icmp_gt, ↓e_ifCond_le, ↓e_if_icmp_le, ↓e_tab, ↓e_look, ↓e_get0, ↓e_get1, ↓e_get2, ↓e_get3, ↓e_put0, ↓e_put1, ↓e_put2, ↓e_put3, ↓e_iaload, ↓e_laload, ↓e_baload, ↓e_aaload, ↓e_iastore, ↓e_lastore, ↓e_bastore, ↓e_aastore, ↓e_alen, ↓e_new, ↓e_newarray, ↓e_anewarray, ↓e_objinit, ↓e_virt1, ↓e_virt2, ↓e_virt3, ↓e_virt4, ↓e_virt5, ↓e_virt6, ↓e_virt7, ↓e_stat0, ↓e_stat1, ↓e_stat2, ↓e_stat3, ↓e_stat4, ↓e_stat5, ↓e_stat6, ↓e_stat7, ↓e_spec1, ↓e_spec2, ↓e_spec3, ↓e_spec4, ↓e_spec5, ↓e_strlen, ↓e_charAt, ↓e_copy, ↓e_iret0, ↓e_iret1, ↓e_lret, ↓e_aret, ↓e_vret, zIsI_int, zIsL_long, zIsA_ref, zInt_int, true_and, and_true, ↓reduceIte, zGet, zSet, zSet2, zEnt, zWid, Value.category, List.map_cons, List.map_nil, List.sum_cons, List.sum_nil, List.replicate, Option.toList, Nat.reduceAdd, Nat.reduceSub, Nat.reduceMul, Nat.reduceLeDiff, Nat.reduceEqDiff, Nat.reduceLT, List.cons_append, List.nil_append, true_or, or_true, or_false, false_or, nI_ltI, nI_leI, nI_eq, nI_clamp, zIn_nI, bI_0, nI_add, nI_mul, nI_or, nI_and, nI_shl1, nI_bit, ↓pk_rem, pk_div, Nat.lt_irrefl, Nat.not_lt_zero, reduceCtorEq, M.k, ↓e7]
theorem RRm.w17 (X : RRm σ B n T A) {p : Nat} (hp : p < 8) : sI σ 121 (1616 + (16 + 2 * p) + 1) = oI (A.pl p) := by
  rw [show 1616 + (16 + 2 * p) + 1 = 1632 + 2 * p + 1 by omega]
  exact X.a17 p hp
theorem m_lyLoop (X : RRm σ B n T A) (H : TkOk B n T) (O : OfcOk A) (hT : T.1 ≠ 1) {v : Nat} (hv : v < 2 ^ 31) : ∀ k i, i + k = A.np → (∀ p, p < i → A.pl p ≠ some v) → zX (d + 4) 262 112 [.ref 120, .int (nI 2012), .int (nI v), .int (nI i)] [] σ K = if (A.who v).isSome = true then K (some (.int (nI 0))) (fltM σ 5 T.2.1) else zX (d + 4) 262 160 [.ref 120, .int (nI 2012), .int (nI v), .int (nI A.np)] [] σ K := by
  have p8 := O.p8
  have M := X.m
  have vn : ¬ nI v = -nI 1 := oI_some_ne (k := v) hv
  intro k
  induction k with
  | zero =>
    intro i hi hn
    have : i = A.np := by omega
    subst this
    have w : A.who v = none := who_none O (fun p hp => hn p hp)
    rw [w]
    simp only [Option.isSome, Bool.false_eq_true, if_false]
    rw [L_262_112, zt_262_112]
    simp (disch := omega) only [↓e_iconst0, ↓e_iconst1, ↓e_bipush0, ↓e_bipush1, ↓e_sipush0, ↓e_sipush1, ↓e_ldc0, ↓e_ldc1, ↓e_ldc_w0, ↓e_ldc_w1, ↓e_ldc2, ↓e_lconst0, ↓e_lconst1, ↓e_ldc2_w0, ↓e_ldc2_w1, ↓e_iload, ↓e_iload_n, ↓e_istore, ↓e_istore_n, ↓e_lload, ↓e_lload_n, ↓e_lstore, ↓e_lstore_n, ↓e_aload, ↓e_aload_n, ↓e_astore, ↓e_astore_n, ↓e_iinc0, ↓e_iinc1, ↓e_iadd, ↓e_isub, ↓e_imul, ↓e_iand, ↓e_ior, ↓e_ixor, ↓e_ishl, ↓e_ishr, ↓e_iushr, ↓e_ladd, ↓e_lsub, ↓e_lmul, ↓e_land, ↓e_lor, ↓e_idiv, ↓e_irem, ↓e_ldiv, ↓e_lrem, ↓e_lshl, ↓e_lcmp, ↓e_i2l, ↓e_l2i, ↓e_i2b, ↓e_i2s, ↓e_dup_int, ↓e_pop_int, ↓e_dup_ref, ↓e_pop_ref, ↓e_dup2, ↓e_goto, ↓e_nop, ↓e_ifCond_eq, ↓e_if_icmp_eq, ↓e_ifCond_ne, ↓e_if_icmp_ne, ↓e_ifCond_lt, ↓e_if_icmp_lt, ↓e_ifCond_ge, ↓e_if_icmp_ge, ↓e_ifCond_gt, ↓e_if_icmp_gt, ↓e_ifCond_le, ↓e_if_icmp_le, ↓e_tab, ↓e_look, ↓e_get0, ↓e_get1, ↓e_get2, ↓e_get3, ↓e_put0, ↓e_put1, ↓e_put2, ↓e_put3, ↓e_iaload, ↓e_laload, ↓e_baload, ↓e_aaload, ↓e_iastore, ↓e_lastore, ↓e_bastore, ↓e_aastore, ↓e_alen, ↓e_new, ↓e_newarray, ↓e_anewarray, ↓e_objinit, ↓e_virt1, ↓e_virt2, ↓e_virt3, ↓e_virt4, ↓e_virt5, ↓e_virt6, ↓e_virt7, ↓e_stat0, ↓e_stat1, ↓e_stat2, ↓e_stat3, ↓e_stat4, ↓e_stat5, ↓e_stat6, ↓e_stat7, ↓e_spec1, ↓e_spec2, ↓e_spec3, ↓e_spec4, ↓e_spec5, ↓e_strlen, ↓e_charAt, ↓e_copy, ↓e_iret0, ↓e_iret1, ↓e_lret, ↓e_aret, ↓e_vret, zIsI_int, zIsL_long, zIsA_ref, zInt_int, true_and, and_true, ↓reduceIte, zGet, zSet, zSet2, zEnt, zWid, Value.category, List.map_cons, List.map_nil, List.sum_cons, List.sum_nil, List.replicate, Option.toList, Nat.reduceAdd, Nat.reduceSub, Nat.reduceMul, Nat.reduceLeDiff, Nat.reduceEqDiff, Nat.reduceLT, List.cons_append, List.nil_append, true_or, or_true, or_false, false_or, nI_ltI, nI_leI, nI_eq, nI_clamp, zIn_nI, bI_0, nI_add, nI_mul, nI_or, nI_and, nI_shl1, nI_bit, ↓pk_rem, pk_div, Nat.lt_irrefl, Nat.not_lt_zero, reduceCtorEq, M.k, M.r0, M.r1, M.r5, M.r6, M.r7, M.r8, M.r9, M.r21, M.r24, M.r25, M.r28, M.r29, M.r30, M.r31, M.r35, M.r36, M.r37, M.r38, M.r40, M.r43, M.r44, M.r45, M.k121, M.k122, M.k123, M.k124, M.k125, M.k126, M.k127, M.k128, M.k129, M.k130, M.k131, M.k132, M.k133, M.k134, M.k135, M.k136, M.k137, M.k138, M.k139, M.k140, M.k141, M.k142, X.n1]
  | succ k ih =>
    intro i hi hn
    have b1 : i < A.np := by omega
    have r := X.w17 (p := i) (by omega)
    have b2 : 1616 + (16 + 2 * i) + 1 < 2640 := by omega
    rw [L_262_112, zt_262_112]
    by_cases hp : A.pl i = some v
    · have w : A.who v = some i := (who_iff O).mpr hp
      have r2 : oI (A.pl i) = nI v := by rw [hp]; rfl
      rw [w]
      simp (disch := omega) only [L_262_154, zt_262_154, ↓e_iconst0, ↓e_iconst1, ↓e_bipush0, ↓e_bipush1, ↓e_sipush0, ↓e_sipush1, ↓e_ldc0, ↓e_ldc1, ↓e_ldc_w0, ↓e_ldc_w1, ↓e_ldc2, ↓e_lconst0, ↓e_lconst1, ↓e_ldc2_w0, ↓e_ldc2_w1, ↓e_iload, ↓e_iload_n, ↓e_istore, ↓e_istore_n, ↓e_lload, ↓e_lload_n, ↓e_lstore, ↓e_lstore_n, ↓e_aload, ↓e_aload_n, ↓e_astore, ↓e_astore_n, ↓e_iinc0, ↓e_iinc1, ↓e_iadd, ↓e_isub, ↓e_imul, ↓e_iand, ↓e_ior, ↓e_ixor, ↓e_ishl, ↓e_ishr, ↓e_iushr, ↓e_ladd, ↓e_lsub, ↓e_lmul, ↓e_land, ↓e_lor, ↓e_idiv, ↓e_irem, ↓e_ldiv, ↓e_lrem, ↓e_lshl, ↓e_lcmp, ↓e_i2l, ↓e_l2i, ↓e_i2b, ↓e_i2s, ↓e_dup_int, ↓e_pop_int, ↓e_dup_ref, ↓e_pop_ref, ↓e_dup2, ↓e_goto, ↓e_nop, ↓e_ifCond_eq, ↓e_if_icmp_eq, ↓e_ifCond_ne, ↓e_if_icmp_ne, ↓e_ifCond_lt, ↓e_if_icmp_lt, ↓e_ifCond_ge, ↓e_if_icmp_ge, ↓e_ifCond_gt, ↓e_if_icmp_gt, ↓e_ifCond_le, ↓e_if_icmp_le, ↓e_tab, ↓e_look, ↓e_get0, ↓e_get1, ↓e_get2, ↓e_get3, ↓e_put0, ↓e_put1, ↓e_put2, ↓e_put3, ↓e_iaload, ↓e_laload, ↓e_baload, ↓e_aaload, ↓e_iastore, ↓e_lastore, ↓e_bastore, ↓e_aastore, ↓e_alen, ↓e_new, ↓e_newarray, ↓e_anewarray, ↓e_objinit, ↓e_virt1, ↓e_virt2, ↓e_virt3, ↓e_virt4, ↓e_virt5, ↓e_virt6, ↓e_virt7, ↓e_stat0, ↓e_stat1, ↓e_stat2, ↓e_stat3, ↓e_stat4, ↓e_stat5, ↓e_stat6, ↓e_stat7, ↓e_spec1, ↓e_spec2, ↓e_spec3, ↓e_spec4, ↓e_spec5, ↓e_strlen, ↓e_charAt, ↓e_copy, ↓e_iret0, ↓e_iret1, ↓e_lret, ↓e_aret, ↓e_vret, zIsI_int, zIsL_long, zIsA_ref, zInt_int, true_and, and_true, ↓reduceIte, zGet, zSet, zSet2, zEnt, zWid, Value.category, List.map_cons, List.map_nil, List.sum_cons, List.sum_nil, List.replicate, Option.toList, Nat.reduceAdd, Nat.reduceSub, Nat.reduceMul, Nat.reduceLeDiff, Nat.reduceEqDiff, Nat.reduceLT, List.cons_append, List.nil_append, true_or, or_true, or_false, false_or, nI_ltI, nI_leI, nI_eq, nI_clamp, zIn_nI, bI_0, nI_add, nI_mul, nI_or, nI_and, nI_shl1, nI_bit, ↓pk_rem, pk_div, Nat.lt_irrefl, Nat.not_lt_zero, reduceCtorEq, M.k, M.r0, M.r1, M.r5, M.r6, M.r7, M.r8, M.r9, M.r21, M.r24, M.r25, M.r28, M.r29, M.r30, M.r31, M.r35, M.r36, M.r37, M.r38, M.r40, M.r43, M.r44, M.r45, M.k121, M.k122, M.k123, M.k124, M.k125, M.k126, M.k127, M.k128, M.k129, M.k130, M.k131, M.k132, M.k133, M.k134, M.k135, M.k136, M.k137, M.k138, M.k139, M.k140, M.k141, M.k142, X.n1, b1, vn, ↓m_paperRow, b2, r, r2, ↓m_failsW M X.x H X.z hT, Option.isSome, if_true]
    · have r2 : ¬ oI (A.pl i) = nI v := by
        cases e : A.pl i with
        | none => exact fun h => vn h.symm
        | some c =>
          have := pl31 O c e
          intro h
          have h : nI c = nI v := h
          rw [nI_eq this hv] at h
          exact hp (by rw [e, h])
      simp (disch := omega) only [L_262_154, zt_262_154, ↓e_iconst0, ↓e_iconst1, ↓e_bipush0, ↓e_bipush1, ↓e_sipush0, ↓e_sipush1, ↓e_ldc0, ↓e_ldc1, ↓e_ldc_w0, ↓e_ldc_w1, ↓e_ldc2, ↓e_lconst0, ↓e_lconst1, ↓e_ldc2_w0, ↓e_ldc2_w1, ↓e_iload, ↓e_iload_n, ↓e_istore, ↓e_istore_n, ↓e_lload, ↓e_lload_n, ↓e_lstore, ↓e_lstore_n, ↓e_aload, ↓e_aload_n, ↓e_astore, ↓e_astore_n, ↓e_iinc0, ↓e_iinc1, ↓e_iadd, ↓e_isub, ↓e_imul, ↓e_iand, ↓e_ior, ↓e_ixor, ↓e_ishl, ↓e_ishr, ↓e_iushr, ↓e_ladd, ↓e_lsub, ↓e_lmul, ↓e_land, ↓e_lor, ↓e_idiv, ↓e_irem, ↓e_ldiv, ↓e_lrem, ↓e_lshl, ↓e_lcmp, ↓e_i2l, ↓e_l2i, ↓e_i2b, ↓e_i2s, ↓e_dup_int, ↓e_pop_int, ↓e_dup_ref, ↓e_pop_ref, ↓e_dup2, ↓e_goto, ↓e_nop, ↓e_ifCond_eq, ↓e_if_icmp_eq, ↓e_ifCond_ne, ↓e_if_icmp_ne, ↓e_ifCond_lt, ↓e_if_icmp_lt, ↓e_ifCond_ge, ↓e_if_icmp_ge, ↓e_ifCond_gt, ↓e_if_icmp_gt, ↓e_ifCond_le, ↓e_if_icmp_le, ↓e_tab, ↓e_look, ↓e_get0, ↓e_get1, ↓e_get2, ↓e_get3, ↓e_put0, ↓e_put1, ↓e_put2, ↓e_put3, ↓e_iaload, ↓e_laload, ↓e_baload, ↓e_aaload, ↓e_iastore, ↓e_lastore, ↓e_bastore, ↓e_aastore, ↓e_alen, ↓e_new, ↓e_newarray, ↓e_anewarray, ↓e_objinit, ↓e_virt1, ↓e_virt2, ↓e_virt3, ↓e_virt4, ↓e_virt5, ↓e_virt6, ↓e_virt7, ↓e_stat0, ↓e_stat1, ↓e_stat2, ↓e_stat3, ↓e_stat4, ↓e_stat5, ↓e_stat6, ↓e_stat7, ↓e_spec1, ↓e_spec2, ↓e_spec3, ↓e_spec4, ↓e_spec5, ↓e_strlen, ↓e_charAt, ↓e_copy, ↓e_iret0, ↓e_iret1, ↓e_lret, ↓e_aret, ↓e_vret, zIsI_int, zIsL_long, zIsA_ref, zInt_int, true_and, and_true, ↓reduceIte, zGet, zSet, zSet2, zEnt, zWid, Value.category, List.map_cons, List.map_nil, List.sum_cons, List.sum_nil, List.replicate, Option.toList, Nat.reduceAdd, Nat.reduceSub, Nat.reduceMul, Nat.reduceLeDiff, Nat.reduceEqDiff, Nat.reduceLT, List.cons_append, List.nil_append, true_or, or_true, or_false, false_or, nI_ltI, nI_leI, nI_eq, nI_clamp, zIn_nI, bI_0, nI_add, nI_mul, nI_or, nI_and, nI_shl1, nI_bit, ↓pk_rem, pk_div, Nat.lt_irrefl, Nat.not_lt_zero, reduceCtorEq, M.k, M.r0, M.r1, M.r5, M.r6, M.r7, M.r8, M.r9, M.r21, M.r24, M.r25, M.r28, M.r29, M.r30, M.r31, M.r35, M.r36, M.r37, M.r38, M.r40, M.r43, M.r44, M.r45, M.k121, M.k122, M.k123, M.k124, M.k125, M.k126, M.k127, M.k128, M.k129, M.k130, M.k131, M.k132, M.k133, M.k134, M.k135, M.k136, M.k137, M.k138, M.k139, M.k140, M.k141, M.k142, X.n1, b1, vn, ↓m_paperRow, b2, r, r2]
      exact ih (i + 1) (by omega) (fun p hp2 => by
        by_cases e : p = i
        · subst e; exact hp
        · exact hn p (by omega))
theorem m_aLying (X : RRm σ B n T A) (H : TkOk B n T) (h9 : n ≤ 900) (O : OfcOk A) (N : NmOk A) :
   ∃ τ, MPost σ B n (qLies B n A T) τ ∧ ∀ K, zC (d + 5) 262 [.ref 120] σ K = K (some (.int (bI (okR (qLies B n A T))))) τ := by
  have p8 := O.p8
  have t8 := O.t8
  have c4 := O.c4
  have M := X.m
  have c20 := cells20 O
  have c1 : 1 ≤ A.wide * A.high := Nat.mul_le_mul O.w1 O.h1
  obtain ⟨τ1, f1, Y1, e1⟩ := m_adv (d := d + 2) M X.x H h9
  have X1 := X.tm f1 Y1
  have H1 := nx_ok H
  unfold qLies kW
  dsimp only
  generalize nx B n T = T1 at *
  have M1 := X1.m
  have inm := fun (K : Option Value → MS → Prop) => m_isName (d := d + 1) (K := K) M1 X1.x H1 h9
  have inm0 := fun (K : Option Value → MS → Prop) => m_isName (d := d) (K := K) M1 X1.x H1 h9
  cases hn : isNm B T1 with
  | false =>
    rw [if_neg Bool.false_ne_true]
    refine ⟨_, MP.no (FM.tm f1), fun K => ?_⟩
    rw [E_262]
    simp (disch := omega) only [L_262_0, zt_262_0, L_262_62, zt_262_62, L_262_91, zt_262_91, ↓e_iconst0, ↓e_iconst1, ↓e_bipush0, ↓e_bipush1, ↓e_sipush0, ↓e_sipush1, ↓e_ldc0, ↓e_ldc1, ↓e_ldc_w0, ↓e_ldc_w1, ↓e_ldc2, ↓e_lconst0, ↓e_lconst1, ↓e_ldc2_w0, ↓e_ldc2_w1, ↓e_iload, ↓e_iload_n, ↓e_istore, ↓e_istore_n, ↓e_lload, ↓e_lload_n, ↓e_lstore, ↓e_lstore_n, ↓e_aload, ↓e_aload_n, ↓e_astore, ↓e_astore_n, ↓e_iinc0, ↓e_iinc1, ↓e_iadd, ↓e_isub, ↓e_imul, ↓e_iand, ↓e_ior, ↓e_ixor, ↓e_ishl, ↓e_ishr, ↓e_iushr, ↓e_ladd, ↓e_lsub, ↓e_lmul, ↓e_land, ↓e_lor, ↓e_idiv, ↓e_irem, ↓e_ldiv, ↓e_lrem, ↓e_lshl, ↓e_lcmp, ↓e_i2l, ↓e_l2i, ↓e_i2b, ↓e_i2s, ↓e_dup_int, ↓e_pop_int, ↓e_dup_ref, ↓e_pop_ref, ↓e_dup2, ↓e_goto, ↓e_nop, ↓e_ifCond_eq, ↓e_if_icmp_eq, ↓e_ifCond_ne, ↓e_if_icmp_ne, ↓e_ifCond_lt, ↓e_if_icmp_lt, ↓e_ifCond_ge, ↓e_if_icmp_ge, ↓e_ifCond_gt, ↓e_if_icmp_gt, ↓e_ifCond_le, ↓e_if_icmp_le, ↓e_tab, ↓e_look, ↓e_get0, ↓e_get1, ↓e_get2, ↓e_get3, ↓e_put0, ↓e_put1, ↓e_put2, ↓e_put3, ↓e_iaload, ↓e_laload, ↓e_baload, ↓e_aaload, ↓e_iastore, ↓e_lastore, ↓e_bastore, ↓e_aastore, ↓e_alen, ↓e_new, ↓e_newarray, ↓e_anewarray, ↓e_objinit, ↓e_virt1, ↓e_virt2, ↓e_virt3, ↓e_virt4, ↓e_virt5, ↓e_virt6, ↓e_virt7, ↓e_stat0, ↓e_stat1, ↓e_stat2, ↓e_stat3, ↓e_stat4, ↓e_stat5, ↓e_stat6, ↓e_stat7, ↓e_spec1, ↓e_spec2, ↓e_spec3, ↓e_spec4, ↓e_spec5, ↓e_strlen, ↓e_charAt, ↓e_copy, ↓e_iret0, ↓e_iret1, ↓e_lret, ↓e_aret, ↓e_vret, zIsI_int, zIsL_long, zIsA_ref, zInt_int, true_and, and_true, ↓reduceIte, zGet, zSet, zSet2, zEnt, zWid, Value.category, List.map_cons, List.map_nil, List.sum_cons, List.sum_nil, List.replicate, Option.toList, Nat.reduceAdd, Nat.reduceSub, Nat.reduceMul, Nat.reduceLeDiff, Nat.reduceEqDiff, Nat.reduceLT, List.cons_append, List.nil_append, true_or, or_true, or_false, false_or, nI_ltI, nI_leI, nI_eq, nI_clamp, zIn_nI, bI_0, nI_add, nI_mul, nI_or, nI_and, nI_shl1, nI_bit, ↓pk_rem, pk_div, Nat.lt_irrefl, Nat.not_lt_zero, reduceCtorEq, M.k, ↓e1, M1.k, M1.r0, M1.r1, M1.r5, M1.r6, M1.r7, M1.r8, M1.r9, M1.r21, M1.r24, M1.r25, M1.r28, M1.r29, M1.r30, M1.r31, M1.r35, M1.r36, M1.r37, M1.r38, M1.r40, M1.r43, M1.r44, M1.r45, M1.k121, M1.k122, M1.k123, M1.k124, M1.k125, M1.k126, M1.k127, M1.k128, M1.k129, M1.k130, M1.k131, M1.k132, M1.k133, M1.k134, M1.k135, M1.k136, M1.k137, M1.k138, M1.k139, M1.k140, M1.k141, M1.k142, ↓inm, hn, show bI false = nI 0 from rfl, X1.n1, E_256, L_256_0, zt_256_0, L_256_15, zt_256_15, L_256_43, zt_256_43, ↓inm0, ↓m_fails2 M1 X1.x H1 X1.z]
    rfl
  | true =>
    rw [if_pos rfl]
    have e3 := (m_find3 (d := d + 1) X1 H1 h9 O N hn).2.1
    have e30 := (m_find3 (d := d) X1 H1 h9 O N hn).2.1
    have T1n : T1.1 ≠ 1 := by have := (isNm_is hn).1; omega
    have on : oI none = -nI 1 := rfl
    have s12 : ∀ (σ : MS) (v : Int32), sI (setI σ 121 2012 v) 121 2012 = v := fun σ v => by rw [sI_setI, if_pos ⟨rfl, rfl⟩]
    have Z1 : ∀ v, RRm (setI τ1 121 2012 v) B n T1 A := fun v => X1.free O (by omega) (fun t h => by omega) (fun t h => by omega) (fun t h => by omega) (fun t h => by omega)
    have g1 : ∀ v, FM σ (setI τ1 121 2012 v) := fun v => (FM.tm f1).tr (FM.sI (by omega))
    cases hp : A.pOf (tw B T1) with
    | none =>
      have M2 := (Z1 (-nI 1)).m
      refine ⟨_, MP.no (g1 (-nI 1)), fun K => ?_⟩
      rw [E_262]
      simp (disch := omega) only [L_262_0, zt_262_0, L_262_62, zt_262_62, L_262_91, zt_262_91, ↓e_iconst0, ↓e_iconst1, ↓e_bipush0, ↓e_bipush1, ↓e_sipush0, ↓e_sipush1, ↓e_ldc0, ↓e_ldc1, ↓e_ldc_w0, ↓e_ldc_w1, ↓e_ldc2, ↓e_lconst0, ↓e_lconst1, ↓e_ldc2_w0, ↓e_ldc2_w1, ↓e_iload, ↓e_iload_n, ↓e_istore, ↓e_istore_n, ↓e_lload, ↓e_lload_n, ↓e_lstore, ↓e_lstore_n, ↓e_aload, ↓e_aload_n, ↓e_astore, ↓e_astore_n, ↓e_iinc0, ↓e_iinc1, ↓e_iadd, ↓e_isub, ↓e_imul, ↓e_iand, ↓e_ior, ↓e_ixor, ↓e_ishl, ↓e_ishr, ↓e_iushr, ↓e_ladd, ↓e_lsub, ↓e_lmul, ↓e_land, ↓e_lor, ↓e_idiv, ↓e_irem, ↓e_ldiv, ↓e_lrem, ↓e_lshl, ↓e_lcmp, ↓e_i2l, ↓e_l2i, ↓e_i2b, ↓e_i2s, ↓e_dup_int, ↓e_pop_int, ↓e_dup_ref, ↓e_pop_ref, ↓e_dup2, ↓e_goto, ↓e_nop, ↓e_ifCond_eq, ↓e_if_icmp_eq, ↓e_ifCond_ne, ↓e_if_icmp_ne, ↓e_ifCond_lt, ↓e_if_icmp_lt, ↓e_ifCond_ge, ↓e_if_icmp_ge, ↓e_ifCond_gt, ↓e_if_icmp_gt, ↓e_ifCond_le, ↓e_if_icmp_le, ↓e_tab, ↓e_look, ↓e_get0, ↓e_get1, ↓e_get2, ↓e_get3, ↓e_put0, ↓e_put1, ↓e_put2, ↓e_put3, ↓e_iaload, ↓e_laload, ↓e_baload, ↓e_aaload, ↓e_iastore, ↓e_lastore, ↓e_bastore, ↓e_aastore, ↓e_alen, ↓e_new, ↓e_newarray, ↓e_anewarray, ↓e_objinit, ↓e_virt1, ↓e_virt2, ↓e_virt3, ↓e_virt4, ↓e_virt5, ↓e_virt6, ↓e_virt7, ↓e_stat0, ↓e_stat1, ↓e_stat2, ↓e_stat3, ↓e_stat4, ↓e_stat5, ↓e_stat6, ↓e_stat7, ↓e_spec1, ↓e_spec2, ↓e_spec3, ↓e_spec4, ↓e_spec5, ↓e_strlen, ↓e_charAt, ↓e_copy, ↓e_iret0, ↓e_iret1, ↓e_lret, ↓e_aret, ↓e_vret, zIsI_int, zIsL_long, zIsA_ref, zInt_int, true_and, and_true, ↓reduceIte, zGet, zSet, zSet2, zEnt, zWid, Value.category, List.map_cons, List.map_nil, List.sum_cons, List.sum_nil, List.replicate, Option.toList, Nat.reduceAdd, Nat.reduceSub, Nat.reduceMul, Nat.reduceLeDiff, Nat.reduceEqDiff, Nat.reduceLT, List.cons_append, List.nil_append, true_or, or_true, or_false, false_or, nI_ltI, nI_leI, nI_eq, nI_clamp, zIn_nI, bI_0, nI_add, nI_mul, nI_or, nI_and, nI_shl1, nI_bit, ↓pk_rem, pk_div, Nat.lt_irrefl, Nat.not_lt_zero, reduceCtorEq, M.k, ↓e1, M1.k, M1.r0, M1.r1, M1.r5, M1.r6, M1.r7, M1.r8, M1.r9, M1.r21, M1.r24, M1.r25, M1.r28, M1.r29, M1.r30, M1.r31, M1.r35, M1.r36, M1.r37, M1.r38, M1.r40, M1.r43, M1.r44, M1.r45, M1.k121, M1.k122, M1.k123, M1.k124, M1.k125, M1.k126, M1.k127, M1.k128, M1.k129, M1.k130, M1.k131, M1.k132, M1.k133, M1.k134, M1.k135, M1.k136, M1.k137, M1.k138, M1.k139, M1.k140, M1.k141, M1.k142, ↓inm, hn, show bI true = nI 1 from rfl, X1.n1, ↓e3, hp, on, E_256, L_256_0, zt_256_0, L_256_15, zt_256_15, L_256_43, zt_256_43, ↓inm0, ↓e30, M2.k, M2.r0, M2.r1, M2.r5, M2.r6, M2.r7, M2.r8, M2.r9, M2.r21, M2.r24, M2.r25, M2.r28, M2.r29, M2.r30, M2.r31, M2.r35, M2.r36, M2.r37, M2.r38, M2.r40, M2.r43, M2.r44, M2.r45, M2.k121, M2.k122, M2.k123, M2.k124, M2.k125, M2.k126, M2.k127, M2.k128, M2.k129, M2.k130, M2.k131, M2.k132, M2.k133, M2.k134, M2.k135, M2.k136, M2.k137, M2.k138, M2.k139, M2.k140, M2.k141, M2.k142, s12, ↓m_failsW M2 (Z1 (-nI 1)).x H1 (Z1 (-nI 1)).z T1n]
      rfl
    | some p =>
      dsimp only
      have hpn := (ff_is hp).1
      have np1 : ¬ nI p = -nI 1 := oI_some_ne (k := p) (by omega)
      have op : oI (some p) = nI p := rfl
      have r := X1.w17 (p := p) (by omega)
      have b2 : 1616 + (16 + 2 * p) + 1 < 2640 := by omega
      have pn := oI_ne1 (pl31 O (p := p))
      cases hl : (A.pl p).isSome with
      | true =>
        rw [if_pos rfl]
        rw [hl] at pn
        refine ⟨_, MP.no (FM.tm f1), fun K => ?_⟩
        rw [E_262]
        simp (disch := omega) only [L_262_0, zt_262_0, L_262_62, zt_262_62, L_262_91, zt_262_91, ↓e_iconst0, ↓e_iconst1, ↓e_bipush0, ↓e_bipush1, ↓e_sipush0, ↓e_sipush1, ↓e_ldc0, ↓e_ldc1, ↓e_ldc_w0, ↓e_ldc_w1, ↓e_ldc2, ↓e_lconst0, ↓e_lconst1, ↓e_ldc2_w0, ↓e_ldc2_w1, ↓e_iload, ↓e_iload_n, ↓e_istore, ↓e_istore_n, ↓e_lload, ↓e_lload_n, ↓e_lstore, ↓e_lstore_n, ↓e_aload, ↓e_aload_n, ↓e_astore, ↓e_astore_n, ↓e_iinc0, ↓e_iinc1, ↓e_iadd, ↓e_isub, ↓e_imul, ↓e_iand, ↓e_ior, ↓e_ixor, ↓e_ishl, ↓e_ishr, ↓e_iushr, ↓e_ladd, ↓e_lsub, ↓e_lmul, ↓e_land, ↓e_lor, ↓e_idiv, ↓e_irem, ↓e_ldiv, ↓e_lrem, ↓e_lshl, ↓e_lcmp, ↓e_i2l, ↓e_l2i, ↓e_i2b, ↓e_i2s, ↓e_dup_int, ↓e_pop_int, ↓e_dup_ref, ↓e_pop_ref, ↓e_dup2, ↓e_goto, ↓e_nop, ↓e_ifCond_eq, ↓e_if_icmp_eq, ↓e_ifCond_ne, ↓e_if_icmp_ne, ↓e_ifCond_lt, ↓e_if_icmp_lt, ↓e_ifCond_ge, ↓e_if_icmp_ge, ↓e_ifCond_gt, ↓e_if_icmp_gt, ↓e_ifCond_le, ↓e_if_icmp_le, ↓e_tab, ↓e_look, ↓e_get0, ↓e_get1, ↓e_get2, ↓e_get3, ↓e_put0, ↓e_put1, ↓e_put2, ↓e_put3, ↓e_iaload, ↓e_laload, ↓e_baload, ↓e_aaload, ↓e_iastore, ↓e_lastore, ↓e_bastore, ↓e_aastore, ↓e_alen, ↓e_new, ↓e_newarray, ↓e_anewarray, ↓e_objinit, ↓e_virt1, ↓e_virt2, ↓e_virt3, ↓e_virt4, ↓e_virt5, ↓e_virt6, ↓e_virt7, ↓e_stat0, ↓e_stat1, ↓e_stat2, ↓e_stat3, ↓e_stat4, ↓e_stat5, ↓e_stat6, ↓e_stat7, ↓e_spec1, ↓e_spec2, ↓e_spec3, ↓e_spec4, ↓e_spec5, ↓e_strlen, ↓e_charAt, ↓e_copy, ↓e_iret0, ↓e_iret1, ↓e_lret, ↓e_aret, ↓e_vret, zIsI_int, zIsL_long, zIsA_ref, zInt_int, true_and, and_true, ↓reduceIte, zGet, zSet, zSet2, zEnt, zWid, Value.category, List.map_cons, List.map_nil, List.sum_cons, List.sum_nil, List.replicate, Option.toList, Nat.reduceAdd, Nat.reduceSub, Nat.reduceMul, Nat.reduceLeDiff, Nat.reduceEqDiff, Nat.reduceLT, List.cons_append, List.nil_append, true_or, or_true, or_false, false_or, nI_ltI, nI_leI, nI_eq, nI_clamp, zIn_nI, bI_0, nI_add, nI_mul, nI_or, nI_and, nI_shl1, nI_bit, ↓pk_rem, pk_div, Nat.lt_irrefl, Nat.not_lt_zero, reduceCtorEq, M.k, ↓e1, M1.k, M1.r0, M1.r1, M1.r5, M1.r6, M1.r7, M1.r8, M1.r9, M1.r21, M1.r24, M1.r25, M1.r28, M1.r29, M1.r30, M1.r31, M1.r35, M1.r36, M1.r37, M1.r38, M1.r40, M1.r43, M1.r44, M1.r45, M1.k121, M1.k122, M1.k123, M1.k124, M1.k125, M1.k126, M1.k127, M1.k128, M1.k129, M1.k130, M1.k131, M1.k132, M1.k133, M1.k134, M1.k135, M1.k136, M1.k137, M1.k138, M1.k139, M1.k140, M1.k141, M1.k142, ↓inm, hn, show bI true = nI 1 from rfl, X1.n1, ↓e3, hp, op, np1, ↓m_paperRow, b2, r, pn, ↓m_failsW M1 X1.x H1 X1.z T1n, Bool.true_eq_false]
        rfl
      | false =>
        rw [if_neg Bool.false_ne_true]
        rw [hl] at pn
        have X2 := Z1 (nI p)
        have M2 := X2.m
        obtain ⟨τ3, f3, Y3, e4⟩ := m_adv (d := d + 1) M2 X2.x H1 h9
        have X3 := X2.tm f3 Y3
        have g3 : FM σ τ3 := (g1 (nI p)).tr (FM.tm f3)
        have H3 := nx_ok H1
        have r12 : sI τ3 121 2012 = nI p := (f3.1.I (by omega) _).trans (s12 _ _)
        generalize nx B n T1 = T3 at *
        have M3 := X3.m
        cases hw : isW B T3 8 with
        | false =>
          rw [if_neg Bool.false_ne_true]
          refine ⟨_, MP.no g3, fun K => ?_⟩
          rw [E_262]
          simp (disch := omega) only [L_262_0, zt_262_0, L_262_62, zt_262_62, L_262_91, zt_262_91, ↓e_iconst0, ↓e_iconst1, ↓e_bipush0, ↓e_bipush1, ↓e_sipush0, ↓e_sipush1, ↓e_ldc0, ↓e_ldc1, ↓e_ldc_w0, ↓e_ldc_w1, ↓e_ldc2, ↓e_lconst0, ↓e_lconst1, ↓e_ldc2_w0, ↓e_ldc2_w1, ↓e_iload, ↓e_iload_n, ↓e_istore, ↓e_istore_n, ↓e_lload, ↓e_lload_n, ↓e_lstore, ↓e_lstore_n, ↓e_aload, ↓e_aload_n, ↓e_astore, ↓e_astore_n, ↓e_iinc0, ↓e_iinc1, ↓e_iadd, ↓e_isub, ↓e_imul, ↓e_iand, ↓e_ior, ↓e_ixor, ↓e_ishl, ↓e_ishr, ↓e_iushr, ↓e_ladd, ↓e_lsub, ↓e_lmul, ↓e_land, ↓e_lor, ↓e_idiv, ↓e_irem, ↓e_ldiv, ↓e_lrem, ↓e_lshl, ↓e_lcmp, ↓e_i2l, ↓e_l2i, ↓e_i2b, ↓e_i2s, ↓e_dup_int, ↓e_pop_int, ↓e_dup_ref, ↓e_pop_ref, ↓e_dup2, ↓e_goto, ↓e_nop, ↓e_ifCond_eq, ↓e_if_icmp_eq, ↓e_ifCond_ne, ↓e_if_icmp_ne, ↓e_ifCond_lt, ↓e_if_icmp_lt, ↓e_ifCond_ge, ↓e_if_icmp_ge, ↓e_ifCond_gt, ↓e_if_icmp_gt, ↓e_ifCond_le, ↓e_if_icmp_le, ↓e_tab, ↓e_look, ↓e_get0, ↓e_get1, ↓e_get2, ↓e_get3, ↓e_put0, ↓e_put1, ↓e_put2, ↓e_put3, ↓e_iaload, ↓e_laload, ↓e_baload, ↓e_aaload, ↓e_iastore, ↓e_lastore, ↓e_bastore, ↓e_aastore, ↓e_alen, ↓e_new, ↓e_newarray, ↓e_anewarray, ↓e_objinit, ↓e_virt1, ↓e_virt2, ↓e_virt3, ↓e_virt4, ↓e_virt5, ↓e_virt6, ↓e_virt7, ↓e_stat0, ↓e_stat1, ↓e_stat2, ↓e_stat3, ↓e_stat4, ↓e_stat5, ↓e_stat6, ↓e_stat7, ↓e_spec1, ↓e_spec2, ↓e_spec3, ↓e_spec4, ↓e_spec5, ↓e_strlen, ↓e_charAt, ↓e_copy, ↓e_iret0, ↓e_iret1, ↓e_lret, ↓e_aret, ↓e_vret, zIsI_int, zIsL_long, zIsA_ref, zInt_int, true_and, and_true, ↓reduceIte, zGet, zSet, zSet2, zEnt, zWid, Value.category, List.map_cons, List.map_nil, List.sum_cons, List.sum_nil, List.replicate, Option.toList, Nat.reduceAdd, Nat.reduceSub, Nat.reduceMul, Nat.reduceLeDiff, Nat.reduceEqDiff, Nat.reduceLT, List.cons_append, List.nil_append, true_or, or_true, or_false, false_or, nI_ltI, nI_leI, nI_eq, nI_clamp, zIn_nI, bI_0, nI_add, nI_mul, nI_or, nI_and, nI_shl1, nI_bit, ↓pk_rem, pk_div, Nat.lt_irrefl, Nat.not_lt_zero, reduceCtorEq, M.k, ↓e1, M1.k, M1.r0, M1.r1, M1.r5, M1.r6, M1.r7, M1.r8, M1.r9, M1.r21, M1.r24, M1.r25, M1.r28, M1.r29, M1.r30, M1.r31, M1.r35, M1.r36, M1.r37, M1.r38, M1.r40, M1.r43, M1.r44, M1.r45, M1.k121, M1.k122, M1.k123, M1.k124, M1.k125, M1.k126, M1.k127, M1.k128, M1.k129, M1.k130, M1.k131, M1.k132, M1.k133, M1.k134, M1.k135, M1.k136, M1.k137, M1.k138, M1.k139, M1.k140, M1.k141, M1.k142, ↓inm, hn, show bI true = nI 1 from rfl, X1.n1, ↓e3, hp, op, np1, ↓m_paperRow, b2, r, pn, E_256, L_256_0, zt_256_0, L_256_15, zt_256_15, L_256_43, zt_256_43, ↓inm0, ↓e30, M2.k, M2.r0, M2.r1, M2.r5, M2.r6, M2.r7, M2.r8, M2.r9, M2.r21, M2.r24, M2.r25, M2.r28, M2.r29, M2.r30, M2.r31, M2.r35, M2.r36, M2.r37, M2.r38, M2.r40, M2.r43, M2.r44, M2.r45, M2.k121, M2.k122, M2.k123, M2.k124, M2.k125, M2.k126, M2.k127, M2.k128, M2.k129, M2.k130, M2.k131, M2.k132, M2.k133, M2.k134, M2.k135, M2.k136, M2.k137, M2.k138, M2.k139, M2.k140, M2.k141, M2.k142, s12, ↓e4, M3.k, ↓m_wantWordNo M3 X3.x H3 h9 X3.z (w := 8) (k := 9) (by decide) rfl hw]
          rfl
        | true =>
          rw [if_pos rfl]
          obtain ⟨τ4, f4, Y4, e5⟩ := m_wantWord (d := d + 1) M3 X3.x H3 h9 (w := 8) (k := 9) (by decide) rfl hw
          have X4 := X3.tm f4 Y4
          have g4 := g3.tr (FM.tm f4)
          have H4 := nx_ok H3
          have r4 : sI τ4 121 2012 = nI p := (f4.1.I (by omega) _).trans r12
          have ent : ∀ K, zC (d + 5) 262 [.ref 120] σ K = zX (d + 4) 262 93 [.ref 120, .int (nI 2012), .int (nI p), .null] [] τ4 K := fun K => by
            rw [E_262]
            simp (disch := omega) only [L_262_0, zt_262_0, L_262_62, zt_262_62, L_262_91, zt_262_91, ↓e_iconst0, ↓e_iconst1, ↓e_bipush0, ↓e_bipush1, ↓e_sipush0, ↓e_sipush1, ↓e_ldc0, ↓e_ldc1, ↓e_ldc_w0, ↓e_ldc_w1, ↓e_ldc2, ↓e_lconst0, ↓e_lconst1, ↓e_ldc2_w0, ↓e_ldc2_w1, ↓e_iload, ↓e_iload_n, ↓e_istore, ↓e_istore_n, ↓e_lload, ↓e_lload_n, ↓e_lstore, ↓e_lstore_n, ↓e_aload, ↓e_aload_n, ↓e_astore, ↓e_astore_n, ↓e_iinc0, ↓e_iinc1, ↓e_iadd, ↓e_isub, ↓e_imul, ↓e_iand, ↓e_ior, ↓e_ixor, ↓e_ishl, ↓e_ishr, ↓e_iushr, ↓e_ladd, ↓e_lsub, ↓e_lmul, ↓e_land, ↓e_lor, ↓e_idiv, ↓e_irem, ↓e_ldiv, ↓e_lrem, ↓e_lshl, ↓e_lcmp, ↓e_i2l, ↓e_l2i, ↓e_i2b, ↓e_i2s, ↓e_dup_int, ↓e_pop_int, ↓e_dup_ref, ↓e_pop_ref, ↓e_dup2, ↓e_goto, ↓e_nop, ↓e_ifCond_eq, ↓e_if_icmp_eq, ↓e_ifCond_ne, ↓e_if_icmp_ne, ↓e_ifCond_lt, ↓e_if_icmp_lt, ↓e_ifCond_ge, ↓e_if_icmp_ge, ↓e_ifCond_gt, ↓e_if_icmp_gt, ↓e_ifCond_le, ↓e_if_icmp_le, ↓e_tab, ↓e_look, ↓e_get0, ↓e_get1, ↓e_get2, ↓e_get3, ↓e_put0, ↓e_put1, ↓e_put2, ↓e_put3, ↓e_iaload, ↓e_laload, ↓e_baload, ↓e_aaload, ↓e_iastore, ↓e_lastore, ↓e_bastore, ↓e_aastore, ↓e_alen, ↓e_new, ↓e_newarray, ↓e_anewarray, ↓e_objinit, ↓e_virt1, ↓e_virt2, ↓e_virt3, ↓e_virt4, ↓e_virt5, ↓e_virt6, ↓e_virt7, ↓e_stat0, ↓e_stat1, ↓e_stat2, ↓e_stat3, ↓e_stat4, ↓e_stat5, ↓e_stat6, ↓e_stat7, ↓e_spec1, ↓e_spec2, ↓e_spec3, ↓e_spec4, ↓e_spec5, ↓e_strlen, ↓e_charAt, ↓e_copy, ↓e_iret0, ↓e_iret1, ↓e_lret, ↓e_aret, ↓e_vret, zIsI_int, zIsL_long, zIsA_ref, zInt_int, true_and, and_true, ↓reduceIte, zGet, zSet, zSet2, zEnt, zWid, Value.category, List.map_cons, List.map_nil, List.sum_cons, List.sum_nil, List.replicate, Option.toList, Nat.reduceAdd, Nat.reduceSub, Nat.reduceMul, Nat.reduceLeDiff, Nat.reduceEqDiff, Nat.reduceLT, List.cons_append, List.nil_append, true_or, or_true, or_false, false_or, nI_ltI, nI_leI, nI_eq, nI_clamp, zIn_nI, bI_0, nI_add, nI_mul, nI_or, nI_and, nI_shl1, nI_bit, ↓pk_rem, pk_div, Nat.lt_irrefl, Nat.not_lt_zero, reduceCtorEq, M.k, ↓e1, M1.k, M1.r0, M1.r1, M1.r5, M1.r6, M1.r7, M1.r8, M1.r9, M1.r21, M1.r24, M1.r25, M1.r28, M1.r29, M1.r30, M1.r31, M1.r35, M1.r36, M1.r37, M1.r38, M1.r40, M1.r43, M1.r44, M1.r45, M1.k121, M1.k122, M1.k123, M1.k124, M1.k125, M1.k126, M1.k127, M1.k128, M1.k129, M1.k130, M1.k131, M1.k132, M1.k133, M1.k134, M1.k135, M1.k136, M1.k137, M1.k138, M1.k139, M1.k140, M1.k141, M1.k142, ↓inm, hn, show bI true = nI 1 from rfl, X1.n1, ↓e3, hp, op, np1, ↓m_paperRow, b2, r, pn, E_256, L_256_0, zt_256_0, L_256_15, zt_256_15, L_256_43, zt_256_43, ↓inm0, ↓e30, M2.k, M2.r0, M2.r1, M2.r5, M2.r6, M2.r7, M2.r8, M2.r9, M2.r21, M2.r24, M2.r25, M2.r28, M2.r29, M2.r30, M2.r31, M2.r35, M2.r36, M2.r37, M2.r38, M2.r40, M2.r43, M2.r44, M2.r45, M2.k121, M2.k122, M2.k123, M2.k124, M2.k125, M2.k126, M2.k127, M2.k128, M2.k129, M2.k130, M2.k131, M2.k132, M2.k133, M2.k134, M2.k135, M2.k136, M2.k137, M2.k138, M2.k139, M2.k140, M2.k141, M2.k142, s12, ↓e4, M3.k, ↓e5]
          generalize nx B n T3 = T4 at *
          have M4 := X4.m
          have h4 := H4.k
          by_cases h3 : T4.1 = 3
          · rw [if_pos h3]
            have vl := tv_lt H4 h3
            have T4n : T4.1 ≠ 1 := by omega
            have ly := fun (K : Option Value → MS → Prop) => m_lyLoop (d := d) (K := K) X4 H4 O T4n (v := tv B T4) (by omega) A.np 0 (by omega) (fun p hp => by omega)
            have vn := X4.x.vn h3
            have ent2 : ∀ K, zC (d + 5) 262 [.ref 120] σ K = if (A.who (tv B T4)).isSome = true then K (some (.int (nI 0))) (fltM τ4 5 T4.2.1) else zX (d + 4) 262 160 [.ref 120, .int (nI 2012), .int (nI (tv B T4)), .int (nI A.np)] [] τ4 K := fun K => by
              rw [ent K, ← ly K, L_262_93, zt_262_93]
              simp (disch := omega) only [L_262_108, zt_262_108, L_262_109, zt_262_109, ↓e_iconst0, ↓e_iconst1, ↓e_bipush0, ↓e_bipush1, ↓e_sipush0, ↓e_sipush1, ↓e_ldc0, ↓e_ldc1, ↓e_ldc_w0, ↓e_ldc_w1, ↓e_ldc2, ↓e_lconst0, ↓e_lconst1, ↓e_ldc2_w0, ↓e_ldc2_w1, ↓e_iload, ↓e_iload_n, ↓e_istore, ↓e_istore_n, ↓e_lload, ↓e_lload_n, ↓e_lstore, ↓e_lstore_n, ↓e_aload, ↓e_aload_n, ↓e_astore, ↓e_astore_n, ↓e_iinc0, ↓e_iinc1, ↓e_iadd, ↓e_isub, ↓e_imul, ↓e_iand, ↓e_ior, ↓e_ixor, ↓e_ishl, ↓e_ishr, ↓e_iushr, ↓e_ladd, ↓e_lsub, ↓e_lmul, ↓e_land, ↓e_lor, ↓e_idiv, ↓e_irem, ↓e_ldiv, ↓e_lrem, ↓e_lshl, ↓e_lcmp, ↓e_i2l, ↓e_l2i, ↓e_i2b, ↓e_i2s, ↓e_dup_int, ↓e_pop_int, ↓e_dup_ref, ↓e_pop_ref, ↓e_dup2, ↓e_goto, ↓e_nop, ↓e_ifCond_eq, ↓e_if_icmp_eq, ↓e_ifCond_ne, ↓e_if_icmp_ne, ↓e_ifCond_lt, ↓e_if_icmp_lt, ↓e_ifCond_ge, ↓e_if_icmp_ge, ↓e_ifCond_gt, ↓e_if_icmp_gt, ↓e_ifCond_le, ↓e_if_icmp_le, ↓e_tab, ↓e_look, ↓e_get0, ↓e_get1, ↓e_get2, ↓e_get3, ↓e_put0, ↓e_put1, ↓e_put2, ↓e_put3, ↓e_iaload, ↓e_laload, ↓e_baload, ↓e_aaload, ↓e_iastore, ↓e_lastore, ↓e_bastore, ↓e_aastore, ↓e_alen, ↓e_new, ↓e_newarray, ↓e_anewarray, ↓e_objinit, ↓e_virt1, ↓e_virt2, ↓e_virt3, ↓e_virt4, ↓e_virt5, ↓e_virt6, ↓e_virt7, ↓e_stat0, ↓e_stat1, ↓e_stat2, ↓e_stat3, ↓e_stat4, ↓e_stat5, ↓e_stat6, ↓e_stat7, ↓e_spec1, ↓e_spec2, ↓e_spec3, ↓e_spec4, ↓e_spec5, ↓e_strlen, ↓e_charAt, ↓e_copy, ↓e_iret0, ↓e_iret1, ↓e_lret, ↓e_aret, ↓e_vret, zIsI_int, zIsL_long, zIsA_ref, zInt_int, true_and, and_true, ↓reduceIte, zGet, zSet, zSet2, zEnt, zWid, Value.category, List.map_cons, List.map_nil, List.sum_cons, List.sum_nil, List.replicate, Option.toList, Nat.reduceAdd, Nat.reduceSub, Nat.reduceMul, Nat.reduceLeDiff, Nat.reduceEqDiff, Nat.reduceLT, List.cons_append, List.nil_append, true_or, or_true, or_false, false_or, nI_ltI, nI_leI, nI_eq, nI_clamp, zIn_nI, bI_0, nI_add, nI_mul, nI_or, nI_and, nI_shl1, nI_bit, ↓pk_rem, pk_div, Nat.lt_irrefl, Nat.not_lt_zero, reduceCtorEq, M4.k, X4.x.k2, h3, vn]
            cases hi : inN B T4 0 (A.wide * A.high - 1) with
            | false =>
              rw [if_neg Bool.false_ne_true]
              have w0 : A.who (tv B T4) = none := by
                cases e : A.who (tv B T4) with
                | none => rfl
                | some q =>
                  have := O.plc q _ (who_pl e)
                  rcases inN_no hi with h | h <;> omega
              have nb := fun (K : Option Value → MS → Prop) => m_newCellNo (d := d) (K := K) (to := nI (1616 + (16 + 2 * p) + 1)) X4 H4 O (fun _ => hi)
              rw [if_pos h3] at nb
              refine ⟨_, MP.no g4, fun K => ?_⟩
              rw [ent2 K, w0]
              simp only [Option.isSome, Bool.false_eq_true, if_false]
              rw [L_262_160, zt_262_160]
              simp (disch := omega) only [↓e_iconst0, ↓e_iconst1, ↓e_bipush0, ↓e_bipush1, ↓e_sipush0, ↓e_sipush1, ↓e_ldc0, ↓e_ldc1, ↓e_ldc_w0, ↓e_ldc_w1, ↓e_ldc2, ↓e_lconst0, ↓e_lconst1, ↓e_ldc2_w0, ↓e_ldc2_w1, ↓e_iload, ↓e_iload_n, ↓e_istore, ↓e_istore_n, ↓e_lload, ↓e_lload_n, ↓e_lstore, ↓e_lstore_n, ↓e_aload, ↓e_aload_n, ↓e_astore, ↓e_astore_n, ↓e_iinc0, ↓e_iinc1, ↓e_iadd, ↓e_isub, ↓e_imul, ↓e_iand, ↓e_ior, ↓e_ixor, ↓e_ishl, ↓e_ishr, ↓e_iushr, ↓e_ladd, ↓e_lsub, ↓e_lmul, ↓e_land, ↓e_lor, ↓e_idiv, ↓e_irem, ↓e_ldiv, ↓e_lrem, ↓e_lshl, ↓e_lcmp, ↓e_i2l, ↓e_l2i, ↓e_i2b, ↓e_i2s, ↓e_dup_int, ↓e_pop_int, ↓e_dup_ref, ↓e_pop_ref, ↓e_dup2, ↓e_goto, ↓e_nop, ↓e_ifCond_eq, ↓e_if_icmp_eq, ↓e_ifCond_ne, ↓e_if_icmp_ne, ↓e_ifCond_lt, ↓e_if_icmp_lt, ↓e_ifCond_ge, ↓e_if_icmp_ge, ↓e_ifCond_gt, ↓e_if_icmp_gt, ↓e_ifCond_le, ↓e_if_icmp_le, ↓e_tab, ↓e_look, ↓e_get0, ↓e_get1, ↓e_get2, ↓e_get3, ↓e_put0, ↓e_put1, ↓e_put2, ↓e_put3, ↓e_iaload, ↓e_laload, ↓e_baload, ↓e_aaload, ↓e_iastore, ↓e_lastore, ↓e_bastore, ↓e_aastore, ↓e_alen, ↓e_new, ↓e_newarray, ↓e_anewarray, ↓e_objinit, ↓e_virt1, ↓e_virt2, ↓e_virt3, ↓e_virt4, ↓e_virt5, ↓e_virt6, ↓e_virt7, ↓e_stat0, ↓e_stat1, ↓e_stat2, ↓e_stat3, ↓e_stat4, ↓e_stat5, ↓e_stat6, ↓e_stat7, ↓e_spec1, ↓e_spec2, ↓e_spec3, ↓e_spec4, ↓e_spec5, ↓e_strlen, ↓e_charAt, ↓e_copy, ↓e_iret0, ↓e_iret1, ↓e_lret, ↓e_aret, ↓e_vret, zIsI_int, zIsL_long, zIsA_ref, zInt_int, true_and, and_true, ↓reduceIte, zGet, zSet, zSet2, zEnt, zWid, Value.category, List.map_cons, List.map_nil, List.sum_cons, List.sum_nil, List.replicate, Option.toList, Nat.reduceAdd, Nat.reduceSub, Nat.reduceMul, Nat.reduceLeDiff, Nat.reduceEqDiff, Nat.reduceLT, List.cons_append, List.nil_append, true_or, or_true, or_false, false_or, nI_ltI, nI_leI, nI_eq, nI_clamp, zIn_nI, bI_0, nI_add, nI_mul, nI_or, nI_and, nI_shl1, nI_bit, ↓pk_rem, pk_div, Nat.lt_irrefl, Nat.not_lt_zero, reduceCtorEq, M4.k, M4.r0, M4.r1, M4.r5, M4.r6, M4.r7, M4.r8, M4.r9, M4.r21, M4.r24, M4.r25, M4.r28, M4.r29, M4.r30, M4.r31, M4.r35, M4.r36, M4.r37, M4.r38, M4.r40, M4.r43, M4.r44, M4.r45, M4.k121, M4.k122, M4.k123, M4.k124, M4.k125, M4.k126, M4.k127, M4.k128, M4.k129, M4.k130, M4.k131, M4.k132, M4.k133, M4.k134, M4.k135, M4.k136, M4.k137, M4.k138, M4.k139, M4.k140, M4.k141, M4.k142, r4, ↓m_paperRow, ↓nb]
              rfl
            | true =>
              rw [if_pos rfl]
              obtain ⟨q1, q2⟩ := inN_is hi
              cases hw2 : (A.who (tv B T4)).isSome with
              | true =>
                rw [if_pos rfl]
                refine ⟨_, MP.no g4, fun K => ?_⟩
                rw [ent2 K, hw2, if_pos rfl]
                rfl
              | false =>
                rw [if_neg Bool.false_ne_true]
                obtain ⟨τ5, f5, Y5, e6⟩ := m_newCell (d := d) X4 H4 h9 O (to := 1616 + (16 + 2 * p) + 1) (by omega) h3 hi
                have ei : 1616 + (16 + 2 * p) + 1 = 1632 + 2 * p + 1 := by omega
                rw [ei] at f5
                have X5 := (X4.put O (c := tv B T4) hpn).tm f5 Y5
                refine ⟨τ5, MP.yes (g4.tr ((FM.sI (by omega)).tr (FM.tm f5))) X5, fun K => ?_⟩
                rw [ent2 K, hw2, if_neg Bool.false_ne_true, L_262_160, zt_262_160]
                simp (disch := omega) only [↓e_iconst0, ↓e_iconst1, ↓e_bipush0, ↓e_bipush1, ↓e_sipush0, ↓e_sipush1, ↓e_ldc0, ↓e_ldc1, ↓e_ldc_w0, ↓e_ldc_w1, ↓e_ldc2, ↓e_lconst0, ↓e_lconst1, ↓e_ldc2_w0, ↓e_ldc2_w1, ↓e_iload, ↓e_iload_n, ↓e_istore, ↓e_istore_n, ↓e_lload, ↓e_lload_n, ↓e_lstore, ↓e_lstore_n, ↓e_aload, ↓e_aload_n, ↓e_astore, ↓e_astore_n, ↓e_iinc0, ↓e_iinc1, ↓e_iadd, ↓e_isub, ↓e_imul, ↓e_iand, ↓e_ior, ↓e_ixor, ↓e_ishl, ↓e_ishr, ↓e_iushr, ↓e_ladd, ↓e_lsub, ↓e_lmul, ↓e_land, ↓e_lor, ↓e_idiv, ↓e_irem, ↓e_ldiv, ↓e_lrem, ↓e_lshl, ↓e_lcmp, ↓e_i2l, ↓e_l2i, ↓e_i2b, ↓e_i2s, ↓e_dup_int, ↓e_pop_int, ↓e_dup_ref, ↓e_pop_ref, ↓e_dup2, ↓e_goto, ↓e_nop, ↓e_ifCond_eq, ↓e_if_icmp_eq, ↓e_ifCond_ne, ↓e_if_icmp_ne, ↓e_ifCond_lt, ↓e_if_icmp_lt, ↓e_ifCond_ge, ↓e_if_icmp_ge, ↓e_ifCond_gt, ↓e_if_icmp_gt, ↓e_ifCond_le, ↓e_if_icmp_le, ↓e_tab, ↓e_look, ↓e_get0, ↓e_get1, ↓e_get2, ↓e_get3, ↓e_put0, ↓e_put1, ↓e_put2, ↓e_put3, ↓e_iaload, ↓e_laload, ↓e_baload, ↓e_aaload, ↓e_iastore, ↓e_lastore, ↓e_bastore, ↓e_aastore, ↓e_alen, ↓e_new, ↓e_newarray, ↓e_anewarray, ↓e_objinit, ↓e_virt1, ↓e_virt2, ↓e_virt3, ↓e_virt4, ↓e_virt5, ↓e_virt6, ↓e_virt7, ↓e_stat0, ↓e_stat1, ↓e_stat2, ↓e_stat3, ↓e_stat4, ↓e_stat5, ↓e_stat6, ↓e_stat7, ↓e_spec1, ↓e_spec2, ↓e_spec3, ↓e_spec4, ↓e_spec5, ↓e_strlen, ↓e_charAt, ↓e_copy, ↓e_iret0, ↓e_iret1, ↓e_lret, ↓e_aret, ↓e_vret, zIsI_int, zIsL_long, zIsA_ref, zInt_int, true_and, and_true, ↓reduceIte, zGet, zSet, zSet2, zEnt, zWid, Value.category, List.map_cons, List.map_nil, List.sum_cons, List.sum_nil, List.replicate, Option.toList, Nat.reduceAdd, Nat.reduceSub, Nat.reduceMul, Nat.reduceLeDiff, Nat.reduceEqDiff, Nat.reduceLT, List.cons_append, List.nil_append, true_or, or_true, or_false, false_or, nI_ltI, nI_leI, nI_eq, nI_clamp, zIn_nI, bI_0, nI_add, nI_mul, nI_or, nI_and, nI_shl1, nI_bit, ↓pk_rem, pk_div, Nat.lt_irrefl, Nat.not_lt_zero, reduceCtorEq, M4.k, M4.r0, M4.r1, M4.r5, M4.r6, M4.r7, M4.r8, M4.r9, M4.r21, M4.r24, M4.r25, M4.r28, M4.r29, M4.r30, M4.r31, M4.r35, M4.r36, M4.r37, M4.r38, M4.r40, M4.r43, M4.r44, M4.r45, M4.k121, M4.k122, M4.k123, M4.k124, M4.k125, M4.k126, M4.k127, M4.k128, M4.k129, M4.k130, M4.k131, M4.k132, M4.k133, M4.k134, M4.k135, M4.k136, M4.k137, M4.k138, M4.k139, M4.k140, M4.k141, M4.k142, r4, ↓m_paperRow, ↓e6]
                rfl
          · rw [if_neg h3]
            have nb := fun (K : Option Value → MS → Prop) => m_newCellNo (d := d) (K := K) (to := nI (1616 + (16 + 2 * p) + 1)) X4 H4 O (fun h => absurd h h3)
            rw [if_neg h3] at nb
            refine ⟨_, MP.no g4, fun K => ?_⟩
            rw [ent K, L_262_93, zt_262_93]
            simp (disch := omega) only [L_262_108, zt_262_108, L_262_109, zt_262_109, ↓e_iconst0, ↓e_iconst1, ↓e_bipush0, ↓e_bipush1, ↓e_sipush0, ↓e_sipush1, ↓e_ldc0, ↓e_ldc1, ↓e_ldc_w0, ↓e_ldc_w1, ↓e_ldc2, ↓e_lconst0, ↓e_lconst1, ↓e_ldc2_w0, ↓e_ldc2_w1, ↓e_iload, ↓e_iload_n, ↓e_istore, ↓e_istore_n, ↓e_lload, ↓e_lload_n, ↓e_lstore, ↓e_lstore_n, ↓e_aload, ↓e_aload_n, ↓e_astore, ↓e_astore_n, ↓e_iinc0, ↓e_iinc1, ↓e_iadd, ↓e_isub, ↓e_imul, ↓e_iand, ↓e_ior, ↓e_ixor, ↓e_ishl, ↓e_ishr, ↓e_iushr, ↓e_ladd, ↓e_lsub, ↓e_lmul, ↓e_land, ↓e_lor, ↓e_idiv, ↓e_irem, ↓e_ldiv, ↓e_lrem, ↓e_lshl, ↓e_lcmp, ↓e_i2l, ↓e_l2i, ↓e_i2b, ↓e_i2s, ↓e_dup_int, ↓e_pop_int, ↓e_dup_ref, ↓e_pop_ref, ↓e_dup2, ↓e_goto, ↓e_nop, ↓e_ifCond_eq, ↓e_if_icmp_eq, ↓e_ifCond_ne, ↓e_if_icmp_ne, ↓e_ifCond_lt, ↓e_if_icmp_lt, ↓e_ifCond_ge, ↓e_if_icmp_ge, ↓e_ifCond_gt, ↓e_if_icmp_gt, ↓e_ifCond_le, ↓e_if_icmp_le, ↓e_tab, ↓e_look, ↓e_get0, ↓e_get1, ↓e_get2, ↓e_get3, ↓e_put0, ↓e_put1, ↓e_put2, ↓e_put3, ↓e_iaload, ↓e_laload, ↓e_baload, ↓e_aaload, ↓e_iastore, ↓e_lastore, ↓e_bastore, ↓e_aastore, ↓e_alen, ↓e_new, ↓e_newarray, ↓e_anewarray, ↓e_objinit, ↓e_virt1, ↓e_virt2, ↓e_virt3, ↓e_virt4, ↓e_virt5, ↓e_virt6, ↓e_virt7, ↓e_stat0, ↓e_stat1, ↓e_stat2, ↓e_stat3, ↓e_stat4, ↓e_stat5, ↓e_stat6, ↓e_stat7, ↓e_spec1, ↓e_spec2, ↓e_spec3, ↓e_spec4, ↓e_spec5, ↓e_strlen, ↓e_charAt, ↓e_copy, ↓e_iret0, ↓e_iret1, ↓e_lret, ↓e_aret, ↓e_vret, zIsI_int, zIsL_long, zIsA_ref, zInt_int, true_and, and_true, ↓reduceIte, zGet, zSet, zSet2, zEnt, zWid, Value.category, List.map_cons, List.map_nil, List.sum_cons, List.sum_nil, List.replicate, Option.toList, Nat.reduceAdd, Nat.reduceSub, Nat.reduceMul, Nat.reduceLeDiff, Nat.reduceEqDiff, Nat.reduceLT, List.cons_append, List.nil_append, true_or, or_true, or_false, false_or, nI_ltI, nI_leI, nI_eq, nI_clamp, zIn_nI, bI_0, nI_add, nI_mul, nI_or, nI_and, nI_shl1, nI_bit, ↓pk_rem, pk_div, Nat.lt_irrefl, Nat.not_lt_zero, reduceCtorEq, M4.k, X4.x.k2, h3]
            rw [L_262_112, zt_262_112]
            by_cases hnp : 0 < A.np
            · simp (disch := omega) only [L_262_154, zt_262_154, L_262_160, zt_262_160, ↓e_iconst0, ↓e_iconst1, ↓e_bipush0, ↓e_bipush1, ↓e_sipush0, ↓e_sipush1, ↓e_ldc0, ↓e_ldc1, ↓e_ldc_w0, ↓e_ldc_w1, ↓e_ldc2, ↓e_lconst0, ↓e_lconst1, ↓e_ldc2_w0, ↓e_ldc2_w1, ↓e_iload, ↓e_iload_n, ↓e_istore, ↓e_istore_n, ↓e_lload, ↓e_lload_n, ↓e_lstore, ↓e_lstore_n, ↓e_aload, ↓e_aload_n, ↓e_astore, ↓e_astore_n, ↓e_iinc0, ↓e_iinc1, ↓e_iadd, ↓e_isub, ↓e_imul, ↓e_iand, ↓e_ior, ↓e_ixor, ↓e_ishl, ↓e_ishr, ↓e_iushr, ↓e_ladd, ↓e_lsub, ↓e_lmul, ↓e_land, ↓e_lor, ↓e_idiv, ↓e_irem, ↓e_ldiv, ↓e_lrem, ↓e_lshl, ↓e_lcmp, ↓e_i2l, ↓e_l2i, ↓e_i2b, ↓e_i2s, ↓e_dup_int, ↓e_pop_int, ↓e_dup_ref, ↓e_pop_ref, ↓e_dup2, ↓e_goto, ↓e_nop, ↓e_ifCond_eq, ↓e_if_icmp_eq, ↓e_ifCond_ne, ↓e_if_icmp_ne, ↓e_ifCond_lt, ↓e_if_icmp_lt, ↓e_ifCond_ge, ↓e_if_icmp_ge, ↓e_ifCond_gt, ↓e_if_icmp_gt, ↓e_ifCond_le, ↓e_if_icmp_le, ↓e_tab, ↓e_look, ↓e_get0, ↓e_get1, ↓e_get2, ↓e_get3, ↓e_put0, ↓e_put1, ↓e_put2, ↓e_put3, ↓e_iaload, ↓e_laload, ↓e_baload, ↓e_aaload, ↓e_iastore, ↓e_lastore, ↓e_bastore, ↓e_aastore, ↓e_alen, ↓e_new, ↓e_newarray, ↓e_anewarray, ↓e_objinit, ↓e_virt1, ↓e_virt2, ↓e_virt3, ↓e_virt4, ↓e_virt5, ↓e_virt6, ↓e_virt7, ↓e_stat0, ↓e_stat1, ↓e_stat2, ↓e_stat3, ↓e_stat4, ↓e_stat5, ↓e_stat6, ↓e_stat7, ↓e_spec1, ↓e_spec2, ↓e_spec3, ↓e_spec4, ↓e_spec5, ↓e_strlen, ↓e_charAt, ↓e_copy, ↓e_iret0, ↓e_iret1, ↓e_lret, ↓e_aret, ↓e_vret, zIsI_int, zIsL_long, zIsA_ref, zInt_int, true_and, and_true, ↓reduceIte, zGet, zSet, zSet2, zEnt, zWid, Value.category, List.map_cons, List.map_nil, List.sum_cons, List.sum_nil, List.replicate, Option.toList, Nat.reduceAdd, Nat.reduceSub, Nat.reduceMul, Nat.reduceLeDiff, Nat.reduceEqDiff, Nat.reduceLT, List.cons_append, List.nil_append, true_or, or_true, or_false, false_or, nI_ltI, nI_leI, nI_eq, nI_clamp, zIn_nI, bI_0, nI_add, nI_mul, nI_or, nI_and, nI_shl1, nI_bit, ↓pk_rem, pk_div, Nat.lt_irrefl, Nat.not_lt_zero, reduceCtorEq, M4.k, M4.r0, M4.r1, M4.r5, M4.r6, M4.r7, M4.r8, M4.r9, M4.r21, M4.r24, M4.r25, M4.r28, M4.r29, M4.r30, M4.r31, M4.r35, M4.r36, M4.r37, M4.r38, M4.r40, M4.r43, M4.r44, M4.r45, M4.k121, M4.k122, M4.k123, M4.k124, M4.k125, M4.k126, M4.k127, M4.k128, M4.k129, M4.k130, M4.k131, M4.k132, M4.k133, M4.k134, M4.k135, M4.k136, M4.k137, M4.k138, M4.k139, M4.k140, M4.k141, M4.k142, X4.n1, hnp, r4, ↓m_paperRow, ↓nb]
              rfl
            · simp (disch := omega) only [L_262_154, zt_262_154, L_262_160, zt_262_160, ↓e_iconst0, ↓e_iconst1, ↓e_bipush0, ↓e_bipush1, ↓e_sipush0, ↓e_sipush1, ↓e_ldc0, ↓e_ldc1, ↓e_ldc_w0, ↓e_ldc_w1, ↓e_ldc2, ↓e_lconst0, ↓e_lconst1, ↓e_ldc2_w0, ↓e_ldc2_w1, ↓e_iload, ↓e_iload_n, ↓e_istore, ↓e_istore_n, ↓e_lload, ↓e_lload_n, ↓e_lstore, ↓e_lstore_n, ↓e_aload, ↓e_aload_n, ↓e_astore, ↓e_astore_n, ↓e_iinc0, ↓e_iinc1, ↓e_iadd, ↓e_isub, ↓e_imul, ↓e_iand, ↓e_ior, ↓e_ixor, ↓e_ishl, ↓e_ishr, ↓e_iushr, ↓e_ladd, ↓e_lsub, ↓e_lmul, ↓e_land, ↓e_lor, ↓e_idiv, ↓e_irem, ↓e_ldiv, ↓e_lrem, ↓e_lshl, ↓e_lcmp, ↓e_i2l, ↓e_l2i, ↓e_i2b, ↓e_i2s, ↓e_dup_int, ↓e_pop_int, ↓e_dup_ref, ↓e_pop_ref, ↓e_dup2, ↓e_goto, ↓e_nop, ↓e_ifCond_eq, ↓e_if_icmp_eq, ↓e_ifCond_ne, ↓e_if_icmp_ne, ↓e_ifCond_lt, ↓e_if_icmp_lt, ↓e_ifCond_ge, ↓e_if_icmp_ge, ↓e_ifCond_gt, ↓e_if_icmp_gt, ↓e_ifCond_le, ↓e_if_icmp_le, ↓e_tab, ↓e_look, ↓e_get0, ↓e_get1, ↓e_get2, ↓e_get3, ↓e_put0, ↓e_put1, ↓e_put2, ↓e_put3, ↓e_iaload, ↓e_laload, ↓e_baload, ↓e_aaload, ↓e_iastore, ↓e_lastore, ↓e_bastore, ↓e_aastore, ↓e_alen, ↓e_new, ↓e_newarray, ↓e_anewarray, ↓e_objinit, ↓e_virt1, ↓e_virt2, ↓e_virt3, ↓e_virt4, ↓e_virt5, ↓e_virt6, ↓e_virt7, ↓e_stat0, ↓e_stat1, ↓e_stat2, ↓e_stat3, ↓e_stat4, ↓e_stat5, ↓e_stat6, ↓e_stat7, ↓e_spec1, ↓e_spec2, ↓e_spec3, ↓e_spec4, ↓e_spec5, ↓e_strlen, ↓e_charAt, ↓e_copy, ↓e_iret0, ↓e_iret1, ↓e_lret, ↓e_aret, ↓e_vret, zIsI_int, zIsL_long, zIsA_ref, zInt_int, true_and, and_true, ↓reduceIte, zGet, zSet, zSet2, zEnt, zWid, Value.category, List.map_cons, List.map_nil, List.sum_cons, List.sum_nil, List.replicate, Option.toList, Nat.reduceAdd, Nat.reduceSub, Nat.reduceMul, Nat.reduceLeDiff, Nat.reduceEqDiff, Nat.reduceLT, List.cons_append, List.nil_append, true_or, or_true, or_false, false_or, nI_ltI, nI_leI, nI_eq, nI_clamp, zIn_nI, bI_0, nI_add, nI_mul, nI_or, nI_and, nI_shl1, nI_bit, ↓pk_rem, pk_div, Nat.lt_irrefl, Nat.not_lt_zero, reduceCtorEq, M4.k, M4.r0, M4.r1, M4.r5, M4.r6, M4.r7, M4.r8, M4.r9, M4.r21, M4.r24, M4.r25, M4.r28, M4.r29, M4.r30, M4.r31, M4.r35, M4.r36, M4.r37, M4.r38, M4.r40, M4.r43, M4.r44, M4.r45, M4.k121, M4.k122, M4.k123, M4.k124, M4.k125, M4.k126, M4.k127, M4.k128, M4.k129, M4.k130, M4.k131, M4.k132, M4.k133, M4.k134, M4.k135, M4.k136, M4.k137, M4.k138, M4.k139, M4.k140, M4.k141, M4.k142, X4.n1, hnp, r4, ↓m_paperRow, ↓nb]
              rfl
end PM2
