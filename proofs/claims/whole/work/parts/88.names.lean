/-! TRAITS, CLERKS, NAMES -/
section NMS
variable {d : Nat} {σ τ : MS} {a : Nat} {A : Ofc} {K : Option Value → MS → Prop}
def Ofc.addT (A : Ofc) (nm : List Nat) : Ofc := ((A.setN 5 (A.nt + 1)).setW (updN A.w A.nt 1)).setNm 0 (updS A.tn A.nt nm)
def Ofc.addC (A : Ofc) (nm : List Nat) : Ofc := ((A.setN 7 (A.nc + 1)).setCk (updN A.ck A.nc 0)).setNm 2 (updS A.cn A.nc nm)
theorem addT_ok (O : OfcOk A) {nm : List Nat} (hn : A.nt < 8) : OfcOk (A.addT nm) :=
  OfcOk.mk O.w1 O.w5 O.h1 O.h4 O.n1 O.n99 O.o16 (show A.nt + 1 ≤ 8 by omega) O.p8 O.c4 (fun t ht => by
    have ht : t < A.nt + 1 := ht
    show 1 ≤ updN A.w A.nt 1 t ∧ updN A.w A.nt 1 t ≤ 9
    unfold updN
    split
    · exact ⟨by omega, by omega⟩
    · exact O.wt t (by omega)) (fun q hq => by
    have h := O.trt q hq
    show A.tr q < 2 ^ (A.nt + 1)
    rw [Nat.pow_succ]
    omega) O.pln O.plc O.pli O.ckc
theorem addC_ok (O : OfcOk A) {nm : List Nat} (hn : A.nc < 4) : OfcOk (A.addC nm) :=
  OfcOk.mk O.w1 O.w5 O.h1 O.h4 O.n1 O.n99 O.o16 O.t8 O.p8 (show A.nc + 1 ≤ 4 by omega) O.wt O.trt O.pln O.plc O.pli (fun q hq => by
    have hq : q < A.nc + 1 := hq
    show updN A.ck A.nc 0 q < A.wide * A.high
    unfold updN
    split
    · exact Nat.mul_pos O.w1 O.h1
    · exact O.ckc q (by omega))
/-- σ after addTrait, addClerk -/
def adT (σ : MS) (a n : Nat) (v : Int64) : MS := setI (setI (setL σ (a + 2) n v) (a + 1) n (nI 1)) a 5 (nI (n + 1))
def adC (σ : MS) (a n : Nat) (v : Int64) : MS := setI (setI (setL σ (a + 7) n v) (a + 6) n (nI 0)) a 7 (nI (n + 1))
theorem n_addTrait (H : ROffN σ a A) (h8 : A.nt < 8) (v : Int64) :
   zC (d + 1) 49 [.ref a, .long v] σ K = K (some (.int (nI A.nt))) (adT σ a A.nt v) := by
  have i5 : ∀ x y, sI (setI (setL σ (a + 2) A.nt x) (a + 1) A.nt y) a 5 = nI A.nt := fun x y => by
    rw [sI_setI, if_neg (by omega), sI_setL]; exact H.i5
  have i4 : ∀ x, sI (setL σ (a + 2) A.nt x) a 5 = nI A.nt := fun x => H.i5
  have i7 : ∀ τ v, sI (setI τ a 5 v) a 5 = v := fun τ v => by rw [sI_setI, if_pos ⟨rfl, rfl⟩]
  rw [E_49]
  unfold adT
  simp (disch := omega) only [L_49_0, zt_49_0, L_49_11, zt_49_11, ↓e_iconst0, ↓e_iconst1, ↓e_bipush0, ↓e_bipush1, ↓e_sipush0, ↓e_sipush1, ↓e_ldc0, ↓e_ldc1, ↓e_ldc_w0, ↓e_ldc_w1, ↓e_ldc2, ↓e_lconst0, ↓e_lconst1, ↓e_ldc2_w0, ↓e_ldc2_w1, ↓e_iload, ↓e_iload_n, ↓e_istore, ↓e_istore_n, ↓e_lload, ↓e_lload_n, ↓e_lstore, ↓e_lstore_n, ↓e_aload, ↓e_aload_n, ↓e_astore, ↓e_astore_n, ↓e_iinc0, ↓e_iinc1, ↓e_iadd, ↓e_isub, ↓e_imul, ↓e_iand, ↓e_ior, ↓e_ixor, ↓e_ishl, ↓e_ishr, ↓e_iushr, ↓e_ladd, ↓e_lsub, ↓e_lmul, ↓e_land, ↓e_lor, ↓e_idiv, ↓e_irem, ↓e_ldiv, ↓e_lrem, ↓e_lshl, ↓e_lcmp, ↓e_i2l, ↓e_l2i, ↓e_i2b, ↓e_i2s, ↓e_dup_int, ↓e_pop_int, ↓e_dup_ref, ↓e_pop_ref, ↓e_dup2, ↓e_goto, ↓e_nop, ↓e_ifCond_eq, ↓e_if_icmp_eq, ↓e_ifCond_ne, ↓e_if_icmp_ne, ↓e_ifCond_lt, ↓e_if_icmp_lt, ↓e_ifCond_ge, ↓e_if_icmp_ge, ↓e_ifCond_gt, ↓e_if_icmp_gt, ↓e_ifCond_le, ↓e_if_icmp_le, ↓e_tab, ↓e_look, ↓e_get0, ↓e_get1, ↓e_get2, ↓e_get3, ↓e_put0, ↓e_put1, ↓e_put2, ↓e_put3, ↓e_iaload, ↓e_laload, ↓e_baload, ↓e_aaload, ↓e_iastore, ↓e_lastore, ↓e_bastore, ↓e_aastore, ↓e_alen, ↓e_new, ↓e_newarray, ↓e_anewarray, ↓e_objinit, ↓e_virt1, ↓e_virt2, ↓e_virt3, ↓e_virt4, ↓e_virt5, ↓e_virt6, ↓e_virt7, ↓e_stat0, ↓e_stat1, ↓e_stat2, ↓e_stat3, ↓e_stat4, ↓e_stat5, ↓e_stat6, ↓e_stat7, ↓e_spec1, ↓e_spec2, ↓e_spec3, ↓e_spec4, ↓e_spec5, ↓e_strlen, ↓e_charAt, ↓e_copy, ↓e_iret0, ↓e_iret1, ↓e_lret, ↓e_aret, ↓e_vret, zIsI_int, zIsL_long, zIsA_ref, zInt_int, true_and, and_true, ↓reduceIte, zGet, zSet, zSet2, zEnt, zWid, Value.category, List.map_cons, List.map_nil, List.sum_cons, List.sum_nil, List.replicate, Option.toList, Nat.reduceAdd, Nat.reduceSub, Nat.reduceMul, Nat.reduceLeDiff, Nat.reduceEqDiff, Nat.reduceLT, List.cons_append, List.nil_append, true_or, or_true, or_false, false_or, H.k, H.i0, H.i1, H.i2, H.i3, H.i4, H.i5, H.i6, H.i7, H.r8, H.r9, H.r10, H.r11, H.r12, H.r13, H.r14, H.r15, H.r16, H.r17, H.r18, H.k1, H.k2, H.k3, H.k4, H.k5, H.k6, H.k7, H.k8, H.k9, H.k10, H.k11, nI_ltI, nI_leI, nI_eq, nI_clamp, zIn_nI, bI_0, nI_add, nI_mul, nI_or, nI_and, nI_shl1, nI_bit, ↓pk_rem, pk_div, Nat.lt_irrefl, Nat.not_lt_zero, reduceCtorEq, h8, sK_setL, sR_setL, sK_setI, sR_setI, sL_setI, i4, i5, i7, nI_sub, Nat.add_sub_cancel]
theorem n_addTraitNo (H : ROffN σ a A) (h8 : A.nt = 8) (v : Int64) :
   zC (d + 1) 49 [.ref a, .long v] σ K = K (some (.int (-nI 1))) σ := by
  rw [E_49]
  simp (disch := omega) only [L_49_0, zt_49_0, L_49_11, zt_49_11, ↓e_iconst0, ↓e_iconst1, ↓e_bipush0, ↓e_bipush1, ↓e_sipush0, ↓e_sipush1, ↓e_ldc0, ↓e_ldc1, ↓e_ldc_w0, ↓e_ldc_w1, ↓e_ldc2, ↓e_lconst0, ↓e_lconst1, ↓e_ldc2_w0, ↓e_ldc2_w1, ↓e_iload, ↓e_iload_n, ↓e_istore, ↓e_istore_n, ↓e_lload, ↓e_lload_n, ↓e_lstore, ↓e_lstore_n, ↓e_aload, ↓e_aload_n, ↓e_astore, ↓e_astore_n, ↓e_iinc0, ↓e_iinc1, ↓e_iadd, ↓e_isub, ↓e_imul, ↓e_iand, ↓e_ior, ↓e_ixor, ↓e_ishl, ↓e_ishr, ↓e_iushr, ↓e_ladd, ↓e_lsub, ↓e_lmul, ↓e_land, ↓e_lor, ↓e_idiv, ↓e_irem, ↓e_ldiv, ↓e_lrem, ↓e_lshl, ↓e_lcmp, ↓e_i2l, ↓e_l2i, ↓e_i2b, ↓e_i2s, ↓e_dup_int, ↓e_pop_int, ↓e_dup_ref, ↓e_pop_ref, ↓e_dup2, ↓e_goto, ↓e_nop, ↓e_ifCond_eq, ↓e_if_icmp_eq, ↓e_ifCond_ne, ↓e_if_icmp_ne, ↓e_ifCond_lt, ↓e_if_icmp_lt, ↓e_ifCond_ge, ↓e_if_icmp_ge, ↓e_ifCond_gt, ↓e_if_icmp_gt, ↓e_ifCond_le, ↓e_if_icmp_le, ↓e_tab, ↓e_look, ↓e_get0, ↓e_get1, ↓e_get2, ↓e_get3, ↓e_put0, ↓e_put1, ↓e_put2, ↓e_put3, ↓e_iaload, ↓e_laload, ↓e_baload, ↓e_aaload, ↓e_iastore, ↓e_lastore, ↓e_bastore, ↓e_aastore, ↓e_alen, ↓e_new, ↓e_newarray, ↓e_anewarray, ↓e_objinit, ↓e_virt1, ↓e_virt2, ↓e_virt3, ↓e_virt4, ↓e_virt5, ↓e_virt6, ↓e_virt7, ↓e_stat0, ↓e_stat1, ↓e_stat2, ↓e_stat3, ↓e_stat4, ↓e_stat5, ↓e_stat6, ↓e_stat7, ↓e_spec1, ↓e_spec2, ↓e_spec3, ↓e_spec4, ↓e_spec5, ↓e_strlen, ↓e_charAt, ↓e_copy, ↓e_iret0, ↓e_iret1, ↓e_lret, ↓e_aret, ↓e_vret, zIsI_int, zIsL_long, zIsA_ref, zInt_int, true_and, and_true, ↓reduceIte, zGet, zSet, zSet2, zEnt, zWid, Value.category, List.map_cons, List.map_nil, List.sum_cons, List.sum_nil, List.replicate, Option.toList, Nat.reduceAdd, Nat.reduceSub, Nat.reduceMul, Nat.reduceLeDiff, Nat.reduceEqDiff, Nat.reduceLT, List.cons_append, List.nil_append, true_or, or_true, or_false, false_or, H.k, H.i0, H.i1, H.i2, H.i3, H.i4, H.i5, H.i6, H.i7, H.r8, H.r9, H.r10, H.r11, H.r12, H.r13, H.r14, H.r15, H.r16, H.r17, H.r18, H.k1, H.k2, H.k3, H.k4, H.k5, H.k6, H.k7, H.k8, H.k9, H.k10, H.k11, nI_ltI, nI_leI, nI_eq, nI_clamp, zIn_nI, bI_0, nI_add, nI_mul, nI_or, nI_and, nI_shl1, nI_bit, ↓pk_rem, pk_div, Nat.lt_irrefl, Nat.not_lt_zero, reduceCtorEq, h8]
theorem n_addPaperNo (H : ROffN σ a A) (h8 : A.np = 8) (v : Int64) :
   zC (d + 1) 50 [.ref a, .long v] σ K = K (some (.int (-nI 1))) σ := by
  rw [E_50]
  simp (disch := omega) only [L_50_0, zt_50_0, L_50_11, zt_50_11, ↓e_iconst0, ↓e_iconst1, ↓e_bipush0, ↓e_bipush1, ↓e_sipush0, ↓e_sipush1, ↓e_ldc0, ↓e_ldc1, ↓e_ldc_w0, ↓e_ldc_w1, ↓e_ldc2, ↓e_lconst0, ↓e_lconst1, ↓e_ldc2_w0, ↓e_ldc2_w1, ↓e_iload, ↓e_iload_n, ↓e_istore, ↓e_istore_n, ↓e_lload, ↓e_lload_n, ↓e_lstore, ↓e_lstore_n, ↓e_aload, ↓e_aload_n, ↓e_astore, ↓e_astore_n, ↓e_iinc0, ↓e_iinc1, ↓e_iadd, ↓e_isub, ↓e_imul, ↓e_iand, ↓e_ior, ↓e_ixor, ↓e_ishl, ↓e_ishr, ↓e_iushr, ↓e_ladd, ↓e_lsub, ↓e_lmul, ↓e_land, ↓e_lor, ↓e_idiv, ↓e_irem, ↓e_ldiv, ↓e_lrem, ↓e_lshl, ↓e_lcmp, ↓e_i2l, ↓e_l2i, ↓e_i2b, ↓e_i2s, ↓e_dup_int, ↓e_pop_int, ↓e_dup_ref, ↓e_pop_ref, ↓e_dup2, ↓e_goto, ↓e_nop, ↓e_ifCond_eq, ↓e_if_icmp_eq, ↓e_ifCond_ne, ↓e_if_icmp_ne, ↓e_ifCond_lt, ↓e_if_icmp_lt, ↓e_ifCond_ge, ↓e_if_icmp_ge, ↓e_ifCond_gt, ↓e_if_icmp_gt, ↓e_ifCond_le, ↓e_if_icmp_le, ↓e_tab, ↓e_look, ↓e_get0, ↓e_get1, ↓e_get2, ↓e_get3, ↓e_put0, ↓e_put1, ↓e_put2, ↓e_put3, ↓e_iaload, ↓e_laload, ↓e_baload, ↓e_aaload, ↓e_iastore, ↓e_lastore, ↓e_bastore, ↓e_aastore, ↓e_alen, ↓e_new, ↓e_newarray, ↓e_anewarray, ↓e_objinit, ↓e_virt1, ↓e_virt2, ↓e_virt3, ↓e_virt4, ↓e_virt5, ↓e_virt6, ↓e_virt7, ↓e_stat0, ↓e_stat1, ↓e_stat2, ↓e_stat3, ↓e_stat4, ↓e_stat5, ↓e_stat6, ↓e_stat7, ↓e_spec1, ↓e_spec2, ↓e_spec3, ↓e_spec4, ↓e_spec5, ↓e_strlen, ↓e_charAt, ↓e_copy, ↓e_iret0, ↓e_iret1, ↓e_lret, ↓e_aret, ↓e_vret, zIsI_int, zIsL_long, zIsA_ref, zInt_int, true_and, and_true, ↓reduceIte, zGet, zSet, zSet2, zEnt, zWid, Value.category, List.map_cons, List.map_nil, List.sum_cons, List.sum_nil, List.replicate, Option.toList, Nat.reduceAdd, Nat.reduceSub, Nat.reduceMul, Nat.reduceLeDiff, Nat.reduceEqDiff, Nat.reduceLT, List.cons_append, List.nil_append, true_or, or_true, or_false, false_or, H.k, H.i0, H.i1, H.i2, H.i3, H.i4, H.i5, H.i6, H.i7, H.r8, H.r9, H.r10, H.r11, H.r12, H.r13, H.r14, H.r15, H.r16, H.r17, H.r18, H.k1, H.k2, H.k3, H.k4, H.k5, H.k6, H.k7, H.k8, H.k9, H.k10, H.k11, nI_ltI, nI_leI, nI_eq, nI_clamp, zIn_nI, bI_0, nI_add, nI_mul, nI_or, nI_and, nI_shl1, nI_bit, ↓pk_rem, pk_div, Nat.lt_irrefl, Nat.not_lt_zero, reduceCtorEq, h8]
theorem n_addClerk (H : ROffN σ a A) (h4 : A.nc < 4) (v : Int64) :
   zC (d + 1) 51 [.ref a, .long v] σ K = K (some (.int (nI A.nc))) (adC σ a A.nc v) := by
  have i5 : ∀ x y, sI (setI (setL σ (a + 7) A.nc x) (a + 6) A.nc y) a 7 = nI A.nc := fun x y => by
    rw [sI_setI, if_neg (by omega), sI_setL]; exact H.i7
  have i4 : ∀ x, sI (setL σ (a + 7) A.nc x) a 7 = nI A.nc := fun x => H.i7
  have i7 : ∀ τ v, sI (setI τ a 7 v) a 7 = v := fun τ v => by rw [sI_setI, if_pos ⟨rfl, rfl⟩]
  rw [E_51]
  unfold adC
  simp (disch := omega) only [L_51_0, zt_51_0, L_51_10, zt_51_10, ↓e_iconst0, ↓e_iconst1, ↓e_bipush0, ↓e_bipush1, ↓e_sipush0, ↓e_sipush1, ↓e_ldc0, ↓e_ldc1, ↓e_ldc_w0, ↓e_ldc_w1, ↓e_ldc2, ↓e_lconst0, ↓e_lconst1, ↓e_ldc2_w0, ↓e_ldc2_w1, ↓e_iload, ↓e_iload_n, ↓e_istore, ↓e_istore_n, ↓e_lload, ↓e_lload_n, ↓e_lstore, ↓e_lstore_n, ↓e_aload, ↓e_aload_n, ↓e_astore, ↓e_astore_n, ↓e_iinc0, ↓e_iinc1, ↓e_iadd, ↓e_isub, ↓e_imul, ↓e_iand, ↓e_ior, ↓e_ixor, ↓e_ishl, ↓e_ishr, ↓e_iushr, ↓e_ladd, ↓e_lsub, ↓e_lmul, ↓e_land, ↓e_lor, ↓e_idiv, ↓e_irem, ↓e_ldiv, ↓e_lrem, ↓e_lshl, ↓e_lcmp, ↓e_i2l, ↓e_l2i, ↓e_i2b, ↓e_i2s, ↓e_dup_int, ↓e_pop_int, ↓e_dup_ref, ↓e_pop_ref, ↓e_dup2, ↓e_goto, ↓e_nop, ↓e_ifCond_eq, ↓e_if_icmp_eq, ↓e_ifCond_ne, ↓e_if_icmp_ne, ↓e_ifCond_lt, ↓e_if_icmp_lt, ↓e_ifCond_ge, ↓e_if_icmp_ge, ↓e_ifCond_gt, ↓e_if_icmp_gt, ↓e_ifCond_le, ↓e_if_icmp_le, ↓e_tab, ↓e_look, ↓e_get0, ↓e_get1, ↓e_get2, ↓e_get3, ↓e_put0, ↓e_put1, ↓e_put2, ↓e_put3, ↓e_iaload, ↓e_laload, ↓e_baload, ↓e_aaload, ↓e_iastore, ↓e_lastore, ↓e_bastore, ↓e_aastore, ↓e_alen, ↓e_new, ↓e_newarray, ↓e_anewarray, ↓e_objinit, ↓e_virt1, ↓e_virt2, ↓e_virt3, ↓e_virt4, ↓e_virt5, ↓e_virt6, ↓e_virt7, ↓e_stat0, ↓e_stat1, ↓e_stat2, ↓e_stat3, ↓e_stat4, ↓e_stat5, ↓e_stat6, ↓e_stat7, ↓e_spec1, ↓e_spec2, ↓e_spec3, ↓e_spec4, ↓e_spec5, ↓e_strlen, ↓e_charAt, ↓e_copy, ↓e_iret0, ↓e_iret1, ↓e_lret, ↓e_aret, ↓e_vret, zIsI_int, zIsL_long, zIsA_ref, zInt_int, true_and, and_true, ↓reduceIte, zGet, zSet, zSet2, zEnt, zWid, Value.category, List.map_cons, List.map_nil, List.sum_cons, List.sum_nil, List.replicate, Option.toList, Nat.reduceAdd, Nat.reduceSub, Nat.reduceMul, Nat.reduceLeDiff, Nat.reduceEqDiff, Nat.reduceLT, List.cons_append, List.nil_append, true_or, or_true, or_false, false_or, H.k, H.i0, H.i1, H.i2, H.i3, H.i4, H.i5, H.i6, H.i7, H.r8, H.r9, H.r10, H.r11, H.r12, H.r13, H.r14, H.r15, H.r16, H.r17, H.r18, H.k1, H.k2, H.k3, H.k4, H.k5, H.k6, H.k7, H.k8, H.k9, H.k10, H.k11, nI_ltI, nI_leI, nI_eq, nI_clamp, zIn_nI, bI_0, nI_add, nI_mul, nI_or, nI_and, nI_shl1, nI_bit, ↓pk_rem, pk_div, Nat.lt_irrefl, Nat.not_lt_zero, reduceCtorEq, h4, sK_setL, sR_setL, sK_setI, sR_setI, sL_setI, i4, i5, i7, nI_sub, Nat.add_sub_cancel]
theorem n_addClerkNo (H : ROffN σ a A) (h4 : A.nc = 4) (v : Int64) :
   zC (d + 1) 51 [.ref a, .long v] σ K = K (some (.int (-nI 1))) σ := by
  rw [E_51]
  simp (disch := omega) only [L_51_0, zt_51_0, L_51_10, zt_51_10, ↓e_iconst0, ↓e_iconst1, ↓e_bipush0, ↓e_bipush1, ↓e_sipush0, ↓e_sipush1, ↓e_ldc0, ↓e_ldc1, ↓e_ldc_w0, ↓e_ldc_w1, ↓e_ldc2, ↓e_lconst0, ↓e_lconst1, ↓e_ldc2_w0, ↓e_ldc2_w1, ↓e_iload, ↓e_iload_n, ↓e_istore, ↓e_istore_n, ↓e_lload, ↓e_lload_n, ↓e_lstore, ↓e_lstore_n, ↓e_aload, ↓e_aload_n, ↓e_astore, ↓e_astore_n, ↓e_iinc0, ↓e_iinc1, ↓e_iadd, ↓e_isub, ↓e_imul, ↓e_iand, ↓e_ior, ↓e_ixor, ↓e_ishl, ↓e_ishr, ↓e_iushr, ↓e_ladd, ↓e_lsub, ↓e_lmul, ↓e_land, ↓e_lor, ↓e_idiv, ↓e_irem, ↓e_ldiv, ↓e_lrem, ↓e_lshl, ↓e_lcmp, ↓e_i2l, ↓e_l2i, ↓e_i2b, ↓e_i2s, ↓e_dup_int, ↓e_pop_int, ↓e_dup_ref, ↓e_pop_ref, ↓e_dup2, ↓e_goto, ↓e_nop, ↓e_ifCond_eq, ↓e_if_icmp_eq, ↓e_ifCond_ne, ↓e_if_icmp_ne, ↓e_ifCond_lt, ↓e_if_icmp_lt, ↓e_ifCond_ge, ↓e_if_icmp_ge, ↓e_ifCond_gt, ↓e_if_icmp_gt, ↓e_ifCond_le, ↓e_if_icmp_le, ↓e_tab, ↓e_look, ↓e_get0, ↓e_get1, ↓e_get2, ↓e_get3, ↓e_put0, ↓e_put1, ↓e_put2, ↓e_put3, ↓e_iaload, ↓e_laload, ↓e_baload, ↓e_aaload, ↓e_iastore, ↓e_lastore, ↓e_bastore, ↓e_aastore, ↓e_alen, ↓e_new, ↓e_newarray, ↓e_anewarray, ↓e_objinit, ↓e_virt1, ↓e_virt2, ↓e_virt3, ↓e_virt4, ↓e_virt5, ↓e_virt6, ↓e_virt7, ↓e_stat0, ↓e_stat1, ↓e_stat2, ↓e_stat3, ↓e_stat4, ↓e_stat5, ↓e_stat6, ↓e_stat7, ↓e_spec1, ↓e_spec2, ↓e_spec3, ↓e_spec4, ↓e_spec5, ↓e_strlen, ↓e_charAt, ↓e_copy, ↓e_iret0, ↓e_iret1, ↓e_lret, ↓e_aret, ↓e_vret, zIsI_int, zIsL_long, zIsA_ref, zInt_int, true_and, and_true, ↓reduceIte, zGet, zSet, zSet2, zEnt, zWid, Value.category, List.map_cons, List.map_nil, List.sum_cons, List.sum_nil, List.replicate, Option.toList, Nat.reduceAdd, Nat.reduceSub, Nat.reduceMul, Nat.reduceLeDiff, Nat.reduceEqDiff, Nat.reduceLT, List.cons_append, List.nil_append, true_or, or_true, or_false, false_or, H.k, H.i0, H.i1, H.i2, H.i3, H.i4, H.i5, H.i6, H.i7, H.r8, H.r9, H.r10, H.r11, H.r12, H.r13, H.r14, H.r15, H.r16, H.r17, H.r18, H.k1, H.k2, H.k3, H.k4, H.k5, H.k6, H.k7, H.k8, H.k9, H.k10, H.k11, nI_ltI, nI_leI, nI_eq, nI_clamp, zIn_nI, bI_0, nI_add, nI_mul, nI_or, nI_and, nI_shl1, nI_bit, ↓pk_rem, pk_div, Nat.lt_irrefl, Nat.not_lt_zero, reduceCtorEq, h4]
theorem adT_ag (n : Nat) (v : Int64) : Ag (fun c => a ≤ c ∧ c ≤ a + 11) σ (adT σ a n v) := ((Ag.rf.setL ⟨by omega, by omega⟩).setI ⟨by omega, by omega⟩).setI ⟨by omega, by omega⟩
theorem adC_ag (n : Nat) (v : Int64) : Ag (fun c => a ≤ c ∧ c ≤ a + 11) σ (adC σ a n v) := ((Ag.rf.setL ⟨by omega, by omega⟩).setI ⟨by omega, by omega⟩).setI ⟨by omega, by omega⟩
theorem ROffC.addT (H : ROffC σ a A) (nm : List Nat) : ROffC (adT σ a A.nt (lN (nm27 nm))) a (A.addT nm) := by
  have y : ∀ k j, k ≠ 0 → k ≠ 1 → sI (adT σ a A.nt (lN (nm27 nm))) (a + k) j = sI σ (a + k) j := fun k j h1 h2 => by
    unfold adT
    rw [sI_setI, if_neg (by omega), sI_setI, if_neg (by omega), sI_setL]
  have z : ∀ j, j ≠ 5 → sI (adT σ a A.nt (lN (nm27 nm))) a j = sI σ a j := fun j hj => by
    unfold adT
    rw [sI_setI, if_neg (fun h => hj h.2), sI_setI, if_neg (by omega), sI_setL]
  have x : ∀ k j, k ≠ 2 → sL (adT σ a A.nt (lN (nm27 nm))) (a + k) j = sL σ (a + k) j := fun k j h1 => by
    unfold adT
    rw [sL_setI, sL_setI, sL_setL, if_neg (by omega)]
  refine ROffC.mk (ROffN.mk H.n.k ((z 0 (by decide)).trans H.n.i0) ((z 1 (by decide)).trans H.n.i1) ((z 2 (by decide)).trans H.n.i2) ((z 3 (by decide)).trans H.n.i3) ((z 4 (by decide)).trans H.n.i4) ?_ ((z 6 (by decide)).trans H.n.i6) ((z 7 (by decide)).trans H.n.i7) H.n.r8 H.n.r9 H.n.r10 H.n.r11 H.n.r12 H.n.r13 H.n.r14 H.n.r15 H.n.r16 H.n.r17 H.n.r18 H.n.k1 H.n.k2 H.n.k3 H.n.k4 H.n.k5 H.n.k6 H.n.k7 H.n.k8 H.n.k9 H.n.k10 H.n.k11) ?_ ?_ ?_ ?_ ?_ ?_ ?_ ?_ ?_
  · unfold adT
    rw [sI_setI, if_pos ⟨rfl, rfl⟩]
    rfl
  · intro q hq
    have hq : q < A.nt + 1 := hq
    show _ = nI (updN A.w A.nt 1 q)
    unfold adT updN
    rw [sI_setI, if_neg (by omega), sI_setI]
    by_cases h : q = A.nt
    · rw [if_pos ⟨rfl, h⟩, if_pos h]
    · rw [if_neg (fun hh => h hh.2), if_neg h, sI_setL]
      exact H.a1 q (by omega)
  · intro q hq
    have hq : q < A.nt + 1 := hq
    show _ = lN (nm27 (updS A.tn A.nt nm q))
    unfold adT updS
    rw [sL_setI, sL_setI, sL_setL]
    by_cases h : q = A.nt
    · rw [if_pos ⟨rfl, h⟩, if_pos h]
    · rw [if_neg (fun hh => h hh.2), if_neg h]
      exact H.a2 q (by omega)
  · exact fun t h => (y 3 _ (by decide) (by decide)).trans (H.a3 t h)
  · exact fun t h => (y 4 _ (by decide) (by decide)).trans (H.a4 t h)
  · exact fun t h => (x 5 _ (by decide)).trans (H.a5 t h)
  · exact fun t h => (y 6 _ (by decide) (by decide)).trans (H.a6 t h)
  · exact fun t h => (x 7 _ (by decide)).trans (H.a7 t h)
  · exact fun t h => (y 8 _ (by decide) (by decide)).trans (H.a8 t h)
  · exact fun c k h1 h2 => (y 9 _ (by decide) (by decide)).trans (H.a9 c k h1 h2)
theorem ROffC.addC (H : ROffC σ a A) (nm : List Nat) : ROffC (adC σ a A.nc (lN (nm27 nm))) a (A.addC nm) := by
  have y : ∀ k j, k ≠ 0 → k ≠ 6 → sI (adC σ a A.nc (lN (nm27 nm))) (a + k) j = sI σ (a + k) j := fun k j h1 h2 => by
    unfold adC
    rw [sI_setI, if_neg (by omega), sI_setI, if_neg (by omega), sI_setL]
  have z : ∀ j, j ≠ 7 → sI (adC σ a A.nc (lN (nm27 nm))) a j = sI σ a j := fun j hj => by
    unfold adC
    rw [sI_setI, if_neg (fun h => hj h.2), sI_setI, if_neg (by omega), sI_setL]
  have x : ∀ k j, k ≠ 7 → sL (adC σ a A.nc (lN (nm27 nm))) (a + k) j = sL σ (a + k) j := fun k j h1 => by
    unfold adC
    rw [sL_setI, sL_setI, sL_setL, if_neg (by omega)]
  refine ROffC.mk (ROffN.mk H.n.k ((z 0 (by decide)).trans H.n.i0) ((z 1 (by decide)).trans H.n.i1) ((z 2 (by decide)).trans H.n.i2) ((z 3 (by decide)).trans H.n.i3) ((z 4 (by decide)).trans H.n.i4) ((z 5 (by decide)).trans H.n.i5) ((z 6 (by decide)).trans H.n.i6) ?_ H.n.r8 H.n.r9 H.n.r10 H.n.r11 H.n.r12 H.n.r13 H.n.r14 H.n.r15 H.n.r16 H.n.r17 H.n.r18 H.n.k1 H.n.k2 H.n.k3 H.n.k4 H.n.k5 H.n.k6 H.n.k7 H.n.k8 H.n.k9 H.n.k10 H.n.k11) ?_ ?_ ?_ ?_ ?_ ?_ ?_ ?_ ?_
  · unfold adC
    rw [sI_setI, if_pos ⟨rfl, rfl⟩]
    rfl
  · exact fun t h => (y 1 _ (by decide) (by decide)).trans (H.a1 t h)
  · exact fun t h => (x 2 _ (by decide)).trans (H.a2 t h)
  · exact fun t h => (y 3 _ (by decide) (by decide)).trans (H.a3 t h)
  · exact fun t h => (y 4 _ (by decide) (by decide)).trans (H.a4 t h)
  · exact fun t h => (x 5 _ (by decide)).trans (H.a5 t h)
  · intro q hq
    have hq : q < A.nc + 1 := hq
    show _ = nI (updN A.ck A.nc 0 q)
    unfold adC updN
    rw [sI_setI, if_neg (by omega), sI_setI]
    by_cases h : q = A.nc
    · rw [if_pos ⟨rfl, h⟩, if_pos h]
    · rw [if_neg (fun hh => h hh.2), if_neg h, sI_setL]
      exact H.a6 q (by omega)
  · intro q hq
    have hq : q < A.nc + 1 := hq
    show _ = lN (nm27 (updS A.cn A.nc nm q))
    unfold adC updS
    rw [sL_setI, sL_setI, sL_setL]
    by_cases h : q = A.nc
    · rw [if_pos ⟨rfl, h⟩, if_pos h]
    · rw [if_neg (fun hh => h hh.2), if_neg h]
      exact H.a7 q (by omega)
  · exact fun t h => (y 8 _ (by decide) (by decide)).trans (H.a8 t h)
  · exact fun c k h1 h2 => (y 9 _ (by decide) (by decide)).trans (H.a9 c k h1 h2)
end NMS
