theorem sK_setI (σ : MS) (b i : Nat) (v : Int32) (q : Nat) : sK (setI σ b i v) q = sK σ q := rfl
theorem sR_setI (σ : MS) (b i : Nat) (v : Int32) (q j : Nat) : sR (setI σ b i v) q j = sR σ q j := rfl
theorem sL_setI (σ : MS) (b i : Nat) (v : Int32) (q j : Nat) : sL (setI σ b i v) q j = sL σ q j := rfl
theorem sI_setI (σ : MS) (b i : Nat) (v : Int32) (q j : Nat) : sI (setI σ b i v) q j = if q = b ∧ j = i then v else sI σ q j := rfl
section OFFF
variable {d : Nat} {σ : MS} {a : Nat} {A : Ofc} {K : Option Value → MS → Prop}
theorem isI_cell (O : OfcOk A) {k : Nat} (hk : k < A.wide * A.high) : isI (nI k) (A.wide * A.high) = true := by
  have h8 := cells20 O
  rw [isI_nI (by omega) (by omega)]
  simpa using hk
/-- needs no more of the Office than its numbers and kinds -/
theorem c_putInto (H : ROff σ a A) (O : OfcOk A) {p c : Nat} (hp : p < A.np) (hc : c < A.wide * A.high) :
   zC (d + 2) 60 [.ref a, .int (nI p), .int (nI c)] σ K = K none (setI (setI σ (a + 4) p (nI c)) (a + 8) c (nI p)) := by
  have h8 := O.p8
  have h20 := cells20 O
  have hp8 : p < 8 := by omega
  have hc20 : c < 20 := by omega
  rw [E_60]
  simp (disch := omega) only [L_60_0, zt_60_0, L_60_30, zt_60_30, ↓e_iconst0, ↓e_iconst1, ↓e_bipush0, ↓e_bipush1, ↓e_sipush0, ↓e_sipush1, ↓e_ldc0, ↓e_ldc1, ↓e_ldc_w0, ↓e_ldc_w1, ↓e_ldc2, ↓e_lconst0, ↓e_lconst1, ↓e_ldc2_w0, ↓e_ldc2_w1, ↓e_iload, ↓e_iload_n, ↓e_istore, ↓e_istore_n, ↓e_lload, ↓e_lload_n, ↓e_lstore, ↓e_lstore_n, ↓e_aload, ↓e_aload_n, ↓e_astore, ↓e_astore_n, ↓e_iinc0, ↓e_iinc1, ↓e_iadd, ↓e_isub, ↓e_imul, ↓e_iand, ↓e_ior, ↓e_ixor, ↓e_ishl, ↓e_ishr, ↓e_iushr, ↓e_ladd, ↓e_lsub, ↓e_lmul, ↓e_land, ↓e_lor, ↓e_idiv, ↓e_irem, ↓e_ldiv, ↓e_lrem, ↓e_lshl, ↓e_lcmp, ↓e_i2l, ↓e_l2i, ↓e_i2b, ↓e_i2s, ↓e_dup_int, ↓e_pop_int, ↓e_dup_ref, ↓e_pop_ref, ↓e_dup2, ↓e_goto, ↓e_nop, ↓e_ifCond_eq, ↓e_if_icmp_eq, ↓e_ifCond_ne, ↓e_if_icmp_ne, ↓e_ifCond_lt, ↓e_if_icmp_lt, ↓e_ifCond_ge, ↓e_if_icmp_ge, ↓e_ifCond_gt, ↓e_if_icmp_gt, ↓e_ifCond_le, ↓e_if_icmp_le, ↓e_tab, ↓e_look, ↓e_get0, ↓e_get1, ↓e_get2, ↓e_get3, ↓e_put0, ↓e_put1, ↓e_put2, ↓e_put3, ↓e_iaload, ↓e_laload, ↓e_baload, ↓e_aaload, ↓e_iastore, ↓e_lastore, ↓e_bastore, ↓e_aastore, ↓e_alen, ↓e_new, ↓e_newarray, ↓e_anewarray, ↓e_objinit, ↓e_virt1, ↓e_virt2, ↓e_virt3, ↓e_virt4, ↓e_virt5, ↓e_virt6, ↓e_virt7, ↓e_stat0, ↓e_stat1, ↓e_stat2, ↓e_stat3, ↓e_stat4, ↓e_stat5, ↓e_stat6, ↓e_stat7, ↓e_spec1, ↓e_spec2, ↓e_spec3, ↓e_spec4, ↓e_spec5, ↓e_strlen, ↓e_charAt, ↓e_copy, ↓e_iret0, ↓e_iret1, ↓e_lret, ↓e_aret, ↓e_vret, zIsI_int, zIsL_long, zIsA_ref, zInt_int, true_and, and_true, ↓reduceIte, zGet, zSet, zSet2, zEnt, zWid, Value.category, List.map_cons, List.map_nil, List.sum_cons, List.sum_nil, List.replicate, Option.toList, Nat.reduceAdd, Nat.reduceSub, Nat.reduceMul, Nat.reduceLeDiff, Nat.reduceEqDiff, Nat.reduceLT, List.cons_append, List.nil_append, true_or, or_true, or_false, false_or, H.k, H.i0, H.i1, H.i2, H.i3, H.i4, H.i5, H.i6, H.i7, H.r8, H.r9, H.r10, H.r11, H.r12, H.r13, H.r14, H.r15, H.r16, H.r17, H.r18, H.k1, H.k2, H.k3, H.k4, H.k5, H.k6, H.k7, H.k8, H.k9, H.k10, H.k11, nI_ltI, nI_leI, nI_eq, nI_clamp, zIn_nI, bI_0, nI_add, nI_mul, nI_or, nI_and, nI_shl1, nI_bit, pk_rem, pk_div, Nat.lt_irrefl, Nat.not_lt_zero, reduceCtorEq, ↓c_isPaper H O, ↓c_isCell H O, isI_np O hp, isI_cell O hc, hp8, hc20, sK_setI, sR_setI, sL_setI]
end OFFF
