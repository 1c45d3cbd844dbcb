/-! THE CLASS READS DAYS: steps -/
def DPost (σ : MS) (a u r : Nat) (B : Nat → Nat) (n : Nat) (A : Ofc) (x : Er ⊕ (Ps × Tk)) (τ : MS) : Prop := FD u r σ τ ∧ match x with
  | .inl e => sI τ 98 8 = nI e.1 ∧ sI τ 98 9 = nI e.2
  | .inr y => RDg τ a u r B n y.2 A y.1
def pix (k : Nat) : Nat := if k = 9 ∨ k = 10 ∨ k = 11 then 1 else if k = 17 then 2 else if k = 14 then 3 else if k = 12 then 4 else if k = 19 then 5 else if k = 18 then 6 else 7
theorem pix_pcs : ∀ k, k < 22 → zText.getD (pix k) [] = pcs k ∧ pix k < 9 := by decide +kernel
def pOK (c : Nat) : Prop := c = 112 ∨ c = 99 ∨ c = 102 ∨ c = 108 ∨ c = 115 ∨ c = 110
theorem pcs_is (k : Nat) : pcs k = [] ∨ (∃ c, pcs k = [c] ∧ pOK c) ∨ ∃ c e, pcs k = [c, e] ∧ pOK c ∧ pOK e := by
  unfold pcs pOK
  split
  · exact .inr (.inl ⟨_, rfl, by omega⟩)
  · split
    · exact .inr (.inr ⟨_, _, rfl, by omega, by omega⟩)
    · split
      · exact .inr (.inr ⟨_, _, rfl, by omega, by omega⟩)
      · split
        · exact .inr (.inr ⟨_, _, rfl, by omega, by omega⟩)
        · split
          · exact .inr (.inl ⟨_, rfl, by omega⟩)
          · split
            · exact .inr (.inr ⟨_, _, rfl, by omega, by omega⟩)
            · exact .inl rfl
def kOK (k : Nat) : Prop := k = 9 ∨ k = 10 ∨ k = 11 ∨ k = 12 ∨ k = 13 ∨ k = 14 ∨ k = 15 ∨ k = 17 ∨ k = 18 ∨ k = 19 ∨ k = 21
section DX2
variable {d : Nat} {σ τ ρ : MS} {a u r n : Nat} {A : Ofc} {B : Nat → Nat} {T U : Tk} {S : Ps} {K : Option Value → MS → Prop}
theorem DP.no {e : Er} (h : FD u r σ τ) : DPost σ a u r B n A (.inl e) (flt τ e.1 e.2) := ⟨h.flt _ _, flt_8 _ _, flt_9 _ _⟩
theorem DP.tr {x : Er ⊕ (Ps × Tk)} (h : FD u r σ τ) (X : DPost τ a u r B n A x ρ) : DPost σ a u r B n A x ρ := ⟨h.tr X.1, X.2⟩
theorem c_piecesOf {k : Nat} (hk : kOK k) : zC (d + 1) 19 [.int (nI k)] σ K = K (some (.ref (zStr + pix k))) σ := by
  rw [E_19]
  rcases hk with rfl | rfl | rfl | rfl | rfl | rfl | rfl | rfl | rfl | rfl | rfl
  · simp (disch := omega) only [L_19_0, zt_19_0, L_19_60, zt_19_60, L_19_63, zt_19_63, L_19_66, zt_19_66, L_19_69, zt_19_69, L_19_72, zt_19_72, L_19_75, zt_19_75, L_19_78, zt_19_78, show zTab 1 (77) (9) (19) #[59, 59, 59, 68, 77, 65, 77, 77, 62, 74, 71] (nI 9) = 60 from by decide, ↓e_iconst0, ↓e_iconst1, ↓e_bipush0, ↓e_bipush1, ↓e_sipush0, ↓e_sipush1, ↓e_ldc0, ↓e_ldc1, ↓e_ldc_w0, ↓e_ldc_w1, ↓e_ldc2, ↓e_lconst0, ↓e_lconst1, ↓e_ldc2_w0, ↓e_ldc2_w1, ↓e_iload, ↓e_iload_n, ↓e_istore, ↓e_istore_n, ↓e_lload, ↓e_lload_n, ↓e_lstore, ↓e_lstore_n, ↓e_aload, ↓e_aload_n, ↓e_astore, ↓e_astore_n, ↓e_iinc0, ↓e_iinc1, ↓e_iadd, ↓e_isub, ↓e_imul, ↓e_iand, ↓e_ior, ↓e_ixor, ↓e_ishl, ↓e_ishr, ↓e_iushr, ↓e_ladd, ↓e_lsub, ↓e_lmul, ↓e_land, ↓e_lor, ↓e_idiv, ↓e_irem, ↓e_ldiv, ↓e_lrem, ↓e_lshl, ↓e_lcmp, ↓e_i2l, ↓e_l2i, ↓e_i2b, ↓e_i2s, ↓e_dup_int, ↓e_pop_int, ↓e_dup_ref, ↓e_pop_ref, ↓e_dup2, ↓e_goto, ↓e_nop, ↓e_ifCond_eq, ↓e_if_icmp_eq, ↓e_ifCond_ne, ↓e_if_icmp_ne, ↓e_ifCond_lt, ↓e_if_icmp_lt, ↓e_ifCond_ge, ↓e_if_icmp_ge, ↓e_ifCond_gt, ↓e_if_icmp_gt, ↓e_ifCond_le, ↓e_if_icmp_le, ↓e_tab, ↓e_look, ↓e_get0, ↓e_get1, ↓e_get2, ↓e_get3, ↓e_put0, ↓e_put1, ↓e_put2, ↓e_put3, ↓e_iaload, ↓e_laload, ↓e_baload, ↓e_aaload, ↓e_iastore, ↓e_lastore, ↓e_bastore, ↓e_aastore, ↓e_alen, ↓e_new, ↓e_newarray, ↓e_anewarray, ↓e_objinit, ↓e_virt1, ↓e_virt2, ↓e_virt3, ↓e_virt4, ↓e_virt5, ↓e_virt6, ↓e_virt7, ↓e_stat0, ↓e_stat1, ↓e_stat2, ↓e_stat3, ↓e_stat4, ↓e_stat5, ↓e_stat6, ↓e_stat7, ↓e_spec1, ↓e_spec2, ↓e_spec3, ↓e_spec4, ↓e_spec5, ↓e_strlen, ↓e_charAt, ↓e_copy, ↓e_iret0, ↓e_iret1, ↓e_lret, ↓e_aret, ↓e_vret, zIsI_int, zIsL_long, zIsA_ref, zInt_int, true_and, and_true, ↓reduceIte, zGet, zSet, zSet2, zEnt, zWid, Value.category, List.map_cons, List.map_nil, List.sum_cons, List.sum_nil, List.replicate, Option.toList, Nat.reduceAdd, Nat.reduceSub, Nat.reduceMul, Nat.reduceLeDiff, Nat.reduceEqDiff, Nat.reduceLT, List.cons_append, List.nil_append, true_or, or_true, or_false, false_or, nI_ltI, nI_leI, nI_eq, nI_clamp, zIn_nI, bI_0, nI_add, nI_mul, nI_or, nI_and, nI_shl1, nI_bit, ↓pk_rem, pk_div, Nat.lt_irrefl, Nat.not_lt_zero, reduceCtorEq]; rfl
  · simp (disch := omega) only [L_19_0, zt_19_0, L_19_60, zt_19_60, L_19_63, zt_19_63, L_19_66, zt_19_66, L_19_69, zt_19_69, L_19_72, zt_19_72, L_19_75, zt_19_75, L_19_78, zt_19_78, show zTab 1 (77) (9) (19) #[59, 59, 59, 68, 77, 65, 77, 77, 62, 74, 71] (nI 10) = 60 from by decide, ↓e_iconst0, ↓e_iconst1, ↓e_bipush0, ↓e_bipush1, ↓e_sipush0, ↓e_sipush1, ↓e_ldc0, ↓e_ldc1, ↓e_ldc_w0, ↓e_ldc_w1, ↓e_ldc2, ↓e_lconst0, ↓e_lconst1, ↓e_ldc2_w0, ↓e_ldc2_w1, ↓e_iload, ↓e_iload_n, ↓e_istore, ↓e_istore_n, ↓e_lload, ↓e_lload_n, ↓e_lstore, ↓e_lstore_n, ↓e_aload, ↓e_aload_n, ↓e_astore, ↓e_astore_n, ↓e_iinc0, ↓e_iinc1, ↓e_iadd, ↓e_isub, ↓e_imul, ↓e_iand, ↓e_ior, ↓e_ixor, ↓e_ishl, ↓e_ishr, ↓e_iushr, ↓e_ladd, ↓e_lsub, ↓e_lmul, ↓e_land, ↓e_lor, ↓e_idiv, ↓e_irem, ↓e_ldiv, ↓e_lrem, ↓e_lshl, ↓e_lcmp, ↓e_i2l, ↓e_l2i, ↓e_i2b, ↓e_i2s, ↓e_dup_int, ↓e_pop_int, ↓e_dup_ref, ↓e_pop_ref, ↓e_dup2, ↓e_goto, ↓e_nop, ↓e_ifCond_eq, ↓e_if_icmp_eq, ↓e_ifCond_ne, ↓e_if_icmp_ne, ↓e_ifCond_lt, ↓e_if_icmp_lt, ↓e_ifCond_ge, ↓e_if_icmp_ge, ↓e_ifCond_gt, ↓e_if_icmp_gt, ↓e_ifCond_le, ↓e_if_icmp_le, ↓e_tab, ↓e_look, ↓e_get0, ↓e_get1, ↓e_get2, ↓e_get3, ↓e_put0, ↓e_put1, ↓e_put2, ↓e_put3, ↓e_iaload, ↓e_laload, ↓e_baload, ↓e_aaload, ↓e_iastore, ↓e_lastore, ↓e_bastore, ↓e_aastore, ↓e_alen, ↓e_new, ↓e_newarray, ↓e_anewarray, ↓e_objinit, ↓e_virt1, ↓e_virt2, ↓e_virt3, ↓e_virt4, ↓e_virt5, ↓e_virt6, ↓e_virt7, ↓e_stat0, ↓e_stat1, ↓e_stat2, ↓e_stat3, ↓e_stat4, ↓e_stat5, ↓e_stat6, ↓e_stat7, ↓e_spec1, ↓e_spec2, ↓e_spec3, ↓e_spec4, ↓e_spec5, ↓e_strlen, ↓e_charAt, ↓e_copy, ↓e_iret0, ↓e_iret1, ↓e_lret, ↓e_aret, ↓e_vret, zIsI_int, zIsL_long, zIsA_ref, zInt_int, true_and, and_true, ↓reduceIte, zGet, zSet, zSet2, zEnt, zWid, Value.category, List.map_cons, List.map_nil, List.sum_cons, List.sum_nil, List.replicate, Option.toList, Nat.reduceAdd, Nat.reduceSub, Nat.reduceMul, Nat.reduceLeDiff, Nat.reduceEqDiff, Nat.reduceLT, List.cons_append, List.nil_append, true_or, or_true, or_false, false_or, nI_ltI, nI_leI, nI_eq, nI_clamp, zIn_nI, bI_0, nI_add, nI_mul, nI_or, nI_and, nI_shl1, nI_bit, ↓pk_rem, pk_div, Nat.lt_irrefl, Nat.not_lt_zero, reduceCtorEq]; rfl
  · simp (disch := omega) only [L_19_0, zt_19_0, L_19_60, zt_19_60, L_19_63, zt_19_63, L_19_66, zt_19_66, L_19_69, zt_19_69, L_19_72, zt_19_72, L_19_75, zt_19_75, L_19_78, zt_19_78, show zTab 1 (77) (9) (19) #[59, 59, 59, 68, 77, 65, 77, 77, 62, 74, 71] (nI 11) = 60 from by decide, ↓e_iconst0, ↓e_iconst1, ↓e_bipush0, ↓e_bipush1, ↓e_sipush0, ↓e_sipush1, ↓e_ldc0, ↓e_ldc1, ↓e_ldc_w0, ↓e_ldc_w1, ↓e_ldc2, ↓e_lconst0, ↓e_lconst1, ↓e_ldc2_w0, ↓e_ldc2_w1, ↓e_iload, ↓e_iload_n, ↓e_istore, ↓e_istore_n, ↓e_lload, ↓e_lload_n, ↓e_lstore, ↓e_lstore_n, ↓e_aload, ↓e_aload_n, ↓e_astore, ↓e_astore_n, ↓e_iinc0, ↓e_iinc1, ↓e_iadd, ↓e_isub, ↓e_imul, ↓e_iand, ↓e_ior, ↓e_ixor, ↓e_ishl, ↓e_ishr, ↓e_iushr, ↓e_ladd, ↓e_lsub, ↓e_lmul, ↓e_land, ↓e_lor, ↓e_idiv, ↓e_irem, ↓e_ldiv, ↓e_lrem, ↓e_lshl, ↓e_lcmp, ↓e_i2l, ↓e_l2i, ↓e_i2b, ↓e_i2s, ↓e_dup_int, ↓e_pop_int, ↓e_dup_ref, ↓e_pop_ref, ↓e_dup2, ↓e_goto, ↓e_nop, ↓e_ifCond_eq, ↓e_if_icmp_eq, ↓e_ifCond_ne, ↓e_if_icmp_ne, ↓e_ifCond_lt, ↓e_if_icmp_lt, ↓e_ifCond_ge, ↓e_if_icmp_ge, ↓e_ifCond_gt, ↓e_if_icmp_gt, ↓e_ifCond_le, ↓e_if_icmp_le, ↓e_tab, ↓e_look, ↓e_get0, ↓e_get1, ↓e_get2, ↓e_get3, ↓e_put0, ↓e_put1, ↓e_put2, ↓e_put3, ↓e_iaload, ↓e_laload, ↓e_baload, ↓e_aaload, ↓e_iastore, ↓e_lastore, ↓e_bastore, ↓e_aastore, ↓e_alen, ↓e_new, ↓e_newarray, ↓e_anewarray, ↓e_objinit, ↓e_virt1, ↓e_virt2, ↓e_virt3, ↓e_virt4, ↓e_virt5, ↓e_virt6, ↓e_virt7, ↓e_stat0, ↓e_stat1, ↓e_stat2, ↓e_stat3, ↓e_stat4, ↓e_stat5, ↓e_stat6, ↓e_stat7, ↓e_spec1, ↓e_spec2, ↓e_spec3, ↓e_spec4, ↓e_spec5, ↓e_strlen, ↓e_charAt, ↓e_copy, ↓e_iret0, ↓e_iret1, ↓e_lret, ↓e_aret, ↓e_vret, zIsI_int, zIsL_long, zIsA_ref, zInt_int, true_and, and_true, ↓reduceIte, zGet, zSet, zSet2, zEnt, zWid, Value.category, List.map_cons, List.map_nil, List.sum_cons, List.sum_nil, List.replicate, Option.toList, Nat.reduceAdd, Nat.reduceSub, Nat.reduceMul, Nat.reduceLeDiff, Nat.reduceEqDiff, Nat.reduceLT, List.cons_append, List.nil_append, true_or, or_true, or_false, false_or, nI_ltI, nI_leI, nI_eq, nI_clamp, zIn_nI, bI_0, nI_add, nI_mul, nI_or, nI_and, nI_shl1, nI_bit, ↓pk_rem, pk_div, Nat.lt_irrefl, Nat.not_lt_zero, reduceCtorEq]; rfl
  · simp (disch := omega) only [L_19_0, zt_19_0, L_19_60, zt_19_60, L_19_63, zt_19_63, L_19_66, zt_19_66, L_19_69, zt_19_69, L_19_72, zt_19_72, L_19_75, zt_19_75, L_19_78, zt_19_78, show zTab 1 (77) (9) (19) #[59, 59, 59, 68, 77, 65, 77, 77, 62, 74, 71] (nI 12) = 69 from by decide, ↓e_iconst0, ↓e_iconst1, ↓e_bipush0, ↓e_bipush1, ↓e_sipush0, ↓e_sipush1, ↓e_ldc0, ↓e_ldc1, ↓e_ldc_w0, ↓e_ldc_w1, ↓e_ldc2, ↓e_lconst0, ↓e_lconst1, ↓e_ldc2_w0, ↓e_ldc2_w1, ↓e_iload, ↓e_iload_n, ↓e_istore, ↓e_istore_n, ↓e_lload, ↓e_lload_n, ↓e_lstore, ↓e_lstore_n, ↓e_aload, ↓e_aload_n, ↓e_astore, ↓e_astore_n, ↓e_iinc0, ↓e_iinc1, ↓e_iadd, ↓e_isub, ↓e_imul, ↓e_iand, ↓e_ior, ↓e_ixor, ↓e_ishl, ↓e_ishr, ↓e_iushr, ↓e_ladd, ↓e_lsub, ↓e_lmul, ↓e_land, ↓e_lor, ↓e_idiv, ↓e_irem, ↓e_ldiv, ↓e_lrem, ↓e_lshl, ↓e_lcmp, ↓e_i2l, ↓e_l2i, ↓e_i2b, ↓e_i2s, ↓e_dup_int, ↓e_pop_int, ↓e_dup_ref, ↓e_pop_ref, ↓e_dup2, ↓e_goto, ↓e_nop, ↓e_ifCond_eq, ↓e_if_icmp_eq, ↓e_ifCond_ne, ↓e_if_icmp_ne, ↓e_ifCond_lt, ↓e_if_icmp_lt, ↓e_ifCond_ge, ↓e_if_icmp_ge, ↓e_ifCond_gt, ↓e_if_icmp_gt, ↓e_ifCond_le, ↓e_if_icmp_le, ↓e_tab, ↓e_look, ↓e_get0, ↓e_get1, ↓e_get2, ↓e_get3, ↓e_put0, ↓e_put1, ↓e_put2, ↓e_put3, ↓e_iaload, ↓e_laload, ↓e_baload, ↓e_aaload, ↓e_iastore, ↓e_lastore, ↓e_bastore, ↓e_aastore, ↓e_alen, ↓e_new, ↓e_newarray, ↓e_anewarray, ↓e_objinit, ↓e_virt1, ↓e_virt2, ↓e_virt3, ↓e_virt4, ↓e_virt5, ↓e_virt6, ↓e_virt7, ↓e_stat0, ↓e_stat1, ↓e_stat2, ↓e_stat3, ↓e_stat4, ↓e_stat5, ↓e_stat6, ↓e_stat7, ↓e_spec1, ↓e_spec2, ↓e_spec3, ↓e_spec4, ↓e_spec5, ↓e_strlen, ↓e_charAt, ↓e_copy, ↓e_iret0, ↓e_iret1, ↓e_lret, ↓e_aret, ↓e_vret, zIsI_int, zIsL_long, zIsA_ref, zInt_int, true_and, and_true, ↓reduceIte, zGet, zSet, zSet2, zEnt, zWid, Value.category, List.map_cons, List.map_nil, List.sum_cons, List.sum_nil, List.replicate, Option.toList, Nat.reduceAdd, Nat.reduceSub, Nat.reduceMul, Nat.reduceLeDiff, Nat.reduceEqDiff, Nat.reduceLT, List.cons_append, List.nil_append, true_or, or_true, or_false, false_or, nI_ltI, nI_leI, nI_eq, nI_clamp, zIn_nI, bI_0, nI_add, nI_mul, nI_or, nI_and, nI_shl1, nI_bit, ↓pk_rem, pk_div, Nat.lt_irrefl, Nat.not_lt_zero, reduceCtorEq]; rfl
  · simp (disch := omega) only [L_19_0, zt_19_0, L_19_60, zt_19_60, L_19_63, zt_19_63, L_19_66, zt_19_66, L_19_69, zt_19_69, L_19_72, zt_19_72, L_19_75, zt_19_75, L_19_78, zt_19_78, show zTab 1 (77) (9) (19) #[59, 59, 59, 68, 77, 65, 77, 77, 62, 74, 71] (nI 13) = 78 from by decide, ↓e_iconst0, ↓e_iconst1, ↓e_bipush0, ↓e_bipush1, ↓e_sipush0, ↓e_sipush1, ↓e_ldc0, ↓e_ldc1, ↓e_ldc_w0, ↓e_ldc_w1, ↓e_ldc2, ↓e_lconst0, ↓e_lconst1, ↓e_ldc2_w0, ↓e_ldc2_w1, ↓e_iload, ↓e_iload_n, ↓e_istore, ↓e_istore_n, ↓e_lload, ↓e_lload_n, ↓e_lstore, ↓e_lstore_n, ↓e_aload, ↓e_aload_n, ↓e_astore, ↓e_astore_n, ↓e_iinc0, ↓e_iinc1, ↓e_iadd, ↓e_isub, ↓e_imul, ↓e_iand, ↓e_ior, ↓e_ixor, ↓e_ishl, ↓e_ishr, ↓e_iushr, ↓e_ladd, ↓e_lsub, ↓e_lmul, ↓e_land, ↓e_lor, ↓e_idiv, ↓e_irem, ↓e_ldiv, ↓e_lrem, ↓e_lshl, ↓e_lcmp, ↓e_i2l, ↓e_l2i, ↓e_i2b, ↓e_i2s, ↓e_dup_int, ↓e_pop_int, ↓e_dup_ref, ↓e_pop_ref, ↓e_dup2, ↓e_goto, ↓e_nop, ↓e_ifCond_eq, ↓e_if_icmp_eq, ↓e_ifCond_ne, ↓e_if_icmp_ne, ↓e_ifCond_lt, ↓e_if_icmp_lt, ↓e_ifCond_ge, ↓e_if_icmp_ge, ↓e_ifCond_gt, ↓e_if_icmp_gt, ↓e_ifCond_le, ↓e_if_icmp_le, ↓e_tab, ↓e_look, ↓e_get0, ↓e_get1, ↓e_get2, ↓e_get3, ↓e_put0, ↓e_put1, ↓e_put2, ↓e_put3, ↓e_iaload, ↓e_laload, ↓e_baload, ↓e_aaload, ↓e_iastore, ↓e_lastore, ↓e_bastore, ↓e_aastore, ↓e_alen, ↓e_new, ↓e_newarray, ↓e_anewarray, ↓e_objinit, ↓e_virt1, ↓e_virt2, ↓e_virt3, ↓e_virt4, ↓e_virt5, ↓e_virt6, ↓e_virt7, ↓e_stat0, ↓e_stat1, ↓e_stat2, ↓e_stat3, ↓e_stat4, ↓e_stat5, ↓e_stat6, ↓e_stat7, ↓e_spec1, ↓e_spec2, ↓e_spec3, ↓e_spec4, ↓e_spec5, ↓e_strlen, ↓e_charAt, ↓e_copy, ↓e_iret0, ↓e_iret1, ↓e_lret, ↓e_aret, ↓e_vret, zIsI_int, zIsL_long, zIsA_ref, zInt_int, true_and, and_true, ↓reduceIte, zGet, zSet, zSet2, zEnt, zWid, Value.category, List.map_cons, List.map_nil, List.sum_cons, List.sum_nil, List.replicate, Option.toList, Nat.reduceAdd, Nat.reduceSub, Nat.reduceMul, Nat.reduceLeDiff, Nat.reduceEqDiff, Nat.reduceLT, List.cons_append, List.nil_append, true_or, or_true, or_false, false_or, nI_ltI, nI_leI, nI_eq, nI_clamp, zIn_nI, bI_0, nI_add, nI_mul, nI_or, nI_and, nI_shl1, nI_bit, ↓pk_rem, pk_div, Nat.lt_irrefl, Nat.not_lt_zero, reduceCtorEq]; rfl
  · simp (disch := omega) only [L_19_0, zt_19_0, L_19_60, zt_19_60, L_19_63, zt_19_63, L_19_66, zt_19_66, L_19_69, zt_19_69, L_19_72, zt_19_72, L_19_75, zt_19_75, L_19_78, zt_19_78, show zTab 1 (77) (9) (19) #[59, 59, 59, 68, 77, 65, 77, 77, 62, 74, 71] (nI 14) = 66 from by decide, ↓e_iconst0, ↓e_iconst1, ↓e_bipush0, ↓e_bipush1, ↓e_sipush0, ↓e_sipush1, ↓e_ldc0, ↓e_ldc1, ↓e_ldc_w0, ↓e_ldc_w1, ↓e_ldc2, ↓e_lconst0, ↓e_lconst1, ↓e_ldc2_w0, ↓e_ldc2_w1, ↓e_iload, ↓e_iload_n, ↓e_istore, ↓e_istore_n, ↓e_lload, ↓e_lload_n, ↓e_lstore, ↓e_lstore_n, ↓e_aload, ↓e_aload_n, ↓e_astore, ↓e_astore_n, ↓e_iinc0, ↓e_iinc1, ↓e_iadd, ↓e_isub, ↓e_imul, ↓e_iand, ↓e_ior, ↓e_ixor, ↓e_ishl, ↓e_ishr, ↓e_iushr, ↓e_ladd, ↓e_lsub, ↓e_lmul, ↓e_land, ↓e_lor, ↓e_idiv, ↓e_irem, ↓e_ldiv, ↓e_lrem, ↓e_lshl, ↓e_lcmp, ↓e_i2l, ↓e_l2i, ↓e_i2b, ↓e_i2s, ↓e_dup_int, ↓e_pop_int, ↓e_dup_ref, ↓e_pop_ref, ↓e_dup2, ↓e_goto, ↓e_nop, ↓e_ifCond_eq, ↓e_if_icmp_eq, ↓e_ifCond_ne, ↓e_if_icmp_ne, ↓e_ifCond_lt, ↓e_if_icmp_lt, ↓e_ifCond_ge, ↓e_if_icmp_ge, ↓e_ifCond_gt, ↓e_if_icmp_gt, ↓e_ifCond_le, ↓e_if_icmp_le, ↓e_tab, ↓e_look, ↓e_get0, ↓e_get1, ↓e_get2, ↓e_get3, ↓e_put0, ↓e_put1, ↓e_put2, ↓e_put3, ↓e_iaload, ↓e_laload, ↓e_baload, ↓e_aaload, ↓e_iastore, ↓e_lastore, ↓e_bastore, ↓e_aastore, ↓e_alen, ↓e_new, ↓e_newarray, ↓e_anewarray, ↓e_objinit, ↓e_virt1, ↓e_virt2, ↓e_virt3, ↓e_virt4, ↓e_virt5, ↓e_virt6, ↓e_virt7, ↓e_stat0, ↓e_stat1, ↓e_stat2, ↓e_stat3, ↓e_stat4, ↓e_stat5, ↓e_stat6, ↓e_stat7, ↓e_spec1, ↓e_spec2, ↓e_spec3, ↓e_spec4, ↓e_spec5, ↓e_strlen, ↓e_charAt, ↓e_copy, ↓e_iret0, ↓e_iret1, ↓e_lret, ↓e_aret, ↓e_vret, zIsI_int, zIsL_long, zIsA_ref, zInt_int, true_and, and_true, ↓reduceIte, zGet, zSet, zSet2, zEnt, zWid, Value.category, List.map_cons, List.map_nil, List.sum_cons, List.sum_nil, List.replicate, Option.toList, Nat.reduceAdd, Nat.reduceSub, Nat.reduceMul, Nat.reduceLeDiff, Nat.reduceEqDiff, Nat.reduceLT, List.cons_append, List.nil_append, true_or, or_true, or_false, false_or, nI_ltI, nI_leI, nI_eq, nI_clamp, zIn_nI, bI_0, nI_add, nI_mul, nI_or, nI_and, nI_shl1, nI_bit, ↓pk_rem, pk_div, Nat.lt_irrefl, Nat.not_lt_zero, reduceCtorEq]; rfl
  · simp (disch := omega) only [L_19_0, zt_19_0, L_19_60, zt_19_60, L_19_63, zt_19_63, L_19_66, zt_19_66, L_19_69, zt_19_69, L_19_72, zt_19_72, L_19_75, zt_19_75, L_19_78, zt_19_78, show zTab 1 (77) (9) (19) #[59, 59, 59, 68, 77, 65, 77, 77, 62, 74, 71] (nI 15) = 78 from by decide, ↓e_iconst0, ↓e_iconst1, ↓e_bipush0, ↓e_bipush1, ↓e_sipush0, ↓e_sipush1, ↓e_ldc0, ↓e_ldc1, ↓e_ldc_w0, ↓e_ldc_w1, ↓e_ldc2, ↓e_lconst0, ↓e_lconst1, ↓e_ldc2_w0, ↓e_ldc2_w1, ↓e_iload, ↓e_iload_n, ↓e_istore, ↓e_istore_n, ↓e_lload, ↓e_lload_n, ↓e_lstore, ↓e_lstore_n, ↓e_aload, ↓e_aload_n, ↓e_astore, ↓e_astore_n, ↓e_iinc0, ↓e_iinc1, ↓e_iadd, ↓e_isub, ↓e_imul, ↓e_iand, ↓e_ior, ↓e_ixor, ↓e_ishl, ↓e_ishr, ↓e_iushr, ↓e_ladd, ↓e_lsub, ↓e_lmul, ↓e_land, ↓e_lor, ↓e_idiv, ↓e_irem, ↓e_ldiv, ↓e_lrem, ↓e_lshl, ↓e_lcmp, ↓e_i2l, ↓e_l2i, ↓e_i2b, ↓e_i2s, ↓e_dup_int, ↓e_pop_int, ↓e_dup_ref, ↓e_pop_ref, ↓e_dup2, ↓e_goto, ↓e_nop, ↓e_ifCond_eq, ↓e_if_icmp_eq, ↓e_ifCond_ne, ↓e_if_icmp_ne, ↓e_ifCond_lt, ↓e_if_icmp_lt, ↓e_ifCond_ge, ↓e_if_icmp_ge, ↓e_ifCond_gt, ↓e_if_icmp_gt, ↓e_ifCond_le, ↓e_if_icmp_le, ↓e_tab, ↓e_look, ↓e_get0, ↓e_get1, ↓e_get2, ↓e_get3, ↓e_put0, ↓e_put1, ↓e_put2, ↓e_put3, ↓e_iaload, ↓e_laload, ↓e_baload, ↓e_aaload, ↓e_iastore, ↓e_lastore, ↓e_bastore, ↓e_aastore, ↓e_alen, ↓e_new, ↓e_newarray, ↓e_anewarray, ↓e_objinit, ↓e_virt1, ↓e_virt2, ↓e_virt3, ↓e_virt4, ↓e_virt5, ↓e_virt6, ↓e_virt7, ↓e_stat0, ↓e_stat1, ↓e_stat2, ↓e_stat3, ↓e_stat4, ↓e_stat5, ↓e_stat6, ↓e_stat7, ↓e_spec1, ↓e_spec2, ↓e_spec3, ↓e_spec4, ↓e_spec5, ↓e_strlen, ↓e_charAt, ↓e_copy, ↓e_iret0, ↓e_iret1, ↓e_lret, ↓e_aret, ↓e_vret, zIsI_int, zIsL_long, zIsA_ref, zInt_int, true_and, and_true, ↓reduceIte, zGet, zSet, zSet2, zEnt, zWid, Value.category, List.map_cons, List.map_nil, List.sum_cons, List.sum_nil, List.replicate, Option.toList, Nat.reduceAdd, Nat.reduceSub, Nat.reduceMul, Nat.reduceLeDiff, Nat.reduceEqDiff, Nat.reduceLT, List.cons_append, List.nil_append, true_or, or_true, or_false, false_or, nI_ltI, nI_leI, nI_eq, nI_clamp, zIn_nI, bI_0, nI_add, nI_mul, nI_or, nI_and, nI_shl1, nI_bit, ↓pk_rem, pk_div, Nat.lt_irrefl, Nat.not_lt_zero, reduceCtorEq]; rfl
  · simp (disch := omega) only [L_19_0, zt_19_0, L_19_60, zt_19_60, L_19_63, zt_19_63, L_19_66, zt_19_66, L_19_69, zt_19_69, L_19_72, zt_19_72, L_19_75, zt_19_75, L_19_78, zt_19_78, show zTab 1 (77) (9) (19) #[59, 59, 59, 68, 77, 65, 77, 77, 62, 74, 71] (nI 17) = 63 from by decide, ↓e_iconst0, ↓e_iconst1, ↓e_bipush0, ↓e_bipush1, ↓e_sipush0, ↓e_sipush1, ↓e_ldc0, ↓e_ldc1, ↓e_ldc_w0, ↓e_ldc_w1, ↓e_ldc2, ↓e_lconst0, ↓e_lconst1, ↓e_ldc2_w0, ↓e_ldc2_w1, ↓e_iload, ↓e_iload_n, ↓e_istore, ↓e_istore_n, ↓e_lload, ↓e_lload_n, ↓e_lstore, ↓e_lstore_n, ↓e_aload, ↓e_aload_n, ↓e_astore, ↓e_astore_n, ↓e_iinc0, ↓e_iinc1, ↓e_iadd, ↓e_isub, ↓e_imul, ↓e_iand, ↓e_ior, ↓e_ixor, ↓e_ishl, ↓e_ishr, ↓e_iushr, ↓e_ladd, ↓e_lsub, ↓e_lmul, ↓e_land, ↓e_lor, ↓e_idiv, ↓e_irem, ↓e_ldiv, ↓e_lrem, ↓e_lshl, ↓e_lcmp, ↓e_i2l, ↓e_l2i, ↓e_i2b, ↓e_i2s, ↓e_dup_int, ↓e_pop_int, ↓e_dup_ref, ↓e_pop_ref, ↓e_dup2, ↓e_goto, ↓e_nop, ↓e_ifCond_eq, ↓e_if_icmp_eq, ↓e_ifCond_ne, ↓e_if_icmp_ne, ↓e_ifCond_lt, ↓e_if_icmp_lt, ↓e_ifCond_ge, ↓e_if_icmp_ge, ↓e_ifCond_gt, ↓e_if_icmp_gt, ↓e_ifCond_le, ↓e_if_icmp_le, ↓e_tab, ↓e_look, ↓e_get0, ↓e_get1, ↓e_get2, ↓e_get3, ↓e_put0, ↓e_put1, ↓e_put2, ↓e_put3, ↓e_iaload, ↓e_laload, ↓e_baload, ↓e_aaload, ↓e_iastore, ↓e_lastore, ↓e_bastore, ↓e_aastore, ↓e_alen, ↓e_new, ↓e_newarray, ↓e_anewarray, ↓e_objinit, ↓e_virt1, ↓e_virt2, ↓e_virt3, ↓e_virt4, ↓e_virt5, ↓e_virt6, ↓e_virt7, ↓e_stat0, ↓e_stat1, ↓e_stat2, ↓e_stat3, ↓e_stat4, ↓e_stat5, ↓e_stat6, ↓e_stat7, ↓e_spec1, ↓e_spec2, ↓e_spec3, ↓e_spec4, ↓e_spec5, ↓e_strlen, ↓e_charAt, ↓e_copy, ↓e_iret0, ↓e_iret1, ↓e_lret, ↓e_aret, ↓e_vret, zIsI_int, zIsL_long, zIsA_ref, zInt_int, true_and, and_true, ↓reduceIte, zGet, zSet, zSet2, zEnt, zWid, Value.category, List.map_cons, List.map_nil, List.sum_cons, List.sum_nil, List.replicate, Option.toList, Nat.reduceAdd, Nat.reduceSub, Nat.reduceMul, Nat.reduceLeDiff, Nat.reduceEqDiff, Nat.reduceLT, List.cons_append, List.nil_append, true_or, or_true, or_false, false_or, nI_ltI, nI_leI, nI_eq, nI_clamp, zIn_nI, bI_0, nI_add, nI_mul, nI_or, nI_and, nI_shl1, nI_bit, ↓pk_rem, pk_div, Nat.lt_irrefl, Nat.not_lt_zero, reduceCtorEq]; rfl
  · simp (disch := omega) only [L_19_0, zt_19_0, L_19_60, zt_19_60, L_19_63, zt_19_63, L_19_66, zt_19_66, L_19_69, zt_19_69, L_19_72, zt_19_72, L_19_75, zt_19_75, L_19_78, zt_19_78, show zTab 1 (77) (9) (19) #[59, 59, 59, 68, 77, 65, 77, 77, 62, 74, 71] (nI 18) = 75 from by decide, ↓e_iconst0, ↓e_iconst1, ↓e_bipush0, ↓e_bipush1, ↓e_sipush0, ↓e_sipush1, ↓e_ldc0, ↓e_ldc1, ↓e_ldc_w0, ↓e_ldc_w1, ↓e_ldc2, ↓e_lconst0, ↓e_lconst1, ↓e_ldc2_w0, ↓e_ldc2_w1, ↓e_iload, ↓e_iload_n, ↓e_istore, ↓e_istore_n, ↓e_lload, ↓e_lload_n, ↓e_lstore, ↓e_lstore_n, ↓e_aload, ↓e_aload_n, ↓e_astore, ↓e_astore_n, ↓e_iinc0, ↓e_iinc1, ↓e_iadd, ↓e_isub, ↓e_imul, ↓e_iand, ↓e_ior, ↓e_ixor, ↓e_ishl, ↓e_ishr, ↓e_iushr, ↓e_ladd, ↓e_lsub, ↓e_lmul, ↓e_land, ↓e_lor, ↓e_idiv, ↓e_irem, ↓e_ldiv, ↓e_lrem, ↓e_lshl, ↓e_lcmp, ↓e_i2l, ↓e_l2i, ↓e_i2b, ↓e_i2s, ↓e_dup_int, ↓e_pop_int, ↓e_dup_ref, ↓e_pop_ref, ↓e_dup2, ↓e_goto, ↓e_nop, ↓e_ifCond_eq, ↓e_if_icmp_eq, ↓e_ifCond_ne, ↓e_if_icmp_ne, ↓e_ifCond_lt, ↓e_if_icmp_lt, ↓e_ifCond_ge, ↓e_if_icmp_ge, ↓e_ifCond_gt, ↓e_if_icmp_gt, ↓e_ifCond_le, ↓e_if_icmp_le, ↓e_tab, ↓e_look, ↓e_get0, ↓e_get1, ↓e_get2, ↓e_get3, ↓e_put0, ↓e_put1, ↓e_put2, ↓e_put3, ↓e_iaload, ↓e_laload, ↓e_baload, ↓e_aaload, ↓e_iastore, ↓e_lastore, ↓e_bastore, ↓e_aastore, ↓e_alen, ↓e_new, ↓e_newarray, ↓e_anewarray, ↓e_objinit, ↓e_virt1, ↓e_virt2, ↓e_virt3, ↓e_virt4, ↓e_virt5, ↓e_virt6, ↓e_virt7, ↓e_stat0, ↓e_stat1, ↓e_stat2, ↓e_stat3, ↓e_stat4, ↓e_stat5, ↓e_stat6, ↓e_stat7, ↓e_spec1, ↓e_spec2, ↓e_spec3, ↓e_spec4, ↓e_spec5, ↓e_strlen, ↓e_charAt, ↓e_copy, ↓e_iret0, ↓e_iret1, ↓e_lret, ↓e_aret, ↓e_vret, zIsI_int, zIsL_long, zIsA_ref, zInt_int, true_and, and_true, ↓reduceIte, zGet, zSet, zSet2, zEnt, zWid, Value.category, List.map_cons, List.map_nil, List.sum_cons, List.sum_nil, List.replicate, Option.toList, Nat.reduceAdd, Nat.reduceSub, Nat.reduceMul, Nat.reduceLeDiff, Nat.reduceEqDiff, Nat.reduceLT, List.cons_append, List.nil_append, true_or, or_true, or_false, false_or, nI_ltI, nI_leI, nI_eq, nI_clamp, zIn_nI, bI_0, nI_add, nI_mul, nI_or, nI_and, nI_shl1, nI_bit, ↓pk_rem, pk_div, Nat.lt_irrefl, Nat.not_lt_zero, reduceCtorEq]; rfl
  · simp (disch := omega) only [L_19_0, zt_19_0, L_19_60, zt_19_60, L_19_63, zt_19_63, L_19_66, zt_19_66, L_19_69, zt_19_69, L_19_72, zt_19_72, L_19_75, zt_19_75, L_19_78, zt_19_78, show zTab 1 (77) (9) (19) #[59, 59, 59, 68, 77, 65, 77, 77, 62, 74, 71] (nI 19) = 72 from by decide, ↓e_iconst0, ↓e_iconst1, ↓e_bipush0, ↓e_bipush1, ↓e_sipush0, ↓e_sipush1, ↓e_ldc0, ↓e_ldc1, ↓e_ldc_w0, ↓e_ldc_w1, ↓e_ldc2, ↓e_lconst0, ↓e_lconst1, ↓e_ldc2_w0, ↓e_ldc2_w1, ↓e_iload, ↓e_iload_n, ↓e_istore, ↓e_istore_n, ↓e_lload, ↓e_lload_n, ↓e_lstore, ↓e_lstore_n, ↓e_aload, ↓e_aload_n, ↓e_astore, ↓e_astore_n, ↓e_iinc0, ↓e_iinc1, ↓e_iadd, ↓e_isub, ↓e_imul, ↓e_iand, ↓e_ior, ↓e_ixor, ↓e_ishl, ↓e_ishr, ↓e_iushr, ↓e_ladd, ↓e_lsub, ↓e_lmul, ↓e_land, ↓e_lor, ↓e_idiv, ↓e_irem, ↓e_ldiv, ↓e_lrem, ↓e_lshl, ↓e_lcmp, ↓e_i2l, ↓e_l2i, ↓e_i2b, ↓e_i2s, ↓e_dup_int, ↓e_pop_int, ↓e_dup_ref, ↓e_pop_ref, ↓e_dup2, ↓e_goto, ↓e_nop, ↓e_ifCond_eq, ↓e_if_icmp_eq, ↓e_ifCond_ne, ↓e_if_icmp_ne, ↓e_ifCond_lt, ↓e_if_icmp_lt, ↓e_ifCond_ge, ↓e_if_icmp_ge, ↓e_ifCond_gt, ↓e_if_icmp_gt, ↓e_ifCond_le, ↓e_if_icmp_le, ↓e_tab, ↓e_look, ↓e_get0, ↓e_get1, ↓e_get2, ↓e_get3, ↓e_put0, ↓e_put1, ↓e_put2, ↓e_put3, ↓e_iaload, ↓e_laload, ↓e_baload, ↓e_aaload, ↓e_iastore, ↓e_lastore, ↓e_bastore, ↓e_aastore, ↓e_alen, ↓e_new, ↓e_newarray, ↓e_anewarray, ↓e_objinit, ↓e_virt1, ↓e_virt2, ↓e_virt3, ↓e_virt4, ↓e_virt5, ↓e_virt6, ↓e_virt7, ↓e_stat0, ↓e_stat1, ↓e_stat2, ↓e_stat3, ↓e_stat4, ↓e_stat5, ↓e_stat6, ↓e_stat7, ↓e_spec1, ↓e_spec2, ↓e_spec3, ↓e_spec4, ↓e_spec5, ↓e_strlen, ↓e_charAt, ↓e_copy, ↓e_iret0, ↓e_iret1, ↓e_lret, ↓e_aret, ↓e_vret, zIsI_int, zIsL_long, zIsA_ref, zInt_int, true_and, and_true, ↓reduceIte, zGet, zSet, zSet2, zEnt, zWid, Value.category, List.map_cons, List.map_nil, List.sum_cons, List.sum_nil, List.replicate, Option.toList, Nat.reduceAdd, Nat.reduceSub, Nat.reduceMul, Nat.reduceLeDiff, Nat.reduceEqDiff, Nat.reduceLT, List.cons_append, List.nil_append, true_or, or_true, or_false, false_or, nI_ltI, nI_leI, nI_eq, nI_clamp, zIn_nI, bI_0, nI_add, nI_mul, nI_or, nI_and, nI_shl1, nI_bit, ↓pk_rem, pk_div, Nat.lt_irrefl, Nat.not_lt_zero, reduceCtorEq]; rfl
  · simp (disch := omega) only [L_19_0, zt_19_0, L_19_60, zt_19_60, L_19_63, zt_19_63, L_19_66, zt_19_66, L_19_69, zt_19_69, L_19_72, zt_19_72, L_19_75, zt_19_75, L_19_78, zt_19_78, show zTab 1 (77) (9) (19) #[59, 59, 59, 68, 77, 65, 77, 77, 62, 74, 71] (nI 21) = 78 from by decide, ↓e_iconst0, ↓e_iconst1, ↓e_bipush0, ↓e_bipush1, ↓e_sipush0, ↓e_sipush1, ↓e_ldc0, ↓e_ldc1, ↓e_ldc_w0, ↓e_ldc_w1, ↓e_ldc2, ↓e_lconst0, ↓e_lconst1, ↓e_ldc2_w0, ↓e_ldc2_w1, ↓e_iload, ↓e_iload_n, ↓e_istore, ↓e_istore_n, ↓e_lload, ↓e_lload_n, ↓e_lstore, ↓e_lstore_n, ↓e_aload, ↓e_aload_n, ↓e_astore, ↓e_astore_n, ↓e_iinc0, ↓e_iinc1, ↓e_iadd, ↓e_isub, ↓e_imul, ↓e_iand, ↓e_ior, ↓e_ixor, ↓e_ishl, ↓e_ishr, ↓e_iushr, ↓e_ladd, ↓e_lsub, ↓e_lmul, ↓e_land, ↓e_lor, ↓e_idiv, ↓e_irem, ↓e_ldiv, ↓e_lrem, ↓e_lshl, ↓e_lcmp, ↓e_i2l, ↓e_l2i, ↓e_i2b, ↓e_i2s, ↓e_dup_int, ↓e_pop_int, ↓e_dup_ref, ↓e_pop_ref, ↓e_dup2, ↓e_goto, ↓e_nop, ↓e_ifCond_eq, ↓e_if_icmp_eq, ↓e_ifCond_ne, ↓e_if_icmp_ne, ↓e_ifCond_lt, ↓e_if_icmp_lt, ↓e_ifCond_ge, ↓e_if_icmp_ge, ↓e_ifCond_gt, ↓e_if_icmp_gt, ↓e_ifCond_le, ↓e_if_icmp_le, ↓e_tab, ↓e_look, ↓e_get0, ↓e_get1, ↓e_get2, ↓e_get3, ↓e_put0, ↓e_put1, ↓e_put2, ↓e_put3, ↓e_iaload, ↓e_laload, ↓e_baload, ↓e_aaload, ↓e_iastore, ↓e_lastore, ↓e_bastore, ↓e_aastore, ↓e_alen, ↓e_new, ↓e_newarray, ↓e_anewarray, ↓e_objinit, ↓e_virt1, ↓e_virt2, ↓e_virt3, ↓e_virt4, ↓e_virt5, ↓e_virt6, ↓e_virt7, ↓e_stat0, ↓e_stat1, ↓e_stat2, ↓e_stat3, ↓e_stat4, ↓e_stat5, ↓e_stat6, ↓e_stat7, ↓e_spec1, ↓e_spec2, ↓e_spec3, ↓e_spec4, ↓e_spec5, ↓e_strlen, ↓e_charAt, ↓e_copy, ↓e_iret0, ↓e_iret1, ↓e_lret, ↓e_aret, ↓e_vret, zIsI_int, zIsL_long, zIsA_ref, zInt_int, true_and, and_true, ↓reduceIte, zGet, zSet, zSet2, zEnt, zWid, Value.category, List.map_cons, List.map_nil, List.sum_cons, List.sum_nil, List.replicate, Option.toList, Nat.reduceAdd, Nat.reduceSub, Nat.reduceMul, Nat.reduceLeDiff, Nat.reduceEqDiff, Nat.reduceLT, List.cons_append, List.nil_append, true_or, or_true, or_false, false_or, nI_ltI, nI_leI, nI_eq, nI_clamp, zIn_nI, bI_0, nI_add, nI_mul, nI_or, nI_and, nI_shl1, nI_bit, ↓pk_rem, pk_div, Nat.lt_irrefl, Nat.not_lt_zero, reduceCtorEq]; rfl
def stU (σ : MS) (u N k : Nat) : MS := setI (setI (setI (setI (setI σ u 1 (nI (N + 1))) (u + 1) N (nI k)) (u + 2) N (-nI 1)) (u + 3) N (-nI 1)) (u + 4) N (nI (N + 1))
theorem RDg.new (X : RDg σ a u r B n T A S) (w k : Nat) (hau : a + 11 < u ∨ u + 4 < a) (ha : a + 11 < 98) (hu : u + 4 < 98) (hr : 142 < r) : RDg (stU σ u S.1.1 k) a u r B n T A ((S.add w k none none).1, S.2) ∧ FD u r σ (stU σ u S.1.1 k) := by
  have f : Ag (fun b => u ≤ b ∧ b ≤ u + 4) σ (stU σ u S.1.1 k) := ((((Ag.rf.setI ⟨by omega, by omega⟩).setI ⟨by omega, by omega⟩).setI ⟨by omega, by omega⟩).setI ⟨by omega, by omega⟩).setI ⟨by omega, by omega⟩
  have e1 : ∀ i, sI (stU σ u S.1.1 k) (u + 1) i = if i = S.1.1 then nI k else sI σ (u + 1) i := fun i => by
    unfold stU
    rw [sI_setI, if_neg (by omega), sI_setI, if_neg (by omega), sI_setI, if_neg (by omega), sI_setI]
    by_cases h : i = S.1.1
    · rw [if_pos ⟨rfl, h⟩, if_pos h]
    · rw [if_neg (fun hh => h hh.2), if_neg h, sI_setI, if_neg (by omega)]
  have e2 : ∀ i, sI (stU σ u S.1.1 k) (u + 2) i = if i = S.1.1 then -nI 1 else sI σ (u + 2) i := fun i => by
    unfold stU
    rw [sI_setI, if_neg (by omega), sI_setI, if_neg (by omega), sI_setI]
    by_cases h : i = S.1.1
    · rw [if_pos ⟨rfl, h⟩, if_pos h]
    · rw [if_neg (fun hh => h hh.2), if_neg h, sI_setI, if_neg (by omega), sI_setI, if_neg (by omega)]
  have e3 : ∀ i, sI (stU σ u S.1.1 k) (u + 3) i = if i = S.1.1 then -nI 1 else sI σ (u + 3) i := fun i => by
    unfold stU
    rw [sI_setI, if_neg (by omega), sI_setI]
    by_cases h : i = S.1.1
    · rw [if_pos ⟨rfl, h⟩, if_pos h]
    · rw [if_neg (fun hh => h hh.2), if_neg h, sI_setI, if_neg (by omega), sI_setI, if_neg (by omega), sI_setI, if_neg (by omega)]
  have e4 : ∀ i, sI (stU σ u S.1.1 k) (u + 4) i = if i = S.1.1 then nI (S.1.1 + 1) else sI σ (u + 4) i := fun i => by
    unfold stU
    rw [sI_setI]
    by_cases h : i = S.1.1
    · rw [if_pos ⟨rfl, h⟩, if_pos h]
    · rw [if_neg (fun hh => h hh.2), if_neg h, sI_setI, if_neg (by omega), sI_setI, if_neg (by omega), sI_setI, if_neg (by omega), sI_setI, if_neg (by omega)]
  have e0 : sI (stU σ u S.1.1 k) u 1 = nI (S.1.1 + 1) := by
    unfold stU
    rw [sI_setI, if_neg (by omega), sI_setI, if_neg (by omega), sI_setI, if_neg (by omega), sI_setI, if_neg (by omega), sI_setI, if_pos ⟨rfl, rfl⟩]
  have e00 : sI (stU σ u S.1.1 k) u 0 = nI 1 := by
    unfold stU
    rw [sI_setI, if_neg (by omega), sI_setI, if_neg (by omega), sI_setI, if_neg (by omega), sI_setI, if_neg (by omega), sI_setI, if_neg (by omega)]
    exact X.u0
  have i : ∀ c j, (c < u ∨ u + 4 < c) → sI (stU σ u S.1.1 k) c j = sI σ c j := fun c j hc => f.I (by omega) j
  refine ⟨RDg.mk (X.x.ag f (by omega) (by omega) (by omega)) (X.h.ag f (fun b h1 h2 => by omega)) (X.d.keep (fun _ => rfl) (fun _ => rfl)) X.k X.k1 X.r0 X.r1 X.r2 X.r4 e00 e0 (fun j hj => ?_) (fun j hj => ?_) (fun j hj => ?_) (fun j hj => ?_) ((i _ _ (by omega)).trans X.w) (fun j hj => (i _ _ (by omega)).trans (X.o j hj)) ((i _ _ (by omega)).trans X.z8) ((i _ _ (by omega)).trans X.z9), f.mono (fun b hb => .inr (.inl hb)), i _ _ (by omega)⟩
  · have hj : j < S.1.1 + 1 := hj
    show _ = nI (upF S.1.2.2.1 S.1.1 (k, none, none, S.1.1 + 1) j).1
    rw [e1]
    by_cases h : j = S.1.1
    · rw [if_pos h, h, upF_s]
    · rw [if_neg h, upF_n _ _ h]; exact X.c1 j (by omega)
  · have hj : j < S.1.1 + 1 := hj
    show _ = oI (upF S.1.2.2.1 S.1.1 (k, none, none, S.1.1 + 1) j).2.1
    rw [e2]
    by_cases h : j = S.1.1
    · rw [if_pos h, h, upF_s]; rfl
    · rw [if_neg h, upF_n _ _ h]; exact X.c2 j (by omega)
  · have hj : j < S.1.1 + 1 := hj
    show _ = oI (upF S.1.2.2.1 S.1.1 (k, none, none, S.1.1 + 1) j).2.2.1
    rw [e3]
    by_cases h : j = S.1.1
    · rw [if_pos h, h, upF_s]; rfl
    · rw [if_neg h, upF_n _ _ h]; exact X.c3 j (by omega)
  · have hj : j < S.1.1 + 1 := hj
    show _ = nI (upF S.1.2.2.1 S.1.1 (k, none, none, S.1.1 + 1) j).2.2.2
    rw [e4]
    by_cases h : j = S.1.1
    · rw [if_pos h, h, upF_s]
    · rw [if_neg h, upF_n _ _ h]; exact X.c4 j (by omega)
theorem RDg.pc1 {w k v : Nat} {b : Option Nat} (X : RDg σ a u r B n T A ((S.add w k none b).1, S.2)) (hau : a + 11 < u ∨ u + 4 < a) (ha : a + 11 < 98) (hu : u + 4 < 98) (hr : 142 < r) : RDg (setI σ (u + 2) S.1.1 (nI v)) a u r B n T A ((S.add w k (some v) b).1, S.2) := by
  obtain ⟨q1, q2, q3, q4, q5, q6⟩ := X.keepU (c := u + 2) (i := S.1.1) (v := nI v) ⟨by omega, by omega⟩ hau ha hu hr
  have y : ∀ c j, c ≠ u + 2 → sI (setI σ (u + 2) S.1.1 (nI v)) c j = sI σ c j := fun c j hc => by rw [sI_setI, if_neg (fun h => hc h.1)]
  refine RDg.mk q1 q2 q3 X.k X.k1 X.r0 X.r1 X.r2 X.r4 ((y _ _ (by omega)).trans X.u0) ((y _ _ (by omega)).trans X.u1) (fun j hj => ?_) (fun j hj => ?_) (fun j hj => ?_) (fun j hj => ?_) ((q4 _).trans X.w) (fun j hj => (q5 _).trans (X.o j hj)) ((q6 _).trans X.z8) ((q6 _).trans X.z9)
  · refine (y _ _ (by omega)).trans ((X.c1 j hj).trans ?_)
    show nI (upF S.1.2.2.1 S.1.1 (k, none, b, S.1.1 + 1) j).1 = nI (upF S.1.2.2.1 S.1.1 (k, some v, b, S.1.1 + 1) j).1
    by_cases h : j = S.1.1
    · rw [h, upF_s, upF_s]
    · rw [upF_n _ _ h, upF_n _ _ h]
  · show _ = oI (upF S.1.2.2.1 S.1.1 (k, some v, b, S.1.1 + 1) j).2.1
    rw [sI_setI]
    by_cases h : j = S.1.1
    · rw [if_pos ⟨rfl, h⟩, h, upF_s]; rfl
    · rw [if_neg (fun hh => h hh.2), upF_n _ _ h]
      refine (X.c2 j hj).trans ?_
      show oI (upF S.1.2.2.1 S.1.1 (k, none, b, S.1.1 + 1) j).2.1 = _
      rw [upF_n _ _ h]
  · refine (y _ _ (by omega)).trans ((X.c3 j hj).trans ?_)
    show oI (upF S.1.2.2.1 S.1.1 (k, none, b, S.1.1 + 1) j).2.2.1 = oI (upF S.1.2.2.1 S.1.1 (k, some v, b, S.1.1 + 1) j).2.2.1
    by_cases h : j = S.1.1
    · rw [h, upF_s, upF_s]
    · rw [upF_n _ _ h, upF_n _ _ h]
  · refine (y _ _ (by omega)).trans ((X.c4 j hj).trans ?_)
    show nI (upF S.1.2.2.1 S.1.1 (k, none, b, S.1.1 + 1) j).2.2.2 = nI (upF S.1.2.2.1 S.1.1 (k, some v, b, S.1.1 + 1) j).2.2.2
    by_cases h : j = S.1.1
    · rw [h, upF_s, upF_s]
    · rw [upF_n _ _ h, upF_n _ _ h]
theorem RDg.pc2 {w k v : Nat} {b : Option Nat} (X : RDg σ a u r B n T A ((S.add w k b none).1, S.2)) (hau : a + 11 < u ∨ u + 4 < a) (ha : a + 11 < 98) (hu : u + 4 < 98) (hr : 142 < r) : RDg (setI σ (u + 3) S.1.1 (nI v)) a u r B n T A ((S.add w k b (some v)).1, S.2) := by
  obtain ⟨q1, q2, q3, q4, q5, q6⟩ := X.keepU (c := u + 3) (i := S.1.1) (v := nI v) ⟨by omega, by omega⟩ hau ha hu hr
  have y : ∀ c j, c ≠ u + 3 → sI (setI σ (u + 3) S.1.1 (nI v)) c j = sI σ c j := fun c j hc => by rw [sI_setI, if_neg (fun h => hc h.1)]
  refine RDg.mk q1 q2 q3 X.k X.k1 X.r0 X.r1 X.r2 X.r4 ((y _ _ (by omega)).trans X.u0) ((y _ _ (by omega)).trans X.u1) (fun j hj => ?_) (fun j hj => ?_) (fun j hj => ?_) (fun j hj => ?_) ((q4 _).trans X.w) (fun j hj => (q5 _).trans (X.o j hj)) ((q6 _).trans X.z8) ((q6 _).trans X.z9)
  · refine (y _ _ (by omega)).trans ((X.c1 j hj).trans ?_)
    show nI (upF S.1.2.2.1 S.1.1 (k, b, none, S.1.1 + 1) j).1 = nI (upF S.1.2.2.1 S.1.1 (k, b, some v, S.1.1 + 1) j).1
    by_cases h : j = S.1.1
    · rw [h, upF_s, upF_s]
    · rw [upF_n _ _ h, upF_n _ _ h]
  · refine (y _ _ (by omega)).trans ((X.c2 j hj).trans ?_)
    show oI (upF S.1.2.2.1 S.1.1 (k, b, none, S.1.1 + 1) j).2.1 = oI (upF S.1.2.2.1 S.1.1 (k, b, some v, S.1.1 + 1) j).2.1
    by_cases h : j = S.1.1
    · rw [h, upF_s, upF_s]
    · rw [upF_n _ _ h, upF_n _ _ h]
  · show _ = oI (upF S.1.2.2.1 S.1.1 (k, b, some v, S.1.1 + 1) j).2.2.1
    rw [sI_setI]
    by_cases h : j = S.1.1
    · rw [if_pos ⟨rfl, h⟩, h, upF_s]; rfl
    · rw [if_neg (fun hh => h hh.2), upF_n _ _ h]
      refine (X.c3 j hj).trans ?_
      show oI (upF S.1.2.2.1 S.1.1 (k, b, none, S.1.1 + 1) j).2.2.1 = _
      rw [upF_n _ _ h]
  · refine (y _ _ (by omega)).trans ((X.c4 j hj).trans ?_)
    show nI (upF S.1.2.2.1 S.1.1 (k, b, none, S.1.1 + 1) j).2.2.2 = nI (upF S.1.2.2.1 S.1.1 (k, b, some v, S.1.1 + 1) j).2.2.2
    by_cases h : j = S.1.1
    · rw [h, upF_s, upF_s]
    · rw [upF_n _ _ h, upF_n _ _ h]
/-- the pieces of a step -/
def PPost (σ : MS) (a u r : Nat) (B : Nat → Nat) (n : Nat) (A : Ofc) (S : Ps) (w k : Nat) (x : Er ⊕ (Option Nat × Option Nat × Tk)) (τ : MS) : Prop := FD u r σ τ ∧ match x with
  | .inl e => sI τ 98 8 = nI e.1 ∧ sI τ 98 9 = nI e.2
  | .inr y => RDg τ a u r B n y.2.2 A ((S.add w k y.1 y.2.1).1, S.2)
theorem piece_v {c : Nat} (H : TkOk B n T) (O : OfcOk A) {x : Nat × Tk} (h : piece B n A c T = .inr x) : x.1 < 10000 := by
  have c20 := cells20 O
  have p8 := O.p8
  have c4 := O.c4
  have kn : ∀ lo hi, kN B n lo hi T (fun v T => (.inr (v, T) : Er ⊕ (Nat × Tk))) = .inr x → x.1 < 10000 := fun lo hi h => by
    unfold kN at h
    split at h
    · rename_i h3
      split at h
      · cases h; exact tv_lt H h3
      · cases h
    · cases h
  unfold piece at h
  split at h
  · split at h
    · split at h
      · cases h
      · rename_i p hp
        cases h
        have := (ff_is hp).1
        show p < 10000
        omega
    · cases h
  · split at h
    · split at h
      · split at h
        · cases h
        · rename_i p hp
          cases h
          have := (ff_is hp).1
          show p < 10000
          omega
      · cases h
    · split at h
      · exact kn _ _ h
      · split at h
        · exact kn _ _ h
        · split at h
          · split at h
            · rename_i h4
              cases h
              have := isSg_lt (H.sg h4.1)
              show B T.2.1 < 10000
              omega
            · cases h
          · exact kn _ _ h
theorem piece_n {c : Nat} {x : Nat × Tk} (h : piece B n A c T = .inr x) : x.2 = nx B n T := by
  have kn : ∀ lo hi, kN B n lo hi T (fun v T => (.inr (v, T) : Er ⊕ (Nat × Tk))) = .inr x → x.2 = nx B n T := fun lo hi h => by
    unfold kN at h
    split at h
    · split at h
      · cases h; rfl
      · cases h
    · cases h
  unfold piece at h
  split at h
  · split at h
    · split at h
      · cases h
      · cases h; rfl
    · cases h
  · split at h
    · split at h
      · split at h
        · cases h
        · cases h; rfl
      · cases h
    · split at h
      · exact kn _ _ h
      · split at h
        · exact kn _ _ h
        · split at h
          · split at h
            · cases h; rfl
            · cases h
          · exact kn _ _ h
theorem c_readPieces (X : RDg σ a u r B n T A S) (H : TkOk B n T) (h9 : n ≤ 900) (O : OfcOk A) (N : NmOk A) (hN : S.1.1 < 30) (w : Nat) {k : Nat} (hk : k < 22) (hau : a + 11 < u ∨ u + 4 < a) (ha : a + 11 < 98) (hu : u + 4 < 98) (hr : 142 < r) :
   ∃ τ, PPost σ a u r B n A S w k (pieces B n A (pcs k) T) τ ∧ ∀ K, zC (d + 5) 20 [.ref r, .int (nI k), .ref (zStr + pix k)] σ K = K (some (.int (bI (okR (pieces B n A (pcs k) T))))) τ := by
  obtain ⟨X1, f1⟩ := X.new w k hau ha hu hr
  obtain ⟨hs, hp9⟩ := pix_pcs k hk
  have ka : zStr ≤ zStr + pix k := Nat.le_add_right _ _
  have kb : zStr + pix k < zStr + 9 := Nat.add_lt_add_left hp9 _
  have kc : zStr + pix k - zStr = pix k := Nat.add_sub_cancel_left ..
  have D := X.d
  have ent : ∀ K, zC (d + 5) 20 [.ref r, .int (nI k), .ref (zStr + pix k)] σ K = zX (d + 4) 20 90 [.ref r, .int (nI k), .ref (zStr + pix k), .int (nI S.1.1), .int (nI 0), .null] [] (stU σ u S.1.1 k) K := fun K => by
    have q1 : ∀ v, sI (setI σ u 1 v) u 1 = v := fun v => by rw [sI_setI, if_pos ⟨rfl, rfl⟩]
    have q2 : ∀ v x y z, sI (setI (setI (setI (setI σ u 1 v) (u + 1) S.1.1 x) (u + 2) S.1.1 y) (u + 3) S.1.1 z) u 1 = v := fun v x y z => by rw [sI_setI, if_neg (by omega), sI_setI, if_neg (by omega), sI_setI, if_neg (by omega), q1]
    rw [E_20]
    unfold stU
    simp (disch := omega) only [L_20_0, zt_20_0, L_20_28, zt_20_28, ↓e_iconst0, ↓e_iconst1, ↓e_bipush0, ↓e_bipush1, ↓e_sipush0, ↓e_sipush1, ↓e_ldc0, ↓e_ldc1, ↓e_ldc_w0, ↓e_ldc_w1, ↓e_ldc2, ↓e_lconst0, ↓e_lconst1, ↓e_ldc2_w0, ↓e_ldc2_w1, ↓e_iload, ↓e_iload_n, ↓e_istore, ↓e_istore_n, ↓e_lload, ↓e_lload_n, ↓e_lstore, ↓e_lstore_n, ↓e_aload, ↓e_aload_n, ↓e_astore, ↓e_astore_n, ↓e_iinc0, ↓e_iinc1, ↓e_iadd, ↓e_isub, ↓e_imul, ↓e_iand, ↓e_ior, ↓e_ixor, ↓e_ishl, ↓e_ishr, ↓e_iushr, ↓e_ladd, ↓e_lsub, ↓e_lmul, ↓e_land, ↓e_lor, ↓e_idiv, ↓e_irem, ↓e_ldiv, ↓e_lrem, ↓e_lshl, ↓e_lcmp, ↓e_i2l, ↓e_l2i, ↓e_i2b, ↓e_i2s, ↓e_dup_int, ↓e_pop_int, ↓e_dup_ref, ↓e_pop_ref, ↓e_dup2, ↓e_goto, ↓e_nop, ↓e_ifCond_eq, ↓e_if_icmp_eq, ↓e_ifCond_ne, ↓e_if_icmp_ne, ↓e_ifCond_lt, ↓e_if_icmp_lt, ↓e_ifCond_ge, ↓e_if_icmp_ge, ↓e_ifCond_gt, ↓e_if_icmp_gt, ↓e_ifCond_le, ↓e_if_icmp_le, ↓e_tab, ↓e_look, ↓e_get0, ↓e_get1, ↓e_get2, ↓e_get3, ↓e_put0, ↓e_put1, ↓e_put2, ↓e_put3, ↓e_iaload, ↓e_laload, ↓e_baload, ↓e_aaload, ↓e_iastore, ↓e_lastore, ↓e_bastore, ↓e_aastore, ↓e_alen, ↓e_new, ↓e_newarray, ↓e_anewarray, ↓e_objinit, ↓e_virt1, ↓e_virt2, ↓e_virt3, ↓e_virt4, ↓e_virt5, ↓e_virt6, ↓e_virt7, ↓e_stat0, ↓e_stat1, ↓e_stat2, ↓e_stat3, ↓e_stat4, ↓e_stat5, ↓e_stat6, ↓e_stat7, ↓e_spec1, ↓e_spec2, ↓e_spec3, ↓e_spec4, ↓e_spec5, ↓e_strlen, ↓e_charAt, ↓e_copy, ↓e_iret0, ↓e_iret1, ↓e_lret, ↓e_aret, ↓e_vret, zIsI_int, zIsL_long, zIsA_ref, zInt_int, true_and, and_true, ↓reduceIte, zGet, zSet, zSet2, zEnt, zWid, Value.category, List.map_cons, List.map_nil, List.sum_cons, List.sum_nil, List.replicate, Option.toList, Nat.reduceAdd, Nat.reduceSub, Nat.reduceMul, Nat.reduceLeDiff, Nat.reduceEqDiff, Nat.reduceLT, List.cons_append, List.nil_append, true_or, or_true, or_false, false_or, nI_ltI, nI_leI, nI_eq, nI_clamp, zIn_nI, bI_0, nI_add, nI_mul, nI_or, nI_and, nI_shl1, nI_bit, ↓pk_rem, pk_div, Nat.lt_irrefl, Nat.not_lt_zero, reduceCtorEq, X.k, X.r2, D.k, D.r2, D.r3, D.r4, D.r5, D.k1, D.k2, D.k3, D.k4, X.u1, sK_setI, sR_setI, sL_setI, q1, q2, hN]
  have FDta : ∀ {σ τ : MS}, TaF σ τ → FD u r σ τ := fun h => FD.ta h
  generalize hσ1 : stU σ u S.1.1 k = σ1 at *
  have hlen : (zText.getD (pix k) []).length ≤ 2 := by
    rw [hs]
    rcases pcs_is k with h | ⟨c, h, _⟩ | ⟨c, e, h, _, _⟩ <;> rw [h] <;> simp
  -- one piece
  have one : ∀ (c i : Nat) (ρ : MS) (V : Tk) (Q : Ps) (x5 : Value), pOK c → (zText.getD (pix k) []).getD i 0 = c → i < (zText.getD (pix k) []).length → i < 2 → RDg ρ a u r B n V A Q → TkOk B n V → ∀ K, zX (d + 4) 20 90 [.ref r, .int (nI k), .ref (zStr + pix k), .int (nI S.1.1), .int (nI i), x5] [] ρ K = (match piece B n A c V with
      | .inl e => K (some (.int (nI 0))) (flt ρ e.1 e.2)
      | .inr y => zX (d + 4) 20 119 [.ref r, .int (nI k), .ref (zStr + pix k), .int (nI S.1.1), .int (nI i), .int (nI y.1)] [] ρ K) := fun c i ρ V Q x5 hc hch hl hi X HV K => by
    have pc := fun (K : Option Value → MS → Prop) => c_piece (d := d) (K := K) X HV O N hc
    rw [L_20_90, zt_20_90]
    cases hp : piece B n A c V with
    | inl e =>
      simp (disch := omega) only [↓e_iconst0, ↓e_iconst1, ↓e_bipush0, ↓e_bipush1, ↓e_sipush0, ↓e_sipush1, ↓e_ldc0, ↓e_ldc1, ↓e_ldc_w0, ↓e_ldc_w1, ↓e_ldc2, ↓e_lconst0, ↓e_lconst1, ↓e_ldc2_w0, ↓e_ldc2_w1, ↓e_iload, ↓e_iload_n, ↓e_istore, ↓e_istore_n, ↓e_lload, ↓e_lload_n, ↓e_lstore, ↓e_lstore_n, ↓e_aload, ↓e_aload_n, ↓e_astore, ↓e_astore_n, ↓e_iinc0, ↓e_iinc1, ↓e_iadd, ↓e_isub, ↓e_imul, ↓e_iand, ↓e_ior, ↓e_ixor, ↓e_ishl, ↓e_ishr, ↓e_iushr, ↓e_ladd, ↓e_lsub, ↓e_lmul, ↓e_land, ↓e_lor, ↓e_idiv, ↓e_irem, ↓e_ldiv, ↓e_lrem, ↓e_lshl, ↓e_lcmp, ↓e_i2l, ↓e_l2i, ↓e_i2b, ↓e_i2s, ↓e_dup_int, ↓e_pop_int, ↓e_dup_ref, ↓e_pop_ref, ↓e_dup2, ↓e_goto, ↓e_nop, ↓e_ifCond_eq, ↓e_if_icmp_eq, ↓e_ifCond_ne, ↓e_if_icmp_ne, ↓e_ifCond_lt, ↓e_if_icmp_lt, ↓e_ifCond_ge, ↓e_if_icmp_ge, ↓e_ifCond_gt, ↓e_if_icmp_gt, ↓e_ifCond_le, ↓e_if_icmp_le, ↓e_tab, ↓e_look, ↓e_get0, ↓e_get1, ↓e_get2, ↓e_get3, ↓e_put0, ↓e_put1, ↓e_put2, ↓e_put3, ↓e_iaload, ↓e_laload, ↓e_baload, ↓e_aaload, ↓e_iastore, ↓e_lastore, ↓e_bastore, ↓e_aastore, ↓e_alen, ↓e_new, ↓e_newarray, ↓e_anewarray, ↓e_objinit, ↓e_virt1, ↓e_virt2, ↓e_virt3, ↓e_virt4, ↓e_virt5, ↓e_virt6, ↓e_virt7, ↓e_stat0, ↓e_stat1, ↓e_stat2, ↓e_stat3, ↓e_stat4, ↓e_stat5, ↓e_stat6, ↓e_stat7, ↓e_spec1, ↓e_spec2, ↓e_spec3, ↓e_spec4, ↓e_spec5, ↓e_strlen, ↓e_charAt, ↓e_copy, ↓e_iret0, ↓e_iret1, ↓e_lret, ↓e_aret, ↓e_vret, zIsI_int, zIsL_long, zIsA_ref, zInt_int, true_and, and_true, ↓reduceIte, zGet, zSet, zSet2, zEnt, zWid, Value.category, List.map_cons, List.map_nil, List.sum_cons, List.sum_nil, List.replicate, Option.toList, Nat.reduceAdd, Nat.reduceSub, Nat.reduceMul, Nat.reduceLeDiff, Nat.reduceEqDiff, Nat.reduceLT, List.cons_append, List.nil_append, true_or, or_true, or_false, false_or, nI_ltI, nI_leI, nI_eq, nI_clamp, zIn_nI, bI_0, nI_add, nI_mul, nI_or, nI_and, nI_shl1, nI_bit, ↓pk_rem, pk_div, Nat.lt_irrefl, Nat.not_lt_zero, reduceCtorEq, ka, kb, kc, hl, hch, X.k, ↓pc, hp]
    | inr y =>
      have yv := piece_v HV O hp
      have ny : ¬ nI y.1 = -nI 1 := oI_some_ne (k := y.1) (by omega)
      simp (disch := omega) only [↓e_iconst0, ↓e_iconst1, ↓e_bipush0, ↓e_bipush1, ↓e_sipush0, ↓e_sipush1, ↓e_ldc0, ↓e_ldc1, ↓e_ldc_w0, ↓e_ldc_w1, ↓e_ldc2, ↓e_lconst0, ↓e_lconst1, ↓e_ldc2_w0, ↓e_ldc2_w1, ↓e_iload, ↓e_iload_n, ↓e_istore, ↓e_istore_n, ↓e_lload, ↓e_lload_n, ↓e_lstore, ↓e_lstore_n, ↓e_aload, ↓e_aload_n, ↓e_astore, ↓e_astore_n, ↓e_iinc0, ↓e_iinc1, ↓e_iadd, ↓e_isub, ↓e_imul, ↓e_iand, ↓e_ior, ↓e_ixor, ↓e_ishl, ↓e_ishr, ↓e_iushr, ↓e_ladd, ↓e_lsub, ↓e_lmul, ↓e_land, ↓e_lor, ↓e_idiv, ↓e_irem, ↓e_ldiv, ↓e_lrem, ↓e_lshl, ↓e_lcmp, ↓e_i2l, ↓e_l2i, ↓e_i2b, ↓e_i2s, ↓e_dup_int, ↓e_pop_int, ↓e_dup_ref, ↓e_pop_ref, ↓e_dup2, ↓e_goto, ↓e_nop, ↓e_ifCond_eq, ↓e_if_icmp_eq, ↓e_ifCond_ne, ↓e_if_icmp_ne, ↓e_ifCond_lt, ↓e_if_icmp_lt, ↓e_ifCond_ge, ↓e_if_icmp_ge, ↓e_ifCond_gt, ↓e_if_icmp_gt, ↓e_ifCond_le, ↓e_if_icmp_le, ↓e_tab, ↓e_look, ↓e_get0, ↓e_get1, ↓e_get2, ↓e_get3, ↓e_put0, ↓e_put1, ↓e_put2, ↓e_put3, ↓e_iaload, ↓e_laload, ↓e_baload, ↓e_aaload, ↓e_iastore, ↓e_lastore, ↓e_bastore, ↓e_aastore, ↓e_alen, ↓e_new, ↓e_newarray, ↓e_anewarray, ↓e_objinit, ↓e_virt1, ↓e_virt2, ↓e_virt3, ↓e_virt4, ↓e_virt5, ↓e_virt6, ↓e_virt7, ↓e_stat0, ↓e_stat1, ↓e_stat2, ↓e_stat3, ↓e_stat4, ↓e_stat5, ↓e_stat6, ↓e_stat7, ↓e_spec1, ↓e_spec2, ↓e_spec3, ↓e_spec4, ↓e_spec5, ↓e_strlen, ↓e_charAt, ↓e_copy, ↓e_iret0, ↓e_iret1, ↓e_lret, ↓e_aret, ↓e_vret, zIsI_int, zIsL_long, zIsA_ref, zInt_int, true_and, and_true, ↓reduceIte, zGet, zSet, zSet2, zEnt, zWid, Value.category, List.map_cons, List.map_nil, List.sum_cons, List.sum_nil, List.replicate, Option.toList, Nat.reduceAdd, Nat.reduceSub, Nat.reduceMul, Nat.reduceLeDiff, Nat.reduceEqDiff, Nat.reduceLT, List.cons_append, List.nil_append, true_or, or_true, or_false, false_or, nI_ltI, nI_leI, nI_eq, nI_clamp, zIn_nI, bI_0, nI_add, nI_mul, nI_or, nI_and, nI_shl1, nI_bit, ↓pk_rem, pk_div, Nat.lt_irrefl, Nat.not_lt_zero, reduceCtorEq, ka, kb, kc, hl, hch, X.k, ↓pc, hp, ny]
  have fin : ∀ (i : Nat) (ρ : MS) (x5 : Value), i = (zText.getD (pix k) []).length → i < 3 → ∀ K, zX (d + 4) 20 90 [.ref r, .int (nI k), .ref (zStr + pix k), .int (nI S.1.1), .int (nI i), x5] [] ρ K = K (some (.int (nI 1))) ρ := fun i ρ x5 hl hi K => by
    have hl2 : ¬ i < (zText.getD (pix k) []).length := by omega
    rw [L_20_90, zt_20_90]
    simp (disch := omega) only [L_20_162, zt_20_162, ↓e_iconst0, ↓e_iconst1, ↓e_bipush0, ↓e_bipush1, ↓e_sipush0, ↓e_sipush1, ↓e_ldc0, ↓e_ldc1, ↓e_ldc_w0, ↓e_ldc_w1, ↓e_ldc2, ↓e_lconst0, ↓e_lconst1, ↓e_ldc2_w0, ↓e_ldc2_w1, ↓e_iload, ↓e_iload_n, ↓e_istore, ↓e_istore_n, ↓e_lload, ↓e_lload_n, ↓e_lstore, ↓e_lstore_n, ↓e_aload, ↓e_aload_n, ↓e_astore, ↓e_astore_n, ↓e_iinc0, ↓e_iinc1, ↓e_iadd, ↓e_isub, ↓e_imul, ↓e_iand, ↓e_ior, ↓e_ixor, ↓e_ishl, ↓e_ishr, ↓e_iushr, ↓e_ladd, ↓e_lsub, ↓e_lmul, ↓e_land, ↓e_lor, ↓e_idiv, ↓e_irem, ↓e_ldiv, ↓e_lrem, ↓e_lshl, ↓e_lcmp, ↓e_i2l, ↓e_l2i, ↓e_i2b, ↓e_i2s, ↓e_dup_int, ↓e_pop_int, ↓e_dup_ref, ↓e_pop_ref, ↓e_dup2, ↓e_goto, ↓e_nop, ↓e_ifCond_eq, ↓e_if_icmp_eq, ↓e_ifCond_ne, ↓e_if_icmp_ne, ↓e_ifCond_lt, ↓e_if_icmp_lt, ↓e_ifCond_ge, ↓e_if_icmp_ge, ↓e_ifCond_gt, ↓e_if_icmp_gt, ↓e_ifCond_le, ↓e_if_icmp_le, ↓e_tab, ↓e_look, ↓e_get0, ↓e_get1, ↓e_get2, ↓e_get3, ↓e_put0, ↓e_put1, ↓e_put2, ↓e_put3, ↓e_iaload, ↓e_laload, ↓e_baload, ↓e_aaload, ↓e_iastore, ↓e_lastore, ↓e_bastore, ↓e_aastore, ↓e_alen, ↓e_new, ↓e_newarray, ↓e_anewarray, ↓e_objinit, ↓e_virt1, ↓e_virt2, ↓e_virt3, ↓e_virt4, ↓e_virt5, ↓e_virt6, ↓e_virt7, ↓e_stat0, ↓e_stat1, ↓e_stat2, ↓e_stat3, ↓e_stat4, ↓e_stat5, ↓e_stat6, ↓e_stat7, ↓e_spec1, ↓e_spec2, ↓e_spec3, ↓e_spec4, ↓e_spec5, ↓e_strlen, ↓e_charAt, ↓e_copy, ↓e_iret0, ↓e_iret1, ↓e_lret, ↓e_aret, ↓e_vret, zIsI_int, zIsL_long, zIsA_ref, zInt_int, true_and, and_true, ↓reduceIte, zGet, zSet, zSet2, zEnt, zWid, Value.category, List.map_cons, List.map_nil, List.sum_cons, List.sum_nil, List.replicate, Option.toList, Nat.reduceAdd, Nat.reduceSub, Nat.reduceMul, Nat.reduceLeDiff, Nat.reduceEqDiff, Nat.reduceLT, List.cons_append, List.nil_append, true_or, or_true, or_false, false_or, nI_ltI, nI_leI, nI_eq, nI_clamp, zIn_nI, bI_0, nI_add, nI_mul, nI_or, nI_and, nI_shl1, nI_bit, ↓pk_rem, pk_div, Nat.lt_irrefl, Nat.not_lt_zero, reduceCtorEq, ka, kb, kc, ← hl, Nat.lt_irrefl]
  have D1 := X1.d
  have mid0 : ∀ (v : Nat) (ρ : MS) (V : Tk) (Q : Ps), RDg ρ a u r B n V A Q → ∀ {τ}, RTk (setI ρ (u + 2) S.1.1 (nI v)) B n V → (∀ K, zC (d + 4) 111 [.ref 98] (setI ρ (u + 2) S.1.1 (nI v)) K = K none τ) → ∀ K, zX (d + 4) 20 119 [.ref r, .int (nI k), .ref (zStr + pix k), .int (nI S.1.1), .int (nI 0), .int (nI v)] [] ρ K = zX (d + 4) 20 90 [.ref r, .int (nI k), .ref (zStr + pix k), .int (nI S.1.1), .int (nI 1), .int (nI v)] [] τ K := fun v ρ V Q X τ Y e K => by
    have D := X.d
    rw [L_20_119, zt_20_119]
    simp (disch := omega) only [L_20_138, zt_20_138, L_20_149, zt_20_149, ↓e_iconst0, ↓e_iconst1, ↓e_bipush0, ↓e_bipush1, ↓e_sipush0, ↓e_sipush1, ↓e_ldc0, ↓e_ldc1, ↓e_ldc_w0, ↓e_ldc_w1, ↓e_ldc2, ↓e_lconst0, ↓e_lconst1, ↓e_ldc2_w0, ↓e_ldc2_w1, ↓e_iload, ↓e_iload_n, ↓e_istore, ↓e_istore_n, ↓e_lload, ↓e_lload_n, ↓e_lstore, ↓e_lstore_n, ↓e_aload, ↓e_aload_n, ↓e_astore, ↓e_astore_n, ↓e_iinc0, ↓e_iinc1, ↓e_iadd, ↓e_isub, ↓e_imul, ↓e_iand, ↓e_ior, ↓e_ixor, ↓e_ishl, ↓e_ishr, ↓e_iushr, ↓e_ladd, ↓e_lsub, ↓e_lmul, ↓e_land, ↓e_lor, ↓e_idiv, ↓e_irem, ↓e_ldiv, ↓e_lrem, ↓e_lshl, ↓e_lcmp, ↓e_i2l, ↓e_l2i, ↓e_i2b, ↓e_i2s, ↓e_dup_int, ↓e_pop_int, ↓e_dup_ref, ↓e_pop_ref, ↓e_dup2, ↓e_goto, ↓e_nop, ↓e_ifCond_eq, ↓e_if_icmp_eq, ↓e_ifCond_ne, ↓e_if_icmp_ne, ↓e_ifCond_lt, ↓e_if_icmp_lt, ↓e_ifCond_ge, ↓e_if_icmp_ge, ↓e_ifCond_gt, ↓e_if_icmp_gt, ↓e_ifCond_le, ↓e_if_icmp_le, ↓e_tab, ↓e_look, ↓e_get0, ↓e_get1, ↓e_get2, ↓e_get3, ↓e_put0, ↓e_put1, ↓e_put2, ↓e_put3, ↓e_iaload, ↓e_laload, ↓e_baload, ↓e_aaload, ↓e_iastore, ↓e_lastore, ↓e_bastore, ↓e_aastore, ↓e_alen, ↓e_new, ↓e_newarray, ↓e_anewarray, ↓e_objinit, ↓e_virt1, ↓e_virt2, ↓e_virt3, ↓e_virt4, ↓e_virt5, ↓e_virt6, ↓e_virt7, ↓e_stat0, ↓e_stat1, ↓e_stat2, ↓e_stat3, ↓e_stat4, ↓e_stat5, ↓e_stat6, ↓e_stat7, ↓e_spec1, ↓e_spec2, ↓e_spec3, ↓e_spec4, ↓e_spec5, ↓e_strlen, ↓e_charAt, ↓e_copy, ↓e_iret0, ↓e_iret1, ↓e_lret, ↓e_aret, ↓e_vret, zIsI_int, zIsL_long, zIsA_ref, zInt_int, true_and, and_true, ↓reduceIte, zGet, zSet, zSet2, zEnt, zWid, Value.category, List.map_cons, List.map_nil, List.sum_cons, List.sum_nil, List.replicate, Option.toList, Nat.reduceAdd, Nat.reduceSub, Nat.reduceMul, Nat.reduceLeDiff, Nat.reduceEqDiff, Nat.reduceLT, List.cons_append, List.nil_append, true_or, or_true, or_false, false_or, nI_ltI, nI_leI, nI_eq, nI_clamp, zIn_nI, bI_0, nI_add, nI_mul, nI_or, nI_and, nI_shl1, nI_bit, ↓pk_rem, pk_div, Nat.lt_irrefl, Nat.not_lt_zero, reduceCtorEq, X.k, X.r2, X.r0, D.k, D.r3, D.k2, hN, sK_setI, sR_setI, sL_setI, Y.t.x.k, ↓e]
  have mid1 : ∀ (v : Nat) (ρ : MS) (V : Tk) (Q : Ps), RDg ρ a u r B n V A Q → ∀ {τ}, RTk (setI ρ (u + 3) S.1.1 (nI v)) B n V → (∀ K, zC (d + 4) 111 [.ref 98] (setI ρ (u + 3) S.1.1 (nI v)) K = K none τ) → ∀ K, zX (d + 4) 20 119 [.ref r, .int (nI k), .ref (zStr + pix k), .int (nI S.1.1), .int (nI 1), .int (nI v)] [] ρ K = zX (d + 4) 20 90 [.ref r, .int (nI k), .ref (zStr + pix k), .int (nI S.1.1), .int (nI 2), .int (nI v)] [] τ K := fun v ρ V Q X τ Y e K => by
    have D := X.d
    rw [L_20_119, zt_20_119]
    simp (disch := omega) only [L_20_138, zt_20_138, L_20_149, zt_20_149, ↓e_iconst0, ↓e_iconst1, ↓e_bipush0, ↓e_bipush1, ↓e_sipush0, ↓e_sipush1, ↓e_ldc0, ↓e_ldc1, ↓e_ldc_w0, ↓e_ldc_w1, ↓e_ldc2, ↓e_lconst0, ↓e_lconst1, ↓e_ldc2_w0, ↓e_ldc2_w1, ↓e_iload, ↓e_iload_n, ↓e_istore, ↓e_istore_n, ↓e_lload, ↓e_lload_n, ↓e_lstore, ↓e_lstore_n, ↓e_aload, ↓e_aload_n, ↓e_astore, ↓e_astore_n, ↓e_iinc0, ↓e_iinc1, ↓e_iadd, ↓e_isub, ↓e_imul, ↓e_iand, ↓e_ior, ↓e_ixor, ↓e_ishl, ↓e_ishr, ↓e_iushr, ↓e_ladd, ↓e_lsub, ↓e_lmul, ↓e_land, ↓e_lor, ↓e_idiv, ↓e_irem, ↓e_ldiv, ↓e_lrem, ↓e_lshl, ↓e_lcmp, ↓e_i2l, ↓e_l2i, ↓e_i2b, ↓e_i2s, ↓e_dup_int, ↓e_pop_int, ↓e_dup_ref, ↓e_pop_ref, ↓e_dup2, ↓e_goto, ↓e_nop, ↓e_ifCond_eq, ↓e_if_icmp_eq, ↓e_ifCond_ne, ↓e_if_icmp_ne, ↓e_ifCond_lt, ↓e_if_icmp_lt, ↓e_ifCond_ge, ↓e_if_icmp_ge, ↓e_ifCond_gt, ↓e_if_icmp_gt, ↓e_ifCond_le, ↓e_if_icmp_le, ↓e_tab, ↓e_look, ↓e_get0, ↓e_get1, ↓e_get2, ↓e_get3, ↓e_put0, ↓e_put1, ↓e_put2, ↓e_put3, ↓e_iaload, ↓e_laload, ↓e_baload, ↓e_aaload, ↓e_iastore, ↓e_lastore, ↓e_bastore, ↓e_aastore, ↓e_alen, ↓e_new, ↓e_newarray, ↓e_anewarray, ↓e_objinit, ↓e_virt1, ↓e_virt2, ↓e_virt3, ↓e_virt4, ↓e_virt5, ↓e_virt6, ↓e_virt7, ↓e_stat0, ↓e_stat1, ↓e_stat2, ↓e_stat3, ↓e_stat4, ↓e_stat5, ↓e_stat6, ↓e_stat7, ↓e_spec1, ↓e_spec2, ↓e_spec3, ↓e_spec4, ↓e_spec5, ↓e_strlen, ↓e_charAt, ↓e_copy, ↓e_iret0, ↓e_iret1, ↓e_lret, ↓e_aret, ↓e_vret, zIsI_int, zIsL_long, zIsA_ref, zInt_int, true_and, and_true, ↓reduceIte, zGet, zSet, zSet2, zEnt, zWid, Value.category, List.map_cons, List.map_nil, List.sum_cons, List.sum_nil, List.replicate, Option.toList, Nat.reduceAdd, Nat.reduceSub, Nat.reduceMul, Nat.reduceLeDiff, Nat.reduceEqDiff, Nat.reduceLT, List.cons_append, List.nil_append, true_or, or_true, or_false, false_or, nI_ltI, nI_leI, nI_eq, nI_clamp, zIn_nI, bI_0, nI_add, nI_mul, nI_or, nI_and, nI_shl1, nI_bit, ↓pk_rem, pk_div, Nat.lt_irrefl, Nat.not_lt_zero, reduceCtorEq, X.k, X.r2, X.r0, D.k, D.r4, D.k3, hN, sK_setI, sR_setI, sL_setI, Y.t.x.k, ↓e]
  rcases pcs_is k with h | ⟨c, h, hc⟩ | ⟨c, e, h, hc, he⟩
  · rw [h] at hs ⊢
    refine ⟨σ1, ⟨f1, X1⟩, fun K => ?_⟩
    rw [ent K]
    exact fin 0 σ1 _ (by rw [hs]; rfl) (by decide) K
  · rw [h] at hs ⊢
    have o1 := one c 0 σ1 T _ .null hc (by rw [hs]; rfl) (by rw [hs]; exact Nat.lt_succ_of_le (Nat.zero_le _)) (by decide) X1 H
    rw [pieces_1]
    cases hp : piece B n A c T with
    | inl e =>
      refine ⟨flt σ1 e.1 e.2, ⟨f1.flt _ _, flt_8 _ _, flt_9 _ _⟩, fun K => ?_⟩
      rw [ent K, o1 K, hp]
      rfl
    | inr x =>
      have pk := piece_ok (A := A) (c := c) H (Nat.le_refl _)
      rw [hp] at pk
      have X2 := X1.pc1 (v := x.1) hau ha hu hr
      obtain ⟨τ, f, Y, e1⟩ := c_adv (d := d + 1) X2.x H h9
      have px : x.2 = nx B n T := piece_n hp
      rw [← px] at Y
      have X3 := X2.ta f Y ha hu hr
      refine ⟨τ, ⟨f1.tr ((FD.sI hu ⟨by omega, by omega⟩).tr (FD.ta f)), X3⟩, fun K => ?_⟩
      rw [ent K, o1 K, hp]
      refine (mid0 x.1 σ1 T _ X1 X2.x e1 K).trans ?_
      exact fin 1 τ _ (by rw [hs]; rfl) (by decide) K
  · rw [h] at hs ⊢
    have o1 := one c 0 σ1 T _ .null hc (by rw [hs]; rfl) (by rw [hs]; exact Nat.lt_succ_of_le (Nat.zero_le _)) (by decide) X1 H
    rw [pieces_2]
    cases hp : piece B n A c T with
    | inl e =>
      refine ⟨flt σ1 e.1 e.2, ⟨f1.flt _ _, flt_8 _ _, flt_9 _ _⟩, fun K => ?_⟩
      rw [ent K, o1 K, hp]
      rfl
    | inr x =>
      have X2 := X1.pc1 (v := x.1) hau ha hu hr
      obtain ⟨τ, f, Y, e1⟩ := c_adv (d := d + 1) X2.x H h9
      have px : x.2 = nx B n T := piece_n hp
      rw [← px] at Y
      have H3 : TkOk B n x.2 := by rw [px]; exact nx_ok H
      have X3 := X2.ta f Y ha hu hr
      have g3 : FD u r σ τ := f1.tr ((FD.sI hu ⟨by omega, by omega⟩).tr (FD.ta f))
      have o2 := one e 1 τ x.2 _ (.int (nI x.1)) he (by rw [hs]; rfl) (by rw [hs]; exact Nat.lt_succ_self 1) (by decide) X3 H3
      dsimp only
      cases hp2 : piece B n A e x.2 with
      | inl e2 =>
        refine ⟨flt τ e2.1 e2.2, ⟨g3.flt _ _, flt_8 _ _, flt_9 _ _⟩, fun K => ?_⟩
        rw [ent K, o1 K, hp]
        refine (mid0 x.1 σ1 T _ X1 X2.x e1 K).trans ?_
        rw [o2 K, hp2]
        rfl
      | inr y =>
        have X4 := X3.pc2 (v := y.1) hau ha hu hr
        obtain ⟨τ5, f5, Y5, e5⟩ := c_adv (d := d + 1) X4.x H3 h9
        have py : y.2 = nx B n x.2 := piece_n hp2
        rw [← py] at Y5
        have X5 := X4.ta f5 Y5 ha hu hr
        refine ⟨τ5, ⟨g3.tr ((FD.sI hu ⟨by omega, by omega⟩).tr (FD.ta f5)), X5⟩, fun K => ?_⟩
        rw [ent K, o1 K, hp]
        refine (mid0 x.1 σ1 T _ X1 X2.x e1 K).trans ?_
        rw [o2 K, hp2]
        refine (mid1 y.1 τ x.2 _ X3 X4.x e5 K).trans ?_
        exact fin 2 τ5 _ (by rw [hs]; rfl) (by decide) K
end DX2
