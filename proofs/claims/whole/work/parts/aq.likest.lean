/-! BEST, the class: the likest couples, added up -/
def qAd (b _j : Nat) : Prop := b = 108
theorem insF_le {v n V : Nat} {f : Nat → Nat} (hv : v ≤ V) (h : ∀ i, 1 ≤ i → i ≤ n → f i ≤ V) : ∀ i, 1 ≤ i → i ≤ n + 1 → insF v (n + 1) f i ≤ V := by
  obtain ⟨p, p1, p2, p3, p4, p5⟩ := insF_is v n f
  intro i i1 i2
  rw [p5]
  dsimp only
  split
  · exact hv
  · split
    · exact h (i - 1) (by omega) (by omega)
    · exact h i i1 (by omega)
theorem insF_31 {v n : Nat} {f : Nat → Nat} (hv : v < 2 ^ 31) (h : ∀ i, f i < 2 ^ 31) : ∀ i, insF v (n + 1) f i < 2 ^ 31 := by
  obtain ⟨p, p1, p2, p3, p4, p5⟩ := insF_is v n f
  intro i
  rw [p5]
  dsimp only
  split
  · exact hv
  · split
    · exact h _
    · exact h i
/-- the numbers that were put in order -/
def Ofc.cpl (A : Ofc) (θ q p : Nat) : Nat := if A.lie p = true ∧ A.lie q = true then ge1 θ (A.like p q) else 0
def OrdI (A : Ofc) (q p n : Nat) (f : Nat → Nat) : Prop := (∀ j, f j < 2 ^ 31) ∧ Dsc n f ∧ (∀ i, 1 ≤ i → i ≤ n → f i ≤ 72) ∧ n ≤ sm q (fun i => i) + p ∧ ∀ θ, sm n (fun i => ge1 θ (f (i + 1))) = sm q (fun q => sm q (fun p => A.cpl θ q p)) + sm p (fun p => A.cpl θ q p)
theorem tri28 : ∀ q, q < 8 → sm q (fun i => i) + q ≤ 28 := by decide
section ADX
variable {d : Nat} {σ τ ρ : MS} {a : Nat} {A : Ofc} {K : Option Value → MS → Prop}
theorem OrdI.skip {q p n : Nat} {f : Nat → Nat} (h : OrdI A q p n f) (hl : ¬ (A.lie p = true ∧ A.lie q = true)) : OrdI A q (p + 1) n f := by
  obtain ⟨h1, h2, h3, h4, h5⟩ := h
  refine ⟨h1, h2, h3, by omega, fun θ => ?_⟩
  rw [h5 θ, sm_s]
  unfold Ofc.cpl
  rw [if_neg hl, Nat.add_zero]
theorem OrdI.put (O : OfcOk A) {q p n : Nat} {f : Nat → Nat} (h : OrdI A q p n f) (hl : A.lie p = true ∧ A.lie q = true) : OrdI A q (p + 1) (n + 1) (insF (A.like q p) (n + 1) f) := by
  obtain ⟨h1, h2, h3, h4, h5⟩ := h
  have l72 := like72 O q p
  refine ⟨insF_31 (by omega) h1, insF_dsc h2, insF_le l72 h3, by omega, fun θ => ?_⟩
  rw [insF_cnt, h5 θ, sm_s, Nat.add_assoc]
  congr 2
  unfold Ofc.cpl
  rw [if_pos hl, like_comm]
theorem OrdI.row {q n : Nat} {f : Nat → Nat} (h : OrdI A q q n f) : OrdI A (q + 1) 0 n f := by
  obtain ⟨h1, h2, h3, h4, h5⟩ := h
  refine ⟨h1, h2, h3, by rw [sm_s]; omega, fun θ => ?_⟩
  rw [h5 θ, sm_s, sm_0, Nat.add_zero]
theorem c_putInOrder (B : RBk σ) {v n : Nat} (hv : v < 2 ^ 31) (hn : n + 1 < 29) {f : Nat → Nat} (fb : ∀ j, f j < 2 ^ 31) (h : ∀ j, j < 29 → sI σ 108 j = nI (f j)) :
   ∃ ρ, FB qAd σ ρ ∧ (∀ j, j < 29 → sI ρ 108 j = nI (insF v (n + 1) f j)) ∧ ∀ K, zC (d + 2) 7 [.ref 103, .int (nI v), .int (nI (n + 1))] σ K = K none ρ := by
  obtain ⟨ρ, g, h2, c⟩ := c_order1 (d := d + 1) (x := 103) (q := 108) B.k B.r8 B.k108 (by decide) hv (nI (n + 1)) n f σ hn Ag.rf fb h
  refine ⟨ρ, ⟨g.mono (fun b hb => by omega), fun j => g.R (by decide) j, fun b j hb => g.I hb j⟩, h2, fun K => ?_⟩
  have mw : max 1 (min (n + 1) 28) = n + 1 := by omega
  rw [E_7]
  simp (disch := omega) only [L_7_0, zt_7_0, ↓e_iconst0, ↓e_iconst1, ↓e_bipush0, ↓e_bipush1, ↓e_sipush0, ↓e_sipush1, ↓e_ldc0, ↓e_ldc1, ↓e_ldc_w0, ↓e_ldc_w1, ↓e_ldc2, ↓e_lconst0, ↓e_lconst1, ↓e_ldc2_w0, ↓e_ldc2_w1, ↓e_iload, ↓e_iload_n, ↓e_istore, ↓e_istore_n, ↓e_lload, ↓e_lload_n, ↓e_lstore, ↓e_lstore_n, ↓e_aload, ↓e_aload_n, ↓e_astore, ↓e_astore_n, ↓e_iinc0, ↓e_iinc1, ↓e_iadd, ↓e_isub, ↓e_imul, ↓e_iand, ↓e_ior, ↓e_ixor, ↓e_ishl, ↓e_ishr, ↓e_iushr, ↓e_ladd, ↓e_lsub, ↓e_lmul, ↓e_land, ↓e_lor, ↓e_idiv, ↓e_irem, ↓e_ldiv, ↓e_lrem, ↓e_lshl, ↓e_lcmp, ↓e_i2l, ↓e_l2i, ↓e_i2b, ↓e_i2s, ↓e_dup_int, ↓e_pop_int, ↓e_dup_ref, ↓e_pop_ref, ↓e_dup2, ↓e_goto, ↓e_nop, ↓e_ifCond_eq, ↓e_if_icmp_eq, ↓e_ifCond_ne, ↓e_if_icmp_ne, ↓e_ifCond_lt, ↓e_if_icmp_lt, ↓e_ifCond_ge, ↓e_if_icmp_ge, ↓e_ifCond_gt, ↓e_if_icmp_gt, ↓e_ifCond_le, ↓e_if_icmp_le, ↓e_tab, ↓e_look, ↓e_get0, ↓e_get1, ↓e_get2, ↓e_get3, ↓e_put0, ↓e_put1, ↓e_put2, ↓e_put3, ↓e_iaload, ↓e_laload, ↓e_baload, ↓e_aaload, ↓e_iastore, ↓e_lastore, ↓e_bastore, ↓e_aastore, ↓e_alen, ↓e_new, ↓e_newarray, ↓e_anewarray, ↓e_objinit, ↓e_virt1, ↓e_virt2, ↓e_virt3, ↓e_virt4, ↓e_virt5, ↓e_virt6, ↓e_virt7, ↓e_stat0, ↓e_stat1, ↓e_stat2, ↓e_stat3, ↓e_stat4, ↓e_stat5, ↓e_stat6, ↓e_stat7, ↓e_spec1, ↓e_spec2, ↓e_spec3, ↓e_spec4, ↓e_spec5, ↓e_strlen, ↓e_charAt, ↓e_copy, ↓e_iret0, ↓e_iret1, ↓e_lret, ↓e_aret, ↓e_vret, zIsI_int, zIsL_long, zIsA_ref, zInt_int, true_and, and_true, ↓reduceIte, zGet, zSet, zSet2, zEnt, zWid, Value.category, List.map_cons, List.map_nil, List.sum_cons, List.sum_nil, List.replicate, Option.toList, Nat.reduceAdd, Nat.reduceSub, Nat.reduceMul, Nat.reduceLeDiff, Nat.reduceEqDiff, Nat.reduceLT, List.cons_append, List.nil_append, true_or, or_true, or_false, false_or, nI_ltI, nI_leI, nI_eq, nI_clamp, zIn_nI, bI_0, nI_add, nI_mul, nI_or, nI_and, nI_shl1, nI_bit, ↓pk_rem, pk_div, Nat.lt_irrefl, Nat.not_lt_zero, reduceCtorEq, ↓c_min, ↓c_max, mw, ↓c]
theorem c_addUp (B : RBk σ) (r1 : sR σ 103 1 = a) (m3 : sI σ 103 3 = nI A.lying) (H : ROff σ a A) (O : OfcOk A) (ha : a + 11 < 103) (f0 : Nat → Nat) (fb0 : ∀ j, f0 j < 2 ^ 31) (h0 : ∀ j, j < 29 → sI σ 108 j = nI (f0 j)) :
   ∃ τ n f, FB qAd σ τ ∧ Dsc n f ∧ (∀ i, n < i → f i = 0) ∧ (∀ i, f i ≤ 72) ∧ (∀ θ, sm 8 (fun q => sm q (fun p => if A.lie p = true ∧ A.lie q = true then ge1 θ (A.like p q) else 0)) = sm n (fun i => ge1 θ (f (i + 1)))) ∧ (∀ k, k ≤ 28 → sI τ 108 k = nI (sm k (fun i => f (i + 1)))) ∧ ∀ K, zC (d + 3) 6 [.ref 103] σ K = K none τ := by
  have h8 := O.p8
  have B0 := B
  have H0 := H
  have L256 := lying256 O
  have ro : ∀ τ, FB qAd σ τ → sR τ 103 1 = a ∧ sI τ 103 3 = nI A.lying := fun τ f => ⟨(f.2.1 1).trans r1, (f.2.2 103 3 (by unfold qAd; omega)).trans m3⟩
  obtain ⟨⟨τ1, n1, f1, j1⟩, ⟨g1, g2, g3⟩, e1⟩ := zloop (fun (q : Nat) (x : MS × Nat × (Nat → Nat) × Value) => FB qAd σ x.1 ∧ (∀ j, j < 29 → sI x.1 108 j = nI (x.2.2.1 j)) ∧ OrdI A q 0 x.2.1 x.2.2.1) (P := fun q x K => zX (d + 2) 6 4 [.ref 103, .int (nI x.2.1), .int (nI q), x.2.2.2] [] x.1 K) (n := 8) (fun q x hq hI => by
    obtain ⟨τ, n, f, jv⟩ := x
    dsimp only at hI ⊢
    obtain ⟨⟨τ2, n2, f2⟩, ⟨i1, i2, i3⟩, e2⟩ := zloop (fun (p : Nat) (x : MS × Nat × (Nat → Nat)) => FB qAd σ x.1 ∧ (∀ j, j < 29 → sI x.1 108 j = nI (x.2.2 j)) ∧ OrdI A q p x.2.1 x.2.2) (P := fun p x K => zX (d + 2) 6 12 [.ref 103, .int (nI x.2.1), .int (nI q), .int (nI p)] [] x.1 K) (n := q) (fun p x hp hI => by
      obtain ⟨τ, n, f⟩ := x
      dsimp only at hI ⊢
      obtain ⟨b1, b2, b3⟩ := hI
      have B := B0.ag b1
      have H := b1.off H0 ha
      obtain ⟨r1, m3⟩ := ro τ b1
      have hp8 : p < 8 := by omega
      have bq := lying_lie O q
      have bp := lying_lie O p
      have sq : nI A.lying >>> (nI q &&& 31) = nI (A.lying / 2 ^ q) := nI_shr (by omega) (by omega)
      have sp : nI A.lying >>> (nI p &&& 31) = nI (A.lying / 2 ^ p) := nI_shr (by omega) (by omega)
      have sb : A.lying / 2 ^ q &&& A.lying / 2 ^ p &&& 1 = if A.lie p = true ∧ A.lie q = true then 1 else 0 := by
        refine Nat.eq_of_testBit_eq (fun i => ?_)
        rw [Nat.testBit_and, Nat.testBit_and, Nat.testBit_div_two_pow, Nat.testBit_div_two_pow]
        cases i with
        | zero =>
          rw [Nat.zero_add, Nat.zero_add, bq, bp]
          cases A.lie p <;> cases A.lie q <;> rfl
        | succ i =>
          have z : Nat.testBit 1 (i + 1) = false := by
            rw [Nat.testBit_succ]
            exact Nat.zero_testBit i
          rw [z, Bool.and_false]
          split
          · exact z.symm
          · exact (Nat.zero_testBit _).symm
      by_cases hl : A.lie p = true ∧ A.lie q = true
      · have hpn := lie_np O hl.1
        have hqn := lie_np O hl.2
        have t28 := tri28 q hq
        have n28 : n < 28 := by have := b3.2.2.2.1; omega
        have l72 := like72 O q p
        obtain ⟨ρ, o1, o2, o3⟩ := c_putInOrder (d := d) B (v := A.like q p) (by omega) (n := n) (by omega) b3.1 b2
        refine ⟨(ρ, n + 1, insF (A.like q p) (n + 1) f), ⟨b1.tr o1, o2, b3.put O hl⟩, ?_⟩
        rw [if_pos hl] at sb
        funext K
        rw [L_6_12, zt_6_12]
        simp (disch := omega) only [L_6_58, zt_6_58, ↓e_iconst0, ↓e_iconst1, ↓e_bipush0, ↓e_bipush1, ↓e_sipush0, ↓e_sipush1, ↓e_ldc0, ↓e_ldc1, ↓e_ldc_w0, ↓e_ldc_w1, ↓e_ldc2, ↓e_lconst0, ↓e_lconst1, ↓e_ldc2_w0, ↓e_ldc2_w1, ↓e_iload, ↓e_iload_n, ↓e_istore, ↓e_istore_n, ↓e_lload, ↓e_lload_n, ↓e_lstore, ↓e_lstore_n, ↓e_aload, ↓e_aload_n, ↓e_astore, ↓e_astore_n, ↓e_iinc0, ↓e_iinc1, ↓e_iadd, ↓e_isub, ↓e_imul, ↓e_iand, ↓e_ior, ↓e_ixor, ↓e_ishl, ↓e_ishr, ↓e_iushr, ↓e_ladd, ↓e_lsub, ↓e_lmul, ↓e_land, ↓e_lor, ↓e_idiv, ↓e_irem, ↓e_ldiv, ↓e_lrem, ↓e_lshl, ↓e_lcmp, ↓e_i2l, ↓e_l2i, ↓e_i2b, ↓e_i2s, ↓e_dup_int, ↓e_pop_int, ↓e_dup_ref, ↓e_pop_ref, ↓e_dup2, ↓e_goto, ↓e_nop, ↓e_ifCond_eq, ↓e_if_icmp_eq, ↓e_ifCond_ne, ↓e_if_icmp_ne, ↓e_ifCond_lt, ↓e_if_icmp_lt, ↓e_ifCond_ge, ↓e_if_icmp_ge, ↓e_ifCond_gt, ↓e_if_icmp_gt, ↓e_ifCond_le, ↓e_if_icmp_le, ↓e_tab, ↓e_look, ↓e_get0, ↓e_get1, ↓e_get2, ↓e_get3, ↓e_put0, ↓e_put1, ↓e_put2, ↓e_put3, ↓e_iaload, ↓e_laload, ↓e_baload, ↓e_aaload, ↓e_iastore, ↓e_lastore, ↓e_bastore, ↓e_aastore, ↓e_alen, ↓e_new, ↓e_newarray, ↓e_anewarray, ↓e_objinit, ↓e_virt1, ↓e_virt2, ↓e_virt3, ↓e_virt4, ↓e_virt5, ↓e_virt6, ↓e_virt7, ↓e_stat0, ↓e_stat1, ↓e_stat2, ↓e_stat3, ↓e_stat4, ↓e_stat5, ↓e_stat6, ↓e_stat7, ↓e_spec1, ↓e_spec2, ↓e_spec3, ↓e_spec4, ↓e_spec5, ↓e_strlen, ↓e_charAt, ↓e_copy, ↓e_iret0, ↓e_iret1, ↓e_lret, ↓e_aret, ↓e_vret, zIsI_int, zIsL_long, zIsA_ref, zInt_int, true_and, and_true, ↓reduceIte, zGet, zSet, zSet2, zEnt, zWid, Value.category, List.map_cons, List.map_nil, List.sum_cons, List.sum_nil, List.replicate, Option.toList, Nat.reduceAdd, Nat.reduceSub, Nat.reduceMul, Nat.reduceLeDiff, Nat.reduceEqDiff, Nat.reduceLT, List.cons_append, List.nil_append, true_or, or_true, or_false, false_or, nI_ltI, nI_leI, nI_eq, nI_clamp, zIn_nI, bI_0, nI_add, nI_mul, nI_or, nI_and, nI_shl1, nI_bit, ↓pk_rem, pk_div, Nat.lt_irrefl, Nat.not_lt_zero, reduceCtorEq, B.k, H.k, hp, r1, m3, sq, sp, sb, n28, ↓c_likeOf H O hqn hpn, ↓o3]
      · refine ⟨(τ, n, f), ⟨b1, b2, b3.skip hl⟩, ?_⟩
        rw [if_neg hl] at sb
        funext K
        rw [L_6_12, zt_6_12]
        simp (disch := omega) only [L_6_58, zt_6_58, ↓e_iconst0, ↓e_iconst1, ↓e_bipush0, ↓e_bipush1, ↓e_sipush0, ↓e_sipush1, ↓e_ldc0, ↓e_ldc1, ↓e_ldc_w0, ↓e_ldc_w1, ↓e_ldc2, ↓e_lconst0, ↓e_lconst1, ↓e_ldc2_w0, ↓e_ldc2_w1, ↓e_iload, ↓e_iload_n, ↓e_istore, ↓e_istore_n, ↓e_lload, ↓e_lload_n, ↓e_lstore, ↓e_lstore_n, ↓e_aload, ↓e_aload_n, ↓e_astore, ↓e_astore_n, ↓e_iinc0, ↓e_iinc1, ↓e_iadd, ↓e_isub, ↓e_imul, ↓e_iand, ↓e_ior, ↓e_ixor, ↓e_ishl, ↓e_ishr, ↓e_iushr, ↓e_ladd, ↓e_lsub, ↓e_lmul, ↓e_land, ↓e_lor, ↓e_idiv, ↓e_irem, ↓e_ldiv, ↓e_lrem, ↓e_lshl, ↓e_lcmp, ↓e_i2l, ↓e_l2i, ↓e_i2b, ↓e_i2s, ↓e_dup_int, ↓e_pop_int, ↓e_dup_ref, ↓e_pop_ref, ↓e_dup2, ↓e_goto, ↓e_nop, ↓e_ifCond_eq, ↓e_if_icmp_eq, ↓e_ifCond_ne, ↓e_if_icmp_ne, ↓e_ifCond_lt, ↓e_if_icmp_lt, ↓e_ifCond_ge, ↓e_if_icmp_ge, ↓e_ifCond_gt, ↓e_if_icmp_gt, ↓e_ifCond_le, ↓e_if_icmp_le, ↓e_tab, ↓e_look, ↓e_get0, ↓e_get1, ↓e_get2, ↓e_get3, ↓e_put0, ↓e_put1, ↓e_put2, ↓e_put3, ↓e_iaload, ↓e_laload, ↓e_baload, ↓e_aaload, ↓e_iastore, ↓e_lastore, ↓e_bastore, ↓e_aastore, ↓e_alen, ↓e_new, ↓e_newarray, ↓e_anewarray, ↓e_objinit, ↓e_virt1, ↓e_virt2, ↓e_virt3, ↓e_virt4, ↓e_virt5, ↓e_virt6, ↓e_virt7, ↓e_stat0, ↓e_stat1, ↓e_stat2, ↓e_stat3, ↓e_stat4, ↓e_stat5, ↓e_stat6, ↓e_stat7, ↓e_spec1, ↓e_spec2, ↓e_spec3, ↓e_spec4, ↓e_spec5, ↓e_strlen, ↓e_charAt, ↓e_copy, ↓e_iret0, ↓e_iret1, ↓e_lret, ↓e_aret, ↓e_vret, zIsI_int, zIsL_long, zIsA_ref, zInt_int, true_and, and_true, ↓reduceIte, zGet, zSet, zSet2, zEnt, zWid, Value.category, List.map_cons, List.map_nil, List.sum_cons, List.sum_nil, List.replicate, Option.toList, Nat.reduceAdd, Nat.reduceSub, Nat.reduceMul, Nat.reduceLeDiff, Nat.reduceEqDiff, Nat.reduceLT, List.cons_append, List.nil_append, true_or, or_true, or_false, false_or, nI_ltI, nI_leI, nI_eq, nI_clamp, zIn_nI, bI_0, nI_add, nI_mul, nI_or, nI_and, nI_shl1, nI_bit, ↓pk_rem, pk_div, Nat.lt_irrefl, Nat.not_lt_zero, reduceCtorEq, B.k, hp, r1, m3, sq, sp, sb]) (τ, n, f) ⟨hI.1, hI.2.1, hI.2.2⟩
    dsimp only at i1 i2 i3 e2
    refine ⟨(τ2, n2, f2, .int (nI q)), ⟨i1, i2, i3.row⟩, ?_⟩
    funext K
    rw [L_6_4, zt_6_4]
    simp (disch := omega) only [↓e_iconst0, ↓e_iconst1, ↓e_bipush0, ↓e_bipush1, ↓e_sipush0, ↓e_sipush1, ↓e_ldc0, ↓e_ldc1, ↓e_ldc_w0, ↓e_ldc_w1, ↓e_ldc2, ↓e_lconst0, ↓e_lconst1, ↓e_ldc2_w0, ↓e_ldc2_w1, ↓e_iload, ↓e_iload_n, ↓e_istore, ↓e_istore_n, ↓e_lload, ↓e_lload_n, ↓e_lstore, ↓e_lstore_n, ↓e_aload, ↓e_aload_n, ↓e_astore, ↓e_astore_n, ↓e_iinc0, ↓e_iinc1, ↓e_iadd, ↓e_isub, ↓e_imul, ↓e_iand, ↓e_ior, ↓e_ixor, ↓e_ishl, ↓e_ishr, ↓e_iushr, ↓e_ladd, ↓e_lsub, ↓e_lmul, ↓e_land, ↓e_lor, ↓e_idiv, ↓e_irem, ↓e_ldiv, ↓e_lrem, ↓e_lshl, ↓e_lcmp, ↓e_i2l, ↓e_l2i, ↓e_i2b, ↓e_i2s, ↓e_dup_int, ↓e_pop_int, ↓e_dup_ref, ↓e_pop_ref, ↓e_dup2, ↓e_goto, ↓e_nop, ↓e_ifCond_eq, ↓e_if_icmp_eq, ↓e_ifCond_ne, ↓e_if_icmp_ne, ↓e_ifCond_lt, ↓e_if_icmp_lt, ↓e_ifCond_ge, ↓e_if_icmp_ge, ↓e_ifCond_gt, ↓e_if_icmp_gt, ↓e_ifCond_le, ↓e_if_icmp_le, ↓e_tab, ↓e_look, ↓e_get0, ↓e_get1, ↓e_get2, ↓e_get3, ↓e_put0, ↓e_put1, ↓e_put2, ↓e_put3, ↓e_iaload, ↓e_laload, ↓e_baload, ↓e_aaload, ↓e_iastore, ↓e_lastore, ↓e_bastore, ↓e_aastore, ↓e_alen, ↓e_new, ↓e_newarray, ↓e_anewarray, ↓e_objinit, ↓e_virt1, ↓e_virt2, ↓e_virt3, ↓e_virt4, ↓e_virt5, ↓e_virt6, ↓e_virt7, ↓e_stat0, ↓e_stat1, ↓e_stat2, ↓e_stat3, ↓e_stat4, ↓e_stat5, ↓e_stat6, ↓e_stat7, ↓e_spec1, ↓e_spec2, ↓e_spec3, ↓e_spec4, ↓e_spec5, ↓e_strlen, ↓e_charAt, ↓e_copy, ↓e_iret0, ↓e_iret1, ↓e_lret, ↓e_aret, ↓e_vret, zIsI_int, zIsL_long, zIsA_ref, zInt_int, true_and, and_true, ↓reduceIte, zGet, zSet, zSet2, zEnt, zWid, Value.category, List.map_cons, List.map_nil, List.sum_cons, List.sum_nil, List.replicate, Option.toList, Nat.reduceAdd, Nat.reduceSub, Nat.reduceMul, Nat.reduceLeDiff, Nat.reduceEqDiff, Nat.reduceLT, List.cons_append, List.nil_append, true_or, or_true, or_false, false_or, nI_ltI, nI_leI, nI_eq, nI_clamp, zIn_nI, bI_0, nI_add, nI_mul, nI_or, nI_and, nI_shl1, nI_bit, ↓pk_rem, pk_div, Nat.lt_irrefl, Nat.not_lt_zero, reduceCtorEq, hq]
    refine Eq.trans (congrFun e2 K) ?_
    rw [L_6_12, zt_6_12]
    simp (disch := omega) only [L_6_64, zt_6_64, ↓e_iconst0, ↓e_iconst1, ↓e_bipush0, ↓e_bipush1, ↓e_sipush0, ↓e_sipush1, ↓e_ldc0, ↓e_ldc1, ↓e_ldc_w0, ↓e_ldc_w1, ↓e_ldc2, ↓e_lconst0, ↓e_lconst1, ↓e_ldc2_w0, ↓e_ldc2_w1, ↓e_iload, ↓e_iload_n, ↓e_istore, ↓e_istore_n, ↓e_lload, ↓e_lload_n, ↓e_lstore, ↓e_lstore_n, ↓e_aload, ↓e_aload_n, ↓e_astore, ↓e_astore_n, ↓e_iinc0, ↓e_iinc1, ↓e_iadd, ↓e_isub, ↓e_imul, ↓e_iand, ↓e_ior, ↓e_ixor, ↓e_ishl, ↓e_ishr, ↓e_iushr, ↓e_ladd, ↓e_lsub, ↓e_lmul, ↓e_land, ↓e_lor, ↓e_idiv, ↓e_irem, ↓e_ldiv, ↓e_lrem, ↓e_lshl, ↓e_lcmp, ↓e_i2l, ↓e_l2i, ↓e_i2b, ↓e_i2s, ↓e_dup_int, ↓e_pop_int, ↓e_dup_ref, ↓e_pop_ref, ↓e_dup2, ↓e_goto, ↓e_nop, ↓e_ifCond_eq, ↓e_if_icmp_eq, ↓e_ifCond_ne, ↓e_if_icmp_ne, ↓e_ifCond_lt, ↓e_if_icmp_lt, ↓e_ifCond_ge, ↓e_if_icmp_ge, ↓e_ifCond_gt, ↓e_if_icmp_gt, ↓e_ifCond_le, ↓e_if_icmp_le, ↓e_tab, ↓e_look, ↓e_get0, ↓e_get1, ↓e_get2, ↓e_get3, ↓e_put0, ↓e_put1, ↓e_put2, ↓e_put3, ↓e_iaload, ↓e_laload, ↓e_baload, ↓e_aaload, ↓e_iastore, ↓e_lastore, ↓e_bastore, ↓e_aastore, ↓e_alen, ↓e_new, ↓e_newarray, ↓e_anewarray, ↓e_objinit, ↓e_virt1, ↓e_virt2, ↓e_virt3, ↓e_virt4, ↓e_virt5, ↓e_virt6, ↓e_virt7, ↓e_stat0, ↓e_stat1, ↓e_stat2, ↓e_stat3, ↓e_stat4, ↓e_stat5, ↓e_stat6, ↓e_stat7, ↓e_spec1, ↓e_spec2, ↓e_spec3, ↓e_spec4, ↓e_spec5, ↓e_strlen, ↓e_charAt, ↓e_copy, ↓e_iret0, ↓e_iret1, ↓e_lret, ↓e_aret, ↓e_vret, zIsI_int, zIsL_long, zIsA_ref, zInt_int, true_and, and_true, ↓reduceIte, zGet, zSet, zSet2, zEnt, zWid, Value.category, List.map_cons, List.map_nil, List.sum_cons, List.sum_nil, List.replicate, Option.toList, Nat.reduceAdd, Nat.reduceSub, Nat.reduceMul, Nat.reduceLeDiff, Nat.reduceEqDiff, Nat.reduceLT, List.cons_append, List.nil_append, true_or, or_true, or_false, false_or, nI_ltI, nI_leI, nI_eq, nI_clamp, zIn_nI, bI_0, nI_add, nI_mul, nI_or, nI_and, nI_shl1, nI_bit, ↓pk_rem, pk_div, Nat.lt_irrefl, Nat.not_lt_zero, reduceCtorEq]) (σ, 0, f0, .null) ⟨FB.rf, h0, fb0, fun i h1 h2 => absurd h2 (Nat.not_lt_zero i), fun i h1 h2 => absurd (Nat.lt_of_lt_of_le h1 h2) (Nat.not_lt_zero 0), Nat.zero_le _, fun θ => rfl⟩
  dsimp only at g1 g2 g3 e1
  obtain ⟨o1, o2, o3, o4, o5⟩ := g3
  have B1 := B0.ag g1
  have n28 : n1 ≤ 28 := by
    have : sm 8 (fun i => i) = 28 := by decide
    omega
  let f2 : Nat → Nat := fun i => if 1 ≤ i ∧ i ≤ n1 then f1 i else 0
  have f2b : ∀ i, f2 i ≤ 72 := fun i => by
    show (if 1 ≤ i ∧ i ≤ n1 then f1 i else 0) ≤ 72
    split
    · next h => exact o3 i h.1 h.2
    · omega
  have s2b : ∀ k, sm k (fun i => f2 (i + 1)) ≤ 72 * k := by
    intro k
    induction k with
    | zero => exact Nat.le_refl _
    | succ k ih => rw [sm_s]; have := f2b (k + 1); omega
  obtain ⟨⟨τ2, j2⟩, ⟨i1, i2, i3⟩, e2⟩ := zloop (fun (i : Nat) (x : MS × Value) => FB qAd σ x.1 ∧ (∀ k, k ≤ i → sI x.1 108 k = nI (sm k (fun i => f2 (i + 1)))) ∧ ∀ k, i < k → k < 29 → sI x.1 108 k = nI (f1 k)) (P := fun i x K => zX (d + 2) 6 79 [.ref 103, .int (nI n1), .int (nI (i + 1)), x.2] [] x.1 K) (n := 28) (fun i x hi hI => by
    obtain ⟨τ, jv⟩ := x
    dsimp only at hI ⊢
    obtain ⟨b1, b2, b3⟩ := hI
    have B := B0.ag b1
    have w := b2 i (Nat.le_refl _)
    have w2 := b3 (i + 1) (by omega) (by omega)
    have hi29 : i < 29 := by omega
    have hi29' : i + 1 < 29 := by omega
    have s1 : nI (i + 1) - nI 1 = nI i := by rw [nI_sub (by omega), Nat.add_sub_cancel]
    refine ⟨(setI τ 108 (i + 1) (nI (sm (i + 1) (fun i => f2 (i + 1)))), jv), ⟨b1.i (by omega) rfl, fun k hk => ?_, fun k h1 h2 => ?_⟩, ?_⟩
    · rw [sI_setI]
      by_cases h : k = i + 1
      · rw [if_pos ⟨rfl, h⟩, h]
      · rw [if_neg (fun x => h x.2)]; exact b2 k (by omega)
    · rw [sI_setI, if_neg (by omega)]; exact b3 k (by omega) h2
    · funext K
      have e : sm (i + 1) (fun i => f2 (i + 1)) = sm i (fun i => f2 (i + 1)) + f2 (i + 1) := rfl
      rw [e, L_6_79, zt_6_79]
      by_cases h : i + 1 ≤ n1
      · have e2 : f2 (i + 1) = f1 (i + 1) := if_pos ⟨by omega, h⟩
        rw [e2]
        simp (disch := omega) only [L_6_112, zt_6_112, L_6_113, zt_6_113, ↓e_iconst0, ↓e_iconst1, ↓e_bipush0, ↓e_bipush1, ↓e_sipush0, ↓e_sipush1, ↓e_ldc0, ↓e_ldc1, ↓e_ldc_w0, ↓e_ldc_w1, ↓e_ldc2, ↓e_lconst0, ↓e_lconst1, ↓e_ldc2_w0, ↓e_ldc2_w1, ↓e_iload, ↓e_iload_n, ↓e_istore, ↓e_istore_n, ↓e_lload, ↓e_lload_n, ↓e_lstore, ↓e_lstore_n, ↓e_aload, ↓e_aload_n, ↓e_astore, ↓e_astore_n, ↓e_iinc0, ↓e_iinc1, ↓e_iadd, ↓e_isub, ↓e_imul, ↓e_iand, ↓e_ior, ↓e_ixor, ↓e_ishl, ↓e_ishr, ↓e_iushr, ↓e_ladd, ↓e_lsub, ↓e_lmul, ↓e_land, ↓e_lor, ↓e_idiv, ↓e_irem, ↓e_ldiv, ↓e_lrem, ↓e_lshl, ↓e_lcmp, ↓e_i2l, ↓e_l2i, ↓e_i2b, ↓e_i2s, ↓e_dup_int, ↓e_pop_int, ↓e_dup_ref, ↓e_pop_ref, ↓e_dup2, ↓e_goto, ↓e_nop, ↓e_ifCond_eq, ↓e_if_icmp_eq, ↓e_ifCond_ne, ↓e_if_icmp_ne, ↓e_ifCond_lt, ↓e_if_icmp_lt, ↓e_ifCond_ge, ↓e_if_icmp_ge, ↓e_ifCond_gt, ↓e_if_icmp_gt, ↓e_ifCond_le, ↓e_if_icmp_le, ↓e_tab, ↓e_look, ↓e_get0, ↓e_get1, ↓e_get2, ↓e_get3, ↓e_put0, ↓e_put1, ↓e_put2, ↓e_put3, ↓e_iaload, ↓e_laload, ↓e_baload, ↓e_aaload, ↓e_iastore, ↓e_lastore, ↓e_bastore, ↓e_aastore, ↓e_alen, ↓e_new, ↓e_newarray, ↓e_anewarray, ↓e_objinit, ↓e_virt1, ↓e_virt2, ↓e_virt3, ↓e_virt4, ↓e_virt5, ↓e_virt6, ↓e_virt7, ↓e_stat0, ↓e_stat1, ↓e_stat2, ↓e_stat3, ↓e_stat4, ↓e_stat5, ↓e_stat6, ↓e_stat7, ↓e_spec1, ↓e_spec2, ↓e_spec3, ↓e_spec4, ↓e_spec5, ↓e_strlen, ↓e_charAt, ↓e_copy, ↓e_iret0, ↓e_iret1, ↓e_lret, ↓e_aret, ↓e_vret, zIsI_int, zIsL_long, zIsA_ref, zInt_int, true_and, and_true, ↓reduceIte, zGet, zSet, zSet2, zEnt, zWid, Value.category, List.map_cons, List.map_nil, List.sum_cons, List.sum_nil, List.replicate, Option.toList, Nat.reduceAdd, Nat.reduceSub, Nat.reduceMul, Nat.reduceLeDiff, Nat.reduceEqDiff, Nat.reduceLT, List.cons_append, List.nil_append, true_or, or_true, or_false, false_or, nI_ltI, nI_leI, nI_eq, nI_clamp, zIn_nI, bI_0, nI_add, nI_mul, nI_or, nI_and, nI_shl1, nI_bit, ↓pk_rem, pk_div, Nat.lt_irrefl, Nat.not_lt_zero, reduceCtorEq, B.k, B.r4, B.r5, B.r6, B.r7, B.r8, B.r9, B.r10, B.r12, B.r13, B.k104, B.k105, B.k106, B.k107, B.k108, B.k109, B.k110, B.k111, B.k112, show ¬ 28 < i + 1 by omega, hi29, hi29', s1, w, w2, show ¬ n1 < i + 1 by omega]
      · have e2 : f2 (i + 1) = 0 := if_neg (by omega)
        rw [e2]
        simp (disch := omega) only [L_6_112, zt_6_112, L_6_113, zt_6_113, ↓e_iconst0, ↓e_iconst1, ↓e_bipush0, ↓e_bipush1, ↓e_sipush0, ↓e_sipush1, ↓e_ldc0, ↓e_ldc1, ↓e_ldc_w0, ↓e_ldc_w1, ↓e_ldc2, ↓e_lconst0, ↓e_lconst1, ↓e_ldc2_w0, ↓e_ldc2_w1, ↓e_iload, ↓e_iload_n, ↓e_istore, ↓e_istore_n, ↓e_lload, ↓e_lload_n, ↓e_lstore, ↓e_lstore_n, ↓e_aload, ↓e_aload_n, ↓e_astore, ↓e_astore_n, ↓e_iinc0, ↓e_iinc1, ↓e_iadd, ↓e_isub, ↓e_imul, ↓e_iand, ↓e_ior, ↓e_ixor, ↓e_ishl, ↓e_ishr, ↓e_iushr, ↓e_ladd, ↓e_lsub, ↓e_lmul, ↓e_land, ↓e_lor, ↓e_idiv, ↓e_irem, ↓e_ldiv, ↓e_lrem, ↓e_lshl, ↓e_lcmp, ↓e_i2l, ↓e_l2i, ↓e_i2b, ↓e_i2s, ↓e_dup_int, ↓e_pop_int, ↓e_dup_ref, ↓e_pop_ref, ↓e_dup2, ↓e_goto, ↓e_nop, ↓e_ifCond_eq, ↓e_if_icmp_eq, ↓e_ifCond_ne, ↓e_if_icmp_ne, ↓e_ifCond_lt, ↓e_if_icmp_lt, ↓e_ifCond_ge, ↓e_if_icmp_ge, ↓e_ifCond_gt, ↓e_if_icmp_gt, ↓e_ifCond_le, ↓e_if_icmp_le, ↓e_tab, ↓e_look, ↓e_get0, ↓e_get1, ↓e_get2, ↓e_get3, ↓e_put0, ↓e_put1, ↓e_put2, ↓e_put3, ↓e_iaload, ↓e_laload, ↓e_baload, ↓e_aaload, ↓e_iastore, ↓e_lastore, ↓e_bastore, ↓e_aastore, ↓e_alen, ↓e_new, ↓e_newarray, ↓e_anewarray, ↓e_objinit, ↓e_virt1, ↓e_virt2, ↓e_virt3, ↓e_virt4, ↓e_virt5, ↓e_virt6, ↓e_virt7, ↓e_stat0, ↓e_stat1, ↓e_stat2, ↓e_stat3, ↓e_stat4, ↓e_stat5, ↓e_stat6, ↓e_stat7, ↓e_spec1, ↓e_spec2, ↓e_spec3, ↓e_spec4, ↓e_spec5, ↓e_strlen, ↓e_charAt, ↓e_copy, ↓e_iret0, ↓e_iret1, ↓e_lret, ↓e_aret, ↓e_vret, zIsI_int, zIsL_long, zIsA_ref, zInt_int, true_and, and_true, ↓reduceIte, zGet, zSet, zSet2, zEnt, zWid, Value.category, List.map_cons, List.map_nil, List.sum_cons, List.sum_nil, List.replicate, Option.toList, Nat.reduceAdd, Nat.reduceSub, Nat.reduceMul, Nat.reduceLeDiff, Nat.reduceEqDiff, Nat.reduceLT, List.cons_append, List.nil_append, true_or, or_true, or_false, false_or, nI_ltI, nI_leI, nI_eq, nI_clamp, zIn_nI, bI_0, nI_add, nI_mul, nI_or, nI_and, nI_shl1, nI_bit, ↓pk_rem, pk_div, Nat.lt_irrefl, Nat.not_lt_zero, reduceCtorEq, B.k, B.r4, B.r5, B.r6, B.r7, B.r8, B.r9, B.r10, B.r12, B.r13, B.k104, B.k105, B.k106, B.k107, B.k108, B.k109, B.k110, B.k111, B.k112, show ¬ 28 < i + 1 by omega, hi29, hi29', s1, w, w2, show n1 < i + 1 by omega]) (setI τ1 108 0 (nI 0), j1) ⟨g1.i (by omega) rfl, fun k hk => by rw [show k = 0 from by omega, sI_setI, if_pos ⟨rfl, rfl⟩]; rfl, fun k h1 h2 => by rw [sI_setI, if_neg (by omega)]; exact g2 k h2⟩
  dsimp only at i1 i2 i3 e2
  refine ⟨τ2, n1, f2, i1, fun i h1 h2 => ?_, fun i h => if_neg (by omega), f2b, fun θ => ?_, fun k hk => i2 k hk, fun K => ?_⟩
  · show (if 1 ≤ i + 1 ∧ i + 1 ≤ n1 then f1 (i + 1) else 0) ≤ (if 1 ≤ i ∧ i ≤ n1 then f1 i else 0)
    rw [if_pos (by omega), if_pos (by omega)]
    exact o2 i h1 h2
  · have e := o5 θ
    rw [sm_0, Nat.add_zero] at e
    refine Eq.trans e.symm (sm_congr (fun i hi => ?_))
    show ge1 θ (f1 (i + 1)) = ge1 θ (if 1 ≤ i + 1 ∧ i + 1 ≤ n1 then f1 (i + 1) else 0)
    rw [if_pos (by omega)]
  · rw [E_6]
    simp (disch := omega) only [L_6_0, zt_6_0, ↓e_iconst0, ↓e_iconst1, ↓e_bipush0, ↓e_bipush1, ↓e_sipush0, ↓e_sipush1, ↓e_ldc0, ↓e_ldc1, ↓e_ldc_w0, ↓e_ldc_w1, ↓e_ldc2, ↓e_lconst0, ↓e_lconst1, ↓e_ldc2_w0, ↓e_ldc2_w1, ↓e_iload, ↓e_iload_n, ↓e_istore, ↓e_istore_n, ↓e_lload, ↓e_lload_n, ↓e_lstore, ↓e_lstore_n, ↓e_aload, ↓e_aload_n, ↓e_astore, ↓e_astore_n, ↓e_iinc0, ↓e_iinc1, ↓e_iadd, ↓e_isub, ↓e_imul, ↓e_iand, ↓e_ior, ↓e_ixor, ↓e_ishl, ↓e_ishr, ↓e_iushr, ↓e_ladd, ↓e_lsub, ↓e_lmul, ↓e_land, ↓e_lor, ↓e_idiv, ↓e_irem, ↓e_ldiv, ↓e_lrem, ↓e_lshl, ↓e_lcmp, ↓e_i2l, ↓e_l2i, ↓e_i2b, ↓e_i2s, ↓e_dup_int, ↓e_pop_int, ↓e_dup_ref, ↓e_pop_ref, ↓e_dup2, ↓e_goto, ↓e_nop, ↓e_ifCond_eq, ↓e_if_icmp_eq, ↓e_ifCond_ne, ↓e_if_icmp_ne, ↓e_ifCond_lt, ↓e_if_icmp_lt, ↓e_ifCond_ge, ↓e_if_icmp_ge, ↓e_ifCond_gt, ↓e_if_icmp_gt, ↓e_ifCond_le, ↓e_if_icmp_le, ↓e_tab, ↓e_look, ↓e_get0, ↓e_get1, ↓e_get2, ↓e_get3, ↓e_put0, ↓e_put1, ↓e_put2, ↓e_put3, ↓e_iaload, ↓e_laload, ↓e_baload, ↓e_aaload, ↓e_iastore, ↓e_lastore, ↓e_bastore, ↓e_aastore, ↓e_alen, ↓e_new, ↓e_newarray, ↓e_anewarray, ↓e_objinit, ↓e_virt1, ↓e_virt2, ↓e_virt3, ↓e_virt4, ↓e_virt5, ↓e_virt6, ↓e_virt7, ↓e_stat0, ↓e_stat1, ↓e_stat2, ↓e_stat3, ↓e_stat4, ↓e_stat5, ↓e_stat6, ↓e_stat7, ↓e_spec1, ↓e_spec2, ↓e_spec3, ↓e_spec4, ↓e_spec5, ↓e_strlen, ↓e_charAt, ↓e_copy, ↓e_iret0, ↓e_iret1, ↓e_lret, ↓e_aret, ↓e_vret, zIsI_int, zIsL_long, zIsA_ref, zInt_int, true_and, and_true, ↓reduceIte, zGet, zSet, zSet2, zEnt, zWid, Value.category, List.map_cons, List.map_nil, List.sum_cons, List.sum_nil, List.replicate, Option.toList, Nat.reduceAdd, Nat.reduceSub, Nat.reduceMul, Nat.reduceLeDiff, Nat.reduceEqDiff, Nat.reduceLT, List.cons_append, List.nil_append, true_or, or_true, or_false, false_or, nI_ltI, nI_leI, nI_eq, nI_clamp, zIn_nI, bI_0, nI_add, nI_mul, nI_or, nI_and, nI_shl1, nI_bit, ↓pk_rem, pk_div, Nat.lt_irrefl, Nat.not_lt_zero, reduceCtorEq]
    refine Eq.trans (congrFun e1 K) ?_
    rw [L_6_4, zt_6_4]
    simp (disch := omega) only [L_6_70, zt_6_70, ↓e_iconst0, ↓e_iconst1, ↓e_bipush0, ↓e_bipush1, ↓e_sipush0, ↓e_sipush1, ↓e_ldc0, ↓e_ldc1, ↓e_ldc_w0, ↓e_ldc_w1, ↓e_ldc2, ↓e_lconst0, ↓e_lconst1, ↓e_ldc2_w0, ↓e_ldc2_w1, ↓e_iload, ↓e_iload_n, ↓e_istore, ↓e_istore_n, ↓e_lload, ↓e_lload_n, ↓e_lstore, ↓e_lstore_n, ↓e_aload, ↓e_aload_n, ↓e_astore, ↓e_astore_n, ↓e_iinc0, ↓e_iinc1, ↓e_iadd, ↓e_isub, ↓e_imul, ↓e_iand, ↓e_ior, ↓e_ixor, ↓e_ishl, ↓e_ishr, ↓e_iushr, ↓e_ladd, ↓e_lsub, ↓e_lmul, ↓e_land, ↓e_lor, ↓e_idiv, ↓e_irem, ↓e_ldiv, ↓e_lrem, ↓e_lshl, ↓e_lcmp, ↓e_i2l, ↓e_l2i, ↓e_i2b, ↓e_i2s, ↓e_dup_int, ↓e_pop_int, ↓e_dup_ref, ↓e_pop_ref, ↓e_dup2, ↓e_goto, ↓e_nop, ↓e_ifCond_eq, ↓e_if_icmp_eq, ↓e_ifCond_ne, ↓e_if_icmp_ne, ↓e_ifCond_lt, ↓e_if_icmp_lt, ↓e_ifCond_ge, ↓e_if_icmp_ge, ↓e_ifCond_gt, ↓e_if_icmp_gt, ↓e_ifCond_le, ↓e_if_icmp_le, ↓e_tab, ↓e_look, ↓e_get0, ↓e_get1, ↓e_get2, ↓e_get3, ↓e_put0, ↓e_put1, ↓e_put2, ↓e_put3, ↓e_iaload, ↓e_laload, ↓e_baload, ↓e_aaload, ↓e_iastore, ↓e_lastore, ↓e_bastore, ↓e_aastore, ↓e_alen, ↓e_new, ↓e_newarray, ↓e_anewarray, ↓e_objinit, ↓e_virt1, ↓e_virt2, ↓e_virt3, ↓e_virt4, ↓e_virt5, ↓e_virt6, ↓e_virt7, ↓e_stat0, ↓e_stat1, ↓e_stat2, ↓e_stat3, ↓e_stat4, ↓e_stat5, ↓e_stat6, ↓e_stat7, ↓e_spec1, ↓e_spec2, ↓e_spec3, ↓e_spec4, ↓e_spec5, ↓e_strlen, ↓e_charAt, ↓e_copy, ↓e_iret0, ↓e_iret1, ↓e_lret, ↓e_aret, ↓e_vret, zIsI_int, zIsL_long, zIsA_ref, zInt_int, true_and, and_true, ↓reduceIte, zGet, zSet, zSet2, zEnt, zWid, Value.category, List.map_cons, List.map_nil, List.sum_cons, List.sum_nil, List.replicate, Option.toList, Nat.reduceAdd, Nat.reduceSub, Nat.reduceMul, Nat.reduceLeDiff, Nat.reduceEqDiff, Nat.reduceLT, List.cons_append, List.nil_append, true_or, or_true, or_false, false_or, nI_ltI, nI_leI, nI_eq, nI_clamp, zIn_nI, bI_0, nI_add, nI_mul, nI_or, nI_and, nI_shl1, nI_bit, ↓pk_rem, pk_div, Nat.lt_irrefl, Nat.not_lt_zero, reduceCtorEq, B1.k, B1.r4, B1.r5, B1.r6, B1.r7, B1.r8, B1.r9, B1.r10, B1.r12, B1.r13, B1.k104, B1.k105, B1.k106, B1.k107, B1.k108, B1.k109, B1.k110, B1.k111, B1.k112]
    refine Eq.trans (congrFun e2 K) ?_
    rw [L_6_79, zt_6_79]
    simp (disch := omega) only [L_6_121, zt_6_121, ↓e_iconst0, ↓e_iconst1, ↓e_bipush0, ↓e_bipush1, ↓e_sipush0, ↓e_sipush1, ↓e_ldc0, ↓e_ldc1, ↓e_ldc_w0, ↓e_ldc_w1, ↓e_ldc2, ↓e_lconst0, ↓e_lconst1, ↓e_ldc2_w0, ↓e_ldc2_w1, ↓e_iload, ↓e_iload_n, ↓e_istore, ↓e_istore_n, ↓e_lload, ↓e_lload_n, ↓e_lstore, ↓e_lstore_n, ↓e_aload, ↓e_aload_n, ↓e_astore, ↓e_astore_n, ↓e_iinc0, ↓e_iinc1, ↓e_iadd, ↓e_isub, ↓e_imul, ↓e_iand, ↓e_ior, ↓e_ixor, ↓e_ishl, ↓e_ishr, ↓e_iushr, ↓e_ladd, ↓e_lsub, ↓e_lmul, ↓e_land, ↓e_lor, ↓e_idiv, ↓e_irem, ↓e_ldiv, ↓e_lrem, ↓e_lshl, ↓e_lcmp, ↓e_i2l, ↓e_l2i, ↓e_i2b, ↓e_i2s, ↓e_dup_int, ↓e_pop_int, ↓e_dup_ref, ↓e_pop_ref, ↓e_dup2, ↓e_goto, ↓e_nop, ↓e_ifCond_eq, ↓e_if_icmp_eq, ↓e_ifCond_ne, ↓e_if_icmp_ne, ↓e_ifCond_lt, ↓e_if_icmp_lt, ↓e_ifCond_ge, ↓e_if_icmp_ge, ↓e_ifCond_gt, ↓e_if_icmp_gt, ↓e_ifCond_le, ↓e_if_icmp_le, ↓e_tab, ↓e_look, ↓e_get0, ↓e_get1, ↓e_get2, ↓e_get3, ↓e_put0, ↓e_put1, ↓e_put2, ↓e_put3, ↓e_iaload, ↓e_laload, ↓e_baload, ↓e_aaload, ↓e_iastore, ↓e_lastore, ↓e_bastore, ↓e_aastore, ↓e_alen, ↓e_new, ↓e_newarray, ↓e_anewarray, ↓e_objinit, ↓e_virt1, ↓e_virt2, ↓e_virt3, ↓e_virt4, ↓e_virt5, ↓e_virt6, ↓e_virt7, ↓e_stat0, ↓e_stat1, ↓e_stat2, ↓e_stat3, ↓e_stat4, ↓e_stat5, ↓e_stat6, ↓e_stat7, ↓e_spec1, ↓e_spec2, ↓e_spec3, ↓e_spec4, ↓e_spec5, ↓e_strlen, ↓e_charAt, ↓e_copy, ↓e_iret0, ↓e_iret1, ↓e_lret, ↓e_aret, ↓e_vret, zIsI_int, zIsL_long, zIsA_ref, zInt_int, true_and, and_true, ↓reduceIte, zGet, zSet, zSet2, zEnt, zWid, Value.category, List.map_cons, List.map_nil, List.sum_cons, List.sum_nil, List.replicate, Option.toList, Nat.reduceAdd, Nat.reduceSub, Nat.reduceMul, Nat.reduceLeDiff, Nat.reduceEqDiff, Nat.reduceLT, List.cons_append, List.nil_append, true_or, or_true, or_false, false_or, nI_ltI, nI_leI, nI_eq, nI_clamp, zIn_nI, bI_0, nI_add, nI_mul, nI_or, nI_and, nI_shl1, nI_bit, ↓pk_rem, pk_div, Nat.lt_irrefl, Nat.not_lt_zero, reduceCtorEq]
end ADX
