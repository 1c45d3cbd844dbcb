/-! THE LAW, WHOLE -/
section MAI
variable {n i L k : Nat} {xs : Nat → Int32} {σ τ ρ : MS} {s s' : Sx}
theorem and63 (v : Int32) : ∃ k, k < 64 ∧ v &&& nI 63 = nI k := by
  refine ⟨v.toBitVec.toNat % 64, Nat.mod_lt _ (by decide), ?_⟩
  have h : v.toBitVec.toNat % 64 < 64 := Nat.mod_lt _ (by decide)
  apply Int32.toBitVec_inj.mp
  apply BitVec.eq_of_toNat_eq
  rw [Int32.toBitVec_and, BitVec.toNat_and]
  have e1 : (nI 63).toBitVec.toNat = 2 ^ 6 - 1 := by decide
  have e2 : (nI (v.toBitVec.toNat % 64)).toBitVec.toNat = v.toBitVec.toNat % 64 := by
    show (v.toBitVec.toNat % 64) % 2 ^ 32 = _
    exact Nat.mod_eq_of_lt (by omega)
  rw [e1, e2, Nat.and_two_pow_sub_one_eq_mod]
theorem law_all (hn : n < 600) (hi : i + 6 ≤ L) (hL : L ≤ 3072) : ∀ k, k < 64 → LStep L xs n i k
  | 0, _ => law_0 hn hi hL
  | 1, _ => law_1 hn hi hL
  | 2, _ => law_2 hn hi hL
  | 3, _ => law_3 hn hi hL
  | 4, _ => law_4 hn hi hL
  | 5, _ => law_5 hn hi hL
  | 6, _ => law_6 hn hi hL
  | 7, _ => law_7 hn hi hL
  | 8, _ => law_8 hn hi hL
  | 9, _ => law_9 hn hi hL
  | 10, _ => law_10 hn hi hL
  | 11, _ => law_11 hn hi hL
  | 12, _ => law_12 hn hi hL
  | 13, _ => law_13 hn hi hL
  | 14, _ => law_14 hn hi hL
  | 15, _ => law_15 hn hi hL
  | 16, _ => law_16 hn hi hL
  | 17, _ => law_17 hn hi hL
  | 18, _ => law_18 hn hi hL
  | 19, _ => law_19 hn hi hL
  | 20, _ => law_20 hn hi hL
  | 21, _ => law_21 hn hi hL
  | 22, _ => law_22 hn hi hL
  | 23, _ => law_23 hn hi hL
  | 24, _ => law_24 hn hi hL
  | 25, _ => law_25 hn hi hL
  | 26, _ => law_26 hn hi hL
  | 27, _ => law_27 hn hi hL
  | 28, _ => law_28 hn hi hL
  | 29, _ => law_29 hn hi hL
  | 30, _ => law_30 hn hi hL
  | 31, _ => law_31 hn hi hL
  | 32, _ => law_32 hn hi hL
  | 33, _ => law_33 hn hi hL
  | 34, _ => law_34 hn hi hL
  | 35, _ => law_35 hn hi hL
  | 36, _ => law_36 hn hi hL
  | 37, _ => law_37 hn hi hL
  | 38, _ => law_38 hn hi hL
  | 39, _ => law_39 hn hi hL
  | 40, _ => law_40 hn hi hL
  | 41, _ => law_41 hn hi hL
  | 42, _ => law_42 hn hi hL
  | 43, _ => law_43 hn hi hL
  | 44, _ => law_44 hn hi hL
  | 45, _ => law_45 hn hi hL
  | 46, _ => law_46 hn hi hL
  | 47, _ => law_47 hn hi hL
  | 48, _ => law_48 hn hi hL
  | 49, _ => law_49 hn hi hL
  | 50, _ => law_50 hn hi hL
  | 51, _ => law_51 hn hi hL
  | 52, _ => law_52 hn hi hL
  | 53, _ => law_53 hn hi hL
  | 54, _ => law_54 hn hi hL
  | 55, _ => law_55 hn hi hL
  | 56, _ => law_56 hn hi hL
  | 57, _ => law_57 hn hi hL
  | 58, _ => law_58 hn hi hL
  | 59, _ => law_59 hn hi hL
  | 60, _ => law_60 hn hi hL
  | 61, _ => law_61 hn hi hL
  | 62, _ => law_62 hn hi hL
  | 63, _ => law_63 hn hi hL
  | k + 64, h => absurd h (by omega)
theorem over6 (hi : ¬ i + 6 ≤ L) (hL : L ≤ 3072) (iL : i ≤ L) : nI L - nI 6 < nI i := by
  by_cases h : 6 ≤ L
  · have e : nI L - nI 6 = nI (L - 6) := by
      symm
      apply Int32.eq_sub_iff_add_eq.mpr
      rw [nI_add]
      congr 1
      omega
    rw [e, nI_ltI (by omega) (by omega)]
    omega
  · have : L = 0 ∨ L = 1 ∨ L = 2 ∨ L = 3 ∨ L = 4 ∨ L = 5 := by omega
    have hneg : nI L - nI 6 < nI 0 := by rcases this with rfl | rfl | rfl | rfl | rfl | rfl <;> decide
    have h0 : ¬ nI i < nI 0 := by rw [nI_ltI (by omega) (by omega)]; omega
    rw [Int32.lt_iff_toInt_lt] at hneg h0 ⊢
    omega
theorem law_run (hL : L ≤ 3072) : ∀ (m n i : Nat) (σ : MS) (s : Sx), L < m + i → i = 6 * n → i ≤ L → LI L xs n σ s →
   zX 30 385 18 [.ref 0, .ref 1, .ref 120, .int (nI i)] [] σ (fun r τ => r = some (.int 1) ∧ τ.1.length ≤ 600001 ∧ zsl τ ≤ L + 7302249) := by
  intro m
  induction m with
  | zero => intro n i σ s h1 h2 h3 H; omega
  | succ m ih =>
    intro n i σ s h1 h2 h3 H
    by_cases hi : i + 6 ≤ L
    · obtain ⟨k, hk, hc⟩ := and63 (xs i)
      obtain ⟨τ, s', H', e⟩ := law_all (xs := xs) (by omega : n < 600) hi hL k hk σ s H hc
      rw [e]
      exact ih (n + 1) (i + 6) τ s' (by omega) (by omega) hi H'
    · have lwi := over6 hi hL h3
      have kk := H.k
      have l2 := H.l2
      have hz := H.z
      have zz : 0 < zNul := by decide
      rw [L_385_18]
      simp (disch := omega) only [zt_385_18, L_385_2071, zt_385_2071, ↓e_iconst0, ↓e_iconst1, ↓e_bipush0, ↓e_bipush1, ↓e_sipush0, ↓e_sipush1, ↓e_ldc0, ↓e_ldc1, ↓e_ldc_w0, ↓e_ldc_w1, ↓e_ldc2, ↓e_lconst0, ↓e_lconst1, ↓e_ldc2_w0, ↓e_ldc2_w1, ↓e_iload, ↓e_iload_n, ↓e_istore, ↓e_istore_n, ↓e_lload, ↓e_lload_n, ↓e_lstore, ↓e_lstore_n, ↓e_aload, ↓e_aload_n, ↓e_astore, ↓e_astore_n, ↓e_iinc0, ↓e_iinc1, ↓e_iadd, ↓e_isub, ↓e_imul, ↓e_iand, ↓e_ior, ↓e_ixor, ↓e_ishl, ↓e_ishr, ↓e_iushr, ↓e_ladd, ↓e_lsub, ↓e_lmul, ↓e_land, ↓e_lor, ↓e_idiv, ↓e_irem, ↓e_ldiv, ↓e_lrem, ↓e_lshl, ↓e_lcmp, ↓e_i2l, ↓e_l2i, ↓e_i2b, ↓e_i2s, ↓e_dup_int, ↓e_pop_int, ↓e_dup_ref, ↓e_pop_ref, ↓e_dup2, ↓e_goto, ↓e_nop, ↓e_ifCond_eq, ↓e_if_icmp_eq, ↓e_ifCond_ne, ↓e_if_icmp_ne, ↓e_ifCond_lt, ↓e_if_icmp_lt, ↓e_ifCond_ge, ↓e_if_icmp_ge, ↓e_ifCond_gt, ↓e_if_icmp_gt, ↓e_ifCond_le, ↓e_if_icmp_le, ↓e_tab, ↓e_look, ↓e_get0, ↓e_get1, ↓e_get2, ↓e_get3, ↓e_put0, ↓e_put1, ↓e_put2, ↓e_put3, ↓e_iaload, ↓e_laload, ↓e_baload, ↓e_aaload, ↓e_iastore, ↓e_lastore, ↓e_bastore, ↓e_aastore, ↓e_alen, ↓e_new, ↓e_newarray, ↓e_anewarray, ↓e_objinit, ↓e_virt1, ↓e_virt2, ↓e_virt3, ↓e_virt4, ↓e_virt5, ↓e_virt6, ↓e_virt7, ↓e_stat0, ↓e_stat1, ↓e_stat2, ↓e_stat3, ↓e_stat4, ↓e_stat5, ↓e_stat6, ↓e_stat7, ↓e_spec1, ↓e_spec2, ↓e_spec3, ↓e_spec4, ↓e_spec5, ↓e_strlen, ↓e_charAt, ↓e_copy, ↓e_iret0, ↓e_iret1, ↓e_lret, ↓e_aret, ↓e_vret, zIsI_int, zIsL_long, zIsA_ref, zInt_int, true_and, and_true, ↓reduceIte, zGet, zSet, zSet2, zEnt, zWid, Value.category, List.map_cons, List.map_nil, List.sum_cons, List.sum_nil, List.replicate, Option.toList, Nat.reduceAdd, Nat.reduceSub, Nat.reduceMul, Nat.reduceLeDiff, Nat.reduceEqDiff, Nat.reduceLT, List.cons_append, List.nil_append, true_or, or_true, or_false, false_or, nI_ltI, nI_leI, nI_eq, nI_clamp, zIn_nI, bI_0, nI_add, nI_mul, nI_or, nI_and, nI_shl1, nI_bit, ↓pk_rem, pk_div, Nat.lt_irrefl, Nat.not_lt_zero, reduceCtorEq, kk, lwi]
      exact ⟨rfl, by omega, by omega⟩
theorem zmain (hL : L ≤ 3072) (xs : Nat → Int32) : zX 30 385 0 (zEnt [.ref 0] 4) [] (z0 L xs) (fun r τ => r = some (.int 1) ∧ τ.1.length ≤ 600001 ∧ zsl τ ≤ L + 7302249) := by
  obtain ⟨σ1, hs1⟩ : ∃ σ1, σ1 = zNew (z0 L xs) (0, 10) := ⟨_, rfl⟩
  have n0 : (z0 L xs).1.length = 1 := rfl
  have n1 : σ1.1.length = 2 := by rw [hs1]; rfl
  have k1 : sK σ1 1 = (0, 10) := by rw [hs1]; rfl
  have zi : ∀ j, sI σ1 1 j = nI 0 := fun j => by rw [hs1]; rfl
  have zl : ∀ j, sL σ1 1 j = lN 0 := fun j => by rw [hs1]; rfl
  obtain ⟨τ, l1, u1, I, e1⟩ := X_init (d := 25) n1 k1 zi zl
  have n2 : τ.1.length = 120 := by rw [l1, List.length_append, n1]; rfl
  obtain ⟨ρ, l2, a1, J, e2⟩ := M_init (σ := τ) (d := 25) n2
  have n3 : ρ.1.length = 143 := by rw [l2, List.length_append, n2]; rfl
  have q1 : (kX.map zsz).sum ≤ 10000 := by decide +kernel
  have q2 : (((0, 11) :: fMod.map (fun p => p.2)).map zsz).sum ≤ 9900 := by decide +kernel
  have q3 : ([(6, L), (0, 10)].map zsz).sum ≤ L + 100 := by
    have : zsz (0, 10) ≤ 100 := by decide +kernel
    show L + (zsz (0, 10) + 0) ≤ _
    omega
  have hz : zsl ρ ≤ L + 20000 + 40 * 0 := by
    unfold zsl
    rw [l2, l1, List.map_append, List.map_append, List.sum_append_nat, List.sum_append_nat, hs1]
    show ([(6, L), (0, 10)].map zsz).sum + _ + _ ≤ _
    omega
  have k0 : sK ρ 0 = (6, L) := (a1.K (by omega)).trans ((u1.2 0 (by omega) (by omega)).1.trans (by rw [hs1]; rfl))
  have i0 : ∀ j, sI ρ 0 j = xs j := fun j => (a1.I (by omega) j).trans (((u1.2 0 (by omega) (by omega)).2.1 j).trans (by rw [hs1]; rfl))
  have H : LI L xs 0 ρ s0 := LI.mk ⟨2, 14, 26, 31, I.lo (show 0 ≤ 3 by omega) a1⟩ J SOk_s0 k0 i0 (by omega) (by omega) hz
  have z1 : 1 < zNul := by decide
  have z2 : 120 < zNul := by decide
  have y1 : sK (zNew (z0 L xs) (0, 10)) 1 = (0, 10) := rfl
  have y2 : sK (zNew τ (0, 11)) 120 = (0, 11) := by rw [← n2]; exact sK_zNew0
  have R := law_run (xs := xs) hL (L + 1) 0 0 ρ s0 (by omega) rfl (by omega) H
  show zX 30 385 0 [.ref 0, .null, .null, .null] [] (z0 L xs) _
  rw [L_385_0]
  simp (disch := omega) only [zt_385_0, ↓e_iconst0, ↓e_iconst1, ↓e_bipush0, ↓e_bipush1, ↓e_sipush0, ↓e_sipush1, ↓e_ldc0, ↓e_ldc1, ↓e_ldc_w0, ↓e_ldc_w1, ↓e_ldc2, ↓e_lconst0, ↓e_lconst1, ↓e_ldc2_w0, ↓e_ldc2_w1, ↓e_iload, ↓e_iload_n, ↓e_istore, ↓e_istore_n, ↓e_lload, ↓e_lload_n, ↓e_lstore, ↓e_lstore_n, ↓e_aload, ↓e_aload_n, ↓e_astore, ↓e_astore_n, ↓e_iinc0, ↓e_iinc1, ↓e_iadd, ↓e_isub, ↓e_imul, ↓e_iand, ↓e_ior, ↓e_ixor, ↓e_ishl, ↓e_ishr, ↓e_iushr, ↓e_ladd, ↓e_lsub, ↓e_lmul, ↓e_land, ↓e_lor, ↓e_idiv, ↓e_irem, ↓e_ldiv, ↓e_lrem, ↓e_lshl, ↓e_lcmp, ↓e_i2l, ↓e_l2i, ↓e_i2b, ↓e_i2s, ↓e_dup_int, ↓e_pop_int, ↓e_dup_ref, ↓e_pop_ref, ↓e_dup2, ↓e_goto, ↓e_nop, ↓e_ifCond_eq, ↓e_if_icmp_eq, ↓e_ifCond_ne, ↓e_if_icmp_ne, ↓e_ifCond_lt, ↓e_if_icmp_lt, ↓e_ifCond_ge, ↓e_if_icmp_ge, ↓e_ifCond_gt, ↓e_if_icmp_gt, ↓e_ifCond_le, ↓e_if_icmp_le, ↓e_tab, ↓e_look, ↓e_get0, ↓e_get1, ↓e_get2, ↓e_get3, ↓e_put0, ↓e_put1, ↓e_put2, ↓e_put3, ↓e_iaload, ↓e_laload, ↓e_baload, ↓e_aaload, ↓e_iastore, ↓e_lastore, ↓e_bastore, ↓e_aastore, ↓e_alen, ↓e_new, ↓e_newarray, ↓e_anewarray, ↓e_objinit, ↓e_virt1, ↓e_virt2, ↓e_virt3, ↓e_virt4, ↓e_virt5, ↓e_virt6, ↓e_virt7, ↓e_stat0, ↓e_stat1, ↓e_stat2, ↓e_stat3, ↓e_stat4, ↓e_stat5, ↓e_stat6, ↓e_stat7, ↓e_spec1, ↓e_spec2, ↓e_spec3, ↓e_spec4, ↓e_spec5, ↓e_strlen, ↓e_charAt, ↓e_copy, ↓e_iret0, ↓e_iret1, ↓e_lret, ↓e_aret, ↓e_vret, zIsI_int, zIsL_long, zIsA_ref, zInt_int, true_and, and_true, ↓reduceIte, zGet, zSet, zSet2, zEnt, zWid, Value.category, List.map_cons, List.map_nil, List.sum_cons, List.sum_nil, List.replicate, Option.toList, Nat.reduceAdd, Nat.reduceSub, Nat.reduceMul, Nat.reduceLeDiff, Nat.reduceEqDiff, Nat.reduceLT, List.cons_append, List.nil_append, true_or, or_true, or_false, false_or, nI_ltI, nI_leI, nI_eq, nI_clamp, zIn_nI, bI_0, nI_add, nI_mul, nI_or, nI_and, nI_shl1, nI_bit, ↓pk_rem, pk_div, Nat.lt_irrefl, Nat.not_lt_zero, reduceCtorEq, n0, k1, ← hs1, n1, ↓e1, n2, ↓e2, y1, y2, z1, z2]
  exact R
end MAI
