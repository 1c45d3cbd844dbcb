/-! THE MODEL'S SLOTS -/
def RSl (σ : MS) (s : Nat) (A : Ofc) : Prop := (sI σ 121 (404 * s + 0) = nI A.nt) ∧ (sI σ 121 (404 * s + 1) = nI A.np) ∧ (sI σ 121 (404 * s + 2) = nI A.nc) ∧ (sI σ 121 (404 * s + 3) = nI A.wide) ∧ (sI σ 121 (404 * s + 4) = nI A.high) ∧ (sI σ 121 (404 * s + 5) = nI A.near) ∧ (sI σ 121 (404 * s + 6) = nI A.odds) ∧ (∀ t, t < A.nt → sI σ 121 (404 * s + (8 + t)) = nI (A.w t)) ∧ (∀ p, p < A.np → sI σ 121 (404 * s + (16 + 2 * p)) = nI (A.tr p)) ∧ (∀ p, p < A.np → sI σ 121 (404 * s + (16 + 2 * p + 1)) = oI (A.pl p)) ∧ (∀ c, c < A.nc → sI σ 121 (404 * s + (32 + c)) = nI (A.ck c)) ∧ (∀ t, t < A.nt → sL σ 122 (20 * s + t) = lN (nm256 (A.tn t))) ∧ (∀ p, p < A.np → sL σ 122 (20 * s + (8 + p)) = lN (nm256 (A.pn p))) ∧ (∀ c, c < A.nc → sL σ 122 (20 * s + (16 + c)) = lN (nm256 (A.cn c)))
theorem RSl.a0 {σ : MS} {s : Nat} {A : Ofc} (H : RSl σ s A) : sI σ 121 (404 * s + 0) = nI A.nt := H.1
theorem RSl.a1 {σ : MS} {s : Nat} {A : Ofc} (H : RSl σ s A) : sI σ 121 (404 * s + 1) = nI A.np := H.2.1
theorem RSl.a2 {σ : MS} {s : Nat} {A : Ofc} (H : RSl σ s A) : sI σ 121 (404 * s + 2) = nI A.nc := H.2.2.1
theorem RSl.a3 {σ : MS} {s : Nat} {A : Ofc} (H : RSl σ s A) : sI σ 121 (404 * s + 3) = nI A.wide := H.2.2.2.1
theorem RSl.a4 {σ : MS} {s : Nat} {A : Ofc} (H : RSl σ s A) : sI σ 121 (404 * s + 4) = nI A.high := H.2.2.2.2.1
theorem RSl.a5 {σ : MS} {s : Nat} {A : Ofc} (H : RSl σ s A) : sI σ 121 (404 * s + 5) = nI A.near := H.2.2.2.2.2.1
theorem RSl.a6 {σ : MS} {s : Nat} {A : Ofc} (H : RSl σ s A) : sI σ 121 (404 * s + 6) = nI A.odds := H.2.2.2.2.2.2.1
theorem RSl.a8 {σ : MS} {s : Nat} {A : Ofc} (H : RSl σ s A) : ∀ t, t < A.nt → sI σ 121 (404 * s + (8 + t)) = nI (A.w t) := H.2.2.2.2.2.2.2.1
theorem RSl.a16 {σ : MS} {s : Nat} {A : Ofc} (H : RSl σ s A) : ∀ p, p < A.np → sI σ 121 (404 * s + (16 + 2 * p)) = nI (A.tr p) := H.2.2.2.2.2.2.2.2.1
theorem RSl.a17 {σ : MS} {s : Nat} {A : Ofc} (H : RSl σ s A) : ∀ p, p < A.np → sI σ 121 (404 * s + (16 + 2 * p + 1)) = oI (A.pl p) := H.2.2.2.2.2.2.2.2.2.1
theorem RSl.a32 {σ : MS} {s : Nat} {A : Ofc} (H : RSl σ s A) : ∀ c, c < A.nc → sI σ 121 (404 * s + (32 + c)) = nI (A.ck c) := H.2.2.2.2.2.2.2.2.2.2.1
theorem RSl.n0 {σ : MS} {s : Nat} {A : Ofc} (H : RSl σ s A) : ∀ t, t < A.nt → sL σ 122 (20 * s + t) = lN (nm256 (A.tn t)) := H.2.2.2.2.2.2.2.2.2.2.2.1
theorem RSl.n8 {σ : MS} {s : Nat} {A : Ofc} (H : RSl σ s A) : ∀ p, p < A.np → sL σ 122 (20 * s + (8 + p)) = lN (nm256 (A.pn p)) := H.2.2.2.2.2.2.2.2.2.2.2.2.1
theorem RSl.n16 {σ : MS} {s : Nat} {A : Ofc} (H : RSl σ s A) : ∀ c, c < A.nc → sL σ 122 (20 * s + (16 + c)) = lN (nm256 (A.cn c)) := H.2.2.2.2.2.2.2.2.2.2.2.2.2
theorem RSl.mk {σ : MS} {s : Nat} {A : Ofc} (a0 : sI σ 121 (404 * s + 0) = nI A.nt) (a1 : sI σ 121 (404 * s + 1) = nI A.np) (a2 : sI σ 121 (404 * s + 2) = nI A.nc) (a3 : sI σ 121 (404 * s + 3) = nI A.wide) (a4 : sI σ 121 (404 * s + 4) = nI A.high) (a5 : sI σ 121 (404 * s + 5) = nI A.near) (a6 : sI σ 121 (404 * s + 6) = nI A.odds) (a8 : ∀ t, t < A.nt → sI σ 121 (404 * s + (8 + t)) = nI (A.w t)) (a16 : ∀ p, p < A.np → sI σ 121 (404 * s + (16 + 2 * p)) = nI (A.tr p)) (a17 : ∀ p, p < A.np → sI σ 121 (404 * s + (16 + 2 * p + 1)) = oI (A.pl p)) (a32 : ∀ c, c < A.nc → sI σ 121 (404 * s + (32 + c)) = nI (A.ck c)) (n0 : ∀ t, t < A.nt → sL σ 122 (20 * s + t) = lN (nm256 (A.tn t))) (n8 : ∀ p, p < A.np → sL σ 122 (20 * s + (8 + p)) = lN (nm256 (A.pn p))) (n16 : ∀ c, c < A.nc → sL σ 122 (20 * s + (16 + c)) = lN (nm256 (A.cn c))) : RSl σ s A := ⟨a0, a1, a2, a3, a4, a5, a6, a8, a16, a17, a32, n0, n8, n16⟩
section SLT
variable {d : Nat} {σ τ : MS} {A : Ofc} {K : Option Value → MS → Prop}
theorem RMod.sl (M : RMod σ A) : RSl σ 0 A := by
  have z : ∀ j, 404 * 0 + j = j := fun j => by omega
  have y : ∀ j, 20 * 0 + j = j := fun j => by omega
  refine RSl.mk ?_ ?_ ?_ ?_ ?_ ?_ ?_ ?_ ?_ ?_ ?_ ?_ ?_ ?_ <;> simp only [z, y]
  · exact M.a0
  · exact M.a1
  · exact M.a2
  · exact M.a3
  · exact M.a4
  · exact M.a5
  · exact M.a6
  · exact M.a8
  · exact M.a16
  · exact M.a17
  · exact M.a32
  · exact M.n0
  · exact M.n8
  · exact M.n16
theorem RSl.mod (S : RSl σ 0 A) (M : RMk σ) : RMod σ A := by
  have z : ∀ j, 404 * 0 + j = j := fun j => by omega
  have y : ∀ j, 20 * 0 + j = j := fun j => by omega
  obtain ⟨h1, h2, h3, h4, h5, h6, h7, h8, h9, h10, h11, h12, h13, h14⟩ := S
  simp only [z, y] at h1 h2 h3 h4 h5 h6 h7 h8 h9 h10 h11 h12 h13 h14
  exact RMod.mk M h1 h2 h3 h4 h5 h6 h7 h8 h9 h10 h11 h12 h13 h14
/-- the same in another slot, in another state -/
theorem RSl.to {s t : Nat} (S : RSl σ s A) (O : OfcOk A) (hI : ∀ j, j < 36 → sI τ 121 (404 * t + j) = sI σ 121 (404 * s + j)) (hL : ∀ j, j < 20 → sL τ 122 (20 * t + j) = sL σ 122 (20 * s + j)) : RSl τ t A := by
  have t8 := O.t8
  have p8 := O.p8
  have c4 := O.c4
  exact RSl.mk ((hI _ (by omega)).trans S.a0) ((hI _ (by omega)).trans S.a1) ((hI _ (by omega)).trans S.a2) ((hI _ (by omega)).trans S.a3) ((hI _ (by omega)).trans S.a4) ((hI _ (by omega)).trans S.a5) ((hI _ (by omega)).trans S.a6) (fun q h => (hI _ (by omega)).trans (S.a8 q h)) (fun q h => (hI _ (by omega)).trans (S.a16 q h)) (fun q h => (hI _ (by omega)).trans (S.a17 q h)) (fun q h => (hI _ (by omega)).trans (S.a32 q h)) (fun q h => (hL _ (by omega)).trans (S.n0 q h)) (fun q h => (hL _ (by omega)).trans (S.n8 q h)) (fun q h => (hL _ (by omega)).trans (S.n16 q h))
theorem m_copies (M : RMk σ) {f t : Nat} (hf : f < 4) (ht : t < 4) (hne : f ≠ t) :
   ∃ τ, Ag (fun b => b = 121 ∨ b = 122) σ τ ∧ (∀ j, j < 404 → sI τ 121 (404 * t + j) = sI σ 121 (404 * f + j)) ∧ (∀ j, (j < 404 * t ∨ 404 * t + 404 ≤ j) → sI τ 121 j = sI σ 121 j) ∧ (∀ j, j < 20 → sL τ 122 (20 * t + j) = sL σ 122 (20 * f + j)) ∧ (∀ j, (j < 20 * t ∨ 20 * t + 20 ≤ j) → sL τ 122 j = sL σ 122 j) ∧ ∀ K, zC (d + 1) 382 [.ref 120, .int (nI f), .int (nI t)] σ K = K none τ := by
  have M0 := M
  obtain ⟨g, i1, e1⟩ := zloop (fun i (g : Nat → Int32) => ∀ j, g j = if 404 * t ≤ j ∧ j < 404 * t + i then sI σ 121 (404 * f + (j - 404 * t)) else sI σ 121 j) (P := fun i g K => zX d 382 2 [.ref 120, .int (nI f), .int (nI t), .int (nI i)] [] (upA σ 121 g) K) (n := 404) (fun i g hi hg => by
    have M : RMk (upA σ 121 g) := M0.ag (Ag.rf.upA (p := fun b => b = 121) rfl)
    have gi : ∀ j, sI (upA σ 121 g) 121 j = g j := fun j => by rw [sI_upA, if_pos rfl]
    have b1 : 404 * t + i < 2640 := by omega
    have b2 : 404 * f + i < 2640 := by omega
    have r : g (404 * f + i) = sI σ 121 (404 * f + i) := by rw [hg, if_neg (by omega)]
    refine ⟨fun j => if j = 404 * t + i then sI σ 121 (404 * f + i) else g j, fun j => ?_, ?_⟩
    · show (if j = 404 * t + i then sI σ 121 (404 * f + i) else g j) = _
      by_cases h1 : j = 404 * t + i
      · subst h1; rw [if_pos rfl, if_pos ⟨by omega, by omega⟩, Nat.add_sub_cancel_left]
      · rw [if_neg h1, hg j]
        by_cases h2 : 404 * t ≤ j ∧ j < 404 * t + i
        · rw [if_pos h2, if_pos ⟨by omega, by omega⟩]
        · rw [if_neg h2, if_neg (by omega)]
    · funext K
      rw [← setI_upA]
      generalize upA σ 121 g = ρ at M gi
      rw [L_382_2, zt_382_2]
      simp (disch := omega) only [↓e_iconst0, ↓e_iconst1, ↓e_bipush0, ↓e_bipush1, ↓e_sipush0, ↓e_sipush1, ↓e_ldc0, ↓e_ldc1, ↓e_ldc_w0, ↓e_ldc_w1, ↓e_ldc2, ↓e_lconst0, ↓e_lconst1, ↓e_ldc2_w0, ↓e_ldc2_w1, ↓e_iload, ↓e_iload_n, ↓e_istore, ↓e_istore_n, ↓e_lload, ↓e_lload_n, ↓e_lstore, ↓e_lstore_n, ↓e_aload, ↓e_aload_n, ↓e_astore, ↓e_astore_n, ↓e_iinc0, ↓e_iinc1, ↓e_iadd, ↓e_isub, ↓e_imul, ↓e_iand, ↓e_ior, ↓e_ixor, ↓e_ishl, ↓e_ishr, ↓e_iushr, ↓e_ladd, ↓e_lsub, ↓e_lmul, ↓e_land, ↓e_lor, ↓e_idiv, ↓e_irem, ↓e_ldiv, ↓e_lrem, ↓e_lshl, ↓e_lcmp, ↓e_i2l, ↓e_l2i, ↓e_i2b, ↓e_i2s, ↓e_dup_int, ↓e_pop_int, ↓e_dup_ref, ↓e_pop_ref, ↓e_dup2, ↓e_goto, ↓e_nop, ↓e_ifCond_eq, ↓e_if_icmp_eq, ↓e_ifCond_ne, ↓e_if_icmp_ne, ↓e_ifCond_lt, ↓e_if_icmp_lt, ↓e_ifCond_ge, ↓e_if_icmp_ge, ↓e_ifCond_gt, ↓e_if_icmp_gt, ↓e_ifCond_le, ↓e_if_icmp_le, ↓e_tab, ↓e_look, ↓e_get0, ↓e_get1, ↓e_get2, ↓e_get3, ↓e_put0, ↓e_put1, ↓e_put2, ↓e_put3, ↓e_iaload, ↓e_laload, ↓e_baload, ↓e_aaload, ↓e_iastore, ↓e_lastore, ↓e_bastore, ↓e_aastore, ↓e_alen, ↓e_new, ↓e_newarray, ↓e_anewarray, ↓e_objinit, ↓e_virt1, ↓e_virt2, ↓e_virt3, ↓e_virt4, ↓e_virt5, ↓e_virt6, ↓e_virt7, ↓e_stat0, ↓e_stat1, ↓e_stat2, ↓e_stat3, ↓e_stat4, ↓e_stat5, ↓e_stat6, ↓e_stat7, ↓e_spec1, ↓e_spec2, ↓e_spec3, ↓e_spec4, ↓e_spec5, ↓e_strlen, ↓e_charAt, ↓e_copy, ↓e_iret0, ↓e_iret1, ↓e_lret, ↓e_aret, ↓e_vret, zIsI_int, zIsL_long, zIsA_ref, zInt_int, true_and, and_true, ↓reduceIte, zGet, zSet, zSet2, zEnt, zWid, Value.category, List.map_cons, List.map_nil, List.sum_cons, List.sum_nil, List.replicate, Option.toList, Nat.reduceAdd, Nat.reduceSub, Nat.reduceMul, Nat.reduceLeDiff, Nat.reduceEqDiff, Nat.reduceLT, List.cons_append, List.nil_append, true_or, or_true, or_false, false_or, M.k, M.r0, M.r1, M.r5, M.r6, M.r7, M.r8, M.r9, M.r21, M.r24, M.r25, M.r28, M.r29, M.r30, M.r31, M.r35, M.r36, M.r37, M.r38, M.r40, M.r43, M.r44, M.r45, M.k121, M.k122, M.k123, M.k124, M.k125, M.k126, M.k127, M.k128, M.k129, M.k130, M.k131, M.k132, M.k133, M.k134, M.k135, M.k136, M.k137, M.k138, M.k139, M.k140, M.k141, M.k142, nI_ltI, nI_leI, nI_eq, nI_clamp, zIn_nI, bI_0, nI_add, nI_mul, nI_or, nI_and, nI_shl1, nI_bit, ↓pk_rem, pk_div, Nat.lt_irrefl, Nat.not_lt_zero, reduceCtorEq, hi, b1, b2, gi, r]) (fun j => sI σ 121 j) (fun j => by rw [if_neg (by omega)])
  have M1 : RMk (upA σ 121 g) := M0.ag (Ag.rf.upA (p := fun b => b = 121) rfl)
  obtain ⟨h, i2, e2⟩ := zloop (fun i (h : Nat → Int64) => ∀ j, h j = if 20 * t ≤ j ∧ j < 20 * t + i then sL σ 122 (20 * f + (j - 20 * t)) else sL σ 122 j) (P := fun i h K => zX d 382 41 [.ref 120, .int (nI f), .int (nI t), .int (nI i)] [] (upL (upA σ 121 g) 122 h) K) (n := 20) (fun i h hi hg => by
    have M : RMk (upL (upA σ 121 g) 122 h) := M1.ag (Ag.rf.upL (p := fun b => b = 122) rfl)
    have gi : ∀ j, sL (upL (upA σ 121 g) 122 h) 122 j = h j := fun j => by rw [sL_upL, if_pos rfl]
    have b1 : 20 * t + i < 120 := by omega
    have b2 : 20 * f + i < 120 := by omega
    have r : h (20 * f + i) = sL σ 122 (20 * f + i) := by rw [hg, if_neg (by omega)]
    refine ⟨fun j => if j = 20 * t + i then sL σ 122 (20 * f + i) else h j, fun j => ?_, ?_⟩
    · show (if j = 20 * t + i then sL σ 122 (20 * f + i) else h j) = _
      by_cases h1 : j = 20 * t + i
      · subst h1; rw [if_pos rfl, if_pos ⟨by omega, by omega⟩, Nat.add_sub_cancel_left]
      · rw [if_neg h1, hg j]
        by_cases h2 : 20 * t ≤ j ∧ j < 20 * t + i
        · rw [if_pos h2, if_pos ⟨by omega, by omega⟩]
        · rw [if_neg h2, if_neg (by omega)]
    · funext K
      rw [← setL_upL]
      generalize upL (upA σ 121 g) 122 h = ρ at M gi
      rw [L_382_41, zt_382_41]
      simp (disch := omega) only [↓e_iconst0, ↓e_iconst1, ↓e_bipush0, ↓e_bipush1, ↓e_sipush0, ↓e_sipush1, ↓e_ldc0, ↓e_ldc1, ↓e_ldc_w0, ↓e_ldc_w1, ↓e_ldc2, ↓e_lconst0, ↓e_lconst1, ↓e_ldc2_w0, ↓e_ldc2_w1, ↓e_iload, ↓e_iload_n, ↓e_istore, ↓e_istore_n, ↓e_lload, ↓e_lload_n, ↓e_lstore, ↓e_lstore_n, ↓e_aload, ↓e_aload_n, ↓e_astore, ↓e_astore_n, ↓e_iinc0, ↓e_iinc1, ↓e_iadd, ↓e_isub, ↓e_imul, ↓e_iand, ↓e_ior, ↓e_ixor, ↓e_ishl, ↓e_ishr, ↓e_iushr, ↓e_ladd, ↓e_lsub, ↓e_lmul, ↓e_land, ↓e_lor, ↓e_idiv, ↓e_irem, ↓e_ldiv, ↓e_lrem, ↓e_lshl, ↓e_lcmp, ↓e_i2l, ↓e_l2i, ↓e_i2b, ↓e_i2s, ↓e_dup_int, ↓e_pop_int, ↓e_dup_ref, ↓e_pop_ref, ↓e_dup2, ↓e_goto, ↓e_nop, ↓e_ifCond_eq, ↓e_if_icmp_eq, ↓e_ifCond_ne, ↓e_if_icmp_ne, ↓e_ifCond_lt, ↓e_if_icmp_lt, ↓e_ifCond_ge, ↓e_if_icmp_ge, ↓e_ifCond_gt, ↓e_if_icmp_gt, ↓e_ifCond_le, ↓e_if_icmp_le, ↓e_tab, ↓e_look, ↓e_get0, ↓e_get1, ↓e_get2, ↓e_get3, ↓e_put0, ↓e_put1, ↓e_put2, ↓e_put3, ↓e_iaload, ↓e_laload, ↓e_baload, ↓e_aaload, ↓e_iastore, ↓e_lastore, ↓e_bastore, ↓e_aastore, ↓e_alen, ↓e_new, ↓e_newarray, ↓e_anewarray, ↓e_objinit, ↓e_virt1, ↓e_virt2, ↓e_virt3, ↓e_virt4, ↓e_virt5, ↓e_virt6, ↓e_virt7, ↓e_stat0, ↓e_stat1, ↓e_stat2, ↓e_stat3, ↓e_stat4, ↓e_stat5, ↓e_stat6, ↓e_stat7, ↓e_spec1, ↓e_spec2, ↓e_spec3, ↓e_spec4, ↓e_spec5, ↓e_strlen, ↓e_charAt, ↓e_copy, ↓e_iret0, ↓e_iret1, ↓e_lret, ↓e_aret, ↓e_vret, zIsI_int, zIsL_long, zIsA_ref, zInt_int, true_and, and_true, ↓reduceIte, zGet, zSet, zSet2, zEnt, zWid, Value.category, List.map_cons, List.map_nil, List.sum_cons, List.sum_nil, List.replicate, Option.toList, Nat.reduceAdd, Nat.reduceSub, Nat.reduceMul, Nat.reduceLeDiff, Nat.reduceEqDiff, Nat.reduceLT, List.cons_append, List.nil_append, true_or, or_true, or_false, false_or, M.k, M.r0, M.r1, M.r5, M.r6, M.r7, M.r8, M.r9, M.r21, M.r24, M.r25, M.r28, M.r29, M.r30, M.r31, M.r35, M.r36, M.r37, M.r38, M.r40, M.r43, M.r44, M.r45, M.k121, M.k122, M.k123, M.k124, M.k125, M.k126, M.k127, M.k128, M.k129, M.k130, M.k131, M.k132, M.k133, M.k134, M.k135, M.k136, M.k137, M.k138, M.k139, M.k140, M.k141, M.k142, nI_ltI, nI_leI, nI_eq, nI_clamp, zIn_nI, bI_0, nI_add, nI_mul, nI_or, nI_and, nI_shl1, nI_bit, ↓pk_rem, pk_div, Nat.lt_irrefl, Nat.not_lt_zero, reduceCtorEq, hi, b1, b2, gi, r]) (fun j => sL σ 122 j) (fun j => by rw [if_neg (by omega)])
  have fA : Ag (fun b => b = 121 ∨ b = 122) σ (upL (upA σ 121 g) 122 h) := (Ag.rf.upA (.inl rfl)).upL (.inr rfl)
  have gI : ∀ j, sI (upL (upA σ 121 g) 122 h) 121 j = g j := fun j => by rw [sI_upL, sI_upA, if_pos rfl]
  have gL : ∀ j, sL (upL (upA σ 121 g) 122 h) 122 j = h j := fun j => by rw [sL_upL, if_pos rfl]
  refine ⟨_, fA, fun j hj => ?_, fun j hj => ?_, fun j hj => ?_, fun j hj => ?_, fun K => ?_⟩
  · rw [gI, i1, if_pos ⟨by omega, by omega⟩, Nat.add_sub_cancel_left]
  · rw [gI, i1, if_neg (by omega)]
  · rw [gL, i2, if_pos ⟨by omega, by omega⟩, Nat.add_sub_cancel_left]
  · rw [gL, i2, if_neg (by omega)]
  · rw [E_382]
    simp (disch := omega) only [L_382_0, zt_382_0, ↓e_iconst0, ↓e_iconst1, ↓e_bipush0, ↓e_bipush1, ↓e_sipush0, ↓e_sipush1, ↓e_ldc0, ↓e_ldc1, ↓e_ldc_w0, ↓e_ldc_w1, ↓e_ldc2, ↓e_lconst0, ↓e_lconst1, ↓e_ldc2_w0, ↓e_ldc2_w1, ↓e_iload, ↓e_iload_n, ↓e_istore, ↓e_istore_n, ↓e_lload, ↓e_lload_n, ↓e_lstore, ↓e_lstore_n, ↓e_aload, ↓e_aload_n, ↓e_astore, ↓e_astore_n, ↓e_iinc0, ↓e_iinc1, ↓e_iadd, ↓e_isub, ↓e_imul, ↓e_iand, ↓e_ior, ↓e_ixor, ↓e_ishl, ↓e_ishr, ↓e_iushr, ↓e_ladd, ↓e_lsub, ↓e_lmul, ↓e_land, ↓e_lor, ↓e_idiv, ↓e_irem, ↓e_ldiv, ↓e_lrem, ↓e_lshl, ↓e_lcmp, ↓e_i2l, ↓e_l2i, ↓e_i2b, ↓e_i2s, ↓e_dup_int, ↓e_pop_int, ↓e_dup_ref, ↓e_pop_ref, ↓e_dup2, ↓e_goto, ↓e_nop, ↓e_ifCond_eq, ↓e_if_icmp_eq, ↓e_ifCond_ne, ↓e_if_icmp_ne, ↓e_ifCond_lt, ↓e_if_icmp_lt, ↓e_ifCond_ge, ↓e_if_icmp_ge, ↓e_ifCond_gt, ↓e_if_icmp_gt, ↓e_ifCond_le, ↓e_if_icmp_le, ↓e_tab, ↓e_look, ↓e_get0, ↓e_get1, ↓e_get2, ↓e_get3, ↓e_put0, ↓e_put1, ↓e_put2, ↓e_put3, ↓e_iaload, ↓e_laload, ↓e_baload, ↓e_aaload, ↓e_iastore, ↓e_lastore, ↓e_bastore, ↓e_aastore, ↓e_alen, ↓e_new, ↓e_newarray, ↓e_anewarray, ↓e_objinit, ↓e_virt1, ↓e_virt2, ↓e_virt3, ↓e_virt4, ↓e_virt5, ↓e_virt6, ↓e_virt7, ↓e_stat0, ↓e_stat1, ↓e_stat2, ↓e_stat3, ↓e_stat4, ↓e_stat5, ↓e_stat6, ↓e_stat7, ↓e_spec1, ↓e_spec2, ↓e_spec3, ↓e_spec4, ↓e_spec5, ↓e_strlen, ↓e_charAt, ↓e_copy, ↓e_iret0, ↓e_iret1, ↓e_lret, ↓e_aret, ↓e_vret, zIsI_int, zIsL_long, zIsA_ref, zInt_int, true_and, and_true, ↓reduceIte, zGet, zSet, zSet2, zEnt, zWid, Value.category, List.map_cons, List.map_nil, List.sum_cons, List.sum_nil, List.replicate, Option.toList, Nat.reduceAdd, Nat.reduceSub, Nat.reduceMul, Nat.reduceLeDiff, Nat.reduceEqDiff, Nat.reduceLT, List.cons_append, List.nil_append, true_or, or_true, or_false, false_or, M.k, M.r0, M.r1, M.r5, M.r6, M.r7, M.r8, M.r9, M.r21, M.r24, M.r25, M.r28, M.r29, M.r30, M.r31, M.r35, M.r36, M.r37, M.r38, M.r40, M.r43, M.r44, M.r45, M.k121, M.k122, M.k123, M.k124, M.k125, M.k126, M.k127, M.k128, M.k129, M.k130, M.k131, M.k132, M.k133, M.k134, M.k135, M.k136, M.k137, M.k138, M.k139, M.k140, M.k141, M.k142, nI_ltI, nI_leI, nI_eq, nI_clamp, zIn_nI, bI_0, nI_add, nI_mul, nI_or, nI_and, nI_shl1, nI_bit, ↓pk_rem, pk_div, Nat.lt_irrefl, Nat.not_lt_zero, reduceCtorEq]
    have e1 := congrFun e1 K
    rw [upA_self] at e1
    refine Eq.trans e1 ?_
    have M := M1
    rw [L_382_2, zt_382_2]
    simp (disch := omega) only [L_382_39, zt_382_39, ↓e_iconst0, ↓e_iconst1, ↓e_bipush0, ↓e_bipush1, ↓e_sipush0, ↓e_sipush1, ↓e_ldc0, ↓e_ldc1, ↓e_ldc_w0, ↓e_ldc_w1, ↓e_ldc2, ↓e_lconst0, ↓e_lconst1, ↓e_ldc2_w0, ↓e_ldc2_w1, ↓e_iload, ↓e_iload_n, ↓e_istore, ↓e_istore_n, ↓e_lload, ↓e_lload_n, ↓e_lstore, ↓e_lstore_n, ↓e_aload, ↓e_aload_n, ↓e_astore, ↓e_astore_n, ↓e_iinc0, ↓e_iinc1, ↓e_iadd, ↓e_isub, ↓e_imul, ↓e_iand, ↓e_ior, ↓e_ixor, ↓e_ishl, ↓e_ishr, ↓e_iushr, ↓e_ladd, ↓e_lsub, ↓e_lmul, ↓e_land, ↓e_lor, ↓e_idiv, ↓e_irem, ↓e_ldiv, ↓e_lrem, ↓e_lshl, ↓e_lcmp, ↓e_i2l, ↓e_l2i, ↓e_i2b, ↓e_i2s, ↓e_dup_int, ↓e_pop_int, ↓e_dup_ref, ↓e_pop_ref, ↓e_dup2, ↓e_goto, ↓e_nop, ↓e_ifCond_eq, ↓e_if_icmp_eq, ↓e_ifCond_ne, ↓e_if_icmp_ne, ↓e_ifCond_lt, ↓e_if_icmp_lt, ↓e_ifCond_ge, ↓e_if_icmp_ge, ↓e_ifCond_gt, ↓e_if_icmp_gt, ↓e_ifCond_le, ↓e_if_icmp_le, ↓e_tab, ↓e_look, ↓e_get0, ↓e_get1, ↓e_get2, ↓e_get3, ↓e_put0, ↓e_put1, ↓e_put2, ↓e_put3, ↓e_iaload, ↓e_laload, ↓e_baload, ↓e_aaload, ↓e_iastore, ↓e_lastore, ↓e_bastore, ↓e_aastore, ↓e_alen, ↓e_new, ↓e_newarray, ↓e_anewarray, ↓e_objinit, ↓e_virt1, ↓e_virt2, ↓e_virt3, ↓e_virt4, ↓e_virt5, ↓e_virt6, ↓e_virt7, ↓e_stat0, ↓e_stat1, ↓e_stat2, ↓e_stat3, ↓e_stat4, ↓e_stat5, ↓e_stat6, ↓e_stat7, ↓e_spec1, ↓e_spec2, ↓e_spec3, ↓e_spec4, ↓e_spec5, ↓e_strlen, ↓e_charAt, ↓e_copy, ↓e_iret0, ↓e_iret1, ↓e_lret, ↓e_aret, ↓e_vret, zIsI_int, zIsL_long, zIsA_ref, zInt_int, true_and, and_true, ↓reduceIte, zGet, zSet, zSet2, zEnt, zWid, Value.category, List.map_cons, List.map_nil, List.sum_cons, List.sum_nil, List.replicate, Option.toList, Nat.reduceAdd, Nat.reduceSub, Nat.reduceMul, Nat.reduceLeDiff, Nat.reduceEqDiff, Nat.reduceLT, List.cons_append, List.nil_append, true_or, or_true, or_false, false_or, M.k, M.r0, M.r1, M.r5, M.r6, M.r7, M.r8, M.r9, M.r21, M.r24, M.r25, M.r28, M.r29, M.r30, M.r31, M.r35, M.r36, M.r37, M.r38, M.r40, M.r43, M.r44, M.r45, M.k121, M.k122, M.k123, M.k124, M.k125, M.k126, M.k127, M.k128, M.k129, M.k130, M.k131, M.k132, M.k133, M.k134, M.k135, M.k136, M.k137, M.k138, M.k139, M.k140, M.k141, M.k142, nI_ltI, nI_leI, nI_eq, nI_clamp, zIn_nI, bI_0, nI_add, nI_mul, nI_or, nI_and, nI_shl1, nI_bit, ↓pk_rem, pk_div, Nat.lt_irrefl, Nat.not_lt_zero, reduceCtorEq]
    have e2 := congrFun e2 K
    have eu : upL (upA σ 121 g) 122 (fun j => sL σ 122 j) = upA σ 121 g := upL_self (upA σ 121 g) 122
    rw [eu] at e2
    refine Eq.trans e2 ?_
    have M : RMk (upL (upA σ 121 g) 122 h) := M1.ag (Ag.rf.upL (p := fun b => b = 122) rfl)
    rw [L_382_41, zt_382_41]
    simp (disch := omega) only [L_382_75, zt_382_75, ↓e_iconst0, ↓e_iconst1, ↓e_bipush0, ↓e_bipush1, ↓e_sipush0, ↓e_sipush1, ↓e_ldc0, ↓e_ldc1, ↓e_ldc_w0, ↓e_ldc_w1, ↓e_ldc2, ↓e_lconst0, ↓e_lconst1, ↓e_ldc2_w0, ↓e_ldc2_w1, ↓e_iload, ↓e_iload_n, ↓e_istore, ↓e_istore_n, ↓e_lload, ↓e_lload_n, ↓e_lstore, ↓e_lstore_n, ↓e_aload, ↓e_aload_n, ↓e_astore, ↓e_astore_n, ↓e_iinc0, ↓e_iinc1, ↓e_iadd, ↓e_isub, ↓e_imul, ↓e_iand, ↓e_ior, ↓e_ixor, ↓e_ishl, ↓e_ishr, ↓e_iushr, ↓e_ladd, ↓e_lsub, ↓e_lmul, ↓e_land, ↓e_lor, ↓e_idiv, ↓e_irem, ↓e_ldiv, ↓e_lrem, ↓e_lshl, ↓e_lcmp, ↓e_i2l, ↓e_l2i, ↓e_i2b, ↓e_i2s, ↓e_dup_int, ↓e_pop_int, ↓e_dup_ref, ↓e_pop_ref, ↓e_dup2, ↓e_goto, ↓e_nop, ↓e_ifCond_eq, ↓e_if_icmp_eq, ↓e_ifCond_ne, ↓e_if_icmp_ne, ↓e_ifCond_lt, ↓e_if_icmp_lt, ↓e_ifCond_ge, ↓e_if_icmp_ge, ↓e_ifCond_gt, ↓e_if_icmp_gt, ↓e_ifCond_le, ↓e_if_icmp_le, ↓e_tab, ↓e_look, ↓e_get0, ↓e_get1, ↓e_get2, ↓e_get3, ↓e_put0, ↓e_put1, ↓e_put2, ↓e_put3, ↓e_iaload, ↓e_laload, ↓e_baload, ↓e_aaload, ↓e_iastore, ↓e_lastore, ↓e_bastore, ↓e_aastore, ↓e_alen, ↓e_new, ↓e_newarray, ↓e_anewarray, ↓e_objinit, ↓e_virt1, ↓e_virt2, ↓e_virt3, ↓e_virt4, ↓e_virt5, ↓e_virt6, ↓e_virt7, ↓e_stat0, ↓e_stat1, ↓e_stat2, ↓e_stat3, ↓e_stat4, ↓e_stat5, ↓e_stat6, ↓e_stat7, ↓e_spec1, ↓e_spec2, ↓e_spec3, ↓e_spec4, ↓e_spec5, ↓e_strlen, ↓e_charAt, ↓e_copy, ↓e_iret0, ↓e_iret1, ↓e_lret, ↓e_aret, ↓e_vret, zIsI_int, zIsL_long, zIsA_ref, zInt_int, true_and, and_true, ↓reduceIte, zGet, zSet, zSet2, zEnt, zWid, Value.category, List.map_cons, List.map_nil, List.sum_cons, List.sum_nil, List.replicate, Option.toList, Nat.reduceAdd, Nat.reduceSub, Nat.reduceMul, Nat.reduceLeDiff, Nat.reduceEqDiff, Nat.reduceLT, List.cons_append, List.nil_append, true_or, or_true, or_false, false_or, M.k, M.r0, M.r1, M.r5, M.r6, M.r7, M.r8, M.r9, M.r21, M.r24, M.r25, M.r28, M.r29, M.r30, M.r31, M.r35, M.r36, M.r37, M.r38, M.r40, M.r43, M.r44, M.r45, M.k121, M.k122, M.k123, M.k124, M.k125, M.k126, M.k127, M.k128, M.k129, M.k130, M.k131, M.k132, M.k133, M.k134, M.k135, M.k136, M.k137, M.k138, M.k139, M.k140, M.k141, M.k142, nI_ltI, nI_leI, nI_eq, nI_clamp, zIn_nI, bI_0, nI_add, nI_mul, nI_or, nI_and, nI_shl1, nI_bit, ↓pk_rem, pk_div, Nat.lt_irrefl, Nat.not_lt_zero, reduceCtorEq]
/-! the class's Days -/
def RDk (σ : MS) (u : Nat) : Prop := (sK σ u = (0, 1)) ∧ (sR σ u 2 = u + 1) ∧ (sR σ u 3 = u + 2) ∧ (sR σ u 4 = u + 3) ∧ (sR σ u 5 = u + 4) ∧ (sK σ (u + 1) = (1, 30)) ∧ (sK σ (u + 2) = (1, 30)) ∧ (sK σ (u + 3) = (1, 30)) ∧ (sK σ (u + 4) = (1, 30))
theorem RDk.k {σ : MS} {u : Nat} (H : RDk σ u) : sK σ u = (0, 1) := H.1
theorem RDk.r2 {σ : MS} {u : Nat} (H : RDk σ u) : sR σ u 2 = u + 1 := H.2.1
theorem RDk.r3 {σ : MS} {u : Nat} (H : RDk σ u) : sR σ u 3 = u + 2 := H.2.2.1
theorem RDk.r4 {σ : MS} {u : Nat} (H : RDk σ u) : sR σ u 4 = u + 3 := H.2.2.2.1
theorem RDk.r5 {σ : MS} {u : Nat} (H : RDk σ u) : sR σ u 5 = u + 4 := H.2.2.2.2.1
theorem RDk.k1 {σ : MS} {u : Nat} (H : RDk σ u) : sK σ (u + 1) = (1, 30) := H.2.2.2.2.2.1
theorem RDk.k2 {σ : MS} {u : Nat} (H : RDk σ u) : sK σ (u + 2) = (1, 30) := H.2.2.2.2.2.2.1
theorem RDk.k3 {σ : MS} {u : Nat} (H : RDk σ u) : sK σ (u + 3) = (1, 30) := H.2.2.2.2.2.2.2.1
theorem RDk.k4 {σ : MS} {u : Nat} (H : RDk σ u) : sK σ (u + 4) = (1, 30) := H.2.2.2.2.2.2.2.2
theorem RDk.mk {σ : MS} {u : Nat} (k : sK σ u = (0, 1)) (r2 : sR σ u 2 = u + 1) (r3 : sR σ u 3 = u + 2) (r4 : sR σ u 4 = u + 3) (r5 : sR σ u 5 = u + 4) (k1 : sK σ (u + 1) = (1, 30)) (k2 : sK σ (u + 2) = (1, 30)) (k3 : sK σ (u + 3) = (1, 30)) (k4 : sK σ (u + 4) = (1, 30)) : RDk σ u := ⟨k, r2, r3, r4, r5, k1, k2, k3, k4⟩
theorem RDk.keep {u : Nat} (H : RDk σ u) (hK : ∀ b, sK τ b = sK σ b) (hR : ∀ j, sR τ u j = sR σ u j) : RDk τ u := by
  obtain ⟨h1, h2, h3, h4, h5, h6, h7, h8, h9⟩ := H
  unfold RDk
  simp only [hK, hR]
  exact ⟨h1, h2, h3, h4, h5, h6, h7, h8, h9⟩
theorem c_daysCopy {u o : Nat} (H : RDk σ o) (G : RDk σ u) (hd : u + 4 < o ∨ o + 4 < u) (hb : sI σ o 0 = nI 0 ∨ sI σ o 0 = nI 1) :
   ∃ τ, Ag (fun c => u ≤ c ∧ c ≤ u + 4) σ τ ∧ (∀ j, j < 2 → sI τ u j = sI σ o j) ∧ (∀ r j, 1 ≤ r → r ≤ 4 → j < 30 → sI τ (u + r) j = sI σ (o + r) j) ∧ ∀ K, zC (d + 1) 11 [.ref u, .ref o] σ K = K none τ := by
  have iO : ∀ (ρ : MS) (j i : Nat) (v : Int32), sI (setI ρ u i v) o j = sI ρ o j := fun ρ j i v => by rw [sI_setI, if_neg (by omega)]
  have h4 : ∀ r, r ≤ 4 → u ≤ u + r ∧ u + r ≤ u + 4 := fun r hr => ⟨by omega, by omega⟩
  refine ⟨cpA (cpA (cpA (cpA (setI (setI σ u 0 (sI σ o 0)) u 1 (sI σ o 1)) (o + 1) (u + 1) 30) (o + 2) (u + 2) 30) (o + 3) (u + 3) 30) (o + 4) (u + 4) 30, (((((Ag.rf.setI (h4 0 (by omega))).setI (h4 0 (by omega))).cpA (h4 1 (by omega))).cpA (h4 2 (by omega))).cpA (h4 3 (by omega))).cpA (h4 4 (by omega)), fun j hj => ?_, fun r j h1 h2 hj => ?_, fun K => ?_⟩
  · simp (disch := omega) only [sI_cpA_ne]
    have hj2 : j = 0 ∨ j = 1 := by omega
    rcases hj2 with rfl | rfl <;> simp [sI_setI]
  · have hr : r = 1 ∨ r = 2 ∨ r = 3 ∨ r = 4 := by omega
    have nI : ∀ (ρ : MS) (q j i : Nat) (v : Int32), q ≤ 4 → sI (setI ρ u i v) (o + q) j = sI ρ (o + q) j := fun ρ q j i v hq => by rw [sI_setI, if_neg (by omega)]
    rcases hr with rfl | rfl | rfl | rfl <;>
    simp (disch := omega) only [sI_cpA_ne, sI_cpA_eq, nI]
  · have n0 : ¬ (nI 0 : Int32) < 0 := by decide
    have n30 : ¬ (nI 30 : Int32) < 0 := by decide
    rw [E_11]
    simp (disch := omega) only [L_11_0, zt_11_0, ↓e_iconst0, ↓e_iconst1, ↓e_bipush0, ↓e_bipush1, ↓e_sipush0, ↓e_sipush1, ↓e_ldc0, ↓e_ldc1, ↓e_ldc_w0, ↓e_ldc_w1, ↓e_ldc2, ↓e_lconst0, ↓e_lconst1, ↓e_ldc2_w0, ↓e_ldc2_w1, ↓e_iload, ↓e_iload_n, ↓e_istore, ↓e_istore_n, ↓e_lload, ↓e_lload_n, ↓e_lstore, ↓e_lstore_n, ↓e_aload, ↓e_aload_n, ↓e_astore, ↓e_astore_n, ↓e_iinc0, ↓e_iinc1, ↓e_iadd, ↓e_isub, ↓e_imul, ↓e_iand, ↓e_ior, ↓e_ixor, ↓e_ishl, ↓e_ishr, ↓e_iushr, ↓e_ladd, ↓e_lsub, ↓e_lmul, ↓e_land, ↓e_lor, ↓e_idiv, ↓e_irem, ↓e_ldiv, ↓e_lrem, ↓e_lshl, ↓e_lcmp, ↓e_i2l, ↓e_l2i, ↓e_i2b, ↓e_i2s, ↓e_dup_int, ↓e_pop_int, ↓e_dup_ref, ↓e_pop_ref, ↓e_dup2, ↓e_goto, ↓e_nop, ↓e_ifCond_eq, ↓e_if_icmp_eq, ↓e_ifCond_ne, ↓e_if_icmp_ne, ↓e_ifCond_lt, ↓e_if_icmp_lt, ↓e_ifCond_ge, ↓e_if_icmp_ge, ↓e_ifCond_gt, ↓e_if_icmp_gt, ↓e_ifCond_le, ↓e_if_icmp_le, ↓e_tab, ↓e_look, ↓e_get0, ↓e_get1, ↓e_get2, ↓e_get3, ↓e_put0, ↓e_put1, ↓e_put2, ↓e_put3, ↓e_iaload, ↓e_laload, ↓e_baload, ↓e_aaload, ↓e_iastore, ↓e_lastore, ↓e_bastore, ↓e_aastore, ↓e_alen, ↓e_new, ↓e_newarray, ↓e_anewarray, ↓e_objinit, ↓e_virt1, ↓e_virt2, ↓e_virt3, ↓e_virt4, ↓e_virt5, ↓e_virt6, ↓e_virt7, ↓e_stat0, ↓e_stat1, ↓e_stat2, ↓e_stat3, ↓e_stat4, ↓e_stat5, ↓e_stat6, ↓e_stat7, ↓e_spec1, ↓e_spec2, ↓e_spec3, ↓e_spec4, ↓e_spec5, ↓e_strlen, ↓e_charAt, ↓e_copy, ↓e_iret0, ↓e_iret1, ↓e_lret, ↓e_aret, ↓e_vret, zIsI_int, zIsL_long, zIsA_ref, zInt_int, true_and, and_true, ↓reduceIte, zGet, zSet, zSet2, zEnt, zWid, Value.category, List.map_cons, List.map_nil, List.sum_cons, List.sum_nil, List.replicate, Option.toList, Nat.reduceAdd, Nat.reduceSub, Nat.reduceMul, Nat.reduceLeDiff, Nat.reduceEqDiff, Nat.reduceLT, List.cons_append, List.nil_append, true_or, or_true, or_false, false_or, nI_ltI, nI_leI, nI_eq, nI_clamp, zIn_nI, bI_0, nI_add, nI_mul, nI_or, nI_and, nI_shl1, nI_bit, ↓pk_rem, pk_div, Nat.lt_irrefl, Nat.not_lt_zero, reduceCtorEq, sK_setI, sR_setI, sL_setI, sK_cpA, sR_cpA, H.k, G.k, hb, iO, H.r2, H.r3, H.r4, H.r5, G.r2, G.r3, G.r4, G.r5, H.k1, H.k2, H.k3, H.k4, G.k1, G.k2, G.k3, G.k4, n0, n30, not_false_eq_true, Nat.zero_add, Nat.le_refl, cpI_A, and_self]
theorem c_daysClear {u : Nat} (G : RDk σ u) : zC (d + 1) 10 [.ref u] σ K = K none (setI (setI σ u 0 (nI 0)) u 1 (nI 0)) := by
  rw [E_10]
  simp (disch := omega) only [L_10_0, zt_10_0, ↓e_iconst0, ↓e_iconst1, ↓e_bipush0, ↓e_bipush1, ↓e_sipush0, ↓e_sipush1, ↓e_ldc0, ↓e_ldc1, ↓e_ldc_w0, ↓e_ldc_w1, ↓e_ldc2, ↓e_lconst0, ↓e_lconst1, ↓e_ldc2_w0, ↓e_ldc2_w1, ↓e_iload, ↓e_iload_n, ↓e_istore, ↓e_istore_n, ↓e_lload, ↓e_lload_n, ↓e_lstore, ↓e_lstore_n, ↓e_aload, ↓e_aload_n, ↓e_astore, ↓e_astore_n, ↓e_iinc0, ↓e_iinc1, ↓e_iadd, ↓e_isub, ↓e_imul, ↓e_iand, ↓e_ior, ↓e_ixor, ↓e_ishl, ↓e_ishr, ↓e_iushr, ↓e_ladd, ↓e_lsub, ↓e_lmul, ↓e_land, ↓e_lor, ↓e_idiv, ↓e_irem, ↓e_ldiv, ↓e_lrem, ↓e_lshl, ↓e_lcmp, ↓e_i2l, ↓e_l2i, ↓e_i2b, ↓e_i2s, ↓e_dup_int, ↓e_pop_int, ↓e_dup_ref, ↓e_pop_ref, ↓e_dup2, ↓e_goto, ↓e_nop, ↓e_ifCond_eq, ↓e_if_icmp_eq, ↓e_ifCond_ne, ↓e_if_icmp_ne, ↓e_ifCond_lt, ↓e_if_icmp_lt, ↓e_ifCond_ge, ↓e_if_icmp_ge, ↓e_ifCond_gt, ↓e_if_icmp_gt, ↓e_ifCond_le, ↓e_if_icmp_le, ↓e_tab, ↓e_look, ↓e_get0, ↓e_get1, ↓e_get2, ↓e_get3, ↓e_put0, ↓e_put1, ↓e_put2, ↓e_put3, ↓e_iaload, ↓e_laload, ↓e_baload, ↓e_aaload, ↓e_iastore, ↓e_lastore, ↓e_bastore, ↓e_aastore, ↓e_alen, ↓e_new, ↓e_newarray, ↓e_anewarray, ↓e_objinit, ↓e_virt1, ↓e_virt2, ↓e_virt3, ↓e_virt4, ↓e_virt5, ↓e_virt6, ↓e_virt7, ↓e_stat0, ↓e_stat1, ↓e_stat2, ↓e_stat3, ↓e_stat4, ↓e_stat5, ↓e_stat6, ↓e_stat7, ↓e_spec1, ↓e_spec2, ↓e_spec3, ↓e_spec4, ↓e_spec5, ↓e_strlen, ↓e_charAt, ↓e_copy, ↓e_iret0, ↓e_iret1, ↓e_lret, ↓e_aret, ↓e_vret, zIsI_int, zIsL_long, zIsA_ref, zInt_int, true_and, and_true, ↓reduceIte, zGet, zSet, zSet2, zEnt, zWid, Value.category, List.map_cons, List.map_nil, List.sum_cons, List.sum_nil, List.replicate, Option.toList, Nat.reduceAdd, Nat.reduceSub, Nat.reduceMul, Nat.reduceLeDiff, Nat.reduceEqDiff, Nat.reduceLT, List.cons_append, List.nil_append, true_or, or_true, or_false, false_or, nI_ltI, nI_leI, nI_eq, nI_clamp, zIn_nI, bI_0, nI_add, nI_mul, nI_or, nI_and, nI_shl1, nI_bit, ↓pk_rem, pk_div, Nat.lt_irrefl, Nat.not_lt_zero, reduceCtorEq, sK_setI, sR_setI, sL_setI, G.k]
end SLT
