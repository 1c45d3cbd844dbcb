/-! THE MODEL'S CONSTRUCTOR -/
section CTM
variable {d n m k : Nat} {ks : List (Nat × Nat)} {σ τ ρ : MS} {K : Option Value → MS → Prop} {A : Ofc} {p q : Nat → Prop}
theorem zNew_setL {a b : Nat} {v : Int64} {k : Nat × Nat} (h : a < σ.1.length) : zNew (setL σ a b v) k = setL (zNew σ k) a b v := by
  refine Prod.ext rfl (Prod.ext rfl (Prod.ext ?_ rfl))
  funext x j
  show (if x = σ.1.length then 0 else if x = a ∧ j = b then v else σ.2.2.1 x j) = if x = a ∧ j = b then v else if x = σ.1.length then 0 else σ.2.2.1 x j
  by_cases e : x = σ.1.length
  · rw [if_pos e, if_pos e, if_neg (by omega)]
  · rw [if_neg e, if_neg e]
theorem zNew_setI {a b : Nat} {v : Int32} {k : Nat × Nat} (h : a < σ.1.length) : zNew (setI σ a b v) k = setI (zNew σ k) a b v := by
  refine Prod.ext rfl (Prod.ext ?_ rfl)
  funext x j
  show (if x = σ.1.length then 0 else if x = a ∧ j = b then v else σ.2.1 x j) = if x = a ∧ j = b then v else if x = σ.1.length then 0 else σ.2.1 x j
  by_cases e : x = σ.1.length
  · rw [if_pos e, if_pos e, if_neg (by omega)]
  · rw [if_neg e, if_neg e]
theorem setR_setL {a b c e w : Nat} {v : Int64} : setR (setL σ a b v) c e w = setL (setR σ c e w) a b v := rfl
theorem setR_setI {a b c e w : Nat} {v : Int32} : setR (setI σ a b v) c e w = setI (setR σ c e w) a b v := rfl
theorem sK_setL' {a b c : Nat} {v : Int64} : sK (setL σ a b v) c = sK σ c := rfl
abbrev fMod : List (Nat × Nat × Nat) := [(0, 1, 2640), (1, 2, 120), (5, 1, 4), (6, 1, 4), (7, 2, 240), (8, 3, 900), (9, 3, 900), (21, 1, 3), (24, 1, 8), (25, 1, 8), (28, 1, 8), (29, 1, 8), (30, 1, 8), (31, 1, 9), (35, 1, 32), (36, 1, 4), (37, 1, 4), (38, 1, 4), (40, 2, 9), (43, 1, 80), (44, 1, 5), (45, 1, 5)]
def mRh (σ : MS) : MS := setI (setI (setI (setI (setI (setI (setL (alO σ 11 fMod) 120 4 (lN 1)) 124 0 (-nI 1)) 124 1 (-nI 1)) 124 2 (-nI 1)) 124 3 (-nI 1)) 120 16 (-nI 1)) 120 17 (-nI 1)
theorem mRh_k (hn : σ.1.length = 120) : RMk (mRh σ) := by
  have r : ∀ j, sR (mRh σ) 120 j = sR (alO σ 11 fMod) 120 j := fun j => rfl
  have k : ∀ c, sK (mRh σ) c = sK (alO σ 11 fMod) c := fun c => rfl
  have R : ∀ f i, (lkF fMod f).2 = some i → sR (mRh σ) 120 f = 120 + (i + 1) := fun f i h => (r f).trans (al_R hn 11 fMod h)
  have Q : ∀ i, sK (mRh σ) (120 + (i + 1)) = (fMod.map (fun p => p.2)).getD i (99, 0) := fun i => (k _).trans (al_Ki hn 11 fMod i)
  exact RMk.mk ((k 120).trans (al_K hn 11 fMod)) (R 0 0 rfl) (R 1 1 rfl) (R 5 2 rfl) (R 6 3 rfl) (R 7 4 rfl) (R 8 5 rfl) (R 9 6 rfl) (R 21 7 rfl) (R 24 8 rfl) (R 25 9 rfl) (R 28 10 rfl) (R 29 11 rfl) (R 30 12 rfl) (R 31 13 rfl) (R 35 14 rfl) (R 36 15 rfl) (R 37 16 rfl) (R 38 17 rfl) (R 40 18 rfl) (R 43 19 rfl) (R 44 20 rfl) (R 45 21 rfl) (Q 0) (Q 1) (Q 2) (Q 3) (Q 4) (Q 5) (Q 6) (Q 7) (Q 8) (Q 9) (Q 10) (Q 11) (Q 12) (Q 13) (Q 14) (Q 15) (Q 16) (Q 17) (Q 18) (Q 19) (Q 20) (Q 21)
theorem m_build (hn : σ.1.length = 120) (e : ∀ K, zC (d + 4) 219 [.ref 120, .int (nI 0)] (mRh σ) K = K none ρ) : zC (d + 5) 218 [.ref 120] (zNew σ (0, 11)) K = K none ρ := by
  have hz : 120 < zNul := by decide
  have h124 : (alO σ 11 [(0, 1, 2640), (1, 2, 120), (5, 1, 4)]).1.length = 124 := by rw [al_len, hn]; rfl
  have a6 : setR (zNew (alO σ 11 [(0, 1, 2640), (1, 2, 120), (5, 1, 4)]) (1, 4)) 120 6 124 = alO σ 11 [(0, 1, 2640), (1, 2, 120), (5, 1, 4), (6, 1, 4)] := by
    rw [← h124]
    exact al_s hn 11 _ 6 (1, 4)
  have k6 : sK (zNew (alO σ 11 [(0, 1, 2640), (1, 2, 120), (5, 1, 4)]) (1, 4)) 124 = (1, 4) := by rw [← h124]; exact sK_zNew0
  have z6 : 124 < zNul := by decide
  unfold mRh at e
  rw [al_0, E_218]
  simp (disch := (first | omega | (simp only [setI_1, setL_1, setR_1, al_len, List.length_cons, List.length_nil]; omega))) only [L_218_0, zt_218_0, ↓e_iconst0, ↓e_iconst1, ↓e_bipush0, ↓e_bipush1, ↓e_sipush0, ↓e_sipush1, ↓e_ldc0, ↓e_ldc1, ↓e_ldc_w0, ↓e_ldc_w1, ↓e_ldc2, ↓e_lconst0, ↓e_lconst1, ↓e_ldc2_w0, ↓e_ldc2_w1, ↓e_iload, ↓e_iload_n, ↓e_istore, ↓e_istore_n, ↓e_lload, ↓e_lload_n, ↓e_lstore, ↓e_lstore_n, ↓e_aload, ↓e_aload_n, ↓e_astore, ↓e_astore_n, ↓e_iinc0, ↓e_iinc1, ↓e_iadd, ↓e_isub, ↓e_imul, ↓e_iand, ↓e_ior, ↓e_ixor, ↓e_ishl, ↓e_ishr, ↓e_iushr, ↓e_ladd, ↓e_lsub, ↓e_lmul, ↓e_land, ↓e_lor, ↓e_idiv, ↓e_irem, ↓e_ldiv, ↓e_lrem, ↓e_lshl, ↓e_lcmp, ↓e_i2l, ↓e_l2i, ↓e_i2b, ↓e_i2s, ↓e_dup_int, ↓e_pop_int, ↓e_dup_ref, ↓e_pop_ref, ↓e_dup2, ↓e_goto, ↓e_nop, ↓e_ifCond_eq, ↓e_if_icmp_eq, ↓e_ifCond_ne, ↓e_if_icmp_ne, ↓e_ifCond_lt, ↓e_if_icmp_lt, ↓e_ifCond_ge, ↓e_if_icmp_ge, ↓e_ifCond_gt, ↓e_if_icmp_gt, ↓e_ifCond_le, ↓e_if_icmp_le, ↓e_tab, ↓e_look, ↓e_get0, ↓e_get1, ↓e_get2, ↓e_get3, ↓e_put0, ↓e_put1, ↓e_put2, ↓e_put3, ↓e_iaload, ↓e_laload, ↓e_baload, ↓e_aaload, ↓e_iastore, ↓e_lastore, ↓e_bastore, ↓e_aastore, ↓e_alen, ↓e_new, ↓e_newarray, ↓e_anewarray, ↓e_objinit, ↓e_virt1, ↓e_virt2, ↓e_virt3, ↓e_virt4, ↓e_virt5, ↓e_virt6, ↓e_virt7, ↓e_stat0, ↓e_stat1, ↓e_stat2, ↓e_stat3, ↓e_stat4, ↓e_stat5, ↓e_stat6, ↓e_stat7, ↓e_spec1, ↓e_spec2, ↓e_spec3, ↓e_spec4, ↓e_spec5, ↓e_strlen, ↓e_charAt, ↓e_copy, ↓e_iret0, ↓e_iret1, ↓e_lret, ↓e_aret, ↓e_vret, zIsI_int, zIsL_long, zIsA_ref, zInt_int, true_and, and_true, ↓reduceIte, zGet, zSet, zSet2, zEnt, zWid, Value.category, List.map_cons, List.map_nil, List.sum_cons, List.sum_nil, List.replicate, Option.toList, Nat.reduceAdd, Nat.reduceSub, Nat.reduceMul, Nat.reduceLeDiff, Nat.reduceEqDiff, Nat.reduceLT, List.cons_append, List.nil_append, true_or, or_true, or_false, false_or, nI_ltI, nI_leI, nI_eq, nI_clamp, zIn_nI, bI_0, nI_add, nI_mul, nI_or, nI_and, nI_shl1, nI_bit, ↓pk_rem, pk_div, Nat.lt_irrefl, Nat.not_lt_zero, reduceCtorEq, hz, z6, h124, a6, k6, al_K0 hn, al_K hn, al_s hn, sK_setI, sK_setL', setI_1, setL_1, zNew_setL, zNew_setI, setR_setL, setR_setI, nIlt0, nI_clamp, Nat.reduceLeDiff, not_false_eq_true, List.nil_append, List.cons_append, ↓e]
end CTM
