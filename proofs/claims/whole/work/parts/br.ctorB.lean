/-! THE CLASS'S CONSTRUCTOR, ITS LOOPS -/
section CTB
variable {d n m k : Nat} {ks : List (Nat × Nat)} {σ τ ρ : MS} {K : Option Value → MS → Prop} {A : Ofc} {p : Nat → Prop}
def nKs (l : List (Nat × Nat)) : Nat → List (Nat × Nat)
  | 0 => []
  | i + 1 => nKs l i ++ l
theorem nKs_len (l : List (Nat × Nat)) : ∀ i, (nKs l i).length = l.length * i := by
  intro i
  induction i with
  | zero => rfl
  | succ i ih => show (nKs l i ++ l).length = _; rw [List.length_append, ih, Nat.mul_succ]
/-- what stays when cells are made behind and rows filled: but for the references of the cells in q -/
def Old (n : Nat) (q : Nat → Prop) (σ τ : MS) : Prop := ∀ c, c < n → sK τ c = sK σ c ∧ (∀ j, sI τ c j = sI σ c j) ∧ (∀ j, sL τ c j = sL σ c j) ∧ (¬ q c → ∀ j, sR τ c j = sR σ c j)
theorem Old.tr {q : Nat → Prop} (h1 : Old n q σ τ) (h2 : Old n q τ ρ) : Old n q σ ρ := fun c hc => by
  obtain ⟨a1, a2, a3, a4⟩ := h1 c hc
  obtain ⟨b1, b2, b3, b4⟩ := h2 c hc
  exact ⟨b1.trans a1, fun j => (b2 j).trans (a2 j), fun j => (b3 j).trans (a3 j), fun hq j => (b4 hq j).trans (a4 hq j)⟩
theorem Old.rf {q : Nat → Prop} : Old n q σ σ := fun _ _ => ⟨rfl, fun _ => rfl, fun _ => rfl, fun _ _ => rfl⟩
theorem Mk1.old {q : Nat → Prop} (h : Mk1 n ks σ τ) : Old n q σ τ := fun c hc => by
  by_cases e : c = 1
  · rw [e]; exact ⟨h.2.2.1, h.2.2.2.1, h.2.2.2.2.1, fun _ => h.2.2.2.2.2⟩
  · obtain ⟨a1, a2, a3, a4⟩ := h.2.1.2 c hc e
    exact ⟨a1, a2, a3, fun _ => a4⟩
theorem Old.le {q : Nat → Prop} (h : Old m q σ τ) (hn : n ≤ m) : Old n q σ τ := fun c hc => h c (by omega)
theorem old_R {q : Nat → Prop} {b f v : Nat} (hb : q b) : Old n q σ (setR σ b f v) := fun c _ => ⟨rfl, fun _ => rfl, fun _ => rfl, fun hq j => by rw [sR_setR]; exact if_neg (fun (e : c = b ∧ j = f) => hq (by rw [e.1]; exact hb))⟩
abbrev kTra : List (Nat × Nat) := [(0, 8), (2, 60)]
/-- the trays so far -/
def IvB (σ : MS) (i : Nat) (z : MS) : Prop := z.1 = σ.1 ++ nKs kTra i ∧ Old 37 (fun c => c = 36) σ z ∧ ∀ k, k < i → sR z 36 k = 37 + 2 * k ∧ sR z (37 + 2 * k) 3 = 38 + 2 * k ∧ sI z (37 + 2 * k) 0 = nI 0
theorem x_iB (hn : σ.1.length = 37) (k1 : sK σ 1 = (0, 10)) (r10 : sR σ 1 10 = 36) (k36 : sK σ 36 = (48, 4)) :
   ∃ τ, IvB σ 4 τ ∧ ∀ K, zX (d + 4) 141 73 [.ref 1, .int (nI 0)] [] σ K = zX (d + 4) 141 73 [.ref 1, .int (nI 4)] [] τ K := by
  obtain ⟨τ, I, e⟩ := zloop (fun i z => IvB σ i z) (P := fun i z K => zX (d + 4) 141 73 [.ref 1, .int (nI i)] [] z K) (n := 4) (fun i z hi hI => by
    obtain ⟨e1, o, t⟩ := hI
    have nz : z.1.length = 37 + 2 * i := by rw [e1, List.length_append, hn, nKs_len]; rfl
    have M := al_mk nz (by omega) 8 [(3, 2, 60)]
    have o2 : Old (37 + 2 * i) (fun c => c = 36) z (setR (alO z 8 [(3, 2, 60)]) 36 i (37 + 2 * i)) := M.old.tr (old_R rfl)
    have R3 : sR (alO z 8 [(3, 2, 60)]) (37 + 2 * i) 3 = 37 + 2 * i + (0 + 1) := al_R nz 8 [(3, 2, 60)] (i := 0) rfl
    refine ⟨setR (alO z 8 [(3, 2, 60)]) 36 i (37 + 2 * i), ⟨?_, o.tr (o2.le (by omega)), fun k hk => ?_⟩, ?_⟩
    · show z.1 ++ [(0, 8), (2, 60)] = σ.1 ++ (nKs kTra i ++ kTra)
      rw [e1, List.append_assoc]
    · by_cases h : k = i
      · rw [h]
        refine ⟨by rw [sR_setR, if_pos ⟨rfl, rfl⟩], ?_, ?_⟩
        · rw [sR_setR, if_neg (by omega), R3]; omega
        · exact al_I nz 8 [(3, 2, 60)] (Nat.le_refl _) (Nat.le_add_right _ _)
      · obtain ⟨t1, t2, t3⟩ := t k (by omega)
        refine ⟨?_, ((o2 (37 + 2 * k) (by omega)).2.2.2 (by omega) 3).trans t2, ((o2 (37 + 2 * k) (by omega)).2.1 0).trans t3⟩
        rw [sR_setR, if_neg (fun x => h x.2)]
        exact ((M.old (q := fun _ => False)) 36 (by omega)).2.2.2 (fun x => x) k |>.trans t1
    · funext K
      have zn : 37 + 2 * i < zNul := by show 37 + 2 * i < 1000000; omega
      have z36 : 36 < zNul := by decide
      have z1 : 1 < zNul := by decide
      have K1 := (o 1 (by omega)).1.trans k1
      have R10 := ((o 1 (by omega)).2.2.2 (by omega) 10).trans r10
      have K36 := (o 36 (by omega)).1.trans k36
      have K1' : sK (alO z 8 [(3, 2, 60)]) 1 = (0, 10) := M.2.2.1.trans K1
      have R10' : sR (alO z 8 [(3, 2, 60)]) 1 10 = 36 := (M.2.2.2.2.2 10).trans R10
      have K36' : sK (alO z 8 [(3, 2, 60)]) 36 = (48, 4) := ((M.old (q := fun _ => False)) 36 (by omega)).1.trans K36
      have Kn : sK (alO z 8 [(3, 2, 60)]) (37 + 2 * i) = (0, 8) := al_K nz _ _
      have K0 : sK (zNew z (0, 8)) (37 + 2 * i) = (0, 8) := by rw [← nz]; exact sK_zNew0
      have dt := fun K => c_newTray (d := d + 3) (K := K) nz (by omega)
      rw [L_141_73, zt_141_73]
      simp (disch := omega) only [↓e_iconst0, ↓e_iconst1, ↓e_bipush0, ↓e_bipush1, ↓e_sipush0, ↓e_sipush1, ↓e_ldc0, ↓e_ldc1, ↓e_ldc_w0, ↓e_ldc_w1, ↓e_ldc2, ↓e_lconst0, ↓e_lconst1, ↓e_ldc2_w0, ↓e_ldc2_w1, ↓e_iload, ↓e_iload_n, ↓e_istore, ↓e_istore_n, ↓e_lload, ↓e_lload_n, ↓e_lstore, ↓e_lstore_n, ↓e_aload, ↓e_aload_n, ↓e_astore, ↓e_astore_n, ↓e_iinc0, ↓e_iinc1, ↓e_iadd, ↓e_isub, ↓e_imul, ↓e_iand, ↓e_ior, ↓e_ixor, ↓e_ishl, ↓e_ishr, ↓e_iushr, ↓e_ladd, ↓e_lsub, ↓e_lmul, ↓e_land, ↓e_lor, ↓e_idiv, ↓e_irem, ↓e_ldiv, ↓e_lrem, ↓e_lshl, ↓e_lcmp, ↓e_i2l, ↓e_l2i, ↓e_i2b, ↓e_i2s, ↓e_dup_int, ↓e_pop_int, ↓e_dup_ref, ↓e_pop_ref, ↓e_dup2, ↓e_goto, ↓e_nop, ↓e_ifCond_eq, ↓e_if_icmp_eq, ↓e_ifCond_ne, ↓e_if_icmp_ne, ↓e_ifCond_lt, ↓e_if_icmp_lt, ↓e_ifCond_ge, ↓e_if_icmp_ge, ↓e_ifCond_gt, ↓e_if_icmp_gt, ↓e_ifCond_le, ↓e_if_icmp_le, ↓e_tab, ↓e_look, ↓e_get0, ↓e_get1, ↓e_get2, ↓e_get3, ↓e_put0, ↓e_put1, ↓e_put2, ↓e_put3, ↓e_iaload, ↓e_laload, ↓e_baload, ↓e_aaload, ↓e_iastore, ↓e_lastore, ↓e_bastore, ↓e_aastore, ↓e_alen, ↓e_new, ↓e_newarray, ↓e_anewarray, ↓e_objinit, ↓e_virt1, ↓e_virt2, ↓e_virt3, ↓e_virt4, ↓e_virt5, ↓e_virt6, ↓e_virt7, ↓e_stat0, ↓e_stat1, ↓e_stat2, ↓e_stat3, ↓e_stat4, ↓e_stat5, ↓e_stat6, ↓e_stat7, ↓e_spec1, ↓e_spec2, ↓e_spec3, ↓e_spec4, ↓e_spec5, ↓e_strlen, ↓e_charAt, ↓e_copy, ↓e_iret0, ↓e_iret1, ↓e_lret, ↓e_aret, ↓e_vret, zIsI_int, zIsL_long, zIsA_ref, zInt_int, true_and, and_true, ↓reduceIte, zGet, zSet, zSet2, zEnt, zWid, Value.category, List.map_cons, List.map_nil, List.sum_cons, List.sum_nil, List.replicate, Option.toList, Nat.reduceAdd, Nat.reduceSub, Nat.reduceMul, Nat.reduceLeDiff, Nat.reduceEqDiff, Nat.reduceLT, List.cons_append, List.nil_append, true_or, or_true, or_false, false_or, nI_ltI, nI_leI, nI_eq, nI_clamp, zIn_nI, bI_0, nI_add, nI_mul, nI_or, nI_and, nI_shl1, nI_bit, ↓pk_rem, pk_div, Nat.lt_irrefl, Nat.not_lt_zero, reduceCtorEq, sK_setI, sR_setI, sL_setI, hi, K1, R10, K36, K1', R10', K36', Kn, K0, nz, zn, z36, z1, ↓dt, nIlt0, nI_clamp]) σ ⟨by show σ.1 = σ.1 ++ []; rw [List.append_nil], Old.rf, fun k hk => absurd hk (Nat.not_lt_zero k)⟩
  exact ⟨τ, I, fun K => congrFun e K⟩
/-- two rows for the marks -/
theorem x_iB2 (hn : σ.1.length = 45) (k1 : sK σ 1 = (0, 10)) :
   ∃ τ, τ.1 = σ.1 ++ [(45, 3), (41, 3)] ∧ Up 45 σ τ ∧ sK τ 1 = (0, 10) ∧ (∀ j, sI τ 1 j = sI σ 1 j) ∧ (∀ j, sL τ 1 j = sL σ 1 j) ∧ (∀ j, sR τ 1 j = if j = 12 then 46 else if j = 11 then 45 else sR σ 1 j) ∧ ∀ K, zX (d + 4) 141 73 [.ref 1, .int (nI 4)] [] σ K = zX (d + 4) 141 115 [.ref 1, .int (nI 0)] [] τ K := by
  have m1 := nw_mk hn (by omega) (45, 3)
  obtain ⟨v1, l1, q1, i1, g1, r1⟩ := m1.put 11 45
  obtain ⟨σ2, hs2⟩ : ∃ σ2, σ2 = setR (zNew σ (45, 3)) 1 11 45 := ⟨_, rfl⟩
  rw [← hs2] at v1 l1 q1 i1 g1 r1
  have n2 : σ2.1.length = 46 := by rw [l1, List.length_append, hn]; rfl
  have m2 := nw_mk n2 (by omega) (41, 3)
  obtain ⟨v2, l2, q2, i2, g2, r2⟩ := m2.put 12 46
  refine ⟨_, ?_, v1.tr v2 (by omega), q2.trans (q1.trans k1), fun j => (i2 j).trans (i1 j), fun j => (g2 j).trans (g1 j), fun j => by rw [r2, r1], fun K => ?_⟩
  · rw [l2, l1, List.append_assoc]; rfl
  · have z1 : 1 < zNul := by decide
    have z2 : 45 < zNul := by decide
    have z3 : 46 < zNul := by decide
    have K1 : sK (zNew σ (45, 3)) 1 = (0, 10) := m1.2.2.1.trans k1
    have K2 : sK (zNew σ2 (41, 3)) 1 = (0, 10) := m2.2.2.1.trans (q1.trans k1)
    have k2 : sK σ2 1 = (0, 10) := q1.trans k1
    rw [L_141_73, zt_141_73]
    simp (disch := omega) only [L_141_97, zt_141_97, ↓e_iconst0, ↓e_iconst1, ↓e_bipush0, ↓e_bipush1, ↓e_sipush0, ↓e_sipush1, ↓e_ldc0, ↓e_ldc1, ↓e_ldc_w0, ↓e_ldc_w1, ↓e_ldc2, ↓e_lconst0, ↓e_lconst1, ↓e_ldc2_w0, ↓e_ldc2_w1, ↓e_iload, ↓e_iload_n, ↓e_istore, ↓e_istore_n, ↓e_lload, ↓e_lload_n, ↓e_lstore, ↓e_lstore_n, ↓e_aload, ↓e_aload_n, ↓e_astore, ↓e_astore_n, ↓e_iinc0, ↓e_iinc1, ↓e_iadd, ↓e_isub, ↓e_imul, ↓e_iand, ↓e_ior, ↓e_ixor, ↓e_ishl, ↓e_ishr, ↓e_iushr, ↓e_ladd, ↓e_lsub, ↓e_lmul, ↓e_land, ↓e_lor, ↓e_idiv, ↓e_irem, ↓e_ldiv, ↓e_lrem, ↓e_lshl, ↓e_lcmp, ↓e_i2l, ↓e_l2i, ↓e_i2b, ↓e_i2s, ↓e_dup_int, ↓e_pop_int, ↓e_dup_ref, ↓e_pop_ref, ↓e_dup2, ↓e_goto, ↓e_nop, ↓e_ifCond_eq, ↓e_if_icmp_eq, ↓e_ifCond_ne, ↓e_if_icmp_ne, ↓e_ifCond_lt, ↓e_if_icmp_lt, ↓e_ifCond_ge, ↓e_if_icmp_ge, ↓e_ifCond_gt, ↓e_if_icmp_gt, ↓e_ifCond_le, ↓e_if_icmp_le, ↓e_tab, ↓e_look, ↓e_get0, ↓e_get1, ↓e_get2, ↓e_get3, ↓e_put0, ↓e_put1, ↓e_put2, ↓e_put3, ↓e_iaload, ↓e_laload, ↓e_baload, ↓e_aaload, ↓e_iastore, ↓e_lastore, ↓e_bastore, ↓e_aastore, ↓e_alen, ↓e_new, ↓e_newarray, ↓e_anewarray, ↓e_objinit, ↓e_virt1, ↓e_virt2, ↓e_virt3, ↓e_virt4, ↓e_virt5, ↓e_virt6, ↓e_virt7, ↓e_stat0, ↓e_stat1, ↓e_stat2, ↓e_stat3, ↓e_stat4, ↓e_stat5, ↓e_stat6, ↓e_stat7, ↓e_spec1, ↓e_spec2, ↓e_spec3, ↓e_spec4, ↓e_spec5, ↓e_strlen, ↓e_charAt, ↓e_copy, ↓e_iret0, ↓e_iret1, ↓e_lret, ↓e_aret, ↓e_vret, zIsI_int, zIsL_long, zIsA_ref, zInt_int, true_and, and_true, ↓reduceIte, zGet, zSet, zSet2, zEnt, zWid, Value.category, List.map_cons, List.map_nil, List.sum_cons, List.sum_nil, List.replicate, Option.toList, Nat.reduceAdd, Nat.reduceSub, Nat.reduceMul, Nat.reduceLeDiff, Nat.reduceEqDiff, Nat.reduceLT, List.cons_append, List.nil_append, true_or, or_true, or_false, false_or, nI_ltI, nI_leI, nI_eq, nI_clamp, zIn_nI, bI_0, nI_add, nI_mul, nI_or, nI_and, nI_shl1, nI_bit, ↓pk_rem, pk_div, Nat.lt_irrefl, Nat.not_lt_zero, reduceCtorEq, sK_setI, sR_setI, sL_setI, k1, hn, z1, z2, z3, K1, K2, k2, ← hs2, n2, nIlt0, nI_clamp, not_false_eq_true]
end CTB
