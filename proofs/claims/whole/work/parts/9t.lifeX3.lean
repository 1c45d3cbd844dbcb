/-! THE CLASS LIVES: a step with nothing in it -/
section LX3
variable {d : Nat} {σ τ ρ : MS} {x a u : Nat} {D : Dy} {s : Lf} {K : Option Value → MS → Prop}
theorem g_end (L : RLf σ x a u D s) (w : Bool) (v1 v2 v3 v4 v6 : Value) : zX d 33 318 [.ref x, v1, v2, v3, v4, .int (bI w), v6] [] σ K = K none (if w = true then σ else setI σ x (2 + 0) (nI (s.2.2.1 0 + 1))) := by
  rw [L_33_318, zt_33_318]
  cases w with
  | true =>
    simp (disch := omega) only [L_33_333, zt_33_333, ↓e_iconst0, ↓e_iconst1, ↓e_bipush0, ↓e_bipush1, ↓e_sipush0, ↓e_sipush1, ↓e_ldc0, ↓e_ldc1, ↓e_ldc_w0, ↓e_ldc_w1, ↓e_ldc2, ↓e_lconst0, ↓e_lconst1, ↓e_ldc2_w0, ↓e_ldc2_w1, ↓e_iload, ↓e_iload_n, ↓e_istore, ↓e_istore_n, ↓e_lload, ↓e_lload_n, ↓e_lstore, ↓e_lstore_n, ↓e_aload, ↓e_aload_n, ↓e_astore, ↓e_astore_n, ↓e_iinc0, ↓e_iinc1, ↓e_iadd, ↓e_isub, ↓e_imul, ↓e_iand, ↓e_ior, ↓e_ixor, ↓e_ishl, ↓e_ishr, ↓e_iushr, ↓e_ladd, ↓e_lsub, ↓e_lmul, ↓e_land, ↓e_lor, ↓e_idiv, ↓e_irem, ↓e_ldiv, ↓e_lrem, ↓e_lshl, ↓e_lcmp, ↓e_i2l, ↓e_l2i, ↓e_i2b, ↓e_i2s, ↓e_dup_int, ↓e_pop_int, ↓e_dup_ref, ↓e_pop_ref, ↓e_dup2, ↓e_goto, ↓e_nop, ↓e_ifCond_eq, ↓e_if_icmp_eq, ↓e_ifCond_ne, ↓e_if_icmp_ne, ↓e_ifCond_lt, ↓e_if_icmp_lt, ↓e_ifCond_ge, ↓e_if_icmp_ge, ↓e_ifCond_gt, ↓e_if_icmp_gt, ↓e_ifCond_le, ↓e_if_icmp_le, ↓e_tab, ↓e_look, ↓e_get0, ↓e_get1, ↓e_get2, ↓e_get3, ↓e_put0, ↓e_put1, ↓e_put2, ↓e_put3, ↓e_iaload, ↓e_laload, ↓e_baload, ↓e_aaload, ↓e_iastore, ↓e_lastore, ↓e_bastore, ↓e_aastore, ↓e_alen, ↓e_new, ↓e_newarray, ↓e_anewarray, ↓e_objinit, ↓e_virt1, ↓e_virt2, ↓e_virt3, ↓e_virt4, ↓e_virt5, ↓e_virt6, ↓e_virt7, ↓e_stat0, ↓e_stat1, ↓e_stat2, ↓e_stat3, ↓e_stat4, ↓e_stat5, ↓e_stat6, ↓e_stat7, ↓e_spec1, ↓e_spec2, ↓e_spec3, ↓e_spec4, ↓e_spec5, ↓e_strlen, ↓e_charAt, ↓e_copy, ↓e_iret0, ↓e_iret1, ↓e_lret, ↓e_aret, ↓e_vret, zIsI_int, zIsL_long, zIsA_ref, zInt_int, true_and, and_true, ↓reduceIte, zGet, zSet, zSet2, zEnt, zWid, Value.category, List.map_cons, List.map_nil, List.sum_cons, List.sum_nil, List.replicate, Option.toList, Nat.reduceAdd, Nat.reduceSub, Nat.reduceMul, Nat.reduceLeDiff, Nat.reduceEqDiff, Nat.reduceLT, List.cons_append, List.nil_append, true_or, or_true, or_false, false_or, nI_ltI, nI_leI, nI_eq, nI_clamp, zIn_nI, bI_0, nI_add, nI_mul, nI_or, nI_and, nI_shl1, nI_bit, ↓pk_rem, pk_div, Nat.lt_irrefl, Nat.not_lt_zero, reduceCtorEq, L.k, L.f2]
  | false =>
    simp (disch := omega) only [L_33_333, zt_33_333, ↓e_iconst0, ↓e_iconst1, ↓e_bipush0, ↓e_bipush1, ↓e_sipush0, ↓e_sipush1, ↓e_ldc0, ↓e_ldc1, ↓e_ldc_w0, ↓e_ldc_w1, ↓e_ldc2, ↓e_lconst0, ↓e_lconst1, ↓e_ldc2_w0, ↓e_ldc2_w1, ↓e_iload, ↓e_iload_n, ↓e_istore, ↓e_istore_n, ↓e_lload, ↓e_lload_n, ↓e_lstore, ↓e_lstore_n, ↓e_aload, ↓e_aload_n, ↓e_astore, ↓e_astore_n, ↓e_iinc0, ↓e_iinc1, ↓e_iadd, ↓e_isub, ↓e_imul, ↓e_iand, ↓e_ior, ↓e_ixor, ↓e_ishl, ↓e_ishr, ↓e_iushr, ↓e_ladd, ↓e_lsub, ↓e_lmul, ↓e_land, ↓e_lor, ↓e_idiv, ↓e_irem, ↓e_ldiv, ↓e_lrem, ↓e_lshl, ↓e_lcmp, ↓e_i2l, ↓e_l2i, ↓e_i2b, ↓e_i2s, ↓e_dup_int, ↓e_pop_int, ↓e_dup_ref, ↓e_pop_ref, ↓e_dup2, ↓e_goto, ↓e_nop, ↓e_ifCond_eq, ↓e_if_icmp_eq, ↓e_ifCond_ne, ↓e_if_icmp_ne, ↓e_ifCond_lt, ↓e_if_icmp_lt, ↓e_ifCond_ge, ↓e_if_icmp_ge, ↓e_ifCond_gt, ↓e_if_icmp_gt, ↓e_ifCond_le, ↓e_if_icmp_le, ↓e_tab, ↓e_look, ↓e_get0, ↓e_get1, ↓e_get2, ↓e_get3, ↓e_put0, ↓e_put1, ↓e_put2, ↓e_put3, ↓e_iaload, ↓e_laload, ↓e_baload, ↓e_aaload, ↓e_iastore, ↓e_lastore, ↓e_bastore, ↓e_aastore, ↓e_alen, ↓e_new, ↓e_newarray, ↓e_anewarray, ↓e_objinit, ↓e_virt1, ↓e_virt2, ↓e_virt3, ↓e_virt4, ↓e_virt5, ↓e_virt6, ↓e_virt7, ↓e_stat0, ↓e_stat1, ↓e_stat2, ↓e_stat3, ↓e_stat4, ↓e_stat5, ↓e_stat6, ↓e_stat7, ↓e_spec1, ↓e_spec2, ↓e_spec3, ↓e_spec4, ↓e_spec5, ↓e_strlen, ↓e_charAt, ↓e_copy, ↓e_iret0, ↓e_iret1, ↓e_lret, ↓e_aret, ↓e_vret, zIsI_int, zIsL_long, zIsA_ref, zInt_int, true_and, and_true, ↓reduceIte, zGet, zSet, zSet2, zEnt, zWid, Value.category, List.map_cons, List.map_nil, List.sum_cons, List.sum_nil, List.replicate, Option.toList, Nat.reduceAdd, Nat.reduceSub, Nat.reduceMul, Nat.reduceLeDiff, Nat.reduceEqDiff, Nat.reduceLT, List.cons_append, List.nil_append, true_or, or_true, or_false, false_or, nI_ltI, nI_leI, nI_eq, nI_clamp, zIn_nI, bI_0, nI_add, nI_mul, nI_or, nI_and, nI_shl1, nI_bit, ↓pk_rem, pk_div, Nat.lt_irrefl, Nat.not_lt_zero, reduceCtorEq, L.k, L.f2]
theorem AXP.gone {r : Lf} {w : Bool} (X : AXP σ x a u D r τ w) (hu : a + 11 < u) (hx : u + 4 < x) : ∃ ρ, FLf a x σ ρ ∧ RLf ρ x a u D r ∧ ∀ d v1 v2 v3 v4 v6 K, zX d 33 318 [.ref x, v1, v2, v3, v4, .int (bI w), v6] [] τ K = K none ρ := by
  obtain ⟨f, t, L, e⟩ := X
  rw [e]
  cases w with
  | true => exact ⟨τ, f, L, fun d v1 v2 v3 v4 v6 K => g_end L true v1 v2 v3 v4 v6⟩
  | false => exact ⟨_, f.tr FLf.cn, L.cnt (by decide) hu hx, fun d v1 v2 v3 v4 v6 K => g_end L false v1 v2 v3 v4 v6⟩
theorem g_10 (L : RLf σ x a u D s) (O : OfcOk s.1) (hu : a + 11 < u) (hx : u + 4 < x) {p : Nat} (h2 : p < s.1.np) {i : Nat} (hi30 : i < 30) (e1 : sI σ (u + 1) i = nI 10) (e2 : sI σ (u + 2) i = oI (some p)) (e3 : sI σ (u + 3) i = oI (none)) (v : Int32) :
   ∃ τ, FLf a x σ τ ∧ RLf τ x a u D (filL s p) ∧ ∀ K, zC (d + 5) 33 [.ref x, .int (nI i), .int v] σ K = K none τ := by
  have h8 := O.p8
  have H := L.h
  have os : ∀ k, oI (some k) = nI k := fun _ => rfl
  have on : oI none = -nI 1 := rfl
  obtain ⟨τ, w, X, c⟩ := x_fil (d := d + 1) L O h2 hu hx
  obtain ⟨ρ, f, Lr, e⟩ := X.gone hu hx
  refine ⟨ρ, f, Lr, fun K => ?_⟩
  rw [E_33]
  simp (disch := omega) only [L_33_0, zt_33_0, L_33_211, zt_33_211, show zTab 33 (285) (9) (21) #[118, 178, 188, 198, 167, 213, 276, 285, 118, 118, 67, 285, 159] (nI 10) = 211 from by decide, ↓e_iconst0, ↓e_iconst1, ↓e_bipush0, ↓e_bipush1, ↓e_sipush0, ↓e_sipush1, ↓e_ldc0, ↓e_ldc1, ↓e_ldc_w0, ↓e_ldc_w1, ↓e_ldc2, ↓e_lconst0, ↓e_lconst1, ↓e_ldc2_w0, ↓e_ldc2_w1, ↓e_iload, ↓e_iload_n, ↓e_istore, ↓e_istore_n, ↓e_lload, ↓e_lload_n, ↓e_lstore, ↓e_lstore_n, ↓e_aload, ↓e_aload_n, ↓e_astore, ↓e_astore_n, ↓e_iinc0, ↓e_iinc1, ↓e_iadd, ↓e_isub, ↓e_imul, ↓e_iand, ↓e_ior, ↓e_ixor, ↓e_ishl, ↓e_ishr, ↓e_iushr, ↓e_ladd, ↓e_lsub, ↓e_lmul, ↓e_land, ↓e_lor, ↓e_idiv, ↓e_irem, ↓e_ldiv, ↓e_lrem, ↓e_lshl, ↓e_lcmp, ↓e_i2l, ↓e_l2i, ↓e_i2b, ↓e_i2s, ↓e_dup_int, ↓e_pop_int, ↓e_dup_ref, ↓e_pop_ref, ↓e_dup2, ↓e_goto, ↓e_nop, ↓e_ifCond_eq, ↓e_if_icmp_eq, ↓e_ifCond_ne, ↓e_if_icmp_ne, ↓e_ifCond_lt, ↓e_if_icmp_lt, ↓e_ifCond_ge, ↓e_if_icmp_ge, ↓e_ifCond_gt, ↓e_if_icmp_gt, ↓e_ifCond_le, ↓e_if_icmp_le, ↓e_tab, ↓e_look, ↓e_get0, ↓e_get1, ↓e_get2, ↓e_get3, ↓e_put0, ↓e_put1, ↓e_put2, ↓e_put3, ↓e_iaload, ↓e_laload, ↓e_baload, ↓e_aaload, ↓e_iastore, ↓e_lastore, ↓e_bastore, ↓e_aastore, ↓e_alen, ↓e_new, ↓e_newarray, ↓e_anewarray, ↓e_objinit, ↓e_virt1, ↓e_virt2, ↓e_virt3, ↓e_virt4, ↓e_virt5, ↓e_virt6, ↓e_virt7, ↓e_stat0, ↓e_stat1, ↓e_stat2, ↓e_stat3, ↓e_stat4, ↓e_stat5, ↓e_stat6, ↓e_stat7, ↓e_spec1, ↓e_spec2, ↓e_spec3, ↓e_spec4, ↓e_spec5, ↓e_strlen, ↓e_charAt, ↓e_copy, ↓e_iret0, ↓e_iret1, ↓e_lret, ↓e_aret, ↓e_vret, zIsI_int, zIsL_long, zIsA_ref, zInt_int, true_and, and_true, ↓reduceIte, zGet, zSet, zSet2, zEnt, zWid, Value.category, List.map_cons, List.map_nil, List.sum_cons, List.sum_nil, List.replicate, Option.toList, Nat.reduceAdd, Nat.reduceSub, Nat.reduceMul, Nat.reduceLeDiff, Nat.reduceEqDiff, Nat.reduceLT, List.cons_append, List.nil_append, true_or, or_true, or_false, false_or, nI_ltI, nI_leI, nI_eq, nI_clamp, zIn_nI, bI_0, nI_add, nI_mul, nI_or, nI_and, nI_shl1, nI_bit, ↓pk_rem, pk_div, Nat.lt_irrefl, Nat.not_lt_zero, reduceCtorEq, L.k, L.r9, L.r10, L.d.k, L.d.r3, L.d.r4, L.d.r2, L.d.k1, L.d.k2, L.d.k3, e1, e2, e3, os, on, hi30, ↓c, ↓e]
theorem g_11 (L : RLf σ x a u D s) (O : OfcOk s.1) (hu : a + 11 < u) (hx : u + 4 < x) {p : Nat} (h2 : p < s.1.np) {i : Nat} (hi30 : i < 30) (e1 : sI σ (u + 1) i = nI 11) (e2 : sI σ (u + 2) i = oI (some p)) (e3 : sI σ (u + 3) i = oI (none)) (v : Int32) :
   ∃ τ, FLf a x σ τ ∧ RLf τ x a u D (takL s p) ∧ ∀ K, zC (d + 5) 33 [.ref x, .int (nI i), .int v] σ K = K none τ := by
  have h8 := O.p8
  have H := L.h
  have os : ∀ k, oI (some k) = nI k := fun _ => rfl
  have on : oI none = -nI 1 := rfl
  obtain ⟨τ, w, X, c⟩ := x_tak (d := d + 1) L O h2 hu hx
  obtain ⟨ρ, f, Lr, e⟩ := X.gone hu hx
  refine ⟨ρ, f, Lr, fun K => ?_⟩
  rw [E_33]
  simp (disch := omega) only [L_33_0, zt_33_0, L_33_221, zt_33_221, show zTab 33 (285) (9) (21) #[118, 178, 188, 198, 167, 213, 276, 285, 118, 118, 67, 285, 159] (nI 11) = 221 from by decide, ↓e_iconst0, ↓e_iconst1, ↓e_bipush0, ↓e_bipush1, ↓e_sipush0, ↓e_sipush1, ↓e_ldc0, ↓e_ldc1, ↓e_ldc_w0, ↓e_ldc_w1, ↓e_ldc2, ↓e_lconst0, ↓e_lconst1, ↓e_ldc2_w0, ↓e_ldc2_w1, ↓e_iload, ↓e_iload_n, ↓e_istore, ↓e_istore_n, ↓e_lload, ↓e_lload_n, ↓e_lstore, ↓e_lstore_n, ↓e_aload, ↓e_aload_n, ↓e_astore, ↓e_astore_n, ↓e_iinc0, ↓e_iinc1, ↓e_iadd, ↓e_isub, ↓e_imul, ↓e_iand, ↓e_ior, ↓e_ixor, ↓e_ishl, ↓e_ishr, ↓e_iushr, ↓e_ladd, ↓e_lsub, ↓e_lmul, ↓e_land, ↓e_lor, ↓e_idiv, ↓e_irem, ↓e_ldiv, ↓e_lrem, ↓e_lshl, ↓e_lcmp, ↓e_i2l, ↓e_l2i, ↓e_i2b, ↓e_i2s, ↓e_dup_int, ↓e_pop_int, ↓e_dup_ref, ↓e_pop_ref, ↓e_dup2, ↓e_goto, ↓e_nop, ↓e_ifCond_eq, ↓e_if_icmp_eq, ↓e_ifCond_ne, ↓e_if_icmp_ne, ↓e_ifCond_lt, ↓e_if_icmp_lt, ↓e_ifCond_ge, ↓e_if_icmp_ge, ↓e_ifCond_gt, ↓e_if_icmp_gt, ↓e_ifCond_le, ↓e_if_icmp_le, ↓e_tab, ↓e_look, ↓e_get0, ↓e_get1, ↓e_get2, ↓e_get3, ↓e_put0, ↓e_put1, ↓e_put2, ↓e_put3, ↓e_iaload, ↓e_laload, ↓e_baload, ↓e_aaload, ↓e_iastore, ↓e_lastore, ↓e_bastore, ↓e_aastore, ↓e_alen, ↓e_new, ↓e_newarray, ↓e_anewarray, ↓e_objinit, ↓e_virt1, ↓e_virt2, ↓e_virt3, ↓e_virt4, ↓e_virt5, ↓e_virt6, ↓e_virt7, ↓e_stat0, ↓e_stat1, ↓e_stat2, ↓e_stat3, ↓e_stat4, ↓e_stat5, ↓e_stat6, ↓e_stat7, ↓e_spec1, ↓e_spec2, ↓e_spec3, ↓e_spec4, ↓e_spec5, ↓e_strlen, ↓e_charAt, ↓e_copy, ↓e_iret0, ↓e_iret1, ↓e_lret, ↓e_aret, ↓e_vret, zIsI_int, zIsL_long, zIsA_ref, zInt_int, true_and, and_true, ↓reduceIte, zGet, zSet, zSet2, zEnt, zWid, Value.category, List.map_cons, List.map_nil, List.sum_cons, List.sum_nil, List.replicate, Option.toList, Nat.reduceAdd, Nat.reduceSub, Nat.reduceMul, Nat.reduceLeDiff, Nat.reduceEqDiff, Nat.reduceLT, List.cons_append, List.nil_append, true_or, or_true, or_false, false_or, nI_ltI, nI_leI, nI_eq, nI_clamp, zIn_nI, bI_0, nI_add, nI_mul, nI_or, nI_and, nI_shl1, nI_bit, ↓pk_rem, pk_div, Nat.lt_irrefl, Nat.not_lt_zero, reduceCtorEq, L.k, L.r9, L.r10, L.d.k, L.d.r3, L.d.r4, L.d.r2, L.d.k1, L.d.k2, L.d.k3, e1, e2, e3, os, on, hi30, ↓c, ↓e]
theorem g_14 (L : RLf σ x a u D s) (O : OfcOk s.1) (hu : a + 11 < u) (hx : u + 4 < x) {p q : Nat} (h2 : p < s.1.nc) (h4 : q < s.1.np) {i : Nat} (hi30 : i < 30) (e1 : sI σ (u + 1) i = nI 14) (e2 : sI σ (u + 2) i = oI (some p)) (e3 : sI σ (u + 3) i = oI (some q)) (v : Int32) :
   ∃ τ, FLf a x σ τ ∧ RLf τ x a u D (askL s p q) ∧ ∀ K, zC (d + 5) 33 [.ref x, .int (nI i), .int v] σ K = K none τ := by
  have h8 := O.p8
  have H := L.h
  have os : ∀ k, oI (some k) = nI k := fun _ => rfl
  have on : oI none = -nI 1 := rfl
  have q8 : q < 8 := by omega
  have eq := H.a3 q h4
  have g1 : Ag (fun b => a ≤ b ∧ b ≤ a + 11) σ (s.1.spr σ a (s.1.tr q)) := (spr_ag σ a _).mono (fun b hb => by omega)
  have H1 : ROff (s.1.spr σ a (s.1.tr q)) a s.1 := H.smells _ _
  have L1 := L.off g1 H1 hu hx
  have ca := fun (K : Option Value → MS → Prop) => c_askClerk (d := d) (K := K) (set := s.1.tr q) H O h2
  cases hf : s.1.found p (s.1.tr q) with
  | none =>
    simp only [hf, Option.isSome, Bool.false_eq_true, if_false] at ca
    have X : AXP σ x a u D (askL s p q) (s.1.spr σ a (s.1.tr q)) false := ⟨FLf.of g1 (by omega), s, L1, by
      unfold askL
      rw [hf]
      rfl⟩
    obtain ⟨ρ, f, Lr, e⟩ := X.gone hu hx
    have e5 : setI (s.1.spr σ a (s.1.tr q)) x 5 (nI (s.2.2.1 3)) = s.1.spr σ a (s.1.tr q) := setI_id L1.f5
    refine ⟨ρ, f, Lr, fun K => ?_⟩
    have f5 : sI (s.1.spr σ a (s.1.tr q)) x 5 = nI (s.2.2.1 3) := L1.f5
    have k1 : sK (s.1.spr σ a (s.1.tr q)) x = (0, 4) := L1.k
    generalize s.1.spr σ a (s.1.tr q) = τ1 at ca e e5 f5 k1
    rw [E_33]
    simp (disch := omega) only [L_33_0, zt_33_0, L_33_246, zt_33_246, L_33_284, zt_33_284, L_33_285, zt_33_285, L_33_301, zt_33_301, L_33_302, zt_33_302, show zTab 33 (285) (9) (21) #[118, 178, 188, 198, 167, 213, 276, 285, 118, 118, 67, 285, 159] (nI 14) = 246 from by decide, ↓e_iconst0, ↓e_iconst1, ↓e_bipush0, ↓e_bipush1, ↓e_sipush0, ↓e_sipush1, ↓e_ldc0, ↓e_ldc1, ↓e_ldc_w0, ↓e_ldc_w1, ↓e_ldc2, ↓e_lconst0, ↓e_lconst1, ↓e_ldc2_w0, ↓e_ldc2_w1, ↓e_iload, ↓e_iload_n, ↓e_istore, ↓e_istore_n, ↓e_lload, ↓e_lload_n, ↓e_lstore, ↓e_lstore_n, ↓e_aload, ↓e_aload_n, ↓e_astore, ↓e_astore_n, ↓e_iinc0, ↓e_iinc1, ↓e_iadd, ↓e_isub, ↓e_imul, ↓e_iand, ↓e_ior, ↓e_ixor, ↓e_ishl, ↓e_ishr, ↓e_iushr, ↓e_ladd, ↓e_lsub, ↓e_lmul, ↓e_land, ↓e_lor, ↓e_idiv, ↓e_irem, ↓e_ldiv, ↓e_lrem, ↓e_lshl, ↓e_lcmp, ↓e_i2l, ↓e_l2i, ↓e_i2b, ↓e_i2s, ↓e_dup_int, ↓e_pop_int, ↓e_dup_ref, ↓e_pop_ref, ↓e_dup2, ↓e_goto, ↓e_nop, ↓e_ifCond_eq, ↓e_if_icmp_eq, ↓e_ifCond_ne, ↓e_if_icmp_ne, ↓e_ifCond_lt, ↓e_if_icmp_lt, ↓e_ifCond_ge, ↓e_if_icmp_ge, ↓e_ifCond_gt, ↓e_if_icmp_gt, ↓e_ifCond_le, ↓e_if_icmp_le, ↓e_tab, ↓e_look, ↓e_get0, ↓e_get1, ↓e_get2, ↓e_get3, ↓e_put0, ↓e_put1, ↓e_put2, ↓e_put3, ↓e_iaload, ↓e_laload, ↓e_baload, ↓e_aaload, ↓e_iastore, ↓e_lastore, ↓e_bastore, ↓e_aastore, ↓e_alen, ↓e_new, ↓e_newarray, ↓e_anewarray, ↓e_objinit, ↓e_virt1, ↓e_virt2, ↓e_virt3, ↓e_virt4, ↓e_virt5, ↓e_virt6, ↓e_virt7, ↓e_stat0, ↓e_stat1, ↓e_stat2, ↓e_stat3, ↓e_stat4, ↓e_stat5, ↓e_stat6, ↓e_stat7, ↓e_spec1, ↓e_spec2, ↓e_spec3, ↓e_spec4, ↓e_spec5, ↓e_strlen, ↓e_charAt, ↓e_copy, ↓e_iret0, ↓e_iret1, ↓e_lret, ↓e_aret, ↓e_vret, zIsI_int, zIsL_long, zIsA_ref, zInt_int, true_and, and_true, ↓reduceIte, zGet, zSet, zSet2, zEnt, zWid, Value.category, List.map_cons, List.map_nil, List.sum_cons, List.sum_nil, List.replicate, Option.toList, Nat.reduceAdd, Nat.reduceSub, Nat.reduceMul, Nat.reduceLeDiff, Nat.reduceEqDiff, Nat.reduceLT, List.cons_append, List.nil_append, true_or, or_true, or_false, false_or, nI_ltI, nI_leI, nI_eq, nI_clamp, zIn_nI, bI_0, nI_add, nI_mul, nI_or, nI_and, nI_shl1, nI_bit, ↓pk_rem, pk_div, Nat.lt_irrefl, Nat.not_lt_zero, reduceCtorEq, L.k, L.r9, L.r10, L.d.k, L.d.r3, L.d.r4, L.d.r2, L.d.k1, L.d.k2, L.d.k3, H.k, H.r10, H.k3, eq, q8, e1, e2, e3, os, on, hi30, ↓c_isPaper H O, isI_np O h4, ↓ca, k1, f5, Nat.add_zero, e5, ↓show ∀ d v1 v2 v3 v4 v6 K, zX d 33 318 [.ref x, v1, v2, v3, v4, .int (nI 0), v6] [] τ1 K = K none ρ from e]
  | some t =>
    simp only [hf, Option.isSome, if_true] at ca
    have ht := found31 O p _ t hf
    have nm : ¬ nI t = -nI 1 := fun hh => nI_pos (n := t) (by omega) (by rw [hh]; decide)
    have g2 : Ag (fun b => a ≤ b ∧ b ≤ a + 11) σ (setI (s.1.spr σ a (s.1.tr q)) (a + 6) p (nI (s.1.search p (s.1.tr q)).1)) := g1.setI ⟨by omega, by omega⟩
    have L2 := L.off g2 H1.setCk hu hx
    have X : AXP σ x a u D (askL s p q) (setI (setI (s.1.spr σ a (s.1.tr q)) (a + 6) p (nI (s.1.search p (s.1.tr q)).1)) x (2 + 3) (nI (s.2.2.1 3 + 1))) true := ⟨(FLf.of g2 (by omega)).tr FLf.cn, _, L2.cnt (j := 3) (by decide) hu hx, by
      unfold askL
      rw [hf]
      rfl⟩
    obtain ⟨ρ, f, Lr, e⟩ := X.gone hu hx
    refine ⟨ρ, f, Lr, fun K => ?_⟩
    have f5 : sI (setI (s.1.spr σ a (s.1.tr q)) (a + 6) p (nI (s.1.search p (s.1.tr q)).1)) x 5 = nI (s.2.2.1 3) := L2.f5
    have k1 : sK (setI (s.1.spr σ a (s.1.tr q)) (a + 6) p (nI (s.1.search p (s.1.tr q)).1)) x = (0, 4) := L2.k
    generalize setI (s.1.spr σ a (s.1.tr q)) (a + 6) p (nI (s.1.search p (s.1.tr q)).1) = τ1 at ca e f5 k1
    rw [E_33]
    simp (disch := omega) only [L_33_0, zt_33_0, L_33_246, zt_33_246, L_33_284, zt_33_284, L_33_285, zt_33_285, L_33_301, zt_33_301, L_33_302, zt_33_302, show zTab 33 (285) (9) (21) #[118, 178, 188, 198, 167, 213, 276, 285, 118, 118, 67, 285, 159] (nI 14) = 246 from by decide, ↓e_iconst0, ↓e_iconst1, ↓e_bipush0, ↓e_bipush1, ↓e_sipush0, ↓e_sipush1, ↓e_ldc0, ↓e_ldc1, ↓e_ldc_w0, ↓e_ldc_w1, ↓e_ldc2, ↓e_lconst0, ↓e_lconst1, ↓e_ldc2_w0, ↓e_ldc2_w1, ↓e_iload, ↓e_iload_n, ↓e_istore, ↓e_istore_n, ↓e_lload, ↓e_lload_n, ↓e_lstore, ↓e_lstore_n, ↓e_aload, ↓e_aload_n, ↓e_astore, ↓e_astore_n, ↓e_iinc0, ↓e_iinc1, ↓e_iadd, ↓e_isub, ↓e_imul, ↓e_iand, ↓e_ior, ↓e_ixor, ↓e_ishl, ↓e_ishr, ↓e_iushr, ↓e_ladd, ↓e_lsub, ↓e_lmul, ↓e_land, ↓e_lor, ↓e_idiv, ↓e_irem, ↓e_ldiv, ↓e_lrem, ↓e_lshl, ↓e_lcmp, ↓e_i2l, ↓e_l2i, ↓e_i2b, ↓e_i2s, ↓e_dup_int, ↓e_pop_int, ↓e_dup_ref, ↓e_pop_ref, ↓e_dup2, ↓e_goto, ↓e_nop, ↓e_ifCond_eq, ↓e_if_icmp_eq, ↓e_ifCond_ne, ↓e_if_icmp_ne, ↓e_ifCond_lt, ↓e_if_icmp_lt, ↓e_ifCond_ge, ↓e_if_icmp_ge, ↓e_ifCond_gt, ↓e_if_icmp_gt, ↓e_ifCond_le, ↓e_if_icmp_le, ↓e_tab, ↓e_look, ↓e_get0, ↓e_get1, ↓e_get2, ↓e_get3, ↓e_put0, ↓e_put1, ↓e_put2, ↓e_put3, ↓e_iaload, ↓e_laload, ↓e_baload, ↓e_aaload, ↓e_iastore, ↓e_lastore, ↓e_bastore, ↓e_aastore, ↓e_alen, ↓e_new, ↓e_newarray, ↓e_anewarray, ↓e_objinit, ↓e_virt1, ↓e_virt2, ↓e_virt3, ↓e_virt4, ↓e_virt5, ↓e_virt6, ↓e_virt7, ↓e_stat0, ↓e_stat1, ↓e_stat2, ↓e_stat3, ↓e_stat4, ↓e_stat5, ↓e_stat6, ↓e_stat7, ↓e_spec1, ↓e_spec2, ↓e_spec3, ↓e_spec4, ↓e_spec5, ↓e_strlen, ↓e_charAt, ↓e_copy, ↓e_iret0, ↓e_iret1, ↓e_lret, ↓e_aret, ↓e_vret, zIsI_int, zIsL_long, zIsA_ref, zInt_int, true_and, and_true, ↓reduceIte, zGet, zSet, zSet2, zEnt, zWid, Value.category, List.map_cons, List.map_nil, List.sum_cons, List.sum_nil, List.replicate, Option.toList, Nat.reduceAdd, Nat.reduceSub, Nat.reduceMul, Nat.reduceLeDiff, Nat.reduceEqDiff, Nat.reduceLT, List.cons_append, List.nil_append, true_or, or_true, or_false, false_or, nI_ltI, nI_leI, nI_eq, nI_clamp, zIn_nI, bI_0, nI_add, nI_mul, nI_or, nI_and, nI_shl1, nI_bit, ↓pk_rem, pk_div, Nat.lt_irrefl, Nat.not_lt_zero, reduceCtorEq, L.k, L.r9, L.r10, L.d.k, L.d.r3, L.d.r4, L.d.r2, L.d.k1, L.d.k2, L.d.k3, H.k, H.r10, H.k3, eq, q8, e1, e2, e3, os, on, hi30, ↓c_isPaper H O, isI_np O h4, ↓ca, nm, k1, f5, ↓show ∀ d v1 v2 v3 v4 v6 K, zX d 33 318 [.ref x, v1, v2, v3, v4, .int (nI 1), v6] [] (setI τ1 x 5 (nI (s.2.2.1 3 + 1))) K = K none ρ from e]
theorem g_12 (L : RLf σ x a u D s) (O : OfcOk s.1) (hu : a + 11 < u) (hx : u + 4 < x) {p q : Nat} (h2 : p < s.1.wide * s.1.high) (h4 : q < s.1.wide * s.1.high) {i : Nat} (hi30 : i < 30) (e1 : sI σ (u + 1) i = nI 12) (e2 : sI σ (u + 2) i = oI (some p)) (e3 : sI σ (u + 3) i = oI (some q)) (v : Int32) :
   ∃ τ, FLf a x σ τ ∧ RLf τ x a u D (swaL s p q) ∧ ∀ K, zC (d + 5) 33 [.ref x, .int (nI i), .int v] σ K = K none τ := by
  have h8 := O.p8
  have H := L.h
  have os : ∀ k, oI (some k) = nI k := fun _ => rfl
  have on : oI none = -nI 1 := rfl
  have cx := fun (K : Option Value → MS → Prop) => c_exchange (d := d + 1) (K := K) H O h2 h4
  have X : ∃ τ w, AXP σ x a u D (swaL s p q) τ w ∧ ∀ K, zC (d + 4) 63 [.ref a, .int (nI p), .int (nI q)] σ K = K (some (.int (bI w))) τ := by
    unfold swaL
    by_cases hc : s.1.canX p q = true
    · simp only [if_pos hc] at cx ⊢
      exact ⟨_, true, ⟨FLf.of (swp_ag p q) (by omega), _, L.off (swp_ag p q) (H.swa O h2 h4 (canX_ne hc)) hu hx, rfl⟩, cx⟩
    · simp only [if_neg hc] at cx ⊢
      exact ⟨σ, false, ⟨FLf.rf, s, L, rfl⟩, cx⟩
  obtain ⟨τ, w, X, c⟩ := X
  obtain ⟨ρ, f, Lr, e⟩ := X.gone hu hx
  refine ⟨ρ, f, Lr, fun K => ?_⟩
  rw [E_33]
  simp (disch := omega) only [L_33_0, zt_33_0, L_33_231, zt_33_231, show zTab 33 (285) (9) (21) #[118, 178, 188, 198, 167, 213, 276, 285, 118, 118, 67, 285, 159] (nI 12) = 231 from by decide, ↓e_iconst0, ↓e_iconst1, ↓e_bipush0, ↓e_bipush1, ↓e_sipush0, ↓e_sipush1, ↓e_ldc0, ↓e_ldc1, ↓e_ldc_w0, ↓e_ldc_w1, ↓e_ldc2, ↓e_lconst0, ↓e_lconst1, ↓e_ldc2_w0, ↓e_ldc2_w1, ↓e_iload, ↓e_iload_n, ↓e_istore, ↓e_istore_n, ↓e_lload, ↓e_lload_n, ↓e_lstore, ↓e_lstore_n, ↓e_aload, ↓e_aload_n, ↓e_astore, ↓e_astore_n, ↓e_iinc0, ↓e_iinc1, ↓e_iadd, ↓e_isub, ↓e_imul, ↓e_iand, ↓e_ior, ↓e_ixor, ↓e_ishl, ↓e_ishr, ↓e_iushr, ↓e_ladd, ↓e_lsub, ↓e_lmul, ↓e_land, ↓e_lor, ↓e_idiv, ↓e_irem, ↓e_ldiv, ↓e_lrem, ↓e_lshl, ↓e_lcmp, ↓e_i2l, ↓e_l2i, ↓e_i2b, ↓e_i2s, ↓e_dup_int, ↓e_pop_int, ↓e_dup_ref, ↓e_pop_ref, ↓e_dup2, ↓e_goto, ↓e_nop, ↓e_ifCond_eq, ↓e_if_icmp_eq, ↓e_ifCond_ne, ↓e_if_icmp_ne, ↓e_ifCond_lt, ↓e_if_icmp_lt, ↓e_ifCond_ge, ↓e_if_icmp_ge, ↓e_ifCond_gt, ↓e_if_icmp_gt, ↓e_ifCond_le, ↓e_if_icmp_le, ↓e_tab, ↓e_look, ↓e_get0, ↓e_get1, ↓e_get2, ↓e_get3, ↓e_put0, ↓e_put1, ↓e_put2, ↓e_put3, ↓e_iaload, ↓e_laload, ↓e_baload, ↓e_aaload, ↓e_iastore, ↓e_lastore, ↓e_bastore, ↓e_aastore, ↓e_alen, ↓e_new, ↓e_newarray, ↓e_anewarray, ↓e_objinit, ↓e_virt1, ↓e_virt2, ↓e_virt3, ↓e_virt4, ↓e_virt5, ↓e_virt6, ↓e_virt7, ↓e_stat0, ↓e_stat1, ↓e_stat2, ↓e_stat3, ↓e_stat4, ↓e_stat5, ↓e_stat6, ↓e_stat7, ↓e_spec1, ↓e_spec2, ↓e_spec3, ↓e_spec4, ↓e_spec5, ↓e_strlen, ↓e_charAt, ↓e_copy, ↓e_iret0, ↓e_iret1, ↓e_lret, ↓e_aret, ↓e_vret, zIsI_int, zIsL_long, zIsA_ref, zInt_int, true_and, and_true, ↓reduceIte, zGet, zSet, zSet2, zEnt, zWid, Value.category, List.map_cons, List.map_nil, List.sum_cons, List.sum_nil, List.replicate, Option.toList, Nat.reduceAdd, Nat.reduceSub, Nat.reduceMul, Nat.reduceLeDiff, Nat.reduceEqDiff, Nat.reduceLT, List.cons_append, List.nil_append, true_or, or_true, or_false, false_or, nI_ltI, nI_leI, nI_eq, nI_clamp, zIn_nI, bI_0, nI_add, nI_mul, nI_or, nI_and, nI_shl1, nI_bit, ↓pk_rem, pk_div, Nat.lt_irrefl, Nat.not_lt_zero, reduceCtorEq, L.k, L.r9, L.r10, L.d.k, L.d.r3, L.d.r4, L.d.r2, L.d.k1, L.d.k2, L.d.k3, H.k, e1, e2, e3, os, on, hi30, ↓c, ↓e]
theorem g_13 (L : RLf σ x a u D s) (O : OfcOk s.1) (hu : a + 11 < u) (hx : u + 4 < x)  {i : Nat} (hi30 : i < 30) (e1 : sI σ (u + 1) i = nI 13) (e2 : sI σ (u + 2) i = oI (none)) (e3 : sI σ (u + 3) i = oI (none)) (v : Int32) :
   ∃ τ, FLf a x σ τ ∧ RLf τ x a u D (s.o s.1.srt) ∧ ∀ K, zC (d + 5) 33 [.ref x, .int (nI i), .int v] σ K = K none τ := by
  have h8 := O.p8
  have H := L.h
  have os : ∀ k, oI (some k) = nI k := fun _ => rfl
  have on : oI none = -nI 1 := rfl
  obtain ⟨τ, f, H2, c⟩ := c_layByNumber (d := d + 1) H O
  have X : AXP σ x a u D (s.o s.1.srt) τ true := ⟨FLf.of f (by omega), _, L.off f H2 hu hx, rfl⟩
  obtain ⟨ρ, f, Lr, e⟩ := X.gone hu hx
  refine ⟨ρ, f, Lr, fun K => ?_⟩
  rw [E_33]
  simp (disch := omega) only [L_33_0, zt_33_0, L_33_200, zt_33_200, show zTab 33 (285) (9) (21) #[118, 178, 188, 198, 167, 213, 276, 285, 118, 118, 67, 285, 159] (nI 13) = 200 from by decide, ↓e_iconst0, ↓e_iconst1, ↓e_bipush0, ↓e_bipush1, ↓e_sipush0, ↓e_sipush1, ↓e_ldc0, ↓e_ldc1, ↓e_ldc_w0, ↓e_ldc_w1, ↓e_ldc2, ↓e_lconst0, ↓e_lconst1, ↓e_ldc2_w0, ↓e_ldc2_w1, ↓e_iload, ↓e_iload_n, ↓e_istore, ↓e_istore_n, ↓e_lload, ↓e_lload_n, ↓e_lstore, ↓e_lstore_n, ↓e_aload, ↓e_aload_n, ↓e_astore, ↓e_astore_n, ↓e_iinc0, ↓e_iinc1, ↓e_iadd, ↓e_isub, ↓e_imul, ↓e_iand, ↓e_ior, ↓e_ixor, ↓e_ishl, ↓e_ishr, ↓e_iushr, ↓e_ladd, ↓e_lsub, ↓e_lmul, ↓e_land, ↓e_lor, ↓e_idiv, ↓e_irem, ↓e_ldiv, ↓e_lrem, ↓e_lshl, ↓e_lcmp, ↓e_i2l, ↓e_l2i, ↓e_i2b, ↓e_i2s, ↓e_dup_int, ↓e_pop_int, ↓e_dup_ref, ↓e_pop_ref, ↓e_dup2, ↓e_goto, ↓e_nop, ↓e_ifCond_eq, ↓e_if_icmp_eq, ↓e_ifCond_ne, ↓e_if_icmp_ne, ↓e_ifCond_lt, ↓e_if_icmp_lt, ↓e_ifCond_ge, ↓e_if_icmp_ge, ↓e_ifCond_gt, ↓e_if_icmp_gt, ↓e_ifCond_le, ↓e_if_icmp_le, ↓e_tab, ↓e_look, ↓e_get0, ↓e_get1, ↓e_get2, ↓e_get3, ↓e_put0, ↓e_put1, ↓e_put2, ↓e_put3, ↓e_iaload, ↓e_laload, ↓e_baload, ↓e_aaload, ↓e_iastore, ↓e_lastore, ↓e_bastore, ↓e_aastore, ↓e_alen, ↓e_new, ↓e_newarray, ↓e_anewarray, ↓e_objinit, ↓e_virt1, ↓e_virt2, ↓e_virt3, ↓e_virt4, ↓e_virt5, ↓e_virt6, ↓e_virt7, ↓e_stat0, ↓e_stat1, ↓e_stat2, ↓e_stat3, ↓e_stat4, ↓e_stat5, ↓e_stat6, ↓e_stat7, ↓e_spec1, ↓e_spec2, ↓e_spec3, ↓e_spec4, ↓e_spec5, ↓e_strlen, ↓e_charAt, ↓e_copy, ↓e_iret0, ↓e_iret1, ↓e_lret, ↓e_aret, ↓e_vret, zIsI_int, zIsL_long, zIsA_ref, zInt_int, true_and, and_true, ↓reduceIte, zGet, zSet, zSet2, zEnt, zWid, Value.category, List.map_cons, List.map_nil, List.sum_cons, List.sum_nil, List.replicate, Option.toList, Nat.reduceAdd, Nat.reduceSub, Nat.reduceMul, Nat.reduceLeDiff, Nat.reduceEqDiff, Nat.reduceLT, List.cons_append, List.nil_append, true_or, or_true, or_false, false_or, nI_ltI, nI_leI, nI_eq, nI_clamp, zIn_nI, bI_0, nI_add, nI_mul, nI_or, nI_and, nI_shl1, nI_bit, ↓pk_rem, pk_div, Nat.lt_irrefl, Nat.not_lt_zero, reduceCtorEq, L.k, L.r9, L.r10, L.d.k, L.d.r3, L.d.r4, L.d.r2, L.d.k1, L.d.k2, L.d.k3, H.k, e1, e2, e3, os, on, hi30, ↓c, ↓show ∀ d v1 v2 v3 v4 v6 K, zX d 33 318 [.ref x, v1, v2, v3, v4, .int (nI 1), v6] [] τ K = K none ρ from e]
theorem g_15 (L : RLf σ x a u D s) (O : OfcOk s.1) (hu : a + 11 < u) (hx : u + 4 < x) (hd : s.2.2.2.2.2 < 65536) {i : Nat} (hi30 : i < 30) (e1 : sI σ (u + 1) i = nI 15) (e2 : sI σ (u + 2) i = oI (none)) (e3 : sI σ (u + 3) i = oI (none)) (v : Int32) :
   ∃ τ, FLf a x σ τ ∧ RLf τ x a u D (anyL s) ∧ ∀ K, zC (d + 5) 33 [.ref x, .int (nI i), .int v] σ K = K none τ := by
  have h8 := O.p8
  have H := L.h
  have os : ∀ k, oI (some k) = nI k := fun _ => rfl
  have on : oI none = -nI 1 := rfl
  obtain ⟨τ, w, X, c⟩ := x_any (d := d) L O hd hu hx
  obtain ⟨ρ, f, Lr, e⟩ := X.gone hu hx
  refine ⟨ρ, f, Lr, fun K => ?_⟩
  rw [E_33]
  simp (disch := omega) only [L_33_0, zt_33_0, L_33_309, zt_33_309, show zTab 33 (285) (9) (21) #[118, 178, 188, 198, 167, 213, 276, 285, 118, 118, 67, 285, 159] (nI 15) = 309 from by decide, ↓e_iconst0, ↓e_iconst1, ↓e_bipush0, ↓e_bipush1, ↓e_sipush0, ↓e_sipush1, ↓e_ldc0, ↓e_ldc1, ↓e_ldc_w0, ↓e_ldc_w1, ↓e_ldc2, ↓e_lconst0, ↓e_lconst1, ↓e_ldc2_w0, ↓e_ldc2_w1, ↓e_iload, ↓e_iload_n, ↓e_istore, ↓e_istore_n, ↓e_lload, ↓e_lload_n, ↓e_lstore, ↓e_lstore_n, ↓e_aload, ↓e_aload_n, ↓e_astore, ↓e_astore_n, ↓e_iinc0, ↓e_iinc1, ↓e_iadd, ↓e_isub, ↓e_imul, ↓e_iand, ↓e_ior, ↓e_ixor, ↓e_ishl, ↓e_ishr, ↓e_iushr, ↓e_ladd, ↓e_lsub, ↓e_lmul, ↓e_land, ↓e_lor, ↓e_idiv, ↓e_irem, ↓e_ldiv, ↓e_lrem, ↓e_lshl, ↓e_lcmp, ↓e_i2l, ↓e_l2i, ↓e_i2b, ↓e_i2s, ↓e_dup_int, ↓e_pop_int, ↓e_dup_ref, ↓e_pop_ref, ↓e_dup2, ↓e_goto, ↓e_nop, ↓e_ifCond_eq, ↓e_if_icmp_eq, ↓e_ifCond_ne, ↓e_if_icmp_ne, ↓e_ifCond_lt, ↓e_if_icmp_lt, ↓e_ifCond_ge, ↓e_if_icmp_ge, ↓e_ifCond_gt, ↓e_if_icmp_gt, ↓e_ifCond_le, ↓e_if_icmp_le, ↓e_tab, ↓e_look, ↓e_get0, ↓e_get1, ↓e_get2, ↓e_get3, ↓e_put0, ↓e_put1, ↓e_put2, ↓e_put3, ↓e_iaload, ↓e_laload, ↓e_baload, ↓e_aaload, ↓e_iastore, ↓e_lastore, ↓e_bastore, ↓e_aastore, ↓e_alen, ↓e_new, ↓e_newarray, ↓e_anewarray, ↓e_objinit, ↓e_virt1, ↓e_virt2, ↓e_virt3, ↓e_virt4, ↓e_virt5, ↓e_virt6, ↓e_virt7, ↓e_stat0, ↓e_stat1, ↓e_stat2, ↓e_stat3, ↓e_stat4, ↓e_stat5, ↓e_stat6, ↓e_stat7, ↓e_spec1, ↓e_spec2, ↓e_spec3, ↓e_spec4, ↓e_spec5, ↓e_strlen, ↓e_charAt, ↓e_copy, ↓e_iret0, ↓e_iret1, ↓e_lret, ↓e_aret, ↓e_vret, zIsI_int, zIsL_long, zIsA_ref, zInt_int, true_and, and_true, ↓reduceIte, zGet, zSet, zSet2, zEnt, zWid, Value.category, List.map_cons, List.map_nil, List.sum_cons, List.sum_nil, List.replicate, Option.toList, Nat.reduceAdd, Nat.reduceSub, Nat.reduceMul, Nat.reduceLeDiff, Nat.reduceEqDiff, Nat.reduceLT, List.cons_append, List.nil_append, true_or, or_true, or_false, false_or, nI_ltI, nI_leI, nI_eq, nI_clamp, zIn_nI, bI_0, nI_add, nI_mul, nI_or, nI_and, nI_shl1, nI_bit, ↓pk_rem, pk_div, Nat.lt_irrefl, Nat.not_lt_zero, reduceCtorEq, L.k, L.r9, L.r10, L.d.k, L.d.r3, L.d.r4, L.d.r2, L.d.k1, L.d.k2, L.d.k3, H.k, e1, e2, e3, os, on, hi30, ↓c, ↓e]
theorem g_21 (L : RLf σ x a u D s) (O : OfcOk s.1) (hu : a + 11 < u) (hx : u + 4 < x)  {i : Nat} (hi30 : i < 30) (e1 : sI σ (u + 1) i = nI 21) (e2 : sI σ (u + 2) i = oI (none)) (e3 : sI σ (u + 3) i = oI (none)) (v : Int32) :
   ∃ τ, FLf a x σ τ ∧ RLf τ x a u D (s.ov) ∧ ∀ K, zC (d + 5) 33 [.ref x, .int (nI i), .int v] σ K = K none τ := by
  have h8 := O.p8
  have H := L.h
  have os : ∀ k, oI (some k) = nI k := fun _ => rfl
  have on : oI none = -nI 1 := rfl
  have X : AXP σ x a u D (s.ov) (setI σ x 7 (nI 1)) true := ⟨FLf.se _ (by decide), s.ov, L.put (t := s.ov) hu hx rfl rfl rfl rfl rfl rfl rfl rfl rfl, rfl⟩
  obtain ⟨ρ, f, Lr, e⟩ := X.gone hu hx
  refine ⟨ρ, f, Lr, fun K => ?_⟩
  rw [E_33]
  simp (disch := omega) only [L_33_0, zt_33_0, L_33_192, zt_33_192, show zTab 33 (285) (9) (21) #[118, 178, 188, 198, 167, 213, 276, 285, 118, 118, 67, 285, 159] (nI 21) = 192 from by decide, ↓e_iconst0, ↓e_iconst1, ↓e_bipush0, ↓e_bipush1, ↓e_sipush0, ↓e_sipush1, ↓e_ldc0, ↓e_ldc1, ↓e_ldc_w0, ↓e_ldc_w1, ↓e_ldc2, ↓e_lconst0, ↓e_lconst1, ↓e_ldc2_w0, ↓e_ldc2_w1, ↓e_iload, ↓e_iload_n, ↓e_istore, ↓e_istore_n, ↓e_lload, ↓e_lload_n, ↓e_lstore, ↓e_lstore_n, ↓e_aload, ↓e_aload_n, ↓e_astore, ↓e_astore_n, ↓e_iinc0, ↓e_iinc1, ↓e_iadd, ↓e_isub, ↓e_imul, ↓e_iand, ↓e_ior, ↓e_ixor, ↓e_ishl, ↓e_ishr, ↓e_iushr, ↓e_ladd, ↓e_lsub, ↓e_lmul, ↓e_land, ↓e_lor, ↓e_idiv, ↓e_irem, ↓e_ldiv, ↓e_lrem, ↓e_lshl, ↓e_lcmp, ↓e_i2l, ↓e_l2i, ↓e_i2b, ↓e_i2s, ↓e_dup_int, ↓e_pop_int, ↓e_dup_ref, ↓e_pop_ref, ↓e_dup2, ↓e_goto, ↓e_nop, ↓e_ifCond_eq, ↓e_if_icmp_eq, ↓e_ifCond_ne, ↓e_if_icmp_ne, ↓e_ifCond_lt, ↓e_if_icmp_lt, ↓e_ifCond_ge, ↓e_if_icmp_ge, ↓e_ifCond_gt, ↓e_if_icmp_gt, ↓e_ifCond_le, ↓e_if_icmp_le, ↓e_tab, ↓e_look, ↓e_get0, ↓e_get1, ↓e_get2, ↓e_get3, ↓e_put0, ↓e_put1, ↓e_put2, ↓e_put3, ↓e_iaload, ↓e_laload, ↓e_baload, ↓e_aaload, ↓e_iastore, ↓e_lastore, ↓e_bastore, ↓e_aastore, ↓e_alen, ↓e_new, ↓e_newarray, ↓e_anewarray, ↓e_objinit, ↓e_virt1, ↓e_virt2, ↓e_virt3, ↓e_virt4, ↓e_virt5, ↓e_virt6, ↓e_virt7, ↓e_stat0, ↓e_stat1, ↓e_stat2, ↓e_stat3, ↓e_stat4, ↓e_stat5, ↓e_stat6, ↓e_stat7, ↓e_spec1, ↓e_spec2, ↓e_spec3, ↓e_spec4, ↓e_spec5, ↓e_strlen, ↓e_charAt, ↓e_copy, ↓e_iret0, ↓e_iret1, ↓e_lret, ↓e_aret, ↓e_vret, zIsI_int, zIsL_long, zIsA_ref, zInt_int, true_and, and_true, ↓reduceIte, zGet, zSet, zSet2, zEnt, zWid, Value.category, List.map_cons, List.map_nil, List.sum_cons, List.sum_nil, List.replicate, Option.toList, Nat.reduceAdd, Nat.reduceSub, Nat.reduceMul, Nat.reduceLeDiff, Nat.reduceEqDiff, Nat.reduceLT, List.cons_append, List.nil_append, true_or, or_true, or_false, false_or, nI_ltI, nI_leI, nI_eq, nI_clamp, zIn_nI, bI_0, nI_add, nI_mul, nI_or, nI_and, nI_shl1, nI_bit, ↓pk_rem, pk_div, Nat.lt_irrefl, Nat.not_lt_zero, reduceCtorEq, L.k, L.r9, L.r10, L.d.k, L.d.r3, L.d.r4, L.d.r2, L.d.k1, L.d.k2, L.d.k3, H.k, e1, e2, e3, os, on, hi30, ↓show ∀ d v1 v2 v3 v4 v6 K, zX d 33 318 [.ref x, v1, v2, v3, v4, .int (nI 1), v6] [] (setI σ x 7 (nI 1)) K = K none ρ from e]
theorem doL_10 (p : Nat) : doL (10, some p, none) s = filL s p := rfl
theorem doL_11 (p : Nat) : doL (11, some p, none) s = takL s p := rfl
theorem doL_12 (p q : Nat) : doL (12, some p, some q) s = swaL s p q := rfl
theorem doL_13 : doL (13, none, none) s = s.o s.1.srt := rfl
theorem doL_14 (p q : Nat) : doL (14, some p, some q) s = askL s p q := rfl
theorem doL_15 : doL (15, none, none) s = anyL s := rfl
theorem doL_21 : doL (21, none, none) s = s.ov := rfl
theorem isBk_f {P : Prop} {k : Nat} (h : isBk k = false) (hk : k = 9 ∨ k = 17 ∨ k = 18 ∨ k = 19) : P := by
  rcases hk with rfl | rfl | rfl | rfl <;> cases h
theorem c_goOne (L : RLf σ x a u D s) (O : OfcOk s.1) (hd : s.2.2.2.2.2 < 65536) (hu : a + 11 < u) (hx : u + 4 < x) {o : Op} (V : OpV s.1.np s.1.nc (s.1.wide * s.1.high) o) (hb : isBk o.1 = false) {i j : Nat} (hi : i < D.1) (hD : D.1 ≤ 30) (hr : D.2.2.1 i = (o.1, o.2.1, o.2.2, j)) (v : Int32) :
   ∃ τ, FLf a x σ τ ∧ RLf τ x a u D (doL o s) ∧ ∀ K, zC (d + 5) 33 [.ref x, .int (nI i), .int v] σ K = K none τ := by
  have hi30 : i < 30 := by omega
  have e1 := L.c.c1 i hi
  have e2 := L.c.c2 i hi
  have e3 := L.c.c3 i hi
  rw [hr] at e1 e2 e3
  dsimp only at e1 e2 e3
  obtain ⟨k, b, c⟩ := o
  dsimp only at e1 e2 e3 hb hr
  rcases V with ⟨h1 | h1 | h1, p, h2, h3⟩ | ⟨h1, p, q, h2, h4, h3⟩ | ⟨h1, p, q, h2, h4, h3⟩ | ⟨h1, p, q, h2, h4, h3⟩ | ⟨h1, _⟩ | ⟨h1, _⟩ | ⟨h1 | h1 | h1, h3⟩ <;> dsimp only at h1
  · exact isBk_f hb (.inl h1)
  · subst h1; cases h3; rw [doL_10]; exact g_10 L O hu hx h2 hi30 e1 e2 e3 v
  · subst h1; cases h3; rw [doL_11]; exact g_11 L O hu hx h2 hi30 e1 e2 e3 v
  · exact isBk_f hb (.inr (.inl h1))
  · subst h1; cases h3; rw [doL_14]; exact g_14 L O hu hx h2 h4 hi30 e1 e2 e3 v
  · subst h1; cases h3; rw [doL_12]; exact g_12 L O hu hx h2 h4 hi30 e1 e2 e3 v
  · exact isBk_f hb (.inr (.inr (.inr h1)))
  · exact isBk_f hb (.inr (.inr (.inl h1)))
  · subst h1; cases h3; rw [doL_13]; exact g_13 L O hu hx hi30 e1 e2 e3 v
  · subst h1; cases h3; rw [doL_15]; exact g_15 L O hu hx hd hi30 e1 e2 e3 v
  · subst h1; cases h3; rw [doL_21]; exact g_21 L O hu hx hi30 e1 e2 e3 v
end LX3
