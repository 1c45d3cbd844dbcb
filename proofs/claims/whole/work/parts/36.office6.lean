/-- σ with the first n places of the int row b as f says -/
def setA (σ : MS) (b n : Nat) (f : Nat → Int32) : MS := (σ.1, fun q j => if q = b ∧ j < n then f j else σ.2.1 q j, σ.2.2)
theorem setA_0 (σ : MS) (b : Nat) (f : Nat → Int32) : setA σ b 0 f = σ := by
  unfold setA
  simp
theorem setA_s (σ : MS) (b n : Nat) (f : Nat → Int32) : setI (setA σ b n f) b n (f n) = setA σ b (n + 1) f := by
  unfold setI setA
  congr 2
  funext q j
  by_cases hq : q = b
  · by_cases hj : j = n
    · subst hq; subst hj; simp
    · have e : (j < n) = (j < n + 1) := propext ⟨fun h => by omega, fun h => by omega⟩
      simp [hq, hj, e]
  · simp [hq]
theorem sK_setA (σ : MS) (b n : Nat) (f : Nat → Int32) (q : Nat) : sK (setA σ b n f) q = sK σ q := rfl
theorem sL_setA (σ : MS) (b n : Nat) (f : Nat → Int32) (q j : Nat) : sL (setA σ b n f) q j = sL σ q j := rfl
theorem sR_setA (σ : MS) (b n : Nat) (f : Nat → Int32) (q j : Nat) : sR (setA σ b n f) q j = sR σ q j := rfl
theorem sI_setA (σ : MS) (b n : Nat) (f : Nat → Int32) (q j : Nat) : sI (setA σ b n f) q j = if q = b ∧ j < n then f j else sI σ q j := rfl
theorem ROff.congr {σ τ : MS} {a : Nat} {A : Ofc} (H : ROff σ a A) (hK : ∀ b, a ≤ b → b ≤ a + 11 → sK τ b = sK σ b) (hI : ∀ b j, a ≤ b → b ≤ a + 10 → sI τ b j = sI σ b j) (hL : ∀ b j, a ≤ b → b ≤ a + 10 → sL τ b j = sL σ b j) (hR : ∀ j, sR τ a j = sR σ a j) : ROff τ a A := by
  have z : ∀ k, k ≤ 11 → sK τ (a + k) = sK σ (a + k) := fun k hk => hK _ (by omega) (by omega)
  have y : ∀ k, k ≤ 10 → ∀ j, sI τ (a + k) j = sI σ (a + k) j := fun k hk j => hI _ j (by omega) (by omega)
  have x : ∀ k, k ≤ 10 → ∀ j, sL τ (a + k) j = sL σ (a + k) j := fun k hk j => hL _ j (by omega) (by omega)
  refine ROff.mk ((z 0 (by omega)).trans H.k) ?_ ?_ ?_ ?_ ?_ ?_ ?_ ?_ ((hR _).trans H.r8) ((hR _).trans H.r9) ((hR _).trans H.r10) ((hR _).trans H.r11) ((hR _).trans H.r12) ((hR _).trans H.r13) ((hR _).trans H.r14) ((hR _).trans H.r15) ((hR _).trans H.r16) ((hR _).trans H.r17) ((hR _).trans H.r18) ((z 1 (by omega)).trans H.k1) ((z 2 (by omega)).trans H.k2) ((z 3 (by omega)).trans H.k3) ((z 4 (by omega)).trans H.k4) ((z 5 (by omega)).trans H.k5) ((z 6 (by omega)).trans H.k6) ((z 7 (by omega)).trans H.k7) ((z 8 (by omega)).trans H.k8) ((z 9 (by omega)).trans H.k9) ((z 10 (by omega)).trans H.k10) ((z 11 (by omega)).trans H.k11) ?_ ?_ ?_ ?_ ?_ ?_ ?_ ?_ ?_ ?_
  · exact (y 0 (by omega) _).trans H.i0
  · exact (y 0 (by omega) _).trans H.i1
  · exact (y 0 (by omega) _).trans H.i2
  · exact (y 0 (by omega) _).trans H.i3
  · exact (y 0 (by omega) _).trans H.i4
  · exact (y 0 (by omega) _).trans H.i5
  · exact (y 0 (by omega) _).trans H.i6
  · exact (y 0 (by omega) _).trans H.i7
  · exact fun t h => (y 1 (by omega) _).trans (H.a1 t h)
  · exact fun t h => (x 2 (by omega) _).trans (H.a2 t h)
  · exact fun t h => (y 3 (by omega) _).trans (H.a3 t h)
  · exact fun t h => (y 4 (by omega) _).trans (H.a4 t h)
  · exact fun t h => (x 5 (by omega) _).trans (H.a5 t h)
  · exact fun t h => (y 6 (by omega) _).trans (H.a6 t h)
  · exact fun t h => (x 7 (by omega) _).trans (H.a7 t h)
  · exact fun t h => (y 8 (by omega) _).trans (H.a8 t h)
  · exact fun c k h1 h2 => (y 9 (by omega) _).trans (H.a9 c k h1 h2)
  · exact fun p q h1 h2 => (y 10 (by omega) _).trans (H.a10 p q h1 h2)
section OFF6
variable {d : Nat} {σ : MS} {a : Nat} {A : Ofc} {K : Option Value → MS → Prop}
theorem ROff.smells (H : ROff σ a A) (n : Nat) (f : Nat → Int32) : ROff (setA σ (a + 11) n f) a A := by
  refine H.congr (fun b _ _ => rfl) (fun b j h1 h2 => ?_) (fun b j _ _ => rfl) (fun j => rfl)
  rw [sI_setA, if_neg (by omega)]
theorem c_spreadSmells (H : ROff σ a A) (O : OfcOk A) {set : Nat} :
   zC (d + 2) 78 [.ref a, .int (nI set)] σ K = K none (setA σ (a + 11) (A.wide * A.high) (fun c => nI (A.smellC c set))) := by
  have h20 := cells20 O
  have h8 := O.p8
  rw [E_78]
  simp (disch := omega) only [L_78_0, zt_78_0, L_78_53, zt_78_53, L_78_54, zt_78_54, L_78_61, zt_78_61, ↓e_iconst0, ↓e_iconst1, ↓e_bipush0, ↓e_bipush1, ↓e_sipush0, ↓e_sipush1, ↓e_ldc0, ↓e_ldc1, ↓e_ldc_w0, ↓e_ldc_w1, ↓e_ldc2, ↓e_lconst0, ↓e_lconst1, ↓e_ldc2_w0, ↓e_ldc2_w1, ↓e_iload, ↓e_iload_n, ↓e_istore, ↓e_istore_n, ↓e_lload, ↓e_lload_n, ↓e_lstore, ↓e_lstore_n, ↓e_aload, ↓e_aload_n, ↓e_astore, ↓e_astore_n, ↓e_iinc0, ↓e_iinc1, ↓e_iadd, ↓e_isub, ↓e_imul, ↓e_iand, ↓e_ior, ↓e_ixor, ↓e_ishl, ↓e_ishr, ↓e_iushr, ↓e_ladd, ↓e_lsub, ↓e_lmul, ↓e_land, ↓e_lor, ↓e_idiv, ↓e_irem, ↓e_ldiv, ↓e_lrem, ↓e_lshl, ↓e_lcmp, ↓e_i2l, ↓e_l2i, ↓e_i2b, ↓e_i2s, ↓e_dup_int, ↓e_pop_int, ↓e_dup_ref, ↓e_pop_ref, ↓e_dup2, ↓e_goto, ↓e_nop, ↓e_ifCond_eq, ↓e_if_icmp_eq, ↓e_ifCond_ne, ↓e_if_icmp_ne, ↓e_ifCond_lt, ↓e_if_icmp_lt, ↓e_ifCond_ge, ↓e_if_icmp_ge, ↓e_ifCond_gt, ↓e_if_icmp_gt, ↓e_ifCond_le, ↓e_if_icmp_le, ↓e_tab, ↓e_look, ↓e_get0, ↓e_get1, ↓e_get2, ↓e_get3, ↓e_put0, ↓e_put1, ↓e_put2, ↓e_put3, ↓e_iaload, ↓e_laload, ↓e_baload, ↓e_aaload, ↓e_iastore, ↓e_lastore, ↓e_bastore, ↓e_aastore, ↓e_alen, ↓e_new, ↓e_newarray, ↓e_anewarray, ↓e_objinit, ↓e_virt1, ↓e_virt2, ↓e_virt3, ↓e_virt4, ↓e_virt5, ↓e_virt6, ↓e_virt7, ↓e_stat0, ↓e_stat1, ↓e_stat2, ↓e_stat3, ↓e_stat4, ↓e_stat5, ↓e_stat6, ↓e_stat7, ↓e_spec1, ↓e_spec2, ↓e_spec3, ↓e_spec4, ↓e_spec5, ↓e_strlen, ↓e_charAt, ↓e_copy, ↓e_iret0, ↓e_iret1, ↓e_lret, ↓e_aret, ↓e_vret, zIsI_int, zIsL_long, zIsA_ref, zInt_int, true_and, and_true, ↓reduceIte, zGet, zSet, zSet2, zEnt, zWid, Value.category, List.map_cons, List.map_nil, List.sum_cons, List.sum_nil, List.replicate, Option.toList, Nat.reduceAdd, Nat.reduceSub, Nat.reduceMul, Nat.reduceLeDiff, Nat.reduceEqDiff, Nat.reduceLT, List.cons_append, List.nil_append, true_or, or_true, or_false, false_or, H.k, H.i0, H.i1, H.i2, H.i3, H.i4, H.i5, H.i6, H.i7, H.r8, H.r9, H.r10, H.r11, H.r12, H.r13, H.r14, H.r15, H.r16, H.r17, H.r18, H.k1, H.k2, H.k3, H.k4, H.k5, H.k6, H.k7, H.k8, H.k9, H.k10, H.k11, nI_ltI, nI_leI, nI_eq, nI_clamp, zIn_nI, bI_0, nI_add, nI_mul, nI_or, nI_and, nI_shl1, nI_bit, ↓pk_rem, pk_div, Nat.lt_irrefl, Nat.not_lt_zero, reduceCtorEq]
  have st : ∀ (i : Nat) (x : Unit) (j : Value), i < A.wide * A.high → ∃ j' : Value, zX (d + 1) 78 2 [.ref a, .int (nI set), .int (nI i), j] [] (setA σ (a + 11) i (fun c => nI (A.smellC c set))) K = zX (d + 1) 78 2 [.ref a, .int (nI set), .int (nI (i + 1)), j'] [] (setA σ (a + 11) (i + 1) (fun c => nI (A.smellC c set))) K := by
    intro i x j hi
    have hi20 : i < 20 := by omega
    have H := H.smells i (fun c => nI (A.smellC c set))
    rw [← setA_s]
    generalize setA σ (a + 11) i (fun c => nI (A.smellC c set)) = σ at H ⊢
    rw [L_78_2, zt_78_2]
    refine ⟨.int (oI (A.who i)), ?_⟩
    unfold Ofc.smellC
    cases hw : A.who i with
    | none => simp (disch := omega) only [L_78_53, zt_78_53, L_78_54, zt_78_54, L_78_61, zt_78_61, ↓e_iconst0, ↓e_iconst1, ↓e_bipush0, ↓e_bipush1, ↓e_sipush0, ↓e_sipush1, ↓e_ldc0, ↓e_ldc1, ↓e_ldc_w0, ↓e_ldc_w1, ↓e_ldc2, ↓e_lconst0, ↓e_lconst1, ↓e_ldc2_w0, ↓e_ldc2_w1, ↓e_iload, ↓e_iload_n, ↓e_istore, ↓e_istore_n, ↓e_lload, ↓e_lload_n, ↓e_lstore, ↓e_lstore_n, ↓e_aload, ↓e_aload_n, ↓e_astore, ↓e_astore_n, ↓e_iinc0, ↓e_iinc1, ↓e_iadd, ↓e_isub, ↓e_imul, ↓e_iand, ↓e_ior, ↓e_ixor, ↓e_ishl, ↓e_ishr, ↓e_iushr, ↓e_ladd, ↓e_lsub, ↓e_lmul, ↓e_land, ↓e_lor, ↓e_idiv, ↓e_irem, ↓e_ldiv, ↓e_lrem, ↓e_lshl, ↓e_lcmp, ↓e_i2l, ↓e_l2i, ↓e_i2b, ↓e_i2s, ↓e_dup_int, ↓e_pop_int, ↓e_dup_ref, ↓e_pop_ref, ↓e_dup2, ↓e_goto, ↓e_nop, ↓e_ifCond_eq, ↓e_if_icmp_eq, ↓e_ifCond_ne, ↓e_if_icmp_ne, ↓e_ifCond_lt, ↓e_if_icmp_lt, ↓e_ifCond_ge, ↓e_if_icmp_ge, ↓e_ifCond_gt, ↓e_if_icmp_gt, ↓e_ifCond_le, ↓e_if_icmp_le, ↓e_tab, ↓e_look, ↓e_get0, ↓e_get1, ↓e_get2, ↓e_get3, ↓e_put0, ↓e_put1, ↓e_put2, ↓e_put3, ↓e_iaload, ↓e_laload, ↓e_baload, ↓e_aaload, ↓e_iastore, ↓e_lastore, ↓e_bastore, ↓e_aastore, ↓e_alen, ↓e_new, ↓e_newarray, ↓e_anewarray, ↓e_objinit, ↓e_virt1, ↓e_virt2, ↓e_virt3, ↓e_virt4, ↓e_virt5, ↓e_virt6, ↓e_virt7, ↓e_stat0, ↓e_stat1, ↓e_stat2, ↓e_stat3, ↓e_stat4, ↓e_stat5, ↓e_stat6, ↓e_stat7, ↓e_spec1, ↓e_spec2, ↓e_spec3, ↓e_spec4, ↓e_spec5, ↓e_strlen, ↓e_charAt, ↓e_copy, ↓e_iret0, ↓e_iret1, ↓e_lret, ↓e_aret, ↓e_vret, zIsI_int, zIsL_long, zIsA_ref, zInt_int, true_and, and_true, ↓reduceIte, zGet, zSet, zSet2, zEnt, zWid, Value.category, List.map_cons, List.map_nil, List.sum_cons, List.sum_nil, List.replicate, Option.toList, Nat.reduceAdd, Nat.reduceSub, Nat.reduceMul, Nat.reduceLeDiff, Nat.reduceEqDiff, Nat.reduceLT, List.cons_append, List.nil_append, true_or, or_true, or_false, false_or, H.k, H.i0, H.i1, H.i2, H.i3, H.i4, H.i5, H.i6, H.i7, H.r8, H.r9, H.r10, H.r11, H.r12, H.r13, H.r14, H.r15, H.r16, H.r17, H.r18, H.k1, H.k2, H.k3, H.k4, H.k5, H.k6, H.k7, H.k8, H.k9, H.k10, H.k11, nI_ltI, nI_leI, nI_eq, nI_clamp, zIn_nI, bI_0, nI_add, nI_mul, nI_or, nI_and, nI_shl1, nI_bit, ↓pk_rem, pk_div, Nat.lt_irrefl, Nat.not_lt_zero, reduceCtorEq, hi, hi20, H.a8 i hi20, hw, show oI none = -nI 1 from rfl, (by decide : -nI 1 < nI 0)]
    | some q =>
      have hq := who_np O hw
      have hq8 : q < 8 := by omega
      have nm : ¬ nI q = -nI 1 := fun hh => nI_pos (n := q) (by omega) (by rw [hh]; decide)
      simp (disch := omega) only [L_78_53, zt_78_53, L_78_54, zt_78_54, L_78_61, zt_78_61, ↓e_iconst0, ↓e_iconst1, ↓e_bipush0, ↓e_bipush1, ↓e_sipush0, ↓e_sipush1, ↓e_ldc0, ↓e_ldc1, ↓e_ldc_w0, ↓e_ldc_w1, ↓e_ldc2, ↓e_lconst0, ↓e_lconst1, ↓e_ldc2_w0, ↓e_ldc2_w1, ↓e_iload, ↓e_iload_n, ↓e_istore, ↓e_istore_n, ↓e_lload, ↓e_lload_n, ↓e_lstore, ↓e_lstore_n, ↓e_aload, ↓e_aload_n, ↓e_astore, ↓e_astore_n, ↓e_iinc0, ↓e_iinc1, ↓e_iadd, ↓e_isub, ↓e_imul, ↓e_iand, ↓e_ior, ↓e_ixor, ↓e_ishl, ↓e_ishr, ↓e_iushr, ↓e_ladd, ↓e_lsub, ↓e_lmul, ↓e_land, ↓e_lor, ↓e_idiv, ↓e_irem, ↓e_ldiv, ↓e_lrem, ↓e_lshl, ↓e_lcmp, ↓e_i2l, ↓e_l2i, ↓e_i2b, ↓e_i2s, ↓e_dup_int, ↓e_pop_int, ↓e_dup_ref, ↓e_pop_ref, ↓e_dup2, ↓e_goto, ↓e_nop, ↓e_ifCond_eq, ↓e_if_icmp_eq, ↓e_ifCond_ne, ↓e_if_icmp_ne, ↓e_ifCond_lt, ↓e_if_icmp_lt, ↓e_ifCond_ge, ↓e_if_icmp_ge, ↓e_ifCond_gt, ↓e_if_icmp_gt, ↓e_ifCond_le, ↓e_if_icmp_le, ↓e_tab, ↓e_look, ↓e_get0, ↓e_get1, ↓e_get2, ↓e_get3, ↓e_put0, ↓e_put1, ↓e_put2, ↓e_put3, ↓e_iaload, ↓e_laload, ↓e_baload, ↓e_aaload, ↓e_iastore, ↓e_lastore, ↓e_bastore, ↓e_aastore, ↓e_alen, ↓e_new, ↓e_newarray, ↓e_anewarray, ↓e_objinit, ↓e_virt1, ↓e_virt2, ↓e_virt3, ↓e_virt4, ↓e_virt5, ↓e_virt6, ↓e_virt7, ↓e_stat0, ↓e_stat1, ↓e_stat2, ↓e_stat3, ↓e_stat4, ↓e_stat5, ↓e_stat6, ↓e_stat7, ↓e_spec1, ↓e_spec2, ↓e_spec3, ↓e_spec4, ↓e_spec5, ↓e_strlen, ↓e_charAt, ↓e_copy, ↓e_iret0, ↓e_iret1, ↓e_lret, ↓e_aret, ↓e_vret, zIsI_int, zIsL_long, zIsA_ref, zInt_int, true_and, and_true, ↓reduceIte, zGet, zSet, zSet2, zEnt, zWid, Value.category, List.map_cons, List.map_nil, List.sum_cons, List.sum_nil, List.replicate, Option.toList, Nat.reduceAdd, Nat.reduceSub, Nat.reduceMul, Nat.reduceLeDiff, Nat.reduceEqDiff, Nat.reduceLT, List.cons_append, List.nil_append, true_or, or_true, or_false, false_or, H.k, H.i0, H.i1, H.i2, H.i3, H.i4, H.i5, H.i6, H.i7, H.r8, H.r9, H.r10, H.r11, H.r12, H.r13, H.r14, H.r15, H.r16, H.r17, H.r18, H.k1, H.k2, H.k3, H.k4, H.k5, H.k6, H.k7, H.k8, H.k9, H.k10, H.k11, nI_ltI, nI_leI, nI_eq, nI_clamp, zIn_nI, bI_0, nI_add, nI_mul, nI_or, nI_and, nI_shl1, nI_bit, ↓pk_rem, pk_div, Nat.lt_irrefl, Nat.not_lt_zero, reduceCtorEq, hi, hi20, H.a8 i hi20, hw, show oI (some q) = nI q from rfl, nm, H.a3 q hq, hq8, ↓c_weightsOf H O (and31 (tr31 O hq))]
      rfl
  obtain ⟨j', h'⟩ := zfor_upJ (P := fun i (x : Unit) (j : Value) => zX (d + 1) 78 2 [.ref a, .int (nI set), .int (nI i), j] [] (setA σ (a + 11) i (fun c => nI (A.smellC c set))) K) (g := fun _ x => x) (a := ()) st .null
  rw [setA_0] at h'
  refine Eq.trans h' ?_
  have H := H.smells (A.wide * A.high) (fun c => nI (A.smellC c set))
  rw [L_78_2, zt_78_2]
  simp (disch := omega) only [L_78_53, zt_78_53, L_78_54, zt_78_54, L_78_61, zt_78_61, ↓e_iconst0, ↓e_iconst1, ↓e_bipush0, ↓e_bipush1, ↓e_sipush0, ↓e_sipush1, ↓e_ldc0, ↓e_ldc1, ↓e_ldc_w0, ↓e_ldc_w1, ↓e_ldc2, ↓e_lconst0, ↓e_lconst1, ↓e_ldc2_w0, ↓e_ldc2_w1, ↓e_iload, ↓e_iload_n, ↓e_istore, ↓e_istore_n, ↓e_lload, ↓e_lload_n, ↓e_lstore, ↓e_lstore_n, ↓e_aload, ↓e_aload_n, ↓e_astore, ↓e_astore_n, ↓e_iinc0, ↓e_iinc1, ↓e_iadd, ↓e_isub, ↓e_imul, ↓e_iand, ↓e_ior, ↓e_ixor, ↓e_ishl, ↓e_ishr, ↓e_iushr, ↓e_ladd, ↓e_lsub, ↓e_lmul, ↓e_land, ↓e_lor, ↓e_idiv, ↓e_irem, ↓e_ldiv, ↓e_lrem, ↓e_lshl, ↓e_lcmp, ↓e_i2l, ↓e_l2i, ↓e_i2b, ↓e_i2s, ↓e_dup_int, ↓e_pop_int, ↓e_dup_ref, ↓e_pop_ref, ↓e_dup2, ↓e_goto, ↓e_nop, ↓e_ifCond_eq, ↓e_if_icmp_eq, ↓e_ifCond_ne, ↓e_if_icmp_ne, ↓e_ifCond_lt, ↓e_if_icmp_lt, ↓e_ifCond_ge, ↓e_if_icmp_ge, ↓e_ifCond_gt, ↓e_if_icmp_gt, ↓e_ifCond_le, ↓e_if_icmp_le, ↓e_tab, ↓e_look, ↓e_get0, ↓e_get1, ↓e_get2, ↓e_get3, ↓e_put0, ↓e_put1, ↓e_put2, ↓e_put3, ↓e_iaload, ↓e_laload, ↓e_baload, ↓e_aaload, ↓e_iastore, ↓e_lastore, ↓e_bastore, ↓e_aastore, ↓e_alen, ↓e_new, ↓e_newarray, ↓e_anewarray, ↓e_objinit, ↓e_virt1, ↓e_virt2, ↓e_virt3, ↓e_virt4, ↓e_virt5, ↓e_virt6, ↓e_virt7, ↓e_stat0, ↓e_stat1, ↓e_stat2, ↓e_stat3, ↓e_stat4, ↓e_stat5, ↓e_stat6, ↓e_stat7, ↓e_spec1, ↓e_spec2, ↓e_spec3, ↓e_spec4, ↓e_spec5, ↓e_strlen, ↓e_charAt, ↓e_copy, ↓e_iret0, ↓e_iret1, ↓e_lret, ↓e_aret, ↓e_vret, zIsI_int, zIsL_long, zIsA_ref, zInt_int, true_and, and_true, ↓reduceIte, zGet, zSet, zSet2, zEnt, zWid, Value.category, List.map_cons, List.map_nil, List.sum_cons, List.sum_nil, List.replicate, Option.toList, Nat.reduceAdd, Nat.reduceSub, Nat.reduceMul, Nat.reduceLeDiff, Nat.reduceEqDiff, Nat.reduceLT, List.cons_append, List.nil_append, true_or, or_true, or_false, false_or, H.k, H.i0, H.i1, H.i2, H.i3, H.i4, H.i5, H.i6, H.i7, H.r8, H.r9, H.r10, H.r11, H.r12, H.r13, H.r14, H.r15, H.r16, H.r17, H.r18, H.k1, H.k2, H.k3, H.k4, H.k5, H.k6, H.k7, H.k8, H.k9, H.k10, H.k11, nI_ltI, nI_leI, nI_eq, nI_clamp, zIn_nI, bI_0, nI_add, nI_mul, nI_or, nI_and, nI_shl1, nI_bit, ↓pk_rem, pk_div, Nat.lt_irrefl, Nat.not_lt_zero, reduceCtorEq]
end OFF6
