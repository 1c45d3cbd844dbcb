/-! BEST, the class: the ranks are listed -/
def RBk (σ : MS) : Prop := (sK σ 103 = (0, 0)) ∧ (sR σ 103 4 = 104) ∧ (sR σ 103 5 = 105) ∧ (sR σ 103 6 = 106) ∧ (sR σ 103 7 = 107) ∧ (sR σ 103 8 = 108) ∧ (sR σ 103 9 = 109) ∧ (sR σ 103 10 = 110) ∧ (sR σ 103 12 = 111) ∧ (sR σ 103 13 = 112) ∧ (sK σ 104 = (1, 8)) ∧ (sK σ 105 = (1, 8)) ∧ (sK σ 106 = (1, 8)) ∧ (sK σ 107 = (1, 9)) ∧ (sK σ 108 = (1, 29)) ∧ (sK σ 109 = (1, 8)) ∧ (sK σ 110 = (1, 8)) ∧ (sK σ 111 = (1, 20)) ∧ (sK σ 112 = (1, 64))
theorem RBk.k {σ : MS} (H : RBk σ) : sK σ 103 = (0, 0) := H.1
theorem RBk.r4 {σ : MS} (H : RBk σ) : sR σ 103 4 = 104 := H.2.1
theorem RBk.r5 {σ : MS} (H : RBk σ) : sR σ 103 5 = 105 := H.2.2.1
theorem RBk.r6 {σ : MS} (H : RBk σ) : sR σ 103 6 = 106 := H.2.2.2.1
theorem RBk.r7 {σ : MS} (H : RBk σ) : sR σ 103 7 = 107 := H.2.2.2.2.1
theorem RBk.r8 {σ : MS} (H : RBk σ) : sR σ 103 8 = 108 := H.2.2.2.2.2.1
theorem RBk.r9 {σ : MS} (H : RBk σ) : sR σ 103 9 = 109 := H.2.2.2.2.2.2.1
theorem RBk.r10 {σ : MS} (H : RBk σ) : sR σ 103 10 = 110 := H.2.2.2.2.2.2.2.1
theorem RBk.r12 {σ : MS} (H : RBk σ) : sR σ 103 12 = 111 := H.2.2.2.2.2.2.2.2.1
theorem RBk.r13 {σ : MS} (H : RBk σ) : sR σ 103 13 = 112 := H.2.2.2.2.2.2.2.2.2.1
theorem RBk.k104 {σ : MS} (H : RBk σ) : sK σ 104 = (1, 8) := H.2.2.2.2.2.2.2.2.2.2.1
theorem RBk.k105 {σ : MS} (H : RBk σ) : sK σ 105 = (1, 8) := H.2.2.2.2.2.2.2.2.2.2.2.1
theorem RBk.k106 {σ : MS} (H : RBk σ) : sK σ 106 = (1, 8) := H.2.2.2.2.2.2.2.2.2.2.2.2.1
theorem RBk.k107 {σ : MS} (H : RBk σ) : sK σ 107 = (1, 9) := H.2.2.2.2.2.2.2.2.2.2.2.2.2.1
theorem RBk.k108 {σ : MS} (H : RBk σ) : sK σ 108 = (1, 29) := H.2.2.2.2.2.2.2.2.2.2.2.2.2.2.1
theorem RBk.k109 {σ : MS} (H : RBk σ) : sK σ 109 = (1, 8) := H.2.2.2.2.2.2.2.2.2.2.2.2.2.2.2.1
theorem RBk.k110 {σ : MS} (H : RBk σ) : sK σ 110 = (1, 8) := H.2.2.2.2.2.2.2.2.2.2.2.2.2.2.2.2.1
theorem RBk.k111 {σ : MS} (H : RBk σ) : sK σ 111 = (1, 20) := H.2.2.2.2.2.2.2.2.2.2.2.2.2.2.2.2.2.1
theorem RBk.k112 {σ : MS} (H : RBk σ) : sK σ 112 = (1, 64) := H.2.2.2.2.2.2.2.2.2.2.2.2.2.2.2.2.2.2
theorem RBk.mk {σ : MS} (k : sK σ 103 = (0, 0)) (r4 : sR σ 103 4 = 104) (r5 : sR σ 103 5 = 105) (r6 : sR σ 103 6 = 106) (r7 : sR σ 103 7 = 107) (r8 : sR σ 103 8 = 108) (r9 : sR σ 103 9 = 109) (r10 : sR σ 103 10 = 110) (r12 : sR σ 103 12 = 111) (r13 : sR σ 103 13 = 112) (k104 : sK σ 104 = (1, 8)) (k105 : sK σ 105 = (1, 8)) (k106 : sK σ 106 = (1, 8)) (k107 : sK σ 107 = (1, 9)) (k108 : sK σ 108 = (1, 29)) (k109 : sK σ 109 = (1, 8)) (k110 : sK σ 110 = (1, 8)) (k111 : sK σ 111 = (1, 20)) (k112 : sK σ 112 = (1, 64)) : RBk σ := ⟨k, r4, r5, r6, r7, r8, r9, r10, r12, r13, k104, k105, k106, k107, k108, k109, k110, k111, k112⟩
/-- of the BestLay and its rows only q changes -/
def FB (q : Nat → Nat → Prop) (σ τ : MS) : Prop := Ag (fun b => 103 ≤ b ∧ b ≤ 112) σ τ ∧ (∀ j, sR τ 103 j = sR σ 103 j) ∧ ∀ b j, ¬ q b j → sI τ b j = sI σ b j
def fndG (g : Nat → Nat) (e : Nat) : Nat → Nat → Option Nat
  | 0, _ => none
  | m + 1, i => if g i = e then some i else fndG g e m (i + 1)
section LSX
variable {d : Nat} {σ τ ρ : MS} {a : Nat} {A : Ofc} {q q' : Nat → Nat → Prop} {K : Option Value → MS → Prop}
theorem FB.rf : FB q σ σ := ⟨Ag.rf, fun _ => rfl, fun _ _ _ => rfl⟩
theorem FB.tr (h1 : FB q σ τ) (h2 : FB q τ ρ) : FB q σ ρ := ⟨h1.1.tr h2.1, fun j => (h2.2.1 j).trans (h1.2.1 j), fun b j h => (h2.2.2 b j h).trans (h1.2.2 b j h)⟩
theorem FB.mono (h : FB q σ τ) (hq : ∀ b j, q b j → q' b j) : FB q' σ τ := ⟨h.1, h.2.1, fun b j hn => h.2.2 b j (fun hh => hn (hq b j hh))⟩
theorem FB.i (h : FB q σ τ) {b j : Nat} {v : Int32} (hb : 103 ≤ b ∧ b ≤ 112) (hq : q b j) : FB q σ (setI τ b j v) :=
  ⟨h.1.setI hb, fun i => (sR_setI ..).trans (h.2.1 i), fun c i hn => by rw [sI_setI, if_neg (fun hh => hn (by rw [hh.1, hh.2]; exact hq))]; exact h.2.2 c i hn⟩
theorem RBk.ag (B : RBk σ) (f : FB q σ τ) : RBk τ := by
  obtain ⟨h1, h2, h3, h4, h5, h6, h7, h8, h9, h10, h11, h12, h13, h14, h15, h16, h17, h18, h19⟩ := B
  unfold RBk
  simp only [f.1.K, f.2.1]
  exact ⟨h1, h2, h3, h4, h5, h6, h7, h8, h9, h10, h11, h12, h13, h14, h15, h16, h17, h18, h19⟩
theorem FB.off (f : FB q σ τ) (H : ROff σ a A) (ha : a + 11 < 103) : ROff τ a A := H.ag f.1 (fun b h1 h2 => by omega)
theorem fndG_some {g : Nat → Nat} {e r : Nat} : ∀ (m i : Nat), i ≤ r → r < i + m → g r = e → (∀ j, i ≤ j → j < r → g j ≠ e) → fndG g e m i = some r := by
  intro m
  induction m with
  | zero => intro i h1 h2; omega
  | succ m ih =>
    intro i h1 h2 h3 h4
    unfold fndG
    by_cases h : i = r
    · rw [h, if_pos h3]
    · rw [if_neg (h4 i (Nat.le_refl _) (by omega))]
      exact ih (i + 1) (by omega) (by omega) h3 (fun j a b => h4 j (by omega) b)
theorem fndG_none {g : Nat → Nat} {e : Nat} : ∀ (m i : Nat), (∀ j, i ≤ j → j < i + m → g j ≠ e) → fndG g e m i = none := by
  intro m
  induction m with
  | zero => intro i _; rfl
  | succ m ih =>
    intro i h
    unfold fndG
    rw [if_neg (h i (Nat.le_refl _) (by omega))]
    exact ih (i + 1) (fun j a b => h j (by omega) (by omega))
theorem fnd_cc (O : OfcOk A) {c e : Nat} (hc : c ≤ A.wide * A.high) (he : e < c) : fndG A.cc e (ct A.occ c) 0 = if A.occ e = true then some (ct A.occ e) else none := by
  have hN : ct A.occ c ≤ A.N := by rw [← N_occ O]; exact ct_mono hc
  cases ho : A.occ e with
  | true =>
    rw [if_pos rfl]
    have hl := ct_lt (P := A.occ) he ho
    refine fndG_some _ _ (Nat.zero_le _) (by omega) (cc_of O ho).1 (fun j _ hj hh => ?_)
    have := (cc_is O (show j < A.N by omega)).2.2.1
    rw [hh] at this
    omega
  | false =>
    rw [if_neg Bool.false_ne_true]
    refine fndG_none _ _ (fun j _ hj hh => ?_)
    have := (cc_is O (show j < A.N by omega)).2.1
    rw [hh, ho] at this
    cases this
theorem c_rankLoopB (B : RBk σ) {n e : Nat} {g : Nat → Nat} (hn : n ≤ 8) (m2 : sI σ 103 2 = nI n) (hc : ∀ k, k < n → sI σ 104 k = nI (g k) ∧ g k < 2 ^ 31) (he : e < 2 ^ 31) : ∀ (m i : Nat), m + i = n → zX d 5 2 [.ref 103, .int (nI e), .int (nI i)] [] σ K = K (some (.int (oI (fndG g e m i)))) σ := by
  have nm : ¬ nI e = -nI 1 := fun hh => nI_pos (n := e) he (by rw [hh]; decide)
  intro m
  induction m with
  | zero =>
    intro i hi
    have hi : i = n := by omega
    subst hi
    rw [L_5_2, zt_5_2]
    simp (disch := omega) only [L_5_33, zt_5_33, L_5_39, zt_5_39, ↓e_iconst0, ↓e_iconst1, ↓e_bipush0, ↓e_bipush1, ↓e_sipush0, ↓e_sipush1, ↓e_ldc0, ↓e_ldc1, ↓e_ldc_w0, ↓e_ldc_w1, ↓e_ldc2, ↓e_lconst0, ↓e_lconst1, ↓e_ldc2_w0, ↓e_ldc2_w1, ↓e_iload, ↓e_iload_n, ↓e_istore, ↓e_istore_n, ↓e_lload, ↓e_lload_n, ↓e_lstore, ↓e_lstore_n, ↓e_aload, ↓e_aload_n, ↓e_astore, ↓e_astore_n, ↓e_iinc0, ↓e_iinc1, ↓e_iadd, ↓e_isub, ↓e_imul, ↓e_iand, ↓e_ior, ↓e_ixor, ↓e_ishl, ↓e_ishr, ↓e_iushr, ↓e_ladd, ↓e_lsub, ↓e_lmul, ↓e_land, ↓e_lor, ↓e_idiv, ↓e_irem, ↓e_ldiv, ↓e_lrem, ↓e_lshl, ↓e_lcmp, ↓e_i2l, ↓e_l2i, ↓e_i2b, ↓e_i2s, ↓e_dup_int, ↓e_pop_int, ↓e_dup_ref, ↓e_pop_ref, ↓e_dup2, ↓e_goto, ↓e_nop, ↓e_ifCond_eq, ↓e_if_icmp_eq, ↓e_ifCond_ne, ↓e_if_icmp_ne, ↓e_ifCond_lt, ↓e_if_icmp_lt, ↓e_ifCond_ge, ↓e_if_icmp_ge, ↓e_ifCond_gt, ↓e_if_icmp_gt, ↓e_ifCond_le, ↓e_if_icmp_le, ↓e_tab, ↓e_look, ↓e_get0, ↓e_get1, ↓e_get2, ↓e_get3, ↓e_put0, ↓e_put1, ↓e_put2, ↓e_put3, ↓e_iaload, ↓e_laload, ↓e_baload, ↓e_aaload, ↓e_iastore, ↓e_lastore, ↓e_bastore, ↓e_aastore, ↓e_alen, ↓e_new, ↓e_newarray, ↓e_anewarray, ↓e_objinit, ↓e_virt1, ↓e_virt2, ↓e_virt3, ↓e_virt4, ↓e_virt5, ↓e_virt6, ↓e_virt7, ↓e_stat0, ↓e_stat1, ↓e_stat2, ↓e_stat3, ↓e_stat4, ↓e_stat5, ↓e_stat6, ↓e_stat7, ↓e_spec1, ↓e_spec2, ↓e_spec3, ↓e_spec4, ↓e_spec5, ↓e_strlen, ↓e_charAt, ↓e_copy, ↓e_iret0, ↓e_iret1, ↓e_lret, ↓e_aret, ↓e_vret, zIsI_int, zIsL_long, zIsA_ref, zInt_int, true_and, and_true, ↓reduceIte, zGet, zSet, zSet2, zEnt, zWid, Value.category, List.map_cons, List.map_nil, List.sum_cons, List.sum_nil, List.replicate, Option.toList, Nat.reduceAdd, Nat.reduceSub, Nat.reduceMul, Nat.reduceLeDiff, Nat.reduceEqDiff, Nat.reduceLT, List.cons_append, List.nil_append, true_or, or_true, or_false, false_or, nI_ltI, nI_leI, nI_eq, nI_clamp, zIn_nI, bI_0, nI_add, nI_mul, nI_or, nI_and, nI_shl1, nI_bit, ↓pk_rem, pk_div, Nat.lt_irrefl, Nat.not_lt_zero, reduceCtorEq, B.k, m2]
    rfl
  | succ m ih =>
    intro i hi
    have hin : i < n := by omega
    have hi8 : i < 8 := by omega
    have ih := ih (i + 1) (by omega)
    obtain ⟨c1, c2⟩ := hc i hin
    unfold fndG
    rw [L_5_2, zt_5_2]
    by_cases h : g i = e
    · simp (disch := omega) only [L_5_33, zt_5_33, L_5_39, zt_5_39, ↓e_iconst0, ↓e_iconst1, ↓e_bipush0, ↓e_bipush1, ↓e_sipush0, ↓e_sipush1, ↓e_ldc0, ↓e_ldc1, ↓e_ldc_w0, ↓e_ldc_w1, ↓e_ldc2, ↓e_lconst0, ↓e_lconst1, ↓e_ldc2_w0, ↓e_ldc2_w1, ↓e_iload, ↓e_iload_n, ↓e_istore, ↓e_istore_n, ↓e_lload, ↓e_lload_n, ↓e_lstore, ↓e_lstore_n, ↓e_aload, ↓e_aload_n, ↓e_astore, ↓e_astore_n, ↓e_iinc0, ↓e_iinc1, ↓e_iadd, ↓e_isub, ↓e_imul, ↓e_iand, ↓e_ior, ↓e_ixor, ↓e_ishl, ↓e_ishr, ↓e_iushr, ↓e_ladd, ↓e_lsub, ↓e_lmul, ↓e_land, ↓e_lor, ↓e_idiv, ↓e_irem, ↓e_ldiv, ↓e_lrem, ↓e_lshl, ↓e_lcmp, ↓e_i2l, ↓e_l2i, ↓e_i2b, ↓e_i2s, ↓e_dup_int, ↓e_pop_int, ↓e_dup_ref, ↓e_pop_ref, ↓e_dup2, ↓e_goto, ↓e_nop, ↓e_ifCond_eq, ↓e_if_icmp_eq, ↓e_ifCond_ne, ↓e_if_icmp_ne, ↓e_ifCond_lt, ↓e_if_icmp_lt, ↓e_ifCond_ge, ↓e_if_icmp_ge, ↓e_ifCond_gt, ↓e_if_icmp_gt, ↓e_ifCond_le, ↓e_if_icmp_le, ↓e_tab, ↓e_look, ↓e_get0, ↓e_get1, ↓e_get2, ↓e_get3, ↓e_put0, ↓e_put1, ↓e_put2, ↓e_put3, ↓e_iaload, ↓e_laload, ↓e_baload, ↓e_aaload, ↓e_iastore, ↓e_lastore, ↓e_bastore, ↓e_aastore, ↓e_alen, ↓e_new, ↓e_newarray, ↓e_anewarray, ↓e_objinit, ↓e_virt1, ↓e_virt2, ↓e_virt3, ↓e_virt4, ↓e_virt5, ↓e_virt6, ↓e_virt7, ↓e_stat0, ↓e_stat1, ↓e_stat2, ↓e_stat3, ↓e_stat4, ↓e_stat5, ↓e_stat6, ↓e_stat7, ↓e_spec1, ↓e_spec2, ↓e_spec3, ↓e_spec4, ↓e_spec5, ↓e_strlen, ↓e_charAt, ↓e_copy, ↓e_iret0, ↓e_iret1, ↓e_lret, ↓e_aret, ↓e_vret, zIsI_int, zIsL_long, zIsA_ref, zInt_int, true_and, and_true, ↓reduceIte, zGet, zSet, zSet2, zEnt, zWid, Value.category, List.map_cons, List.map_nil, List.sum_cons, List.sum_nil, List.replicate, Option.toList, Nat.reduceAdd, Nat.reduceSub, Nat.reduceMul, Nat.reduceLeDiff, Nat.reduceEqDiff, Nat.reduceLT, List.cons_append, List.nil_append, true_or, or_true, or_false, false_or, nI_ltI, nI_leI, nI_eq, nI_clamp, zIn_nI, bI_0, nI_add, nI_mul, nI_or, nI_and, nI_shl1, nI_bit, ↓pk_rem, pk_div, Nat.lt_irrefl, Nat.not_lt_zero, reduceCtorEq, B.k, B.r4, B.k104, m2, hin, hi8, nm, c1, h]
      rfl
    · simp (disch := omega) only [L_5_33, zt_5_33, L_5_39, zt_5_39, ↓e_iconst0, ↓e_iconst1, ↓e_bipush0, ↓e_bipush1, ↓e_sipush0, ↓e_sipush1, ↓e_ldc0, ↓e_ldc1, ↓e_ldc_w0, ↓e_ldc_w1, ↓e_ldc2, ↓e_lconst0, ↓e_lconst1, ↓e_ldc2_w0, ↓e_ldc2_w1, ↓e_iload, ↓e_iload_n, ↓e_istore, ↓e_istore_n, ↓e_lload, ↓e_lload_n, ↓e_lstore, ↓e_lstore_n, ↓e_aload, ↓e_aload_n, ↓e_astore, ↓e_astore_n, ↓e_iinc0, ↓e_iinc1, ↓e_iadd, ↓e_isub, ↓e_imul, ↓e_iand, ↓e_ior, ↓e_ixor, ↓e_ishl, ↓e_ishr, ↓e_iushr, ↓e_ladd, ↓e_lsub, ↓e_lmul, ↓e_land, ↓e_lor, ↓e_idiv, ↓e_irem, ↓e_ldiv, ↓e_lrem, ↓e_lshl, ↓e_lcmp, ↓e_i2l, ↓e_l2i, ↓e_i2b, ↓e_i2s, ↓e_dup_int, ↓e_pop_int, ↓e_dup_ref, ↓e_pop_ref, ↓e_dup2, ↓e_goto, ↓e_nop, ↓e_ifCond_eq, ↓e_if_icmp_eq, ↓e_ifCond_ne, ↓e_if_icmp_ne, ↓e_ifCond_lt, ↓e_if_icmp_lt, ↓e_ifCond_ge, ↓e_if_icmp_ge, ↓e_ifCond_gt, ↓e_if_icmp_gt, ↓e_ifCond_le, ↓e_if_icmp_le, ↓e_tab, ↓e_look, ↓e_get0, ↓e_get1, ↓e_get2, ↓e_get3, ↓e_put0, ↓e_put1, ↓e_put2, ↓e_put3, ↓e_iaload, ↓e_laload, ↓e_baload, ↓e_aaload, ↓e_iastore, ↓e_lastore, ↓e_bastore, ↓e_aastore, ↓e_alen, ↓e_new, ↓e_newarray, ↓e_anewarray, ↓e_objinit, ↓e_virt1, ↓e_virt2, ↓e_virt3, ↓e_virt4, ↓e_virt5, ↓e_virt6, ↓e_virt7, ↓e_stat0, ↓e_stat1, ↓e_stat2, ↓e_stat3, ↓e_stat4, ↓e_stat5, ↓e_stat6, ↓e_stat7, ↓e_spec1, ↓e_spec2, ↓e_spec3, ↓e_spec4, ↓e_spec5, ↓e_strlen, ↓e_charAt, ↓e_copy, ↓e_iret0, ↓e_iret1, ↓e_lret, ↓e_aret, ↓e_vret, zIsI_int, zIsL_long, zIsA_ref, zInt_int, true_and, and_true, ↓reduceIte, zGet, zSet, zSet2, zEnt, zWid, Value.category, List.map_cons, List.map_nil, List.sum_cons, List.sum_nil, List.replicate, Option.toList, Nat.reduceAdd, Nat.reduceSub, Nat.reduceMul, Nat.reduceLeDiff, Nat.reduceEqDiff, Nat.reduceLT, List.cons_append, List.nil_append, true_or, or_true, or_false, false_or, nI_ltI, nI_leI, nI_eq, nI_clamp, zIn_nI, bI_0, nI_add, nI_mul, nI_or, nI_and, nI_shl1, nI_bit, ↓pk_rem, pk_div, Nat.lt_irrefl, Nat.not_lt_zero, reduceCtorEq, B.k, B.r4, B.k104, m2, hin, hi8, nm, c1, h, ih]
theorem c_rankOf (B : RBk σ) {n : Nat} {g : Nat → Nat} (hn : n ≤ 8) (m2 : sI σ 103 2 = nI n) (hc : ∀ k, k < n → sI σ 104 k = nI (g k) ∧ g k < 2 ^ 31) (o : Option Nat) (ho : ∀ e, o = some e → e < 2 ^ 31) :
   zC (d + 1) 5 [.ref 103, .int (oI o)] σ K = K (some (.int (oI (o.bind (fun e => fndG g e n 0))))) σ := by
  rw [E_5]
  cases o with
  | none =>
    have e : zX d 5 2 [.ref 103, .int (-nI 1), .int (nI 0)] [] σ K = K (some (.int (-nI 1))) σ := by
      rw [L_5_2, zt_5_2]
      by_cases h : 0 < n
      · simp (disch := omega) only [L_5_33, zt_5_33, L_5_39, zt_5_39, ↓e_iconst0, ↓e_iconst1, ↓e_bipush0, ↓e_bipush1, ↓e_sipush0, ↓e_sipush1, ↓e_ldc0, ↓e_ldc1, ↓e_ldc_w0, ↓e_ldc_w1, ↓e_ldc2, ↓e_lconst0, ↓e_lconst1, ↓e_ldc2_w0, ↓e_ldc2_w1, ↓e_iload, ↓e_iload_n, ↓e_istore, ↓e_istore_n, ↓e_lload, ↓e_lload_n, ↓e_lstore, ↓e_lstore_n, ↓e_aload, ↓e_aload_n, ↓e_astore, ↓e_astore_n, ↓e_iinc0, ↓e_iinc1, ↓e_iadd, ↓e_isub, ↓e_imul, ↓e_iand, ↓e_ior, ↓e_ixor, ↓e_ishl, ↓e_ishr, ↓e_iushr, ↓e_ladd, ↓e_lsub, ↓e_lmul, ↓e_land, ↓e_lor, ↓e_idiv, ↓e_irem, ↓e_ldiv, ↓e_lrem, ↓e_lshl, ↓e_lcmp, ↓e_i2l, ↓e_l2i, ↓e_i2b, ↓e_i2s, ↓e_dup_int, ↓e_pop_int, ↓e_dup_ref, ↓e_pop_ref, ↓e_dup2, ↓e_goto, ↓e_nop, ↓e_ifCond_eq, ↓e_if_icmp_eq, ↓e_ifCond_ne, ↓e_if_icmp_ne, ↓e_ifCond_lt, ↓e_if_icmp_lt, ↓e_ifCond_ge, ↓e_if_icmp_ge, ↓e_ifCond_gt, ↓e_if_icmp_gt, ↓e_ifCond_le, ↓e_if_icmp_le, ↓e_tab, ↓e_look, ↓e_get0, ↓e_get1, ↓e_get2, ↓e_get3, ↓e_put0, ↓e_put1, ↓e_put2, ↓e_put3, ↓e_iaload, ↓e_laload, ↓e_baload, ↓e_aaload, ↓e_iastore, ↓e_lastore, ↓e_bastore, ↓e_aastore, ↓e_alen, ↓e_new, ↓e_newarray, ↓e_anewarray, ↓e_objinit, ↓e_virt1, ↓e_virt2, ↓e_virt3, ↓e_virt4, ↓e_virt5, ↓e_virt6, ↓e_virt7, ↓e_stat0, ↓e_stat1, ↓e_stat2, ↓e_stat3, ↓e_stat4, ↓e_stat5, ↓e_stat6, ↓e_stat7, ↓e_spec1, ↓e_spec2, ↓e_spec3, ↓e_spec4, ↓e_spec5, ↓e_strlen, ↓e_charAt, ↓e_copy, ↓e_iret0, ↓e_iret1, ↓e_lret, ↓e_aret, ↓e_vret, zIsI_int, zIsL_long, zIsA_ref, zInt_int, true_and, and_true, ↓reduceIte, zGet, zSet, zSet2, zEnt, zWid, Value.category, List.map_cons, List.map_nil, List.sum_cons, List.sum_nil, List.replicate, Option.toList, Nat.reduceAdd, Nat.reduceSub, Nat.reduceMul, Nat.reduceLeDiff, Nat.reduceEqDiff, Nat.reduceLT, List.cons_append, List.nil_append, true_or, or_true, or_false, false_or, nI_ltI, nI_leI, nI_eq, nI_clamp, zIn_nI, bI_0, nI_add, nI_mul, nI_or, nI_and, nI_shl1, nI_bit, ↓pk_rem, pk_div, Nat.lt_irrefl, Nat.not_lt_zero, reduceCtorEq, B.k, m2, h]
      · simp (disch := omega) only [L_5_33, zt_5_33, L_5_39, zt_5_39, ↓e_iconst0, ↓e_iconst1, ↓e_bipush0, ↓e_bipush1, ↓e_sipush0, ↓e_sipush1, ↓e_ldc0, ↓e_ldc1, ↓e_ldc_w0, ↓e_ldc_w1, ↓e_ldc2, ↓e_lconst0, ↓e_lconst1, ↓e_ldc2_w0, ↓e_ldc2_w1, ↓e_iload, ↓e_iload_n, ↓e_istore, ↓e_istore_n, ↓e_lload, ↓e_lload_n, ↓e_lstore, ↓e_lstore_n, ↓e_aload, ↓e_aload_n, ↓e_astore, ↓e_astore_n, ↓e_iinc0, ↓e_iinc1, ↓e_iadd, ↓e_isub, ↓e_imul, ↓e_iand, ↓e_ior, ↓e_ixor, ↓e_ishl, ↓e_ishr, ↓e_iushr, ↓e_ladd, ↓e_lsub, ↓e_lmul, ↓e_land, ↓e_lor, ↓e_idiv, ↓e_irem, ↓e_ldiv, ↓e_lrem, ↓e_lshl, ↓e_lcmp, ↓e_i2l, ↓e_l2i, ↓e_i2b, ↓e_i2s, ↓e_dup_int, ↓e_pop_int, ↓e_dup_ref, ↓e_pop_ref, ↓e_dup2, ↓e_goto, ↓e_nop, ↓e_ifCond_eq, ↓e_if_icmp_eq, ↓e_ifCond_ne, ↓e_if_icmp_ne, ↓e_ifCond_lt, ↓e_if_icmp_lt, ↓e_ifCond_ge, ↓e_if_icmp_ge, ↓e_ifCond_gt, ↓e_if_icmp_gt, ↓e_ifCond_le, ↓e_if_icmp_le, ↓e_tab, ↓e_look, ↓e_get0, ↓e_get1, ↓e_get2, ↓e_get3, ↓e_put0, ↓e_put1, ↓e_put2, ↓e_put3, ↓e_iaload, ↓e_laload, ↓e_baload, ↓e_aaload, ↓e_iastore, ↓e_lastore, ↓e_bastore, ↓e_aastore, ↓e_alen, ↓e_new, ↓e_newarray, ↓e_anewarray, ↓e_objinit, ↓e_virt1, ↓e_virt2, ↓e_virt3, ↓e_virt4, ↓e_virt5, ↓e_virt6, ↓e_virt7, ↓e_stat0, ↓e_stat1, ↓e_stat2, ↓e_stat3, ↓e_stat4, ↓e_stat5, ↓e_stat6, ↓e_stat7, ↓e_spec1, ↓e_spec2, ↓e_spec3, ↓e_spec4, ↓e_spec5, ↓e_strlen, ↓e_charAt, ↓e_copy, ↓e_iret0, ↓e_iret1, ↓e_lret, ↓e_aret, ↓e_vret, zIsI_int, zIsL_long, zIsA_ref, zInt_int, true_and, and_true, ↓reduceIte, zGet, zSet, zSet2, zEnt, zWid, Value.category, List.map_cons, List.map_nil, List.sum_cons, List.sum_nil, List.replicate, Option.toList, Nat.reduceAdd, Nat.reduceSub, Nat.reduceMul, Nat.reduceLeDiff, Nat.reduceEqDiff, Nat.reduceLT, List.cons_append, List.nil_append, true_or, or_true, or_false, false_or, nI_ltI, nI_leI, nI_eq, nI_clamp, zIn_nI, bI_0, nI_add, nI_mul, nI_or, nI_and, nI_shl1, nI_bit, ↓pk_rem, pk_div, Nat.lt_irrefl, Nat.not_lt_zero, reduceCtorEq, B.k, m2, h]
    simp (disch := omega) only [L_5_0, zt_5_0, ↓e_iconst0, ↓e_iconst1, ↓e_bipush0, ↓e_bipush1, ↓e_sipush0, ↓e_sipush1, ↓e_ldc0, ↓e_ldc1, ↓e_ldc_w0, ↓e_ldc_w1, ↓e_ldc2, ↓e_lconst0, ↓e_lconst1, ↓e_ldc2_w0, ↓e_ldc2_w1, ↓e_iload, ↓e_iload_n, ↓e_istore, ↓e_istore_n, ↓e_lload, ↓e_lload_n, ↓e_lstore, ↓e_lstore_n, ↓e_aload, ↓e_aload_n, ↓e_astore, ↓e_astore_n, ↓e_iinc0, ↓e_iinc1, ↓e_iadd, ↓e_isub, ↓e_imul, ↓e_iand, ↓e_ior, ↓e_ixor, ↓e_ishl, ↓e_ishr, ↓e_iushr, ↓e_ladd, ↓e_lsub, ↓e_lmul, ↓e_land, ↓e_lor, ↓e_idiv, ↓e_irem, ↓e_ldiv, ↓e_lrem, ↓e_lshl, ↓e_lcmp, ↓e_i2l, ↓e_l2i, ↓e_i2b, ↓e_i2s, ↓e_dup_int, ↓e_pop_int, ↓e_dup_ref, ↓e_pop_ref, ↓e_dup2, ↓e_goto, ↓e_nop, ↓e_ifCond_eq, ↓e_if_icmp_eq, ↓e_ifCond_ne, ↓e_if_icmp_ne, ↓e_ifCond_lt, ↓e_if_icmp_lt, ↓e_ifCond_ge, ↓e_if_icmp_ge, ↓e_ifCond_gt, ↓e_if_icmp_gt, ↓e_ifCond_le, ↓e_if_icmp_le, ↓e_tab, ↓e_look, ↓e_get0, ↓e_get1, ↓e_get2, ↓e_get3, ↓e_put0, ↓e_put1, ↓e_put2, ↓e_put3, ↓e_iaload, ↓e_laload, ↓e_baload, ↓e_aaload, ↓e_iastore, ↓e_lastore, ↓e_bastore, ↓e_aastore, ↓e_alen, ↓e_new, ↓e_newarray, ↓e_anewarray, ↓e_objinit, ↓e_virt1, ↓e_virt2, ↓e_virt3, ↓e_virt4, ↓e_virt5, ↓e_virt6, ↓e_virt7, ↓e_stat0, ↓e_stat1, ↓e_stat2, ↓e_stat3, ↓e_stat4, ↓e_stat5, ↓e_stat6, ↓e_stat7, ↓e_spec1, ↓e_spec2, ↓e_spec3, ↓e_spec4, ↓e_spec5, ↓e_strlen, ↓e_charAt, ↓e_copy, ↓e_iret0, ↓e_iret1, ↓e_lret, ↓e_aret, ↓e_vret, zIsI_int, zIsL_long, zIsA_ref, zInt_int, true_and, and_true, ↓reduceIte, zGet, zSet, zSet2, zEnt, zWid, Value.category, List.map_cons, List.map_nil, List.sum_cons, List.sum_nil, List.replicate, Option.toList, Nat.reduceAdd, Nat.reduceSub, Nat.reduceMul, Nat.reduceLeDiff, Nat.reduceEqDiff, Nat.reduceLT, List.cons_append, List.nil_append, true_or, or_true, or_false, false_or, nI_ltI, nI_leI, nI_eq, nI_clamp, zIn_nI, bI_0, nI_add, nI_mul, nI_or, nI_and, nI_shl1, nI_bit, ↓pk_rem, pk_div, Nat.lt_irrefl, Nat.not_lt_zero, reduceCtorEq, show oI none = -nI 1 from rfl, e, Option.bind]
  | some e =>
    have e1 := c_rankLoopB (d := d) (K := K) B hn m2 hc (ho e rfl) n 0 rfl
    simp (disch := omega) only [L_5_0, zt_5_0, ↓e_iconst0, ↓e_iconst1, ↓e_bipush0, ↓e_bipush1, ↓e_sipush0, ↓e_sipush1, ↓e_ldc0, ↓e_ldc1, ↓e_ldc_w0, ↓e_ldc_w1, ↓e_ldc2, ↓e_lconst0, ↓e_lconst1, ↓e_ldc2_w0, ↓e_ldc2_w1, ↓e_iload, ↓e_iload_n, ↓e_istore, ↓e_istore_n, ↓e_lload, ↓e_lload_n, ↓e_lstore, ↓e_lstore_n, ↓e_aload, ↓e_aload_n, ↓e_astore, ↓e_astore_n, ↓e_iinc0, ↓e_iinc1, ↓e_iadd, ↓e_isub, ↓e_imul, ↓e_iand, ↓e_ior, ↓e_ixor, ↓e_ishl, ↓e_ishr, ↓e_iushr, ↓e_ladd, ↓e_lsub, ↓e_lmul, ↓e_land, ↓e_lor, ↓e_idiv, ↓e_irem, ↓e_ldiv, ↓e_lrem, ↓e_lshl, ↓e_lcmp, ↓e_i2l, ↓e_l2i, ↓e_i2b, ↓e_i2s, ↓e_dup_int, ↓e_pop_int, ↓e_dup_ref, ↓e_pop_ref, ↓e_dup2, ↓e_goto, ↓e_nop, ↓e_ifCond_eq, ↓e_if_icmp_eq, ↓e_ifCond_ne, ↓e_if_icmp_ne, ↓e_ifCond_lt, ↓e_if_icmp_lt, ↓e_ifCond_ge, ↓e_if_icmp_ge, ↓e_ifCond_gt, ↓e_if_icmp_gt, ↓e_ifCond_le, ↓e_if_icmp_le, ↓e_tab, ↓e_look, ↓e_get0, ↓e_get1, ↓e_get2, ↓e_get3, ↓e_put0, ↓e_put1, ↓e_put2, ↓e_put3, ↓e_iaload, ↓e_laload, ↓e_baload, ↓e_aaload, ↓e_iastore, ↓e_lastore, ↓e_bastore, ↓e_aastore, ↓e_alen, ↓e_new, ↓e_newarray, ↓e_anewarray, ↓e_objinit, ↓e_virt1, ↓e_virt2, ↓e_virt3, ↓e_virt4, ↓e_virt5, ↓e_virt6, ↓e_virt7, ↓e_stat0, ↓e_stat1, ↓e_stat2, ↓e_stat3, ↓e_stat4, ↓e_stat5, ↓e_stat6, ↓e_stat7, ↓e_spec1, ↓e_spec2, ↓e_spec3, ↓e_spec4, ↓e_spec5, ↓e_strlen, ↓e_charAt, ↓e_copy, ↓e_iret0, ↓e_iret1, ↓e_lret, ↓e_aret, ↓e_vret, zIsI_int, zIsL_long, zIsA_ref, zInt_int, true_and, and_true, ↓reduceIte, zGet, zSet, zSet2, zEnt, zWid, Value.category, List.map_cons, List.map_nil, List.sum_cons, List.sum_nil, List.replicate, Option.toList, Nat.reduceAdd, Nat.reduceSub, Nat.reduceMul, Nat.reduceLeDiff, Nat.reduceEqDiff, Nat.reduceLT, List.cons_append, List.nil_append, true_or, or_true, or_false, false_or, nI_ltI, nI_leI, nI_eq, nI_clamp, zIn_nI, bI_0, nI_add, nI_mul, nI_or, nI_and, nI_shl1, nI_bit, ↓pk_rem, pk_div, Nat.lt_irrefl, Nat.not_lt_zero, reduceCtorEq, show oI (some e) = nI e from rfl, e1, Option.bind]
theorem rkS_fnd (O : OfcOk A) {c s : Nat} (hc : c < A.wide * A.high) (hs : s < 2) : (A.side c s).bind (fun e => fndG A.cc e (ct A.occ c) 0) = A.rkS c s := by
  unfold Ofc.rkS
  cases he : A.side c s with
  | none => rfl
  | some e => exact fnd_cc O (Nat.le_of_lt hc) (side01 hs he)
def qLs (b j : Nat) : Prop := (b = 103 ∧ j = 2) ∨ (104 ≤ b ∧ b ≤ 107)
theorem c_listCells (B : RBk σ) (r1 : sR σ 103 1 = a) (H : ROff σ a A) (O : OfcOk A) (ha : a + 11 < 103) :
   ∃ τ, FB qLs σ τ ∧ sI τ 103 2 = nI A.N ∧ (∀ k, k < A.N → sI τ 104 k = nI (A.cc k) ∧ sI τ 105 k = oI (A.rkS (A.cc k) 0) ∧ sI τ 106 k = oI (A.rkS (A.cc k) 1)) ∧ (∀ k, k ≤ A.N → sI τ 107 k = nI (cfs A.wBe A.N k)) ∧ ∀ K, zC (d + 3) 4 [.ref 103] σ K = K none τ := by
  have h20 := cells20 O
  have hN8 := N8 O
  have hNo := N_occ O
  have B0 := B
  have H0 := H
  have ccb : ∀ k, k < A.N → A.cc k < 2 ^ 31 := fun k hk => by have := (cc_is O hk).1; omega
  have f0 : FB qLs σ (setI σ 103 2 (nI 0)) := FB.rf.i (by omega) (.inl ⟨rfl, rfl⟩)
  have ex : ∀ (τ : MS) (K : Option Value → MS → Prop) (c m : Nat), FB qLs σ τ → c ≤ A.wide * A.high → m ≤ 8 → (c = A.wide * A.high ∨ m = 8) → sI τ 103 2 = nI m → zX (d + 2) 4 7 [.ref 103, .int (nI c)] [] τ K = zX (d + 2) 4 133 [.ref 103, .int (nI m - nI 1)] [] (setI τ 107 m (nI 0)) K := by
    intro τ K c m f hc hm8 hcm hm
    have B := B0.ag f
    have H := f.off H0 ha
    have r1 : sR τ 103 1 = a := (f.2.1 1).trans r1
    have m9 : m < 9 := by omega
    have e2 : sI (setI τ 107 m (nI 0)) 103 2 = nI m := by rw [sI_setI, if_neg (by omega)]; exact hm
    rw [L_4_7, zt_4_7]
    by_cases h : c < A.wide * A.high
    · have h8 : ¬ m < 8 := by omega
      simp (disch := omega) only [L_4_116, zt_4_116, ↓e_iconst0, ↓e_iconst1, ↓e_bipush0, ↓e_bipush1, ↓e_sipush0, ↓e_sipush1, ↓e_ldc0, ↓e_ldc1, ↓e_ldc_w0, ↓e_ldc_w1, ↓e_ldc2, ↓e_lconst0, ↓e_lconst1, ↓e_ldc2_w0, ↓e_ldc2_w1, ↓e_iload, ↓e_iload_n, ↓e_istore, ↓e_istore_n, ↓e_lload, ↓e_lload_n, ↓e_lstore, ↓e_lstore_n, ↓e_aload, ↓e_aload_n, ↓e_astore, ↓e_astore_n, ↓e_iinc0, ↓e_iinc1, ↓e_iadd, ↓e_isub, ↓e_imul, ↓e_iand, ↓e_ior, ↓e_ixor, ↓e_ishl, ↓e_ishr, ↓e_iushr, ↓e_ladd, ↓e_lsub, ↓e_lmul, ↓e_land, ↓e_lor, ↓e_idiv, ↓e_irem, ↓e_ldiv, ↓e_lrem, ↓e_lshl, ↓e_lcmp, ↓e_i2l, ↓e_l2i, ↓e_i2b, ↓e_i2s, ↓e_dup_int, ↓e_pop_int, ↓e_dup_ref, ↓e_pop_ref, ↓e_dup2, ↓e_goto, ↓e_nop, ↓e_ifCond_eq, ↓e_if_icmp_eq, ↓e_ifCond_ne, ↓e_if_icmp_ne, ↓e_ifCond_lt, ↓e_if_icmp_lt, ↓e_ifCond_ge, ↓e_if_icmp_ge, ↓e_ifCond_gt, ↓e_if_icmp_gt, ↓e_ifCond_le, ↓e_if_icmp_le, ↓e_tab, ↓e_look, ↓e_get0, ↓e_get1, ↓e_get2, ↓e_get3, ↓e_put0, ↓e_put1, ↓e_put2, ↓e_put3, ↓e_iaload, ↓e_laload, ↓e_baload, ↓e_aaload, ↓e_iastore, ↓e_lastore, ↓e_bastore, ↓e_aastore, ↓e_alen, ↓e_new, ↓e_newarray, ↓e_anewarray, ↓e_objinit, ↓e_virt1, ↓e_virt2, ↓e_virt3, ↓e_virt4, ↓e_virt5, ↓e_virt6, ↓e_virt7, ↓e_stat0, ↓e_stat1, ↓e_stat2, ↓e_stat3, ↓e_stat4, ↓e_stat5, ↓e_stat6, ↓e_stat7, ↓e_spec1, ↓e_spec2, ↓e_spec3, ↓e_spec4, ↓e_spec5, ↓e_strlen, ↓e_charAt, ↓e_copy, ↓e_iret0, ↓e_iret1, ↓e_lret, ↓e_aret, ↓e_vret, zIsI_int, zIsL_long, zIsA_ref, zInt_int, true_and, and_true, ↓reduceIte, zGet, zSet, zSet2, zEnt, zWid, Value.category, List.map_cons, List.map_nil, List.sum_cons, List.sum_nil, List.replicate, Option.toList, Nat.reduceAdd, Nat.reduceSub, Nat.reduceMul, Nat.reduceLeDiff, Nat.reduceEqDiff, Nat.reduceLT, List.cons_append, List.nil_append, true_or, or_true, or_false, false_or, H.k, H.i0, H.i1, H.i2, H.i3, H.i4, H.i5, H.i6, H.i7, H.r8, H.r9, H.r10, H.r11, H.r12, H.r13, H.r14, H.r15, H.r16, H.r17, H.r18, H.k1, H.k2, H.k3, H.k4, H.k5, H.k6, H.k7, H.k8, H.k9, H.k10, H.k11, nI_ltI, nI_leI, nI_eq, nI_clamp, zIn_nI, bI_0, nI_add, nI_mul, nI_or, nI_and, nI_shl1, nI_bit, ↓pk_rem, pk_div, Nat.lt_irrefl, Nat.not_lt_zero, reduceCtorEq, B.k, B.r4, B.r5, B.r6, B.r7, B.r8, B.r9, B.r10, B.r12, B.r13, B.k104, B.k105, B.k106, B.k107, B.k108, B.k109, B.k110, B.k111, B.k112, r1, h, show c < 20 from by omega, hm, h8, m9, sK_setI, sR_setI, sL_setI, e2]
    · simp (disch := omega) only [L_4_116, zt_4_116, ↓e_iconst0, ↓e_iconst1, ↓e_bipush0, ↓e_bipush1, ↓e_sipush0, ↓e_sipush1, ↓e_ldc0, ↓e_ldc1, ↓e_ldc_w0, ↓e_ldc_w1, ↓e_ldc2, ↓e_lconst0, ↓e_lconst1, ↓e_ldc2_w0, ↓e_ldc2_w1, ↓e_iload, ↓e_iload_n, ↓e_istore, ↓e_istore_n, ↓e_lload, ↓e_lload_n, ↓e_lstore, ↓e_lstore_n, ↓e_aload, ↓e_aload_n, ↓e_astore, ↓e_astore_n, ↓e_iinc0, ↓e_iinc1, ↓e_iadd, ↓e_isub, ↓e_imul, ↓e_iand, ↓e_ior, ↓e_ixor, ↓e_ishl, ↓e_ishr, ↓e_iushr, ↓e_ladd, ↓e_lsub, ↓e_lmul, ↓e_land, ↓e_lor, ↓e_idiv, ↓e_irem, ↓e_ldiv, ↓e_lrem, ↓e_lshl, ↓e_lcmp, ↓e_i2l, ↓e_l2i, ↓e_i2b, ↓e_i2s, ↓e_dup_int, ↓e_pop_int, ↓e_dup_ref, ↓e_pop_ref, ↓e_dup2, ↓e_goto, ↓e_nop, ↓e_ifCond_eq, ↓e_if_icmp_eq, ↓e_ifCond_ne, ↓e_if_icmp_ne, ↓e_ifCond_lt, ↓e_if_icmp_lt, ↓e_ifCond_ge, ↓e_if_icmp_ge, ↓e_ifCond_gt, ↓e_if_icmp_gt, ↓e_ifCond_le, ↓e_if_icmp_le, ↓e_tab, ↓e_look, ↓e_get0, ↓e_get1, ↓e_get2, ↓e_get3, ↓e_put0, ↓e_put1, ↓e_put2, ↓e_put3, ↓e_iaload, ↓e_laload, ↓e_baload, ↓e_aaload, ↓e_iastore, ↓e_lastore, ↓e_bastore, ↓e_aastore, ↓e_alen, ↓e_new, ↓e_newarray, ↓e_anewarray, ↓e_objinit, ↓e_virt1, ↓e_virt2, ↓e_virt3, ↓e_virt4, ↓e_virt5, ↓e_virt6, ↓e_virt7, ↓e_stat0, ↓e_stat1, ↓e_stat2, ↓e_stat3, ↓e_stat4, ↓e_stat5, ↓e_stat6, ↓e_stat7, ↓e_spec1, ↓e_spec2, ↓e_spec3, ↓e_spec4, ↓e_spec5, ↓e_strlen, ↓e_charAt, ↓e_copy, ↓e_iret0, ↓e_iret1, ↓e_lret, ↓e_aret, ↓e_vret, zIsI_int, zIsL_long, zIsA_ref, zInt_int, true_and, and_true, ↓reduceIte, zGet, zSet, zSet2, zEnt, zWid, Value.category, List.map_cons, List.map_nil, List.sum_cons, List.sum_nil, List.replicate, Option.toList, Nat.reduceAdd, Nat.reduceSub, Nat.reduceMul, Nat.reduceLeDiff, Nat.reduceEqDiff, Nat.reduceLT, List.cons_append, List.nil_append, true_or, or_true, or_false, false_or, H.k, H.i0, H.i1, H.i2, H.i3, H.i4, H.i5, H.i6, H.i7, H.r8, H.r9, H.r10, H.r11, H.r12, H.r13, H.r14, H.r15, H.r16, H.r17, H.r18, H.k1, H.k2, H.k3, H.k4, H.k5, H.k6, H.k7, H.k8, H.k9, H.k10, H.k11, nI_ltI, nI_leI, nI_eq, nI_clamp, zIn_nI, bI_0, nI_add, nI_mul, nI_or, nI_and, nI_shl1, nI_bit, ↓pk_rem, pk_div, Nat.lt_irrefl, Nat.not_lt_zero, reduceCtorEq, B.k, B.r4, B.r5, B.r6, B.r7, B.r8, B.r9, B.r10, B.r12, B.r13, B.k104, B.k105, B.k106, B.k107, B.k108, B.k109, B.k110, B.k111, B.k112, r1, h, hm, m9, sK_setI, sR_setI, sL_setI, e2]
  obtain ⟨τ1, ⟨g1, g2, g3⟩, e1⟩ := zloop (fun (c : Nat) (τ : MS) => FB qLs σ τ ∧ sI τ 103 2 = nI (ct A.occ c) ∧ ∀ k, k < ct A.occ c → sI τ 104 k = nI (A.cc k) ∧ sI τ 105 k = oI (A.rkS (A.cc k) 0) ∧ sI τ 106 k = oI (A.rkS (A.cc k) 1)) (P := fun c τ K => zX (d + 2) 4 7 [.ref 103, .int (nI c)] [] τ K) (n := A.wide * A.high) (fun c τ hc hI => by
    obtain ⟨f, hm, hr⟩ := hI
    have B := B0.ag f
    have H := f.off H0 ha
    have r1 : sR τ 103 1 = a := (f.2.1 1).trans r1
    have hc20 : c < 20 := by omega
    have hle : ct A.occ c ≤ A.N := by rw [← hNo]; exact ct_mono (Nat.le_of_lt hc)
    cases ho : A.occ c with
    | false =>
      refine ⟨τ, ⟨f, by rw [ct_f ho]; exact hm, by rw [ct_f ho]; exact hr⟩, ?_⟩
      have hw : A.who c = none := by
        unfold Ofc.occ at ho
        cases hw : A.who c with
        | none => rfl
        | some q => rw [hw] at ho; cases ho
      funext K
      by_cases h8 : ct A.occ c < 8
      · rw [L_4_7, zt_4_7]
        simp (disch := omega) only [L_4_110, zt_4_110, ↓e_iconst0, ↓e_iconst1, ↓e_bipush0, ↓e_bipush1, ↓e_sipush0, ↓e_sipush1, ↓e_ldc0, ↓e_ldc1, ↓e_ldc_w0, ↓e_ldc_w1, ↓e_ldc2, ↓e_lconst0, ↓e_lconst1, ↓e_ldc2_w0, ↓e_ldc2_w1, ↓e_iload, ↓e_iload_n, ↓e_istore, ↓e_istore_n, ↓e_lload, ↓e_lload_n, ↓e_lstore, ↓e_lstore_n, ↓e_aload, ↓e_aload_n, ↓e_astore, ↓e_astore_n, ↓e_iinc0, ↓e_iinc1, ↓e_iadd, ↓e_isub, ↓e_imul, ↓e_iand, ↓e_ior, ↓e_ixor, ↓e_ishl, ↓e_ishr, ↓e_iushr, ↓e_ladd, ↓e_lsub, ↓e_lmul, ↓e_land, ↓e_lor, ↓e_idiv, ↓e_irem, ↓e_ldiv, ↓e_lrem, ↓e_lshl, ↓e_lcmp, ↓e_i2l, ↓e_l2i, ↓e_i2b, ↓e_i2s, ↓e_dup_int, ↓e_pop_int, ↓e_dup_ref, ↓e_pop_ref, ↓e_dup2, ↓e_goto, ↓e_nop, ↓e_ifCond_eq, ↓e_if_icmp_eq, ↓e_ifCond_ne, ↓e_if_icmp_ne, ↓e_ifCond_lt, ↓e_if_icmp_lt, ↓e_ifCond_ge, ↓e_if_icmp_ge, ↓e_ifCond_gt, ↓e_if_icmp_gt, ↓e_ifCond_le, ↓e_if_icmp_le, ↓e_tab, ↓e_look, ↓e_get0, ↓e_get1, ↓e_get2, ↓e_get3, ↓e_put0, ↓e_put1, ↓e_put2, ↓e_put3, ↓e_iaload, ↓e_laload, ↓e_baload, ↓e_aaload, ↓e_iastore, ↓e_lastore, ↓e_bastore, ↓e_aastore, ↓e_alen, ↓e_new, ↓e_newarray, ↓e_anewarray, ↓e_objinit, ↓e_virt1, ↓e_virt2, ↓e_virt3, ↓e_virt4, ↓e_virt5, ↓e_virt6, ↓e_virt7, ↓e_stat0, ↓e_stat1, ↓e_stat2, ↓e_stat3, ↓e_stat4, ↓e_stat5, ↓e_stat6, ↓e_stat7, ↓e_spec1, ↓e_spec2, ↓e_spec3, ↓e_spec4, ↓e_spec5, ↓e_strlen, ↓e_charAt, ↓e_copy, ↓e_iret0, ↓e_iret1, ↓e_lret, ↓e_aret, ↓e_vret, zIsI_int, zIsL_long, zIsA_ref, zInt_int, true_and, and_true, ↓reduceIte, zGet, zSet, zSet2, zEnt, zWid, Value.category, List.map_cons, List.map_nil, List.sum_cons, List.sum_nil, List.replicate, Option.toList, Nat.reduceAdd, Nat.reduceSub, Nat.reduceMul, Nat.reduceLeDiff, Nat.reduceEqDiff, Nat.reduceLT, List.cons_append, List.nil_append, true_or, or_true, or_false, false_or, H.k, H.i0, H.i1, H.i2, H.i3, H.i4, H.i5, H.i6, H.i7, H.r8, H.r9, H.r10, H.r11, H.r12, H.r13, H.r14, H.r15, H.r16, H.r17, H.r18, H.k1, H.k2, H.k3, H.k4, H.k5, H.k6, H.k7, H.k8, H.k9, H.k10, H.k11, nI_ltI, nI_leI, nI_eq, nI_clamp, zIn_nI, bI_0, nI_add, nI_mul, nI_or, nI_and, nI_shl1, nI_bit, ↓pk_rem, pk_div, Nat.lt_irrefl, Nat.not_lt_zero, reduceCtorEq, B.k, B.r4, B.r5, B.r6, B.r7, B.r8, B.r9, B.r10, B.r12, B.r13, B.k104, B.k105, B.k106, B.k107, B.k108, B.k109, B.k110, B.k111, B.k112, r1, hc, hm, h8, hc20, H.a8 c hc20, hw, show oI none = -nI 1 from rfl]
      · rw [ex τ K c 8 f (by omega) (by omega) (.inr rfl) (by rw [hm]; congr 1; omega), ex τ K (c + 1) 8 f (by omega) (by omega) (.inr rfl) (by rw [hm]; congr 1; omega)]
    | true =>
      obtain ⟨q, hw⟩ := occ_who ho
      obtain ⟨cc1, cc2⟩ := cc_of O ho
      have h8 : ct A.occ c < 8 := by omega
      have nm : ¬ nI q = -nI 1 := fun hh => nI_pos (n := q) (who31 c q hw) (by rw [hh]; decide)
      have s31 : ∀ s, ∀ e, A.side c s = some e → e < 2 ^ 31 := fun s e he => by have := side_lt O hc he; omega
      generalize hn : ct A.occ c = n at *
      have k0 := rkS_fnd O hc (s := 0) (by decide)
      have k1 := rkS_fnd O hc (s := 1) (by decide)
      rw [hn] at k0 k1
      -- after the cell
      have fa : FB qLs σ (setI τ 104 n (nI c)) := f.i (by omega) (.inr (by omega))
      have Ba := B0.ag fa
      have Ha := fa.off H0 ha
      have ra : sR (setI τ 104 n (nI c)) 103 1 = a := (fa.2.1 1).trans (by rw [← f.2.1 1]; exact r1)
      have ma : sI (setI τ 104 n (nI c)) 103 2 = nI n := by rw [sI_setI, if_neg (by omega)]; exact hm
      have ca : ∀ k, k < n → sI (setI τ 104 n (nI c)) 104 k = nI (A.cc k) ∧ A.cc k < 2 ^ 31 := fun k hk => ⟨by rw [sI_setI, if_neg (by omega)]; exact (hr k hk).1, ccb k (by omega)⟩
      have ea := fun (K : Option Value → MS → Prop) => c_rankOf (d := d + 1) (K := K) Ba (by omega) ma ca (A.side c 0) (s31 0)
      rw [k0] at ea
      -- after above
      have fb : FB qLs σ (setI (setI τ 104 n (nI c)) 105 n (oI (A.rkS c 0))) := fa.i (by omega) (.inr (by omega))
      have Bb := B0.ag fb
      have Hb := fb.off H0 ha
      have rb : sR (setI (setI τ 104 n (nI c)) 105 n (oI (A.rkS c 0))) 103 1 = a := (fb.2.1 1).trans (by rw [← f.2.1 1]; exact r1)
      have mb : sI (setI (setI τ 104 n (nI c)) 105 n (oI (A.rkS c 0))) 103 2 = nI n := by rw [sI_setI, if_neg (by omega)]; exact ma
      have cb : ∀ k, k < n → sI (setI (setI τ 104 n (nI c)) 105 n (oI (A.rkS c 0))) 104 k = nI (A.cc k) ∧ A.cc k < 2 ^ 31 := fun k hk => ⟨by rw [sI_setI, if_neg (by omega)]; exact (ca k hk).1, ccb k (by omega)⟩
      have eb := fun (K : Option Value → MS → Prop) => c_rankOf (d := d + 1) (K := K) Bb (by omega) mb cb (A.side c 1) (s31 1)
      rw [k1] at eb
      have fc : FB qLs σ (setI (setI (setI τ 104 n (nI c)) 105 n (oI (A.rkS c 0))) 106 n (oI (A.rkS c 1))) := fb.i (by omega) (.inr (by omega))
      have Bc := B0.ag fc
      have mc : sI (setI (setI (setI τ 104 n (nI c)) 105 n (oI (A.rkS c 0))) 106 n (oI (A.rkS c 1))) 103 2 = nI n := by rw [sI_setI, if_neg (by omega)]; exact mb
      refine ⟨setI (setI (setI (setI τ 104 n (nI c)) 105 n (oI (A.rkS c 0))) 106 n (oI (A.rkS c 1))) 103 2 (nI (n + 1)), ⟨fc.i (by omega) (.inl ⟨rfl, rfl⟩), ?_, fun k hk => ?_⟩, ?_⟩
      · rw [ct_t ho, hn, sI_setI, if_pos ⟨rfl, rfl⟩]
      · rw [ct_t ho, hn] at hk
        have z104 : sI (setI (setI (setI (setI τ 104 n (nI c)) 105 n (oI (A.rkS c 0))) 106 n (oI (A.rkS c 1))) 103 2 (nI (n + 1))) 104 k = if k = n then nI c else sI τ 104 k := by
          rw [sI_setI, if_neg (by omega), sI_setI, if_neg (by omega), sI_setI, if_neg (by omega), sI_setI]
          by_cases h : k = n
          · rw [if_pos ⟨rfl, h⟩, if_pos h]
          · rw [if_neg (fun x => h x.2), if_neg h]
        have z105 : sI (setI (setI (setI (setI τ 104 n (nI c)) 105 n (oI (A.rkS c 0))) 106 n (oI (A.rkS c 1))) 103 2 (nI (n + 1))) 105 k = if k = n then oI (A.rkS c 0) else sI τ 105 k := by
          rw [sI_setI, if_neg (by omega), sI_setI, if_neg (by omega), sI_setI]
          by_cases h : k = n
          · rw [if_pos ⟨rfl, h⟩, if_pos h]
          · rw [if_neg (fun x => h x.2), if_neg h, sI_setI, if_neg (by omega)]
        have z106 : sI (setI (setI (setI (setI τ 104 n (nI c)) 105 n (oI (A.rkS c 0))) 106 n (oI (A.rkS c 1))) 103 2 (nI (n + 1))) 106 k = if k = n then oI (A.rkS c 1) else sI τ 106 k := by
          rw [sI_setI, if_neg (by omega), sI_setI]
          by_cases h : k = n
          · rw [if_pos ⟨rfl, h⟩, if_pos h]
          · rw [if_neg (fun x => h x.2), if_neg h, sI_setI, if_neg (by omega), sI_setI, if_neg (by omega)]
        rw [z104, z105, z106]
        by_cases h : k = n
        · rw [if_pos h, if_pos h, if_pos h, h, cc1]
          exact ⟨rfl, rfl, rfl⟩
        · rw [if_neg h, if_neg h, if_neg h]
          exact hr k (by omega)
      · funext K
        rw [L_4_7, zt_4_7]
        simp (disch := omega) only [L_4_110, zt_4_110, ↓e_iconst0, ↓e_iconst1, ↓e_bipush0, ↓e_bipush1, ↓e_sipush0, ↓e_sipush1, ↓e_ldc0, ↓e_ldc1, ↓e_ldc_w0, ↓e_ldc_w1, ↓e_ldc2, ↓e_lconst0, ↓e_lconst1, ↓e_ldc2_w0, ↓e_ldc2_w1, ↓e_iload, ↓e_iload_n, ↓e_istore, ↓e_istore_n, ↓e_lload, ↓e_lload_n, ↓e_lstore, ↓e_lstore_n, ↓e_aload, ↓e_aload_n, ↓e_astore, ↓e_astore_n, ↓e_iinc0, ↓e_iinc1, ↓e_iadd, ↓e_isub, ↓e_imul, ↓e_iand, ↓e_ior, ↓e_ixor, ↓e_ishl, ↓e_ishr, ↓e_iushr, ↓e_ladd, ↓e_lsub, ↓e_lmul, ↓e_land, ↓e_lor, ↓e_idiv, ↓e_irem, ↓e_ldiv, ↓e_lrem, ↓e_lshl, ↓e_lcmp, ↓e_i2l, ↓e_l2i, ↓e_i2b, ↓e_i2s, ↓e_dup_int, ↓e_pop_int, ↓e_dup_ref, ↓e_pop_ref, ↓e_dup2, ↓e_goto, ↓e_nop, ↓e_ifCond_eq, ↓e_if_icmp_eq, ↓e_ifCond_ne, ↓e_if_icmp_ne, ↓e_ifCond_lt, ↓e_if_icmp_lt, ↓e_ifCond_ge, ↓e_if_icmp_ge, ↓e_ifCond_gt, ↓e_if_icmp_gt, ↓e_ifCond_le, ↓e_if_icmp_le, ↓e_tab, ↓e_look, ↓e_get0, ↓e_get1, ↓e_get2, ↓e_get3, ↓e_put0, ↓e_put1, ↓e_put2, ↓e_put3, ↓e_iaload, ↓e_laload, ↓e_baload, ↓e_aaload, ↓e_iastore, ↓e_lastore, ↓e_bastore, ↓e_aastore, ↓e_alen, ↓e_new, ↓e_newarray, ↓e_anewarray, ↓e_objinit, ↓e_virt1, ↓e_virt2, ↓e_virt3, ↓e_virt4, ↓e_virt5, ↓e_virt6, ↓e_virt7, ↓e_stat0, ↓e_stat1, ↓e_stat2, ↓e_stat3, ↓e_stat4, ↓e_stat5, ↓e_stat6, ↓e_stat7, ↓e_spec1, ↓e_spec2, ↓e_spec3, ↓e_spec4, ↓e_spec5, ↓e_strlen, ↓e_charAt, ↓e_copy, ↓e_iret0, ↓e_iret1, ↓e_lret, ↓e_aret, ↓e_vret, zIsI_int, zIsL_long, zIsA_ref, zInt_int, true_and, and_true, ↓reduceIte, zGet, zSet, zSet2, zEnt, zWid, Value.category, List.map_cons, List.map_nil, List.sum_cons, List.sum_nil, List.replicate, Option.toList, Nat.reduceAdd, Nat.reduceSub, Nat.reduceMul, Nat.reduceLeDiff, Nat.reduceEqDiff, Nat.reduceLT, List.cons_append, List.nil_append, true_or, or_true, or_false, false_or, H.k, H.i0, H.i1, H.i2, H.i3, H.i4, H.i5, H.i6, H.i7, H.r8, H.r9, H.r10, H.r11, H.r12, H.r13, H.r14, H.r15, H.r16, H.r17, H.r18, H.k1, H.k2, H.k3, H.k4, H.k5, H.k6, H.k7, H.k8, H.k9, H.k10, H.k11, nI_ltI, nI_leI, nI_eq, nI_clamp, zIn_nI, bI_0, nI_add, nI_mul, nI_or, nI_and, nI_shl1, nI_bit, ↓pk_rem, pk_div, Nat.lt_irrefl, Nat.not_lt_zero, reduceCtorEq, B.k, B.r4, B.r5, B.r6, B.r7, B.r8, B.r9, B.r10, B.r12, B.r13, B.k104, B.k105, B.k106, B.k107, B.k108, B.k109, B.k110, B.k111, B.k112, Ba.k, Ba.r4, Ba.r5, Ba.r6, Ba.r7, Ba.r8, Ba.r9, Ba.r10, Ba.r12, Ba.r13, Ba.k104, Ba.k105, Ba.k106, Ba.k107, Ba.k108, Ba.k109, Ba.k110, Ba.k111, Ba.k112, Bb.k, Bb.r4, Bb.r5, Bb.r6, Bb.r7, Bb.r8, Bb.r9, Bb.r10, Bb.r12, Bb.r13, Bb.k104, Bb.k105, Bb.k106, Bb.k107, Bb.k108, Bb.k109, Bb.k110, Bb.k111, Bb.k112, Bc.k, Bc.r4, Bc.r5, Bc.r6, Bc.r7, Bc.r8, Bc.r9, Bc.r10, Bc.r12, Bc.r13, Bc.k104, Bc.k105, Bc.k106, Bc.k107, Bc.k108, Bc.k109, Bc.k110, Bc.k111, Bc.k112, r1, hc, hm, h8, hc20, H.a8 c hc20, hw, show oI (some q) = nI q from rfl, nm, Ha.k, Hb.k, ra, ma, ↓c_sideOf Ha O hc, ↓ea, rb, mb, ↓c_sideOf Hb O hc, ↓eb, mc]) (setI σ 103 2 (nI 0)) ⟨f0, by rw [ct_0, sI_setI, if_pos ⟨rfl, rfl⟩], fun k hk => by rw [ct_0] at hk; omega⟩
  rw [hNo] at g2 g3
  have e1x := ex τ1
  obtain ⟨τ2, ⟨f2, i2, c2⟩, e2⟩ := zloop (fun (j : Nat) (τ : MS) => FB qLs σ τ ∧ (∀ b i, b ≠ 107 → sI τ b i = sI τ1 b i) ∧ ∀ k, A.N - j ≤ k → k ≤ A.N → sI τ 107 k = nI (cfs A.wBe A.N k)) (P := fun j τ K => zX (d + 2) 4 133 [.ref 103, .int (nI (A.N - j) - nI 1)] [] τ K) (n := A.N) (fun j τ hj hI => by
    obtain ⟨f, hi, hc⟩ := hI
    have B := B0.ag f
    obtain ⟨k, hk⟩ : ∃ k, k + 1 = A.N - j := ⟨A.N - j - 1, by omega⟩
    have hkN : k < A.N := by omega
    have hk8 : k < 8 := by omega
    have hk9 : k < 9 := by omega
    have hk19 : k + 1 < 9 := by omega
    have s1 : nI (A.N - j) - nI 1 = nI k := by rw [← hk, nI_sub (by omega), Nat.add_sub_cancel]
    have s2 : nI k + -nI 1 = nI (A.N - (j + 1)) - nI 1 := by rw [show A.N - (j + 1) = k from by omega, Int32.sub_eq_add_neg]
    obtain ⟨_, u, v⟩ := g3 k hkN
    have u := (hi 105 k (by decide)).trans u
    have v := (hi 106 k (by decide)).trans v
    have w := hc (k + 1) (by omega) (by omega)
    have key := cfs_s O hkN
    refine ⟨setI τ 107 k (nI (cfs A.wBe A.N k)), ⟨f.i (by omega) (.inr (by omega)), fun b i hb => by rw [sI_setI, if_neg (fun h => hb h.1)]; exact hi b i hb, fun i h1 h2 => ?_⟩, ?_⟩
    · rw [sI_setI]
      by_cases h : i = k
      · rw [if_pos ⟨rfl, h⟩, h]
      · rw [if_neg (fun x => h x.2)]; exact hc i (by omega) h2
    · funext K
      rw [s1, L_4_133, zt_4_133]
      have b1 : A.rkS (A.cc k) 0 = none ∨ ∃ i, A.rkS (A.cc k) 0 = some i ∧ i < 8 := by
        cases h : A.rkS (A.cc k) 0 with
        | none => exact .inl rfl
        | some i => exact .inr ⟨i, rfl, by have := rkS_lt O hkN (by decide) h; omega⟩
      have b2 : A.rkS (A.cc k) 1 = none ∨ ∃ i, A.rkS (A.cc k) 1 = some i ∧ i < 8 := by
        cases h : A.rkS (A.cc k) 1 with
        | none => exact .inl rfl
        | some i => exact .inr ⟨i, rfl, by have := rkS_lt O hkN (by decide) h; omega⟩
      have nm : ∀ i, i < 8 → ¬ nI i = -nI 1 := fun i hi hh => nI_pos (n := i) (by omega) (by rw [hh]; decide)
      rcases b1 with b1 | ⟨i1, b1, l1⟩ <;> rcases b2 with b2 | ⟨i2, b2, l2⟩
      · rw [b1] at u; rw [b2] at v
        rw [key, b1, b2]
        simp (disch := omega) only [L_4_164, zt_4_164, L_4_165, zt_4_165, L_4_180, zt_4_180, L_4_181, zt_4_181, ↓e_iconst0, ↓e_iconst1, ↓e_bipush0, ↓e_bipush1, ↓e_sipush0, ↓e_sipush1, ↓e_ldc0, ↓e_ldc1, ↓e_ldc_w0, ↓e_ldc_w1, ↓e_ldc2, ↓e_lconst0, ↓e_lconst1, ↓e_ldc2_w0, ↓e_ldc2_w1, ↓e_iload, ↓e_iload_n, ↓e_istore, ↓e_istore_n, ↓e_lload, ↓e_lload_n, ↓e_lstore, ↓e_lstore_n, ↓e_aload, ↓e_aload_n, ↓e_astore, ↓e_astore_n, ↓e_iinc0, ↓e_iinc1, ↓e_iadd, ↓e_isub, ↓e_imul, ↓e_iand, ↓e_ior, ↓e_ixor, ↓e_ishl, ↓e_ishr, ↓e_iushr, ↓e_ladd, ↓e_lsub, ↓e_lmul, ↓e_land, ↓e_lor, ↓e_idiv, ↓e_irem, ↓e_ldiv, ↓e_lrem, ↓e_lshl, ↓e_lcmp, ↓e_i2l, ↓e_l2i, ↓e_i2b, ↓e_i2s, ↓e_dup_int, ↓e_pop_int, ↓e_dup_ref, ↓e_pop_ref, ↓e_dup2, ↓e_goto, ↓e_nop, ↓e_ifCond_eq, ↓e_if_icmp_eq, ↓e_ifCond_ne, ↓e_if_icmp_ne, ↓e_ifCond_lt, ↓e_if_icmp_lt, ↓e_ifCond_ge, ↓e_if_icmp_ge, ↓e_ifCond_gt, ↓e_if_icmp_gt, ↓e_ifCond_le, ↓e_if_icmp_le, ↓e_tab, ↓e_look, ↓e_get0, ↓e_get1, ↓e_get2, ↓e_get3, ↓e_put0, ↓e_put1, ↓e_put2, ↓e_put3, ↓e_iaload, ↓e_laload, ↓e_baload, ↓e_aaload, ↓e_iastore, ↓e_lastore, ↓e_bastore, ↓e_aastore, ↓e_alen, ↓e_new, ↓e_newarray, ↓e_anewarray, ↓e_objinit, ↓e_virt1, ↓e_virt2, ↓e_virt3, ↓e_virt4, ↓e_virt5, ↓e_virt6, ↓e_virt7, ↓e_stat0, ↓e_stat1, ↓e_stat2, ↓e_stat3, ↓e_stat4, ↓e_stat5, ↓e_stat6, ↓e_stat7, ↓e_spec1, ↓e_spec2, ↓e_spec3, ↓e_spec4, ↓e_spec5, ↓e_strlen, ↓e_charAt, ↓e_copy, ↓e_iret0, ↓e_iret1, ↓e_lret, ↓e_aret, ↓e_vret, zIsI_int, zIsL_long, zIsA_ref, zInt_int, true_and, and_true, ↓reduceIte, zGet, zSet, zSet2, zEnt, zWid, Value.category, List.map_cons, List.map_nil, List.sum_cons, List.sum_nil, List.replicate, Option.toList, Nat.reduceAdd, Nat.reduceSub, Nat.reduceMul, Nat.reduceLeDiff, Nat.reduceEqDiff, Nat.reduceLT, List.cons_append, List.nil_append, true_or, or_true, or_false, false_or, nI_ltI, nI_leI, nI_eq, nI_clamp, zIn_nI, bI_0, nI_add, nI_mul, nI_or, nI_and, nI_shl1, nI_bit, ↓pk_rem, pk_div, Nat.lt_irrefl, Nat.not_lt_zero, reduceCtorEq, B.k, B.r4, B.r5, B.r6, B.r7, B.r8, B.r9, B.r10, B.r12, B.r13, B.k104, B.k105, B.k106, B.k107, B.k108, B.k109, B.k110, B.k111, B.k112, hk8, hk9, hk19, u, v, w, show oI none = -nI 1 from rfl, s2, show o1 none = 0 from rfl, Nat.add_zero]
      · rw [b1] at u; rw [b2] at v
        have n2 := nm i2 l2
        rw [key, b1, b2]
        simp (disch := omega) only [L_4_164, zt_4_164, L_4_165, zt_4_165, L_4_180, zt_4_180, L_4_181, zt_4_181, ↓e_iconst0, ↓e_iconst1, ↓e_bipush0, ↓e_bipush1, ↓e_sipush0, ↓e_sipush1, ↓e_ldc0, ↓e_ldc1, ↓e_ldc_w0, ↓e_ldc_w1, ↓e_ldc2, ↓e_lconst0, ↓e_lconst1, ↓e_ldc2_w0, ↓e_ldc2_w1, ↓e_iload, ↓e_iload_n, ↓e_istore, ↓e_istore_n, ↓e_lload, ↓e_lload_n, ↓e_lstore, ↓e_lstore_n, ↓e_aload, ↓e_aload_n, ↓e_astore, ↓e_astore_n, ↓e_iinc0, ↓e_iinc1, ↓e_iadd, ↓e_isub, ↓e_imul, ↓e_iand, ↓e_ior, ↓e_ixor, ↓e_ishl, ↓e_ishr, ↓e_iushr, ↓e_ladd, ↓e_lsub, ↓e_lmul, ↓e_land, ↓e_lor, ↓e_idiv, ↓e_irem, ↓e_ldiv, ↓e_lrem, ↓e_lshl, ↓e_lcmp, ↓e_i2l, ↓e_l2i, ↓e_i2b, ↓e_i2s, ↓e_dup_int, ↓e_pop_int, ↓e_dup_ref, ↓e_pop_ref, ↓e_dup2, ↓e_goto, ↓e_nop, ↓e_ifCond_eq, ↓e_if_icmp_eq, ↓e_ifCond_ne, ↓e_if_icmp_ne, ↓e_ifCond_lt, ↓e_if_icmp_lt, ↓e_ifCond_ge, ↓e_if_icmp_ge, ↓e_ifCond_gt, ↓e_if_icmp_gt, ↓e_ifCond_le, ↓e_if_icmp_le, ↓e_tab, ↓e_look, ↓e_get0, ↓e_get1, ↓e_get2, ↓e_get3, ↓e_put0, ↓e_put1, ↓e_put2, ↓e_put3, ↓e_iaload, ↓e_laload, ↓e_baload, ↓e_aaload, ↓e_iastore, ↓e_lastore, ↓e_bastore, ↓e_aastore, ↓e_alen, ↓e_new, ↓e_newarray, ↓e_anewarray, ↓e_objinit, ↓e_virt1, ↓e_virt2, ↓e_virt3, ↓e_virt4, ↓e_virt5, ↓e_virt6, ↓e_virt7, ↓e_stat0, ↓e_stat1, ↓e_stat2, ↓e_stat3, ↓e_stat4, ↓e_stat5, ↓e_stat6, ↓e_stat7, ↓e_spec1, ↓e_spec2, ↓e_spec3, ↓e_spec4, ↓e_spec5, ↓e_strlen, ↓e_charAt, ↓e_copy, ↓e_iret0, ↓e_iret1, ↓e_lret, ↓e_aret, ↓e_vret, zIsI_int, zIsL_long, zIsA_ref, zInt_int, true_and, and_true, ↓reduceIte, zGet, zSet, zSet2, zEnt, zWid, Value.category, List.map_cons, List.map_nil, List.sum_cons, List.sum_nil, List.replicate, Option.toList, Nat.reduceAdd, Nat.reduceSub, Nat.reduceMul, Nat.reduceLeDiff, Nat.reduceEqDiff, Nat.reduceLT, List.cons_append, List.nil_append, true_or, or_true, or_false, false_or, nI_ltI, nI_leI, nI_eq, nI_clamp, zIn_nI, bI_0, nI_add, nI_mul, nI_or, nI_and, nI_shl1, nI_bit, ↓pk_rem, pk_div, Nat.lt_irrefl, Nat.not_lt_zero, reduceCtorEq, B.k, B.r4, B.r5, B.r6, B.r7, B.r8, B.r9, B.r10, B.r12, B.r13, B.k104, B.k105, B.k106, B.k107, B.k108, B.k109, B.k110, B.k111, B.k112, hk8, hk9, hk19, u, v, w, show oI none = -nI 1 from rfl, show oI (some i2) = nI i2 from rfl, n2, s2, show o1 none = 0 from rfl, show o1 (some i2) = 1 from rfl, Nat.add_zero]
      · rw [b1] at u; rw [b2] at v
        have n1 := nm i1 l1
        rw [key, b1, b2]
        simp (disch := omega) only [L_4_164, zt_4_164, L_4_165, zt_4_165, L_4_180, zt_4_180, L_4_181, zt_4_181, ↓e_iconst0, ↓e_iconst1, ↓e_bipush0, ↓e_bipush1, ↓e_sipush0, ↓e_sipush1, ↓e_ldc0, ↓e_ldc1, ↓e_ldc_w0, ↓e_ldc_w1, ↓e_ldc2, ↓e_lconst0, ↓e_lconst1, ↓e_ldc2_w0, ↓e_ldc2_w1, ↓e_iload, ↓e_iload_n, ↓e_istore, ↓e_istore_n, ↓e_lload, ↓e_lload_n, ↓e_lstore, ↓e_lstore_n, ↓e_aload, ↓e_aload_n, ↓e_astore, ↓e_astore_n, ↓e_iinc0, ↓e_iinc1, ↓e_iadd, ↓e_isub, ↓e_imul, ↓e_iand, ↓e_ior, ↓e_ixor, ↓e_ishl, ↓e_ishr, ↓e_iushr, ↓e_ladd, ↓e_lsub, ↓e_lmul, ↓e_land, ↓e_lor, ↓e_idiv, ↓e_irem, ↓e_ldiv, ↓e_lrem, ↓e_lshl, ↓e_lcmp, ↓e_i2l, ↓e_l2i, ↓e_i2b, ↓e_i2s, ↓e_dup_int, ↓e_pop_int, ↓e_dup_ref, ↓e_pop_ref, ↓e_dup2, ↓e_goto, ↓e_nop, ↓e_ifCond_eq, ↓e_if_icmp_eq, ↓e_ifCond_ne, ↓e_if_icmp_ne, ↓e_ifCond_lt, ↓e_if_icmp_lt, ↓e_ifCond_ge, ↓e_if_icmp_ge, ↓e_ifCond_gt, ↓e_if_icmp_gt, ↓e_ifCond_le, ↓e_if_icmp_le, ↓e_tab, ↓e_look, ↓e_get0, ↓e_get1, ↓e_get2, ↓e_get3, ↓e_put0, ↓e_put1, ↓e_put2, ↓e_put3, ↓e_iaload, ↓e_laload, ↓e_baload, ↓e_aaload, ↓e_iastore, ↓e_lastore, ↓e_bastore, ↓e_aastore, ↓e_alen, ↓e_new, ↓e_newarray, ↓e_anewarray, ↓e_objinit, ↓e_virt1, ↓e_virt2, ↓e_virt3, ↓e_virt4, ↓e_virt5, ↓e_virt6, ↓e_virt7, ↓e_stat0, ↓e_stat1, ↓e_stat2, ↓e_stat3, ↓e_stat4, ↓e_stat5, ↓e_stat6, ↓e_stat7, ↓e_spec1, ↓e_spec2, ↓e_spec3, ↓e_spec4, ↓e_spec5, ↓e_strlen, ↓e_charAt, ↓e_copy, ↓e_iret0, ↓e_iret1, ↓e_lret, ↓e_aret, ↓e_vret, zIsI_int, zIsL_long, zIsA_ref, zInt_int, true_and, and_true, ↓reduceIte, zGet, zSet, zSet2, zEnt, zWid, Value.category, List.map_cons, List.map_nil, List.sum_cons, List.sum_nil, List.replicate, Option.toList, Nat.reduceAdd, Nat.reduceSub, Nat.reduceMul, Nat.reduceLeDiff, Nat.reduceEqDiff, Nat.reduceLT, List.cons_append, List.nil_append, true_or, or_true, or_false, false_or, nI_ltI, nI_leI, nI_eq, nI_clamp, zIn_nI, bI_0, nI_add, nI_mul, nI_or, nI_and, nI_shl1, nI_bit, ↓pk_rem, pk_div, Nat.lt_irrefl, Nat.not_lt_zero, reduceCtorEq, B.k, B.r4, B.r5, B.r6, B.r7, B.r8, B.r9, B.r10, B.r12, B.r13, B.k104, B.k105, B.k106, B.k107, B.k108, B.k109, B.k110, B.k111, B.k112, hk8, hk9, hk19, u, v, w, show oI none = -nI 1 from rfl, show oI (some i1) = nI i1 from rfl, n1, s2, show o1 none = 0 from rfl, show o1 (some i1) = 1 from rfl, Nat.add_zero]
      · rw [b1] at u; rw [b2] at v
        have n1 := nm i1 l1
        have n2 := nm i2 l2
        rw [key, b1, b2]
        simp (disch := omega) only [L_4_164, zt_4_164, L_4_165, zt_4_165, L_4_180, zt_4_180, L_4_181, zt_4_181, ↓e_iconst0, ↓e_iconst1, ↓e_bipush0, ↓e_bipush1, ↓e_sipush0, ↓e_sipush1, ↓e_ldc0, ↓e_ldc1, ↓e_ldc_w0, ↓e_ldc_w1, ↓e_ldc2, ↓e_lconst0, ↓e_lconst1, ↓e_ldc2_w0, ↓e_ldc2_w1, ↓e_iload, ↓e_iload_n, ↓e_istore, ↓e_istore_n, ↓e_lload, ↓e_lload_n, ↓e_lstore, ↓e_lstore_n, ↓e_aload, ↓e_aload_n, ↓e_astore, ↓e_astore_n, ↓e_iinc0, ↓e_iinc1, ↓e_iadd, ↓e_isub, ↓e_imul, ↓e_iand, ↓e_ior, ↓e_ixor, ↓e_ishl, ↓e_ishr, ↓e_iushr, ↓e_ladd, ↓e_lsub, ↓e_lmul, ↓e_land, ↓e_lor, ↓e_idiv, ↓e_irem, ↓e_ldiv, ↓e_lrem, ↓e_lshl, ↓e_lcmp, ↓e_i2l, ↓e_l2i, ↓e_i2b, ↓e_i2s, ↓e_dup_int, ↓e_pop_int, ↓e_dup_ref, ↓e_pop_ref, ↓e_dup2, ↓e_goto, ↓e_nop, ↓e_ifCond_eq, ↓e_if_icmp_eq, ↓e_ifCond_ne, ↓e_if_icmp_ne, ↓e_ifCond_lt, ↓e_if_icmp_lt, ↓e_ifCond_ge, ↓e_if_icmp_ge, ↓e_ifCond_gt, ↓e_if_icmp_gt, ↓e_ifCond_le, ↓e_if_icmp_le, ↓e_tab, ↓e_look, ↓e_get0, ↓e_get1, ↓e_get2, ↓e_get3, ↓e_put0, ↓e_put1, ↓e_put2, ↓e_put3, ↓e_iaload, ↓e_laload, ↓e_baload, ↓e_aaload, ↓e_iastore, ↓e_lastore, ↓e_bastore, ↓e_aastore, ↓e_alen, ↓e_new, ↓e_newarray, ↓e_anewarray, ↓e_objinit, ↓e_virt1, ↓e_virt2, ↓e_virt3, ↓e_virt4, ↓e_virt5, ↓e_virt6, ↓e_virt7, ↓e_stat0, ↓e_stat1, ↓e_stat2, ↓e_stat3, ↓e_stat4, ↓e_stat5, ↓e_stat6, ↓e_stat7, ↓e_spec1, ↓e_spec2, ↓e_spec3, ↓e_spec4, ↓e_spec5, ↓e_strlen, ↓e_charAt, ↓e_copy, ↓e_iret0, ↓e_iret1, ↓e_lret, ↓e_aret, ↓e_vret, zIsI_int, zIsL_long, zIsA_ref, zInt_int, true_and, and_true, ↓reduceIte, zGet, zSet, zSet2, zEnt, zWid, Value.category, List.map_cons, List.map_nil, List.sum_cons, List.sum_nil, List.replicate, Option.toList, Nat.reduceAdd, Nat.reduceSub, Nat.reduceMul, Nat.reduceLeDiff, Nat.reduceEqDiff, Nat.reduceLT, List.cons_append, List.nil_append, true_or, or_true, or_false, false_or, nI_ltI, nI_leI, nI_eq, nI_clamp, zIn_nI, bI_0, nI_add, nI_mul, nI_or, nI_and, nI_shl1, nI_bit, ↓pk_rem, pk_div, Nat.lt_irrefl, Nat.not_lt_zero, reduceCtorEq, B.k, B.r4, B.r5, B.r6, B.r7, B.r8, B.r9, B.r10, B.r12, B.r13, B.k104, B.k105, B.k106, B.k107, B.k108, B.k109, B.k110, B.k111, B.k112, hk8, hk9, hk19, u, v, w, show oI (some i1) = nI i1 from rfl, show oI (some i2) = nI i2 from rfl, n1, n2, s2, show o1 (some i1) = 1 from rfl, show o1 (some i2) = 1 from rfl]) (setI τ1 107 A.N (nI 0)) ⟨g1.i (by omega) (.inr (by omega)), fun b i hb => by rw [sI_setI, if_neg (fun h => hb h.1)], fun k h1 h2 => by rw [show k = A.N from by omega, sI_setI, if_pos ⟨rfl, rfl⟩, cfs_N]⟩
  refine ⟨τ2, f2, (i2 103 2 (by decide)).trans g2, fun k hk => ?_, fun k hk => c2 k (by omega) hk, fun K => ?_⟩
  · obtain ⟨x, y, z⟩ := g3 k hk
    exact ⟨(i2 104 k (by decide)).trans x, (i2 105 k (by decide)).trans y, (i2 106 k (by decide)).trans z⟩
  · rw [E_4]
    simp (disch := omega) only [L_4_0, zt_4_0, ↓e_iconst0, ↓e_iconst1, ↓e_bipush0, ↓e_bipush1, ↓e_sipush0, ↓e_sipush1, ↓e_ldc0, ↓e_ldc1, ↓e_ldc_w0, ↓e_ldc_w1, ↓e_ldc2, ↓e_lconst0, ↓e_lconst1, ↓e_ldc2_w0, ↓e_ldc2_w1, ↓e_iload, ↓e_iload_n, ↓e_istore, ↓e_istore_n, ↓e_lload, ↓e_lload_n, ↓e_lstore, ↓e_lstore_n, ↓e_aload, ↓e_aload_n, ↓e_astore, ↓e_astore_n, ↓e_iinc0, ↓e_iinc1, ↓e_iadd, ↓e_isub, ↓e_imul, ↓e_iand, ↓e_ior, ↓e_ixor, ↓e_ishl, ↓e_ishr, ↓e_iushr, ↓e_ladd, ↓e_lsub, ↓e_lmul, ↓e_land, ↓e_lor, ↓e_idiv, ↓e_irem, ↓e_ldiv, ↓e_lrem, ↓e_lshl, ↓e_lcmp, ↓e_i2l, ↓e_l2i, ↓e_i2b, ↓e_i2s, ↓e_dup_int, ↓e_pop_int, ↓e_dup_ref, ↓e_pop_ref, ↓e_dup2, ↓e_goto, ↓e_nop, ↓e_ifCond_eq, ↓e_if_icmp_eq, ↓e_ifCond_ne, ↓e_if_icmp_ne, ↓e_ifCond_lt, ↓e_if_icmp_lt, ↓e_ifCond_ge, ↓e_if_icmp_ge, ↓e_ifCond_gt, ↓e_if_icmp_gt, ↓e_ifCond_le, ↓e_if_icmp_le, ↓e_tab, ↓e_look, ↓e_get0, ↓e_get1, ↓e_get2, ↓e_get3, ↓e_put0, ↓e_put1, ↓e_put2, ↓e_put3, ↓e_iaload, ↓e_laload, ↓e_baload, ↓e_aaload, ↓e_iastore, ↓e_lastore, ↓e_bastore, ↓e_aastore, ↓e_alen, ↓e_new, ↓e_newarray, ↓e_anewarray, ↓e_objinit, ↓e_virt1, ↓e_virt2, ↓e_virt3, ↓e_virt4, ↓e_virt5, ↓e_virt6, ↓e_virt7, ↓e_stat0, ↓e_stat1, ↓e_stat2, ↓e_stat3, ↓e_stat4, ↓e_stat5, ↓e_stat6, ↓e_stat7, ↓e_spec1, ↓e_spec2, ↓e_spec3, ↓e_spec4, ↓e_spec5, ↓e_strlen, ↓e_charAt, ↓e_copy, ↓e_iret0, ↓e_iret1, ↓e_lret, ↓e_aret, ↓e_vret, zIsI_int, zIsL_long, zIsA_ref, zInt_int, true_and, and_true, ↓reduceIte, zGet, zSet, zSet2, zEnt, zWid, Value.category, List.map_cons, List.map_nil, List.sum_cons, List.sum_nil, List.replicate, Option.toList, Nat.reduceAdd, Nat.reduceSub, Nat.reduceMul, Nat.reduceLeDiff, Nat.reduceEqDiff, Nat.reduceLT, List.cons_append, List.nil_append, true_or, or_true, or_false, false_or, nI_ltI, nI_leI, nI_eq, nI_clamp, zIn_nI, bI_0, nI_add, nI_mul, nI_or, nI_and, nI_shl1, nI_bit, ↓pk_rem, pk_div, Nat.lt_irrefl, Nat.not_lt_zero, reduceCtorEq, B.k]
    refine Eq.trans (congrFun e1 K) ?_
    rw [ex τ1 K (A.wide * A.high) A.N g1 (Nat.le_refl _) hN8 (.inl rfl) g2]
    refine Eq.trans (congrFun e2 K) ?_
    have B := B0.ag f2
    rw [Nat.sub_self, L_4_133, zt_4_133]
    have m1 : nI 0 - nI 1 < nI 0 := by decide
    simp (disch := omega) only [L_4_189, zt_4_189, ↓e_iconst0, ↓e_iconst1, ↓e_bipush0, ↓e_bipush1, ↓e_sipush0, ↓e_sipush1, ↓e_ldc0, ↓e_ldc1, ↓e_ldc_w0, ↓e_ldc_w1, ↓e_ldc2, ↓e_lconst0, ↓e_lconst1, ↓e_ldc2_w0, ↓e_ldc2_w1, ↓e_iload, ↓e_iload_n, ↓e_istore, ↓e_istore_n, ↓e_lload, ↓e_lload_n, ↓e_lstore, ↓e_lstore_n, ↓e_aload, ↓e_aload_n, ↓e_astore, ↓e_astore_n, ↓e_iinc0, ↓e_iinc1, ↓e_iadd, ↓e_isub, ↓e_imul, ↓e_iand, ↓e_ior, ↓e_ixor, ↓e_ishl, ↓e_ishr, ↓e_iushr, ↓e_ladd, ↓e_lsub, ↓e_lmul, ↓e_land, ↓e_lor, ↓e_idiv, ↓e_irem, ↓e_ldiv, ↓e_lrem, ↓e_lshl, ↓e_lcmp, ↓e_i2l, ↓e_l2i, ↓e_i2b, ↓e_i2s, ↓e_dup_int, ↓e_pop_int, ↓e_dup_ref, ↓e_pop_ref, ↓e_dup2, ↓e_goto, ↓e_nop, ↓e_ifCond_eq, ↓e_if_icmp_eq, ↓e_ifCond_ne, ↓e_if_icmp_ne, ↓e_ifCond_lt, ↓e_if_icmp_lt, ↓e_ifCond_ge, ↓e_if_icmp_ge, ↓e_ifCond_gt, ↓e_if_icmp_gt, ↓e_ifCond_le, ↓e_if_icmp_le, ↓e_tab, ↓e_look, ↓e_get0, ↓e_get1, ↓e_get2, ↓e_get3, ↓e_put0, ↓e_put1, ↓e_put2, ↓e_put3, ↓e_iaload, ↓e_laload, ↓e_baload, ↓e_aaload, ↓e_iastore, ↓e_lastore, ↓e_bastore, ↓e_aastore, ↓e_alen, ↓e_new, ↓e_newarray, ↓e_anewarray, ↓e_objinit, ↓e_virt1, ↓e_virt2, ↓e_virt3, ↓e_virt4, ↓e_virt5, ↓e_virt6, ↓e_virt7, ↓e_stat0, ↓e_stat1, ↓e_stat2, ↓e_stat3, ↓e_stat4, ↓e_stat5, ↓e_stat6, ↓e_stat7, ↓e_spec1, ↓e_spec2, ↓e_spec3, ↓e_spec4, ↓e_spec5, ↓e_strlen, ↓e_charAt, ↓e_copy, ↓e_iret0, ↓e_iret1, ↓e_lret, ↓e_aret, ↓e_vret, zIsI_int, zIsL_long, zIsA_ref, zInt_int, true_and, and_true, ↓reduceIte, zGet, zSet, zSet2, zEnt, zWid, Value.category, List.map_cons, List.map_nil, List.sum_cons, List.sum_nil, List.replicate, Option.toList, Nat.reduceAdd, Nat.reduceSub, Nat.reduceMul, Nat.reduceLeDiff, Nat.reduceEqDiff, Nat.reduceLT, List.cons_append, List.nil_append, true_or, or_true, or_false, false_or, nI_ltI, nI_leI, nI_eq, nI_clamp, zIn_nI, bI_0, nI_add, nI_mul, nI_or, nI_and, nI_shl1, nI_bit, ↓pk_rem, pk_div, Nat.lt_irrefl, Nat.not_lt_zero, reduceCtorEq, m1]
end LSX
