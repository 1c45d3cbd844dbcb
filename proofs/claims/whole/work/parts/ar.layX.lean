/-! BEST, the class: all ways, those that can't be better passed over -/
theorem nIm1_lt {x y : Nat} (hx : x < 2 ^ 31) (hy : y + 1 < 2 ^ 31) : (nI x - nI 1 < nI y) = (x < y + 1) := by
  cases x with
  | zero =>
    have : nI 0 - nI 1 < nI y := by
      rw [Int32.lt_iff_toInt_lt, show (nI 0 - nI 1).toInt = -1 from by decide, nI_toInt (by omega)]
      omega
    simp [this]
  | succ x =>
    rw [nI_sub (by omega), Nat.add_sub_cancel, nI_ltI (by omega) (by omega)]
    exact propext ⟨fun h => by omega, fun h => by omega⟩
def qLf (b j : Nat) : Prop := (b = 103 ∧ j = 0) ∨ b = 109 ∨ b = 110
def LfS (σ : MS) (A : Ofc) (f : Nat → Nat) : Prop := (RBk σ) ∧ (sI σ 103 2 = nI A.N) ∧ (∀ k, k < A.N → sI σ 105 k = oI (A.rkS (A.cc k) 0) ∧ sI σ 106 k = oI (A.rkS (A.cc k) 1)) ∧ (∀ k, k ≤ A.N → sI σ 107 k = nI (cfs A.wBe A.N k)) ∧ (∀ k, k ≤ 28 → sI σ 108 k = nI (sm k (fun i => f (i + 1)))) ∧ (∀ p q, p < A.np → q < A.np → sI σ 112 (p * 8 + q) = nI (A.like p q))
theorem LfS.b {σ : MS} {A : Ofc} {f : Nat → Nat} (H : LfS σ A f) : RBk σ := H.1
theorem LfS.m2 {σ : MS} {A : Ofc} {f : Nat → Nat} (H : LfS σ A f) : sI σ 103 2 = nI A.N := H.2.1
theorem LfS.rw {σ : MS} {A : Ofc} {f : Nat → Nat} (H : LfS σ A f) : ∀ k, k < A.N → sI σ 105 k = oI (A.rkS (A.cc k) 0) ∧ sI σ 106 k = oI (A.rkS (A.cc k) 1) := H.2.2.1
theorem LfS.c {σ : MS} {A : Ofc} {f : Nat → Nat} (H : LfS σ A f) : ∀ k, k ≤ A.N → sI σ 107 k = nI (cfs A.wBe A.N k) := H.2.2.2.1
theorem LfS.u {σ : MS} {A : Ofc} {f : Nat → Nat} (H : LfS σ A f) : ∀ k, k ≤ 28 → sI σ 108 k = nI (sm k (fun i => f (i + 1))) := H.2.2.2.2.1
theorem LfS.al {σ : MS} {A : Ofc} {f : Nat → Nat} (H : LfS σ A f) : ∀ p q, p < A.np → q < A.np → sI σ 112 (p * 8 + q) = nI (A.like p q) := H.2.2.2.2.2
theorem LfS.mk {σ : MS} {A : Ofc} {f : Nat → Nat} (b : RBk σ) (m2 : sI σ 103 2 = nI A.N) (rw : ∀ k, k < A.N → sI σ 105 k = oI (A.rkS (A.cc k) 0) ∧ sI σ 106 k = oI (A.rkS (A.cc k) 1)) (c : ∀ k, k ≤ A.N → sI σ 107 k = nI (cfs A.wBe A.N k)) (u : ∀ k, k ≤ 28 → sI σ 108 k = nI (sm k (fun i => f (i + 1)))) (al : ∀ p q, p < A.np → q < A.np → sI σ 112 (p * 8 + q) = nI (A.like p q)) : LfS σ A f := ⟨b, m2, rw, c, u, al⟩
def LfR (A : Ofc) (b0 : Nat) (τ : MS) (x : Nat × (Nat → Nat)) : Prop := sI τ 103 0 = nI x.1 - nI 1 ∧ x.1 < 2 ^ 30 ∧ (x.1 ≤ b0 ∨ ∀ i, i < A.N → sI τ 110 i = nI (x.2 i))
section LFX
variable {d : Nat} {σ τ ρ : MS} {a : Nat} {A : Ofc} {K : Option Value → MS → Prop}
theorem LfS.fb {f : Nat → Nat} (S : LfS σ A f) (h : FB qLf σ τ) : LfS τ A f := by
  have y : ∀ b j, b = 103 ∧ j = 2 ∨ b = 105 ∨ b = 106 ∨ b = 107 ∨ b = 108 ∨ b = 112 → sI τ b j = sI σ b j := fun b j hb => h.2.2 b j (by unfold qLf; omega)
  refine LfS.mk (S.b.ag h) ((y _ _ (by omega)).trans S.m2) (fun k hk => ⟨(y _ _ (by omega)).trans (S.rw k hk).1, (y _ _ (by omega)).trans (S.rw k hk).2⟩) (fun k hk => (y _ _ (by omega)).trans (S.c k hk)) (fun k hk => (y _ _ (by omega)).trans (S.u k hk)) (fun p q hp hq => (y _ _ (by omega)).trans (S.al p q hp hq))
theorem u_le {f : Nat → Nat} (hf : ∀ i, f i ≤ 72) (k : Nat) : sm k (fun i => f (i + 1)) ≤ 72 * k := by
  induction k with
  | zero => exact Nat.le_refl _
  | succ k ih => rw [sm_s]; have := hf (k + 1); omega
theorem om_le {o : Option Nat} {g : Nat → Nat} {V : Nat} (h : ∀ i, o = some i → g i ≤ V) : om o g ≤ V := by
  cases o with
  | none => exact Nat.zero_le _
  | some i => exact h i rfl
theorem bit_out {L p q : Nat} (hL : L < 256) (hq : q < 8) (hp : p < 8) : (L &&& (255 - 2 ^ p)).testBit q = (L.testBit q && !(q == p)) := by
  rw [Nat.testBit_and, cmp_bit (pow256 hp) hq, Nat.testBit_two_pow]
  congr 2
  by_cases h : p = q
  · subst h; simp
  · have h' : ¬ q = p := fun e => h e.symm
    simp [h, h']
theorem c_mostFrom (B : RBk σ) {k c U : Nat} (hk : k ≤ 8) (hc : c ≤ 28) (i7 : sI σ 107 k = nI c) (i8 : sI σ 108 c = nI U) :
   zC (d + 2) 392 [.ref 103, .int (nI k)] σ K = K (some (.int (nI U))) σ := by
  have hk9 : k < 9 := by omega
  have hk8 : ¬ 8 < k := by omega
  have c29 : c < 29 := by omega
  have mn := fun (K : Option Value → MS → Prop) => c_min (d := d) (σ := σ) (K := K) (x := c) (y := 28) (by omega) (by decide)
  rw [Nat.min_eq_left hc] at mn
  have mx := fun (K : Option Value → MS → Prop) => c_max0 (d := d) (σ := σ) (K := K) (y := c) (by omega)
  rw [E_392]
  simp (disch := omega) only [L_392_0, zt_392_0, L_392_19, zt_392_19, L_392_20, zt_392_20, ↓e_iconst0, ↓e_iconst1, ↓e_bipush0, ↓e_bipush1, ↓e_sipush0, ↓e_sipush1, ↓e_ldc0, ↓e_ldc1, ↓e_ldc_w0, ↓e_ldc_w1, ↓e_ldc2, ↓e_lconst0, ↓e_lconst1, ↓e_ldc2_w0, ↓e_ldc2_w1, ↓e_iload, ↓e_iload_n, ↓e_istore, ↓e_istore_n, ↓e_lload, ↓e_lload_n, ↓e_lstore, ↓e_lstore_n, ↓e_aload, ↓e_aload_n, ↓e_astore, ↓e_astore_n, ↓e_iinc0, ↓e_iinc1, ↓e_iadd, ↓e_isub, ↓e_imul, ↓e_iand, ↓e_ior, ↓e_ixor, ↓e_ishl, ↓e_ishr, ↓e_iushr, ↓e_ladd, ↓e_lsub, ↓e_lmul, ↓e_land, ↓e_lor, ↓e_idiv, ↓e_irem, ↓e_ldiv, ↓e_lrem, ↓e_lshl, ↓e_lcmp, ↓e_i2l, ↓e_l2i, ↓e_i2b, ↓e_i2s, ↓e_dup_int, ↓e_pop_int, ↓e_dup_ref, ↓e_pop_ref, ↓e_dup2, ↓e_goto, ↓e_nop, ↓e_ifCond_eq, ↓e_if_icmp_eq, ↓e_ifCond_ne, ↓e_if_icmp_ne, ↓e_ifCond_lt, ↓e_if_icmp_lt, ↓e_ifCond_ge, ↓e_if_icmp_ge, ↓e_ifCond_gt, ↓e_if_icmp_gt, ↓e_ifCond_le, ↓e_if_icmp_le, ↓e_tab, ↓e_look, ↓e_get0, ↓e_get1, ↓e_get2, ↓e_get3, ↓e_put0, ↓e_put1, ↓e_put2, ↓e_put3, ↓e_iaload, ↓e_laload, ↓e_baload, ↓e_aaload, ↓e_iastore, ↓e_lastore, ↓e_bastore, ↓e_aastore, ↓e_alen, ↓e_new, ↓e_newarray, ↓e_anewarray, ↓e_objinit, ↓e_virt1, ↓e_virt2, ↓e_virt3, ↓e_virt4, ↓e_virt5, ↓e_virt6, ↓e_virt7, ↓e_stat0, ↓e_stat1, ↓e_stat2, ↓e_stat3, ↓e_stat4, ↓e_stat5, ↓e_stat6, ↓e_stat7, ↓e_spec1, ↓e_spec2, ↓e_spec3, ↓e_spec4, ↓e_spec5, ↓e_strlen, ↓e_charAt, ↓e_copy, ↓e_iret0, ↓e_iret1, ↓e_lret, ↓e_aret, ↓e_vret, zIsI_int, zIsL_long, zIsA_ref, zInt_int, true_and, and_true, ↓reduceIte, zGet, zSet, zSet2, zEnt, zWid, Value.category, List.map_cons, List.map_nil, List.sum_cons, List.sum_nil, List.replicate, Option.toList, Nat.reduceAdd, Nat.reduceSub, Nat.reduceMul, Nat.reduceLeDiff, Nat.reduceEqDiff, Nat.reduceLT, List.cons_append, List.nil_append, true_or, or_true, or_false, false_or, nI_ltI, nI_leI, nI_eq, nI_clamp, zIn_nI, bI_0, nI_add, nI_mul, nI_or, nI_and, nI_shl1, nI_bit, ↓pk_rem, pk_div, Nat.lt_irrefl, Nat.not_lt_zero, reduceCtorEq, B.k, B.r4, B.r5, B.r6, B.r7, B.r8, B.r9, B.r10, B.r12, B.r13, B.k104, B.k105, B.k106, B.k107, B.k108, B.k109, B.k110, B.k111, B.k112, hk, hk8, hk9, i7, ↓mn, ↓mx, c29, i8]
theorem c_likeTried (B : RBk σ) (O : OfcOk A) {p : Nat} (hp : p < A.np) (al : ∀ p q, p < A.np → q < A.np → sI σ 112 (p * 8 + q) = nI (A.like p q)) (o : Option Nat) (t : Nat → Nat) (ho : ∀ i, o = some i → i < 8 ∧ sI σ 109 i = nI (t i) ∧ t i < A.np) :
   zC (d + 1) 393 [.ref 103, .int (nI p), .int (oI o)] σ K = K (some (.int (nI (om o (fun i => A.like (t i) p))))) σ := by
  have h8 := O.p8
  have hp8 : p < 8 := by omega
  rw [E_393]
  cases o with
  | none =>
    have m1 : -nI 1 < nI 0 := by decide
    simp (disch := omega) only [L_393_0, zt_393_0, L_393_19, zt_393_19, L_393_20, zt_393_20, L_393_45, zt_393_45, L_393_46, zt_393_46, L_393_67, zt_393_67, L_393_68, zt_393_68, ↓e_iconst0, ↓e_iconst1, ↓e_bipush0, ↓e_bipush1, ↓e_sipush0, ↓e_sipush1, ↓e_ldc0, ↓e_ldc1, ↓e_ldc_w0, ↓e_ldc_w1, ↓e_ldc2, ↓e_lconst0, ↓e_lconst1, ↓e_ldc2_w0, ↓e_ldc2_w1, ↓e_iload, ↓e_iload_n, ↓e_istore, ↓e_istore_n, ↓e_lload, ↓e_lload_n, ↓e_lstore, ↓e_lstore_n, ↓e_aload, ↓e_aload_n, ↓e_astore, ↓e_astore_n, ↓e_iinc0, ↓e_iinc1, ↓e_iadd, ↓e_isub, ↓e_imul, ↓e_iand, ↓e_ior, ↓e_ixor, ↓e_ishl, ↓e_ishr, ↓e_iushr, ↓e_ladd, ↓e_lsub, ↓e_lmul, ↓e_land, ↓e_lor, ↓e_idiv, ↓e_irem, ↓e_ldiv, ↓e_lrem, ↓e_lshl, ↓e_lcmp, ↓e_i2l, ↓e_l2i, ↓e_i2b, ↓e_i2s, ↓e_dup_int, ↓e_pop_int, ↓e_dup_ref, ↓e_pop_ref, ↓e_dup2, ↓e_goto, ↓e_nop, ↓e_ifCond_eq, ↓e_if_icmp_eq, ↓e_ifCond_ne, ↓e_if_icmp_ne, ↓e_ifCond_lt, ↓e_if_icmp_lt, ↓e_ifCond_ge, ↓e_if_icmp_ge, ↓e_ifCond_gt, ↓e_if_icmp_gt, ↓e_ifCond_le, ↓e_if_icmp_le, ↓e_tab, ↓e_look, ↓e_get0, ↓e_get1, ↓e_get2, ↓e_get3, ↓e_put0, ↓e_put1, ↓e_put2, ↓e_put3, ↓e_iaload, ↓e_laload, ↓e_baload, ↓e_aaload, ↓e_iastore, ↓e_lastore, ↓e_bastore, ↓e_aastore, ↓e_alen, ↓e_new, ↓e_newarray, ↓e_anewarray, ↓e_objinit, ↓e_virt1, ↓e_virt2, ↓e_virt3, ↓e_virt4, ↓e_virt5, ↓e_virt6, ↓e_virt7, ↓e_stat0, ↓e_stat1, ↓e_stat2, ↓e_stat3, ↓e_stat4, ↓e_stat5, ↓e_stat6, ↓e_stat7, ↓e_spec1, ↓e_spec2, ↓e_spec3, ↓e_spec4, ↓e_spec5, ↓e_strlen, ↓e_charAt, ↓e_copy, ↓e_iret0, ↓e_iret1, ↓e_lret, ↓e_aret, ↓e_vret, zIsI_int, zIsL_long, zIsA_ref, zInt_int, true_and, and_true, ↓reduceIte, zGet, zSet, zSet2, zEnt, zWid, Value.category, List.map_cons, List.map_nil, List.sum_cons, List.sum_nil, List.replicate, Option.toList, Nat.reduceAdd, Nat.reduceSub, Nat.reduceMul, Nat.reduceLeDiff, Nat.reduceEqDiff, Nat.reduceLT, List.cons_append, List.nil_append, true_or, or_true, or_false, false_or, nI_ltI, nI_leI, nI_eq, nI_clamp, zIn_nI, bI_0, nI_add, nI_mul, nI_or, nI_and, nI_shl1, nI_bit, ↓pk_rem, pk_div, Nat.lt_irrefl, Nat.not_lt_zero, reduceCtorEq, B.k, B.r4, B.r5, B.r6, B.r7, B.r8, B.r9, B.r10, B.r12, B.r13, B.k104, B.k105, B.k106, B.k107, B.k108, B.k109, B.k110, B.k111, B.k112, hp8, show oI none = -nI 1 from rfl, m1, om_none]
  | some i =>
    obtain ⟨i8, t1, t2⟩ := ho i rfl
    have t8 : t i < 8 := by omega
    have b64 : p * 8 + t i < 64 := by omega
    have al := al p (t i) hp t2
    rw [like_comm] at al
    simp (disch := omega) only [L_393_0, zt_393_0, L_393_19, zt_393_19, L_393_20, zt_393_20, L_393_45, zt_393_45, L_393_46, zt_393_46, L_393_67, zt_393_67, L_393_68, zt_393_68, ↓e_iconst0, ↓e_iconst1, ↓e_bipush0, ↓e_bipush1, ↓e_sipush0, ↓e_sipush1, ↓e_ldc0, ↓e_ldc1, ↓e_ldc_w0, ↓e_ldc_w1, ↓e_ldc2, ↓e_lconst0, ↓e_lconst1, ↓e_ldc2_w0, ↓e_ldc2_w1, ↓e_iload, ↓e_iload_n, ↓e_istore, ↓e_istore_n, ↓e_lload, ↓e_lload_n, ↓e_lstore, ↓e_lstore_n, ↓e_aload, ↓e_aload_n, ↓e_astore, ↓e_astore_n, ↓e_iinc0, ↓e_iinc1, ↓e_iadd, ↓e_isub, ↓e_imul, ↓e_iand, ↓e_ior, ↓e_ixor, ↓e_ishl, ↓e_ishr, ↓e_iushr, ↓e_ladd, ↓e_lsub, ↓e_lmul, ↓e_land, ↓e_lor, ↓e_idiv, ↓e_irem, ↓e_ldiv, ↓e_lrem, ↓e_lshl, ↓e_lcmp, ↓e_i2l, ↓e_l2i, ↓e_i2b, ↓e_i2s, ↓e_dup_int, ↓e_pop_int, ↓e_dup_ref, ↓e_pop_ref, ↓e_dup2, ↓e_goto, ↓e_nop, ↓e_ifCond_eq, ↓e_if_icmp_eq, ↓e_ifCond_ne, ↓e_if_icmp_ne, ↓e_ifCond_lt, ↓e_if_icmp_lt, ↓e_ifCond_ge, ↓e_if_icmp_ge, ↓e_ifCond_gt, ↓e_if_icmp_gt, ↓e_ifCond_le, ↓e_if_icmp_le, ↓e_tab, ↓e_look, ↓e_get0, ↓e_get1, ↓e_get2, ↓e_get3, ↓e_put0, ↓e_put1, ↓e_put2, ↓e_put3, ↓e_iaload, ↓e_laload, ↓e_baload, ↓e_aaload, ↓e_iastore, ↓e_lastore, ↓e_bastore, ↓e_aastore, ↓e_alen, ↓e_new, ↓e_newarray, ↓e_anewarray, ↓e_objinit, ↓e_virt1, ↓e_virt2, ↓e_virt3, ↓e_virt4, ↓e_virt5, ↓e_virt6, ↓e_virt7, ↓e_stat0, ↓e_stat1, ↓e_stat2, ↓e_stat3, ↓e_stat4, ↓e_stat5, ↓e_stat6, ↓e_stat7, ↓e_spec1, ↓e_spec2, ↓e_spec3, ↓e_spec4, ↓e_spec5, ↓e_strlen, ↓e_charAt, ↓e_copy, ↓e_iret0, ↓e_iret1, ↓e_lret, ↓e_aret, ↓e_vret, zIsI_int, zIsL_long, zIsA_ref, zInt_int, true_and, and_true, ↓reduceIte, zGet, zSet, zSet2, zEnt, zWid, Value.category, List.map_cons, List.map_nil, List.sum_cons, List.sum_nil, List.replicate, Option.toList, Nat.reduceAdd, Nat.reduceSub, Nat.reduceMul, Nat.reduceLeDiff, Nat.reduceEqDiff, Nat.reduceLT, List.cons_append, List.nil_append, true_or, or_true, or_false, false_or, nI_ltI, nI_leI, nI_eq, nI_clamp, zIn_nI, bI_0, nI_add, nI_mul, nI_or, nI_and, nI_shl1, nI_bit, ↓pk_rem, pk_div, Nat.lt_irrefl, Nat.not_lt_zero, reduceCtorEq, B.k, B.r4, B.r5, B.r6, B.r7, B.r8, B.r9, B.r10, B.r12, B.r13, B.k104, B.k105, B.k106, B.k107, B.k108, B.k109, B.k110, B.k111, B.k112, hp8, show oI (some i) = nI i from rfl, i8, t1, t8, b64, al, om_some]
theorem c_layFrom (O : OfcOk A) {f : Nat → Nat} (hf : ∀ i, f i ≤ 72) (b0 : Nat) : ∀ (m k : Nat) (t : Nat → Nat) (l : Nat → Bool) (s L : Nat) (x : Nat × (Nat → Nat)) (σ : MS), k + m = A.N → LfS σ A f → (∀ i, i < k → sI σ 109 i = nI (t i) ∧ t i < A.np) → L < 256 → (∀ p, p < 8 → L.testBit p = l p) → (∀ p, l p = true → p < A.np) → s ≤ 144 * k → LfR A b0 σ x →
   ∃ τ, FB qLf σ τ ∧ (∀ i, i < k → sI τ 109 i = sI σ 109 i) ∧ LfR A b0 τ (srP (gAd A.wBe A.like) (fun k => sm (cfs A.wBe A.N k) (fun i => f (i + 1))) m k t l s x) ∧ ∀ K, zC (d + m + 3) 8 [.ref 103, .int (nI k), .int (nI L), .int (nI s)] σ K = K none τ := by
  have hN8 := N8 O
  have h8 := O.p8
  intro m
  induction m with
  | zero =>
    intro k t l s L x σ hk S ht hL hb hl hs R
    have hk : k = A.N := by omega
    have B := S.b
    have n0 : ¬ (nI 0 : Int32) < 0 := by decide
    have n8 : ¬ (nI 8 : Int32) < 0 := by decide
    refine ⟨cpA (setI σ 103 0 (nI s)) 109 110 8, ?_, fun i hi => ?_, ⟨?_, ?_, .inr (fun i hi => ?_)⟩, fun K => ?_⟩
    · have f1 : FB qLf σ (setI σ 103 0 (nI s)) := FB.rf.i (by omega) (.inl ⟨rfl, rfl⟩)
      refine ⟨f1.1.upA (by omega), f1.2.1, fun b j hn => ?_⟩
      unfold cpA
      rw [sI_upA, if_neg (fun h => hn (.inr (.inr h)))]
      exact f1.2.2 b j hn
    · unfold cpA
      rw [sI_upA, if_neg (by omega), sI_setI, if_neg (by omega)]
    · unfold cpA
      rw [sI_upA, if_neg (by omega), sI_setI, if_pos ⟨rfl, rfl⟩]
      show nI s = nI (s + 1) - nI 1
      rw [nI_sub (by omega), Nat.add_sub_cancel]
    · show s + 1 < 2 ^ 30
      omega
    · unfold cpA
      rw [sI_upA, if_pos rfl, if_pos (by omega), sI_setI, if_neg (by omega)]
      exact (ht i (by omega)).1
    · subst hk
      rw [E_8]
      simp (disch := omega) only [L_8_0, zt_8_0, L_8_18, zt_8_18, ↓e_iconst0, ↓e_iconst1, ↓e_bipush0, ↓e_bipush1, ↓e_sipush0, ↓e_sipush1, ↓e_ldc0, ↓e_ldc1, ↓e_ldc_w0, ↓e_ldc_w1, ↓e_ldc2, ↓e_lconst0, ↓e_lconst1, ↓e_ldc2_w0, ↓e_ldc2_w1, ↓e_iload, ↓e_iload_n, ↓e_istore, ↓e_istore_n, ↓e_lload, ↓e_lload_n, ↓e_lstore, ↓e_lstore_n, ↓e_aload, ↓e_aload_n, ↓e_astore, ↓e_astore_n, ↓e_iinc0, ↓e_iinc1, ↓e_iadd, ↓e_isub, ↓e_imul, ↓e_iand, ↓e_ior, ↓e_ixor, ↓e_ishl, ↓e_ishr, ↓e_iushr, ↓e_ladd, ↓e_lsub, ↓e_lmul, ↓e_land, ↓e_lor, ↓e_idiv, ↓e_irem, ↓e_ldiv, ↓e_lrem, ↓e_lshl, ↓e_lcmp, ↓e_i2l, ↓e_l2i, ↓e_i2b, ↓e_i2s, ↓e_dup_int, ↓e_pop_int, ↓e_dup_ref, ↓e_pop_ref, ↓e_dup2, ↓e_goto, ↓e_nop, ↓e_ifCond_eq, ↓e_if_icmp_eq, ↓e_ifCond_ne, ↓e_if_icmp_ne, ↓e_ifCond_lt, ↓e_if_icmp_lt, ↓e_ifCond_ge, ↓e_if_icmp_ge, ↓e_ifCond_gt, ↓e_if_icmp_gt, ↓e_ifCond_le, ↓e_if_icmp_le, ↓e_tab, ↓e_look, ↓e_get0, ↓e_get1, ↓e_get2, ↓e_get3, ↓e_put0, ↓e_put1, ↓e_put2, ↓e_put3, ↓e_iaload, ↓e_laload, ↓e_baload, ↓e_aaload, ↓e_iastore, ↓e_lastore, ↓e_bastore, ↓e_aastore, ↓e_alen, ↓e_new, ↓e_newarray, ↓e_anewarray, ↓e_objinit, ↓e_virt1, ↓e_virt2, ↓e_virt3, ↓e_virt4, ↓e_virt5, ↓e_virt6, ↓e_virt7, ↓e_stat0, ↓e_stat1, ↓e_stat2, ↓e_stat3, ↓e_stat4, ↓e_stat5, ↓e_stat6, ↓e_stat7, ↓e_spec1, ↓e_spec2, ↓e_spec3, ↓e_spec4, ↓e_spec5, ↓e_strlen, ↓e_charAt, ↓e_copy, ↓e_iret0, ↓e_iret1, ↓e_lret, ↓e_aret, ↓e_vret, zIsI_int, zIsL_long, zIsA_ref, zInt_int, true_and, and_true, ↓reduceIte, zGet, zSet, zSet2, zEnt, zWid, Value.category, List.map_cons, List.map_nil, List.sum_cons, List.sum_nil, List.replicate, Option.toList, Nat.reduceAdd, Nat.reduceSub, Nat.reduceMul, Nat.reduceLeDiff, Nat.reduceEqDiff, Nat.reduceLT, List.cons_append, List.nil_append, true_or, or_true, or_false, false_or, nI_ltI, nI_leI, nI_eq, nI_clamp, zIn_nI, bI_0, nI_add, nI_mul, nI_or, nI_and, nI_shl1, nI_bit, ↓pk_rem, pk_div, Nat.lt_irrefl, Nat.not_lt_zero, reduceCtorEq, B.k, B.r4, B.r5, B.r6, B.r7, B.r8, B.r9, B.r10, B.r12, B.r13, B.k104, B.k105, B.k106, B.k107, B.k108, B.k109, B.k110, B.k111, B.k112, S.m2, sK_setI, sR_setI, sL_setI, n0, n8, not_false_eq_true, Nat.zero_add, Nat.le_refl, cpI_A, and_self]
  | succ m ih =>
    intro k t l s L x σ hk S ht hL hb hl hs R
    have hkN : k < A.N := by omega
    have hk8 : k < 8 := by omega
    have B := S.b
    have c16 := cfs16 O (k := k + 1) (by omega)
    have cc := S.c (k + 1) (by omega)
    have uu := S.u (cfs A.wBe A.N (k + 1)) (by omega)
    have ub := u_le hf (cfs A.wBe A.N (k + 1))
    generalize hU : sm (cfs A.wBe A.N (k + 1)) (fun i => f (i + 1)) = U at *
    have c29 : cfs A.wBe A.N (k + 1) < 29 := by omega
    have k9 : k + 1 < 9 := by omega
    obtain ⟨ru, ra⟩ := S.rw k hkN
    have up : ∀ i, A.rkS (A.cc k) 0 = some i → i < k := fun i h => rkS_lt O hkN (by decide) h
    have le : ∀ i, A.rkS (A.cc k) 1 = some i → i < k := fun i h => rkS_lt O hkN (by decide) h
    have up31 : ∀ i, A.rkS (A.cc k) 0 = some i → i < 2 ^ 31 := fun i h => by have := up i h; omega
    have le31 : ∀ i, A.rkS (A.cc k) 1 = some i → i < 2 ^ 31 := fun i h => by have := le i h; omega
    have ga := fun p => gAd_be O hkN A.like t p
    generalize ho : A.rkS (A.cc k) 0 = ou at *
    generalize hq : A.rkS (A.cc k) 1 = ol at *
    obtain ⟨⟨τ2, y2, j2⟩, ⟨g1, g2, g3, g4⟩, e2⟩ := zloop (fun (p : Nat) (z : MS × (Nat × (Nat → Nat)) × Value) => FB qLf σ z.1 ∧ (∀ i, i < k → sI z.1 109 i = sI σ 109 i) ∧ LfR A b0 z.1 z.2.1 ∧ z.2.1 = zfor (fun p a => if l p = true then (if a.1 < s + gAd A.wBe A.like k t p + U + 1 then srP (gAd A.wBe A.like) (fun k => sm (cfs A.wBe A.N k) (fun i => f (i + 1))) m (k + 1) (upF t k p) (fun q => l q && !(q == p)) (s + gAd A.wBe A.like k t p) a else a) else a) p x) (P := fun p z K => zX (d + m + 3) 8 51 [.ref 103, .int (nI k), .int (nI L), .int (nI s), .int (nI U), .int (nI p), z.2.2] [] z.1 K) (n := 8) (fun p z hp hI => by
      obtain ⟨τ, y, jv⟩ := z
      dsimp only at hI ⊢
      obtain ⟨i1, i2, i3, i4⟩ := hI
      have S2 := S.fb i1
      have B2 := S2.b
      have bp := hb p hp
      cases hlp : l p with
      | false =>
        refine ⟨(τ, y, jv), ⟨i1, i2, i3, ?_⟩, ?_⟩
        · show y = zfor _ (p + 1) x
          rw [zfor_s, ← i4, hlp, if_neg Bool.false_ne_true]
        · rw [hlp] at bp
          funext K
          rw [L_8_51, zt_8_51]
          simp (disch := omega) only [L_8_136, zt_8_136, ↓e_iconst0, ↓e_iconst1, ↓e_bipush0, ↓e_bipush1, ↓e_sipush0, ↓e_sipush1, ↓e_ldc0, ↓e_ldc1, ↓e_ldc_w0, ↓e_ldc_w1, ↓e_ldc2, ↓e_lconst0, ↓e_lconst1, ↓e_ldc2_w0, ↓e_ldc2_w1, ↓e_iload, ↓e_iload_n, ↓e_istore, ↓e_istore_n, ↓e_lload, ↓e_lload_n, ↓e_lstore, ↓e_lstore_n, ↓e_aload, ↓e_aload_n, ↓e_astore, ↓e_astore_n, ↓e_iinc0, ↓e_iinc1, ↓e_iadd, ↓e_isub, ↓e_imul, ↓e_iand, ↓e_ior, ↓e_ixor, ↓e_ishl, ↓e_ishr, ↓e_iushr, ↓e_ladd, ↓e_lsub, ↓e_lmul, ↓e_land, ↓e_lor, ↓e_idiv, ↓e_irem, ↓e_ldiv, ↓e_lrem, ↓e_lshl, ↓e_lcmp, ↓e_i2l, ↓e_l2i, ↓e_i2b, ↓e_i2s, ↓e_dup_int, ↓e_pop_int, ↓e_dup_ref, ↓e_pop_ref, ↓e_dup2, ↓e_goto, ↓e_nop, ↓e_ifCond_eq, ↓e_if_icmp_eq, ↓e_ifCond_ne, ↓e_if_icmp_ne, ↓e_ifCond_lt, ↓e_if_icmp_lt, ↓e_ifCond_ge, ↓e_if_icmp_ge, ↓e_ifCond_gt, ↓e_if_icmp_gt, ↓e_ifCond_le, ↓e_if_icmp_le, ↓e_tab, ↓e_look, ↓e_get0, ↓e_get1, ↓e_get2, ↓e_get3, ↓e_put0, ↓e_put1, ↓e_put2, ↓e_put3, ↓e_iaload, ↓e_laload, ↓e_baload, ↓e_aaload, ↓e_iastore, ↓e_lastore, ↓e_bastore, ↓e_aastore, ↓e_alen, ↓e_new, ↓e_newarray, ↓e_anewarray, ↓e_objinit, ↓e_virt1, ↓e_virt2, ↓e_virt3, ↓e_virt4, ↓e_virt5, ↓e_virt6, ↓e_virt7, ↓e_stat0, ↓e_stat1, ↓e_stat2, ↓e_stat3, ↓e_stat4, ↓e_stat5, ↓e_stat6, ↓e_stat7, ↓e_spec1, ↓e_spec2, ↓e_spec3, ↓e_spec4, ↓e_spec5, ↓e_strlen, ↓e_charAt, ↓e_copy, ↓e_iret0, ↓e_iret1, ↓e_lret, ↓e_aret, ↓e_vret, zIsI_int, zIsL_long, zIsA_ref, zInt_int, true_and, and_true, ↓reduceIte, zGet, zSet, zSet2, zEnt, zWid, Value.category, List.map_cons, List.map_nil, List.sum_cons, List.sum_nil, List.replicate, Option.toList, Nat.reduceAdd, Nat.reduceSub, Nat.reduceMul, Nat.reduceLeDiff, Nat.reduceEqDiff, Nat.reduceLT, List.cons_append, List.nil_append, true_or, or_true, or_false, false_or, nI_ltI, nI_leI, nI_eq, nI_clamp, zIn_nI, bI_0, nI_add, nI_mul, nI_or, nI_and, nI_shl1, nI_bit, ↓pk_rem, pk_div, Nat.lt_irrefl, Nat.not_lt_zero, reduceCtorEq, hp, bp]
      | true =>
        rw [hlp] at bp
        have hpn := hl p hlp
        have gl : gAd A.wBe A.like k t p ≤ 144 := by
          rw [ga p]
          have a1 := om_le (o := ou) (g := fun i => A.like (t i) p) (V := 72) (fun i _ => like72 O _ _)
          have a2 := om_le (o := ol) (g := fun i => A.like (t i) p) (V := 72) (fun i _ => like72 O _ _)
          omega
        have tt : ∀ i, i < k → sI τ 109 i = nI (t i) ∧ t i < A.np := fun i hi => ⟨(i2 i hi).trans (ht i hi).1, (ht i hi).2⟩
        have lu := fun (K : Option Value → MS → Prop) => c_likeTried (d := d + m + 2) (K := K) B2 O hpn S2.al ou t (fun i hi => ⟨by have := up i hi; omega, tt i (up i hi)⟩)
        have ll := fun (K : Option Value → MS → Prop) => c_likeTried (d := d + m + 2) (K := K) B2 O hpn S2.al ol t (fun i hi => ⟨by have := le i hi; omega, tt i (le i hi)⟩)
        obtain ⟨ru2, ra2⟩ := S2.rw k hkN
        rw [ho] at ru2
        rw [hq] at ra2
        have ge : s + om ou (fun i => A.like (t i) p) + om ol (fun i => A.like (t i) p) = s + gAd A.wBe A.like k t p := by rw [ga p, Nat.add_assoc]
        obtain ⟨r1, r2, r3⟩ := i3
        have cmp : (nI y.1 - nI 1 < nI (s + gAd A.wBe A.like k t p + U)) = (y.1 < s + gAd A.wBe A.like k t p + U + 1) := nIm1_lt (by omega) (by omega)
        by_cases hc : y.1 < s + gAd A.wBe A.like k t p + U + 1
        · have f3 : FB qLf τ (setI τ 109 k (nI p)) := FB.rf.i (by omega) (.inr (.inl rfl))
          have tk : ∀ i, i < k + 1 → sI (setI τ 109 k (nI p)) 109 i = nI (upF t k p i) ∧ upF t k p i < A.np := fun i hi => by
            rw [sI_setI]
            by_cases h : i = k
            · rw [if_pos ⟨rfl, h⟩, h, upF_s]; exact ⟨rfl, hpn⟩
            · rw [if_neg (fun w => h w.2), upF_n _ _ h]; exact tt i (by omega)
          obtain ⟨ρ, q1, q2, q3, q4⟩ := ih (k + 1) (upF t k p) (fun q => l q && !(q == p)) (s + gAd A.wBe A.like k t p) (L &&& (255 - 2 ^ p)) y (setI τ 109 k (nI p)) (by omega) (S2.fb f3) tk (Nat.lt_of_le_of_lt Nat.and_le_left hL) (fun q hq => by rw [bit_out hL hq hp, hb q hq]) (fun q hq => by
            rw [Bool.and_eq_true] at hq
            exact hl q hq.1) (by omega) (by
            obtain ⟨z1, z2⟩ := f3.2
            refine ⟨by rw [sI_setI, if_neg (by omega)]; exact r1, r2, ?_⟩
            rcases r3 with r3 | r3
            · exact .inl r3
            · exact .inr (fun i hi => by rw [sI_setI, if_neg (by omega)]; exact r3 i hi))
          have p256 := pow256 hp
          refine ⟨(ρ, srP (gAd A.wBe A.like) (fun k => sm (cfs A.wBe A.N k) (fun i => f (i + 1))) m (k + 1) (upF t k p) (fun q => l q && !(q == p)) (s + gAd A.wBe A.like k t p) y, .int (nI (s + gAd A.wBe A.like k t p))), ⟨(i1.tr f3).tr q1, fun i hi => ?_, q3, ?_⟩, ?_⟩
          · rw [q2 i (by omega), sI_setI, if_neg (by omega)]
            exact i2 i hi
          · show _ = zfor _ (p + 1) x
            rw [zfor_s, ← i4, hlp, if_pos rfl, if_pos hc]
          · funext K
            rw [L_8_51, zt_8_51]
            have kk : sK (setI τ 109 k (nI p)) 103 = (0, 0) := B2.k
            simp (disch := omega) only [L_8_70, zt_8_70, L_8_136, zt_8_136, ↓e_iconst0, ↓e_iconst1, ↓e_bipush0, ↓e_bipush1, ↓e_sipush0, ↓e_sipush1, ↓e_ldc0, ↓e_ldc1, ↓e_ldc_w0, ↓e_ldc_w1, ↓e_ldc2, ↓e_lconst0, ↓e_lconst1, ↓e_ldc2_w0, ↓e_ldc2_w1, ↓e_iload, ↓e_iload_n, ↓e_istore, ↓e_istore_n, ↓e_lload, ↓e_lload_n, ↓e_lstore, ↓e_lstore_n, ↓e_aload, ↓e_aload_n, ↓e_astore, ↓e_astore_n, ↓e_iinc0, ↓e_iinc1, ↓e_iadd, ↓e_isub, ↓e_imul, ↓e_iand, ↓e_ior, ↓e_ixor, ↓e_ishl, ↓e_ishr, ↓e_iushr, ↓e_ladd, ↓e_lsub, ↓e_lmul, ↓e_land, ↓e_lor, ↓e_idiv, ↓e_irem, ↓e_ldiv, ↓e_lrem, ↓e_lshl, ↓e_lcmp, ↓e_i2l, ↓e_l2i, ↓e_i2b, ↓e_i2s, ↓e_dup_int, ↓e_pop_int, ↓e_dup_ref, ↓e_pop_ref, ↓e_dup2, ↓e_goto, ↓e_nop, ↓e_ifCond_eq, ↓e_if_icmp_eq, ↓e_ifCond_ne, ↓e_if_icmp_ne, ↓e_ifCond_lt, ↓e_if_icmp_lt, ↓e_ifCond_ge, ↓e_if_icmp_ge, ↓e_ifCond_gt, ↓e_if_icmp_gt, ↓e_ifCond_le, ↓e_if_icmp_le, ↓e_tab, ↓e_look, ↓e_get0, ↓e_get1, ↓e_get2, ↓e_get3, ↓e_put0, ↓e_put1, ↓e_put2, ↓e_put3, ↓e_iaload, ↓e_laload, ↓e_baload, ↓e_aaload, ↓e_iastore, ↓e_lastore, ↓e_bastore, ↓e_aastore, ↓e_alen, ↓e_new, ↓e_newarray, ↓e_anewarray, ↓e_objinit, ↓e_virt1, ↓e_virt2, ↓e_virt3, ↓e_virt4, ↓e_virt5, ↓e_virt6, ↓e_virt7, ↓e_stat0, ↓e_stat1, ↓e_stat2, ↓e_stat3, ↓e_stat4, ↓e_stat5, ↓e_stat6, ↓e_stat7, ↓e_spec1, ↓e_spec2, ↓e_spec3, ↓e_spec4, ↓e_spec5, ↓e_strlen, ↓e_charAt, ↓e_copy, ↓e_iret0, ↓e_iret1, ↓e_lret, ↓e_aret, ↓e_vret, zIsI_int, zIsL_long, zIsA_ref, zInt_int, true_and, and_true, ↓reduceIte, zGet, zSet, zSet2, zEnt, zWid, Value.category, List.map_cons, List.map_nil, List.sum_cons, List.sum_nil, List.replicate, Option.toList, Nat.reduceAdd, Nat.reduceSub, Nat.reduceMul, Nat.reduceLeDiff, Nat.reduceEqDiff, Nat.reduceLT, List.cons_append, List.nil_append, true_or, or_true, or_false, false_or, nI_ltI, nI_leI, nI_eq, nI_clamp, zIn_nI, bI_0, nI_add, nI_mul, nI_or, nI_and, nI_shl1, nI_bit, ↓pk_rem, pk_div, Nat.lt_irrefl, Nat.not_lt_zero, reduceCtorEq, B2.k, B2.r4, B2.r5, B2.r6, B2.r7, B2.r8, B2.r9, B2.r10, B2.r12, B2.r13, B2.k104, B2.k105, B2.k106, B2.k107, B2.k108, B2.k109, B2.k110, B2.k111, B2.k112, hp, bp, ru2, ra2, ↓lu, ↓ll, ge, r1, cmp, hc, hk8, nI_not _ p256 hL, kk, ↓q4]
        · refine ⟨(τ, y, .int (nI (s + gAd A.wBe A.like k t p))), ⟨i1, i2, ⟨r1, r2, r3⟩, ?_⟩, ?_⟩
          · show y = zfor _ (p + 1) x
            rw [zfor_s, ← i4, hlp, if_pos rfl, if_neg hc]
          · funext K
            rw [L_8_51, zt_8_51]
            simp (disch := omega) only [L_8_70, zt_8_70, L_8_136, zt_8_136, ↓e_iconst0, ↓e_iconst1, ↓e_bipush0, ↓e_bipush1, ↓e_sipush0, ↓e_sipush1, ↓e_ldc0, ↓e_ldc1, ↓e_ldc_w0, ↓e_ldc_w1, ↓e_ldc2, ↓e_lconst0, ↓e_lconst1, ↓e_ldc2_w0, ↓e_ldc2_w1, ↓e_iload, ↓e_iload_n, ↓e_istore, ↓e_istore_n, ↓e_lload, ↓e_lload_n, ↓e_lstore, ↓e_lstore_n, ↓e_aload, ↓e_aload_n, ↓e_astore, ↓e_astore_n, ↓e_iinc0, ↓e_iinc1, ↓e_iadd, ↓e_isub, ↓e_imul, ↓e_iand, ↓e_ior, ↓e_ixor, ↓e_ishl, ↓e_ishr, ↓e_iushr, ↓e_ladd, ↓e_lsub, ↓e_lmul, ↓e_land, ↓e_lor, ↓e_idiv, ↓e_irem, ↓e_ldiv, ↓e_lrem, ↓e_lshl, ↓e_lcmp, ↓e_i2l, ↓e_l2i, ↓e_i2b, ↓e_i2s, ↓e_dup_int, ↓e_pop_int, ↓e_dup_ref, ↓e_pop_ref, ↓e_dup2, ↓e_goto, ↓e_nop, ↓e_ifCond_eq, ↓e_if_icmp_eq, ↓e_ifCond_ne, ↓e_if_icmp_ne, ↓e_ifCond_lt, ↓e_if_icmp_lt, ↓e_ifCond_ge, ↓e_if_icmp_ge, ↓e_ifCond_gt, ↓e_if_icmp_gt, ↓e_ifCond_le, ↓e_if_icmp_le, ↓e_tab, ↓e_look, ↓e_get0, ↓e_get1, ↓e_get2, ↓e_get3, ↓e_put0, ↓e_put1, ↓e_put2, ↓e_put3, ↓e_iaload, ↓e_laload, ↓e_baload, ↓e_aaload, ↓e_iastore, ↓e_lastore, ↓e_bastore, ↓e_aastore, ↓e_alen, ↓e_new, ↓e_newarray, ↓e_anewarray, ↓e_objinit, ↓e_virt1, ↓e_virt2, ↓e_virt3, ↓e_virt4, ↓e_virt5, ↓e_virt6, ↓e_virt7, ↓e_stat0, ↓e_stat1, ↓e_stat2, ↓e_stat3, ↓e_stat4, ↓e_stat5, ↓e_stat6, ↓e_stat7, ↓e_spec1, ↓e_spec2, ↓e_spec3, ↓e_spec4, ↓e_spec5, ↓e_strlen, ↓e_charAt, ↓e_copy, ↓e_iret0, ↓e_iret1, ↓e_lret, ↓e_aret, ↓e_vret, zIsI_int, zIsL_long, zIsA_ref, zInt_int, true_and, and_true, ↓reduceIte, zGet, zSet, zSet2, zEnt, zWid, Value.category, List.map_cons, List.map_nil, List.sum_cons, List.sum_nil, List.replicate, Option.toList, Nat.reduceAdd, Nat.reduceSub, Nat.reduceMul, Nat.reduceLeDiff, Nat.reduceEqDiff, Nat.reduceLT, List.cons_append, List.nil_append, true_or, or_true, or_false, false_or, nI_ltI, nI_leI, nI_eq, nI_clamp, zIn_nI, bI_0, nI_add, nI_mul, nI_or, nI_and, nI_shl1, nI_bit, ↓pk_rem, pk_div, Nat.lt_irrefl, Nat.not_lt_zero, reduceCtorEq, B2.k, B2.r4, B2.r5, B2.r6, B2.r7, B2.r8, B2.r9, B2.r10, B2.r12, B2.r13, B2.k104, B2.k105, B2.k106, B2.k107, B2.k108, B2.k109, B2.k110, B2.k111, B2.k112, hp, bp, ru2, ra2, hk8, ↓lu, ↓ll, ge, r1, cmp, hc]) (σ, x, .null) ⟨FB.rf, fun _ _ => rfl, R, rfl⟩
    dsimp only at g1 g2 g3 g4 e2
    refine ⟨τ2, g1, g2, ?_, fun K => ?_⟩
    · rw [g4] at g3
      have e : srP (gAd A.wBe A.like) (fun k => sm (cfs A.wBe A.N k) (fun i => f (i + 1))) (m + 1) k t l s x = zfor (fun p a => if l p = true then (if a.1 < s + gAd A.wBe A.like k t p + U + 1 then srP (gAd A.wBe A.like) (fun k => sm (cfs A.wBe A.N k) (fun i => f (i + 1))) m (k + 1) (upF t k p) (fun q => l q && !(q == p)) (s + gAd A.wBe A.like k t p) a else a) else a) 8 x := by
        rw [← hU]
        rfl
      rw [e]
      exact g3
    · have hd : d + (m + 1) + 3 = d + m + 3 + 1 := by omega
      have mf := fun (K : Option Value → MS → Prop) => c_mostFrom (d := d + m + 1) (K := K) B (k := k + 1) (by omega) (by omega) cc uu
      rw [hd, E_8]
      simp (disch := omega) only [L_8_0, zt_8_0, L_8_39, zt_8_39, ↓e_iconst0, ↓e_iconst1, ↓e_bipush0, ↓e_bipush1, ↓e_sipush0, ↓e_sipush1, ↓e_ldc0, ↓e_ldc1, ↓e_ldc_w0, ↓e_ldc_w1, ↓e_ldc2, ↓e_lconst0, ↓e_lconst1, ↓e_ldc2_w0, ↓e_ldc2_w1, ↓e_iload, ↓e_iload_n, ↓e_istore, ↓e_istore_n, ↓e_lload, ↓e_lload_n, ↓e_lstore, ↓e_lstore_n, ↓e_aload, ↓e_aload_n, ↓e_astore, ↓e_astore_n, ↓e_iinc0, ↓e_iinc1, ↓e_iadd, ↓e_isub, ↓e_imul, ↓e_iand, ↓e_ior, ↓e_ixor, ↓e_ishl, ↓e_ishr, ↓e_iushr, ↓e_ladd, ↓e_lsub, ↓e_lmul, ↓e_land, ↓e_lor, ↓e_idiv, ↓e_irem, ↓e_ldiv, ↓e_lrem, ↓e_lshl, ↓e_lcmp, ↓e_i2l, ↓e_l2i, ↓e_i2b, ↓e_i2s, ↓e_dup_int, ↓e_pop_int, ↓e_dup_ref, ↓e_pop_ref, ↓e_dup2, ↓e_goto, ↓e_nop, ↓e_ifCond_eq, ↓e_if_icmp_eq, ↓e_ifCond_ne, ↓e_if_icmp_ne, ↓e_ifCond_lt, ↓e_if_icmp_lt, ↓e_ifCond_ge, ↓e_if_icmp_ge, ↓e_ifCond_gt, ↓e_if_icmp_gt, ↓e_ifCond_le, ↓e_if_icmp_le, ↓e_tab, ↓e_look, ↓e_get0, ↓e_get1, ↓e_get2, ↓e_get3, ↓e_put0, ↓e_put1, ↓e_put2, ↓e_put3, ↓e_iaload, ↓e_laload, ↓e_baload, ↓e_aaload, ↓e_iastore, ↓e_lastore, ↓e_bastore, ↓e_aastore, ↓e_alen, ↓e_new, ↓e_newarray, ↓e_anewarray, ↓e_objinit, ↓e_virt1, ↓e_virt2, ↓e_virt3, ↓e_virt4, ↓e_virt5, ↓e_virt6, ↓e_virt7, ↓e_stat0, ↓e_stat1, ↓e_stat2, ↓e_stat3, ↓e_stat4, ↓e_stat5, ↓e_stat6, ↓e_stat7, ↓e_spec1, ↓e_spec2, ↓e_spec3, ↓e_spec4, ↓e_spec5, ↓e_strlen, ↓e_charAt, ↓e_copy, ↓e_iret0, ↓e_iret1, ↓e_lret, ↓e_aret, ↓e_vret, zIsI_int, zIsL_long, zIsA_ref, zInt_int, true_and, and_true, ↓reduceIte, zGet, zSet, zSet2, zEnt, zWid, Value.category, List.map_cons, List.map_nil, List.sum_cons, List.sum_nil, List.replicate, Option.toList, Nat.reduceAdd, Nat.reduceSub, Nat.reduceMul, Nat.reduceLeDiff, Nat.reduceEqDiff, Nat.reduceLT, List.cons_append, List.nil_append, true_or, or_true, or_false, false_or, nI_ltI, nI_leI, nI_eq, nI_clamp, zIn_nI, bI_0, nI_add, nI_mul, nI_or, nI_and, nI_shl1, nI_bit, ↓pk_rem, pk_div, Nat.lt_irrefl, Nat.not_lt_zero, reduceCtorEq, S.b.k, S.m2, hkN, hk8, ↓mf]
      refine Eq.trans (congrFun e2 K) ?_
      rw [L_8_51, zt_8_51]
      simp (disch := omega) only [L_8_142, zt_8_142, ↓e_iconst0, ↓e_iconst1, ↓e_bipush0, ↓e_bipush1, ↓e_sipush0, ↓e_sipush1, ↓e_ldc0, ↓e_ldc1, ↓e_ldc_w0, ↓e_ldc_w1, ↓e_ldc2, ↓e_lconst0, ↓e_lconst1, ↓e_ldc2_w0, ↓e_ldc2_w1, ↓e_iload, ↓e_iload_n, ↓e_istore, ↓e_istore_n, ↓e_lload, ↓e_lload_n, ↓e_lstore, ↓e_lstore_n, ↓e_aload, ↓e_aload_n, ↓e_astore, ↓e_astore_n, ↓e_iinc0, ↓e_iinc1, ↓e_iadd, ↓e_isub, ↓e_imul, ↓e_iand, ↓e_ior, ↓e_ixor, ↓e_ishl, ↓e_ishr, ↓e_iushr, ↓e_ladd, ↓e_lsub, ↓e_lmul, ↓e_land, ↓e_lor, ↓e_idiv, ↓e_irem, ↓e_ldiv, ↓e_lrem, ↓e_lshl, ↓e_lcmp, ↓e_i2l, ↓e_l2i, ↓e_i2b, ↓e_i2s, ↓e_dup_int, ↓e_pop_int, ↓e_dup_ref, ↓e_pop_ref, ↓e_dup2, ↓e_goto, ↓e_nop, ↓e_ifCond_eq, ↓e_if_icmp_eq, ↓e_ifCond_ne, ↓e_if_icmp_ne, ↓e_ifCond_lt, ↓e_if_icmp_lt, ↓e_ifCond_ge, ↓e_if_icmp_ge, ↓e_ifCond_gt, ↓e_if_icmp_gt, ↓e_ifCond_le, ↓e_if_icmp_le, ↓e_tab, ↓e_look, ↓e_get0, ↓e_get1, ↓e_get2, ↓e_get3, ↓e_put0, ↓e_put1, ↓e_put2, ↓e_put3, ↓e_iaload, ↓e_laload, ↓e_baload, ↓e_aaload, ↓e_iastore, ↓e_lastore, ↓e_bastore, ↓e_aastore, ↓e_alen, ↓e_new, ↓e_newarray, ↓e_anewarray, ↓e_objinit, ↓e_virt1, ↓e_virt2, ↓e_virt3, ↓e_virt4, ↓e_virt5, ↓e_virt6, ↓e_virt7, ↓e_stat0, ↓e_stat1, ↓e_stat2, ↓e_stat3, ↓e_stat4, ↓e_stat5, ↓e_stat6, ↓e_stat7, ↓e_spec1, ↓e_spec2, ↓e_spec3, ↓e_spec4, ↓e_spec5, ↓e_strlen, ↓e_charAt, ↓e_copy, ↓e_iret0, ↓e_iret1, ↓e_lret, ↓e_aret, ↓e_vret, zIsI_int, zIsL_long, zIsA_ref, zInt_int, true_and, and_true, ↓reduceIte, zGet, zSet, zSet2, zEnt, zWid, Value.category, List.map_cons, List.map_nil, List.sum_cons, List.sum_nil, List.replicate, Option.toList, Nat.reduceAdd, Nat.reduceSub, Nat.reduceMul, Nat.reduceLeDiff, Nat.reduceEqDiff, Nat.reduceLT, List.cons_append, List.nil_append, true_or, or_true, or_false, false_or, nI_ltI, nI_leI, nI_eq, nI_clamp, zIn_nI, bI_0, nI_add, nI_mul, nI_or, nI_and, nI_shl1, nI_bit, ↓pk_rem, pk_div, Nat.lt_irrefl, Nat.not_lt_zero, reduceCtorEq]
end LFX
