/-! THE CLASS LIVES: all steps -/
section LX4
variable {d : Nat} {σ τ ρ : MS} {x a u np nc wi hi : Nat} {D : Dy} {s : Lf} {K : Option Value → MS → Prop}
/-- what a step does, once it is counted -/
def stL {α : Type} (g : α → Lf → Lf) (y : Op × Option α) (s : Lf) : Lf := match y.2 with
  | none => doL y.1 s
  | some I => if y.1.1 = 19 then itn (g I) (y.1.2.1.getD 0) s else if hold y.1 s.1 = true then g I s else s
theorem itn_ok {f : Lf → Lf} (F : ∀ s, LOk np nc wi hi s → LOk np nc wi hi (f s)) : ∀ n s, LOk np nc wi hi s → LOk np nc wi hi (itn f n s) := by
  intro n
  induction n with
  | zero => intro s h; exact h
  | succ n ih => intro s h; exact ih _ (F s h)
theorem stL_ok {α : Type} {g : α → Nat → Nat → Nat → Nat → Prop} {f : α → Lf → Lf} (G : ∀ I i j r t, g I i j r t → ∀ s, LOk np nc wi hi s → LOk np nc wi hi (f I s)) {y : Op × Option α} {i j r t : Nat} (h : itm g (OpV np nc (wi * hi)) D y i j r t) (L : LOk np nc wi hi s) : LOk np nc wi hi (stL f y s) := by
  obtain ⟨h1, h2, h⟩ := h
  unfold stL
  cases hy : y.2 with
  | none =>
    rw [hy] at h
    exact L.doL h1 h.2.2.2
  | some I =>
    rw [hy] at h
    obtain ⟨t, -, -, h3, -⟩ := h
    dsimp only
    split
    · exact itn_ok (G I _ _ _ _ h3) _ _ L
    · split
      · exact G I _ _ _ _ h3 _ L
      · exact L
theorem itL_st {α : Type} (g : α → Lf → Lf) (y : Op × Option α) (h1 : s.2.2.2.2.1 = false) (h2 : s.2.1 < 300) : itL g y s = stL g y s.st := by
  unfold itL
  rw [if_neg (by rw [h1]; exact Bool.false_ne_true), if_neg (by omega)]
  rfl
theorem itL_ct {α : Type} (g : α → Lf → Lf) (y : Op × Option α) (h1 : s.2.2.2.2.1 = false) (h2 : ¬ s.2.1 < 300) : itL g y s = s.ct := by
  unfold itL
  rw [if_neg (by rw [h1]; exact Bool.false_ne_true), if_pos (by omega)]
theorem itL_ok {α : Type} {g : α → Nat → Nat → Nat → Nat → Prop} {f : α → Lf → Lf} (G : ∀ I i j r t, g I i j r t → ∀ s, LOk np nc wi hi s → LOk np nc wi hi (f I s)) {y : Op × Option α} {i j r t : Nat} (h : itm g (OpV np nc (wi * hi)) D y i j r t) (L : LOk np nc wi hi s) : LOk np nc wi hi (itL f y s) := by
  cases h1 : s.2.2.2.2.1 with
  | true => unfold itL; rw [if_pos h1]; exact L
  | false =>
    by_cases h2 : s.2.1 < 300
    · rw [itL_st f y h1 h2]; exact stL_ok G h (L.st h2)
    · rw [itL_ct f y h1 h2]; exact L.ct
theorem runL_ok {α : Type} {g : α → Nat → Nat → Nat → Nat → Prop} {f : α → Lf → Lf} (G : ∀ I i j r t, g I i j r t → ∀ s, LOk np nc wi hi s → LOk np nc wi hi (f I s)) : ∀ (l : List (Op × Option α)) {i j r t : Nat} (s : Lf), layL g (OpV np nc (wi * hi)) D l i j r t → LOk np nc wi hi s → LOk np nc wi hi (runL f l s) := by
  intro l
  induction l with
  | nil => intro i j r t s h L; exact L
  | cons y l ih =>
    intro i j r t s h L
    obtain ⟨e, q, h1, h2⟩ := h
    exact ih _ h2 (itL_ok G h1 L)
theorem run_ok : ∀ (n : Nat) (P : Pg n) {i j r t : Nat} (s : Lf), Lay (OpV np nc (wi * hi)) D n P i j r t → LOk np nc wi hi s → LOk np nc wi hi (run n P s) := by
  intro n
  induction n with
  | zero => intro P i j r t s h L; exact L
  | succ n ih => intro P i j r t s h L; exact runL_ok (fun I i j r t h s L => ih I s h L) P s h L
theorem LOk.V (L : LOk np nc wi hi s) {o : Op} (V : OpV np nc (wi * hi) o) : OpV s.1.np s.1.nc (s.1.wide * s.1.high) o := by
  rw [L.2.1, L.2.2.1, L.2.2.2.1, L.2.2.2.2.1]
  exact V
/-- what is asked of the steps in between -/
def CTh (d x a u np nc wi hi dp : Nat) (D : Dy) (i j : Nat) (f : Lf → Lf) : Prop := ∀ σ s, RLf σ x a u D s → LOk np nc wi hi s → ∃ τ, FLf a x σ τ ∧ RLf τ x a u D (f s) ∧ ∀ K, zC d 32 [.ref x, .int (nI i), .int (nI j), .int (nI dp)] σ K = K none τ
theorem c_loop {f : Lf → Lf} {i j dp v : Nat} (F : CTh d x a u np nc wi hi (dp + 1) D (i + 1) j f) (Fo : ∀ s : Lf, s.2.2.2.2.1 = true → f s = s) (Fk : ∀ s, LOk np nc wi hi s → LOk np nc wi hi (f s)) (hI : i < D.1) (hD : D.1 ≤ 30) (hv : v ≤ 99) (hj : (D.2.2.1 i).2.2.2 = j) (b : Int32) : ∀ (m k : Nat) (σ : MS) (s : Lf), k + m = v → RLf σ x a u D s → LOk np nc wi hi s → ∃ τ, FLf a x σ τ ∧ RLf τ x a u D (itn f m s) ∧ ∀ K, zX d 33 103 [.ref x, .int (nI i), .int (nI dp), .int (nI v), .int b, .int (nI 1), .int (nI k)] [] σ K = K none τ := by
  intro m
  have i30 : i < 30 := by omega
  induction m with
  | zero =>
    intro k σ s hk L O
    refine ⟨σ, FLf.rf, L, fun K => ?_⟩
    have e := fun v1 v2 v3 v4 v6 (K : Option Value → MS → Prop) => g_end (d := d) (K := K) L true v1 v2 v3 v4 v6
    rw [if_pos rfl] at e
    rw [L_33_103, zt_33_103]
    simp (disch := omega) only [L_33_148, zt_33_148, ↓e_iconst0, ↓e_iconst1, ↓e_bipush0, ↓e_bipush1, ↓e_sipush0, ↓e_sipush1, ↓e_ldc0, ↓e_ldc1, ↓e_ldc_w0, ↓e_ldc_w1, ↓e_ldc2, ↓e_lconst0, ↓e_lconst1, ↓e_ldc2_w0, ↓e_ldc2_w1, ↓e_iload, ↓e_iload_n, ↓e_istore, ↓e_istore_n, ↓e_lload, ↓e_lload_n, ↓e_lstore, ↓e_lstore_n, ↓e_aload, ↓e_aload_n, ↓e_astore, ↓e_astore_n, ↓e_iinc0, ↓e_iinc1, ↓e_iadd, ↓e_isub, ↓e_imul, ↓e_iand, ↓e_ior, ↓e_ixor, ↓e_ishl, ↓e_ishr, ↓e_iushr, ↓e_ladd, ↓e_lsub, ↓e_lmul, ↓e_land, ↓e_lor, ↓e_idiv, ↓e_irem, ↓e_ldiv, ↓e_lrem, ↓e_lshl, ↓e_lcmp, ↓e_i2l, ↓e_l2i, ↓e_i2b, ↓e_i2s, ↓e_dup_int, ↓e_pop_int, ↓e_dup_ref, ↓e_pop_ref, ↓e_dup2, ↓e_goto, ↓e_nop, ↓e_ifCond_eq, ↓e_if_icmp_eq, ↓e_ifCond_ne, ↓e_if_icmp_ne, ↓e_ifCond_lt, ↓e_if_icmp_lt, ↓e_ifCond_ge, ↓e_if_icmp_ge, ↓e_ifCond_gt, ↓e_if_icmp_gt, ↓e_ifCond_le, ↓e_if_icmp_le, ↓e_tab, ↓e_look, ↓e_get0, ↓e_get1, ↓e_get2, ↓e_get3, ↓e_put0, ↓e_put1, ↓e_put2, ↓e_put3, ↓e_iaload, ↓e_laload, ↓e_baload, ↓e_aaload, ↓e_iastore, ↓e_lastore, ↓e_bastore, ↓e_aastore, ↓e_alen, ↓e_new, ↓e_newarray, ↓e_anewarray, ↓e_objinit, ↓e_virt1, ↓e_virt2, ↓e_virt3, ↓e_virt4, ↓e_virt5, ↓e_virt6, ↓e_virt7, ↓e_stat0, ↓e_stat1, ↓e_stat2, ↓e_stat3, ↓e_stat4, ↓e_stat5, ↓e_stat6, ↓e_stat7, ↓e_spec1, ↓e_spec2, ↓e_spec3, ↓e_spec4, ↓e_spec5, ↓e_strlen, ↓e_charAt, ↓e_copy, ↓e_iret0, ↓e_iret1, ↓e_lret, ↓e_aret, ↓e_vret, zIsI_int, zIsL_long, zIsA_ref, zInt_int, true_and, and_true, ↓reduceIte, zGet, zSet, zSet2, zEnt, zWid, Value.category, List.map_cons, List.map_nil, List.sum_cons, List.sum_nil, List.replicate, Option.toList, Nat.reduceAdd, Nat.reduceSub, Nat.reduceMul, Nat.reduceLeDiff, Nat.reduceEqDiff, Nat.reduceLT, List.cons_append, List.nil_append, true_or, or_true, or_false, false_or, nI_ltI, nI_leI, nI_eq, nI_clamp, zIn_nI, bI_0, nI_add, nI_mul, nI_or, nI_and, nI_shl1, nI_bit, ↓pk_rem, pk_div, Nat.lt_irrefl, Nat.not_lt_zero, reduceCtorEq, L.k, show ¬ k < v from by omega, ↓show ∀ v1 v2 v3 v4 v6 (K : Option Value → MS → Prop), zX d 33 318 [.ref x, v1, v2, v3, v4, .int (nI 1), v6] [] σ K = K none σ from e]
  | succ m ih =>
    intro k σ s hk L O
    have f7 := L.f7
    have e4 := L.c.c4 i hI
    rw [hj] at e4
    cases ho : s.2.2.2.2.1 with
    | true =>
      rw [itn_fix (Fo s ho)]
      refine ⟨σ, FLf.rf, L, fun K => ?_⟩
      have e := fun v1 v2 v3 v4 v6 (K : Option Value → MS → Prop) => g_end (d := d) (K := K) L true v1 v2 v3 v4 v6
      rw [if_pos rfl] at e
      rw [ho] at f7
      rw [L_33_103, zt_33_103]
      simp (disch := omega) only [L_33_148, zt_33_148, ↓e_iconst0, ↓e_iconst1, ↓e_bipush0, ↓e_bipush1, ↓e_sipush0, ↓e_sipush1, ↓e_ldc0, ↓e_ldc1, ↓e_ldc_w0, ↓e_ldc_w1, ↓e_ldc2, ↓e_lconst0, ↓e_lconst1, ↓e_ldc2_w0, ↓e_ldc2_w1, ↓e_iload, ↓e_iload_n, ↓e_istore, ↓e_istore_n, ↓e_lload, ↓e_lload_n, ↓e_lstore, ↓e_lstore_n, ↓e_aload, ↓e_aload_n, ↓e_astore, ↓e_astore_n, ↓e_iinc0, ↓e_iinc1, ↓e_iadd, ↓e_isub, ↓e_imul, ↓e_iand, ↓e_ior, ↓e_ixor, ↓e_ishl, ↓e_ishr, ↓e_iushr, ↓e_ladd, ↓e_lsub, ↓e_lmul, ↓e_land, ↓e_lor, ↓e_idiv, ↓e_irem, ↓e_ldiv, ↓e_lrem, ↓e_lshl, ↓e_lcmp, ↓e_i2l, ↓e_l2i, ↓e_i2b, ↓e_i2s, ↓e_dup_int, ↓e_pop_int, ↓e_dup_ref, ↓e_pop_ref, ↓e_dup2, ↓e_goto, ↓e_nop, ↓e_ifCond_eq, ↓e_if_icmp_eq, ↓e_ifCond_ne, ↓e_if_icmp_ne, ↓e_ifCond_lt, ↓e_if_icmp_lt, ↓e_ifCond_ge, ↓e_if_icmp_ge, ↓e_ifCond_gt, ↓e_if_icmp_gt, ↓e_ifCond_le, ↓e_if_icmp_le, ↓e_tab, ↓e_look, ↓e_get0, ↓e_get1, ↓e_get2, ↓e_get3, ↓e_put0, ↓e_put1, ↓e_put2, ↓e_put3, ↓e_iaload, ↓e_laload, ↓e_baload, ↓e_aaload, ↓e_iastore, ↓e_lastore, ↓e_bastore, ↓e_aastore, ↓e_alen, ↓e_new, ↓e_newarray, ↓e_anewarray, ↓e_objinit, ↓e_virt1, ↓e_virt2, ↓e_virt3, ↓e_virt4, ↓e_virt5, ↓e_virt6, ↓e_virt7, ↓e_stat0, ↓e_stat1, ↓e_stat2, ↓e_stat3, ↓e_stat4, ↓e_stat5, ↓e_stat6, ↓e_stat7, ↓e_spec1, ↓e_spec2, ↓e_spec3, ↓e_spec4, ↓e_spec5, ↓e_strlen, ↓e_charAt, ↓e_copy, ↓e_iret0, ↓e_iret1, ↓e_lret, ↓e_aret, ↓e_vret, zIsI_int, zIsL_long, zIsA_ref, zInt_int, true_and, and_true, ↓reduceIte, zGet, zSet, zSet2, zEnt, zWid, Value.category, List.map_cons, List.map_nil, List.sum_cons, List.sum_nil, List.replicate, Option.toList, Nat.reduceAdd, Nat.reduceSub, Nat.reduceMul, Nat.reduceLeDiff, Nat.reduceEqDiff, Nat.reduceLT, List.cons_append, List.nil_append, true_or, or_true, or_false, false_or, nI_ltI, nI_leI, nI_eq, nI_clamp, zIn_nI, bI_0, nI_add, nI_mul, nI_or, nI_and, nI_shl1, nI_bit, ↓pk_rem, pk_div, Nat.lt_irrefl, Nat.not_lt_zero, reduceCtorEq, L.k, show k < v from by omega, show k < 99 from by omega, show sI σ x 7 = nI 1 from f7, ↓show ∀ v1 v2 v3 v4 v6 (K : Option Value → MS → Prop), zX d 33 318 [.ref x, v1, v2, v3, v4, .int (nI 1), v6] [] σ K = K none σ from e]
    | false =>
      rw [ho] at f7
      obtain ⟨τ, f1, L1, c1⟩ := F σ s L O
      obtain ⟨ρ, f2, L2, c2⟩ := ih (k + 1) τ (f s) (by omega) L1 (Fk s O)
      refine ⟨ρ, f1.tr f2, L2, fun K => ?_⟩
      rw [L_33_103, zt_33_103]
      simp (disch := omega) only [L_33_148, zt_33_148, ↓e_iconst0, ↓e_iconst1, ↓e_bipush0, ↓e_bipush1, ↓e_sipush0, ↓e_sipush1, ↓e_ldc0, ↓e_ldc1, ↓e_ldc_w0, ↓e_ldc_w1, ↓e_ldc2, ↓e_lconst0, ↓e_lconst1, ↓e_ldc2_w0, ↓e_ldc2_w1, ↓e_iload, ↓e_iload_n, ↓e_istore, ↓e_istore_n, ↓e_lload, ↓e_lload_n, ↓e_lstore, ↓e_lstore_n, ↓e_aload, ↓e_aload_n, ↓e_astore, ↓e_astore_n, ↓e_iinc0, ↓e_iinc1, ↓e_iadd, ↓e_isub, ↓e_imul, ↓e_iand, ↓e_ior, ↓e_ixor, ↓e_ishl, ↓e_ishr, ↓e_iushr, ↓e_ladd, ↓e_lsub, ↓e_lmul, ↓e_land, ↓e_lor, ↓e_idiv, ↓e_irem, ↓e_ldiv, ↓e_lrem, ↓e_lshl, ↓e_lcmp, ↓e_i2l, ↓e_l2i, ↓e_i2b, ↓e_i2s, ↓e_dup_int, ↓e_pop_int, ↓e_dup_ref, ↓e_pop_ref, ↓e_dup2, ↓e_goto, ↓e_nop, ↓e_ifCond_eq, ↓e_if_icmp_eq, ↓e_ifCond_ne, ↓e_if_icmp_ne, ↓e_ifCond_lt, ↓e_if_icmp_lt, ↓e_ifCond_ge, ↓e_if_icmp_ge, ↓e_ifCond_gt, ↓e_if_icmp_gt, ↓e_ifCond_le, ↓e_if_icmp_le, ↓e_tab, ↓e_look, ↓e_get0, ↓e_get1, ↓e_get2, ↓e_get3, ↓e_put0, ↓e_put1, ↓e_put2, ↓e_put3, ↓e_iaload, ↓e_laload, ↓e_baload, ↓e_aaload, ↓e_iastore, ↓e_lastore, ↓e_bastore, ↓e_aastore, ↓e_alen, ↓e_new, ↓e_newarray, ↓e_anewarray, ↓e_objinit, ↓e_virt1, ↓e_virt2, ↓e_virt3, ↓e_virt4, ↓e_virt5, ↓e_virt6, ↓e_virt7, ↓e_stat0, ↓e_stat1, ↓e_stat2, ↓e_stat3, ↓e_stat4, ↓e_stat5, ↓e_stat6, ↓e_stat7, ↓e_spec1, ↓e_spec2, ↓e_spec3, ↓e_spec4, ↓e_spec5, ↓e_strlen, ↓e_charAt, ↓e_copy, ↓e_iret0, ↓e_iret1, ↓e_lret, ↓e_aret, ↓e_vret, zIsI_int, zIsL_long, zIsA_ref, zInt_int, true_and, and_true, ↓reduceIte, zGet, zSet, zSet2, zEnt, zWid, Value.category, List.map_cons, List.map_nil, List.sum_cons, List.sum_nil, List.replicate, Option.toList, Nat.reduceAdd, Nat.reduceSub, Nat.reduceMul, Nat.reduceLeDiff, Nat.reduceEqDiff, Nat.reduceLT, List.cons_append, List.nil_append, true_or, or_true, or_false, false_or, nI_ltI, nI_leI, nI_eq, nI_clamp, zIn_nI, bI_0, nI_add, nI_mul, nI_or, nI_and, nI_shl1, nI_bit, ↓pk_rem, pk_div, Nat.lt_irrefl, Nat.not_lt_zero, reduceCtorEq, L.k, L.r10, L.d.k, L.d.r5, L.d.k4, e4, i30, show k < v from by omega, show k < 99 from by omega, show sI σ x 7 = nI 0 from f7, ↓c1, ↓c2]
end LX4
