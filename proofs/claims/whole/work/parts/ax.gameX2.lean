/-! GAMES, the class: worth, by turns -/
section GMX2
variable {d : Nat} {σ τ ρ : MS} {a : Nat} {A : Ofc} {K : Option Value → MS → Prop}
theorem div2 {k n : Nat} (h : k < 2 * n) : k / 2 < n := by omega
/-- one swap tried: what it is worth is told -/
def Wt (d : Nat) (A : Ofc) (a n : Nat) (cl : Bool) : Prop := ∀ (f : Nat → Option Nat) (low high : Int) (σ : MS), GmI σ a A f → -1000000 ≤ low → low < high → high ≤ 1000000 →
   ∃ r τ, r ≤ 1152 ∧ ABw r (gm n cl (A.setPl f)).1 low high ∧ Ag (fun b => b = 114) σ τ ∧ (∀ c, c < 20 → sI τ 114 c = sI σ 114 c) ∧ ∀ K, zC d 27 [.ref 113, .int (nI n), .int (bI cl), .int (nI (A.setPl f).whole), .int (iI low), .int (iI high)] σ K = K (some (.int (nI r))) τ
theorem c_worth0 (cl : Bool) : Wt (d + 1) A a 0 cl := by
  intro f low high σ I _ _ _
  refine ⟨(A.setPl f).whole, σ, whole_le I.1, ABw.refl _ _ _, Ag.rf, fun _ _ => rfl, fun K => ?_⟩
  rw [E_27]
  simp (disch := omega) only [L_27_0, zt_27_0, L_27_9, zt_27_9, ↓e_iconst0, ↓e_iconst1, ↓e_bipush0, ↓e_bipush1, ↓e_sipush0, ↓e_sipush1, ↓e_ldc0, ↓e_ldc1, ↓e_ldc_w0, ↓e_ldc_w1, ↓e_ldc2, ↓e_lconst0, ↓e_lconst1, ↓e_ldc2_w0, ↓e_ldc2_w1, ↓e_iload, ↓e_iload_n, ↓e_istore, ↓e_istore_n, ↓e_lload, ↓e_lload_n, ↓e_lstore, ↓e_lstore_n, ↓e_aload, ↓e_aload_n, ↓e_astore, ↓e_astore_n, ↓e_iinc0, ↓e_iinc1, ↓e_iadd, ↓e_isub, ↓e_imul, ↓e_iand, ↓e_ior, ↓e_ixor, ↓e_ishl, ↓e_ishr, ↓e_iushr, ↓e_ladd, ↓e_lsub, ↓e_lmul, ↓e_land, ↓e_lor, ↓e_idiv, ↓e_irem, ↓e_ldiv, ↓e_lrem, ↓e_lshl, ↓e_lcmp, ↓e_i2l, ↓e_l2i, ↓e_i2b, ↓e_i2s, ↓e_dup_int, ↓e_pop_int, ↓e_dup_ref, ↓e_pop_ref, ↓e_dup2, ↓e_goto, ↓e_nop, ↓e_ifCond_eq, ↓e_if_icmp_eq, ↓e_ifCond_ne, ↓e_if_icmp_ne, ↓e_ifCond_lt, ↓e_if_icmp_lt, ↓e_ifCond_ge, ↓e_if_icmp_ge, ↓e_ifCond_gt, ↓e_if_icmp_gt, ↓e_ifCond_le, ↓e_if_icmp_le, ↓e_tab, ↓e_look, ↓e_get0, ↓e_get1, ↓e_get2, ↓e_get3, ↓e_put0, ↓e_put1, ↓e_put2, ↓e_put3, ↓e_iaload, ↓e_laload, ↓e_baload, ↓e_aaload, ↓e_iastore, ↓e_lastore, ↓e_bastore, ↓e_aastore, ↓e_alen, ↓e_new, ↓e_newarray, ↓e_anewarray, ↓e_objinit, ↓e_virt1, ↓e_virt2, ↓e_virt3, ↓e_virt4, ↓e_virt5, ↓e_virt6, ↓e_virt7, ↓e_stat0, ↓e_stat1, ↓e_stat2, ↓e_stat3, ↓e_stat4, ↓e_stat5, ↓e_stat6, ↓e_stat7, ↓e_spec1, ↓e_spec2, ↓e_spec3, ↓e_spec4, ↓e_spec5, ↓e_strlen, ↓e_charAt, ↓e_copy, ↓e_iret0, ↓e_iret1, ↓e_lret, ↓e_aret, ↓e_vret, zIsI_int, zIsL_long, zIsA_ref, zInt_int, true_and, and_true, ↓reduceIte, zGet, zSet, zSet2, zEnt, zWid, Value.category, List.map_cons, List.map_nil, List.sum_cons, List.sum_nil, List.replicate, Option.toList, Nat.reduceAdd, Nat.reduceSub, Nat.reduceMul, Nat.reduceLeDiff, Nat.reduceEqDiff, Nat.reduceLT, List.cons_append, List.nil_append, true_or, or_true, or_false, false_or, nI_ltI, nI_leI, nI_eq, nI_clamp, zIn_nI, bI_0, nI_add, nI_mul, nI_or, nI_and, nI_shl1, nI_bit, ↓pk_rem, pk_div, Nat.lt_irrefl, Nat.not_lt_zero, reduceCtorEq, Nat.le_refl]
/-- from the place where the swap is known to be right to the place where its worth is held against the best -/
theorem c_oneSwap (O : OfcOk A) (ha : a + 11 < 113) {n : Nat} (hn : n < 3) {cl : Bool} (wt : Wt (d + 3) A a n (!cl)) {f : Nat → Option Nat} {σ : MS} (I : GmI σ a A f) {c e : Nat} (hce : c < e) (he : e < A.wide * A.high) {fr to : Int} (h1 : -1000000 ≤ fr) (h2 : fr < to) (h3 : to ≤ 1000000) {k : Nat} (hk : k / 2 = c) (hk40 : k < 40) (hs : A.side c (2 + k % 2) = some e) (hg : (A.setPl f).canG (c, e) = true) (lo hi : Int32) (r : Nat) (j1 j2 j3 : Value) :
   ∃ w τ, w ≤ 1152 ∧ ABw w (gm n (!cl) ((A.setPl f).swa c e)).1 fr to ∧ Ag (fun b => b = 114) σ τ ∧ (∀ c, c < 20 → sI τ 114 c = sI σ 114 c) ∧ ∀ K, zX (d + 3) 27 105 [.ref 113, .int (nI (n + 1)), .int (bI cl), .int (nI (A.setPl f).whole), .int lo, .int hi, .int (nI r), .int (iI fr), .int (iI to), .int (nI k), j1, j2, j3] [] σ K = zX (d + 3) 27 203 [.ref 113, .int (nI (n + 1)), .int (bI cl), .int (nI (A.setPl f).whole), .int lo, .int hi, .int (nI r), .int (iI fr), .int (iI to), .int (nI k), .int (nI c), .int (nI e), .int (nI w)] [] τ K := by
  have h20 := cells20 O
  obtain ⟨i1, i2, i3, i4, i5⟩ := I
  have I : GmI σ a A f := ⟨i1, i2, i3, i4, i5⟩
  have H := i4
  have hc : c < A.wide * A.high := by omega
  have c20 : c < 20 := by omega
  have e20 : e < 20 := by omega
  have who31 : ∀ x q, (A.setPl f).who x = some q → q < 2 ^ 31 := fun x q h => who31 x q h
  have cc := fun (K : Option Value → MS → Prop) => c_canChange (d := d + 1) (K := K) i2 i3 H O (lay := (A.setPl f).who) i5 who31 hc (some e) (fun x h => by cases h; exact he)
  rw [show canL (A.setPl f).who c (some e) = true from hg, show oI (some e) = nI e from rfl, show bI true = nI 1 from rfl] at cc
  have cs := fun (K : Option Value → MS → Prop) => c_sideOf (d := d + 1) (K := K) H O hc (k := 2 + k % 2) (by omega)
  rw [hs, show oI (some e) = nI e from rfl] at cs
  have cg := fun (K : Option Value → MS → Prop) => c_gainOfExchange (d := d + 1) (K := K) H O (b := 114) (lay := (A.setPl f).who) i2.k1 i5 (fun x q h => who_np i1 h) hc he
  have ws := whole_swa i1 hc he (by omega)
  have og := swa_ok i1 hc he
  have wl := whole_le og
  have wl2 := whole_le i1
  have eg : nI (A.setPl f).whole + iI (A.gain (A.setPl f).who c e) = nI ((A.setPl f).swa c e).whole := by
    rw [nI_iI, nI_iI, iI_add, ws]
    rfl
  have d2 : ¬ nI 2 = (0 : Int32) := by decide
  have ed : nI k / nI 2 = nI c := by rw [pk_div (by omega) (by omega) (by omega), hk]
  by_cases h0 : n = 0
  · subst h0
    refine ⟨((A.setPl f).swa c e).whole, σ, wl, ABw.refl _ _ _, Ag.rf, fun _ _ => rfl, fun K => ?_⟩
    rw [L_27_105, zt_27_105]
    simp (disch := omega) only [↓e_iconst0, ↓e_iconst1, ↓e_bipush0, ↓e_bipush1, ↓e_sipush0, ↓e_sipush1, ↓e_ldc0, ↓e_ldc1, ↓e_ldc_w0, ↓e_ldc_w1, ↓e_ldc2, ↓e_lconst0, ↓e_lconst1, ↓e_ldc2_w0, ↓e_ldc2_w1, ↓e_iload, ↓e_iload_n, ↓e_istore, ↓e_istore_n, ↓e_lload, ↓e_lload_n, ↓e_lstore, ↓e_lstore_n, ↓e_aload, ↓e_aload_n, ↓e_astore, ↓e_astore_n, ↓e_iinc0, ↓e_iinc1, ↓e_iadd, ↓e_isub, ↓e_imul, ↓e_iand, ↓e_ior, ↓e_ixor, ↓e_ishl, ↓e_ishr, ↓e_iushr, ↓e_ladd, ↓e_lsub, ↓e_lmul, ↓e_land, ↓e_lor, ↓e_idiv, ↓e_irem, ↓e_ldiv, ↓e_lrem, ↓e_lshl, ↓e_lcmp, ↓e_i2l, ↓e_l2i, ↓e_i2b, ↓e_i2s, ↓e_dup_int, ↓e_pop_int, ↓e_dup_ref, ↓e_pop_ref, ↓e_dup2, ↓e_goto, ↓e_nop, ↓e_ifCond_eq, ↓e_if_icmp_eq, ↓e_ifCond_ne, ↓e_if_icmp_ne, ↓e_ifCond_lt, ↓e_if_icmp_lt, ↓e_ifCond_ge, ↓e_if_icmp_ge, ↓e_ifCond_gt, ↓e_if_icmp_gt, ↓e_ifCond_le, ↓e_if_icmp_le, ↓e_tab, ↓e_look, ↓e_get0, ↓e_get1, ↓e_get2, ↓e_get3, ↓e_put0, ↓e_put1, ↓e_put2, ↓e_put3, ↓e_iaload, ↓e_laload, ↓e_baload, ↓e_aaload, ↓e_iastore, ↓e_lastore, ↓e_bastore, ↓e_aastore, ↓e_alen, ↓e_new, ↓e_newarray, ↓e_anewarray, ↓e_objinit, ↓e_virt1, ↓e_virt2, ↓e_virt3, ↓e_virt4, ↓e_virt5, ↓e_virt6, ↓e_virt7, ↓e_stat0, ↓e_stat1, ↓e_stat2, ↓e_stat3, ↓e_stat4, ↓e_stat5, ↓e_stat6, ↓e_stat7, ↓e_spec1, ↓e_spec2, ↓e_spec3, ↓e_spec4, ↓e_spec5, ↓e_strlen, ↓e_charAt, ↓e_copy, ↓e_iret0, ↓e_iret1, ↓e_lret, ↓e_aret, ↓e_vret, zIsI_int, zIsL_long, zIsA_ref, zInt_int, true_and, and_true, ↓reduceIte, zGet, zSet, zSet2, zEnt, zWid, Value.category, List.map_cons, List.map_nil, List.sum_cons, List.sum_nil, List.replicate, Option.toList, Nat.reduceAdd, Nat.reduceSub, Nat.reduceMul, Nat.reduceLeDiff, Nat.reduceEqDiff, Nat.reduceLT, List.cons_append, List.nil_append, true_or, or_true, or_false, false_or, nI_ltI, nI_leI, nI_eq, nI_clamp, zIn_nI, bI_0, nI_add, nI_mul, nI_or, nI_and, nI_shl1, nI_bit, ↓pk_rem, pk_div, Nat.lt_irrefl, Nat.not_lt_zero, reduceCtorEq, d2, not_false_eq_true, ed, i2.k, i2.r4, i3, H.k, ↓cs, ↓cc, ↓cg, eg, Nat.zero_add, Nat.le_refl]
  · obtain ⟨f', ef, I'⟩ := I.sw ha hc he
    obtain ⟨w, ρ, w1, w2, w3, w4, w5⟩ := wt f' fr to (chg σ c e) I' h1 h2 h3
    rw [← ef] at w2 w5
    have g1 := chg_ag (σ := σ) c e
    have G2 := (I'.2.1).ag w3 (fun j => w3.R (by omega) j)
    have bk := chg_back (σ := σ) (ρ := ρ) (show c ≠ e by omega) c20 e20 w4
    have G1 := I'.2.1
    have s1 : nI (n + 1) - nI 1 = nI n := by rw [nI_sub (by omega), Nat.add_sub_cancel]
    refine ⟨w, chg ρ c e, w1, w2, (g1.tr w3).tr (chg_ag c e), bk, fun K => ?_⟩
    have c1 := fun (K : Option Value → MS → Prop) => c_change (d := d + 2) (K := K) i2 c20 e20
    have c2 := fun (K : Option Value → MS → Prop) => c_change (d := d + 2) (K := K) G2 c20 e20
    rw [L_27_105, zt_27_105]
    cases cl with
    | false =>
      have w5 : ∀ K, zC (d + 3) 27 [.ref 113, .int (nI n), .int (nI 1), .int (nI ((A.setPl f).swa c e).whole), .int (iI fr), .int (iI to)] (chg σ c e) K = K (some (.int (nI w))) ρ := w5
      simp (disch := omega) only [L_27_183, zt_27_183, L_27_184, zt_27_184, ↓e_iconst0, ↓e_iconst1, ↓e_bipush0, ↓e_bipush1, ↓e_sipush0, ↓e_sipush1, ↓e_ldc0, ↓e_ldc1, ↓e_ldc_w0, ↓e_ldc_w1, ↓e_ldc2, ↓e_lconst0, ↓e_lconst1, ↓e_ldc2_w0, ↓e_ldc2_w1, ↓e_iload, ↓e_iload_n, ↓e_istore, ↓e_istore_n, ↓e_lload, ↓e_lload_n, ↓e_lstore, ↓e_lstore_n, ↓e_aload, ↓e_aload_n, ↓e_astore, ↓e_astore_n, ↓e_iinc0, ↓e_iinc1, ↓e_iadd, ↓e_isub, ↓e_imul, ↓e_iand, ↓e_ior, ↓e_ixor, ↓e_ishl, ↓e_ishr, ↓e_iushr, ↓e_ladd, ↓e_lsub, ↓e_lmul, ↓e_land, ↓e_lor, ↓e_idiv, ↓e_irem, ↓e_ldiv, ↓e_lrem, ↓e_lshl, ↓e_lcmp, ↓e_i2l, ↓e_l2i, ↓e_i2b, ↓e_i2s, ↓e_dup_int, ↓e_pop_int, ↓e_dup_ref, ↓e_pop_ref, ↓e_dup2, ↓e_goto, ↓e_nop, ↓e_ifCond_eq, ↓e_if_icmp_eq, ↓e_ifCond_ne, ↓e_if_icmp_ne, ↓e_ifCond_lt, ↓e_if_icmp_lt, ↓e_ifCond_ge, ↓e_if_icmp_ge, ↓e_ifCond_gt, ↓e_if_icmp_gt, ↓e_ifCond_le, ↓e_if_icmp_le, ↓e_tab, ↓e_look, ↓e_get0, ↓e_get1, ↓e_get2, ↓e_get3, ↓e_put0, ↓e_put1, ↓e_put2, ↓e_put3, ↓e_iaload, ↓e_laload, ↓e_baload, ↓e_aaload, ↓e_iastore, ↓e_lastore, ↓e_bastore, ↓e_aastore, ↓e_alen, ↓e_new, ↓e_newarray, ↓e_anewarray, ↓e_objinit, ↓e_virt1, ↓e_virt2, ↓e_virt3, ↓e_virt4, ↓e_virt5, ↓e_virt6, ↓e_virt7, ↓e_stat0, ↓e_stat1, ↓e_stat2, ↓e_stat3, ↓e_stat4, ↓e_stat5, ↓e_stat6, ↓e_stat7, ↓e_spec1, ↓e_spec2, ↓e_spec3, ↓e_spec4, ↓e_spec5, ↓e_strlen, ↓e_charAt, ↓e_copy, ↓e_iret0, ↓e_iret1, ↓e_lret, ↓e_aret, ↓e_vret, zIsI_int, zIsL_long, zIsA_ref, zInt_int, true_and, and_true, ↓reduceIte, zGet, zSet, zSet2, zEnt, zWid, Value.category, List.map_cons, List.map_nil, List.sum_cons, List.sum_nil, List.replicate, Option.toList, Nat.reduceAdd, Nat.reduceSub, Nat.reduceMul, Nat.reduceLeDiff, Nat.reduceEqDiff, Nat.reduceLT, List.cons_append, List.nil_append, true_or, or_true, or_false, false_or, nI_ltI, nI_leI, nI_eq, nI_clamp, zIn_nI, bI_0, nI_add, nI_mul, nI_or, nI_and, nI_shl1, nI_bit, ↓pk_rem, pk_div, Nat.lt_irrefl, Nat.not_lt_zero, reduceCtorEq, d2, not_false_eq_true, ed, i2.k, i2.r4, i3, H.k, ↓cs, ↓cc, ↓cg, eg, show ¬ n + 1 ≤ 1 by omega, show 1 < n + 1 by omega, ↓c1, show bI false = nI 0 from rfl, s1, G1.k, ↓w5, G2.k, ↓c2]
    | true =>
      have w5 : ∀ K, zC (d + 3) 27 [.ref 113, .int (nI n), .int (nI 0), .int (nI ((A.setPl f).swa c e).whole), .int (iI fr), .int (iI to)] (chg σ c e) K = K (some (.int (nI w))) ρ := w5
      simp (disch := omega) only [L_27_183, zt_27_183, L_27_184, zt_27_184, ↓e_iconst0, ↓e_iconst1, ↓e_bipush0, ↓e_bipush1, ↓e_sipush0, ↓e_sipush1, ↓e_ldc0, ↓e_ldc1, ↓e_ldc_w0, ↓e_ldc_w1, ↓e_ldc2, ↓e_lconst0, ↓e_lconst1, ↓e_ldc2_w0, ↓e_ldc2_w1, ↓e_iload, ↓e_iload_n, ↓e_istore, ↓e_istore_n, ↓e_lload, ↓e_lload_n, ↓e_lstore, ↓e_lstore_n, ↓e_aload, ↓e_aload_n, ↓e_astore, ↓e_astore_n, ↓e_iinc0, ↓e_iinc1, ↓e_iadd, ↓e_isub, ↓e_imul, ↓e_iand, ↓e_ior, ↓e_ixor, ↓e_ishl, ↓e_ishr, ↓e_iushr, ↓e_ladd, ↓e_lsub, ↓e_lmul, ↓e_land, ↓e_lor, ↓e_idiv, ↓e_irem, ↓e_ldiv, ↓e_lrem, ↓e_lshl, ↓e_lcmp, ↓e_i2l, ↓e_l2i, ↓e_i2b, ↓e_i2s, ↓e_dup_int, ↓e_pop_int, ↓e_dup_ref, ↓e_pop_ref, ↓e_dup2, ↓e_goto, ↓e_nop, ↓e_ifCond_eq, ↓e_if_icmp_eq, ↓e_ifCond_ne, ↓e_if_icmp_ne, ↓e_ifCond_lt, ↓e_if_icmp_lt, ↓e_ifCond_ge, ↓e_if_icmp_ge, ↓e_ifCond_gt, ↓e_if_icmp_gt, ↓e_ifCond_le, ↓e_if_icmp_le, ↓e_tab, ↓e_look, ↓e_get0, ↓e_get1, ↓e_get2, ↓e_get3, ↓e_put0, ↓e_put1, ↓e_put2, ↓e_put3, ↓e_iaload, ↓e_laload, ↓e_baload, ↓e_aaload, ↓e_iastore, ↓e_lastore, ↓e_bastore, ↓e_aastore, ↓e_alen, ↓e_new, ↓e_newarray, ↓e_anewarray, ↓e_objinit, ↓e_virt1, ↓e_virt2, ↓e_virt3, ↓e_virt4, ↓e_virt5, ↓e_virt6, ↓e_virt7, ↓e_stat0, ↓e_stat1, ↓e_stat2, ↓e_stat3, ↓e_stat4, ↓e_stat5, ↓e_stat6, ↓e_stat7, ↓e_spec1, ↓e_spec2, ↓e_spec3, ↓e_spec4, ↓e_spec5, ↓e_strlen, ↓e_charAt, ↓e_copy, ↓e_iret0, ↓e_iret1, ↓e_lret, ↓e_aret, ↓e_vret, zIsI_int, zIsL_long, zIsA_ref, zInt_int, true_and, and_true, ↓reduceIte, zGet, zSet, zSet2, zEnt, zWid, Value.category, List.map_cons, List.map_nil, List.sum_cons, List.sum_nil, List.replicate, Option.toList, Nat.reduceAdd, Nat.reduceSub, Nat.reduceMul, Nat.reduceLeDiff, Nat.reduceEqDiff, Nat.reduceLT, List.cons_append, List.nil_append, true_or, or_true, or_false, false_or, nI_ltI, nI_leI, nI_eq, nI_clamp, zIn_nI, bI_0, nI_add, nI_mul, nI_or, nI_and, nI_shl1, nI_bit, ↓pk_rem, pk_div, Nat.lt_irrefl, Nat.not_lt_zero, reduceCtorEq, d2, not_false_eq_true, ed, i2.k, i2.r4, i3, H.k, ↓cs, ↓cc, ↓cg, eg, show ¬ n + 1 ≤ 1 by omega, show 1 < n + 1 by omega, ↓c1, show bI true = nI 1 from rfl, s1, G1.k, ↓w5, G2.k, ↓c2]
/-- what the loop knows of from and to -/
def FrTo (cl : Bool) (r : Nat) (low high fr to : Int) : Prop := (cl = true → low ≤ fr ∧ fr ≤ max low r ∧ to = high) ∧ (cl = false → fr = low ∧ min high r ≤ to ∧ to ≤ high)
theorem c_worthLoop (O : OfcOk A) (ha : a + 11 < 113) {n : Nat} (hn : n < 3) {cl : Bool} (wt : Wt (d + 3) A a n (!cl)) {low high : Int} (h1 : -1000000 ≤ low) (h2 : low < high) (h3 : high ≤ 1000000) {f : Nat → Option Nat} : ∀ (m k : Nat) (σ : MS) (r x : Nat) (fr to : Int) (j1 j2 j3 : Value), k + m = 2 * (A.wide * A.high) → GmI σ a A f → r ≤ 1152 → ABw r x low high → FrTo cl r low high fr to →
   ∃ r' τ, r' ≤ 1152 ∧ ABw r' ((A.rest m k).foldl (wst cl (fun C => (gm n (!cl) C).1) (A.setPl f)) x) low high ∧ Ag (fun b => b = 114) σ τ ∧ (∀ c, c < 20 → sI τ 114 c = sI σ 114 c) ∧ ∀ K, zX (d + 3) 27 45 [.ref 113, .int (nI (n + 1)), .int (bI cl), .int (nI (A.setPl f).whole), .int (iI low), .int (iI high), .int (nI r), .int (iI fr), .int (iI to), .int (nI k), j1, j2, j3] [] σ K = K (some (.int (nI r'))) τ := by
  have h20 := cells20 O
  intro m
  induction m with
  | zero =>
    intro k σ r x fr to j1 j2 j3 hk I hr ab ft
    refine ⟨r, σ, hr, ab, Ag.rf, fun _ _ => rfl, fun K => ?_⟩
    obtain ⟨i1, i2, i3, i4, i5⟩ := I
    have H := i4
    have hk : k = A.wide * A.high * 2 := by omega
    subst hk
    rw [L_27_45, zt_27_45]
    simp (disch := omega) only [L_27_232, zt_27_232, ↓e_iconst0, ↓e_iconst1, ↓e_bipush0, ↓e_bipush1, ↓e_sipush0, ↓e_sipush1, ↓e_ldc0, ↓e_ldc1, ↓e_ldc_w0, ↓e_ldc_w1, ↓e_ldc2, ↓e_lconst0, ↓e_lconst1, ↓e_ldc2_w0, ↓e_ldc2_w1, ↓e_iload, ↓e_iload_n, ↓e_istore, ↓e_istore_n, ↓e_lload, ↓e_lload_n, ↓e_lstore, ↓e_lstore_n, ↓e_aload, ↓e_aload_n, ↓e_astore, ↓e_astore_n, ↓e_iinc0, ↓e_iinc1, ↓e_iadd, ↓e_isub, ↓e_imul, ↓e_iand, ↓e_ior, ↓e_ixor, ↓e_ishl, ↓e_ishr, ↓e_iushr, ↓e_ladd, ↓e_lsub, ↓e_lmul, ↓e_land, ↓e_lor, ↓e_idiv, ↓e_irem, ↓e_ldiv, ↓e_lrem, ↓e_lshl, ↓e_lcmp, ↓e_i2l, ↓e_l2i, ↓e_i2b, ↓e_i2s, ↓e_dup_int, ↓e_pop_int, ↓e_dup_ref, ↓e_pop_ref, ↓e_dup2, ↓e_goto, ↓e_nop, ↓e_ifCond_eq, ↓e_if_icmp_eq, ↓e_ifCond_ne, ↓e_if_icmp_ne, ↓e_ifCond_lt, ↓e_if_icmp_lt, ↓e_ifCond_ge, ↓e_if_icmp_ge, ↓e_ifCond_gt, ↓e_if_icmp_gt, ↓e_ifCond_le, ↓e_if_icmp_le, ↓e_tab, ↓e_look, ↓e_get0, ↓e_get1, ↓e_get2, ↓e_get3, ↓e_put0, ↓e_put1, ↓e_put2, ↓e_put3, ↓e_iaload, ↓e_laload, ↓e_baload, ↓e_aaload, ↓e_iastore, ↓e_lastore, ↓e_bastore, ↓e_aastore, ↓e_alen, ↓e_new, ↓e_newarray, ↓e_anewarray, ↓e_objinit, ↓e_virt1, ↓e_virt2, ↓e_virt3, ↓e_virt4, ↓e_virt5, ↓e_virt6, ↓e_virt7, ↓e_stat0, ↓e_stat1, ↓e_stat2, ↓e_stat3, ↓e_stat4, ↓e_stat5, ↓e_stat6, ↓e_stat7, ↓e_spec1, ↓e_spec2, ↓e_spec3, ↓e_spec4, ↓e_spec5, ↓e_strlen, ↓e_charAt, ↓e_copy, ↓e_iret0, ↓e_iret1, ↓e_lret, ↓e_aret, ↓e_vret, zIsI_int, zIsL_long, zIsA_ref, zInt_int, true_and, and_true, ↓reduceIte, zGet, zSet, zSet2, zEnt, zWid, Value.category, List.map_cons, List.map_nil, List.sum_cons, List.sum_nil, List.replicate, Option.toList, Nat.reduceAdd, Nat.reduceSub, Nat.reduceMul, Nat.reduceLeDiff, Nat.reduceEqDiff, Nat.reduceLT, List.cons_append, List.nil_append, true_or, or_true, or_false, false_or, H.k, H.i0, H.i1, H.i2, H.i3, H.i4, H.i5, H.i6, H.i7, H.r8, H.r9, H.r10, H.r11, H.r12, H.r13, H.r14, H.r15, H.r16, H.r17, H.r18, H.k1, H.k2, H.k3, H.k4, H.k5, H.k6, H.k7, H.k8, H.k9, H.k10, H.k11, nI_ltI, nI_leI, nI_eq, nI_clamp, zIn_nI, bI_0, nI_add, nI_mul, nI_or, nI_and, nI_shl1, nI_bit, ↓pk_rem, pk_div, Nat.lt_irrefl, Nat.not_lt_zero, reduceCtorEq, i2.k, i3]
  | succ m ih =>
    intro k σ r x fr to j1 j2 j3 hk I hr ab ft
    have I0 := I
    obtain ⟨i1, i2, i3, i4, i5⟩ := I
    have H := i4
    have hk2 : k < A.wide * A.high * 2 := by omega
    have hc : k / 2 < A.wide * A.high := by omega
    -- from and to as the loop's head makes them
    obtain ⟨fr', to', ft1, ft2, hd⟩ : ∃ fr' to' : Int, FrTo cl r low high fr' to' ∧ (if cl = true then fr' = max low r ∧ to' = high else fr' = low ∧ to' = min high r) ∧ ∀ K, zX (d + 3) 27 45 [.ref 113, .int (nI (n + 1)), .int (bI cl), .int (nI (A.setPl f).whole), .int (iI low), .int (iI high), .int (nI r), .int (iI fr), .int (iI to), .int (nI k), j1, j2, j3] [] σ K = if fr' < to' then zX (d + 3) 27 105 [.ref 113, .int (nI (n + 1)), .int (bI cl), .int (nI (A.setPl f).whole), .int (iI low), .int (iI high), .int (nI r), .int (iI fr'), .int (iI to'), .int (nI k), j1, j2, j3] [] σ K else K (some (.int (nI r))) σ := by
      cases cl with
      | true =>
        obtain ⟨q1, q2, q3⟩ := ft.1 rfl
        refine ⟨max low r, high, ⟨fun _ => ⟨by omega, by omega, rfl⟩, fun h => by cases h⟩, by rw [if_pos rfl]; exact ⟨rfl, rfl⟩, fun K => ?_⟩
        have cm := fun (K : Option Value → MS → Prop) => c_maxI (d := d + 2) (σ := σ) (K := K) (x := fr) (y := (r : Int)) (by omega) (by omega) (by omega) (by omega)
        rw [show max fr (r : Int) = max low r by omega, ← nI_iI] at cm
        have lt := iI_lt (x := max low r) (y := high) (by omega) (by omega) (by omega) (by omega)
        rw [q3, L_27_45, zt_27_45]
        by_cases hh : max low (r : Int) < high
        · simp (disch := omega) only [L_27_73, zt_27_73, L_27_75, zt_27_75, L_27_86, zt_27_86, L_27_93, zt_27_93, ↓e_iconst0, ↓e_iconst1, ↓e_bipush0, ↓e_bipush1, ↓e_sipush0, ↓e_sipush1, ↓e_ldc0, ↓e_ldc1, ↓e_ldc_w0, ↓e_ldc_w1, ↓e_ldc2, ↓e_lconst0, ↓e_lconst1, ↓e_ldc2_w0, ↓e_ldc2_w1, ↓e_iload, ↓e_iload_n, ↓e_istore, ↓e_istore_n, ↓e_lload, ↓e_lload_n, ↓e_lstore, ↓e_lstore_n, ↓e_aload, ↓e_aload_n, ↓e_astore, ↓e_astore_n, ↓e_iinc0, ↓e_iinc1, ↓e_iadd, ↓e_isub, ↓e_imul, ↓e_iand, ↓e_ior, ↓e_ixor, ↓e_ishl, ↓e_ishr, ↓e_iushr, ↓e_ladd, ↓e_lsub, ↓e_lmul, ↓e_land, ↓e_lor, ↓e_idiv, ↓e_irem, ↓e_ldiv, ↓e_lrem, ↓e_lshl, ↓e_lcmp, ↓e_i2l, ↓e_l2i, ↓e_i2b, ↓e_i2s, ↓e_dup_int, ↓e_pop_int, ↓e_dup_ref, ↓e_pop_ref, ↓e_dup2, ↓e_goto, ↓e_nop, ↓e_ifCond_eq, ↓e_if_icmp_eq, ↓e_ifCond_ne, ↓e_if_icmp_ne, ↓e_ifCond_lt, ↓e_if_icmp_lt, ↓e_ifCond_ge, ↓e_if_icmp_ge, ↓e_ifCond_gt, ↓e_if_icmp_gt, ↓e_ifCond_le, ↓e_if_icmp_le, ↓e_tab, ↓e_look, ↓e_get0, ↓e_get1, ↓e_get2, ↓e_get3, ↓e_put0, ↓e_put1, ↓e_put2, ↓e_put3, ↓e_iaload, ↓e_laload, ↓e_baload, ↓e_aaload, ↓e_iastore, ↓e_lastore, ↓e_bastore, ↓e_aastore, ↓e_alen, ↓e_new, ↓e_newarray, ↓e_anewarray, ↓e_objinit, ↓e_virt1, ↓e_virt2, ↓e_virt3, ↓e_virt4, ↓e_virt5, ↓e_virt6, ↓e_virt7, ↓e_stat0, ↓e_stat1, ↓e_stat2, ↓e_stat3, ↓e_stat4, ↓e_stat5, ↓e_stat6, ↓e_stat7, ↓e_spec1, ↓e_spec2, ↓e_spec3, ↓e_spec4, ↓e_spec5, ↓e_strlen, ↓e_charAt, ↓e_copy, ↓e_iret0, ↓e_iret1, ↓e_lret, ↓e_aret, ↓e_vret, zIsI_int, zIsL_long, zIsA_ref, zInt_int, true_and, and_true, ↓reduceIte, zGet, zSet, zSet2, zEnt, zWid, Value.category, List.map_cons, List.map_nil, List.sum_cons, List.sum_nil, List.replicate, Option.toList, Nat.reduceAdd, Nat.reduceSub, Nat.reduceMul, Nat.reduceLeDiff, Nat.reduceEqDiff, Nat.reduceLT, List.cons_append, List.nil_append, true_or, or_true, or_false, false_or, H.k, H.i0, H.i1, H.i2, H.i3, H.i4, H.i5, H.i6, H.i7, H.r8, H.r9, H.r10, H.r11, H.r12, H.r13, H.r14, H.r15, H.r16, H.r17, H.r18, H.k1, H.k2, H.k3, H.k4, H.k5, H.k6, H.k7, H.k8, H.k9, H.k10, H.k11, nI_ltI, nI_leI, nI_eq, nI_clamp, zIn_nI, bI_0, nI_add, nI_mul, nI_or, nI_and, nI_shl1, nI_bit, ↓pk_rem, pk_div, Nat.lt_irrefl, Nat.not_lt_zero, reduceCtorEq, i2.k, i3, hk2, show bI true = nI 1 from rfl, ↓cm, lt, hh]
        · simp (disch := omega) only [L_27_73, zt_27_73, L_27_75, zt_27_75, L_27_86, zt_27_86, L_27_93, zt_27_93, ↓e_iconst0, ↓e_iconst1, ↓e_bipush0, ↓e_bipush1, ↓e_sipush0, ↓e_sipush1, ↓e_ldc0, ↓e_ldc1, ↓e_ldc_w0, ↓e_ldc_w1, ↓e_ldc2, ↓e_lconst0, ↓e_lconst1, ↓e_ldc2_w0, ↓e_ldc2_w1, ↓e_iload, ↓e_iload_n, ↓e_istore, ↓e_istore_n, ↓e_lload, ↓e_lload_n, ↓e_lstore, ↓e_lstore_n, ↓e_aload, ↓e_aload_n, ↓e_astore, ↓e_astore_n, ↓e_iinc0, ↓e_iinc1, ↓e_iadd, ↓e_isub, ↓e_imul, ↓e_iand, ↓e_ior, ↓e_ixor, ↓e_ishl, ↓e_ishr, ↓e_iushr, ↓e_ladd, ↓e_lsub, ↓e_lmul, ↓e_land, ↓e_lor, ↓e_idiv, ↓e_irem, ↓e_ldiv, ↓e_lrem, ↓e_lshl, ↓e_lcmp, ↓e_i2l, ↓e_l2i, ↓e_i2b, ↓e_i2s, ↓e_dup_int, ↓e_pop_int, ↓e_dup_ref, ↓e_pop_ref, ↓e_dup2, ↓e_goto, ↓e_nop, ↓e_ifCond_eq, ↓e_if_icmp_eq, ↓e_ifCond_ne, ↓e_if_icmp_ne, ↓e_ifCond_lt, ↓e_if_icmp_lt, ↓e_ifCond_ge, ↓e_if_icmp_ge, ↓e_ifCond_gt, ↓e_if_icmp_gt, ↓e_ifCond_le, ↓e_if_icmp_le, ↓e_tab, ↓e_look, ↓e_get0, ↓e_get1, ↓e_get2, ↓e_get3, ↓e_put0, ↓e_put1, ↓e_put2, ↓e_put3, ↓e_iaload, ↓e_laload, ↓e_baload, ↓e_aaload, ↓e_iastore, ↓e_lastore, ↓e_bastore, ↓e_aastore, ↓e_alen, ↓e_new, ↓e_newarray, ↓e_anewarray, ↓e_objinit, ↓e_virt1, ↓e_virt2, ↓e_virt3, ↓e_virt4, ↓e_virt5, ↓e_virt6, ↓e_virt7, ↓e_stat0, ↓e_stat1, ↓e_stat2, ↓e_stat3, ↓e_stat4, ↓e_stat5, ↓e_stat6, ↓e_stat7, ↓e_spec1, ↓e_spec2, ↓e_spec3, ↓e_spec4, ↓e_spec5, ↓e_strlen, ↓e_charAt, ↓e_copy, ↓e_iret0, ↓e_iret1, ↓e_lret, ↓e_aret, ↓e_vret, zIsI_int, zIsL_long, zIsA_ref, zInt_int, true_and, and_true, ↓reduceIte, zGet, zSet, zSet2, zEnt, zWid, Value.category, List.map_cons, List.map_nil, List.sum_cons, List.sum_nil, List.replicate, Option.toList, Nat.reduceAdd, Nat.reduceSub, Nat.reduceMul, Nat.reduceLeDiff, Nat.reduceEqDiff, Nat.reduceLT, List.cons_append, List.nil_append, true_or, or_true, or_false, false_or, H.k, H.i0, H.i1, H.i2, H.i3, H.i4, H.i5, H.i6, H.i7, H.r8, H.r9, H.r10, H.r11, H.r12, H.r13, H.r14, H.r15, H.r16, H.r17, H.r18, H.k1, H.k2, H.k3, H.k4, H.k5, H.k6, H.k7, H.k8, H.k9, H.k10, H.k11, nI_ltI, nI_leI, nI_eq, nI_clamp, zIn_nI, bI_0, nI_add, nI_mul, nI_or, nI_and, nI_shl1, nI_bit, ↓pk_rem, pk_div, Nat.lt_irrefl, Nat.not_lt_zero, reduceCtorEq, i2.k, i3, hk2, show bI true = nI 1 from rfl, ↓cm, lt, hh]
      | false =>
        obtain ⟨q1, q2, q3⟩ := ft.2 rfl
        refine ⟨low, min high r, ⟨fun h => (by cases h), fun _ => ⟨rfl, by omega, by omega⟩⟩, by rw [if_neg Bool.false_ne_true]; exact ⟨rfl, rfl⟩, fun K => ?_⟩
        have cm := fun (K : Option Value → MS → Prop) => c_minI (d := d + 2) (σ := σ) (K := K) (x := to) (y := (r : Int)) (by omega) (by omega) (by omega) (by omega)
        rw [show min to (r : Int) = min high r by omega, ← nI_iI] at cm
        have lt := iI_lt (x := low) (y := min high r) (by omega) (by omega) (by omega) (by omega)
        rw [q1, L_27_45, zt_27_45]
        by_cases hh : low < min high (r : Int)
        · simp (disch := omega) only [L_27_73, zt_27_73, L_27_75, zt_27_75, L_27_86, zt_27_86, L_27_93, zt_27_93, ↓e_iconst0, ↓e_iconst1, ↓e_bipush0, ↓e_bipush1, ↓e_sipush0, ↓e_sipush1, ↓e_ldc0, ↓e_ldc1, ↓e_ldc_w0, ↓e_ldc_w1, ↓e_ldc2, ↓e_lconst0, ↓e_lconst1, ↓e_ldc2_w0, ↓e_ldc2_w1, ↓e_iload, ↓e_iload_n, ↓e_istore, ↓e_istore_n, ↓e_lload, ↓e_lload_n, ↓e_lstore, ↓e_lstore_n, ↓e_aload, ↓e_aload_n, ↓e_astore, ↓e_astore_n, ↓e_iinc0, ↓e_iinc1, ↓e_iadd, ↓e_isub, ↓e_imul, ↓e_iand, ↓e_ior, ↓e_ixor, ↓e_ishl, ↓e_ishr, ↓e_iushr, ↓e_ladd, ↓e_lsub, ↓e_lmul, ↓e_land, ↓e_lor, ↓e_idiv, ↓e_irem, ↓e_ldiv, ↓e_lrem, ↓e_lshl, ↓e_lcmp, ↓e_i2l, ↓e_l2i, ↓e_i2b, ↓e_i2s, ↓e_dup_int, ↓e_pop_int, ↓e_dup_ref, ↓e_pop_ref, ↓e_dup2, ↓e_goto, ↓e_nop, ↓e_ifCond_eq, ↓e_if_icmp_eq, ↓e_ifCond_ne, ↓e_if_icmp_ne, ↓e_ifCond_lt, ↓e_if_icmp_lt, ↓e_ifCond_ge, ↓e_if_icmp_ge, ↓e_ifCond_gt, ↓e_if_icmp_gt, ↓e_ifCond_le, ↓e_if_icmp_le, ↓e_tab, ↓e_look, ↓e_get0, ↓e_get1, ↓e_get2, ↓e_get3, ↓e_put0, ↓e_put1, ↓e_put2, ↓e_put3, ↓e_iaload, ↓e_laload, ↓e_baload, ↓e_aaload, ↓e_iastore, ↓e_lastore, ↓e_bastore, ↓e_aastore, ↓e_alen, ↓e_new, ↓e_newarray, ↓e_anewarray, ↓e_objinit, ↓e_virt1, ↓e_virt2, ↓e_virt3, ↓e_virt4, ↓e_virt5, ↓e_virt6, ↓e_virt7, ↓e_stat0, ↓e_stat1, ↓e_stat2, ↓e_stat3, ↓e_stat4, ↓e_stat5, ↓e_stat6, ↓e_stat7, ↓e_spec1, ↓e_spec2, ↓e_spec3, ↓e_spec4, ↓e_spec5, ↓e_strlen, ↓e_charAt, ↓e_copy, ↓e_iret0, ↓e_iret1, ↓e_lret, ↓e_aret, ↓e_vret, zIsI_int, zIsL_long, zIsA_ref, zInt_int, true_and, and_true, ↓reduceIte, zGet, zSet, zSet2, zEnt, zWid, Value.category, List.map_cons, List.map_nil, List.sum_cons, List.sum_nil, List.replicate, Option.toList, Nat.reduceAdd, Nat.reduceSub, Nat.reduceMul, Nat.reduceLeDiff, Nat.reduceEqDiff, Nat.reduceLT, List.cons_append, List.nil_append, true_or, or_true, or_false, false_or, H.k, H.i0, H.i1, H.i2, H.i3, H.i4, H.i5, H.i6, H.i7, H.r8, H.r9, H.r10, H.r11, H.r12, H.r13, H.r14, H.r15, H.r16, H.r17, H.r18, H.k1, H.k2, H.k3, H.k4, H.k5, H.k6, H.k7, H.k8, H.k9, H.k10, H.k11, nI_ltI, nI_leI, nI_eq, nI_clamp, zIn_nI, bI_0, nI_add, nI_mul, nI_or, nI_and, nI_shl1, nI_bit, ↓pk_rem, pk_div, Nat.lt_irrefl, Nat.not_lt_zero, reduceCtorEq, i2.k, i3, hk2, show bI false = nI 0 from rfl, ↓cm, lt, hh]
        · simp (disch := omega) only [L_27_73, zt_27_73, L_27_75, zt_27_75, L_27_86, zt_27_86, L_27_93, zt_27_93, ↓e_iconst0, ↓e_iconst1, ↓e_bipush0, ↓e_bipush1, ↓e_sipush0, ↓e_sipush1, ↓e_ldc0, ↓e_ldc1, ↓e_ldc_w0, ↓e_ldc_w1, ↓e_ldc2, ↓e_lconst0, ↓e_lconst1, ↓e_ldc2_w0, ↓e_ldc2_w1, ↓e_iload, ↓e_iload_n, ↓e_istore, ↓e_istore_n, ↓e_lload, ↓e_lload_n, ↓e_lstore, ↓e_lstore_n, ↓e_aload, ↓e_aload_n, ↓e_astore, ↓e_astore_n, ↓e_iinc0, ↓e_iinc1, ↓e_iadd, ↓e_isub, ↓e_imul, ↓e_iand, ↓e_ior, ↓e_ixor, ↓e_ishl, ↓e_ishr, ↓e_iushr, ↓e_ladd, ↓e_lsub, ↓e_lmul, ↓e_land, ↓e_lor, ↓e_idiv, ↓e_irem, ↓e_ldiv, ↓e_lrem, ↓e_lshl, ↓e_lcmp, ↓e_i2l, ↓e_l2i, ↓e_i2b, ↓e_i2s, ↓e_dup_int, ↓e_pop_int, ↓e_dup_ref, ↓e_pop_ref, ↓e_dup2, ↓e_goto, ↓e_nop, ↓e_ifCond_eq, ↓e_if_icmp_eq, ↓e_ifCond_ne, ↓e_if_icmp_ne, ↓e_ifCond_lt, ↓e_if_icmp_lt, ↓e_ifCond_ge, ↓e_if_icmp_ge, ↓e_ifCond_gt, ↓e_if_icmp_gt, ↓e_ifCond_le, ↓e_if_icmp_le, ↓e_tab, ↓e_look, ↓e_get0, ↓e_get1, ↓e_get2, ↓e_get3, ↓e_put0, ↓e_put1, ↓e_put2, ↓e_put3, ↓e_iaload, ↓e_laload, ↓e_baload, ↓e_aaload, ↓e_iastore, ↓e_lastore, ↓e_bastore, ↓e_aastore, ↓e_alen, ↓e_new, ↓e_newarray, ↓e_anewarray, ↓e_objinit, ↓e_virt1, ↓e_virt2, ↓e_virt3, ↓e_virt4, ↓e_virt5, ↓e_virt6, ↓e_virt7, ↓e_stat0, ↓e_stat1, ↓e_stat2, ↓e_stat3, ↓e_stat4, ↓e_stat5, ↓e_stat6, ↓e_stat7, ↓e_spec1, ↓e_spec2, ↓e_spec3, ↓e_spec4, ↓e_spec5, ↓e_strlen, ↓e_charAt, ↓e_copy, ↓e_iret0, ↓e_iret1, ↓e_lret, ↓e_aret, ↓e_vret, zIsI_int, zIsL_long, zIsA_ref, zInt_int, true_and, and_true, ↓reduceIte, zGet, zSet, zSet2, zEnt, zWid, Value.category, List.map_cons, List.map_nil, List.sum_cons, List.sum_nil, List.replicate, Option.toList, Nat.reduceAdd, Nat.reduceSub, Nat.reduceMul, Nat.reduceLeDiff, Nat.reduceEqDiff, Nat.reduceLT, List.cons_append, List.nil_append, true_or, or_true, or_false, false_or, H.k, H.i0, H.i1, H.i2, H.i3, H.i4, H.i5, H.i6, H.i7, H.r8, H.r9, H.r10, H.r11, H.r12, H.r13, H.r14, H.r15, H.r16, H.r17, H.r18, H.k1, H.k2, H.k3, H.k4, H.k5, H.k6, H.k7, H.k8, H.k9, H.k10, H.k11, nI_ltI, nI_leI, nI_eq, nI_clamp, zIn_nI, bI_0, nI_add, nI_mul, nI_or, nI_and, nI_shl1, nI_bit, ↓pk_rem, pk_div, Nat.lt_irrefl, Nat.not_lt_zero, reduceCtorEq, i2.k, i3, hk2, show bI false = nI 0 from rfl, ↓cm, lt, hh]
    by_cases hh : fr' < to'
    · -- the swap
      have d2 : ¬ nI 2 = (0 : Int32) := by decide
      have ed : nI k / nI 2 = nI (k / 2) := pk_div (by omega) (by omega) (by omega)
      have who31 : ∀ x q, (A.setPl f).who x = some q → q < 2 ^ 31 := fun x q h => who31 x q h
      have cc := fun (K : Option Value → MS → Prop) => c_canChange (d := d + 1) (K := K) i2 i3 H O (lay := (A.setPl f).who) i5 who31 hc (A.side (k / 2) (2 + k % 2)) (fun x h => side_lt O hc h)
      have cs := fun (K : Option Value → MS → Prop) => c_sideOf (d := d + 1) (K := K) H O hc (k := 2 + k % 2) (by omega)
      have fb : -1000000 ≤ fr' ∧ to' ≤ 1000000 := by
        cases cl with
        | true => rw [if_pos rfl] at ft2; omega
        | false => rw [if_neg Bool.false_ne_true] at ft2; omega
      by_cases hg : canL (A.setPl f).who (k / 2) (A.side (k / 2) (2 + k % 2)) = true
      · cases hs : A.side (k / 2) (2 + k % 2) with
        | none => rw [hs] at hg; cases hg
        | some e =>
          rw [hs] at hg
          have he := side_lt O hc hs
          have hce := side23 O (by omega) hs
          obtain ⟨w, τ, w1, w2, w3, w4, w5⟩ := c_oneSwap (d := d) O ha hn wt I0 hce he fb.1 hh fb.2 (k := k) rfl (by omega) hs hg (iI low) (iI high) r j1 j2 j3
          have I1 := I0.keep ha w3 w4
          -- the better of both
          have ab2 : ABw (mxg cl r w) (mxg cl x (gm n (!cl) ((A.setPl f).swa (k / 2) e)).1) low high := by
            unfold mxg
            cases cl with
            | true =>
              rw [if_pos rfl] at ft2
              rw [ft2.1, ft2.2] at w2 hh
              rw [if_pos rfl, if_pos rfl]
              exact ab.up hh w2
            | false =>
              rw [if_neg Bool.false_ne_true] at ft2
              rw [ft2.1, ft2.2] at w2 hh
              rw [if_neg Bool.false_ne_true, if_neg Bool.false_ne_true]
              exact ab.dn hh w2
          have rb : mxg cl r w ≤ 1152 := by unfold mxg; split <;> omega
          have ft3 : FrTo cl (mxg cl r w) low high fr' to' := by
            unfold mxg
            cases cl with
            | true =>
              rw [if_pos rfl] at ft2
              exact ⟨fun _ => by rw [if_pos rfl]; exact ⟨by omega, by omega, ft2.2⟩, fun h => by cases h⟩
            | false =>
              rw [if_neg Bool.false_ne_true] at ft2
              exact ⟨fun h => (by cases h), fun _ => by rw [if_neg Bool.false_ne_true]; exact ⟨ft2.1, by omega, by omega⟩⟩
          obtain ⟨r', τ2, u1, u2, u3, u4, u5⟩ := ih (k + 1) τ (mxg cl r w) (mxg cl x (gm n (!cl) ((A.setPl f).swa (k / 2) e)).1) fr' to' (.int (nI (k / 2))) (.int (nI e)) (.int (nI w)) (by omega) I1 rb ab2 ft3
          refine ⟨r', τ2, u1, ?_, w3.tr u3, fun c hc => (u4 c hc).trans (w4 c hc), fun K => ?_⟩
          · have er : A.rest (m + 1) k = (k / 2, e) :: A.rest m (k + 1) := by
              show (match A.side (k / 2) (2 + k % 2) with | none => A.rest m (k + 1) | some e => (k / 2, e) :: A.rest m (k + 1)) = _
              rw [hs]
            rw [er, List.foldl_cons]
            have ew : wst cl (fun C => (gm n (!cl) C).1) (A.setPl f) x (k / 2, e) = mxg cl x (gm n (!cl) ((A.setPl f).swa (k / 2) e)).1 := if_pos hg
            rw [ew]
            exact u2
          · rw [hd K, if_pos hh, w5 K, L_27_203, zt_27_203]
            have cx := fun (K : Option Value → MS → Prop) => c_max (d := d + 2) (σ := τ) (K := K) (x := r) (y := w) (by omega) (by omega)
            have cn := fun (K : Option Value → MS → Prop) => c_min (d := d + 2) (σ := τ) (K := K) (x := r) (y := w) (by omega) (by omega)
            have u5 := u5 K
            unfold mxg at u5
            cases cl with
            | true =>
              rw [if_pos rfl] at u5
              rw [show bI true = nI 1 from rfl] at u5 ⊢
              simp (disch := omega) only [L_27_217, zt_27_217, L_27_224, zt_27_224, L_27_226, zt_27_226, ↓e_iconst0, ↓e_iconst1, ↓e_bipush0, ↓e_bipush1, ↓e_sipush0, ↓e_sipush1, ↓e_ldc0, ↓e_ldc1, ↓e_ldc_w0, ↓e_ldc_w1, ↓e_ldc2, ↓e_lconst0, ↓e_lconst1, ↓e_ldc2_w0, ↓e_ldc2_w1, ↓e_iload, ↓e_iload_n, ↓e_istore, ↓e_istore_n, ↓e_lload, ↓e_lload_n, ↓e_lstore, ↓e_lstore_n, ↓e_aload, ↓e_aload_n, ↓e_astore, ↓e_astore_n, ↓e_iinc0, ↓e_iinc1, ↓e_iadd, ↓e_isub, ↓e_imul, ↓e_iand, ↓e_ior, ↓e_ixor, ↓e_ishl, ↓e_ishr, ↓e_iushr, ↓e_ladd, ↓e_lsub, ↓e_lmul, ↓e_land, ↓e_lor, ↓e_idiv, ↓e_irem, ↓e_ldiv, ↓e_lrem, ↓e_lshl, ↓e_lcmp, ↓e_i2l, ↓e_l2i, ↓e_i2b, ↓e_i2s, ↓e_dup_int, ↓e_pop_int, ↓e_dup_ref, ↓e_pop_ref, ↓e_dup2, ↓e_goto, ↓e_nop, ↓e_ifCond_eq, ↓e_if_icmp_eq, ↓e_ifCond_ne, ↓e_if_icmp_ne, ↓e_ifCond_lt, ↓e_if_icmp_lt, ↓e_ifCond_ge, ↓e_if_icmp_ge, ↓e_ifCond_gt, ↓e_if_icmp_gt, ↓e_ifCond_le, ↓e_if_icmp_le, ↓e_tab, ↓e_look, ↓e_get0, ↓e_get1, ↓e_get2, ↓e_get3, ↓e_put0, ↓e_put1, ↓e_put2, ↓e_put3, ↓e_iaload, ↓e_laload, ↓e_baload, ↓e_aaload, ↓e_iastore, ↓e_lastore, ↓e_bastore, ↓e_aastore, ↓e_alen, ↓e_new, ↓e_newarray, ↓e_anewarray, ↓e_objinit, ↓e_virt1, ↓e_virt2, ↓e_virt3, ↓e_virt4, ↓e_virt5, ↓e_virt6, ↓e_virt7, ↓e_stat0, ↓e_stat1, ↓e_stat2, ↓e_stat3, ↓e_stat4, ↓e_stat5, ↓e_stat6, ↓e_stat7, ↓e_spec1, ↓e_spec2, ↓e_spec3, ↓e_spec4, ↓e_spec5, ↓e_strlen, ↓e_charAt, ↓e_copy, ↓e_iret0, ↓e_iret1, ↓e_lret, ↓e_aret, ↓e_vret, zIsI_int, zIsL_long, zIsA_ref, zInt_int, true_and, and_true, ↓reduceIte, zGet, zSet, zSet2, zEnt, zWid, Value.category, List.map_cons, List.map_nil, List.sum_cons, List.sum_nil, List.replicate, Option.toList, Nat.reduceAdd, Nat.reduceSub, Nat.reduceMul, Nat.reduceLeDiff, Nat.reduceEqDiff, Nat.reduceLT, List.cons_append, List.nil_append, true_or, or_true, or_false, false_or, nI_ltI, nI_leI, nI_eq, nI_clamp, zIn_nI, bI_0, nI_add, nI_mul, nI_or, nI_and, nI_shl1, nI_bit, ↓pk_rem, pk_div, Nat.lt_irrefl, Nat.not_lt_zero, reduceCtorEq, ↓cx, u5]
            | false =>
              rw [if_neg Bool.false_ne_true] at u5
              rw [show bI false = nI 0 from rfl] at u5 ⊢
              simp (disch := omega) only [L_27_217, zt_27_217, L_27_224, zt_27_224, L_27_226, zt_27_226, ↓e_iconst0, ↓e_iconst1, ↓e_bipush0, ↓e_bipush1, ↓e_sipush0, ↓e_sipush1, ↓e_ldc0, ↓e_ldc1, ↓e_ldc_w0, ↓e_ldc_w1, ↓e_ldc2, ↓e_lconst0, ↓e_lconst1, ↓e_ldc2_w0, ↓e_ldc2_w1, ↓e_iload, ↓e_iload_n, ↓e_istore, ↓e_istore_n, ↓e_lload, ↓e_lload_n, ↓e_lstore, ↓e_lstore_n, ↓e_aload, ↓e_aload_n, ↓e_astore, ↓e_astore_n, ↓e_iinc0, ↓e_iinc1, ↓e_iadd, ↓e_isub, ↓e_imul, ↓e_iand, ↓e_ior, ↓e_ixor, ↓e_ishl, ↓e_ishr, ↓e_iushr, ↓e_ladd, ↓e_lsub, ↓e_lmul, ↓e_land, ↓e_lor, ↓e_idiv, ↓e_irem, ↓e_ldiv, ↓e_lrem, ↓e_lshl, ↓e_lcmp, ↓e_i2l, ↓e_l2i, ↓e_i2b, ↓e_i2s, ↓e_dup_int, ↓e_pop_int, ↓e_dup_ref, ↓e_pop_ref, ↓e_dup2, ↓e_goto, ↓e_nop, ↓e_ifCond_eq, ↓e_if_icmp_eq, ↓e_ifCond_ne, ↓e_if_icmp_ne, ↓e_ifCond_lt, ↓e_if_icmp_lt, ↓e_ifCond_ge, ↓e_if_icmp_ge, ↓e_ifCond_gt, ↓e_if_icmp_gt, ↓e_ifCond_le, ↓e_if_icmp_le, ↓e_tab, ↓e_look, ↓e_get0, ↓e_get1, ↓e_get2, ↓e_get3, ↓e_put0, ↓e_put1, ↓e_put2, ↓e_put3, ↓e_iaload, ↓e_laload, ↓e_baload, ↓e_aaload, ↓e_iastore, ↓e_lastore, ↓e_bastore, ↓e_aastore, ↓e_alen, ↓e_new, ↓e_newarray, ↓e_anewarray, ↓e_objinit, ↓e_virt1, ↓e_virt2, ↓e_virt3, ↓e_virt4, ↓e_virt5, ↓e_virt6, ↓e_virt7, ↓e_stat0, ↓e_stat1, ↓e_stat2, ↓e_stat3, ↓e_stat4, ↓e_stat5, ↓e_stat6, ↓e_stat7, ↓e_spec1, ↓e_spec2, ↓e_spec3, ↓e_spec4, ↓e_spec5, ↓e_strlen, ↓e_charAt, ↓e_copy, ↓e_iret0, ↓e_iret1, ↓e_lret, ↓e_aret, ↓e_vret, zIsI_int, zIsL_long, zIsA_ref, zInt_int, true_and, and_true, ↓reduceIte, zGet, zSet, zSet2, zEnt, zWid, Value.category, List.map_cons, List.map_nil, List.sum_cons, List.sum_nil, List.replicate, Option.toList, Nat.reduceAdd, Nat.reduceSub, Nat.reduceMul, Nat.reduceLeDiff, Nat.reduceEqDiff, Nat.reduceLT, List.cons_append, List.nil_append, true_or, or_true, or_false, false_or, nI_ltI, nI_leI, nI_eq, nI_clamp, zIn_nI, bI_0, nI_add, nI_mul, nI_or, nI_and, nI_shl1, nI_bit, ↓pk_rem, pk_div, Nat.lt_irrefl, Nat.not_lt_zero, reduceCtorEq, ↓cn, u5]
      · rw [Bool.not_eq_true] at hg
        rw [hg, show bI false = nI 0 from rfl] at cc
        obtain ⟨r', τ2, u1, u2, u3, u4, u5⟩ := ih (k + 1) σ r x fr' to' (.int (nI (k / 2))) (.int (oI (A.side (k / 2) (2 + k % 2)))) j3 (by omega) I0 hr ab ft1
        refine ⟨r', τ2, u1, ?_, u3, u4, fun K => ?_⟩
        · have er : (A.rest (m + 1) k).foldl (wst cl (fun C => (gm n (!cl) C).1) (A.setPl f)) x = (A.rest m (k + 1)).foldl (wst cl (fun C => (gm n (!cl) C).1) (A.setPl f)) x := by
            show (match A.side (k / 2) (2 + k % 2) with | none => A.rest m (k + 1) | some e => (k / 2, e) :: A.rest m (k + 1)).foldl _ x = _
            cases hs : A.side (k / 2) (2 + k % 2) with
            | none => rfl
            | some e =>
              rw [hs] at hg
              dsimp only
              rw [List.foldl_cons]
              congr 1
              exact if_neg (fun h => by rw [show canL (A.setPl f).who (k / 2) (some e) = true from h] at hg; cases hg)
          rw [er]
          exact u2
        · have u5 := u5 K
          rw [hd K, if_pos hh, L_27_105, zt_27_105]
          simp (disch := omega) only [L_27_226, zt_27_226, ↓e_iconst0, ↓e_iconst1, ↓e_bipush0, ↓e_bipush1, ↓e_sipush0, ↓e_sipush1, ↓e_ldc0, ↓e_ldc1, ↓e_ldc_w0, ↓e_ldc_w1, ↓e_ldc2, ↓e_lconst0, ↓e_lconst1, ↓e_ldc2_w0, ↓e_ldc2_w1, ↓e_iload, ↓e_iload_n, ↓e_istore, ↓e_istore_n, ↓e_lload, ↓e_lload_n, ↓e_lstore, ↓e_lstore_n, ↓e_aload, ↓e_aload_n, ↓e_astore, ↓e_astore_n, ↓e_iinc0, ↓e_iinc1, ↓e_iadd, ↓e_isub, ↓e_imul, ↓e_iand, ↓e_ior, ↓e_ixor, ↓e_ishl, ↓e_ishr, ↓e_iushr, ↓e_ladd, ↓e_lsub, ↓e_lmul, ↓e_land, ↓e_lor, ↓e_idiv, ↓e_irem, ↓e_ldiv, ↓e_lrem, ↓e_lshl, ↓e_lcmp, ↓e_i2l, ↓e_l2i, ↓e_i2b, ↓e_i2s, ↓e_dup_int, ↓e_pop_int, ↓e_dup_ref, ↓e_pop_ref, ↓e_dup2, ↓e_goto, ↓e_nop, ↓e_ifCond_eq, ↓e_if_icmp_eq, ↓e_ifCond_ne, ↓e_if_icmp_ne, ↓e_ifCond_lt, ↓e_if_icmp_lt, ↓e_ifCond_ge, ↓e_if_icmp_ge, ↓e_ifCond_gt, ↓e_if_icmp_gt, ↓e_ifCond_le, ↓e_if_icmp_le, ↓e_tab, ↓e_look, ↓e_get0, ↓e_get1, ↓e_get2, ↓e_get3, ↓e_put0, ↓e_put1, ↓e_put2, ↓e_put3, ↓e_iaload, ↓e_laload, ↓e_baload, ↓e_aaload, ↓e_iastore, ↓e_lastore, ↓e_bastore, ↓e_aastore, ↓e_alen, ↓e_new, ↓e_newarray, ↓e_anewarray, ↓e_objinit, ↓e_virt1, ↓e_virt2, ↓e_virt3, ↓e_virt4, ↓e_virt5, ↓e_virt6, ↓e_virt7, ↓e_stat0, ↓e_stat1, ↓e_stat2, ↓e_stat3, ↓e_stat4, ↓e_stat5, ↓e_stat6, ↓e_stat7, ↓e_spec1, ↓e_spec2, ↓e_spec3, ↓e_spec4, ↓e_spec5, ↓e_strlen, ↓e_charAt, ↓e_copy, ↓e_iret0, ↓e_iret1, ↓e_lret, ↓e_aret, ↓e_vret, zIsI_int, zIsL_long, zIsA_ref, zInt_int, true_and, and_true, ↓reduceIte, zGet, zSet, zSet2, zEnt, zWid, Value.category, List.map_cons, List.map_nil, List.sum_cons, List.sum_nil, List.replicate, Option.toList, Nat.reduceAdd, Nat.reduceSub, Nat.reduceMul, Nat.reduceLeDiff, Nat.reduceEqDiff, Nat.reduceLT, List.cons_append, List.nil_append, true_or, or_true, or_false, false_or, nI_ltI, nI_leI, nI_eq, nI_clamp, zIn_nI, bI_0, nI_add, nI_mul, nI_or, nI_and, nI_shl1, nI_bit, ↓pk_rem, pk_div, Nat.lt_irrefl, Nat.not_lt_zero, reduceCtorEq, d2, not_false_eq_true, ed, i2.k, i3, H.k, ↓cs, ↓cc, u5]
    · refine ⟨r, σ, hr, ?_, Ag.rf, fun _ _ => rfl, fun K => by rw [hd K, if_neg hh]⟩
      obtain ⟨m1, m2⟩ := wst_mono (B := A.setPl f) cl (fun C => (gm n (!cl) C).1) (A.rest (m + 1) k) x
      obtain ⟨a1, a2, a3⟩ := ab
      cases cl with
      | true =>
        rw [if_pos rfl] at ft2
        have := m1 rfl
        have := a3 (by omega)
        exact ⟨fun h4 h5 => by omega, fun h4 => by omega, fun h4 => by omega⟩
      | false =>
        rw [if_neg Bool.false_ne_true] at ft2
        have := m2 rfl
        have := a2 (by omega)
        exact ⟨fun h4 h5 => by omega, fun h4 => by omega, fun h4 => by omega⟩
theorem c_worth (O : OfcOk A) (ha : a + 11 < 113) : ∀ (n : Nat) (cl : Bool), n ≤ 3 → Wt (d + n + 3) A a n cl := by
  intro n
  induction n with
  | zero => intro cl _; exact c_worth0 (d := d + 2) cl
  | succ n ih =>
    intro cl hn f low high σ I h1 h2 h3
    have wt := ih (!cl) (by omega)
    obtain ⟨r0, τ0, q1, q2, q3, q4, q5⟩ := wt f low high σ I h1 h2 h3
    have I0 := I.keep ha q3 q4
    obtain ⟨r, τ, u1, u2, u3, u4, u5⟩ := c_worthLoop (d := d + n) O ha (show n < 3 by omega) wt h1 h2 h3 (2 * (A.wide * A.high)) 0 τ0 r0 (gm n (!cl) (A.setPl f)).1 low high .null .null .null (by omega) I0 q1 q2 ⟨fun _ => ⟨by omega, by omega, rfl⟩, fun _ => ⟨rfl, by omega, by omega⟩⟩
    refine ⟨r, τ, u1, ?_, q3.tr u3, fun c hc => (u4 c hc).trans (q4 c hc), fun K => ?_⟩
    · rw [gm_val, setPl_prs, ← rest_prs]
      exact u2
    · obtain ⟨i1, i2, i3, i4, i5⟩ := I
      have s1 : nI (n + 1) - nI 1 = nI n := by rw [nI_sub (by omega), Nat.add_sub_cancel]
      have u5 := u5 K
      rw [show d + (n + 1) + 3 = d + n + 3 + 1 from by omega, E_27]
      cases cl with
      | false =>
        have q5 : ∀ K, zC (d + n + 3) 27 [.ref 113, .int (nI n), .int (nI 1), .int (nI (A.setPl f).whole), .int (iI low), .int (iI high)] σ K = K (some (.int (nI r0))) τ0 := q5
        rw [show bI false = nI 0 from rfl] at u5 ⊢
        simp (disch := omega) only [L_27_0, zt_27_0, L_27_11, zt_27_11, L_27_23, zt_27_23, L_27_24, zt_27_24, ↓e_iconst0, ↓e_iconst1, ↓e_bipush0, ↓e_bipush1, ↓e_sipush0, ↓e_sipush1, ↓e_ldc0, ↓e_ldc1, ↓e_ldc_w0, ↓e_ldc_w1, ↓e_ldc2, ↓e_lconst0, ↓e_lconst1, ↓e_ldc2_w0, ↓e_ldc2_w1, ↓e_iload, ↓e_iload_n, ↓e_istore, ↓e_istore_n, ↓e_lload, ↓e_lload_n, ↓e_lstore, ↓e_lstore_n, ↓e_aload, ↓e_aload_n, ↓e_astore, ↓e_astore_n, ↓e_iinc0, ↓e_iinc1, ↓e_iadd, ↓e_isub, ↓e_imul, ↓e_iand, ↓e_ior, ↓e_ixor, ↓e_ishl, ↓e_ishr, ↓e_iushr, ↓e_ladd, ↓e_lsub, ↓e_lmul, ↓e_land, ↓e_lor, ↓e_idiv, ↓e_irem, ↓e_ldiv, ↓e_lrem, ↓e_lshl, ↓e_lcmp, ↓e_i2l, ↓e_l2i, ↓e_i2b, ↓e_i2s, ↓e_dup_int, ↓e_pop_int, ↓e_dup_ref, ↓e_pop_ref, ↓e_dup2, ↓e_goto, ↓e_nop, ↓e_ifCond_eq, ↓e_if_icmp_eq, ↓e_ifCond_ne, ↓e_if_icmp_ne, ↓e_ifCond_lt, ↓e_if_icmp_lt, ↓e_ifCond_ge, ↓e_if_icmp_ge, ↓e_ifCond_gt, ↓e_if_icmp_gt, ↓e_ifCond_le, ↓e_if_icmp_le, ↓e_tab, ↓e_look, ↓e_get0, ↓e_get1, ↓e_get2, ↓e_get3, ↓e_put0, ↓e_put1, ↓e_put2, ↓e_put3, ↓e_iaload, ↓e_laload, ↓e_baload, ↓e_aaload, ↓e_iastore, ↓e_lastore, ↓e_bastore, ↓e_aastore, ↓e_alen, ↓e_new, ↓e_newarray, ↓e_anewarray, ↓e_objinit, ↓e_virt1, ↓e_virt2, ↓e_virt3, ↓e_virt4, ↓e_virt5, ↓e_virt6, ↓e_virt7, ↓e_stat0, ↓e_stat1, ↓e_stat2, ↓e_stat3, ↓e_stat4, ↓e_stat5, ↓e_stat6, ↓e_stat7, ↓e_spec1, ↓e_spec2, ↓e_spec3, ↓e_spec4, ↓e_spec5, ↓e_strlen, ↓e_charAt, ↓e_copy, ↓e_iret0, ↓e_iret1, ↓e_lret, ↓e_aret, ↓e_vret, zIsI_int, zIsL_long, zIsA_ref, zInt_int, true_and, and_true, ↓reduceIte, zGet, zSet, zSet2, zEnt, zWid, Value.category, List.map_cons, List.map_nil, List.sum_cons, List.sum_nil, List.replicate, Option.toList, Nat.reduceAdd, Nat.reduceSub, Nat.reduceMul, Nat.reduceLeDiff, Nat.reduceEqDiff, Nat.reduceLT, List.cons_append, List.nil_append, true_or, or_true, or_false, false_or, nI_ltI, nI_leI, nI_eq, nI_clamp, zIn_nI, bI_0, nI_add, nI_mul, nI_or, nI_and, nI_shl1, nI_bit, ↓pk_rem, pk_div, Nat.lt_irrefl, Nat.not_lt_zero, reduceCtorEq, show ¬ n + 1 ≤ 0 by omega, show ¬ 3 < n + 1 by omega, show n + 1 ≤ 3 by omega, show 0 < n + 1 by omega, s1, i2.k, ↓q5, u5]
      | true =>
        have q5 : ∀ K, zC (d + n + 3) 27 [.ref 113, .int (nI n), .int (nI 0), .int (nI (A.setPl f).whole), .int (iI low), .int (iI high)] σ K = K (some (.int (nI r0))) τ0 := q5
        rw [show bI true = nI 1 from rfl] at u5 ⊢
        simp (disch := omega) only [L_27_0, zt_27_0, L_27_11, zt_27_11, L_27_23, zt_27_23, L_27_24, zt_27_24, ↓e_iconst0, ↓e_iconst1, ↓e_bipush0, ↓e_bipush1, ↓e_sipush0, ↓e_sipush1, ↓e_ldc0, ↓e_ldc1, ↓e_ldc_w0, ↓e_ldc_w1, ↓e_ldc2, ↓e_lconst0, ↓e_lconst1, ↓e_ldc2_w0, ↓e_ldc2_w1, ↓e_iload, ↓e_iload_n, ↓e_istore, ↓e_istore_n, ↓e_lload, ↓e_lload_n, ↓e_lstore, ↓e_lstore_n, ↓e_aload, ↓e_aload_n, ↓e_astore, ↓e_astore_n, ↓e_iinc0, ↓e_iinc1, ↓e_iadd, ↓e_isub, ↓e_imul, ↓e_iand, ↓e_ior, ↓e_ixor, ↓e_ishl, ↓e_ishr, ↓e_iushr, ↓e_ladd, ↓e_lsub, ↓e_lmul, ↓e_land, ↓e_lor, ↓e_idiv, ↓e_irem, ↓e_ldiv, ↓e_lrem, ↓e_lshl, ↓e_lcmp, ↓e_i2l, ↓e_l2i, ↓e_i2b, ↓e_i2s, ↓e_dup_int, ↓e_pop_int, ↓e_dup_ref, ↓e_pop_ref, ↓e_dup2, ↓e_goto, ↓e_nop, ↓e_ifCond_eq, ↓e_if_icmp_eq, ↓e_ifCond_ne, ↓e_if_icmp_ne, ↓e_ifCond_lt, ↓e_if_icmp_lt, ↓e_ifCond_ge, ↓e_if_icmp_ge, ↓e_ifCond_gt, ↓e_if_icmp_gt, ↓e_ifCond_le, ↓e_if_icmp_le, ↓e_tab, ↓e_look, ↓e_get0, ↓e_get1, ↓e_get2, ↓e_get3, ↓e_put0, ↓e_put1, ↓e_put2, ↓e_put3, ↓e_iaload, ↓e_laload, ↓e_baload, ↓e_aaload, ↓e_iastore, ↓e_lastore, ↓e_bastore, ↓e_aastore, ↓e_alen, ↓e_new, ↓e_newarray, ↓e_anewarray, ↓e_objinit, ↓e_virt1, ↓e_virt2, ↓e_virt3, ↓e_virt4, ↓e_virt5, ↓e_virt6, ↓e_virt7, ↓e_stat0, ↓e_stat1, ↓e_stat2, ↓e_stat3, ↓e_stat4, ↓e_stat5, ↓e_stat6, ↓e_stat7, ↓e_spec1, ↓e_spec2, ↓e_spec3, ↓e_spec4, ↓e_spec5, ↓e_strlen, ↓e_charAt, ↓e_copy, ↓e_iret0, ↓e_iret1, ↓e_lret, ↓e_aret, ↓e_vret, zIsI_int, zIsL_long, zIsA_ref, zInt_int, true_and, and_true, ↓reduceIte, zGet, zSet, zSet2, zEnt, zWid, Value.category, List.map_cons, List.map_nil, List.sum_cons, List.sum_nil, List.replicate, Option.toList, Nat.reduceAdd, Nat.reduceSub, Nat.reduceMul, Nat.reduceLeDiff, Nat.reduceEqDiff, Nat.reduceLT, List.cons_append, List.nil_append, true_or, or_true, or_false, false_or, nI_ltI, nI_leI, nI_eq, nI_clamp, zIn_nI, bI_0, nI_add, nI_mul, nI_or, nI_and, nI_shl1, nI_bit, ↓pk_rem, pk_div, Nat.lt_irrefl, Nat.not_lt_zero, reduceCtorEq, show ¬ n + 1 ≤ 0 by omega, show ¬ 3 < n + 1 by omega, show n + 1 ≤ 3 by omega, show 0 < n + 1 by omega, s1, i2.k, ↓q5, u5]
end GMX2
