/-! SIGNED NUMBERS -/
def iI (z : Int) : Int32 := Int32.ofInt z
theorem nI_iI (n : Nat) : nI n = iI (n : Int) := rfl
theorem iI_add (x y : Int) : iI x + iI y = iI (x + y) := (Int32.ofInt_add x y).symm
theorem iI_sub (x y : Int) : iI x - iI y = iI (x - y) := (Int32.ofInt_sub x y).symm
theorem iI_toInt {z : Int} (h1 : -2 ^ 31 ≤ z) (h2 : z < 2 ^ 31) : (iI z).toInt = z := Int32.toInt_ofInt_of_le h1 h2
theorem iI_lt {x y : Int} (h1 : -2 ^ 31 ≤ x) (h2 : x < 2 ^ 31) (h3 : -2 ^ 31 ≤ y) (h4 : y < 2 ^ 31) : (iI x < iI y) = (x < y) := by
  rw [Int32.lt_iff_toInt_lt, iI_toInt h1 h2, iI_toInt h3 h4]
theorem iI_le {x y : Int} (h1 : -2 ^ 31 ≤ x) (h2 : x < 2 ^ 31) (h3 : -2 ^ 31 ≤ y) (h4 : y < 2 ^ 31) : (iI x ≤ iI y) = (x ≤ y) := by
  rw [Int32.le_iff_toInt_le, iI_toInt h1 h2, iI_toInt h3 h4]
section OFFB
variable {d : Nat} {σ : MS} {a : Nat} {A : Ofc} {K : Option Value → MS → Prop}
def Ofc.kinO (A : Ofc) (lay : Nat → Option Nat) (c : Nat) (but : Option Nat) (o : Option Nat) : Nat := match o with
  | none => 0
  | some p => A.kin lay c but p
theorem kinO288 (O : OfcOk A) (lay : Nat → Option Nat) (c : Nat) (but o : Option Nat) : A.kinO lay c but o ≤ 288 := by
  unfold Ofc.kinO
  split
  · omega
  · exact kin288 O _ _ _ _
theorem c_kinO (H : ROff σ a A) (O : OfcOk A) {b c : Nat} {lay : Nat → Option Nat} (hb : sK σ b = (1, 20)) (hl : ∀ e, e < 20 → sI σ b e = oI (lay e)) (hn : ∀ e q, lay e = some q → q < A.np) (hc : c < A.wide * A.high) {but : Nat} (hbut : but < 2 ^ 31) (o : Option Nat) (ho : ∀ p, o = some p → p < A.np) :
   zC (d + 1) 71 [.ref a, .ref b, .int (nI c), .int (nI but), .int (oI o)] σ K = K (some (.int (nI (A.kinO lay c (some but) o)))) σ := by
  have h20 := cells20 O
  cases o with
  | none =>
    have m1 : -nI 1 < nI 0 := by decide
    rw [E_71]
    simp (disch := omega) only [L_71_0, zt_71_0, L_71_22, zt_71_22, L_71_24, zt_71_24, L_71_67, zt_71_67, L_71_71, zt_71_71, L_71_75, zt_71_75, L_71_107, zt_71_107, L_71_113, zt_71_113, ↓e_iconst0, ↓e_iconst1, ↓e_bipush0, ↓e_bipush1, ↓e_sipush0, ↓e_sipush1, ↓e_ldc0, ↓e_ldc1, ↓e_ldc_w0, ↓e_ldc_w1, ↓e_ldc2, ↓e_lconst0, ↓e_lconst1, ↓e_ldc2_w0, ↓e_ldc2_w1, ↓e_iload, ↓e_iload_n, ↓e_istore, ↓e_istore_n, ↓e_lload, ↓e_lload_n, ↓e_lstore, ↓e_lstore_n, ↓e_aload, ↓e_aload_n, ↓e_astore, ↓e_astore_n, ↓e_iinc0, ↓e_iinc1, ↓e_iadd, ↓e_isub, ↓e_imul, ↓e_iand, ↓e_ior, ↓e_ixor, ↓e_ishl, ↓e_ishr, ↓e_iushr, ↓e_ladd, ↓e_lsub, ↓e_lmul, ↓e_land, ↓e_lor, ↓e_idiv, ↓e_irem, ↓e_ldiv, ↓e_lrem, ↓e_lshl, ↓e_lcmp, ↓e_i2l, ↓e_l2i, ↓e_i2b, ↓e_i2s, ↓e_dup_int, ↓e_pop_int, ↓e_dup_ref, ↓e_pop_ref, ↓e_dup2, ↓e_goto, ↓e_nop, ↓e_ifCond_eq, ↓e_if_icmp_eq, ↓e_ifCond_ne, ↓e_if_icmp_ne, ↓e_ifCond_lt, ↓e_if_icmp_lt, ↓e_ifCond_ge, ↓e_if_icmp_ge, ↓e_ifCond_gt, ↓e_if_icmp_gt, ↓e_ifCond_le, ↓e_if_icmp_le, ↓e_tab, ↓e_look, ↓e_get0, ↓e_get1, ↓e_get2, ↓e_get3, ↓e_put0, ↓e_put1, ↓e_put2, ↓e_put3, ↓e_iaload, ↓e_laload, ↓e_baload, ↓e_aaload, ↓e_iastore, ↓e_lastore, ↓e_bastore, ↓e_aastore, ↓e_alen, ↓e_new, ↓e_newarray, ↓e_anewarray, ↓e_objinit, ↓e_virt1, ↓e_virt2, ↓e_virt3, ↓e_virt4, ↓e_virt5, ↓e_virt6, ↓e_virt7, ↓e_stat0, ↓e_stat1, ↓e_stat2, ↓e_stat3, ↓e_stat4, ↓e_stat5, ↓e_stat6, ↓e_stat7, ↓e_spec1, ↓e_spec2, ↓e_spec3, ↓e_spec4, ↓e_spec5, ↓e_strlen, ↓e_charAt, ↓e_copy, ↓e_iret0, ↓e_iret1, ↓e_lret, ↓e_aret, ↓e_vret, zIsI_int, zIsL_long, zIsA_ref, zInt_int, true_and, and_true, ↓reduceIte, zGet, zSet, zSet2, zEnt, zWid, Value.category, List.map_cons, List.map_nil, List.sum_cons, List.sum_nil, List.replicate, Option.toList, Nat.reduceAdd, Nat.reduceSub, Nat.reduceMul, Nat.reduceLeDiff, Nat.reduceEqDiff, Nat.reduceLT, List.cons_append, List.nil_append, true_or, or_true, or_false, false_or, H.k, H.i0, H.i1, H.i2, H.i3, H.i4, H.i5, H.i6, H.i7, H.r8, H.r9, H.r10, H.r11, H.r12, H.r13, H.r14, H.r15, H.r16, H.r17, H.r18, H.k1, H.k2, H.k3, H.k4, H.k5, H.k6, H.k7, H.k8, H.k9, H.k10, H.k11, nI_ltI, nI_leI, nI_eq, nI_clamp, zIn_nI, bI_0, nI_add, nI_mul, nI_or, nI_and, nI_shl1, nI_bit, ↓pk_rem, pk_div, Nat.lt_irrefl, Nat.not_lt_zero, reduceCtorEq, show c < 20 from by omega, show oI none = -nI 1 from rfl, m1]
    rfl
  | some p => exact c_kinAround H O hb hl hn hc (some but) (fun k h => by cases h; exact hbut) (ho p rfl)
/-- how much the whole likeness grows by an exchange in a lay -/
def Ofc.gain (A : Ofc) (lay : Nat → Option Nat) (c e : Nat) : Int := (A.kinO lay c (some e) (lay e) : Int) - A.kinO lay c (some e) (lay c) + A.kinO lay e (some c) (lay c) - A.kinO lay e (some c) (lay e)
theorem c_gainOfExchange (H : ROff σ a A) (O : OfcOk A) {b c e : Nat} {lay : Nat → Option Nat} (hb : sK σ b = (1, 20)) (hl : ∀ e, e < 20 → sI σ b e = oI (lay e)) (hn : ∀ e q, lay e = some q → q < A.np) (hc : c < A.wide * A.high) (he : e < A.wide * A.high) :
   zC (d + 2) 90 [.ref a, .ref b, .int (nI c), .int (nI e)] σ K = K (some (.int (iI (A.gain lay c e)))) σ := by
  have h20 := cells20 O
  have hc20 : c < 20 := by omega
  have he20 : e < 20 := by omega
  have pa : ∀ (x : Nat) (K : Option Value → MS → Prop), x < 20 → zC (d + 1) 70 [.ref a, .ref b, .int (nI x)] σ K = K (some (.int (oI (lay x)))) σ := fun x K hx => by
    have := c_paperAt (d := d) (σ := σ) (a := a) (K := K) hb (some x) (fun c h => by cases h; exact hx)
    rw [show oI (some x) = nI x from rfl] at this
    rw [this]
    simp only [hl x hx]
  rw [E_90]
  simp (disch := omega) only [L_90_0, zt_90_0, ↓e_iconst0, ↓e_iconst1, ↓e_bipush0, ↓e_bipush1, ↓e_sipush0, ↓e_sipush1, ↓e_ldc0, ↓e_ldc1, ↓e_ldc_w0, ↓e_ldc_w1, ↓e_ldc2, ↓e_lconst0, ↓e_lconst1, ↓e_ldc2_w0, ↓e_ldc2_w1, ↓e_iload, ↓e_iload_n, ↓e_istore, ↓e_istore_n, ↓e_lload, ↓e_lload_n, ↓e_lstore, ↓e_lstore_n, ↓e_aload, ↓e_aload_n, ↓e_astore, ↓e_astore_n, ↓e_iinc0, ↓e_iinc1, ↓e_iadd, ↓e_isub, ↓e_imul, ↓e_iand, ↓e_ior, ↓e_ixor, ↓e_ishl, ↓e_ishr, ↓e_iushr, ↓e_ladd, ↓e_lsub, ↓e_lmul, ↓e_land, ↓e_lor, ↓e_idiv, ↓e_irem, ↓e_ldiv, ↓e_lrem, ↓e_lshl, ↓e_lcmp, ↓e_i2l, ↓e_l2i, ↓e_i2b, ↓e_i2s, ↓e_dup_int, ↓e_pop_int, ↓e_dup_ref, ↓e_pop_ref, ↓e_dup2, ↓e_goto, ↓e_nop, ↓e_ifCond_eq, ↓e_if_icmp_eq, ↓e_ifCond_ne, ↓e_if_icmp_ne, ↓e_ifCond_lt, ↓e_if_icmp_lt, ↓e_ifCond_ge, ↓e_if_icmp_ge, ↓e_ifCond_gt, ↓e_if_icmp_gt, ↓e_ifCond_le, ↓e_if_icmp_le, ↓e_tab, ↓e_look, ↓e_get0, ↓e_get1, ↓e_get2, ↓e_get3, ↓e_put0, ↓e_put1, ↓e_put2, ↓e_put3, ↓e_iaload, ↓e_laload, ↓e_baload, ↓e_aaload, ↓e_iastore, ↓e_lastore, ↓e_bastore, ↓e_aastore, ↓e_alen, ↓e_new, ↓e_newarray, ↓e_anewarray, ↓e_objinit, ↓e_virt1, ↓e_virt2, ↓e_virt3, ↓e_virt4, ↓e_virt5, ↓e_virt6, ↓e_virt7, ↓e_stat0, ↓e_stat1, ↓e_stat2, ↓e_stat3, ↓e_stat4, ↓e_stat5, ↓e_stat6, ↓e_stat7, ↓e_spec1, ↓e_spec2, ↓e_spec3, ↓e_spec4, ↓e_spec5, ↓e_strlen, ↓e_charAt, ↓e_copy, ↓e_iret0, ↓e_iret1, ↓e_lret, ↓e_aret, ↓e_vret, zIsI_int, zIsL_long, zIsA_ref, zInt_int, true_and, and_true, ↓reduceIte, zGet, zSet, zSet2, zEnt, zWid, Value.category, List.map_cons, List.map_nil, List.sum_cons, List.sum_nil, List.replicate, Option.toList, Nat.reduceAdd, Nat.reduceSub, Nat.reduceMul, Nat.reduceLeDiff, Nat.reduceEqDiff, Nat.reduceLT, List.cons_append, List.nil_append, true_or, or_true, or_false, false_or, H.k, H.i0, H.i1, H.i2, H.i3, H.i4, H.i5, H.i6, H.i7, H.r8, H.r9, H.r10, H.r11, H.r12, H.r13, H.r14, H.r15, H.r16, H.r17, H.r18, H.k1, H.k2, H.k3, H.k4, H.k5, H.k6, H.k7, H.k8, H.k9, H.k10, H.k11, ↓pa, ↓c_kinO H O hb hl hn hc (but := e) (by omega) _ (fun p h => hn _ p h), ↓c_kinO H O hb hl hn he (but := c) (by omega) _ (fun p h => hn _ p h)]
  simp only [nI_iI, iI_add, iI_sub]
  rfl
end OFFB
