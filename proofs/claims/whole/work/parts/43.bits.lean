section BITS
variable {d : Nat} {σ : MS} {K : Option Value → MS → Prop}
/-- how many bits a set has -/
def pop (x : Nat) : Nat := ((List.range 8).filter (fun i => x.testBit i)).length
def ush (x s : Int32) : Int32 := (x.toUInt32 >>> (s.toUInt32 &&& Int32.toUInt32 31)).toInt32
def bc1 (x : Int32) : Int32 := x - (ush x (nI 1) &&& nI 1431655765)
def bc2 (x : Int32) : Int32 := (x &&& nI 858993459) + (ush x (nI 2) &&& nI 858993459)
def bc3 (x : Int32) : Int32 := x + ush x (nI 4) &&& nI 252645135
def bc4 (x : Int32) : Int32 := x + ush x (nI 8)
def bc5 (x : Int32) : Int32 := x + ush x (nI 16)
theorem c_bitCountX (x : Int32) : zC (d + 1) 386 [.int x] σ K = K (some (.int (bc5 (bc4 (bc3 (bc2 (bc1 x)))) &&& nI 63))) σ := by
  rw [E_386]
  simp only [L_386_0, zt_386_0, ↓e_iconst0, ↓e_iconst1, ↓e_bipush0, ↓e_bipush1, ↓e_sipush0, ↓e_sipush1, ↓e_ldc0, ↓e_ldc1, ↓e_ldc_w0, ↓e_ldc_w1, ↓e_ldc2, ↓e_lconst0, ↓e_lconst1, ↓e_ldc2_w0, ↓e_ldc2_w1, ↓e_iload, ↓e_iload_n, ↓e_istore, ↓e_istore_n, ↓e_lload, ↓e_lload_n, ↓e_lstore, ↓e_lstore_n, ↓e_aload, ↓e_aload_n, ↓e_astore, ↓e_astore_n, ↓e_iinc0, ↓e_iinc1, ↓e_iadd, ↓e_isub, ↓e_imul, ↓e_iand, ↓e_ior, ↓e_ixor, ↓e_ishl, ↓e_ishr, ↓e_iushr, ↓e_ladd, ↓e_lsub, ↓e_lmul, ↓e_land, ↓e_lor, ↓e_idiv, ↓e_irem, ↓e_ldiv, ↓e_lrem, ↓e_lshl, ↓e_lcmp, ↓e_i2l, ↓e_l2i, ↓e_i2b, ↓e_i2s, ↓e_dup_int, ↓e_pop_int, ↓e_dup_ref, ↓e_pop_ref, ↓e_dup2, ↓e_goto, ↓e_nop, ↓e_ifCond_eq, ↓e_if_icmp_eq, ↓e_ifCond_ne, ↓e_if_icmp_ne, ↓e_ifCond_lt, ↓e_if_icmp_lt, ↓e_ifCond_ge, ↓e_if_icmp_ge, ↓e_ifCond_gt, ↓e_if_icmp_gt, ↓e_ifCond_le, ↓e_if_icmp_le, ↓e_tab, ↓e_look, ↓e_get0, ↓e_get1, ↓e_get2, ↓e_get3, ↓e_put0, ↓e_put1, ↓e_put2, ↓e_put3, ↓e_iaload, ↓e_laload, ↓e_baload, ↓e_aaload, ↓e_iastore, ↓e_lastore, ↓e_bastore, ↓e_aastore, ↓e_alen, ↓e_new, ↓e_newarray, ↓e_anewarray, ↓e_objinit, ↓e_virt1, ↓e_virt2, ↓e_virt3, ↓e_virt4, ↓e_virt5, ↓e_virt6, ↓e_virt7, ↓e_stat0, ↓e_stat1, ↓e_stat2, ↓e_stat3, ↓e_stat4, ↓e_stat5, ↓e_stat6, ↓e_stat7, ↓e_spec1, ↓e_spec2, ↓e_spec3, ↓e_spec4, ↓e_spec5, ↓e_strlen, ↓e_charAt, ↓e_copy, ↓e_iret0, ↓e_iret1, ↓e_lret, ↓e_aret, ↓e_vret, zIsI_int, zIsL_long, zIsA_ref, zInt_int, true_and, and_true, ↓reduceIte, zGet, zSet, zSet2, zEnt, zWid, Value.category, List.map_cons, List.map_nil, List.sum_cons, List.sum_nil, List.replicate, Option.toList, Nat.reduceAdd, Nat.reduceSub, Nat.reduceMul, Nat.reduceLeDiff, Nat.reduceEqDiff, Nat.reduceLT, List.cons_append, List.nil_append, true_or, or_true, or_false, false_or]
  rfl
theorem bc256 : ∀ x, x < 256 → bc5 (bc4 (bc3 (bc2 (bc1 (nI x))))) &&& nI 63 = nI (pop x) := by decide +kernel
theorem c_bitCount {x : Nat} (hx : x < 256) : zC (d + 1) 386 [.int (nI x)] σ K = K (some (.int (nI (pop x)))) σ := by
  rw [c_bitCountX, bc256 x hx]
end BITS
