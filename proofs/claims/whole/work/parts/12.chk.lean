def zIni : List Nat := [0, 9, 12, 24, 30, 38, 96, 108, 127, 133, 141, 218]
theorem zIni_ok : ∀ q ∈ zIni, (zmn q).name = "<init>" := List.forall_mem_cons.mpr ⟨rfl, List.forall_mem_cons.mpr ⟨rfl, List.forall_mem_cons.mpr ⟨rfl, List.forall_mem_cons.mpr ⟨rfl, List.forall_mem_cons.mpr ⟨rfl, List.forall_mem_cons.mpr ⟨rfl, List.forall_mem_cons.mpr ⟨rfl, List.forall_mem_cons.mpr ⟨rfl, List.forall_mem_cons.mpr ⟨rfl, List.forall_mem_cons.mpr ⟨rfl, List.forall_mem_cons.mpr ⟨rfl, List.forall_mem_cons.mpr ⟨rfl, fun _ h => absurd h List.not_mem_nil⟩⟩⟩⟩⟩⟩⟩⟩⟩⟩⟩⟩
def zNA : List (List Nat) := [[0, 1, 1, 1, 0, 1, 0, 2, 3, 0, 0, 1, 3, 0, 0, 0, 0, 0, 0, 1], [2, 1, 1, 0, 0, 2, 5, 5, 2, 2, 0, 3, 3, 2, 3, 1, 1, 0, 0, 0], [1, 2, 1, 1, 1, 1, 1, 1, 1, 1, 1, 1, 1, 1, 1, 1, 3, 0, 0, 1], [2, 1, 2, 2, 0, 0, 1, 2, 1, 2, 2, 4, 0, 1, 1, 2, 2, 2, 1, 1], [2, 2, 2, 1, 2, 1, 1, 1, 2, 3, 3, 0, 1, 0, 1, 1, 2, 0, 0, 0], [0, 0, 0, 0, 0, 1, 0, 0, 0, 1, 1, 0, 0, 0, 1, 1, 1, 1, 1, 1], [0, 1, 1, 1, 0, 0, 2, 0, 2, 2, 1, 2, 1, 0, 3, 4, 0, 0, 0, 2], [1, 0, 0, 0, 0, 3, 3, 2, 5, 5, 1, 1, 1, 1, 2, 1, 1, 1, 1, 1], [2, 1, 2, 0, 3, 2, 2, 2, 1, 2, 2, 2, 1, 1, 1, 0, 1, 2, 2, 1], [1, 2, 2, 2, 3, 1, 0, 0, 1, 0, 1, 0, 0, 1, 1, 2, 3, 1, 1, 2], [1, 1, 1, 2, 0, 0, 1, 1, 1, 0, 1, 2, 2, 3, 1, 2, 2, 0, 0, 1], [0, 0, 0, 1, 1, 1, 1, 2, 1, 2, 3, 2, 3, 2, 5, 3, 5, 1, 1, 1], [1, 0, 1, 1, 1, 2, 1, 2, 3, 1, 0, 2, 1, 1, 1, 3, 3, 0, 0, 0], [1, 0, 0, 0, 1, 1, 1, 1, 2, 0, 1, 0, 1, 1, 1, 1, 1, 1, 2, 1], [1, 1, 1, 1, 2, 0, 0, 1, 2, 2, 0, 1, 2, 1, 1, 1, 1, 1, 1, 1], [2, 1, 1, 2, 2, 0, 0, 0, 3, 2, 2, 1, 2, 2, 2, 2, 1, 1, 1, 1], [0, 1, 2, 2, 2, 2, 2, 1, 1, 2, 2, 2, 2, 1, 2, 3, 1, 1, 0, 1], [1, 0, 0, 1, 0, 0, 1, 0, 0, 1, 1, 1, 1, 2, 2, 3, 3, 3, 2, 3], [0, 1, 1, 1, 2, 1, 1, 1, 1, 2, 1, 1, 2, 0, 0, 1, 1, 1, 1, 1], [1, 2, 2, 0, 0, 1, 1, 1, 2, 2, 2, 2, 1, 2]]
def zna (m : Nat) : Nat := (zNA.getD (m / 20) []).getD (m % 20) 0
def zWq : List (Nat × Nat × Nat) := [(7, 19, 0), (2, 94, 1), (2, 96, 2), (2, 98, 3), (2, 100, 4), (2, 102, 5), (2, 104, 6), (2, 106, 7), (11, 195, 8)]
def zWt : List (Nat × Nat × Nat) := [(7, 21, 3), (7, 27, 4), (2, 116, 3), (2, 122, 4), (11, 162, 3), (11, 168, 4)]
def zdec (m pc : Nat) (i : Jvm.ClassFile.Instr) (n : Nat) : Bool := match decode (zby m) pc with
  | .ok (j, k) => decide (j = i) && k == n
  | _ => false
theorem zdec_ok {m pc : Nat} {i : Jvm.ClassFile.Instr} {n : Nat} (h : zdec m pc i n = true) : decode (zby m) pc = .ok (i, n) := by
  unfold zdec at h
  split at h
  · next j k e =>
    rw [Bool.and_eq_true, decide_eq_true_eq, beq_iff_eq] at h
    rw [e, h.1, h.2]
  · cases h
def zjmp (pc : Nat) (v : Int) (a : Nat) : Bool := decide ((pc : Int) + v = (a : Int))
def zfldok (m v a b t : Nat) : Bool := zWf.contains (zow m, v, a, b) && decide (b < znf a) && decide (a < 12) && t == zft a b
def zcalok (a : Nat) : Bool := zWc.contains a && zWk.contains (zow a) && decide (zow a ≠ 12)
def zchk (m pc : Nat) (o : zOp) : Bool := match o with
  | (.nop, a, _, _, _, _) => a == pc
  | (.iconst v, a, _, t, _, n) => zdec m pc (.iconst v) n && n == 1 && decide (Int32.ofInt v = zk32 a t)
  | (.bipush v, a, _, t, _, n) => zdec m pc (.bipush v) n && n == 2 && decide ((Int8.ofInt v).toInt32 = zk32 a t)
  | (.sipush v, a, _, t, _, n) => zdec m pc (.sipush v) n && n == 3 && decide ((Int16.ofInt v).toInt32 = zk32 a t)
  | (.ldc v, a, _, t, _, n) => zdec m pc (.ldc v) n && n == 2 && (if t = 2 then zWq.contains (zow m, v, a) else zWx.contains (zow m, v, a, t))
  | (.ldc_w v, a, _, t, _, n) => zdec m pc (.ldc_w v) n && n == 3 && zWx.contains (zow m, v, a, t)
  | (.lconst v, a, _, t, _, n) => zdec m pc (.lconst v) n && n == 1 && decide (Int64.ofNat (v : Nat) = zk64 a t)
  | (.ldc2_w v, a, _, t, _, n) => zdec m pc (.ldc2_w v) n && n == 3 && zWy.contains (zow m, v, a, t)
  | (.iload v, a, _, _, _, n) => zdec m pc (.iload v) n && n == 2 && v == a
  | (.iload_n v, a, _, _, _, n) => zdec m pc (.iload_n v) n && n == 1 && (v : Nat) == a
  | (.istore v, a, _, _, _, n) => zdec m pc (.istore v) n && n == 2 && v == a && decide (a < zmx m)
  | (.istore_n v, a, _, _, _, n) => zdec m pc (.istore_n v) n && n == 1 && (v : Nat) == a && decide (a < zmx m)
  | (.lload v, a, _, _, _, n) => zdec m pc (.lload v) n && n == 2 && v == a
  | (.lload_n v, a, _, _, _, n) => zdec m pc (.lload_n v) n && n == 1 && (v : Nat) == a
  | (.lstore v, a, _, _, _, n) => zdec m pc (.lstore v) n && n == 2 && v == a && decide (a + 1 < zmx m)
  | (.lstore_n v, a, _, _, _, n) => zdec m pc (.lstore_n v) n && n == 1 && (v : Nat) == a && decide (a + 1 < zmx m)
  | (.aload v, a, _, _, _, n) => zdec m pc (.aload v) n && n == 2 && v == a
  | (.aload_n v, a, _, _, _, n) => zdec m pc (.aload_n v) n && n == 1 && (v : Nat) == a
  | (.astore v, a, _, _, _, n) => zdec m pc (.astore v) n && n == 2 && v == a && decide (a < zmx m)
  | (.astore_n v, a, _, _, _, n) => zdec m pc (.astore_n v) n && n == 1 && (v : Nat) == a && decide (a < zmx m)
  | (.iinc v w, a, b, t, _, n) => zdec m pc (.iinc v w) n && n == 3 && v == a && decide (a < zmx m) && decide (Int32.ofInt w = zk32 b t)
  | (.iadd, _, _, _, _, n) => zdec m pc .iadd n && n == 1
  | (.isub, _, _, _, _, n) => zdec m pc .isub n && n == 1
  | (.imul, _, _, _, _, n) => zdec m pc .imul n && n == 1
  | (.iand, _, _, _, _, n) => zdec m pc .iand n && n == 1
  | (.ior, _, _, _, _, n) => zdec m pc .ior n && n == 1
  | (.ixor, _, _, _, _, n) => zdec m pc .ixor n && n == 1
  | (.idiv, _, _, _, _, n) => zdec m pc .idiv n && n == 1
  | (.irem, _, _, _, _, n) => zdec m pc .irem n && n == 1
  | (.ishl, _, _, _, _, n) => zdec m pc .ishl n && n == 1
  | (.ishr, _, _, _, _, n) => zdec m pc .ishr n && n == 1
  | (.iushr, _, _, _, _, n) => zdec m pc .iushr n && n == 1
  | (.ladd, _, _, _, _, n) => zdec m pc .ladd n && n == 1
  | (.lsub, _, _, _, _, n) => zdec m pc .lsub n && n == 1
  | (.lmul, _, _, _, _, n) => zdec m pc .lmul n && n == 1
  | (.land, _, _, _, _, n) => zdec m pc .land n && n == 1
  | (.lor, _, _, _, _, n) => zdec m pc .lor n && n == 1
  | (.ldiv, _, _, _, _, n) => zdec m pc .ldiv n && n == 1
  | (.lrem, _, _, _, _, n) => zdec m pc .lrem n && n == 1
  | (.lshl, _, _, _, _, n) => zdec m pc .lshl n && n == 1
  | (.lcmp, _, _, _, _, n) => zdec m pc .lcmp n && n == 1
  | (.i2l, _, _, _, _, n) => zdec m pc .i2l n && n == 1
  | (.l2i, _, _, _, _, n) => zdec m pc .l2i n && n == 1
  | (.i2b, _, _, _, _, n) => zdec m pc .i2b n && n == 1
  | (.i2s, _, _, _, _, n) => zdec m pc .i2s n && n == 1
  | (.dup, _, _, _, _, n) => zdec m pc .dup n && n == 1
  | (.dup2, _, _, _, _, n) => zdec m pc .dup2 n && n == 1
  | (.pop, _, _, _, _, n) => zdec m pc .pop n && n == 1
  | (.iaload, _, _, _, _, n) => zdec m pc .iaload n && n == 1
  | (.laload, _, _, _, _, n) => zdec m pc .laload n && n == 1
  | (.baload, _, _, _, _, n) => zdec m pc .baload n && n == 1
  | (.aaload, _, _, _, _, n) => zdec m pc .aaload n && n == 1
  | (.iastore, _, _, _, _, n) => zdec m pc .iastore n && n == 1
  | (.lastore, _, _, _, _, n) => zdec m pc .lastore n && n == 1
  | (.bastore, _, _, _, _, n) => zdec m pc .bastore n && n == 1
  | (.aastore, _, _, _, _, n) => zdec m pc .aastore n && n == 1
  | (.arraylength, _, _, _, _, n) => zdec m pc .arraylength n && n == 1
  | (.goto v, a, _, _, _, n) => zdec m pc (.goto v) n && n == 3 && zjmp pc v a
  | (.ifCond c v, a, _, _, _, n) => zdec m pc (.ifCond c v) n && n == 3 && zjmp pc v a
  | (.if_icmp c v, a, _, _, _, n) => zdec m pc (.if_icmp c v) n && n == 3 && zjmp pc v a
  | (.tableswitch f lo hi offs, a, _, _, _, n) => zdec m pc (.tableswitch f lo hi offs) n && a == pc && decide (0 ≤ (pc : Int) + f) && offs.toList.all (fun v => decide (0 ≤ (pc : Int) + v)) && decide ((offs.size : Int) = hi - lo + 1)
  | (.lookupswitch f ps, a, _, _, _, n) => zdec m pc (.lookupswitch f ps) n && a == pc && decide (0 ≤ (pc : Int) + f) && ps.toList.all (fun v => decide (0 ≤ (pc : Int) + v.2)) && (ps.toList.zip (ps.toList.drop 1)).all (fun (a, next) => a.1 < next.1)
  | (.getfield v, a, b, t, _, n) => zdec m pc (.getfield v) n && n == 3 && zfldok m v a b t
  | (.putfield v, a, b, t, u, n) => zdec m pc (.putfield v) n && n == 3 && zfldok m v a b t && (if u = 1 then (zTf a b).2.2.2 && zIni.contains m && zow m == a else !(zTf a b).2.2.2)
  | (.new v, a, _, _, _, n) => zdec m pc (.new v) n && n == 3 && zWl.contains (zow m, v, a) && zWb.contains a && zWk.contains a && decide (a < 12)
  | (.newarray v, a, _, _, _, n) => zdec m pc (.newarray v) n && n == 2 && (match v with
    | .int => a == 1
    | .long => a == 2
    | .byte => a == 3
    | _ => false)
  | (.anewarray v, a, _, _, _, n) => zdec m pc (.anewarray v) n && n == 3 && zWl.contains (zow m, v, a - 40) && (a == 41 || a == 45 || a == 48)
  | (.invokevirtual v, a, b, t, u, n) => zdec m pc (.invokevirtual v) n && n == 3 && (if t = 0 then (zWn.contains (zow m, v, a) || zWm.contains (zow m, v, a)) && zcalok a && zWi.contains a && zWv.contains a && zow a == u && decide (u < 12) && b == zna a + 1 else zWt.contains (zow m, v, t))
  | (.invokestatic v, a, b, t, _, n) => zdec m pc (.invokestatic v) n && n == 3 && (if t = 5 then zWm.contains (zow m, v, a) && zcalok a && zWs.contains a && b == zna a else t == 2 && zWa.contains (zow m, v))
  | (.invokespecial v, a, b, t, u, n) => zdec m pc (.invokespecial v) n && n == 3 && (if t = 0 then (zWn.contains (zow m, v, a) || zWm.contains (zow m, v, a)) && zcalok a && zWi.contains a && zIni.contains a && zow a == u && decide (u < 12) && b == zna a + 1 else t == 1 && zWo.contains (zow m, v))
  | (.ireturn, _, _, t, _, n) => zdec m pc .ireturn n && n == 1 && decide (zrt m = some (if t = 1 then .boolean else .int))
  | (.lreturn, _, _, _, _, n) => zdec m pc .lreturn n && n == 1 && decide (zrt m = some .long)
  | (.areturn, _, _, _, _, n) => zdec m pc .areturn n && n == 1 && (match zrt m with
    | some (.object _) => true
    | _ => false)
  | (.return_, _, _, _, _, n) => zdec m pc .return_ n && n == 1 && decide (zrt m = none)
  | _ => false
def zchkT (m : Nat) : Nat → List zOp → Bool
  | _, [] => true
  | pc, o :: rest => zchk m pc o && zchkT m (pc + o.2.2.2.2.2) rest
