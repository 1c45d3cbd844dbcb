def zIsI (v : Value) : Bool := match v with
  | .int _ => true
  | _ => false
def zIsL (v : Value) : Bool := match v with
  | .long _ => true
  | _ => false
def zIsA (v : Value) : Bool := match v with
  | .ref _ => true
  | _ => false
def zInt (v : Value) : Int32 := match v with
  | .int x => x
  | _ => 0
theorem zIsI_int (x : Int32) : (zIsI (.int x) = true) = True := eq_self true
theorem zIsL_long (x : Int64) : (zIsL (.long x) = true) = True := eq_self true
theorem zIsA_ref (x : Nat) : (zIsA (.ref x) = true) = True := eq_self true
theorem zInt_int (x : Int32) : zInt (.int x) = x := rfl
theorem zGet_0 (v : Value) (l : List Value) : zGet (v :: l) 0 = v := rfl
theorem zGet_s (v : Value) (l : List Value) (n : Nat) : zGet (v :: l) (n + 1) = zGet l n := rfl
theorem e_iconst0 (d m : Nat) (rest : List zOp) (ls st : List Value) (σ : MS) (Q : Option Value → MS → Prop) (v : Int) (a b u n : Nat) : zB d m ((.iconst v, a, b, 0, u, n) :: rest) ls st σ Q = zB d m rest ls (.int (nI a) :: st) σ Q := rfl
theorem e_iconst1 (d m : Nat) (rest : List zOp) (ls st : List Value) (σ : MS) (Q : Option Value → MS → Prop) (v : Int) (a b u n : Nat) : zB d m ((.iconst v, a, b, 1, u, n) :: rest) ls st σ Q = zB d m rest ls (.int (-(nI a)) :: st) σ Q := rfl
theorem e_bipush0 (d m : Nat) (rest : List zOp) (ls st : List Value) (σ : MS) (Q : Option Value → MS → Prop) (v : Int) (a b u n : Nat) : zB d m ((.bipush v, a, b, 0, u, n) :: rest) ls st σ Q = zB d m rest ls (.int (nI a) :: st) σ Q := rfl
theorem e_bipush1 (d m : Nat) (rest : List zOp) (ls st : List Value) (σ : MS) (Q : Option Value → MS → Prop) (v : Int) (a b u n : Nat) : zB d m ((.bipush v, a, b, 1, u, n) :: rest) ls st σ Q = zB d m rest ls (.int (-(nI a)) :: st) σ Q := rfl
theorem e_sipush0 (d m : Nat) (rest : List zOp) (ls st : List Value) (σ : MS) (Q : Option Value → MS → Prop) (v : Int) (a b u n : Nat) : zB d m ((.sipush v, a, b, 0, u, n) :: rest) ls st σ Q = zB d m rest ls (.int (nI a) :: st) σ Q := rfl
theorem e_sipush1 (d m : Nat) (rest : List zOp) (ls st : List Value) (σ : MS) (Q : Option Value → MS → Prop) (v : Int) (a b u n : Nat) : zB d m ((.sipush v, a, b, 1, u, n) :: rest) ls st σ Q = zB d m rest ls (.int (-(nI a)) :: st) σ Q := rfl
theorem e_ldc0 (d m : Nat) (rest : List zOp) (ls st : List Value) (σ : MS) (Q : Option Value → MS → Prop) (v : Nat) (a b u n : Nat) : zB d m ((.ldc v, a, b, 0, u, n) :: rest) ls st σ Q = zB d m rest ls (.int (nI a) :: st) σ Q := rfl
theorem e_ldc1 (d m : Nat) (rest : List zOp) (ls st : List Value) (σ : MS) (Q : Option Value → MS → Prop) (v : Nat) (a b u n : Nat) : zB d m ((.ldc v, a, b, 1, u, n) :: rest) ls st σ Q = zB d m rest ls (.int (-(nI a)) :: st) σ Q := rfl
theorem e_ldc_w0 (d m : Nat) (rest : List zOp) (ls st : List Value) (σ : MS) (Q : Option Value → MS → Prop) (v : Nat) (a b u n : Nat) : zB d m ((.ldc_w v, a, b, 0, u, n) :: rest) ls st σ Q = zB d m rest ls (.int (nI a) :: st) σ Q := rfl
theorem e_ldc_w1 (d m : Nat) (rest : List zOp) (ls st : List Value) (σ : MS) (Q : Option Value → MS → Prop) (v : Nat) (a b u n : Nat) : zB d m ((.ldc_w v, a, b, 1, u, n) :: rest) ls st σ Q = zB d m rest ls (.int (-(nI a)) :: st) σ Q := rfl
theorem e_ldc2 (d m : Nat) (rest : List zOp) (ls st : List Value) (σ : MS) (Q : Option Value → MS → Prop) (v : Nat) (a b u n : Nat) : zB d m ((.ldc v, a, b, 2, u, n) :: rest) ls st σ Q = zB d m rest ls (.ref (zStr + a) :: st) σ Q := rfl
theorem e_lconst0 (d m : Nat) (rest : List zOp) (ls st : List Value) (σ : MS) (Q : Option Value → MS → Prop) (v : Fin 2) (a b u n : Nat) : zB d m ((.lconst v, a, b, 0, u, n) :: rest) ls st σ Q = zB d m rest ls (.long (lN a) :: st) σ Q := rfl
theorem e_lconst1 (d m : Nat) (rest : List zOp) (ls st : List Value) (σ : MS) (Q : Option Value → MS → Prop) (v : Fin 2) (a b u n : Nat) : zB d m ((.lconst v, a, b, 1, u, n) :: rest) ls st σ Q = zB d m rest ls (.long (-(lN a)) :: st) σ Q := rfl
theorem e_ldc2_w0 (d m : Nat) (rest : List zOp) (ls st : List Value) (σ : MS) (Q : Option Value → MS → Prop) (v : Nat) (a b u n : Nat) : zB d m ((.ldc2_w v, a, b, 0, u, n) :: rest) ls st σ Q = zB d m rest ls (.long (lN a) :: st) σ Q := rfl
theorem e_ldc2_w1 (d m : Nat) (rest : List zOp) (ls st : List Value) (σ : MS) (Q : Option Value → MS → Prop) (v : Nat) (a b u n : Nat) : zB d m ((.ldc2_w v, a, b, 1, u, n) :: rest) ls st σ Q = zB d m rest ls (.long (-(lN a)) :: st) σ Q := rfl
theorem e_iload (d m : Nat) (rest : List zOp) (ls st : List Value) (σ : MS) (Q : Option Value → MS → Prop) (v : Nat) (a b t u n : Nat) : zB d m ((.iload v, a, b, t, u, n) :: rest) ls st σ Q = (zIsI (zGet ls a) = true ∧ zB d m rest ls (zGet ls a :: st) σ Q) := by
  rw [zB_cons]; simp only [zop]
  cases zGet ls a <;> first | exact propext ⟨fun z => ⟨rfl, z⟩, fun z => z.2⟩ | exact propext ⟨fun z => False.elim z, fun z => absurd z.1 (by decide)⟩ | exact propext ⟨fun z => False.elim z, fun z => absurd z.1 Bool.false_ne_true⟩
theorem e_iload_n (d m : Nat) (rest : List zOp) (ls st : List Value) (σ : MS) (Q : Option Value → MS → Prop) (v : Fin 4) (a b t u n : Nat) : zB d m ((.iload_n v, a, b, t, u, n) :: rest) ls st σ Q = (zIsI (zGet ls a) = true ∧ zB d m rest ls (zGet ls a :: st) σ Q) := by
  rw [zB_cons]; simp only [zop]
  cases zGet ls a <;> first | exact propext ⟨fun z => ⟨rfl, z⟩, fun z => z.2⟩ | exact propext ⟨fun z => False.elim z, fun z => absurd z.1 (by decide)⟩ | exact propext ⟨fun z => False.elim z, fun z => absurd z.1 Bool.false_ne_true⟩
theorem e_istore (d m : Nat) (rest : List zOp) (ls st : List Value) (σ : MS) (Q : Option Value → MS → Prop) (x : Int32) (v : Nat) (a b t u n : Nat) : zB d m ((.istore v, a, b, t, u, n) :: rest) ls (.int x :: st) σ Q = zB d m rest (zSet ls a (.int x)) st σ Q := rfl
theorem e_istore_n (d m : Nat) (rest : List zOp) (ls st : List Value) (σ : MS) (Q : Option Value → MS → Prop) (x : Int32) (v : Fin 4) (a b t u n : Nat) : zB d m ((.istore_n v, a, b, t, u, n) :: rest) ls (.int x :: st) σ Q = zB d m rest (zSet ls a (.int x)) st σ Q := rfl
theorem e_lload (d m : Nat) (rest : List zOp) (ls st : List Value) (σ : MS) (Q : Option Value → MS → Prop) (v : Nat) (a b t u n : Nat) : zB d m ((.lload v, a, b, t, u, n) :: rest) ls st σ Q = (zIsL (zGet ls a) = true ∧ zB d m rest ls (zGet ls a :: st) σ Q) := by
  rw [zB_cons]; simp only [zop]
  cases zGet ls a <;> first | exact propext ⟨fun z => ⟨rfl, z⟩, fun z => z.2⟩ | exact propext ⟨fun z => False.elim z, fun z => absurd z.1 (by decide)⟩ | exact propext ⟨fun z => False.elim z, fun z => absurd z.1 Bool.false_ne_true⟩
theorem e_lload_n (d m : Nat) (rest : List zOp) (ls st : List Value) (σ : MS) (Q : Option Value → MS → Prop) (v : Fin 4) (a b t u n : Nat) : zB d m ((.lload_n v, a, b, t, u, n) :: rest) ls st σ Q = (zIsL (zGet ls a) = true ∧ zB d m rest ls (zGet ls a :: st) σ Q) := by
  rw [zB_cons]; simp only [zop]
  cases zGet ls a <;> first | exact propext ⟨fun z => ⟨rfl, z⟩, fun z => z.2⟩ | exact propext ⟨fun z => False.elim z, fun z => absurd z.1 (by decide)⟩ | exact propext ⟨fun z => False.elim z, fun z => absurd z.1 Bool.false_ne_true⟩
theorem e_lstore (d m : Nat) (rest : List zOp) (ls st : List Value) (σ : MS) (Q : Option Value → MS → Prop) (x : Int64) (v : Nat) (a b t u n : Nat) : zB d m ((.lstore v, a, b, t, u, n) :: rest) ls (.long x :: st) σ Q = zB d m rest (zSet2 ls a (.long x)) st σ Q := rfl
theorem e_lstore_n (d m : Nat) (rest : List zOp) (ls st : List Value) (σ : MS) (Q : Option Value → MS → Prop) (x : Int64) (v : Fin 4) (a b t u n : Nat) : zB d m ((.lstore_n v, a, b, t, u, n) :: rest) ls (.long x :: st) σ Q = zB d m rest (zSet2 ls a (.long x)) st σ Q := rfl
theorem e_aload (d m : Nat) (rest : List zOp) (ls st : List Value) (σ : MS) (Q : Option Value → MS → Prop) (v : Nat) (a b t u n : Nat) : zB d m ((.aload v, a, b, t, u, n) :: rest) ls st σ Q = (zIsA (zGet ls a) = true ∧ zB d m rest ls (zGet ls a :: st) σ Q) := by
  rw [zB_cons]; simp only [zop]
  cases zGet ls a <;> first | exact propext ⟨fun z => ⟨rfl, z⟩, fun z => z.2⟩ | exact propext ⟨fun z => False.elim z, fun z => absurd z.1 (by decide)⟩ | exact propext ⟨fun z => False.elim z, fun z => absurd z.1 Bool.false_ne_true⟩
theorem e_aload_n (d m : Nat) (rest : List zOp) (ls st : List Value) (σ : MS) (Q : Option Value → MS → Prop) (v : Fin 4) (a b t u n : Nat) : zB d m ((.aload_n v, a, b, t, u, n) :: rest) ls st σ Q = (zIsA (zGet ls a) = true ∧ zB d m rest ls (zGet ls a :: st) σ Q) := by
  rw [zB_cons]; simp only [zop]
  cases zGet ls a <;> first | exact propext ⟨fun z => ⟨rfl, z⟩, fun z => z.2⟩ | exact propext ⟨fun z => False.elim z, fun z => absurd z.1 (by decide)⟩ | exact propext ⟨fun z => False.elim z, fun z => absurd z.1 Bool.false_ne_true⟩
theorem e_astore (d m : Nat) (rest : List zOp) (ls st : List Value) (σ : MS) (Q : Option Value → MS → Prop) (x : Nat) (v : Nat) (a b t u n : Nat) : zB d m ((.astore v, a, b, t, u, n) :: rest) ls (.ref x :: st) σ Q = zB d m rest (zSet ls a (.ref x)) st σ Q := rfl
theorem e_astore_n (d m : Nat) (rest : List zOp) (ls st : List Value) (σ : MS) (Q : Option Value → MS → Prop) (x : Nat) (v : Fin 4) (a b t u n : Nat) : zB d m ((.astore_n v, a, b, t, u, n) :: rest) ls (.ref x :: st) σ Q = zB d m rest (zSet ls a (.ref x)) st σ Q := rfl
theorem e_iinc0 (d m : Nat) (rest : List zOp) (ls st : List Value) (σ : MS) (Q : Option Value → MS → Prop) (v : Nat) (w : Int) (a b u n : Nat) : zB d m ((.iinc v w, a, b, 0, u, n) :: rest) ls st σ Q = (zIsI (zGet ls a) = true ∧ zB d m rest (zSet ls a (.int (zInt (zGet ls a) + nI b))) st σ Q) := by
  rw [zB_cons]; simp only [zop]
  cases zGet ls a <;> first | exact propext ⟨fun z => ⟨rfl, z⟩, fun z => z.2⟩ | exact propext ⟨fun z => False.elim z, fun z => absurd z.1 Bool.false_ne_true⟩
theorem e_iinc1 (d m : Nat) (rest : List zOp) (ls st : List Value) (σ : MS) (Q : Option Value → MS → Prop) (v : Nat) (w : Int) (a b u n : Nat) : zB d m ((.iinc v w, a, b, 1, u, n) :: rest) ls st σ Q = (zIsI (zGet ls a) = true ∧ zB d m rest (zSet ls a (.int (zInt (zGet ls a) + -(nI b)))) st σ Q) := by
  rw [zB_cons]; simp only [zop]
  cases zGet ls a <;> first | exact propext ⟨fun z => ⟨rfl, z⟩, fun z => z.2⟩ | exact propext ⟨fun z => False.elim z, fun z => absurd z.1 Bool.false_ne_true⟩
theorem e_iadd (d m : Nat) (rest : List zOp) (ls st : List Value) (σ : MS) (Q : Option Value → MS → Prop) (x y : Int32) (p : Nat × Nat × Nat × Nat × Nat) : zB d m ((.iadd, p) :: rest) ls (.int y :: .int x :: st) σ Q = zB d m rest ls (.int (x + y) :: st) σ Q := rfl
theorem e_isub (d m : Nat) (rest : List zOp) (ls st : List Value) (σ : MS) (Q : Option Value → MS → Prop) (x y : Int32) (p : Nat × Nat × Nat × Nat × Nat) : zB d m ((.isub, p) :: rest) ls (.int y :: .int x :: st) σ Q = zB d m rest ls (.int (x - y) :: st) σ Q := rfl
theorem e_imul (d m : Nat) (rest : List zOp) (ls st : List Value) (σ : MS) (Q : Option Value → MS → Prop) (x y : Int32) (p : Nat × Nat × Nat × Nat × Nat) : zB d m ((.imul, p) :: rest) ls (.int y :: .int x :: st) σ Q = zB d m rest ls (.int (x * y) :: st) σ Q := rfl
theorem e_iand (d m : Nat) (rest : List zOp) (ls st : List Value) (σ : MS) (Q : Option Value → MS → Prop) (x y : Int32) (p : Nat × Nat × Nat × Nat × Nat) : zB d m ((.iand, p) :: rest) ls (.int y :: .int x :: st) σ Q = zB d m rest ls (.int (x &&& y) :: st) σ Q := rfl
theorem e_ior (d m : Nat) (rest : List zOp) (ls st : List Value) (σ : MS) (Q : Option Value → MS → Prop) (x y : Int32) (p : Nat × Nat × Nat × Nat × Nat) : zB d m ((.ior, p) :: rest) ls (.int y :: .int x :: st) σ Q = zB d m rest ls (.int (x ||| y) :: st) σ Q := rfl
theorem e_ixor (d m : Nat) (rest : List zOp) (ls st : List Value) (σ : MS) (Q : Option Value → MS → Prop) (x y : Int32) (p : Nat × Nat × Nat × Nat × Nat) : zB d m ((.ixor, p) :: rest) ls (.int y :: .int x :: st) σ Q = zB d m rest ls (.int (x ^^^ y) :: st) σ Q := rfl
theorem e_ishl (d m : Nat) (rest : List zOp) (ls st : List Value) (σ : MS) (Q : Option Value → MS → Prop) (x y : Int32) (p : Nat × Nat × Nat × Nat × Nat) : zB d m ((.ishl, p) :: rest) ls (.int y :: .int x :: st) σ Q = zB d m rest ls (.int (x <<< (y &&& 31)) :: st) σ Q := rfl
theorem e_ishr (d m : Nat) (rest : List zOp) (ls st : List Value) (σ : MS) (Q : Option Value → MS → Prop) (x y : Int32) (p : Nat × Nat × Nat × Nat × Nat) : zB d m ((.ishr, p) :: rest) ls (.int y :: .int x :: st) σ Q = zB d m rest ls (.int (x >>> (y &&& 31)) :: st) σ Q := rfl
theorem e_iushr (d m : Nat) (rest : List zOp) (ls st : List Value) (σ : MS) (Q : Option Value → MS → Prop) (x y : Int32) (p : Nat × Nat × Nat × Nat × Nat) : zB d m ((.iushr, p) :: rest) ls (.int y :: .int x :: st) σ Q = zB d m rest ls (.int ((x.toUInt32 >>> (y.toUInt32 &&& Int32.toUInt32 31)).toInt32) :: st) σ Q := rfl
theorem e_ladd (d m : Nat) (rest : List zOp) (ls st : List Value) (σ : MS) (Q : Option Value → MS → Prop) (x y : Int64) (p : Nat × Nat × Nat × Nat × Nat) : zB d m ((.ladd, p) :: rest) ls (.long y :: .long x :: st) σ Q = zB d m rest ls (.long (x + y) :: st) σ Q := rfl
theorem e_lsub (d m : Nat) (rest : List zOp) (ls st : List Value) (σ : MS) (Q : Option Value → MS → Prop) (x y : Int64) (p : Nat × Nat × Nat × Nat × Nat) : zB d m ((.lsub, p) :: rest) ls (.long y :: .long x :: st) σ Q = zB d m rest ls (.long (x - y) :: st) σ Q := rfl
theorem e_lmul (d m : Nat) (rest : List zOp) (ls st : List Value) (σ : MS) (Q : Option Value → MS → Prop) (x y : Int64) (p : Nat × Nat × Nat × Nat × Nat) : zB d m ((.lmul, p) :: rest) ls (.long y :: .long x :: st) σ Q = zB d m rest ls (.long (x * y) :: st) σ Q := rfl
theorem e_land (d m : Nat) (rest : List zOp) (ls st : List Value) (σ : MS) (Q : Option Value → MS → Prop) (x y : Int64) (p : Nat × Nat × Nat × Nat × Nat) : zB d m ((.land, p) :: rest) ls (.long y :: .long x :: st) σ Q = zB d m rest ls (.long (x &&& y) :: st) σ Q := rfl
theorem e_lor (d m : Nat) (rest : List zOp) (ls st : List Value) (σ : MS) (Q : Option Value → MS → Prop) (x y : Int64) (p : Nat × Nat × Nat × Nat × Nat) : zB d m ((.lor, p) :: rest) ls (.long y :: .long x :: st) σ Q = zB d m rest ls (.long (x ||| y) :: st) σ Q := rfl
theorem e_idiv (d m : Nat) (rest : List zOp) (ls st : List Value) (σ : MS) (Q : Option Value → MS → Prop) (x y : Int32) (p : Nat × Nat × Nat × Nat × Nat) : zB d m ((.idiv, p) :: rest) ls (.int y :: .int x :: st) σ Q = (¬ y = 0 ∧ zB d m rest ls (.int (x / y) :: st) σ Q) := by
  rw [zB_cons]
  refine Eq.trans (b := zK d m rest Q (if y = 0 then none else _)) rfl ?_
  split
  · next h => exact propext ⟨fun z => False.elim z, fun z => z.1 h⟩
  · next h => exact propext ⟨fun z => ⟨h, z⟩, fun z => z.2⟩
theorem e_irem (d m : Nat) (rest : List zOp) (ls st : List Value) (σ : MS) (Q : Option Value → MS → Prop) (x y : Int32) (p : Nat × Nat × Nat × Nat × Nat) : zB d m ((.irem, p) :: rest) ls (.int y :: .int x :: st) σ Q = (¬ y = 0 ∧ zB d m rest ls (.int (x - x / y * y) :: st) σ Q) := by
  rw [zB_cons]
  refine Eq.trans (b := zK d m rest Q (if y = 0 then none else _)) rfl ?_
  split
  · next h => exact propext ⟨fun z => False.elim z, fun z => z.1 h⟩
  · next h => exact propext ⟨fun z => ⟨h, z⟩, fun z => z.2⟩
theorem e_ldiv (d m : Nat) (rest : List zOp) (ls st : List Value) (σ : MS) (Q : Option Value → MS → Prop) (x y : Int64) (p : Nat × Nat × Nat × Nat × Nat) : zB d m ((.ldiv, p) :: rest) ls (.long y :: .long x :: st) σ Q = (¬ y = 0 ∧ zB d m rest ls (.long (x / y) :: st) σ Q) := by
  rw [zB_cons]
  refine Eq.trans (b := zK d m rest Q (if y = 0 then none else _)) rfl ?_
  split
  · next h => exact propext ⟨fun z => False.elim z, fun z => z.1 h⟩
  · next h => exact propext ⟨fun z => ⟨h, z⟩, fun z => z.2⟩
theorem e_lrem (d m : Nat) (rest : List zOp) (ls st : List Value) (σ : MS) (Q : Option Value → MS → Prop) (x y : Int64) (p : Nat × Nat × Nat × Nat × Nat) : zB d m ((.lrem, p) :: rest) ls (.long y :: .long x :: st) σ Q = (¬ y = 0 ∧ zB d m rest ls (.long (x - x / y * y) :: st) σ Q) := by
  rw [zB_cons]
  refine Eq.trans (b := zK d m rest Q (if y = 0 then none else _)) rfl ?_
  split
  · next h => exact propext ⟨fun z => False.elim z, fun z => z.1 h⟩
  · next h => exact propext ⟨fun z => ⟨h, z⟩, fun z => z.2⟩
theorem e_lshl (d m : Nat) (rest : List zOp) (ls st : List Value) (σ : MS) (Q : Option Value → MS → Prop) (x : Int64) (y : Int32) (p : Nat × Nat × Nat × Nat × Nat) : zB d m ((.lshl, p) :: rest) ls (.int y :: .long x :: st) σ Q = zB d m rest ls (.long (x <<< (y.toInt64 &&& 63)) :: st) σ Q := rfl
theorem e_lcmp (d m : Nat) (rest : List zOp) (ls st : List Value) (σ : MS) (Q : Option Value → MS → Prop) (x y : Int64) (p : Nat × Nat × Nat × Nat × Nat) : zB d m ((.lcmp, p) :: rest) ls (.long y :: .long x :: st) σ Q = zB d m rest ls (.int (lg_cmp x y) :: st) σ Q := rfl
theorem e_i2l (d m : Nat) (rest : List zOp) (ls st : List Value) (σ : MS) (Q : Option Value → MS → Prop) (x : Int32) (p : Nat × Nat × Nat × Nat × Nat) : zB d m ((.i2l, p) :: rest) ls (.int x :: st) σ Q = zB d m rest ls (.long x.toInt64 :: st) σ Q := rfl
theorem e_l2i (d m : Nat) (rest : List zOp) (ls st : List Value) (σ : MS) (Q : Option Value → MS → Prop) (x : Int64) (p : Nat × Nat × Nat × Nat × Nat) : zB d m ((.l2i, p) :: rest) ls (.long x :: st) σ Q = zB d m rest ls (.int x.toInt32 :: st) σ Q := rfl
theorem e_i2b (d m : Nat) (rest : List zOp) (ls st : List Value) (σ : MS) (Q : Option Value → MS → Prop) (x : Int32) (p : Nat × Nat × Nat × Nat × Nat) : zB d m ((.i2b, p) :: rest) ls (.int x :: st) σ Q = zB d m rest ls (.int x.toInt8.toInt32 :: st) σ Q := rfl
theorem e_i2s (d m : Nat) (rest : List zOp) (ls st : List Value) (σ : MS) (Q : Option Value → MS → Prop) (x : Int32) (p : Nat × Nat × Nat × Nat × Nat) : zB d m ((.i2s, p) :: rest) ls (.int x :: st) σ Q = zB d m rest ls (.int x.toInt16.toInt32 :: st) σ Q := rfl
theorem e_dup_int (d m : Nat) (rest : List zOp) (ls st : List Value) (σ : MS) (Q : Option Value → MS → Prop) (x : Int32) (p : Nat × Nat × Nat × Nat × Nat) : zB d m ((.dup, p) :: rest) ls (.int x :: st) σ Q = zB d m rest ls (.int x :: .int x :: st) σ Q := rfl
theorem e_pop_int (d m : Nat) (rest : List zOp) (ls st : List Value) (σ : MS) (Q : Option Value → MS → Prop) (x : Int32) (p : Nat × Nat × Nat × Nat × Nat) : zB d m ((.pop, p) :: rest) ls (.int x :: st) σ Q = zB d m rest ls st σ Q := rfl
theorem e_dup_ref (d m : Nat) (rest : List zOp) (ls st : List Value) (σ : MS) (Q : Option Value → MS → Prop) (x : Nat) (p : Nat × Nat × Nat × Nat × Nat) : zB d m ((.dup, p) :: rest) ls (.ref x :: st) σ Q = zB d m rest ls (.ref x :: .ref x :: st) σ Q := rfl
theorem e_pop_ref (d m : Nat) (rest : List zOp) (ls st : List Value) (σ : MS) (Q : Option Value → MS → Prop) (x : Nat) (p : Nat × Nat × Nat × Nat × Nat) : zB d m ((.pop, p) :: rest) ls (.ref x :: st) σ Q = zB d m rest ls st σ Q := rfl
theorem e_dup2 (d m : Nat) (rest : List zOp) (ls st : List Value) (σ : MS) (Q : Option Value → MS → Prop) (x : Int32) (r : Nat) (p : Nat × Nat × Nat × Nat × Nat) : zB d m ((.dup2, p) :: rest) ls (.int x :: .ref r :: st) σ Q = zB d m rest ls (.int x :: .ref r :: .int x :: .ref r :: st) σ Q := rfl
theorem e_goto (d m : Nat) (rest : List zOp) (ls st : List Value) (σ : MS) (Q : Option Value → MS → Prop) (v : Int) (a b t u n : Nat) : zB d m ((.goto v, a, b, t, u, n) :: rest) ls st σ Q = zX d m a ls st σ Q := rfl
theorem e_nop (d m : Nat) (rest : List zOp) (ls st : List Value) (σ : MS) (Q : Option Value → MS → Prop) (a b t u n : Nat) : zB d m ((.nop, a, b, t, u, n) :: rest) ls st σ Q = zX d m a ls st σ Q := rfl
theorem e_ifCond_eq (d m : Nat) (rest : List zOp) (ls st : List Value) (σ : MS) (Q : Option Value → MS → Prop) (x : Int32) (v : Int) (a b t u n : Nat) : zB d m ((.ifCond .eq v, a, b, t, u, n) :: rest) ls (.int x :: st) σ Q = (if x = nI 0 then zX d m a ls st σ Q else zB d m rest ls st σ Q) := by
  rw [zB_cons]
  refine Eq.trans (b := zK d m rest Q (if x = nI 0 then _ else _)) rfl ?_
  split <;> rfl
theorem e_if_icmp_eq (d m : Nat) (rest : List zOp) (ls st : List Value) (σ : MS) (Q : Option Value → MS → Prop) (x y : Int32) (v : Int) (a b t u n : Nat) : zB d m ((.if_icmp .eq v, a, b, t, u, n) :: rest) ls (.int y :: .int x :: st) σ Q = (if x = y then zX d m a ls st σ Q else zB d m rest ls st σ Q) := by
  rw [zB_cons]
  refine Eq.trans (b := zK d m rest Q (if x = y then _ else _)) rfl ?_
  split <;> rfl
theorem e_ifCond_ne (d m : Nat) (rest : List zOp) (ls st : List Value) (σ : MS) (Q : Option Value → MS → Prop) (x : Int32) (v : Int) (a b t u n : Nat) : zB d m ((.ifCond .ne v, a, b, t, u, n) :: rest) ls (.int x :: st) σ Q = (if x = nI 0 then zB d m rest ls st σ Q else zX d m a ls st σ Q) := by
  rw [zB_cons]
  refine Eq.trans (b := zK d m rest Q (if x = nI 0 then _ else _)) rfl ?_
  split <;> rfl
theorem e_if_icmp_ne (d m : Nat) (rest : List zOp) (ls st : List Value) (σ : MS) (Q : Option Value → MS → Prop) (x y : Int32) (v : Int) (a b t u n : Nat) : zB d m ((.if_icmp .ne v, a, b, t, u, n) :: rest) ls (.int y :: .int x :: st) σ Q = (if x = y then zB d m rest ls st σ Q else zX d m a ls st σ Q) := by
  rw [zB_cons]
  refine Eq.trans (b := zK d m rest Q (if x = y then _ else _)) rfl ?_
  split <;> rfl
theorem e_ifCond_lt (d m : Nat) (rest : List zOp) (ls st : List Value) (σ : MS) (Q : Option Value → MS → Prop) (x : Int32) (v : Int) (a b t u n : Nat) : zB d m ((.ifCond .lt v, a, b, t, u, n) :: rest) ls (.int x :: st) σ Q = (if x < nI 0 then zX d m a ls st σ Q else zB d m rest ls st σ Q) := by
  rw [zB_cons]
  refine Eq.trans (b := zK d m rest Q (if x < nI 0 then _ else _)) rfl ?_
  split <;> rfl
theorem e_if_icmp_lt (d m : Nat) (rest : List zOp) (ls st : List Value) (σ : MS) (Q : Option Value → MS → Prop) (x y : Int32) (v : Int) (a b t u n : Nat) : zB d m ((.if_icmp .lt v, a, b, t, u, n) :: rest) ls (.int y :: .int x :: st) σ Q = (if x < y then zX d m a ls st σ Q else zB d m rest ls st σ Q) := by
  rw [zB_cons]
  refine Eq.trans (b := zK d m rest Q (if x < y then _ else _)) rfl ?_
  split <;> rfl
theorem e_ifCond_ge (d m : Nat) (rest : List zOp) (ls st : List Value) (σ : MS) (Q : Option Value → MS → Prop) (x : Int32) (v : Int) (a b t u n : Nat) : zB d m ((.ifCond .ge v, a, b, t, u, n) :: rest) ls (.int x :: st) σ Q = (if x < nI 0 then zB d m rest ls st σ Q else zX d m a ls st σ Q) := by
  rw [zB_cons]
  refine Eq.trans (b := zK d m rest Q (if x < nI 0 then _ else _)) rfl ?_
  split <;> rfl
theorem e_if_icmp_ge (d m : Nat) (rest : List zOp) (ls st : List Value) (σ : MS) (Q : Option Value → MS → Prop) (x y : Int32) (v : Int) (a b t u n : Nat) : zB d m ((.if_icmp .ge v, a, b, t, u, n) :: rest) ls (.int y :: .int x :: st) σ Q = (if x < y then zB d m rest ls st σ Q else zX d m a ls st σ Q) := by
  rw [zB_cons]
  refine Eq.trans (b := zK d m rest Q (if x < y then _ else _)) rfl ?_
  split <;> rfl
theorem e_ifCond_gt (d m : Nat) (rest : List zOp) (ls st : List Value) (σ : MS) (Q : Option Value → MS → Prop) (x : Int32) (v : Int) (a b t u n : Nat) : zB d m ((.ifCond .gt v, a, b, t, u, n) :: rest) ls (.int x :: st) σ Q = (if nI 0 < x then zX d m a ls st σ Q else zB d m rest ls st σ Q) := by
  rw [zB_cons]
  refine Eq.trans (b := zK d m rest Q (if nI 0 < x then _ else _)) rfl ?_
  split <;> rfl
theorem e_if_icmp_gt (d m : Nat) (rest : List zOp) (ls st : List Value) (σ : MS) (Q : Option Value → MS → Prop) (x y : Int32) (v : Int) (a b t u n : Nat) : zB d m ((.if_icmp .gt v, a, b, t, u, n) :: rest) ls (.int y :: .int x :: st) σ Q = (if y < x then zX d m a ls st σ Q else zB d m rest ls st σ Q) := by
  rw [zB_cons]
  refine Eq.trans (b := zK d m rest Q (if y < x then _ else _)) rfl ?_
  split <;> rfl
theorem e_ifCond_le (d m : Nat) (rest : List zOp) (ls st : List Value) (σ : MS) (Q : Option Value → MS → Prop) (x : Int32) (v : Int) (a b t u n : Nat) : zB d m ((.ifCond .le v, a, b, t, u, n) :: rest) ls (.int x :: st) σ Q = (if nI 0 < x then zB d m rest ls st σ Q else zX d m a ls st σ Q) := by
  rw [zB_cons]
  refine Eq.trans (b := zK d m rest Q (if nI 0 < x then _ else _)) rfl ?_
  split <;> rfl
theorem e_if_icmp_le (d m : Nat) (rest : List zOp) (ls st : List Value) (σ : MS) (Q : Option Value → MS → Prop) (x y : Int32) (v : Int) (a b t u n : Nat) : zB d m ((.if_icmp .le v, a, b, t, u, n) :: rest) ls (.int y :: .int x :: st) σ Q = (if y < x then zB d m rest ls st σ Q else zX d m a ls st σ Q) := by
  rw [zB_cons]
  refine Eq.trans (b := zK d m rest Q (if y < x then _ else _)) rfl ?_
  split <;> rfl
theorem e_tab (d m : Nat) (rest : List zOp) (ls st : List Value) (σ : MS) (Q : Option Value → MS → Prop) (x : Int32) (f lo hi : Int) (offs : Array Int) (a b t u n : Nat) : zB d m ((.tableswitch f lo hi offs, a, b, t, u, n) :: rest) ls (.int x :: st) σ Q = zX d m (zTab a f lo hi offs x) ls st σ Q := rfl
theorem e_look (d m : Nat) (rest : List zOp) (ls st : List Value) (σ : MS) (Q : Option Value → MS → Prop) (x : Int32) (f : Int) (ps : Array (Int × Int)) (a b t u n : Nat) : zB d m ((.lookupswitch f ps, a, b, t, u, n) :: rest) ls (.int x :: st) σ Q = zX d m ((a : Int) + Op.lookupswitch.offset ps.toList f x.toInt).toNat ls st σ Q := rfl
theorem e_get0 (d m : Nat) (rest : List zOp) (ls st : List Value) (σ : MS) (Q : Option Value → MS → Prop) (v r : Nat) (a b u n : Nat) : zB d m ((.getfield v, a, b, 0, u, n) :: rest) ls (.ref r :: st) σ Q = (sK σ r = (0, a) ∧ zB d m rest ls (.int (sI σ r b) :: st) σ Q) := by
  rw [zB_cons]
  refine Eq.trans (b := zK d m rest Q (if sK σ r = (0, a) then _ else none)) rfl ?_
  split
  · next h => exact propext ⟨fun z => ⟨h, z⟩, fun z => z.2⟩
  · next h => exact propext ⟨fun z => False.elim z, fun z => h z.1⟩
theorem e_get1 (d m : Nat) (rest : List zOp) (ls st : List Value) (σ : MS) (Q : Option Value → MS → Prop) (v r : Nat) (a b u n : Nat) : zB d m ((.getfield v, a, b, 1, u, n) :: rest) ls (.ref r :: st) σ Q = (sK σ r = (0, a) ∧ zB d m rest ls (.long (sL σ r b) :: st) σ Q) := by
  rw [zB_cons]
  refine Eq.trans (b := zK d m rest Q (if sK σ r = (0, a) then _ else none)) rfl ?_
  split
  · next h => exact propext ⟨fun z => ⟨h, z⟩, fun z => z.2⟩
  · next h => exact propext ⟨fun z => False.elim z, fun z => h z.1⟩
theorem e_get2 (d m : Nat) (rest : List zOp) (ls st : List Value) (σ : MS) (Q : Option Value → MS → Prop) (v r : Nat) (a b u n : Nat) : zB d m ((.getfield v, a, b, 2, u, n) :: rest) ls (.ref r :: st) σ Q = (sK σ r = (0, a) ∧ zB d m rest ls (.ref (sR σ r b) :: st) σ Q) := by
  rw [zB_cons]
  refine Eq.trans (b := zK d m rest Q (if sK σ r = (0, a) then _ else none)) rfl ?_
  split
  · next h => exact propext ⟨fun z => ⟨h, z⟩, fun z => z.2⟩
  · next h => exact propext ⟨fun z => False.elim z, fun z => h z.1⟩
theorem e_get3 (d m : Nat) (rest : List zOp) (ls st : List Value) (σ : MS) (Q : Option Value → MS → Prop) (v r : Nat) (a b u n : Nat) : zB d m ((.getfield v, a, b, 3, u, n) :: rest) ls (.ref r :: st) σ Q = (sK σ r = (0, a) ∧ zB d m rest ls (.int (sI σ r b) :: st) σ Q) := by
  rw [zB_cons]
  refine Eq.trans (b := zK d m rest Q (if sK σ r = (0, a) then _ else none)) rfl ?_
  split
  · next h => exact propext ⟨fun z => ⟨h, z⟩, fun z => z.2⟩
  · next h => exact propext ⟨fun z => False.elim z, fun z => h z.1⟩
theorem e_put0 (d m : Nat) (rest : List zOp) (ls st : List Value) (σ : MS) (Q : Option Value → MS → Prop) (v r : Nat) (x : Int32) (a b u n : Nat) : zB d m ((.putfield v, a, b, 0, u, n) :: rest) ls (.int x :: .ref r :: st) σ Q = (sK σ r = (0, a) ∧ zB d m rest ls st (setI σ r b x) Q) := by
  rw [zB_cons]
  refine Eq.trans (b := zK d m rest Q (if sK σ r = (0, a) then _ else none)) rfl ?_
  split
  · next h => exact propext ⟨fun z => ⟨h, z⟩, fun z => z.2⟩
  · next h => exact propext ⟨fun z => False.elim z, fun z => h z.1⟩
theorem e_put1 (d m : Nat) (rest : List zOp) (ls st : List Value) (σ : MS) (Q : Option Value → MS → Prop) (v r : Nat) (x : Int64) (a b u n : Nat) : zB d m ((.putfield v, a, b, 1, u, n) :: rest) ls (.long x :: .ref r :: st) σ Q = (sK σ r = (0, a) ∧ zB d m rest ls st (setL σ r b x) Q) := by
  rw [zB_cons]
  refine Eq.trans (b := zK d m rest Q (if sK σ r = (0, a) then _ else none)) rfl ?_
  split
  · next h => exact propext ⟨fun z => ⟨h, z⟩, fun z => z.2⟩
  · next h => exact propext ⟨fun z => False.elim z, fun z => h z.1⟩
theorem e_put2 (d m : Nat) (rest : List zOp) (ls st : List Value) (σ : MS) (Q : Option Value → MS → Prop) (v r : Nat) (x : Nat) (a b u n : Nat) : zB d m ((.putfield v, a, b, 2, u, n) :: rest) ls (.ref x :: .ref r :: st) σ Q = (sK σ r = (0, a) ∧ zB d m rest ls st (setR σ r b x) Q) := by
  rw [zB_cons]
  refine Eq.trans (b := zK d m rest Q (if sK σ r = (0, a) then _ else none)) rfl ?_
  split
  · next h => exact propext ⟨fun z => ⟨h, z⟩, fun z => z.2⟩
  · next h => exact propext ⟨fun z => False.elim z, fun z => h z.1⟩
theorem e_put3 (d m : Nat) (rest : List zOp) (ls st : List Value) (σ : MS) (Q : Option Value → MS → Prop) (v r : Nat) (x : Int32) (a b u n : Nat) : zB d m ((.putfield v, a, b, 3, u, n) :: rest) ls (.int x :: .ref r :: st) σ Q = ((sK σ r = (0, a) ∧ (x = nI 0 ∨ x = nI 1)) ∧ zB d m rest ls st (setI σ r b x) Q) := by
  rw [zB_cons]
  refine Eq.trans (b := zK d m rest Q (if (sK σ r = (0, a) ∧ (x = nI 0 ∨ x = nI 1)) then _ else none)) rfl ?_
  split
  · next h => exact propext ⟨fun z => ⟨h, z⟩, fun z => z.2⟩
  · next h => exact propext ⟨fun z => False.elim z, fun z => h z.1⟩
theorem e_iaload (d m : Nat) (rest : List zOp) (ls st : List Value) (σ : MS) (Q : Option Value → MS → Prop) (i : Int32) (r : Nat) (p : Nat × Nat × Nat × Nat × Nat) : zB d m ((.iaload, p) :: rest) ls (.int i :: .ref r :: st) σ Q = ((((sK σ r).1 = 1 ∨ (sK σ r).1 = 6) ∧ zIn i (sK σ r).2 = true) ∧ zB d m rest ls (.int (sI σ r i.toNatClampNeg) :: st) σ Q) := by
  rw [zB_cons]
  refine Eq.trans (b := zK d m rest Q (if (((sK σ r).1 = 1 ∨ (sK σ r).1 = 6) ∧ zIn i (sK σ r).2 = true) then _ else none)) rfl ?_
  split
  · next h => exact propext ⟨fun z => ⟨h, z⟩, fun z => z.2⟩
  · next h => exact propext ⟨fun z => False.elim z, fun z => h z.1⟩
theorem e_laload (d m : Nat) (rest : List zOp) (ls st : List Value) (σ : MS) (Q : Option Value → MS → Prop) (i : Int32) (r : Nat) (p : Nat × Nat × Nat × Nat × Nat) : zB d m ((.laload, p) :: rest) ls (.int i :: .ref r :: st) σ Q = (((sK σ r).1 = 2 ∧ zIn i (sK σ r).2 = true) ∧ zB d m rest ls (.long (sL σ r i.toNatClampNeg) :: st) σ Q) := by
  rw [zB_cons]
  refine Eq.trans (b := zK d m rest Q (if ((sK σ r).1 = 2 ∧ zIn i (sK σ r).2 = true) then _ else none)) rfl ?_
  split
  · next h => exact propext ⟨fun z => ⟨h, z⟩, fun z => z.2⟩
  · next h => exact propext ⟨fun z => False.elim z, fun z => h z.1⟩
theorem e_baload (d m : Nat) (rest : List zOp) (ls st : List Value) (σ : MS) (Q : Option Value → MS → Prop) (i : Int32) (r : Nat) (p : Nat × Nat × Nat × Nat × Nat) : zB d m ((.baload, p) :: rest) ls (.int i :: .ref r :: st) σ Q = (((sK σ r).1 = 3 ∧ zIn i (sK σ r).2 = true) ∧ zB d m rest ls (.int (sI σ r i.toNatClampNeg) :: st) σ Q) := by
  rw [zB_cons]
  refine Eq.trans (b := zK d m rest Q (if ((sK σ r).1 = 3 ∧ zIn i (sK σ r).2 = true) then _ else none)) rfl ?_
  split
  · next h => exact propext ⟨fun z => ⟨h, z⟩, fun z => z.2⟩
  · next h => exact propext ⟨fun z => False.elim z, fun z => h z.1⟩
theorem e_aaload (d m : Nat) (rest : List zOp) (ls st : List Value) (σ : MS) (Q : Option Value → MS → Prop) (i : Int32) (r : Nat) (p : Nat × Nat × Nat × Nat × Nat) : zB d m ((.aaload, p) :: rest) ls (.int i :: .ref r :: st) σ Q = ((40 ≤ (sK σ r).1 ∧ (sK σ r).1 < 60 ∧ zIn i (sK σ r).2 = true) ∧ zB d m rest ls (.ref (sR σ r i.toNatClampNeg) :: st) σ Q) := by
  rw [zB_cons]
  refine Eq.trans (b := zK d m rest Q (if (40 ≤ (sK σ r).1 ∧ (sK σ r).1 < 60 ∧ zIn i (sK σ r).2 = true) then _ else none)) rfl ?_
  split
  · next h => exact propext ⟨fun z => ⟨h, z⟩, fun z => z.2⟩
  · next h => exact propext ⟨fun z => False.elim z, fun z => h z.1⟩
theorem e_iastore (d m : Nat) (rest : List zOp) (ls st : List Value) (σ : MS) (Q : Option Value → MS → Prop) (x i : Int32) (r : Nat) (p : Nat × Nat × Nat × Nat × Nat) : zB d m ((.iastore, p) :: rest) ls (.int x :: .int i :: .ref r :: st) σ Q = (((sK σ r).1 = 1 ∧ zIn i (sK σ r).2 = true) ∧ zB d m rest ls st (setI σ r i.toNatClampNeg x) Q) := by
  rw [zB_cons]
  refine Eq.trans (b := zK d m rest Q (if ((sK σ r).1 = 1 ∧ zIn i (sK σ r).2 = true) then _ else none)) rfl ?_
  split
  · next h => exact propext ⟨fun z => ⟨h, z⟩, fun z => z.2⟩
  · next h => exact propext ⟨fun z => False.elim z, fun z => h z.1⟩
theorem e_lastore (d m : Nat) (rest : List zOp) (ls st : List Value) (σ : MS) (Q : Option Value → MS → Prop) (x : Int64) (i : Int32) (r : Nat) (p : Nat × Nat × Nat × Nat × Nat) : zB d m ((.lastore, p) :: rest) ls (.long x :: .int i :: .ref r :: st) σ Q = (((sK σ r).1 = 2 ∧ zIn i (sK σ r).2 = true) ∧ zB d m rest ls st (setL σ r i.toNatClampNeg x) Q) := by
  rw [zB_cons]
  refine Eq.trans (b := zK d m rest Q (if ((sK σ r).1 = 2 ∧ zIn i (sK σ r).2 = true) then _ else none)) rfl ?_
  split
  · next h => exact propext ⟨fun z => ⟨h, z⟩, fun z => z.2⟩
  · next h => exact propext ⟨fun z => False.elim z, fun z => h z.1⟩
theorem e_bastore (d m : Nat) (rest : List zOp) (ls st : List Value) (σ : MS) (Q : Option Value → MS → Prop) (x i : Int32) (r : Nat) (p : Nat × Nat × Nat × Nat × Nat) : zB d m ((.bastore, p) :: rest) ls (.int x :: .int i :: .ref r :: st) σ Q = (((sK σ r).1 = 3 ∧ zIn i (sK σ r).2 = true) ∧ zB d m rest ls st (setI σ r i.toNatClampNeg (vp_nar .byte x)) Q) := by
  rw [zB_cons]
  refine Eq.trans (b := zK d m rest Q (if ((sK σ r).1 = 3 ∧ zIn i (sK σ r).2 = true) then _ else none)) rfl ?_
  split
  · next h => exact propext ⟨fun z => ⟨h, z⟩, fun z => z.2⟩
  · next h => exact propext ⟨fun z => False.elim z, fun z => h z.1⟩
theorem e_aastore (d m : Nat) (rest : List zOp) (ls st : List Value) (σ : MS) (Q : Option Value → MS → Prop) (x : Nat) (i : Int32) (r : Nat) (p : Nat × Nat × Nat × Nat × Nat) : zB d m ((.aastore, p) :: rest) ls (.ref x :: .int i :: .ref r :: st) σ Q = ((40 ≤ (sK σ r).1 ∧ (sK σ r).1 < 60 ∧ zIn i (sK σ r).2 = true ∧ sK σ x = (0, (sK σ r).1 - 40)) ∧ zB d m rest ls st (setR σ r i.toNatClampNeg x) Q) := by
  rw [zB_cons]
  refine Eq.trans (b := zK d m rest Q (if (40 ≤ (sK σ r).1 ∧ (sK σ r).1 < 60 ∧ zIn i (sK σ r).2 = true ∧ sK σ x = (0, (sK σ r).1 - 40)) then _ else none)) rfl ?_
  split
  · next h => exact propext ⟨fun z => ⟨h, z⟩, fun z => z.2⟩
  · next h => exact propext ⟨fun z => False.elim z, fun z => h z.1⟩
theorem e_alen (d m : Nat) (rest : List zOp) (ls st : List Value) (σ : MS) (Q : Option Value → MS → Prop) (r : Nat) (p : Nat × Nat × Nat × Nat × Nat) : zB d m ((.arraylength, p) :: rest) ls (.ref r :: st) σ Q = (((1 ≤ (sK σ r).1 ∧ (sK σ r).1 ≤ 3) ∨ (sK σ r).1 = 6 ∨ (40 ≤ (sK σ r).1 ∧ (sK σ r).1 < 60)) ∧ zB d m rest ls (.int (nI (sK σ r).2) :: st) σ Q) := by
  rw [zB_cons]
  refine Eq.trans (b := zK d m rest Q (if ((1 ≤ (sK σ r).1 ∧ (sK σ r).1 ≤ 3) ∨ (sK σ r).1 = 6 ∨ (40 ≤ (sK σ r).1 ∧ (sK σ r).1 < 60)) then _ else none)) rfl ?_
  split
  · next h => exact propext ⟨fun z => ⟨h, z⟩, fun z => z.2⟩
  · next h => exact propext ⟨fun z => False.elim z, fun z => h z.1⟩
theorem e_new (d m : Nat) (rest : List zOp) (ls st : List Value) (σ : MS) (Q : Option Value → MS → Prop) (v : Nat) (a b t u n : Nat) : zB d m ((.new v, a, b, t, u, n) :: rest) ls st σ Q = zB d m rest ls (.ref σ.1.length :: st) (zNew σ (0, a)) Q := rfl
theorem e_newarray (d m : Nat) (rest : List zOp) (ls st : List Value) (σ : MS) (Q : Option Value → MS → Prop) (v : Jvm.ClassFile.ArrayType) (x : Int32) (a b t u n : Nat) : zB d m ((.newarray v, a, b, t, u, n) :: rest) ls (.int x :: st) σ Q = ((¬ x < 0 ∧ x.toNatClampNeg ≤ 100000) ∧ zB d m rest ls (.ref σ.1.length :: st) (zNew σ (a, x.toNatClampNeg)) Q) := by
  rw [zB_cons]
  refine Eq.trans (b := zK d m rest Q (if (¬ x < 0 ∧ x.toNatClampNeg ≤ 100000) then _ else none)) rfl ?_
  split
  · next h => exact propext ⟨fun z => ⟨h, z⟩, fun z => z.2⟩
  · next h => exact propext ⟨fun z => False.elim z, fun z => h z.1⟩
theorem e_anewarray (d m : Nat) (rest : List zOp) (ls st : List Value) (σ : MS) (Q : Option Value → MS → Prop) (v : Nat) (x : Int32) (a b t u n : Nat) : zB d m ((.anewarray v, a, b, t, u, n) :: rest) ls (.int x :: st) σ Q = ((¬ x < 0 ∧ x.toNatClampNeg ≤ 100000) ∧ zB d m rest ls (.ref σ.1.length :: st) (zNew σ (a, x.toNatClampNeg)) Q) := by
  rw [zB_cons]
  refine Eq.trans (b := zK d m rest Q (if (¬ x < 0 ∧ x.toNatClampNeg ≤ 100000) then _ else none)) rfl ?_
  split
  · next h => exact propext ⟨fun z => ⟨h, z⟩, fun z => z.2⟩
  · next h => exact propext ⟨fun z => False.elim z, fun z => h z.1⟩
theorem e_objinit (d m : Nat) (rest : List zOp) (ls st : List Value) (σ : MS) (Q : Option Value → MS → Prop) (v r : Nat) (a b u n : Nat) : zB d m ((.invokespecial v, a, b, 1, u, n) :: rest) ls (.ref r :: st) σ Q = ((r < zNul ∧ zWid st ≤ 8) ∧ zB d m rest ls st σ Q) := by
  rw [zB_cons]
  refine Eq.trans (b := zK d m rest Q (if (r < zNul ∧ zWid st ≤ 8) then _ else none)) rfl ?_
  split
  · next h => exact propext ⟨fun z => ⟨h, z⟩, fun z => z.2⟩
  · next h => exact propext ⟨fun z => False.elim z, fun z => h z.1⟩
theorem e_virt1 (d m : Nat) (rest : List zOp) (ls st : List Value) (σ : MS) (Q : Option Value → MS → Prop) (w : Nat) (a u n : Nat) (r : Nat) : zB d m ((.invokevirtual w, a, 1, 0, u, n) :: rest) ls (.ref r :: st) σ Q = ((zWid st ≤ 8 ∧ sK σ r = (0, u)) ∧ zC d a [.ref r] σ (fun v ρ => zB d m rest ls (v.toList ++ st) ρ Q)) := by
  rw [zB_cons]
  refine Eq.trans (b := zK d m rest Q (if (zWid st ≤ 8 ∧ (0 = 0 → sK σ (zRecv [.ref r]) = (0, u))) then _ else none)) rfl ?_
  by_cases h : (zWid st ≤ 8 ∧ (0 = 0 → sK σ (zRecv [.ref r]) = (0, u)))
  · rw [if_pos h]; exact propext ⟨fun z => ⟨⟨h.1, h.2 rfl⟩, z⟩, fun z => z.2⟩
  · rw [if_neg h]; exact propext ⟨fun z => False.elim z, fun z => (h ⟨z.1.1, fun _ => z.1.2⟩).elim⟩
theorem e_virt2 (d m : Nat) (rest : List zOp) (ls st : List Value) (σ : MS) (Q : Option Value → MS → Prop) (w : Nat) (a u n : Nat) (r : Nat) (v1 : Value) : zB d m ((.invokevirtual w, a, 2, 0, u, n) :: rest) ls (v1 :: .ref r :: st) σ Q = ((zWid st ≤ 8 ∧ sK σ r = (0, u)) ∧ zC d a [.ref r, v1] σ (fun v ρ => zB d m rest ls (v.toList ++ st) ρ Q)) := by
  rw [zB_cons]
  refine Eq.trans (b := zK d m rest Q (if (zWid st ≤ 8 ∧ (0 = 0 → sK σ (zRecv [.ref r, v1]) = (0, u))) then _ else none)) rfl ?_
  by_cases h : (zWid st ≤ 8 ∧ (0 = 0 → sK σ (zRecv [.ref r, v1]) = (0, u)))
  · rw [if_pos h]; exact propext ⟨fun z => ⟨⟨h.1, h.2 rfl⟩, z⟩, fun z => z.2⟩
  · rw [if_neg h]; exact propext ⟨fun z => False.elim z, fun z => (h ⟨z.1.1, fun _ => z.1.2⟩).elim⟩
theorem e_virt3 (d m : Nat) (rest : List zOp) (ls st : List Value) (σ : MS) (Q : Option Value → MS → Prop) (w : Nat) (a u n : Nat) (r : Nat) (v1 v2 : Value) : zB d m ((.invokevirtual w, a, 3, 0, u, n) :: rest) ls (v2 :: v1 :: .ref r :: st) σ Q = ((zWid st ≤ 8 ∧ sK σ r = (0, u)) ∧ zC d a [.ref r, v1, v2] σ (fun v ρ => zB d m rest ls (v.toList ++ st) ρ Q)) := by
  rw [zB_cons]
  refine Eq.trans (b := zK d m rest Q (if (zWid st ≤ 8 ∧ (0 = 0 → sK σ (zRecv [.ref r, v1, v2]) = (0, u))) then _ else none)) rfl ?_
  by_cases h : (zWid st ≤ 8 ∧ (0 = 0 → sK σ (zRecv [.ref r, v1, v2]) = (0, u)))
  · rw [if_pos h]; exact propext ⟨fun z => ⟨⟨h.1, h.2 rfl⟩, z⟩, fun z => z.2⟩
  · rw [if_neg h]; exact propext ⟨fun z => False.elim z, fun z => (h ⟨z.1.1, fun _ => z.1.2⟩).elim⟩
theorem e_virt4 (d m : Nat) (rest : List zOp) (ls st : List Value) (σ : MS) (Q : Option Value → MS → Prop) (w : Nat) (a u n : Nat) (r : Nat) (v1 v2 v3 : Value) : zB d m ((.invokevirtual w, a, 4, 0, u, n) :: rest) ls (v3 :: v2 :: v1 :: .ref r :: st) σ Q = ((zWid st ≤ 8 ∧ sK σ r = (0, u)) ∧ zC d a [.ref r, v1, v2, v3] σ (fun v ρ => zB d m rest ls (v.toList ++ st) ρ Q)) := by
  rw [zB_cons]
  refine Eq.trans (b := zK d m rest Q (if (zWid st ≤ 8 ∧ (0 = 0 → sK σ (zRecv [.ref r, v1, v2, v3]) = (0, u))) then _ else none)) rfl ?_
  by_cases h : (zWid st ≤ 8 ∧ (0 = 0 → sK σ (zRecv [.ref r, v1, v2, v3]) = (0, u)))
  · rw [if_pos h]; exact propext ⟨fun z => ⟨⟨h.1, h.2 rfl⟩, z⟩, fun z => z.2⟩
  · rw [if_neg h]; exact propext ⟨fun z => False.elim z, fun z => (h ⟨z.1.1, fun _ => z.1.2⟩).elim⟩
theorem e_virt5 (d m : Nat) (rest : List zOp) (ls st : List Value) (σ : MS) (Q : Option Value → MS → Prop) (w : Nat) (a u n : Nat) (r : Nat) (v1 v2 v3 v4 : Value) : zB d m ((.invokevirtual w, a, 5, 0, u, n) :: rest) ls (v4 :: v3 :: v2 :: v1 :: .ref r :: st) σ Q = ((zWid st ≤ 8 ∧ sK σ r = (0, u)) ∧ zC d a [.ref r, v1, v2, v3, v4] σ (fun v ρ => zB d m rest ls (v.toList ++ st) ρ Q)) := by
  rw [zB_cons]
  refine Eq.trans (b := zK d m rest Q (if (zWid st ≤ 8 ∧ (0 = 0 → sK σ (zRecv [.ref r, v1, v2, v3, v4]) = (0, u))) then _ else none)) rfl ?_
  by_cases h : (zWid st ≤ 8 ∧ (0 = 0 → sK σ (zRecv [.ref r, v1, v2, v3, v4]) = (0, u)))
  · rw [if_pos h]; exact propext ⟨fun z => ⟨⟨h.1, h.2 rfl⟩, z⟩, fun z => z.2⟩
  · rw [if_neg h]; exact propext ⟨fun z => False.elim z, fun z => (h ⟨z.1.1, fun _ => z.1.2⟩).elim⟩
theorem e_virt6 (d m : Nat) (rest : List zOp) (ls st : List Value) (σ : MS) (Q : Option Value → MS → Prop) (w : Nat) (a u n : Nat) (r : Nat) (v1 v2 v3 v4 v5 : Value) : zB d m ((.invokevirtual w, a, 6, 0, u, n) :: rest) ls (v5 :: v4 :: v3 :: v2 :: v1 :: .ref r :: st) σ Q = ((zWid st ≤ 8 ∧ sK σ r = (0, u)) ∧ zC d a [.ref r, v1, v2, v3, v4, v5] σ (fun v ρ => zB d m rest ls (v.toList ++ st) ρ Q)) := by
  rw [zB_cons]
  refine Eq.trans (b := zK d m rest Q (if (zWid st ≤ 8 ∧ (0 = 0 → sK σ (zRecv [.ref r, v1, v2, v3, v4, v5]) = (0, u))) then _ else none)) rfl ?_
  by_cases h : (zWid st ≤ 8 ∧ (0 = 0 → sK σ (zRecv [.ref r, v1, v2, v3, v4, v5]) = (0, u)))
  · rw [if_pos h]; exact propext ⟨fun z => ⟨⟨h.1, h.2 rfl⟩, z⟩, fun z => z.2⟩
  · rw [if_neg h]; exact propext ⟨fun z => False.elim z, fun z => (h ⟨z.1.1, fun _ => z.1.2⟩).elim⟩
theorem e_virt7 (d m : Nat) (rest : List zOp) (ls st : List Value) (σ : MS) (Q : Option Value → MS → Prop) (w : Nat) (a u n : Nat) (r : Nat) (v1 v2 v3 v4 v5 v6 : Value) : zB d m ((.invokevirtual w, a, 7, 0, u, n) :: rest) ls (v6 :: v5 :: v4 :: v3 :: v2 :: v1 :: .ref r :: st) σ Q = ((zWid st ≤ 8 ∧ sK σ r = (0, u)) ∧ zC d a [.ref r, v1, v2, v3, v4, v5, v6] σ (fun v ρ => zB d m rest ls (v.toList ++ st) ρ Q)) := by
  rw [zB_cons]
  refine Eq.trans (b := zK d m rest Q (if (zWid st ≤ 8 ∧ (0 = 0 → sK σ (zRecv [.ref r, v1, v2, v3, v4, v5, v6]) = (0, u))) then _ else none)) rfl ?_
  by_cases h : (zWid st ≤ 8 ∧ (0 = 0 → sK σ (zRecv [.ref r, v1, v2, v3, v4, v5, v6]) = (0, u)))
  · rw [if_pos h]; exact propext ⟨fun z => ⟨⟨h.1, h.2 rfl⟩, z⟩, fun z => z.2⟩
  · rw [if_neg h]; exact propext ⟨fun z => False.elim z, fun z => (h ⟨z.1.1, fun _ => z.1.2⟩).elim⟩
theorem e_stat0 (d m : Nat) (rest : List zOp) (ls st : List Value) (σ : MS) (Q : Option Value → MS → Prop) (w : Nat) (a u n : Nat) : zB d m ((.invokestatic w, a, 0, 5, u, n) :: rest) ls st σ Q = (zWid st ≤ 8 ∧ zC d a [] σ (fun v ρ => zB d m rest ls (v.toList ++ st) ρ Q)) := by
  rw [zB_cons]
  refine Eq.trans (b := zK d m rest Q (if (zWid st ≤ 8 ∧ (5 = 0 → sK σ (zRecv []) = (0, u))) then _ else none)) rfl ?_
  by_cases h : (zWid st ≤ 8 ∧ (5 = 0 → sK σ (zRecv []) = (0, u)))
  · rw [if_pos h]; exact propext ⟨fun z => ⟨h.1, z⟩, fun z => z.2⟩
  · rw [if_neg h]; exact propext ⟨fun z => False.elim z, fun z => (h ⟨z.1, fun e => absurd e (by decide)⟩).elim⟩
theorem e_stat1 (d m : Nat) (rest : List zOp) (ls st : List Value) (σ : MS) (Q : Option Value → MS → Prop) (w : Nat) (a u n : Nat) (v0 : Value) : zB d m ((.invokestatic w, a, 1, 5, u, n) :: rest) ls (v0 :: st) σ Q = (zWid st ≤ 8 ∧ zC d a [v0] σ (fun v ρ => zB d m rest ls (v.toList ++ st) ρ Q)) := by
  rw [zB_cons]
  refine Eq.trans (b := zK d m rest Q (if (zWid st ≤ 8 ∧ (5 = 0 → sK σ (zRecv [v0]) = (0, u))) then _ else none)) rfl ?_
  by_cases h : (zWid st ≤ 8 ∧ (5 = 0 → sK σ (zRecv [v0]) = (0, u)))
  · rw [if_pos h]; exact propext ⟨fun z => ⟨h.1, z⟩, fun z => z.2⟩
  · rw [if_neg h]; exact propext ⟨fun z => False.elim z, fun z => (h ⟨z.1, fun e => absurd e (by decide)⟩).elim⟩
theorem e_stat2 (d m : Nat) (rest : List zOp) (ls st : List Value) (σ : MS) (Q : Option Value → MS → Prop) (w : Nat) (a u n : Nat) (v0 v1 : Value) : zB d m ((.invokestatic w, a, 2, 5, u, n) :: rest) ls (v1 :: v0 :: st) σ Q = (zWid st ≤ 8 ∧ zC d a [v0, v1] σ (fun v ρ => zB d m rest ls (v.toList ++ st) ρ Q)) := by
  rw [zB_cons]
  refine Eq.trans (b := zK d m rest Q (if (zWid st ≤ 8 ∧ (5 = 0 → sK σ (zRecv [v0, v1]) = (0, u))) then _ else none)) rfl ?_
  by_cases h : (zWid st ≤ 8 ∧ (5 = 0 → sK σ (zRecv [v0, v1]) = (0, u)))
  · rw [if_pos h]; exact propext ⟨fun z => ⟨h.1, z⟩, fun z => z.2⟩
  · rw [if_neg h]; exact propext ⟨fun z => False.elim z, fun z => (h ⟨z.1, fun e => absurd e (by decide)⟩).elim⟩
theorem e_stat3 (d m : Nat) (rest : List zOp) (ls st : List Value) (σ : MS) (Q : Option Value → MS → Prop) (w : Nat) (a u n : Nat) (v0 v1 v2 : Value) : zB d m ((.invokestatic w, a, 3, 5, u, n) :: rest) ls (v2 :: v1 :: v0 :: st) σ Q = (zWid st ≤ 8 ∧ zC d a [v0, v1, v2] σ (fun v ρ => zB d m rest ls (v.toList ++ st) ρ Q)) := by
  rw [zB_cons]
  refine Eq.trans (b := zK d m rest Q (if (zWid st ≤ 8 ∧ (5 = 0 → sK σ (zRecv [v0, v1, v2]) = (0, u))) then _ else none)) rfl ?_
  by_cases h : (zWid st ≤ 8 ∧ (5 = 0 → sK σ (zRecv [v0, v1, v2]) = (0, u)))
  · rw [if_pos h]; exact propext ⟨fun z => ⟨h.1, z⟩, fun z => z.2⟩
  · rw [if_neg h]; exact propext ⟨fun z => False.elim z, fun z => (h ⟨z.1, fun e => absurd e (by decide)⟩).elim⟩
theorem e_stat4 (d m : Nat) (rest : List zOp) (ls st : List Value) (σ : MS) (Q : Option Value → MS → Prop) (w : Nat) (a u n : Nat) (v0 v1 v2 v3 : Value) : zB d m ((.invokestatic w, a, 4, 5, u, n) :: rest) ls (v3 :: v2 :: v1 :: v0 :: st) σ Q = (zWid st ≤ 8 ∧ zC d a [v0, v1, v2, v3] σ (fun v ρ => zB d m rest ls (v.toList ++ st) ρ Q)) := by
  rw [zB_cons]
  refine Eq.trans (b := zK d m rest Q (if (zWid st ≤ 8 ∧ (5 = 0 → sK σ (zRecv [v0, v1, v2, v3]) = (0, u))) then _ else none)) rfl ?_
  by_cases h : (zWid st ≤ 8 ∧ (5 = 0 → sK σ (zRecv [v0, v1, v2, v3]) = (0, u)))
  · rw [if_pos h]; exact propext ⟨fun z => ⟨h.1, z⟩, fun z => z.2⟩
  · rw [if_neg h]; exact propext ⟨fun z => False.elim z, fun z => (h ⟨z.1, fun e => absurd e (by decide)⟩).elim⟩
theorem e_stat5 (d m : Nat) (rest : List zOp) (ls st : List Value) (σ : MS) (Q : Option Value → MS → Prop) (w : Nat) (a u n : Nat) (v0 v1 v2 v3 v4 : Value) : zB d m ((.invokestatic w, a, 5, 5, u, n) :: rest) ls (v4 :: v3 :: v2 :: v1 :: v0 :: st) σ Q = (zWid st ≤ 8 ∧ zC d a [v0, v1, v2, v3, v4] σ (fun v ρ => zB d m rest ls (v.toList ++ st) ρ Q)) := by
  rw [zB_cons]
  refine Eq.trans (b := zK d m rest Q (if (zWid st ≤ 8 ∧ (5 = 0 → sK σ (zRecv [v0, v1, v2, v3, v4]) = (0, u))) then _ else none)) rfl ?_
  by_cases h : (zWid st ≤ 8 ∧ (5 = 0 → sK σ (zRecv [v0, v1, v2, v3, v4]) = (0, u)))
  · rw [if_pos h]; exact propext ⟨fun z => ⟨h.1, z⟩, fun z => z.2⟩
  · rw [if_neg h]; exact propext ⟨fun z => False.elim z, fun z => (h ⟨z.1, fun e => absurd e (by decide)⟩).elim⟩
theorem e_stat6 (d m : Nat) (rest : List zOp) (ls st : List Value) (σ : MS) (Q : Option Value → MS → Prop) (w : Nat) (a u n : Nat) (v0 v1 v2 v3 v4 v5 : Value) : zB d m ((.invokestatic w, a, 6, 5, u, n) :: rest) ls (v5 :: v4 :: v3 :: v2 :: v1 :: v0 :: st) σ Q = (zWid st ≤ 8 ∧ zC d a [v0, v1, v2, v3, v4, v5] σ (fun v ρ => zB d m rest ls (v.toList ++ st) ρ Q)) := by
  rw [zB_cons]
  refine Eq.trans (b := zK d m rest Q (if (zWid st ≤ 8 ∧ (5 = 0 → sK σ (zRecv [v0, v1, v2, v3, v4, v5]) = (0, u))) then _ else none)) rfl ?_
  by_cases h : (zWid st ≤ 8 ∧ (5 = 0 → sK σ (zRecv [v0, v1, v2, v3, v4, v5]) = (0, u)))
  · rw [if_pos h]; exact propext ⟨fun z => ⟨h.1, z⟩, fun z => z.2⟩
  · rw [if_neg h]; exact propext ⟨fun z => False.elim z, fun z => (h ⟨z.1, fun e => absurd e (by decide)⟩).elim⟩
theorem e_stat7 (d m : Nat) (rest : List zOp) (ls st : List Value) (σ : MS) (Q : Option Value → MS → Prop) (w : Nat) (a u n : Nat) (v0 v1 v2 v3 v4 v5 v6 : Value) : zB d m ((.invokestatic w, a, 7, 5, u, n) :: rest) ls (v6 :: v5 :: v4 :: v3 :: v2 :: v1 :: v0 :: st) σ Q = (zWid st ≤ 8 ∧ zC d a [v0, v1, v2, v3, v4, v5, v6] σ (fun v ρ => zB d m rest ls (v.toList ++ st) ρ Q)) := by
  rw [zB_cons]
  refine Eq.trans (b := zK d m rest Q (if (zWid st ≤ 8 ∧ (5 = 0 → sK σ (zRecv [v0, v1, v2, v3, v4, v5, v6]) = (0, u))) then _ else none)) rfl ?_
  by_cases h : (zWid st ≤ 8 ∧ (5 = 0 → sK σ (zRecv [v0, v1, v2, v3, v4, v5, v6]) = (0, u)))
  · rw [if_pos h]; exact propext ⟨fun z => ⟨h.1, z⟩, fun z => z.2⟩
  · rw [if_neg h]; exact propext ⟨fun z => False.elim z, fun z => (h ⟨z.1, fun e => absurd e (by decide)⟩).elim⟩
theorem e_spec1 (d m : Nat) (rest : List zOp) (ls st : List Value) (σ : MS) (Q : Option Value → MS → Prop) (w : Nat) (a u n : Nat) (r : Nat) : zB d m ((.invokespecial w, a, 1, 0, u, n) :: rest) ls (.ref r :: st) σ Q = ((zWid st ≤ 8 ∧ sK σ r = (0, u)) ∧ zC d a [.ref r] σ (fun v ρ => zB d m rest ls (v.toList ++ st) ρ Q)) := by
  rw [zB_cons]
  refine Eq.trans (b := zK d m rest Q (if (zWid st ≤ 8 ∧ (0 = 0 → sK σ (zRecv [.ref r]) = (0, u))) then _ else none)) rfl ?_
  by_cases h : (zWid st ≤ 8 ∧ (0 = 0 → sK σ (zRecv [.ref r]) = (0, u)))
  · rw [if_pos h]; exact propext ⟨fun z => ⟨⟨h.1, h.2 rfl⟩, z⟩, fun z => z.2⟩
  · rw [if_neg h]; exact propext ⟨fun z => False.elim z, fun z => (h ⟨z.1.1, fun _ => z.1.2⟩).elim⟩
theorem e_spec2 (d m : Nat) (rest : List zOp) (ls st : List Value) (σ : MS) (Q : Option Value → MS → Prop) (w : Nat) (a u n : Nat) (r : Nat) (v1 : Value) : zB d m ((.invokespecial w, a, 2, 0, u, n) :: rest) ls (v1 :: .ref r :: st) σ Q = ((zWid st ≤ 8 ∧ sK σ r = (0, u)) ∧ zC d a [.ref r, v1] σ (fun v ρ => zB d m rest ls (v.toList ++ st) ρ Q)) := by
  rw [zB_cons]
  refine Eq.trans (b := zK d m rest Q (if (zWid st ≤ 8 ∧ (0 = 0 → sK σ (zRecv [.ref r, v1]) = (0, u))) then _ else none)) rfl ?_
  by_cases h : (zWid st ≤ 8 ∧ (0 = 0 → sK σ (zRecv [.ref r, v1]) = (0, u)))
  · rw [if_pos h]; exact propext ⟨fun z => ⟨⟨h.1, h.2 rfl⟩, z⟩, fun z => z.2⟩
  · rw [if_neg h]; exact propext ⟨fun z => False.elim z, fun z => (h ⟨z.1.1, fun _ => z.1.2⟩).elim⟩
theorem e_spec3 (d m : Nat) (rest : List zOp) (ls st : List Value) (σ : MS) (Q : Option Value → MS → Prop) (w : Nat) (a u n : Nat) (r : Nat) (v1 v2 : Value) : zB d m ((.invokespecial w, a, 3, 0, u, n) :: rest) ls (v2 :: v1 :: .ref r :: st) σ Q = ((zWid st ≤ 8 ∧ sK σ r = (0, u)) ∧ zC d a [.ref r, v1, v2] σ (fun v ρ => zB d m rest ls (v.toList ++ st) ρ Q)) := by
  rw [zB_cons]
  refine Eq.trans (b := zK d m rest Q (if (zWid st ≤ 8 ∧ (0 = 0 → sK σ (zRecv [.ref r, v1, v2]) = (0, u))) then _ else none)) rfl ?_
  by_cases h : (zWid st ≤ 8 ∧ (0 = 0 → sK σ (zRecv [.ref r, v1, v2]) = (0, u)))
  · rw [if_pos h]; exact propext ⟨fun z => ⟨⟨h.1, h.2 rfl⟩, z⟩, fun z => z.2⟩
  · rw [if_neg h]; exact propext ⟨fun z => False.elim z, fun z => (h ⟨z.1.1, fun _ => z.1.2⟩).elim⟩
theorem e_spec4 (d m : Nat) (rest : List zOp) (ls st : List Value) (σ : MS) (Q : Option Value → MS → Prop) (w : Nat) (a u n : Nat) (r : Nat) (v1 v2 v3 : Value) : zB d m ((.invokespecial w, a, 4, 0, u, n) :: rest) ls (v3 :: v2 :: v1 :: .ref r :: st) σ Q = ((zWid st ≤ 8 ∧ sK σ r = (0, u)) ∧ zC d a [.ref r, v1, v2, v3] σ (fun v ρ => zB d m rest ls (v.toList ++ st) ρ Q)) := by
  rw [zB_cons]
  refine Eq.trans (b := zK d m rest Q (if (zWid st ≤ 8 ∧ (0 = 0 → sK σ (zRecv [.ref r, v1, v2, v3]) = (0, u))) then _ else none)) rfl ?_
  by_cases h : (zWid st ≤ 8 ∧ (0 = 0 → sK σ (zRecv [.ref r, v1, v2, v3]) = (0, u)))
  · rw [if_pos h]; exact propext ⟨fun z => ⟨⟨h.1, h.2 rfl⟩, z⟩, fun z => z.2⟩
  · rw [if_neg h]; exact propext ⟨fun z => False.elim z, fun z => (h ⟨z.1.1, fun _ => z.1.2⟩).elim⟩
theorem e_spec5 (d m : Nat) (rest : List zOp) (ls st : List Value) (σ : MS) (Q : Option Value → MS → Prop) (w : Nat) (a u n : Nat) (r : Nat) (v1 v2 v3 v4 : Value) : zB d m ((.invokespecial w, a, 5, 0, u, n) :: rest) ls (v4 :: v3 :: v2 :: v1 :: .ref r :: st) σ Q = ((zWid st ≤ 8 ∧ sK σ r = (0, u)) ∧ zC d a [.ref r, v1, v2, v3, v4] σ (fun v ρ => zB d m rest ls (v.toList ++ st) ρ Q)) := by
  rw [zB_cons]
  refine Eq.trans (b := zK d m rest Q (if (zWid st ≤ 8 ∧ (0 = 0 → sK σ (zRecv [.ref r, v1, v2, v3, v4]) = (0, u))) then _ else none)) rfl ?_
  by_cases h : (zWid st ≤ 8 ∧ (0 = 0 → sK σ (zRecv [.ref r, v1, v2, v3, v4]) = (0, u)))
  · rw [if_pos h]; exact propext ⟨fun z => ⟨⟨h.1, h.2 rfl⟩, z⟩, fun z => z.2⟩
  · rw [if_neg h]; exact propext ⟨fun z => False.elim z, fun z => (h ⟨z.1.1, fun _ => z.1.2⟩).elim⟩
theorem e_strlen (d m : Nat) (rest : List zOp) (ls st : List Value) (σ : MS) (Q : Option Value → MS → Prop) (w r : Nat) (a b u n : Nat) : zB d m ((.invokevirtual w, a, b, 3, u, n) :: rest) ls (.ref r :: st) σ Q = ((zStr ≤ r ∧ r < zStr + 9 ∧ zWid st ≤ 8) ∧ zB d m rest ls (.int (nI (zText.getD (r - zStr) []).length) :: st) σ Q) := by
  rw [zB_cons]
  refine Eq.trans (b := zK d m rest Q (if (zStr ≤ r ∧ r < zStr + 9 ∧ zWid st ≤ 8) then _ else none)) rfl ?_
  split
  · next h => exact propext ⟨fun z => ⟨h, z⟩, fun z => z.2⟩
  · next h => exact propext ⟨fun z => False.elim z, fun z => h z.1⟩
theorem e_charAt (d m : Nat) (rest : List zOp) (ls st : List Value) (σ : MS) (Q : Option Value → MS → Prop) (w r : Nat) (i : Int32) (a b u n : Nat) : zB d m ((.invokevirtual w, a, b, 4, u, n) :: rest) ls (.int i :: .ref r :: st) σ Q = (((zStr ≤ r ∧ r < zStr + 9 ∧ zWid st ≤ 8) ∧ zIn i (zText.getD (r - zStr) []).length = true) ∧ zB d m rest ls (.int (nI ((zText.getD (r - zStr) []).getD i.toNatClampNeg 0)) :: st) σ Q) := by
  rw [zB_cons]
  refine Eq.trans (b := zK d m rest Q (if ((zStr ≤ r ∧ r < zStr + 9 ∧ zWid st ≤ 8) ∧ zIn i (zText.getD (r - zStr) []).length = true) then _ else none)) rfl ?_
  split
  · next h => exact propext ⟨fun z => ⟨h, z⟩, fun z => z.2⟩
  · next h => exact propext ⟨fun z => False.elim z, fun z => h z.1⟩
theorem e_copy (d m : Nat) (rest : List zOp) (ls st : List Value) (σ : MS) (Q : Option Value → MS → Prop) (w r q : Nat) (sp dp k : Int32) (a b u n : Nat) : zB d m ((.invokestatic w, a, b, 2, u, n) :: rest) ls (.int k :: .int dp :: .ref q :: .int sp :: .ref r :: st) σ Q = ((¬ sp < 0 ∧ ¬ dp < 0 ∧ ¬ k < 0 ∧ sp.toNatClampNeg + k.toNatClampNeg ≤ (sK σ r).2 ∧ dp.toNatClampNeg + k.toNatClampNeg ≤ (sK σ q).2 ∧ zWid st ≤ 8) ∧ (if (sK σ r).1 = 1 ∧ (sK σ q).1 = 1 then zB d m rest ls st (cpI σ r q sp.toNatClampNeg dp.toNatClampNeg k.toNatClampNeg) Q else if (sK σ r).1 = 2 ∧ (sK σ q).1 = 2 then zB d m rest ls st (cpL σ r q sp.toNatClampNeg dp.toNatClampNeg k.toNatClampNeg) Q else False)) := by
  rw [zB_cons]
  refine Eq.trans (b := zK d m rest Q (if (¬ sp < 0 ∧ ¬ dp < 0 ∧ ¬ k < 0 ∧ sp.toNatClampNeg + k.toNatClampNeg ≤ (sK σ r).2 ∧ dp.toNatClampNeg + k.toNatClampNeg ≤ (sK σ q).2 ∧ zWid st ≤ 8) then (if (sK σ r).1 = 1 ∧ (sK σ q).1 = 1 then _ else if (sK σ r).1 = 2 ∧ (sK σ q).1 = 2 then _ else none) else none)) rfl ?_
  split
  · next h =>
    refine Eq.trans ?_ (propext ⟨fun z => ⟨h, z⟩, fun z => z.2⟩)
    split
    · rfl
    · split
      · rfl
      · rfl
  · next h => exact propext ⟨fun z => False.elim z, fun z => h z.1⟩
theorem e_iret0 (d m : Nat) (rest : List zOp) (ls : List Value) (σ : MS) (Q : Option Value → MS → Prop) (x : Int32) (a b u n : Nat) : zB d m ((.ireturn, a, b, 0, u, n) :: rest) ls [.int x] σ Q = Q (some (.int x)) σ := by
  rw [zB_cons]
  refine Eq.trans (b := zK d m rest Q (if (0 = 1 → (x = nI 0 ∨ x = nI 1)) then _ else none)) rfl ?_
  rw [if_pos (fun h => absurd h (by decide))]
  rfl
theorem e_iret1 (d m : Nat) (rest : List zOp) (ls : List Value) (σ : MS) (Q : Option Value → MS → Prop) (x : Int32) (a b u n : Nat) : zB d m ((.ireturn, a, b, 1, u, n) :: rest) ls [.int x] σ Q = ((x = nI 0 ∨ x = nI 1) ∧ Q (some (.int x)) σ) := by
  rw [zB_cons]
  refine Eq.trans (b := zK d m rest Q (if (1 = 1 → (x = nI 0 ∨ x = nI 1)) then _ else none)) rfl ?_
  split
  · next h => exact propext ⟨fun z => ⟨h rfl, z⟩, fun z => z.2⟩
  · next h => exact propext ⟨fun z => False.elim z, fun z => h (fun _ => z.1)⟩
theorem e_lret (d m : Nat) (rest : List zOp) (ls : List Value) (σ : MS) (Q : Option Value → MS → Prop) (x : Int64) (p : Nat × Nat × Nat × Nat × Nat) : zB d m ((.lreturn, p) :: rest) ls [.long x] σ Q = Q (some (.long x)) σ := by
  rw [zB_cons]; rfl
theorem e_aret (d m : Nat) (rest : List zOp) (ls : List Value) (σ : MS) (Q : Option Value → MS → Prop) (x : Nat) (p : Nat × Nat × Nat × Nat × Nat) : zB d m ((.areturn, p) :: rest) ls [.ref x] σ Q = Q (some (.ref x)) σ := by
  rw [zB_cons]; rfl
theorem e_vret (d m : Nat) (rest : List zOp) (ls : List Value) (σ : MS) (Q : Option Value → MS → Prop) (p : Nat × Nat × Nat × Nat × Nat) : zB d m ((.return_, p) :: rest) ls [] σ Q = Q none σ := by
  rw [zB_cons]; rfl
