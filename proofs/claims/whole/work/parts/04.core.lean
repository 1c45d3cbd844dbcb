/-! THE SMALL MACHINE: the methods' lists of instructions over a heap of numbered cells -/
abbrev MS : Type := List (Nat × Nat) × (Nat → Nat → Int32) × (Nat → Nat → Int64) × (Nat → Nat → Nat)
def sK (σ : MS) (a : Nat) : Nat × Nat := σ.1.getD a (99, 0)
def sI (σ : MS) (a i : Nat) : Int32 := σ.2.1 a i
def sL (σ : MS) (a i : Nat) : Int64 := σ.2.2.1 a i
def sR (σ : MS) (a i : Nat) : Nat := σ.2.2.2 a i
def setI (σ : MS) (a i : Nat) (v : Int32) : MS := (σ.1, fun b j => if b = a ∧ j = i then v else σ.2.1 b j, σ.2.2)
def setL (σ : MS) (a i : Nat) (v : Int64) : MS := (σ.1, σ.2.1, fun b j => if b = a ∧ j = i then v else σ.2.2.1 b j, σ.2.2.2)
def setR (σ : MS) (a i v : Nat) : MS := (σ.1, σ.2.1, σ.2.2.1, fun b j => if b = a ∧ j = i then v else σ.2.2.2 b j)
def cpI (σ : MS) (a b sp dp n : Nat) : MS := (σ.1, fun q j => if q = b then va_cpy (σ.2.1 a) (σ.2.1 b) sp dp n j else σ.2.1 q j, σ.2.2)
def cpL (σ : MS) (a b sp dp n : Nat) : MS := (σ.1, σ.2.1, fun q j => if q = b then va_cpy (σ.2.2.1 a) (σ.2.2.1 b) sp dp n j else σ.2.2.1 q j, σ.2.2.2)
/-- the number that stands for null, the first of the Strings' numbers -/
abbrev zNul : Nat := 1000000
abbrev zStr : Nat := 2000000
def zNew (σ : MS) (k : Nat × Nat) : MS := (σ.1 ++ [k], fun b j => if b = σ.1.length then 0 else σ.2.1 b j, fun b j => if b = σ.1.length then 0 else σ.2.2.1 b j, fun b j => if b = σ.1.length then zNul else σ.2.2.2 b j)
/-- the Strings' signs -/
def zText : List (List Nat) := ["floor by near odds mark weighs paper clerk at lies file take swap sort ask any when beside total loop end stop ", "p", "pp", "cp", "ff", "l", "sn", "", " floor near odds mark paper clerk lies by weighs at file take swap sort ask any when loop end stop beside total "].map (fun s => s.toList.map Char.toNat)
abbrev zR : Type := Option ((List Value × List Value × MS) ⊕ ((Nat × List Value × List Value × MS) ⊕ ((Nat × List Value × List Value × List Value × MS) ⊕ (Option Value × MS))))
abbrev zNx (ls st : List Value) (σ : MS) : zR := some (.inl (ls, st, σ))
abbrev zJp (t : Nat) (ls st : List Value) (σ : MS) : zR := some (.inr (.inl (t, ls, st, σ)))
abbrev zCl (m : Nat) (as ls st : List Value) (σ : MS) : zR := some (.inr (.inr (.inl (m, as, ls, st, σ))))
abbrev zRt (v : Option Value) (σ : MS) : zR := some (.inr (.inr (.inr (v, σ))))
def zI1 (st : List Value) (f : Int32 → List Value → zR) : zR := match st with
  | .int x :: t => f x t
  | _ => none
def zI2 (st : List Value) (f : Int32 → Int32 → List Value → zR) : zR := zI1 st fun y t => zI1 t fun x u => f x y u
def zL1 (st : List Value) (f : Int64 → List Value → zR) : zR := match st with
  | .long x :: t => f x t
  | _ => none
def zL2 (st : List Value) (f : Int64 → Int64 → List Value → zR) : zR := zL1 st fun y t => zL1 t fun x u => f x y u
def zA1 (st : List Value) (f : Nat → List Value → zR) : zR := match st with
  | .ref x :: t => f x t
  | _ => none
def zk32 (a t : Nat) : Int32 := match t with
  | 0 => nI a
  | _ => -(nI a)
def zk64 (a t : Nat) : Int64 := match t with
  | 0 => lN a
  | _ => -(lN a)
/-- a place that a row of n has -/
def zIn (i : Int32) (n : Nat) : Bool := !decide (i < 0) && decide (i.toNatClampNeg < n)
/-- the list of locals with one set; a long that is cut goes -/
def zSet : List Value → Nat → Value → List Value
  | [], _, _ => []
  | _ :: l, 0, v => v :: l
  | .long x :: l, n + 1, v => (match n with
    | 0 => .null
    | _ => .long x) :: zSet l n v
  | y :: l, n + 1, v => y :: zSet l n v
def zSet2 (l : List Value) (i : Nat) (v : Value) : List Value := zSet (zSet l (i + 1) .null) i v
def zGet : List Value → Nat → Value
  | [], _ => .null
  | v :: _, 0 => v
  | _ :: l, n + 1 => zGet l n
def zPop : Nat → List Value → List Value → Option (List Value × List Value)
  | 0, st, as => some (as, st)
  | n + 1, v :: st, as => zPop n st (v :: as)
  | _ + 1, [], _ => none
def zWid (st : List Value) : Nat := (st.map fun v => v.category).sum
def zCond (c : Jvm.ClassFile.Cond) (x y : Int32) (A B : zR) : zR := match c with
  | .eq => if x = y then A else B
  | .ne => if x = y then B else A
  | .lt => if x < y then A else B
  | .ge => if x < y then B else A
  | .gt => if y < x then A else B
  | .le => if y < x then B else A
def zTab (pc : Nat) (d lo hi : Int) (offs : Array Int) (x : Int32) : Nat := if x.toInt < lo ∨ hi < x.toInt then ((pc : Int) + d).toNat else ((pc : Int) + offs.getD (x.toInt - lo).toNat 0).toNat
def zRecv (as : List Value) : Nat := match as with
  | .ref r :: _ => r
  | _ => zNul
def zInvoke (a b t u : Nat) (ls st : List Value) (σ : MS) : zR := match t with
  | 1 => zA1 st fun r s1 => if r < zNul ∧ zWid s1 ≤ 8 then zNx ls s1 σ else none
  | 2 => zI1 st fun n s1 => zI1 s1 fun dp s2 => zA1 s2 fun q s3 => zI1 s3 fun sp s4 => zA1 s4 fun r s5 =>
      if ¬ sp < 0 ∧ ¬ dp < 0 ∧ ¬ n < 0 ∧ sp.toNatClampNeg + n.toNatClampNeg ≤ (sK σ r).2 ∧ dp.toNatClampNeg + n.toNatClampNeg ≤ (sK σ q).2 ∧ zWid s5 ≤ 8 then
        (if (sK σ r).1 = 1 ∧ (sK σ q).1 = 1 then zNx ls s5 (cpI σ r q sp.toNatClampNeg dp.toNatClampNeg n.toNatClampNeg)
        else if (sK σ r).1 = 2 ∧ (sK σ q).1 = 2 then zNx ls s5 (cpL σ r q sp.toNatClampNeg dp.toNatClampNeg n.toNatClampNeg) else none)
      else none
  | 3 => zA1 st fun r s1 => if zStr ≤ r ∧ r < zStr + 9 ∧ zWid s1 ≤ 8 then zNx ls (.int (nI (zText.getD (r - zStr) []).length) :: s1) σ else none
  | 4 => zI1 st fun i s0 => zA1 s0 fun r s1 => if (zStr ≤ r ∧ r < zStr + 9 ∧ zWid s1 ≤ 8) ∧ zIn i (zText.getD (r - zStr) []).length then zNx ls (.int (nI ((zText.getD (r - zStr) []).getD i.toNatClampNeg 0)) :: s1) σ else none
  | _ => match zPop b st [] with
    | none => none
    | some (as, s1) => if zWid s1 ≤ 8 ∧ (t = 0 → sK σ (zRecv as) = (0, u)) then zCl a as ls s1 σ else none
/-- one instruction -/
def zop (o : zOp) (ls st : List Value) (σ : MS) : zR := match o with
  | (.iconst _, a, _, t, _, _) => zNx ls (.int (zk32 a t) :: st) σ
  | (.bipush _, a, _, t, _, _) => zNx ls (.int (zk32 a t) :: st) σ
  | (.sipush _, a, _, t, _, _) => zNx ls (.int (zk32 a t) :: st) σ
  | (.ldc _, a, _, t, _, _) => zNx ls ((if t = 2 then .ref (zStr + a) else .int (zk32 a t)) :: st) σ
  | (.ldc_w _, a, _, t, _, _) => zNx ls (.int (zk32 a t) :: st) σ
  | (.lconst _, a, _, t, _, _) => zNx ls (.long (zk64 a t) :: st) σ
  | (.ldc2_w _, a, _, t, _, _) => zNx ls (.long (zk64 a t) :: st) σ
  | (.iload _, a, _, _, _, _) => zI1 [zGet ls a] fun x _ => zNx ls (.int x :: st) σ
  | (.iload_n _, a, _, _, _, _) => zI1 [zGet ls a] fun x _ => zNx ls (.int x :: st) σ
  | (.lload _, a, _, _, _, _) => zL1 [zGet ls a] fun x _ => zNx ls (.long x :: st) σ
  | (.lload_n _, a, _, _, _, _) => zL1 [zGet ls a] fun x _ => zNx ls (.long x :: st) σ
  | (.aload _, a, _, _, _, _) => zA1 [zGet ls a] fun x _ => zNx ls (.ref x :: st) σ
  | (.aload_n _, a, _, _, _, _) => zA1 [zGet ls a] fun x _ => zNx ls (.ref x :: st) σ
  | (.istore _, a, _, _, _, _) => zI1 st fun x s1 => zNx (zSet ls a (.int x)) s1 σ
  | (.istore_n _, a, _, _, _, _) => zI1 st fun x s1 => zNx (zSet ls a (.int x)) s1 σ
  | (.lstore _, a, _, _, _, _) => zL1 st fun x s1 => zNx (zSet2 ls a (.long x)) s1 σ
  | (.lstore_n _, a, _, _, _, _) => zL1 st fun x s1 => zNx (zSet2 ls a (.long x)) s1 σ
  | (.astore _, a, _, _, _, _) => zA1 st fun x s1 => zNx (zSet ls a (.ref x)) s1 σ
  | (.astore_n _, a, _, _, _, _) => zA1 st fun x s1 => zNx (zSet ls a (.ref x)) s1 σ
  | (.iinc _ _, a, b, t, _, _) => zI1 [zGet ls a] fun x _ => zNx (zSet ls a (.int (x + zk32 b t))) st σ
  | (.iadd, _) => zI2 st fun x y s1 => zNx ls (.int (x + y) :: s1) σ
  | (.isub, _) => zI2 st fun x y s1 => zNx ls (.int (x - y) :: s1) σ
  | (.imul, _) => zI2 st fun x y s1 => zNx ls (.int (x * y) :: s1) σ
  | (.iand, _) => zI2 st fun x y s1 => zNx ls (.int (x &&& y) :: s1) σ
  | (.ior, _) => zI2 st fun x y s1 => zNx ls (.int (x ||| y) :: s1) σ
  | (.ixor, _) => zI2 st fun x y s1 => zNx ls (.int (x ^^^ y) :: s1) σ
  | (.idiv, _) => zI2 st fun x y s1 => if y = 0 then none else zNx ls (.int (x / y) :: s1) σ
  | (.irem, _) => zI2 st fun x y s1 => if y = 0 then none else zNx ls (.int (x - x / y * y) :: s1) σ
  | (.ishl, _) => zI2 st fun x y s1 => zNx ls (.int (x <<< (y &&& 31)) :: s1) σ
  | (.ishr, _) => zI2 st fun x y s1 => zNx ls (.int (x >>> (y &&& 31)) :: s1) σ
  | (.iushr, _) => zI2 st fun x y s1 => zNx ls (.int ((x.toUInt32 >>> (y.toUInt32 &&& Int32.toUInt32 31)).toInt32) :: s1) σ
  | (.ladd, _) => zL2 st fun x y s1 => zNx ls (.long (x + y) :: s1) σ
  | (.lsub, _) => zL2 st fun x y s1 => zNx ls (.long (x - y) :: s1) σ
  | (.lmul, _) => zL2 st fun x y s1 => zNx ls (.long (x * y) :: s1) σ
  | (.land, _) => zL2 st fun x y s1 => zNx ls (.long (x &&& y) :: s1) σ
  | (.lor, _) => zL2 st fun x y s1 => zNx ls (.long (x ||| y) :: s1) σ
  | (.ldiv, _) => zL2 st fun x y s1 => if y = 0 then none else zNx ls (.long (x / y) :: s1) σ
  | (.lrem, _) => zL2 st fun x y s1 => if y = 0 then none else zNx ls (.long (x - x / y * y) :: s1) σ
  | (.lshl, _) => zI1 st fun y s0 => zL1 s0 fun x s1 => zNx ls (.long (x <<< (y.toInt64 &&& 63)) :: s1) σ
  | (.lcmp, _) => zL2 st fun x y s1 => zNx ls (.int (lg_cmp x y) :: s1) σ
  | (.i2l, _) => zI1 st fun x s1 => zNx ls (.long x.toInt64 :: s1) σ
  | (.l2i, _) => zL1 st fun x s1 => zNx ls (.int x.toInt32 :: s1) σ
  | (.i2b, _) => zI1 st fun x s1 => zNx ls (.int x.toInt8.toInt32 :: s1) σ
  | (.i2s, _) => zI1 st fun x s1 => zNx ls (.int x.toInt16.toInt32 :: s1) σ
  | (.dup, _) => match st with
    | v :: s1 => if v.category = 1 then zNx ls (v :: v :: s1) σ else none
    | _ => none
  | (.dup2, _) => match st with
    | v :: w :: s1 => if v.category = 1 ∧ w.category = 1 then zNx ls (v :: w :: v :: w :: s1) σ else none
    | _ => none
  | (.pop, _) => match st with
    | v :: s1 => if v.category = 1 then zNx ls s1 σ else none
    | _ => none
  | (.goto _, a, _, _, _, _) => zJp a ls st σ
  | (.nop, a, _, _, _, _) => zJp a ls st σ
  | (.ifCond c _, a, _, _, _, _) => zI1 st fun x s1 => zCond c x (nI 0) (zJp a ls s1 σ) (zNx ls s1 σ)
  | (.if_icmp c _, a, _, _, _, _) => zI2 st fun x y s1 => zCond c x y (zJp a ls s1 σ) (zNx ls s1 σ)
  | (.tableswitch d lo hi offs, a, _, _, _, _) => zI1 st fun x s1 => zJp (zTab a d lo hi offs x) ls s1 σ
  | (.lookupswitch d ps, a, _, _, _, _) => zI1 st fun x s1 => zJp ((a : Int) + Op.lookupswitch.offset ps.toList d x.toInt).toNat ls s1 σ
  | (.getfield _, a, b, t, _, _) => zA1 st fun r s1 => if sK σ r = (0, a) then zNx ls ((match t with
      | 1 => .long (sL σ r b)
      | 2 => .ref (sR σ r b)
      | _ => .int (sI σ r b)) :: s1) σ else none
  | (.putfield _, a, b, t, _, _) => (match t with
      | 1 => zL1 st fun x s0 => zA1 s0 fun r s1 => if sK σ r = (0, a) then zNx ls s1 (setL σ r b x) else none
      | 2 => zA1 st fun x s0 => zA1 s0 fun r s1 => if sK σ r = (0, a) then zNx ls s1 (setR σ r b x) else none
      | 3 => zI1 st fun x s0 => zA1 s0 fun r s1 => if sK σ r = (0, a) ∧ (x = nI 0 ∨ x = nI 1) then zNx ls s1 (setI σ r b x) else none
      | _ => zI1 st fun x s0 => zA1 s0 fun r s1 => if sK σ r = (0, a) then zNx ls s1 (setI σ r b x) else none)
  | (.iaload, _) => zI1 st fun i s0 => zA1 s0 fun r s1 => if ((sK σ r).1 = 1 ∨ (sK σ r).1 = 6) ∧ zIn i (sK σ r).2 then zNx ls (.int (sI σ r i.toNatClampNeg) :: s1) σ else none
  | (.laload, _) => zI1 st fun i s0 => zA1 s0 fun r s1 => if (sK σ r).1 = 2 ∧ zIn i (sK σ r).2 then zNx ls (.long (sL σ r i.toNatClampNeg) :: s1) σ else none
  | (.baload, _) => zI1 st fun i s0 => zA1 s0 fun r s1 => if (sK σ r).1 = 3 ∧ zIn i (sK σ r).2 then zNx ls (.int (sI σ r i.toNatClampNeg) :: s1) σ else none
  | (.aaload, _) => zI1 st fun i s0 => zA1 s0 fun r s1 => if 40 ≤ (sK σ r).1 ∧ (sK σ r).1 < 60 ∧ zIn i (sK σ r).2 then zNx ls (.ref (sR σ r i.toNatClampNeg) :: s1) σ else none
  | (.iastore, _) => zI1 st fun x s9 => zI1 s9 fun i s0 => zA1 s0 fun r s1 => if (sK σ r).1 = 1 ∧ zIn i (sK σ r).2 then zNx ls s1 (setI σ r i.toNatClampNeg x) else none
  | (.lastore, _) => zL1 st fun x s9 => zI1 s9 fun i s0 => zA1 s0 fun r s1 => if (sK σ r).1 = 2 ∧ zIn i (sK σ r).2 then zNx ls s1 (setL σ r i.toNatClampNeg x) else none
  | (.bastore, _) => zI1 st fun x s9 => zI1 s9 fun i s0 => zA1 s0 fun r s1 => if (sK σ r).1 = 3 ∧ zIn i (sK σ r).2 then zNx ls s1 (setI σ r i.toNatClampNeg (vp_nar .byte x)) else none
  | (.aastore, _) => zA1 st fun x s9 => zI1 s9 fun i s0 => zA1 s0 fun r s1 => if 40 ≤ (sK σ r).1 ∧ (sK σ r).1 < 60 ∧ zIn i (sK σ r).2 ∧ sK σ x = (0, (sK σ r).1 - 40) then zNx ls s1 (setR σ r i.toNatClampNeg x) else none
  | (.arraylength, _) => zA1 st fun r s1 => if (1 ≤ (sK σ r).1 ∧ (sK σ r).1 ≤ 3) ∨ (sK σ r).1 = 6 ∨ (40 ≤ (sK σ r).1 ∧ (sK σ r).1 < 60) then zNx ls (.int (nI (sK σ r).2) :: s1) σ else none
  | (.new _, a, _, _, _, _) => zNx ls (.ref σ.1.length :: st) (zNew σ (0, a))
  | (.newarray _, a, _, _, _, _) => zI1 st fun n s1 => if ¬ n < 0 ∧ n.toNatClampNeg ≤ 100000 then zNx ls (.ref σ.1.length :: s1) (zNew σ (a, n.toNatClampNeg)) else none
  | (.anewarray _, a, _, _, _, _) => zI1 st fun n s1 => if ¬ n < 0 ∧ n.toNatClampNeg ≤ 100000 then zNx ls (.ref σ.1.length :: s1) (zNew σ (a, n.toNatClampNeg)) else none
  | (.invokevirtual _, a, b, t, u, _) => zInvoke a b t u ls st σ
  | (.invokestatic _, a, b, t, u, _) => zInvoke a b t u ls st σ
  | (.invokespecial _, a, b, t, u, _) => zInvoke a b t u ls st σ
  | (.ireturn, _, _, t, _, _) => match st with
    | [.int x] => if t = 1 → (x = nI 0 ∨ x = nI 1) then zRt (some (.int x)) σ else none
    | _ => none
  | (.lreturn, _) => match st with
    | [.long x] => zRt (some (.long x)) σ
    | _ => none
  | (.areturn, _) => match st with
    | [.ref x] => zRt (some (.ref x)) σ
    | _ => none
  | (.return_, _) => match st with
    | [] => zRt none σ
    | _ => none
  | _ => none
