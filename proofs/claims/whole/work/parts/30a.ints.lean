/-! SMALL NUMBERS AS INTS -/
theorem nI_bv (x : Nat) : (nI x).toBitVec = BitVec.ofNat 32 x := rfl
theorem nI_or (x y : Nat) : nI x ||| nI y = nI (x ||| y) := by
  apply Int32.toBitVec_inj.mp
  rw [Int32.toBitVec_or, nI_bv, nI_bv, nI_bv, BitVec.ofNat_or]
theorem nI_and (x y : Nat) : nI x &&& nI y = nI (x &&& y) := by
  apply Int32.toBitVec_inj.mp
  rw [Int32.toBitVec_and, nI_bv, nI_bv, nI_bv, BitVec.ofNat_and]
theorem nI_xor (x y : Nat) : nI x ^^^ nI y = nI (x ^^^ y) := by
  apply Int32.toBitVec_inj.mp
  rw [Int32.toBitVec_xor, nI_bv, nI_bv, nI_bv, BitVec.ofNat_xor]
theorem nI_mul (x y : Nat) : nI x * nI y = nI (x * y) := (Int32.ofNat_mul x y).symm
theorem nI_sub {x y : Nat} (h : y ≤ x) : nI x - nI y = nI (x - y) := by
  have : nI x = nI (x - y) + nI y := by rw [nI_add, Nat.sub_add_cancel h]
  rw [this, Int32.add_sub_cancel]
theorem nI_31 {i : Nat} (h : i < 32) : nI i &&& 31 = nI i := by
  show nI i &&& nI 31 = nI i
  rw [nI_and]
  congr 1
  have : i &&& (2 ^ 5 - 1) = i % 2 ^ 5 := Nat.and_two_pow_sub_one_eq_mod i 5
  rw [show (31 : Nat) = 2 ^ 5 - 1 from rfl, this, Nat.mod_eq_of_lt h]
theorem smod32 : ∀ i, i < 32 → ((nI i).toBitVec.smod 32).toNat = i := by decide +kernel
theorem nI_shl {x i : Nat} (h : i < 32) (hx : x * 2 ^ i < 2 ^ 32) : nI x <<< (nI i &&& 31) = nI (x * 2 ^ i) := by
  rw [nI_31 h]
  exact pk_shlN (nI i) i (smod32 i h) hx
theorem nI_shl1 {i : Nat} (h : i < 31) : nI 1 <<< (nI i &&& 31) = nI (2 ^ i) := by
  have h1 : 2 ^ i < 2 ^ 32 := Nat.pow_lt_pow_of_lt (by decide) (by omega)
  rw [nI_shl (by omega) (by omega), Nat.one_mul]
theorem nI_shr {x i : Nat} (hx : x < 2 ^ 31) (h : i < 32) : nI x >>> (nI i &&& 31) = nI (x / 2 ^ i) := by
  rw [nI_31 h]
  exact pk_shrN hx (nI i) i (smod32 i h)
theorem bI_nI (c : Bool) : bI c = nI c.toNat := by cases c <;> rfl
theorem nI_bit {x i : Nat} (hx : x < 2 ^ 31) (h : i < 32) : nI x >>> (nI i &&& 31) &&& nI 1 = bI (x.testBit i) := by
  rw [nI_shr hx h, nI_and, bI_nI, Nat.toNat_testBit, Nat.and_one_is_mod]
theorem nI_div {x y : Nat} (hx : x < 2 ^ 31) (h0 : 0 < y) (hy : y < 2 ^ 31) : nI x / nI y = nI (x / y) := pk_div hx h0 hy
theorem nI_mod {x y : Nat} (hx : x < 2 ^ 31) (h0 : 0 < y) (hy : y < 2 ^ 31) : nI x % nI y = nI (x % y) := by
  apply Int32.toInt_inj.mp
  rw [Int32.toInt_mod, nI_toInt hx, nI_toInt hy, nI_toInt (Nat.lt_of_le_of_lt (Nat.mod_le x y) hx)]
  rfl
