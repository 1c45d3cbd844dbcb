/-! LOOPS AND SMALL NUMBERS -/
def zfor {α : Type} (g : Nat → α → α) : Nat → α → α
  | 0, a => a
  | n + 1, a => g n (zfor g n a)
theorem zfor_up {α : Type} {P : Nat → α → Prop} {g : Nat → α → α} {n : Nat} {a : α} (h : ∀ i x, i < n → P i x = P (i + 1) (g i x)) : P 0 a = P n (zfor g n a) := by
  have : ∀ k, k ≤ n → P 0 a = P k (zfor g k a) := by
    intro k
    induction k with
    | zero => intro _; rfl
    | succ k ih => intro hk; rw [ih (by omega), h k _ (by omega)]; rfl
  exact this n (Nat.le_refl n)
def bI (c : Bool) : Int32 := if c = true then 1 else 0
theorem bI_0 (c : Bool) : (bI c = nI 0) = (c = false) := by cases c <;> decide
theorem bI_ite (c : Prop) [Decidable c] {P : Int32 → Prop} : (if c then P (nI 1) else P (nI 0)) = P (bI (decide c)) := by
  by_cases h : c <;> simp [h, bI] <;> rfl
theorem bI_iteN (c : Prop) [Decidable c] {P : Int32 → Prop} : (if c then P (nI 0) else P (nI 1)) = P (bI (!decide c)) := by
  by_cases h : c <;> simp [h, bI] <;> rfl
theorem zIn_nI {k n : Nat} (hk : k < 2 ^ 31) : (zIn (nI k) n = true) = (k < n) := by
  unfold zIn
  have h1 := nI_pos hk
  have h2 := nI_clamp hk
  simp [h2, h1]
/-- an optional number, -1 for none -/
def oI (o : Option Nat) : Int32 := match o with
  | none => -(nI 1)
  | some k => nI k
/-- THE OFFICE: what both classes hold of a registry and what became of it -/
abbrev Ofc : Type := (Nat → Nat) × (Nat → Nat) × (Nat → Nat) × (Nat → Option Nat) × (Nat → Nat) × (Nat → Nat → List Nat)
def Ofc.wide (A : Ofc) : Nat := A.1 0
def Ofc.high (A : Ofc) : Nat := A.1 1
def Ofc.near (A : Ofc) : Nat := A.1 3
def Ofc.odds (A : Ofc) : Nat := A.1 4
def Ofc.nt (A : Ofc) : Nat := A.1 5
def Ofc.np (A : Ofc) : Nat := A.1 6
def Ofc.nc (A : Ofc) : Nat := A.1 7
def Ofc.w (A : Ofc) : Nat → Nat := A.2.1
def Ofc.tr (A : Ofc) : Nat → Nat := A.2.2.1
def Ofc.pl (A : Ofc) : Nat → Option Nat := A.2.2.2.1
def Ofc.ck (A : Ofc) : Nat → Nat := A.2.2.2.2.1
def Ofc.tn (A : Ofc) : Nat → List Nat := A.2.2.2.2.2 0
def Ofc.pn (A : Ofc) : Nat → List Nat := A.2.2.2.2.2 1
def Ofc.cn (A : Ofc) : Nat → List Nat := A.2.2.2.2.2 2
def OfcOk (A : Ofc) : Prop := (1 ≤ A.wide) ∧ (A.wide ≤ 5) ∧ (1 ≤ A.high) ∧ (A.high ≤ 4) ∧ (1 ≤ A.near) ∧ (A.near ≤ 99) ∧ (A.odds ≤ 16) ∧ (A.nt ≤ 8) ∧ (A.np ≤ 8) ∧ (A.nc ≤ 4) ∧ (∀ t, t < A.nt → 1 ≤ A.w t ∧ A.w t ≤ 9) ∧ (∀ p, p < A.np → A.tr p < 2 ^ A.nt) ∧ (∀ p, A.np ≤ p → A.pl p = none) ∧ (∀ p c, A.pl p = some c → c < A.wide * A.high) ∧ (∀ p q c, A.pl p = some c → A.pl q = some c → p = q) ∧ (∀ k, k < A.nc → A.ck k < A.wide * A.high)
theorem OfcOk.w1 {A : Ofc} (H : OfcOk A) : 1 ≤ A.wide := H.1
theorem OfcOk.w5 {A : Ofc} (H : OfcOk A) : A.wide ≤ 5 := H.2.1
theorem OfcOk.h1 {A : Ofc} (H : OfcOk A) : 1 ≤ A.high := H.2.2.1
theorem OfcOk.h4 {A : Ofc} (H : OfcOk A) : A.high ≤ 4 := H.2.2.2.1
theorem OfcOk.n1 {A : Ofc} (H : OfcOk A) : 1 ≤ A.near := H.2.2.2.2.1
theorem OfcOk.n99 {A : Ofc} (H : OfcOk A) : A.near ≤ 99 := H.2.2.2.2.2.1
theorem OfcOk.o16 {A : Ofc} (H : OfcOk A) : A.odds ≤ 16 := H.2.2.2.2.2.2.1
theorem OfcOk.t8 {A : Ofc} (H : OfcOk A) : A.nt ≤ 8 := H.2.2.2.2.2.2.2.1
theorem OfcOk.p8 {A : Ofc} (H : OfcOk A) : A.np ≤ 8 := H.2.2.2.2.2.2.2.2.1
theorem OfcOk.c4 {A : Ofc} (H : OfcOk A) : A.nc ≤ 4 := H.2.2.2.2.2.2.2.2.2.1
theorem OfcOk.wt {A : Ofc} (H : OfcOk A) : ∀ t, t < A.nt → 1 ≤ A.w t ∧ A.w t ≤ 9 := H.2.2.2.2.2.2.2.2.2.2.1
theorem OfcOk.trt {A : Ofc} (H : OfcOk A) : ∀ p, p < A.np → A.tr p < 2 ^ A.nt := H.2.2.2.2.2.2.2.2.2.2.2.1
theorem OfcOk.pln {A : Ofc} (H : OfcOk A) : ∀ p, A.np ≤ p → A.pl p = none := H.2.2.2.2.2.2.2.2.2.2.2.2.1
theorem OfcOk.plc {A : Ofc} (H : OfcOk A) : ∀ p c, A.pl p = some c → c < A.wide * A.high := H.2.2.2.2.2.2.2.2.2.2.2.2.2.1
theorem OfcOk.pli {A : Ofc} (H : OfcOk A) : ∀ p q c, A.pl p = some c → A.pl q = some c → p = q := H.2.2.2.2.2.2.2.2.2.2.2.2.2.2.1
theorem OfcOk.ckc {A : Ofc} (H : OfcOk A) : ∀ k, k < A.nc → A.ck k < A.wide * A.high := H.2.2.2.2.2.2.2.2.2.2.2.2.2.2.2
theorem OfcOk.mk {A : Ofc} (w1 : 1 ≤ A.wide) (w5 : A.wide ≤ 5) (h1 : 1 ≤ A.high) (h4 : A.high ≤ 4) (n1 : 1 ≤ A.near) (n99 : A.near ≤ 99) (o16 : A.odds ≤ 16) (t8 : A.nt ≤ 8) (p8 : A.np ≤ 8) (c4 : A.nc ≤ 4) (wt : ∀ t, t < A.nt → 1 ≤ A.w t ∧ A.w t ≤ 9) (trt : ∀ p, p < A.np → A.tr p < 2 ^ A.nt) (pln : ∀ p, A.np ≤ p → A.pl p = none) (plc : ∀ p c, A.pl p = some c → c < A.wide * A.high) (pli : ∀ p q c, A.pl p = some c → A.pl q = some c → p = q) (ckc : ∀ k, k < A.nc → A.ck k < A.wide * A.high) : OfcOk A := ⟨w1, w5, h1, h4, n1, n99, o16, t8, p8, c4, wt, trt, pln, plc, pli, ckc⟩
def Ofc.cells (A : Ofc) : Nat := A.wide * A.high
/-- who lies in a cell -/
def Ofc.who (A : Ofc) (c : Nat) : Option Nat := (List.range 8).find? (fun p => A.pl p == some c)
/-- the sum of the weights of a set of traits -/
def Ofc.wts (A : Ofc) (set : Nat) : Nat := zfor (fun t n => if set.testBit t = true then n + A.w t else n) A.nt 0
def Ofc.like (A : Ofc) (p q : Nat) : Nat := A.wts (A.tr p &&& A.tr q)
/-- the cell at a side: 0 above, 1 left, 2 right, 3 below -/
def Ofc.side (A : Ofc) (c k : Nat) : Option Nat := match k with
  | 0 => if 0 < c / A.wide then some (c - A.wide) else none
  | 1 => if 0 < c % A.wide then some (c - 1) else none
  | 2 => if c % A.wide + 1 < A.wide then some (c + 1) else none
  | _ => if c / A.wide + 1 < A.high then some (c + A.wide) else none
/-- a name as a number of base 27 (the class), of base 256 (the Model) -/
def nm27 (l : List Nat) : Nat := l.foldl (fun n c => n * 27 + c) 0
def nm256 (l : List Nat) : Nat := l.foldl (fun n c => n * 256 + (c + 96)) 0
/-- the class's Office at the cell a holds A -/
def ROff (σ : MS) (a : Nat) (A : Ofc) : Prop := (sK σ a = (0, 5)) ∧ (sI σ a 0 = nI A.wide) ∧ (sI σ a 1 = nI A.high) ∧ (sI σ a 2 = nI (A.wide * A.high)) ∧ (sI σ a 3 = nI A.near) ∧ (sI σ a 4 = nI A.odds) ∧ (sI σ a 5 = nI A.nt) ∧ (sI σ a 6 = nI A.np) ∧ (sI σ a 7 = nI A.nc) ∧ (sR σ a 8 = a + 1) ∧ (sR σ a 9 = a + 2) ∧ (sR σ a 10 = a + 3) ∧ (sR σ a 11 = a + 4) ∧ (sR σ a 12 = a + 5) ∧ (sR σ a 13 = a + 6) ∧ (sR σ a 14 = a + 7) ∧ (sR σ a 15 = a + 8) ∧ (sR σ a 16 = a + 9) ∧ (sR σ a 17 = a + 10) ∧ (sR σ a 18 = a + 11) ∧ (sK σ (a + 1) = (1, 8)) ∧ (sK σ (a + 2) = (2, 8)) ∧ (sK σ (a + 3) = (1, 8)) ∧ (sK σ (a + 4) = (1, 8)) ∧ (sK σ (a + 5) = (2, 8)) ∧ (sK σ (a + 6) = (1, 4)) ∧ (sK σ (a + 7) = (2, 4)) ∧ (sK σ (a + 8) = (1, 20)) ∧ (sK σ (a + 9) = (1, 80)) ∧ (sK σ (a + 10) = (1, 64)) ∧ (sK σ (a + 11) = (1, 20)) ∧ (∀ t, t < A.nt → sI σ (a + 1) t = nI (A.w t)) ∧ (∀ t, t < A.nt → sL σ (a + 2) t = lN (nm27 (A.tn t))) ∧ (∀ p, p < A.np → sI σ (a + 3) p = nI (A.tr p)) ∧ (∀ p, p < 8 → sI σ (a + 4) p = oI (A.pl p)) ∧ (∀ p, p < A.np → sL σ (a + 5) p = lN (nm27 (A.pn p))) ∧ (∀ c, c < A.nc → sI σ (a + 6) c = nI (A.ck c)) ∧ (∀ c, c < A.nc → sL σ (a + 7) c = lN (nm27 (A.cn c))) ∧ (∀ c, c < 20 → sI σ (a + 8) c = oI (A.who c)) ∧ (∀ c k, c < A.wide * A.high → k < 4 → sI σ (a + 9) (c * 4 + k) = oI (A.side c k)) ∧ (∀ p q, p < A.np → q < A.np → sI σ (a + 10) (p * 8 + q) = nI (A.like p q))
theorem ROff.k {σ : MS} {a : Nat} {A : Ofc} (H : ROff σ a A) : sK σ a = (0, 5) := H.1
theorem ROff.i0 {σ : MS} {a : Nat} {A : Ofc} (H : ROff σ a A) : sI σ a 0 = nI A.wide := H.2.1
theorem ROff.i1 {σ : MS} {a : Nat} {A : Ofc} (H : ROff σ a A) : sI σ a 1 = nI A.high := H.2.2.1
theorem ROff.i2 {σ : MS} {a : Nat} {A : Ofc} (H : ROff σ a A) : sI σ a 2 = nI (A.wide * A.high) := H.2.2.2.1
theorem ROff.i3 {σ : MS} {a : Nat} {A : Ofc} (H : ROff σ a A) : sI σ a 3 = nI A.near := H.2.2.2.2.1
theorem ROff.i4 {σ : MS} {a : Nat} {A : Ofc} (H : ROff σ a A) : sI σ a 4 = nI A.odds := H.2.2.2.2.2.1
theorem ROff.i5 {σ : MS} {a : Nat} {A : Ofc} (H : ROff σ a A) : sI σ a 5 = nI A.nt := H.2.2.2.2.2.2.1
theorem ROff.i6 {σ : MS} {a : Nat} {A : Ofc} (H : ROff σ a A) : sI σ a 6 = nI A.np := H.2.2.2.2.2.2.2.1
theorem ROff.i7 {σ : MS} {a : Nat} {A : Ofc} (H : ROff σ a A) : sI σ a 7 = nI A.nc := H.2.2.2.2.2.2.2.2.1
theorem ROff.r8 {σ : MS} {a : Nat} {A : Ofc} (H : ROff σ a A) : sR σ a 8 = a + 1 := H.2.2.2.2.2.2.2.2.2.1
theorem ROff.r9 {σ : MS} {a : Nat} {A : Ofc} (H : ROff σ a A) : sR σ a 9 = a + 2 := H.2.2.2.2.2.2.2.2.2.2.1
theorem ROff.r10 {σ : MS} {a : Nat} {A : Ofc} (H : ROff σ a A) : sR σ a 10 = a + 3 := H.2.2.2.2.2.2.2.2.2.2.2.1
theorem ROff.r11 {σ : MS} {a : Nat} {A : Ofc} (H : ROff σ a A) : sR σ a 11 = a + 4 := H.2.2.2.2.2.2.2.2.2.2.2.2.1
theorem ROff.r12 {σ : MS} {a : Nat} {A : Ofc} (H : ROff σ a A) : sR σ a 12 = a + 5 := H.2.2.2.2.2.2.2.2.2.2.2.2.2.1
theorem ROff.r13 {σ : MS} {a : Nat} {A : Ofc} (H : ROff σ a A) : sR σ a 13 = a + 6 := H.2.2.2.2.2.2.2.2.2.2.2.2.2.2.1
theorem ROff.r14 {σ : MS} {a : Nat} {A : Ofc} (H : ROff σ a A) : sR σ a 14 = a + 7 := H.2.2.2.2.2.2.2.2.2.2.2.2.2.2.2.1
theorem ROff.r15 {σ : MS} {a : Nat} {A : Ofc} (H : ROff σ a A) : sR σ a 15 = a + 8 := H.2.2.2.2.2.2.2.2.2.2.2.2.2.2.2.2.1
theorem ROff.r16 {σ : MS} {a : Nat} {A : Ofc} (H : ROff σ a A) : sR σ a 16 = a + 9 := H.2.2.2.2.2.2.2.2.2.2.2.2.2.2.2.2.2.1
theorem ROff.r17 {σ : MS} {a : Nat} {A : Ofc} (H : ROff σ a A) : sR σ a 17 = a + 10 := H.2.2.2.2.2.2.2.2.2.2.2.2.2.2.2.2.2.2.1
theorem ROff.r18 {σ : MS} {a : Nat} {A : Ofc} (H : ROff σ a A) : sR σ a 18 = a + 11 := H.2.2.2.2.2.2.2.2.2.2.2.2.2.2.2.2.2.2.2.1
theorem ROff.k1 {σ : MS} {a : Nat} {A : Ofc} (H : ROff σ a A) : sK σ (a + 1) = (1, 8) := H.2.2.2.2.2.2.2.2.2.2.2.2.2.2.2.2.2.2.2.2.1
theorem ROff.k2 {σ : MS} {a : Nat} {A : Ofc} (H : ROff σ a A) : sK σ (a + 2) = (2, 8) := H.2.2.2.2.2.2.2.2.2.2.2.2.2.2.2.2.2.2.2.2.2.1
theorem ROff.k3 {σ : MS} {a : Nat} {A : Ofc} (H : ROff σ a A) : sK σ (a + 3) = (1, 8) := H.2.2.2.2.2.2.2.2.2.2.2.2.2.2.2.2.2.2.2.2.2.2.1
theorem ROff.k4 {σ : MS} {a : Nat} {A : Ofc} (H : ROff σ a A) : sK σ (a + 4) = (1, 8) := H.2.2.2.2.2.2.2.2.2.2.2.2.2.2.2.2.2.2.2.2.2.2.2.1
theorem ROff.k5 {σ : MS} {a : Nat} {A : Ofc} (H : ROff σ a A) : sK σ (a + 5) = (2, 8) := H.2.2.2.2.2.2.2.2.2.2.2.2.2.2.2.2.2.2.2.2.2.2.2.2.1
theorem ROff.k6 {σ : MS} {a : Nat} {A : Ofc} (H : ROff σ a A) : sK σ (a + 6) = (1, 4) := H.2.2.2.2.2.2.2.2.2.2.2.2.2.2.2.2.2.2.2.2.2.2.2.2.2.1
theorem ROff.k7 {σ : MS} {a : Nat} {A : Ofc} (H : ROff σ a A) : sK σ (a + 7) = (2, 4) := H.2.2.2.2.2.2.2.2.2.2.2.2.2.2.2.2.2.2.2.2.2.2.2.2.2.2.1
theorem ROff.k8 {σ : MS} {a : Nat} {A : Ofc} (H : ROff σ a A) : sK σ (a + 8) = (1, 20) := H.2.2.2.2.2.2.2.2.2.2.2.2.2.2.2.2.2.2.2.2.2.2.2.2.2.2.2.1
theorem ROff.k9 {σ : MS} {a : Nat} {A : Ofc} (H : ROff σ a A) : sK σ (a + 9) = (1, 80) := H.2.2.2.2.2.2.2.2.2.2.2.2.2.2.2.2.2.2.2.2.2.2.2.2.2.2.2.2.1
theorem ROff.k10 {σ : MS} {a : Nat} {A : Ofc} (H : ROff σ a A) : sK σ (a + 10) = (1, 64) := H.2.2.2.2.2.2.2.2.2.2.2.2.2.2.2.2.2.2.2.2.2.2.2.2.2.2.2.2.2.1
theorem ROff.k11 {σ : MS} {a : Nat} {A : Ofc} (H : ROff σ a A) : sK σ (a + 11) = (1, 20) := H.2.2.2.2.2.2.2.2.2.2.2.2.2.2.2.2.2.2.2.2.2.2.2.2.2.2.2.2.2.2.1
theorem ROff.a1 {σ : MS} {a : Nat} {A : Ofc} (H : ROff σ a A) : ∀ t, t < A.nt → sI σ (a + 1) t = nI (A.w t) := H.2.2.2.2.2.2.2.2.2.2.2.2.2.2.2.2.2.2.2.2.2.2.2.2.2.2.2.2.2.2.2.1
theorem ROff.a2 {σ : MS} {a : Nat} {A : Ofc} (H : ROff σ a A) : ∀ t, t < A.nt → sL σ (a + 2) t = lN (nm27 (A.tn t)) := H.2.2.2.2.2.2.2.2.2.2.2.2.2.2.2.2.2.2.2.2.2.2.2.2.2.2.2.2.2.2.2.2.1
theorem ROff.a3 {σ : MS} {a : Nat} {A : Ofc} (H : ROff σ a A) : ∀ p, p < A.np → sI σ (a + 3) p = nI (A.tr p) := H.2.2.2.2.2.2.2.2.2.2.2.2.2.2.2.2.2.2.2.2.2.2.2.2.2.2.2.2.2.2.2.2.2.1
theorem ROff.a4 {σ : MS} {a : Nat} {A : Ofc} (H : ROff σ a A) : ∀ p, p < 8 → sI σ (a + 4) p = oI (A.pl p) := H.2.2.2.2.2.2.2.2.2.2.2.2.2.2.2.2.2.2.2.2.2.2.2.2.2.2.2.2.2.2.2.2.2.2.1
theorem ROff.a5 {σ : MS} {a : Nat} {A : Ofc} (H : ROff σ a A) : ∀ p, p < A.np → sL σ (a + 5) p = lN (nm27 (A.pn p)) := H.2.2.2.2.2.2.2.2.2.2.2.2.2.2.2.2.2.2.2.2.2.2.2.2.2.2.2.2.2.2.2.2.2.2.2.1
theorem ROff.a6 {σ : MS} {a : Nat} {A : Ofc} (H : ROff σ a A) : ∀ c, c < A.nc → sI σ (a + 6) c = nI (A.ck c) := H.2.2.2.2.2.2.2.2.2.2.2.2.2.2.2.2.2.2.2.2.2.2.2.2.2.2.2.2.2.2.2.2.2.2.2.2.1
theorem ROff.a7 {σ : MS} {a : Nat} {A : Ofc} (H : ROff σ a A) : ∀ c, c < A.nc → sL σ (a + 7) c = lN (nm27 (A.cn c)) := H.2.2.2.2.2.2.2.2.2.2.2.2.2.2.2.2.2.2.2.2.2.2.2.2.2.2.2.2.2.2.2.2.2.2.2.2.2.1
theorem ROff.a8 {σ : MS} {a : Nat} {A : Ofc} (H : ROff σ a A) : ∀ c, c < 20 → sI σ (a + 8) c = oI (A.who c) := H.2.2.2.2.2.2.2.2.2.2.2.2.2.2.2.2.2.2.2.2.2.2.2.2.2.2.2.2.2.2.2.2.2.2.2.2.2.2.1
theorem ROff.a9 {σ : MS} {a : Nat} {A : Ofc} (H : ROff σ a A) : ∀ c k, c < A.wide * A.high → k < 4 → sI σ (a + 9) (c * 4 + k) = oI (A.side c k) := H.2.2.2.2.2.2.2.2.2.2.2.2.2.2.2.2.2.2.2.2.2.2.2.2.2.2.2.2.2.2.2.2.2.2.2.2.2.2.2.1
theorem ROff.a10 {σ : MS} {a : Nat} {A : Ofc} (H : ROff σ a A) : ∀ p q, p < A.np → q < A.np → sI σ (a + 10) (p * 8 + q) = nI (A.like p q) := H.2.2.2.2.2.2.2.2.2.2.2.2.2.2.2.2.2.2.2.2.2.2.2.2.2.2.2.2.2.2.2.2.2.2.2.2.2.2.2.2
theorem ROff.mk {σ : MS} {a : Nat} {A : Ofc} (k : sK σ a = (0, 5)) (i0 : sI σ a 0 = nI A.wide) (i1 : sI σ a 1 = nI A.high) (i2 : sI σ a 2 = nI (A.wide * A.high)) (i3 : sI σ a 3 = nI A.near) (i4 : sI σ a 4 = nI A.odds) (i5 : sI σ a 5 = nI A.nt) (i6 : sI σ a 6 = nI A.np) (i7 : sI σ a 7 = nI A.nc) (r8 : sR σ a 8 = a + 1) (r9 : sR σ a 9 = a + 2) (r10 : sR σ a 10 = a + 3) (r11 : sR σ a 11 = a + 4) (r12 : sR σ a 12 = a + 5) (r13 : sR σ a 13 = a + 6) (r14 : sR σ a 14 = a + 7) (r15 : sR σ a 15 = a + 8) (r16 : sR σ a 16 = a + 9) (r17 : sR σ a 17 = a + 10) (r18 : sR σ a 18 = a + 11) (k1 : sK σ (a + 1) = (1, 8)) (k2 : sK σ (a + 2) = (2, 8)) (k3 : sK σ (a + 3) = (1, 8)) (k4 : sK σ (a + 4) = (1, 8)) (k5 : sK σ (a + 5) = (2, 8)) (k6 : sK σ (a + 6) = (1, 4)) (k7 : sK σ (a + 7) = (2, 4)) (k8 : sK σ (a + 8) = (1, 20)) (k9 : sK σ (a + 9) = (1, 80)) (k10 : sK σ (a + 10) = (1, 64)) (k11 : sK σ (a + 11) = (1, 20)) (a1 : ∀ t, t < A.nt → sI σ (a + 1) t = nI (A.w t)) (a2 : ∀ t, t < A.nt → sL σ (a + 2) t = lN (nm27 (A.tn t))) (a3 : ∀ p, p < A.np → sI σ (a + 3) p = nI (A.tr p)) (a4 : ∀ p, p < 8 → sI σ (a + 4) p = oI (A.pl p)) (a5 : ∀ p, p < A.np → sL σ (a + 5) p = lN (nm27 (A.pn p))) (a6 : ∀ c, c < A.nc → sI σ (a + 6) c = nI (A.ck c)) (a7 : ∀ c, c < A.nc → sL σ (a + 7) c = lN (nm27 (A.cn c))) (a8 : ∀ c, c < 20 → sI σ (a + 8) c = oI (A.who c)) (a9 : ∀ c k, c < A.wide * A.high → k < 4 → sI σ (a + 9) (c * 4 + k) = oI (A.side c k)) (a10 : ∀ p q, p < A.np → q < A.np → sI σ (a + 10) (p * 8 + q) = nI (A.like p q)) : ROff σ a A := ⟨k, i0, i1, i2, i3, i4, i5, i6, i7, r8, r9, r10, r11, r12, r13, r14, r15, r16, r17, r18, k1, k2, k3, k4, k5, k6, k7, k8, k9, k10, k11, a1, a2, a3, a4, a5, a6, a7, a8, a9, a10⟩
