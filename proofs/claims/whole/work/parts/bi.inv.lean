/-! WHAT HOLDS BETWEEN TWO CALLS -/
/-- all that both know: the Office, DAYS, trays, the tape, the life told, MARKS (how many, Offices, DAYS), status, fault, its place, top, bottom -/
abbrev Sx : Type := Ofc × Option (Dy × Pg 4) × Trs × Tp × Tl × (Nat × (Nat → Ofc) × (Nat → Option (Dy × Pg 4))) × (Int32 × Int32 × Int32) × (Int64 × Int64)
def Sx.A (s : Sx) : Ofc := s.1
def Sx.E (s : Sx) : Option (Dy × Pg 4) := s.2.1
def Sx.T (s : Sx) : Trs := s.2.2.1
def Sx.P (s : Sx) : Tp := s.2.2.2.1
def Sx.Q (s : Sx) : Tl := s.2.2.2.2.1
def Sx.m (s : Sx) : Nat := s.2.2.2.2.2.1.1
def Sx.MA (s : Sx) : Nat → Ofc := s.2.2.2.2.2.1.2.1
def Sx.ME (s : Sx) : Nat → Option (Dy × Pg 4) := s.2.2.2.2.2.1.2.2
def Sx.st (s : Sx) : Int32 := s.2.2.2.2.2.2.1.1
def Sx.f0 (s : Sx) : Int32 := s.2.2.2.2.2.2.1.2.1
def Sx.f1 (s : Sx) : Int32 := s.2.2.2.2.2.2.1.2.2
def Sx.tp (s : Sx) : Int64 := s.2.2.2.2.2.2.2.1
def Sx.bt (s : Sx) : Int64 := s.2.2.2.2.2.2.2.2
def Sx.wA (s : Sx) (A : Ofc) : Sx := (A, s.2)
def Sx.wE (s : Sx) (E : Option (Dy × Pg 4)) : Sx := (s.1, E, s.2.2)
def Sx.wT (s : Sx) (T : Trs) : Sx := (s.1, s.2.1, T, s.2.2.2)
def Sx.wP (s : Sx) (P : Tp) : Sx := (s.1, s.2.1, s.2.2.1, P, s.2.2.2.2)
def Sx.wQ (s : Sx) (Q : Tl) : Sx := (s.1, s.2.1, s.2.2.1, s.2.2.2.1, Q, s.2.2.2.2.2)
def Sx.wM (s : Sx) (m : Nat) (MA : Nat → Ofc) (ME : Nat → Option (Dy × Pg 4)) : Sx := (s.1, s.2.1, s.2.2.1, s.2.2.2.1, s.2.2.2.2.1, (m, MA, ME), s.2.2.2.2.2.2)
def Sx.wS (s : Sx) (v : Int32) : Sx := (s.1, s.2.1, s.2.2.1, s.2.2.2.1, s.2.2.2.2.1, s.2.2.2.2.2.1, (v, s.2.2.2.2.2.2.1.2), s.2.2.2.2.2.2.2)
def Sx.wF (s : Sx) (v w : Int32) : Sx := (s.1, s.2.1, s.2.2.1, s.2.2.2.1, s.2.2.2.2.1, s.2.2.2.2.2.1, (s.2.2.2.2.2.2.1.1, v, w), s.2.2.2.2.2.2.2)
def Sx.wB (s : Sx) (t b : Int64) : Sx := (s.1, s.2.1, s.2.2.1, s.2.2.2.1, s.2.2.2.2.1, s.2.2.2.2.2.1, s.2.2.2.2.2.2.1, (t, b))
def SOk (s : Sx) : Prop := (OfcOk s.A) ∧ (NmOk s.A) ∧ (DOo s.A s.E) ∧ (TrOk s.T) ∧ (TpOk s.P) ∧ (s.m ≤ 3) ∧ (∀ k, k < s.m → OfcOk (s.MA k) ∧ NmOk (s.MA k) ∧ DOo (s.MA k) (s.ME k))
theorem SOk.o {s : Sx} (H : SOk s) : OfcOk s.A := H.1
theorem SOk.n {s : Sx} (H : SOk s) : NmOk s.A := H.2.1
theorem SOk.e {s : Sx} (H : SOk s) : DOo s.A s.E := H.2.2.1
theorem SOk.t {s : Sx} (H : SOk s) : TrOk s.T := H.2.2.2.1
theorem SOk.p {s : Sx} (H : SOk s) : TpOk s.P := H.2.2.2.2.1
theorem SOk.m3 {s : Sx} (H : SOk s) : s.m ≤ 3 := H.2.2.2.2.2.1
theorem SOk.mq {s : Sx} (H : SOk s) : ∀ k, k < s.m → OfcOk (s.MA k) ∧ NmOk (s.MA k) ∧ DOo (s.MA k) (s.ME k) := H.2.2.2.2.2.2
theorem SOk.mk {s : Sx} (o : OfcOk s.A) (n : NmOk s.A) (e : DOo s.A s.E) (t : TrOk s.T) (p : TpOk s.P) (m3 : s.m ≤ 3) (mq : ∀ k, k < s.m → OfcOk (s.MA k) ∧ NmOk (s.MA k) ∧ DOo (s.MA k) (s.ME k)) : SOk s := ⟨o, n, e, t, p, m3, mq⟩
def IXc (σ : MS) (a : Nat) (b : Nat) (u : Nat) (w : Nat) (s : Sx) : Prop := ((a = 2 ∧ b = 14) ∨ (a = 14 ∧ b = 2)) ∧ ((u = 26 ∧ w = 31) ∨ (u = 31 ∧ w = 26)) ∧ (RXk σ a) ∧ (sR σ 1 7 = b) ∧ (sR σ 1 8 = u) ∧ (sR σ 1 9 = w) ∧ (ROff σ a s.A) ∧ (ROffK σ b) ∧ (RDk σ u) ∧ (RDk σ w) ∧ (RDo σ u s.E) ∧ (RTr σ s.T) ∧ (RTp σ s.P) ∧ (∀ k, k < 22 → sL σ 100 k = lN (nm27 (WL k))) ∧ (RLi σ s.Q) ∧ (sK σ 102 = (0, 4)) ∧ (RBk σ) ∧ (BCa σ) ∧ (RPk σ) ∧ (RWk σ) ∧ (sK σ 45 = (45, 3) ∧ sK σ 46 = (41, 3)) ∧ (∀ k, k < 3 → sR σ 45 k = 47 + 17 * k ∧ sR σ 46 k = 59 + 17 * k) ∧ (∀ k, k < 3 → ROffK σ (47 + 17 * k) ∧ RDk σ (59 + 17 * k)) ∧ (sI σ 1 5 = nI s.m) ∧ (∀ k, k < s.m → ROff σ (47 + 17 * k) (s.MA k) ∧ RDo σ (59 + 17 * k) (s.ME k)) ∧ (sI σ 1 0 = s.st) ∧ (sI σ 1 3 = s.f0) ∧ (sI σ 1 4 = s.f1) ∧ (sL σ 1 1 = s.tp) ∧ (sL σ 1 2 = s.bt)
theorem IXc.ab {σ : MS} {a : Nat} {b : Nat} {u : Nat} {w : Nat} {s : Sx} (H : IXc σ a b u w s) : (a = 2 ∧ b = 14) ∨ (a = 14 ∧ b = 2) := H.1
theorem IXc.uw {σ : MS} {a : Nat} {b : Nat} {u : Nat} {w : Nat} {s : Sx} (H : IXc σ a b u w s) : (u = 26 ∧ w = 31) ∨ (u = 31 ∧ w = 26) := H.2.1
theorem IXc.x {σ : MS} {a : Nat} {b : Nat} {u : Nat} {w : Nat} {s : Sx} (H : IXc σ a b u w s) : RXk σ a := H.2.2.1
theorem IXc.r7 {σ : MS} {a : Nat} {b : Nat} {u : Nat} {w : Nat} {s : Sx} (H : IXc σ a b u w s) : sR σ 1 7 = b := H.2.2.2.1
theorem IXc.r8 {σ : MS} {a : Nat} {b : Nat} {u : Nat} {w : Nat} {s : Sx} (H : IXc σ a b u w s) : sR σ 1 8 = u := H.2.2.2.2.1
theorem IXc.r9 {σ : MS} {a : Nat} {b : Nat} {u : Nat} {w : Nat} {s : Sx} (H : IXc σ a b u w s) : sR σ 1 9 = w := H.2.2.2.2.2.1
theorem IXc.o {σ : MS} {a : Nat} {b : Nat} {u : Nat} {w : Nat} {s : Sx} (H : IXc σ a b u w s) : ROff σ a s.A := H.2.2.2.2.2.2.1
theorem IXc.ob {σ : MS} {a : Nat} {b : Nat} {u : Nat} {w : Nat} {s : Sx} (H : IXc σ a b u w s) : ROffK σ b := H.2.2.2.2.2.2.2.1
theorem IXc.du {σ : MS} {a : Nat} {b : Nat} {u : Nat} {w : Nat} {s : Sx} (H : IXc σ a b u w s) : RDk σ u := H.2.2.2.2.2.2.2.2.1
theorem IXc.dw {σ : MS} {a : Nat} {b : Nat} {u : Nat} {w : Nat} {s : Sx} (H : IXc σ a b u w s) : RDk σ w := H.2.2.2.2.2.2.2.2.2.1
theorem IXc.e {σ : MS} {a : Nat} {b : Nat} {u : Nat} {w : Nat} {s : Sx} (H : IXc σ a b u w s) : RDo σ u s.E := H.2.2.2.2.2.2.2.2.2.2.1
theorem IXc.t {σ : MS} {a : Nat} {b : Nat} {u : Nat} {w : Nat} {s : Sx} (H : IXc σ a b u w s) : RTr σ s.T := H.2.2.2.2.2.2.2.2.2.2.2.1
theorem IXc.p {σ : MS} {a : Nat} {b : Nat} {u : Nat} {w : Nat} {s : Sx} (H : IXc σ a b u w s) : RTp σ s.P := H.2.2.2.2.2.2.2.2.2.2.2.2.1
theorem IXc.wd {σ : MS} {a : Nat} {b : Nat} {u : Nat} {w : Nat} {s : Sx} (H : IXc σ a b u w s) : ∀ k, k < 22 → sL σ 100 k = lN (nm27 (WL k)) := H.2.2.2.2.2.2.2.2.2.2.2.2.2.1
theorem IXc.q {σ : MS} {a : Nat} {b : Nat} {u : Nat} {w : Nat} {s : Sx} (H : IXc σ a b u w s) : RLi σ s.Q := H.2.2.2.2.2.2.2.2.2.2.2.2.2.2.1
theorem IXc.k102 {σ : MS} {a : Nat} {b : Nat} {u : Nat} {w : Nat} {s : Sx} (H : IXc σ a b u w s) : sK σ 102 = (0, 4) := H.2.2.2.2.2.2.2.2.2.2.2.2.2.2.2.1
theorem IXc.bk {σ : MS} {a : Nat} {b : Nat} {u : Nat} {w : Nat} {s : Sx} (H : IXc σ a b u w s) : RBk σ := H.2.2.2.2.2.2.2.2.2.2.2.2.2.2.2.2.1
theorem IXc.bc {σ : MS} {a : Nat} {b : Nat} {u : Nat} {w : Nat} {s : Sx} (H : IXc σ a b u w s) : BCa σ := H.2.2.2.2.2.2.2.2.2.2.2.2.2.2.2.2.2.1
theorem IXc.pk {σ : MS} {a : Nat} {b : Nat} {u : Nat} {w : Nat} {s : Sx} (H : IXc σ a b u w s) : RPk σ := H.2.2.2.2.2.2.2.2.2.2.2.2.2.2.2.2.2.2.1
theorem IXc.wk {σ : MS} {a : Nat} {b : Nat} {u : Nat} {w : Nat} {s : Sx} (H : IXc σ a b u w s) : RWk σ := H.2.2.2.2.2.2.2.2.2.2.2.2.2.2.2.2.2.2.2.1
theorem IXc.k45 {σ : MS} {a : Nat} {b : Nat} {u : Nat} {w : Nat} {s : Sx} (H : IXc σ a b u w s) : sK σ 45 = (45, 3) ∧ sK σ 46 = (41, 3) := H.2.2.2.2.2.2.2.2.2.2.2.2.2.2.2.2.2.2.2.2.1
theorem IXc.r45 {σ : MS} {a : Nat} {b : Nat} {u : Nat} {w : Nat} {s : Sx} (H : IXc σ a b u w s) : ∀ k, k < 3 → sR σ 45 k = 47 + 17 * k ∧ sR σ 46 k = 59 + 17 * k := H.2.2.2.2.2.2.2.2.2.2.2.2.2.2.2.2.2.2.2.2.2.1
theorem IXc.mq {σ : MS} {a : Nat} {b : Nat} {u : Nat} {w : Nat} {s : Sx} (H : IXc σ a b u w s) : ∀ k, k < 3 → ROffK σ (47 + 17 * k) ∧ RDk σ (59 + 17 * k) := H.2.2.2.2.2.2.2.2.2.2.2.2.2.2.2.2.2.2.2.2.2.2.1
theorem IXc.m5 {σ : MS} {a : Nat} {b : Nat} {u : Nat} {w : Nat} {s : Sx} (H : IXc σ a b u w s) : sI σ 1 5 = nI s.m := H.2.2.2.2.2.2.2.2.2.2.2.2.2.2.2.2.2.2.2.2.2.2.2.1
theorem IXc.mo {σ : MS} {a : Nat} {b : Nat} {u : Nat} {w : Nat} {s : Sx} (H : IXc σ a b u w s) : ∀ k, k < s.m → ROff σ (47 + 17 * k) (s.MA k) ∧ RDo σ (59 + 17 * k) (s.ME k) := H.2.2.2.2.2.2.2.2.2.2.2.2.2.2.2.2.2.2.2.2.2.2.2.2.1
theorem IXc.st {σ : MS} {a : Nat} {b : Nat} {u : Nat} {w : Nat} {s : Sx} (H : IXc σ a b u w s) : sI σ 1 0 = s.st := H.2.2.2.2.2.2.2.2.2.2.2.2.2.2.2.2.2.2.2.2.2.2.2.2.2.1
theorem IXc.f0 {σ : MS} {a : Nat} {b : Nat} {u : Nat} {w : Nat} {s : Sx} (H : IXc σ a b u w s) : sI σ 1 3 = s.f0 := H.2.2.2.2.2.2.2.2.2.2.2.2.2.2.2.2.2.2.2.2.2.2.2.2.2.2.1
theorem IXc.f1 {σ : MS} {a : Nat} {b : Nat} {u : Nat} {w : Nat} {s : Sx} (H : IXc σ a b u w s) : sI σ 1 4 = s.f1 := H.2.2.2.2.2.2.2.2.2.2.2.2.2.2.2.2.2.2.2.2.2.2.2.2.2.2.2.1
theorem IXc.tp {σ : MS} {a : Nat} {b : Nat} {u : Nat} {w : Nat} {s : Sx} (H : IXc σ a b u w s) : sL σ 1 1 = s.tp := H.2.2.2.2.2.2.2.2.2.2.2.2.2.2.2.2.2.2.2.2.2.2.2.2.2.2.2.2.1
theorem IXc.bt {σ : MS} {a : Nat} {b : Nat} {u : Nat} {w : Nat} {s : Sx} (H : IXc σ a b u w s) : sL σ 1 2 = s.bt := H.2.2.2.2.2.2.2.2.2.2.2.2.2.2.2.2.2.2.2.2.2.2.2.2.2.2.2.2.2
theorem IXc.mk {σ : MS} {a : Nat} {b : Nat} {u : Nat} {w : Nat} {s : Sx} (ab : (a = 2 ∧ b = 14) ∨ (a = 14 ∧ b = 2)) (uw : (u = 26 ∧ w = 31) ∨ (u = 31 ∧ w = 26)) (x : RXk σ a) (r7 : sR σ 1 7 = b) (r8 : sR σ 1 8 = u) (r9 : sR σ 1 9 = w) (o : ROff σ a s.A) (ob : ROffK σ b) (du : RDk σ u) (dw : RDk σ w) (e : RDo σ u s.E) (t : RTr σ s.T) (p : RTp σ s.P) (wd : ∀ k, k < 22 → sL σ 100 k = lN (nm27 (WL k))) (q : RLi σ s.Q) (k102 : sK σ 102 = (0, 4)) (bk : RBk σ) (bc : BCa σ) (pk : RPk σ) (wk : RWk σ) (k45 : sK σ 45 = (45, 3) ∧ sK σ 46 = (41, 3)) (r45 : ∀ k, k < 3 → sR σ 45 k = 47 + 17 * k ∧ sR σ 46 k = 59 + 17 * k) (mq : ∀ k, k < 3 → ROffK σ (47 + 17 * k) ∧ RDk σ (59 + 17 * k)) (m5 : sI σ 1 5 = nI s.m) (mo : ∀ k, k < s.m → ROff σ (47 + 17 * k) (s.MA k) ∧ RDo σ (59 + 17 * k) (s.ME k)) (st : sI σ 1 0 = s.st) (f0 : sI σ 1 3 = s.f0) (f1 : sI σ 1 4 = s.f1) (tp : sL σ 1 1 = s.tp) (bt : sL σ 1 2 = s.bt) : IXc σ a b u w s := ⟨ab, uw, x, r7, r8, r9, o, ob, du, dw, e, t, p, wd, q, k102, bk, bc, pk, wk, k45, r45, mq, m5, mo, st, f0, f1, tp, bt⟩
def RDq (σ : MS) (l : Nat) (E : Option (Dy × Pg 4)) : Prop := match E with
  | none => sI σ 121 (404 * l + 7) = -nI 1
  | some z => RDm σ l z.1
def IMc (σ : MS) (s : Sx) : Prop := (RMod σ s.A) ∧ (RDp σ s.E) ∧ (RTm σ s.T) ∧ (RTq σ s.P) ∧ (RTi σ s.Q) ∧ (sI σ 120 47 = nI s.m) ∧ (∀ k, k < s.m → RSl σ (k + 1) (s.MA k) ∧ RDq σ (k + 1) (s.ME k)) ∧ (sI σ 120 2 = s.st) ∧ (sI σ 120 16 = s.f0) ∧ (sI σ 120 17 = s.f1) ∧ (sL σ 120 3 = s.tp) ∧ (sL σ 120 4 = s.bt)
theorem IMc.m {σ : MS} {s : Sx} (H : IMc σ s) : RMod σ s.A := H.1
theorem IMc.d {σ : MS} {s : Sx} (H : IMc σ s) : RDp σ s.E := H.2.1
theorem IMc.t {σ : MS} {s : Sx} (H : IMc σ s) : RTm σ s.T := H.2.2.1
theorem IMc.p {σ : MS} {s : Sx} (H : IMc σ s) : RTq σ s.P := H.2.2.2.1
theorem IMc.q {σ : MS} {s : Sx} (H : IMc σ s) : RTi σ s.Q := H.2.2.2.2.1
theorem IMc.m47 {σ : MS} {s : Sx} (H : IMc σ s) : sI σ 120 47 = nI s.m := H.2.2.2.2.2.1
theorem IMc.mo {σ : MS} {s : Sx} (H : IMc σ s) : ∀ k, k < s.m → RSl σ (k + 1) (s.MA k) ∧ RDq σ (k + 1) (s.ME k) := H.2.2.2.2.2.2.1
theorem IMc.st {σ : MS} {s : Sx} (H : IMc σ s) : sI σ 120 2 = s.st := H.2.2.2.2.2.2.2.1
theorem IMc.f0 {σ : MS} {s : Sx} (H : IMc σ s) : sI σ 120 16 = s.f0 := H.2.2.2.2.2.2.2.2.1
theorem IMc.f1 {σ : MS} {s : Sx} (H : IMc σ s) : sI σ 120 17 = s.f1 := H.2.2.2.2.2.2.2.2.2.1
theorem IMc.tp {σ : MS} {s : Sx} (H : IMc σ s) : sL σ 120 3 = s.tp := H.2.2.2.2.2.2.2.2.2.2.1
theorem IMc.bt {σ : MS} {s : Sx} (H : IMc σ s) : sL σ 120 4 = s.bt := H.2.2.2.2.2.2.2.2.2.2.2
theorem IMc.mk {σ : MS} {s : Sx} (m : RMod σ s.A) (d : RDp σ s.E) (t : RTm σ s.T) (p : RTq σ s.P) (q : RTi σ s.Q) (m47 : sI σ 120 47 = nI s.m) (mo : ∀ k, k < s.m → RSl σ (k + 1) (s.MA k) ∧ RDq σ (k + 1) (s.ME k)) (st : sI σ 120 2 = s.st) (f0 : sI σ 120 16 = s.f0) (f1 : sI σ 120 17 = s.f1) (tp : sL σ 120 3 = s.tp) (bt : sL σ 120 4 = s.bt) : IMc σ s := ⟨m, d, t, p, q, m47, mo, st, f0, f1, tp, bt⟩
section INV
variable {p : Nat → Prop} {σ τ : MS} {a b u w : Nat} {s : Sx} {A : Ofc}
theorem RDo.ag {E : Option (Dy × Pg 4)} (R : RDo σ u E) (f : Ag p σ τ) (h : ∀ c, u ≤ c → c ≤ u + 4 → ¬ p c) : RDo τ u E := by
  cases E with
  | none => exact (f.I (h u (by omega) (by omega)) 0).trans R
  | some z => exact RDc.ag R f h
theorem RTp.ag' {P : Tp} (R : RTp σ P) (f : Ag p σ τ) (h : ¬ p 98) (h2 : ¬ p 99) : RTp τ P := RTp.mk (R.x.ag f) ((f.I h _).trans R.n) (fun j hj => (f.I h2 _).trans (R.b j hj))
theorem BCa.ag (C : BCa σ) (f : Ag p σ τ) (h : ∀ c, 103 ≤ c → c ≤ 112 → ¬ p c) : BCa τ := by
  have y : ∀ c j, 103 ≤ c → c ≤ 112 → sI τ c j = sI σ c j := fun c j h1 h2 => f.I (h c h1 h2) j
  obtain ⟨⟨g, g1, g2⟩, C2⟩ := C
  refine ⟨⟨g, g1, fun j hj => (y 108 j (by omega) (by omega)).trans (g2 j hj)⟩, ?_⟩
  rcases C2 with C2 | ⟨A, O, S⟩
  · exact .inl ((y 103 11 (by omega) (by omega)).trans C2)
  · exact .inr ⟨A, O, BSo.mk ((y _ _ (by omega) (by omega)).trans S.wi) (fun c hc => (y _ _ (by omega) (by omega)).trans (S.la c hc)) (fun p q hp hq => (y _ _ (by omega) (by omega)).trans (S.al p q hp hq)) ((y _ _ (by omega) (by omega)).trans S.to) ((y _ _ (by omega) (by omega)).trans S.n) (fun k hk => (y _ _ (by omega) (by omega)).trans (S.c k hk)) (fun k hk => (y _ _ (by omega) (by omega)).trans (S.w k hk))⟩
theorem ROffK.ag' (G : ROffK σ a) (f : Ag p σ τ) (h : ¬ rX a) : ROffK τ a := G.keep f.K (fun j => f.Rx h j)
theorem RDk.ag' (G : RDk σ u) (f : Ag p σ τ) (h : ¬ rX u) : RDk τ u := G.keep f.K (fun j => f.Rx h j)
theorem IXc.rma (I : IXc σ a b u w s) : RMa σ u := RMa.mk I.r8 I.k45.1 I.k45.2 (fun k hk => (I.r45 k hk).1) (fun k hk => (I.r45 k hk).2) (fun k hk => (I.mq k hk).1) (fun k hk => (I.mq k hk).2)
theorem ROff.find (H : ROff σ a A) (f : Ag (fun c => c = a + 11) σ τ) : ROff τ a A := H.ag f (fun c h1 h2 => by omega)
theorem IXc.mdl (I : IXc σ a b u w s) (hm : s.m ≤ 3)  (f : Ag (fun c => 120 ≤ c) σ τ) : IXc τ a b u w s := by
  have hab := I.ab
  have huw := I.uw
  exact IXc.mk I.ab I.uw (I.x.ag f (by omega)) ((f.R (by omega) _).trans I.r7) ((f.R (by omega) _).trans I.r8) ((f.R (by omega) _).trans I.r9) (I.o.ag f (fun c _ _ => by omega)) (I.ob.ag' f (by unfold rX; omega)) (I.du.ag' f (by unfold rX; omega)) (I.dw.ag' f (by unfold rX; omega)) (I.e.ag f (fun c _ _ => by omega)) (I.t.ag f (fun c _ _ => by omega)) (I.p.ag' f (by omega) (by omega)) (fun k hk => (f.L (by omega) k).trans (I.wd k hk)) (I.q.ag f (by omega)) ((f.K _).trans I.k102) (I.bk.ag2 f (fun j _ => f.R (by omega) j)) (I.bc.ag f (fun c _ _ => by omega)) (I.pk.ag f (fun j => f.R (by omega) j)) (I.wk.ag f) ⟨(f.K _).trans I.k45.1, (f.K _).trans I.k45.2⟩ (fun k hk => ⟨(f.Rx (by unfold rX; omega) _).trans (I.r45 k hk).1, (f.Rx (by unfold rX; omega) _).trans (I.r45 k hk).2⟩) (fun k hk => ⟨(I.mq k hk).1.ag' f (by unfold rX; omega), (I.mq k hk).2.ag' f (by unfold rX; omega)⟩) ((f.I (by omega) _).trans I.m5) (fun k (hk : k < s.m) => ⟨(I.mo k hk).1.ag f (fun c _ _ => by omega), (I.mo k hk).2.ag f (fun c _ _ => by omega)⟩) ((f.I (by omega) _).trans I.st) ((f.I (by omega) _).trans I.f0) ((f.I (by omega) _).trans I.f1) ((f.L (by omega) _).trans I.tp) ((f.L (by omega) _).trans I.bt)
theorem IXc.fnd (I : IXc σ a b u w s) (hm : s.m ≤ 3)  (f : Ag (fun c => c = a + 11) σ τ) : IXc τ a b u w s := by
  have hab := I.ab
  have huw := I.uw
  exact IXc.mk I.ab I.uw (I.x.ag f (by omega)) ((f.R (by omega) _).trans I.r7) ((f.R (by omega) _).trans I.r8) ((f.R (by omega) _).trans I.r9) (ROff.find I.o f) (I.ob.ag' f (by unfold rX; omega)) (I.du.ag' f (by unfold rX; omega)) (I.dw.ag' f (by unfold rX; omega)) (I.e.ag f (fun c _ _ => by omega)) (I.t.ag f (fun c _ _ => by omega)) (I.p.ag' f (by omega) (by omega)) (fun k hk => (f.L (by omega) k).trans (I.wd k hk)) (I.q.ag f (by omega)) ((f.K _).trans I.k102) (I.bk.ag2 f (fun j _ => f.R (by omega) j)) (I.bc.ag f (fun c _ _ => by omega)) (I.pk.ag f (fun j => f.R (by omega) j)) (I.wk.ag f) ⟨(f.K _).trans I.k45.1, (f.K _).trans I.k45.2⟩ (fun k hk => ⟨(f.Rx (by unfold rX; omega) _).trans (I.r45 k hk).1, (f.Rx (by unfold rX; omega) _).trans (I.r45 k hk).2⟩) (fun k hk => ⟨(I.mq k hk).1.ag' f (by unfold rX; omega), (I.mq k hk).2.ag' f (by unfold rX; omega)⟩) ((f.I (by omega) _).trans I.m5) (fun k (hk : k < s.m) => ⟨(I.mo k hk).1.ag f (fun c _ _ => by omega), (I.mo k hk).2.ag f (fun c _ _ => by omega)⟩) ((f.I (by omega) _).trans I.st) ((f.I (by omega) _).trans I.f0) ((f.I (by omega) _).trans I.f1) ((f.L (by omega) _).trans I.tp) ((f.L (by omega) _).trans I.bt)
theorem IXc.mean (I : IXc σ a b u w s) (hm : s.m ≤ 3)  (f : Ag (fun c => (b ≤ c ∧ c ≤ b + 11) ∨ c = 102) σ τ) : IXc τ a b u w s := by
  have hab := I.ab
  have huw := I.uw
  exact IXc.mk I.ab I.uw (I.x.ag f (by omega)) ((f.R (by omega) _).trans I.r7) ((f.R (by omega) _).trans I.r8) ((f.R (by omega) _).trans I.r9) (I.o.ag f (fun c _ _ => by omega)) (I.ob.ag' f (by unfold rX; omega)) (I.du.ag' f (by unfold rX; omega)) (I.dw.ag' f (by unfold rX; omega)) (I.e.ag f (fun c _ _ => by omega)) (I.t.ag f (fun c _ _ => by omega)) (I.p.ag' f (by omega) (by omega)) (fun k hk => (f.L (by omega) k).trans (I.wd k hk)) (I.q.ag f (by omega)) ((f.K _).trans I.k102) (I.bk.ag2 f (fun j _ => f.R (by omega) j)) (I.bc.ag f (fun c _ _ => by omega)) (I.pk.ag f (fun j => f.R (by omega) j)) (I.wk.ag f) ⟨(f.K _).trans I.k45.1, (f.K _).trans I.k45.2⟩ (fun k hk => ⟨(f.Rx (by unfold rX; omega) _).trans (I.r45 k hk).1, (f.Rx (by unfold rX; omega) _).trans (I.r45 k hk).2⟩) (fun k hk => ⟨(I.mq k hk).1.ag' f (by unfold rX; omega), (I.mq k hk).2.ag' f (by unfold rX; omega)⟩) ((f.I (by omega) _).trans I.m5) (fun k (hk : k < s.m) => ⟨(I.mo k hk).1.ag f (fun c _ _ => by omega), (I.mo k hk).2.ag f (fun c _ _ => by omega)⟩) ((f.I (by omega) _).trans I.st) ((f.I (by omega) _).trans I.f0) ((f.I (by omega) _).trans I.f1) ((f.L (by omega) _).trans I.tp) ((f.L (by omega) _).trans I.bt)
theorem IXc.ofc (I : IXc σ a b u w s) (hm : s.m ≤ 3) (H : ROff τ a A) (f : Ag (fun c => a ≤ c ∧ c ≤ a + 11) σ τ) : IXc τ a b u w (s.wA A) := by
  have hab := I.ab
  have huw := I.uw
  exact IXc.mk I.ab I.uw (I.x.ag f (by omega)) ((f.R (by omega) _).trans I.r7) ((f.R (by omega) _).trans I.r8) ((f.R (by omega) _).trans I.r9) H (I.ob.ag' f (by unfold rX; omega)) (I.du.ag' f (by unfold rX; omega)) (I.dw.ag' f (by unfold rX; omega)) (I.e.ag f (fun c _ _ => by omega)) (I.t.ag f (fun c _ _ => by omega)) (I.p.ag' f (by omega) (by omega)) (fun k hk => (f.L (by omega) k).trans (I.wd k hk)) (I.q.ag f (by omega)) ((f.K _).trans I.k102) (I.bk.ag2 f (fun j _ => f.R (by omega) j)) (I.bc.ag f (fun c _ _ => by omega)) (I.pk.ag f (fun j => f.R (by omega) j)) (I.wk.ag f) ⟨(f.K _).trans I.k45.1, (f.K _).trans I.k45.2⟩ (fun k hk => ⟨(f.Rx (by unfold rX; omega) _).trans (I.r45 k hk).1, (f.Rx (by unfold rX; omega) _).trans (I.r45 k hk).2⟩) (fun k hk => ⟨(I.mq k hk).1.ag' f (by unfold rX; omega), (I.mq k hk).2.ag' f (by unfold rX; omega)⟩) ((f.I (by omega) _).trans I.m5) (fun k (hk : k < s.m) => ⟨(I.mo k hk).1.ag f (fun c _ _ => by omega), (I.mo k hk).2.ag f (fun c _ _ => by omega)⟩) ((f.I (by omega) _).trans I.st) ((f.I (by omega) _).trans I.f0) ((f.I (by omega) _).trans I.f1) ((f.L (by omega) _).trans I.tp) ((f.L (by omega) _).trans I.bt)
theorem IXc.tra (I : IXc σ a b u w s) (hm : s.m ≤ 3) {T : Trs} (H : RTr τ T) (f : Ag (fun c => 36 ≤ c ∧ c ≤ 44) σ τ) : IXc τ a b u w (s.wT T) := by
  have hab := I.ab
  have huw := I.uw
  exact IXc.mk I.ab I.uw (I.x.ag f (by omega)) ((f.R (by omega) _).trans I.r7) ((f.R (by omega) _).trans I.r8) ((f.R (by omega) _).trans I.r9) (I.o.ag f (fun c _ _ => by omega)) (I.ob.ag' f (by unfold rX; omega)) (I.du.ag' f (by unfold rX; omega)) (I.dw.ag' f (by unfold rX; omega)) (I.e.ag f (fun c _ _ => by omega)) H (I.p.ag' f (by omega) (by omega)) (fun k hk => (f.L (by omega) k).trans (I.wd k hk)) (I.q.ag f (by omega)) ((f.K _).trans I.k102) (I.bk.ag2 f (fun j _ => f.R (by omega) j)) (I.bc.ag f (fun c _ _ => by omega)) (I.pk.ag f (fun j => f.R (by omega) j)) (I.wk.ag f) ⟨(f.K _).trans I.k45.1, (f.K _).trans I.k45.2⟩ (fun k hk => ⟨(f.Rx (by unfold rX; omega) _).trans (I.r45 k hk).1, (f.Rx (by unfold rX; omega) _).trans (I.r45 k hk).2⟩) (fun k hk => ⟨(I.mq k hk).1.ag' f (by unfold rX; omega), (I.mq k hk).2.ag' f (by unfold rX; omega)⟩) ((f.I (by omega) _).trans I.m5) (fun k (hk : k < s.m) => ⟨(I.mo k hk).1.ag f (fun c _ _ => by omega), (I.mo k hk).2.ag f (fun c _ _ => by omega)⟩) ((f.I (by omega) _).trans I.st) ((f.I (by omega) _).trans I.f0) ((f.I (by omega) _).trans I.f1) ((f.L (by omega) _).trans I.tp) ((f.L (by omega) _).trans I.bt)
theorem IXc.tap (I : IXc σ a b u w s) (hm : s.m ≤ 3) {P : Tp} (H : RTp τ P) (f : Ag (fun c => c = 98 ∨ c = 99) σ τ) : IXc τ a b u w (s.wP P) := by
  have hab := I.ab
  have huw := I.uw
  exact IXc.mk I.ab I.uw (I.x.ag f (by omega)) ((f.R (by omega) _).trans I.r7) ((f.R (by omega) _).trans I.r8) ((f.R (by omega) _).trans I.r9) (I.o.ag f (fun c _ _ => by omega)) (I.ob.ag' f (by unfold rX; omega)) (I.du.ag' f (by unfold rX; omega)) (I.dw.ag' f (by unfold rX; omega)) (I.e.ag f (fun c _ _ => by omega)) (I.t.ag f (fun c _ _ => by omega)) H (fun k hk => (f.L (by omega) k).trans (I.wd k hk)) (I.q.ag f (by omega)) ((f.K _).trans I.k102) (I.bk.ag2 f (fun j _ => f.R (by omega) j)) (I.bc.ag f (fun c _ _ => by omega)) (I.pk.ag f (fun j => f.R (by omega) j)) (I.wk.ag f) ⟨(f.K _).trans I.k45.1, (f.K _).trans I.k45.2⟩ (fun k hk => ⟨(f.Rx (by unfold rX; omega) _).trans (I.r45 k hk).1, (f.Rx (by unfold rX; omega) _).trans (I.r45 k hk).2⟩) (fun k hk => ⟨(I.mq k hk).1.ag' f (by unfold rX; omega), (I.mq k hk).2.ag' f (by unfold rX; omega)⟩) ((f.I (by omega) _).trans I.m5) (fun k (hk : k < s.m) => ⟨(I.mo k hk).1.ag f (fun c _ _ => by omega), (I.mo k hk).2.ag f (fun c _ _ => by omega)⟩) ((f.I (by omega) _).trans I.st) ((f.I (by omega) _).trans I.f0) ((f.I (by omega) _).trans I.f1) ((f.L (by omega) _).trans I.tp) ((f.L (by omega) _).trans I.bt)
theorem IXc.bes (I : IXc σ a b u w s) (hm : s.m ≤ 3) (B : RBk τ) (C : BCa τ) (f : Ag (fun c => 103 ≤ c ∧ c ≤ 112) σ τ) : IXc τ a b u w s := by
  have hab := I.ab
  have huw := I.uw
  exact IXc.mk I.ab I.uw (I.x.ag f (by omega)) ((f.R (by omega) _).trans I.r7) ((f.R (by omega) _).trans I.r8) ((f.R (by omega) _).trans I.r9) (I.o.ag f (fun c _ _ => by omega)) (I.ob.ag' f (by unfold rX; omega)) (I.du.ag' f (by unfold rX; omega)) (I.dw.ag' f (by unfold rX; omega)) (I.e.ag f (fun c _ _ => by omega)) (I.t.ag f (fun c _ _ => by omega)) (I.p.ag' f (by omega) (by omega)) (fun k hk => (f.L (by omega) k).trans (I.wd k hk)) (I.q.ag f (by omega)) ((f.K _).trans I.k102) B C (I.pk.ag f (fun j => f.R (by omega) j)) (I.wk.ag f) ⟨(f.K _).trans I.k45.1, (f.K _).trans I.k45.2⟩ (fun k hk => ⟨(f.Rx (by unfold rX; omega) _).trans (I.r45 k hk).1, (f.Rx (by unfold rX; omega) _).trans (I.r45 k hk).2⟩) (fun k hk => ⟨(I.mq k hk).1.ag' f (by unfold rX; omega), (I.mq k hk).2.ag' f (by unfold rX; omega)⟩) ((f.I (by omega) _).trans I.m5) (fun k (hk : k < s.m) => ⟨(I.mo k hk).1.ag f (fun c _ _ => by omega), (I.mo k hk).2.ag f (fun c _ _ => by omega)⟩) ((f.I (by omega) _).trans I.st) ((f.I (by omega) _).trans I.f0) ((f.I (by omega) _).trans I.f1) ((f.L (by omega) _).trans I.tp) ((f.L (by omega) _).trans I.bt)
theorem IXc.gam (I : IXc σ a b u w s) (hm : s.m ≤ 3) (G : RPk τ) (f : Ag (fun c => c = 113 ∨ c = 114) σ τ) : IXc τ a b u w s := by
  have hab := I.ab
  have huw := I.uw
  exact IXc.mk I.ab I.uw (I.x.ag f (by omega)) ((f.R (by omega) _).trans I.r7) ((f.R (by omega) _).trans I.r8) ((f.R (by omega) _).trans I.r9) (I.o.ag f (fun c _ _ => by omega)) (I.ob.ag' f (by unfold rX; omega)) (I.du.ag' f (by unfold rX; omega)) (I.dw.ag' f (by unfold rX; omega)) (I.e.ag f (fun c _ _ => by omega)) (I.t.ag f (fun c _ _ => by omega)) (I.p.ag' f (by omega) (by omega)) (fun k hk => (f.L (by omega) k).trans (I.wd k hk)) (I.q.ag f (by omega)) ((f.K _).trans I.k102) (I.bk.ag2 f (fun j _ => f.R (by omega) j)) (I.bc.ag f (fun c _ _ => by omega)) G (I.wk.ag f) ⟨(f.K _).trans I.k45.1, (f.K _).trans I.k45.2⟩ (fun k hk => ⟨(f.Rx (by unfold rX; omega) _).trans (I.r45 k hk).1, (f.Rx (by unfold rX; omega) _).trans (I.r45 k hk).2⟩) (fun k hk => ⟨(I.mq k hk).1.ag' f (by unfold rX; omega), (I.mq k hk).2.ag' f (by unfold rX; omega)⟩) ((f.I (by omega) _).trans I.m5) (fun k (hk : k < s.m) => ⟨(I.mo k hk).1.ag f (fun c _ _ => by omega), (I.mo k hk).2.ag f (fun c _ _ => by omega)⟩) ((f.I (by omega) _).trans I.st) ((f.I (by omega) _).trans I.f0) ((f.I (by omega) _).trans I.f1) ((f.L (by omega) _).trans I.tp) ((f.L (by omega) _).trans I.bt)
theorem IXc.wei (I : IXc σ a b u w s) (hm : s.m ≤ 3) (W : RWk τ) (f : Ag (fun c => 115 ≤ c ∧ c ≤ 119) σ τ) : IXc τ a b u w s := by
  have hab := I.ab
  have huw := I.uw
  exact IXc.mk I.ab I.uw (I.x.ag f (by omega)) ((f.R (by omega) _).trans I.r7) ((f.R (by omega) _).trans I.r8) ((f.R (by omega) _).trans I.r9) (I.o.ag f (fun c _ _ => by omega)) (I.ob.ag' f (by unfold rX; omega)) (I.du.ag' f (by unfold rX; omega)) (I.dw.ag' f (by unfold rX; omega)) (I.e.ag f (fun c _ _ => by omega)) (I.t.ag f (fun c _ _ => by omega)) (I.p.ag' f (by omega) (by omega)) (fun k hk => (f.L (by omega) k).trans (I.wd k hk)) (I.q.ag f (by omega)) ((f.K _).trans I.k102) (I.bk.ag2 f (fun j _ => f.R (by omega) j)) (I.bc.ag f (fun c _ _ => by omega)) (I.pk.ag f (fun j => f.R (by omega) j)) W ⟨(f.K _).trans I.k45.1, (f.K _).trans I.k45.2⟩ (fun k hk => ⟨(f.Rx (by unfold rX; omega) _).trans (I.r45 k hk).1, (f.Rx (by unfold rX; omega) _).trans (I.r45 k hk).2⟩) (fun k hk => ⟨(I.mq k hk).1.ag' f (by unfold rX; omega), (I.mq k hk).2.ag' f (by unfold rX; omega)⟩) ((f.I (by omega) _).trans I.m5) (fun k (hk : k < s.m) => ⟨(I.mo k hk).1.ag f (fun c _ _ => by omega), (I.mo k hk).2.ag f (fun c _ _ => by omega)⟩) ((f.I (by omega) _).trans I.st) ((f.I (by omega) _).trans I.f0) ((f.I (by omega) _).trans I.f1) ((f.L (by omega) _).trans I.tp) ((f.L (by omega) _).trans I.bt)
theorem IXc.liv (I : IXc σ a b u w s) (hm : s.m ≤ 3) {Q : Tl} (H : ROff τ a A) (R : RLi τ Q) (f : Ag (fun c => (a ≤ c ∧ c ≤ a + 11) ∨ c = 101) σ τ) : IXc τ a b u w ((s.wA A).wQ Q) := by
  have hab := I.ab
  have huw := I.uw
  exact IXc.mk I.ab I.uw (I.x.ag f (by omega)) ((f.R (by omega) _).trans I.r7) ((f.R (by omega) _).trans I.r8) ((f.R (by omega) _).trans I.r9) H (I.ob.ag' f (by unfold rX; omega)) (I.du.ag' f (by unfold rX; omega)) (I.dw.ag' f (by unfold rX; omega)) (I.e.ag f (fun c _ _ => by omega)) (I.t.ag f (fun c _ _ => by omega)) (I.p.ag' f (by omega) (by omega)) (fun k hk => (f.L (by omega) k).trans (I.wd k hk)) R ((f.K _).trans I.k102) (I.bk.ag2 f (fun j _ => f.R (by omega) j)) (I.bc.ag f (fun c _ _ => by omega)) (I.pk.ag f (fun j => f.R (by omega) j)) (I.wk.ag f) ⟨(f.K _).trans I.k45.1, (f.K _).trans I.k45.2⟩ (fun k hk => ⟨(f.Rx (by unfold rX; omega) _).trans (I.r45 k hk).1, (f.Rx (by unfold rX; omega) _).trans (I.r45 k hk).2⟩) (fun k hk => ⟨(I.mq k hk).1.ag' f (by unfold rX; omega), (I.mq k hk).2.ag' f (by unfold rX; omega)⟩) ((f.I (by omega) _).trans I.m5) (fun k (hk : k < s.m) => ⟨(I.mo k hk).1.ag f (fun c _ _ => by omega), (I.mo k hk).2.ag f (fun c _ _ => by omega)⟩) ((f.I (by omega) _).trans I.st) ((f.I (by omega) _).trans I.f0) ((f.I (by omega) _).trans I.f1) ((f.L (by omega) _).trans I.tp) ((f.L (by omega) _).trans I.bt)
theorem IXc.sta (I : IXc σ a b u w s) (hm : s.m ≤ 3) {v : Int32} (r : ∀ j, sR τ 1 j = sR σ 1 j) (h0 : sI τ 1 0 = v) (h : ∀ j, j ≠ 0 → sI τ 1 j = sI σ 1 j) (hl : ∀ j, sL τ 1 j = sL σ 1 j) (f : Ag (fun c => c = 1) σ τ) : IXc τ a b u w (s.wS v) := by
  have hab := I.ab
  have huw := I.uw
  exact IXc.mk I.ab I.uw (I.x.keep (f.K 1) r) ((r _).trans I.r7) ((r _).trans I.r8) ((r _).trans I.r9) (I.o.ag f (fun c _ _ => by omega)) (I.ob.ag' f (by unfold rX; omega)) (I.du.ag' f (by unfold rX; omega)) (I.dw.ag' f (by unfold rX; omega)) (I.e.ag f (fun c _ _ => by omega)) (I.t.ag f (fun c _ _ => by omega)) (I.p.ag' f (by omega) (by omega)) (fun k hk => (f.L (by omega) k).trans (I.wd k hk)) (I.q.ag f (by omega)) ((f.K _).trans I.k102) (I.bk.ag2 f (fun j _ => f.R (by omega) j)) (I.bc.ag f (fun c _ _ => by omega)) (I.pk.ag f (fun j => f.R (by omega) j)) (I.wk.ag f) ⟨(f.K _).trans I.k45.1, (f.K _).trans I.k45.2⟩ (fun k hk => ⟨(f.Rx (by unfold rX; omega) _).trans (I.r45 k hk).1, (f.Rx (by unfold rX; omega) _).trans (I.r45 k hk).2⟩) (fun k hk => ⟨(I.mq k hk).1.ag' f (by unfold rX; omega), (I.mq k hk).2.ag' f (by unfold rX; omega)⟩) ((h _ (by decide)).trans I.m5) (fun k (hk : k < s.m) => ⟨(I.mo k hk).1.ag f (fun c _ _ => by omega), (I.mo k hk).2.ag f (fun c _ _ => by omega)⟩) h0 ((h _ (by decide)).trans I.f0) ((h _ (by decide)).trans I.f1) ((hl _).trans I.tp) ((hl _).trans I.bt)
theorem IXc.frc (I : IXc σ a b u w s) (hm : s.m ≤ 3) {v : Int32} {t l : Int64} (r : ∀ j, sR τ 1 j = sR σ 1 j) (h0 : sI τ 1 0 = v) (h : ∀ j, j ≠ 0 → sI τ 1 j = sI σ 1 j) (h1 : sL τ 1 1 = t) (h2 : sL τ 1 2 = l) (f : Ag (fun c => c = 1) σ τ) : IXc τ a b u w ((s.wS v).wB t l) := by
  have hab := I.ab
  have huw := I.uw
  exact IXc.mk I.ab I.uw (I.x.keep (f.K 1) r) ((r _).trans I.r7) ((r _).trans I.r8) ((r _).trans I.r9) (I.o.ag f (fun c _ _ => by omega)) (I.ob.ag' f (by unfold rX; omega)) (I.du.ag' f (by unfold rX; omega)) (I.dw.ag' f (by unfold rX; omega)) (I.e.ag f (fun c _ _ => by omega)) (I.t.ag f (fun c _ _ => by omega)) (I.p.ag' f (by omega) (by omega)) (fun k hk => (f.L (by omega) k).trans (I.wd k hk)) (I.q.ag f (by omega)) ((f.K _).trans I.k102) (I.bk.ag2 f (fun j _ => f.R (by omega) j)) (I.bc.ag f (fun c _ _ => by omega)) (I.pk.ag f (fun j => f.R (by omega) j)) (I.wk.ag f) ⟨(f.K _).trans I.k45.1, (f.K _).trans I.k45.2⟩ (fun k hk => ⟨(f.Rx (by unfold rX; omega) _).trans (I.r45 k hk).1, (f.Rx (by unfold rX; omega) _).trans (I.r45 k hk).2⟩) (fun k hk => ⟨(I.mq k hk).1.ag' f (by unfold rX; omega), (I.mq k hk).2.ag' f (by unfold rX; omega)⟩) ((h _ (by decide)).trans I.m5) (fun k (hk : k < s.m) => ⟨(I.mo k hk).1.ag f (fun c _ _ => by omega), (I.mo k hk).2.ag f (fun c _ _ => by omega)⟩) h0 ((h _ (by decide)).trans I.f0) ((h _ (by decide)).trans I.f1) h1 h2
end INV
