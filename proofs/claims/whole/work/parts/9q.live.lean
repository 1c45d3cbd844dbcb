/-! A LIFE -/
/-- a life so far: the Office, steps, counts (missed, filed, taken, found), cut off, over, drawn -/
abbrev Lf : Type := Ofc × Nat × (Nat → Nat) × Bool × Bool × Nat
def Lf.w (s : Lf) (A : Ofc) (i : Nat) : Lf := (A, s.2.1, upF s.2.2.1 i (s.2.2.1 i + 1), s.2.2.2)
def Lf.mi (s : Lf) : Lf := s.w s.1 0
def Lf.o (s : Lf) (A : Ofc) : Lf := (A, s.2)
def filL (s : Lf) (p : Nat) : Lf := match s.1.pl p, s.1.fileTo p with
  | none, some f => s.w (s.1.put p f.1) 1
  | _, _ => s.mi
def takL (s : Lf) (p : Nat) : Lf := match s.1.pl p with
  | some _ => s.w (s.1.tak p) 2
  | none => s.mi
def askL (s : Lf) (k p : Nat) : Lf := match s.1.found k (s.1.tr p) with
  | some _ => s.w (s.1.setCk (updN s.1.ck k (s.1.search k (s.1.tr p)).1)) 3
  | none => s.mi
def swaL (s : Lf) (c e : Nat) : Lf := if s.1.canX c e = true then s.o (s.1.swa c e) else s.mi
def Lf.dr (s : Lf) : Lf := (s.1, s.2.1, s.2.2.1, s.2.2.2.1, s.2.2.2.2.1, (s.2.2.2.2.2 * 3163 + 11369) % 65536)
def anyL (s : Lf) : Lf := if s.1.np = 0 then s.mi else if s.1.lie (s.dr.2.2.2.2.2 / 8 % s.1.np) = true then takL s.dr (s.dr.2.2.2.2.2 / 8 % s.1.np) else filL s.dr (s.dr.2.2.2.2.2 / 8 % s.1.np)
def Lf.ov (s : Lf) : Lf := (s.1, s.2.1, s.2.2.1, s.2.2.2.1, true, s.2.2.2.2.2)
def Lf.ct (s : Lf) : Lf := (s.1, s.2.1, s.2.2.1, true, true, s.2.2.2.2.2)
def Lf.st (s : Lf) : Lf := (s.1, s.2.1 + 1, s.2.2)
def doL (x : Op) (s : Lf) : Lf := if x.1 = 10 then filL s (x.2.1.getD 0) else if x.1 = 11 then takL s (x.2.1.getD 0) else if x.1 = 12 then swaL s (x.2.1.getD 0) (x.2.2.getD 0) else if x.1 = 13 then s.o s.1.srt else if x.1 = 14 then askL s (x.2.1.getD 0) (x.2.2.getD 0) else if x.1 = 15 then anyL s else s.ov
def besP (A : Ofc) (p q : Nat) : Bool := match A.pl p, A.pl q with
  | some c, some e => A.bes c e
  | _, _ => false
def hold (x : Op) (A : Ofc) : Bool := if x.1 = 9 then A.lie (x.2.1.getD 0) else if x.1 = 17 then besP A (x.2.1.getD 0) (x.2.2.getD 0) else if x.2.1.getD 0 = 60 then decide (A.whole < x.2.2.getD 0) else if x.2.1.getD 0 = 62 then decide (x.2.2.getD 0 < A.whole) else decide (A.whole = x.2.2.getD 0)
def itn {α : Type} (f : α → α) : Nat → α → α
  | 0, s => s
  | n + 1, s => itn f n (f s)
def itL {α : Type} (g : α → Lf → Lf) (x : Op × Option α) (s : Lf) : Lf := if s.2.2.2.2.1 = true then s else if 300 ≤ s.2.1 then s.ct else match x.2 with
  | none => doL x.1 s.st
  | some I => if x.1.1 = 19 then itn (g I) (x.1.2.1.getD 0) s.st else if hold x.1 s.1 = true then g I s.st else s.st
def runL {α : Type} (g : α → Lf → Lf) : List (Op × Option α) → Lf → Lf
  | [], s => s
  | x :: l, s => runL g l (itL g x s)
def run : (n : Nat) → Pg n → Lf → Lf
  | 0, _ => fun s => s
  | n + 1, l => runL (run n) l
theorem runL_over {α : Type} {g : α → Lf → Lf} {s : Lf} (h : s.2.2.2.2.1 = true) : ∀ l : List (Op × Option α), runL g l s = s := by
  intro l
  induction l with
  | nil => rfl
  | cons x l ih =>
    show runL g l (itL g x s) = s
    unfold itL
    rw [if_pos h]
    exact ih
theorem run_over {s : Lf} (h : s.2.2.2.2.1 = true) (n : Nat) (P : Pg n) : run n P s = s := by
  cases n with
  | zero => rfl
  | succ n => exact runL_over h P
theorem itn_fix {α : Type} {f : α → α} {s : α} (h : f s = s) : ∀ n, itn f n s = s := by
  intro n
  induction n with
  | zero => rfl
  | succ n ih => show itn f n (f s) = s; rw [h]; exact ih
/-- what stays true in a life -/
def LOk (np nc wi hi : Nat) (s : Lf) : Prop := OfcOk s.1 ∧ s.1.np = np ∧ s.1.nc = nc ∧ s.1.wide = wi ∧ s.1.high = hi ∧ s.2.1 ≤ 300 ∧ s.2.2.2.2.2 < 65536
section LOK
variable {np nc wi hi : Nat} {s : Lf}
theorem LOk.w (L : LOk np nc wi hi s) {A : Ofc} (i : Nat) (O : OfcOk A) (h1 : A.np = s.1.np) (h2 : A.nc = s.1.nc) (h3 : A.wide = s.1.wide) (h4 : A.high = s.1.high) : LOk np nc wi hi (s.w A i) :=
  ⟨O, h1.trans L.2.1, h2.trans L.2.2.1, h3.trans L.2.2.2.1, h4.trans L.2.2.2.2.1, L.2.2.2.2.2.1, L.2.2.2.2.2.2⟩
theorem LOk.o (L : LOk np nc wi hi s) {A : Ofc} (O : OfcOk A) (h1 : A.np = s.1.np) (h2 : A.nc = s.1.nc) (h3 : A.wide = s.1.wide) (h4 : A.high = s.1.high) : LOk np nc wi hi (s.o A) :=
  ⟨O, h1.trans L.2.1, h2.trans L.2.2.1, h3.trans L.2.2.2.1, h4.trans L.2.2.2.2.1, L.2.2.2.2.2.1, L.2.2.2.2.2.2⟩
theorem LOk.mi (L : LOk np nc wi hi s) : LOk np nc wi hi s.mi := L.w 0 L.1 rfl rfl rfl rfl
theorem LOk.fil (L : LOk np nc wi hi s) {p : Nat} (hp : p < np) : LOk np nc wi hi (filL s p) := by
  unfold filL
  cases h1 : s.1.pl p with
  | some c => exact L.mi
  | none =>
    cases h2 : s.1.fileTo p with
    | none => exact L.mi
    | some f =>
      obtain ⟨w1, w2⟩ := fileTo_w L.1 h2
      exact L.w 1 (put_ok L.1 (by rw [L.2.1]; exact hp) w2 w1) rfl rfl rfl rfl
theorem LOk.tak (L : LOk np nc wi hi s) (p : Nat) : LOk np nc wi hi (takL s p) := by
  unfold takL
  cases h1 : s.1.pl p with
  | none => exact L.mi
  | some c => exact L.w 2 (tak_ok L.1 p) rfl rfl rfl rfl
theorem md65 (a : Nat) : a % 65536 < 65536 := by omega
theorem LOk.dr (L : LOk np nc wi hi s) : LOk np nc wi hi s.dr := by
  unfold Lf.dr
  exact ⟨L.1, L.2.1, L.2.2.1, L.2.2.2.1, L.2.2.2.2.1, L.2.2.2.2.2.1, md65 _⟩
theorem LOk.any (L : LOk np nc wi hi s) : LOk np nc wi hi (anyL s) := by
  unfold anyL
  by_cases h0 : s.1.np = 0
  · rw [if_pos h0]; exact L.mi
  · rw [if_neg h0]
    split
    · exact L.dr.tak _
    · exact L.dr.fil (by rw [← L.2.1]; exact Nat.mod_lt _ (by omega))
theorem LOk.ask (L : LOk np nc wi hi s) {k : Nat} (hk : k < nc) (p : Nat) : LOk np nc wi hi (askL s k p) := by
  unfold askL
  split
  · exact L.w 3 (walk_ok L.1 (search_lt L.1 (by rw [L.2.2.1]; exact hk))) rfl rfl rfl rfl
  · exact L.mi
theorem LOk.swa (L : LOk np nc wi hi s) {c e : Nat} (hc : c < wi * hi) (he : e < wi * hi) : LOk np nc wi hi (swaL s c e) := by
  have h3 : s.1.wide * s.1.high = wi * hi := by rw [L.2.2.2.1, L.2.2.2.2.1]
  unfold swaL
  split
  · exact L.o (swa_ok L.1 (by rw [h3]; exact hc) (by rw [h3]; exact he)) rfl rfl rfl rfl
  · exact L.mi
theorem LOk.ov (L : LOk np nc wi hi s) : LOk np nc wi hi s.ov := L
theorem LOk.ct (L : LOk np nc wi hi s) : LOk np nc wi hi s.ct := L
theorem LOk.st (L : LOk np nc wi hi s) (h : s.2.1 < 300) : LOk np nc wi hi s.st := ⟨L.1, L.2.1, L.2.2.1, L.2.2.2.1, L.2.2.2.2.1, h, L.2.2.2.2.2.2⟩
theorem LOk.doL (L : LOk np nc wi hi s) {x : Op} (V : OpV np nc (wi * hi) x) (hb : isBk x.1 = false) : LOk np nc wi hi (doL x s) := by
  obtain ⟨k, a, b⟩ := x
  rcases V with ⟨h1 | h1 | h1, p, h2, h3⟩ | ⟨h1, p, q, h2, h4, h3⟩ | ⟨h1, p, q, h2, h4, h3⟩ | ⟨h1, p, q, h2, h4, h3⟩ | ⟨h1, _⟩ | ⟨h1, _⟩ | ⟨h1 | h1 | h1, h3⟩ <;> dsimp only at h1 <;> subst h1
  · exact absurd hb (by dsimp only; decide)
  · cases h3; exact L.fil h2
  · cases h3; exact L.tak p
  · exact absurd hb (by dsimp only; decide)
  · cases h3; exact L.ask h2 q
  · cases h3; exact L.swa h2 h4
  · exact absurd hb (by dsimp only; decide)
  · exact absurd hb (by dsimp only; decide)
  · exact L.o (srt_ok L.1) rfl rfl rfl rfl
  · exact L.any
  · exact L.ov
end LOK
