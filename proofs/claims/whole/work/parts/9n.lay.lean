/-! DAYS AS A TREE -/
/-- a step: its kind (the class's word), what stands behind it -/
abbrev Op : Type := Nat × Option Nat × Option Nat
/-- steps one after another, so deep at most -/
def Pg : Nat → Type
  | 0 => Empty
  | n + 1 => List (Op × Option (Pg n))
def isBk (k : Nat) : Bool := decide (k = 9) || decide (k = 17) || decide (k = 18) || decide (k = 19)
def kM (k : Nat) : Nat := if k = 9 ∨ k = 17 ∨ k = 18 then 1600 + mno k else mno k
def rwO (x : Op) (t : Nat) : Nat × Nat × Nat × Nat × Nat := (kM x.1, if x.1 = 18 then 0 else x.2.1.getD 0, x.2.2.getD 0, t, if x.1 = 18 then x.2.1.getD 0 else 0)
/-- one step stands at the class's steps i .. j and the Model's rows r .. s -/
def itm {α : Type} (g : α → Nat → Nat → Nat → Nat → Prop) (V : Op → Prop) (D : Dy) (x : Op × Option α) (i j r s : Nat) : Prop := V x.1 ∧ D.2.2.1 i = (x.1.1, x.1.2.1, x.1.2.2, j) ∧ match x.2 with
  | none => D.2.2.2 r = rwO x.1 0 ∧ j = i + 1 ∧ s = r + 1 ∧ isBk x.1.1 = false
  | some I => ∃ t, D.2.2.2 r = rwO x.1 t ∧ D.2.2.2 t = (18, 0, 0, r, 0) ∧ g I (i + 1) j (r + 1) t ∧ s = t + 1 ∧ isBk x.1.1 = true
def layL {α : Type} (g : α → Nat → Nat → Nat → Nat → Prop) (V : Op → Prop) (D : Dy) : List (Op × Option α) → Nat → Nat → Nat → Nat → Prop
  | [], i, j, r, s => i = j ∧ r = s
  | x :: l, i, j, r, s => ∃ e t, itm g V D x i e r t ∧ layL g V D l e j t s
def Lay (V : Op → Prop) (D : Dy) : (n : Nat) → Pg n → Nat → Nat → Nat → Nat → Prop
  | 0, _ => fun _ _ _ _ => False
  | n + 1, l => layL (Lay V D n) V D l
/-- so far: k are open, they began at the steps o and the rows w -/
def Opn (V : Op → Prop) (D : Dy) (o w : Nat → Nat) : Nat → Nat → Nat → Nat → Prop
  | 0, n, i, r => ∃ l : Pg (n + 1), Lay V D (n + 1) l 0 i 0 r
  | k + 1, n, i, r => ∃ (l : Pg (n + 1)) (x : Op) (j t : Nat), V x ∧ isBk x.1 = true ∧ Opn V D o w k (n + 1) (o k) (w k) ∧ D.2.2.1 (o k) = (x.1, x.2.1, x.2.2, j) ∧ D.2.2.2 (w k) = rwO x t ∧ Lay V D (n + 1) l (o k + 1) i (w k + 1) r
/-- D and E tell alike of the steps i .. j and the rows r .. s -/
def Alk (D E : Dy) (i j r s : Nat) : Prop := (∀ k, i ≤ k → k < j → E.2.2.1 k = D.2.2.1 k) ∧ (∀ k, r ≤ k → k < s → E.2.2.2 k = D.2.2.2 k)
section LAY
variable {V : Op → Prop} {D E : Dy} {o w o2 w2 : Nat → Nat} {i j r s : Nat}
theorem Alk.sub {i2 j2 r2 s2 : Nat} (h : Alk D E i j r s) (h1 : i ≤ i2) (h2 : j2 ≤ j) (h3 : r ≤ r2) (h4 : s2 ≤ s) : Alk D E i2 j2 r2 s2 :=
  ⟨fun k a b => h.1 k (Nat.le_trans h1 a) (Nat.lt_of_lt_of_le b h2), fun k a b => h.2 k (Nat.le_trans h3 a) (Nat.lt_of_lt_of_le b h4)⟩
theorem itm_le {α : Type} {g : α → Nat → Nat → Nat → Nat → Prop} (G : ∀ I i j r s, g I i j r s → i ≤ j ∧ r ≤ s) {x : Op × Option α} (h : itm g V D x i j r s) : i < j ∧ r < s := by
  obtain ⟨-, -, h⟩ := h
  cases hx : x.2 with
  | none =>
    rw [hx] at h
    obtain ⟨-, h1, h2, -⟩ := h
    omega
  | some I =>
    rw [hx] at h
    obtain ⟨t, -, -, h1, h2, -⟩ := h
    have := G _ _ _ _ _ h1
    omega
theorem layL_le {α : Type} {g : α → Nat → Nat → Nat → Nat → Prop} (G : ∀ I i j r s, g I i j r s → i ≤ j ∧ r ≤ s) : ∀ (l : List (Op × Option α)) {i r : Nat}, layL g V D l i j r s → i ≤ j ∧ r ≤ s := by
  intro l
  induction l with
  | nil => intro i r h; exact ⟨Nat.le_of_eq h.1, Nat.le_of_eq h.2⟩
  | cons x l ih =>
    intro i r h
    obtain ⟨e, t, h1, h2⟩ := h
    have a := itm_le G h1
    have b := ih h2
    omega
theorem Lay_le : ∀ (n : Nat) (P : Pg n) {i j r s : Nat}, Lay V D n P i j r s → i ≤ j ∧ r ≤ s := by
  intro n
  induction n with
  | zero => intro P i j r s h; exact absurd h id
  | succ n ih => intro P i j r s h; exact layL_le (fun I i j r s h => ih I h) P h
theorem itm_cg {α : Type} {g g2 : α → Nat → Nat → Nat → Nat → Prop} (L : ∀ I i j r s, g I i j r s → i ≤ j ∧ r ≤ s) (G : ∀ I i j r s, Alk D E i j r s → g I i j r s → g2 I i j r s) {x : Op × Option α} (a : Alk D E i j r s) (h : itm g V D x i j r s) : itm g2 V E x i j r s := by
  have le := itm_le L h
  obtain ⟨h1, h2, h⟩ := h
  refine ⟨h1, (a.1 i (Nat.le_refl _) le.1).trans h2, ?_⟩
  cases hx : x.2 with
  | none =>
    rw [hx] at h
    obtain ⟨h3, h4, h5, h6⟩ := h
    exact ⟨(a.2 r (Nat.le_refl _) le.2).trans h3, h4, h5, h6⟩
  | some I =>
    rw [hx] at h
    obtain ⟨t, h3, h4, h5, h6, h7⟩ := h
    have l2 := L _ _ _ _ _ h5
    exact ⟨t, (a.2 r (Nat.le_refl _) le.2).trans h3, (a.2 t (by omega) (by omega)).trans h4, G _ _ _ _ _ (a.sub (by omega) (by omega) (by omega) (by omega)) h5, h6, h7⟩
theorem layL_cg {α : Type} {g g2 : α → Nat → Nat → Nat → Nat → Prop} (L : ∀ I i j r s, g I i j r s → i ≤ j ∧ r ≤ s) (G : ∀ I i j r s, Alk D E i j r s → g I i j r s → g2 I i j r s) : ∀ (l : List (Op × Option α)) {i r : Nat}, Alk D E i j r s → layL g V D l i j r s → layL g2 V E l i j r s := by
  intro l
  induction l with
  | nil => intro i r a h; exact h
  | cons x l ih =>
    intro i r a h
    obtain ⟨e, t, h1, h2⟩ := h
    have l1 := itm_le L h1
    have l2 := layL_le L l h2
    exact ⟨e, t, itm_cg L G (a.sub (Nat.le_refl _) (by omega) (Nat.le_refl _) (by omega)) h1, ih (a.sub (by omega) (Nat.le_refl _) (by omega) (Nat.le_refl _)) h2⟩
theorem Lay_cg : ∀ (n : Nat) (P : Pg n) {i j r s : Nat}, Alk D E i j r s → Lay V D n P i j r s → Lay V E n P i j r s := by
  intro n
  induction n with
  | zero => intro P i j r s a h; exact absurd h id
  | succ n ih => intro P i j r s a h; exact layL_cg (fun I i j r s h => Lay_le n I h) (fun I i j r s a h => ih I a h) P a h
theorem layL_snoc {α : Type} {g : α → Nat → Nat → Nat → Nat → Prop} {x : Op × Option α} {e t : Nat} : ∀ (l : List (Op × Option α)) {i r : Nat}, layL g V D l i j r s → itm g V D x j e s t → layL g V D (l ++ [x]) i e r t := by
  intro l
  induction l with
  | nil =>
    intro i r h hx
    obtain ⟨h1, h2⟩ := h
    subst h1 h2
    exact ⟨e, t, hx, rfl, rfl⟩
  | cons y l ih =>
    intro i r h hx
    obtain ⟨f, u, h1, h2⟩ := h
    exact ⟨f, u, h1, ih h2 hx⟩
theorem Opn_cg : ∀ (k n : Nat) {i r : Nat}, (∀ m, m < k → o2 m = o m ∧ w2 m = w m) → Alk D E 0 i 0 r → Opn V D o w k n i r → Opn V E o2 w2 k n i r := by
  intro k
  induction k with
  | zero =>
    intro n i r _ a h
    obtain ⟨l, h⟩ := h
    exact ⟨l, Lay_cg _ l a h⟩
  | succ k ih =>
    intro n i r ho a h
    obtain ⟨l, x, j, t, h1, h2, h3, h4, h5, h6⟩ := h
    have le := Lay_le _ l h6
    obtain ⟨o1, w1⟩ := ho k (Nat.lt_succ_self k)
    refine ⟨l, x, j, t, h1, h2, ?_, ?_, ?_, ?_⟩
    · rw [o1, w1]
      exact ih (n + 1) (fun m hm => ho m (by omega)) (a.sub (Nat.le_refl _) (by omega) (Nat.le_refl _) (by omega)) h3
    · rw [o1]
      exact (a.1 _ (Nat.zero_le _) (by omega)).trans h4
    · rw [w1]
      exact (a.2 _ (Nat.zero_le _) (by omega)).trans h5
    · rw [o1, w1]
      exact Lay_cg _ l (a.sub (Nat.zero_le _) (Nat.le_refl _) (Nat.zero_le _) (Nat.le_refl _)) h6
/-- a step more at the innermost -/
theorem Opn_snoc (k n : Nat) {e t : Nat} {x : Op × Option (Pg n)} (h : Opn V D o w k n i r) (hx : itm (Lay V D n) V D x i e r t) : Opn V D o w k n e t := by
  cases k with
  | zero =>
    obtain ⟨l, h⟩ := h
    exact ⟨List.append (α := Op × Option (Pg n)) l [x], layL_snoc l h hx⟩
  | succ k =>
    obtain ⟨l, y, j, t, h1, h2, h3, h4, h5, h6⟩ := h
    exact ⟨List.append (α := Op × Option (Pg n)) l [x], y, j, t, h1, h2, h3, h4, h5, layL_snoc l h6 hx⟩
theorem Opn_open (k n : Nat) {x : Op} {j t : Nat} (h : Opn V D o w k (n + 1) i r) (hv : V x) (hb : isBk x.1 = true) (h1 : D.2.2.1 i = (x.1, x.2.1, x.2.2, j)) (h2 : D.2.2.2 r = rwO x t) (ho : o k = i) (hw : w k = r) : Opn V D o w (k + 1) n (i + 1) (r + 1) := by
  subst ho hw
  exact ⟨[], x, j, t, hv, hb, h, h1, h2, rfl, rfl⟩
end LAY
