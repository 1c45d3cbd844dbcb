/-! WHAT A TEXT OF DAYS SAYS -/
/-- DAYS as both hold them: how many steps, how many rows, the steps, the rows -/
abbrev Dy : Type := Nat × Nat × (Nat → Nat × Option Nat × Option Nat × Nat) × (Nat → Nat × Nat × Nat × Nat × Nat)
/-- what is known while they are read: DAYS, how many are open, where these stand among the steps, among the rows -/
abbrev Ps : Type := Dy × Nat × (Nat → Nat) × (Nat → Nat)
def upF {α : Type} (f : Nat → α) (a : Nat) (v : α) : Nat → α := fun p => if p = a then v else f p
theorem upF_s {α : Type} (f : Nat → α) (a : Nat) (v : α) : upF f a v a = v := if_pos rfl
theorem upF_n {α : Type} (f : Nat → α) {a b : Nat} (v : α) (h : b ≠ a) : upF f a v b = f b := if_neg h
def pcs (k : Nat) : List Nat := if k = 9 ∨ k = 10 ∨ k = 11 then [112] else if k = 17 then [112, 112] else if k = 14 then [99, 112] else if k = 12 then [102, 102] else if k = 19 then [108] else if k = 18 then [115, 110] else []
def piece (B : Nat → Nat) (n : Nat) (A : Ofc) (c : Nat) (T : Tk) : Er ⊕ (Nat × Tk) :=
  if c = 112 then (if isNm B T = true then (match A.pOf (tw B T) with | none => .inl (3, T.2.1) | some p => .inr (p, nx B n T)) else .inl (cs T, T.2.1))
  else if c = 99 then (if isNm B T = true then (match A.cOf (tw B T) with | none => .inl (3, T.2.1) | some p => .inr (p, nx B n T)) else .inl (cs T, T.2.1))
  else if c = 102 then kN B n 0 (A.wide * A.high - 1) T fun v T => .inr (v, T)
  else if c = 108 then kN B n 1 99 T fun v T => .inr (v, T)
  else if c = 115 then (if T.1 = 4 ∧ B T.2.1 ≠ 59 then .inr (B T.2.1, nx B n T) else .inl (cs T, T.2.1))
  else kN B n 0 9999 T fun v T => .inr (v, T)
def pieces (B : Nat → Nat) (n : Nat) (A : Ofc) (l : List Nat) (T : Tk) : Er ⊕ (Option Nat × Option Nat × Tk) := match l with
  | [] => .inr (none, none, T)
  | c :: l => match piece B n A c T with
    | .inl e => .inl e
    | .inr x => match l with
      | [] => .inr (some x.1, none, x.2)
      | e :: _ => match piece B n A e x.2 with
        | .inl e => .inl e
        | .inr y => .inr (some x.1, some y.1, y.2)
def kindM (w k : Nat) : Nat := if w = 16 then 1600 + mno k else mno k
/-- one step more: its word w, its kind k, its pieces -/
def Ps.add (S : Ps) (w k : Nat) (a b : Option Nat) : Ps := ((S.1.1 + 1, S.1.2.1 + 1, upF S.1.2.2.1 S.1.1 (k, a, b, S.1.1 + 1), upF S.1.2.2.2 S.1.2.1 (kindM w k, if k = 18 then 0 else a.getD 0, b.getD 0, 0, if k = 18 then a.getD 0 else 0)),
  if w = 16 ∨ w = 19 then (S.2.1 + 1, upF S.2.2.1 S.2.1 S.1.1, upF S.2.2.2 S.2.1 S.1.2.1) else S.2)
/-- the latest that is open ends -/
def Ps.fin (S : Ps) : Ps := ((S.1.1, S.1.2.1 + 1, upF S.1.2.2.1 (S.2.2.1 (S.2.1 - 1)) ((S.1.2.2.1 (S.2.2.1 (S.2.1 - 1))).1, (S.1.2.2.1 (S.2.2.1 (S.2.1 - 1))).2.1, (S.1.2.2.1 (S.2.2.1 (S.2.1 - 1))).2.2.1, S.1.1),
    upF (upF S.1.2.2.2 S.1.2.1 (18, 0, 0, S.2.2.2 (S.2.1 - 1), 0)) (S.2.2.2 (S.2.1 - 1)) ((S.1.2.2.2 (S.2.2.2 (S.2.1 - 1))).1, (S.1.2.2.2 (S.2.2.2 (S.2.1 - 1))).2.1, (S.1.2.2.2 (S.2.2.2 (S.2.1 - 1))).2.2.1, S.1.2.1, (S.1.2.2.2 (S.2.2.2 (S.2.1 - 1))).2.2.2.2)),
  S.2.1 - 1, S.2.2)
def isStW (w : Nat) : Bool := (decide (10 ≤ w) && decide (w ≤ 16)) || decide (w = 19) || decide (w = 21)
def isTeW (w : Nat) : Bool := decide (w = 9) || decide (w = 17) || decide (w = 18)
/-- the kind of a step and what stands behind its words -/
def kindOf (B : Nat → Nat) (n w : Nat) (T : Tk) : Er ⊕ (Nat × Tk) := if w = 16 then (if T.1 = 2 then (match wno (tw B T) with
    | none => .inl (cs T, T.2.1)
    | some k => if isTeW k = true then .inr (k, nx B n T) else .inl (cs T, T.2.1)) else .inl (cs T, T.2.1)) else .inr (w, T)
def qStep (B : Nat → Nat) (n : Nat) (A : Ofc) (S : Ps) (w : Nat) (T : Tk) : Er ⊕ (Ps × Tk) := if isStW w = true then (if S.1.1 = 30 then .inl (6, T.2.1) else if (w = 16 ∨ w = 19) ∧ S.2.1 = 3 then .inl (7, T.2.1) else match kindOf B n w (nx B n T) with
    | .inl e => .inl e
    | .inr x => match pieces B n A (pcs x.1) x.2 with
      | .inl e => .inl e
      | .inr y => kE B n y.2.2 fun T => .inr (S.add w x.1 y.1 y.2.1, T)) else .inl (cs T, T.2.1)
def qDay (B : Nat → Nat) (n : Nat) (A : Ofc) (S : Ps) (T : Tk) : Er ⊕ (Ps × Tk) := if T.1 = 2 then (match wno (tw B T) with
    | none => .inl (cs T, T.2.1)
    | some w => if w = 20 then (if S.2.1 = 0 then .inl (cs T, T.2.1) else kE B n (nx B n T) fun T => .inr (S.fin, T)) else qStep B n A S w T) else .inl (cs T, T.2.1)
def qDaysL (B : Nat → Nat) (n : Nat) (A : Ofc) : Nat → Ps → Tk → Er ⊕ Dy
  | 0, S, _ => .inr S.1
  | m + 1, S, T => if T.1 = 0 then (if S.2.1 = 0 then .inr S.1 else .inl (cs T, T.2.1)) else (match qDay B n A S T with
    | .inl e => .inl e
    | .inr x => qDaysL B n A m x.1 x.2)
def Dy.nil : Dy := (0, 0, fun _ => (0, none, none, 0), fun _ => (0, 0, 0, 0, 0))
def qDays (B : Nat → Nat) (n : Nat) (A : Ofc) : Er ⊕ Dy := qDaysL B n A 901 (Dy.nil, 0, fun _ => 0, fun _ => 0) (tk B n 0)
section DSP
variable {B : Nat → Nat} {n : Nat} {A : Ofc} {T : Tk}
theorem er7 {k s : Nat} (h1 : 1 ≤ k) (h2 : k ≤ 7) : 1 ≤ ((k, s) : Er).1 ∧ ((k, s) : Er).1 ≤ 7 := ⟨h1, h2⟩
theorem cs7 (T : Tk) : 1 ≤ ((cs T, T.2.1) : Er).1 ∧ ((cs T, T.2.1) : Er).1 ≤ 7 := ⟨(cs_le T).1, Nat.le_trans (cs_le T).2 (by decide)⟩
def PcP (B : Nat → Nat) (n s : Nat) (x : Er ⊕ (Nat × Tk)) : Prop := match x with
  | .inl e => 1 ≤ e.1 ∧ e.1 ≤ 7
  | .inr y => TkOk B n y.2 ∧ s ≤ y.2.2.1
theorem kN_pc {lo hi s : Nat} (H : TkOk B n T) (hs : s ≤ T.2.1) : PcP B n s (kN B n lo hi T fun v T => .inr (v, T)) := by
  have l := nx_le H
  have l2 := H.se
  unfold kN
  by_cases h3 : T.1 = 3
  · rw [if_pos h3]
    by_cases hr : inN B T lo hi = true
    · rw [if_pos hr]; exact ⟨nx_ok H, by show s ≤ (nx B n T).2.1; omega⟩
    · rw [if_neg hr]; exact er7 (by decide) (by decide)
  · rw [if_neg h3]; exact cs7 T
theorem piece_ok {c s : Nat} (H : TkOk B n T) (hs : s ≤ T.2.1) : PcP B n s (piece B n A c T) := by
  have l := nx_le H
  have l2 := H.se
  unfold piece
  split
  · split
    · split
      · exact er7 (by decide) (by decide)
      · exact ⟨nx_ok H, by show s ≤ (nx B n T).2.1; omega⟩
    · exact cs7 T
  · split
    · split
      · split
        · exact er7 (by decide) (by decide)
        · exact ⟨nx_ok H, by show s ≤ (nx B n T).2.1; omega⟩
      · exact cs7 T
    · split
      · exact kN_pc H hs
      · split
        · exact kN_pc H hs
        · split
          · split
            · exact ⟨nx_ok H, by show s ≤ (nx B n T).2.1; omega⟩
            · exact cs7 T
          · exact kN_pc H hs
def PsP (B : Nat → Nat) (n s : Nat) (x : Er ⊕ (Option Nat × Option Nat × Tk)) : Prop := match x with
  | .inl e => 1 ≤ e.1 ∧ e.1 ≤ 7
  | .inr y => TkOk B n y.2.2 ∧ s ≤ y.2.2.2.1
theorem pieces_0 : pieces B n A [] T = .inr (none, none, T) := rfl
theorem pieces_1 (c : Nat) : pieces B n A [c] T = (match piece B n A c T with
    | .inl e => .inl e
    | .inr x => .inr (some x.1, none, x.2)) := rfl
theorem pieces_2 (c e : Nat) (l : List Nat) : pieces B n A (c :: e :: l) T = (match piece B n A c T with
    | .inl e => .inl e
    | .inr x => match piece B n A e x.2 with
        | .inl e => .inl e
        | .inr y => .inr (some x.1, some y.1, y.2)) := rfl
theorem pieces_ok {l : List Nat} {s : Nat} (H : TkOk B n T) (hs : s ≤ T.2.1) : PsP B n s (pieces B n A l T) := by
  cases l with
  | nil => exact ⟨H, hs⟩
  | cons c l =>
    have p := piece_ok (A := A) (c := c) H hs
    cases l with
    | nil =>
      rw [pieces_1]
      cases hq : piece B n A c T with
      | inl e => rw [hq] at p; exact p
      | inr x => rw [hq] at p; exact p
    | cons e l =>
      rw [pieces_2]
      cases hq : piece B n A c T with
      | inl e => rw [hq] at p; exact p
      | inr x =>
        rw [hq] at p
        have p2 := piece_ok (A := A) (c := e) p.1 p.2
        dsimp only
        cases hq2 : piece B n A e x.2 with
        | inl e => rw [hq2] at p2; exact p2
        | inr y => rw [hq2] at p2; exact p2
theorem kindOf_ok {w s : Nat} (H : TkOk B n T) (hs : s ≤ T.2.1) : PcP B n s (kindOf B n w T) := by
  have l := nx_le H
  have l2 := H.se
  unfold kindOf
  split
  · split
    · split
      · exact cs7 T
      · split
        · exact ⟨nx_ok H, by show s ≤ (nx B n T).2.1; omega⟩
        · exact cs7 T
    · exact cs7 T
  · exact ⟨H, hs⟩
end DSP
