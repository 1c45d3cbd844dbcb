/-! A TEXT OF DAYS READ IS A TREE THREE DEEP -/
def PsL (V : Op → Prop) (S : Ps) : Prop := S.2.1 ≤ 3 ∧ Opn V S.1 S.2.2.1 S.2.2.2 S.2.1 (3 - S.2.1) S.1.1 S.1.2.1
section LA2
variable {V : Op → Prop} {B : Nat → Nat} {n : Nat} {A : Ofc} {T : Tk} {S : Ps}
theorem PsL.add {w k : Nat} {a b : Option Nat} (L : PsL V S) (hv : V (k, a, b)) (hm : kindM w k = kM k) (hb : isBk k = true ↔ (w = 16 ∨ w = 19)) (hd : isBk k = true → S.2.1 ≠ 3) : PsL V (S.add w k a b) := by
  obtain ⟨D, dep, o, w0⟩ := S
  obtain ⟨h3, L⟩ := L
  dsimp only at h3 L hd
  have al : Alk D (Ps.add (D, dep, o, w0) w k a b).1 0 D.1 0 D.2.1 := ⟨fun m _ hm => upF_n _ _ (Nat.ne_of_lt hm), fun m _ hm => upF_n _ _ (Nat.ne_of_lt hm)⟩
  have e1 : (Ps.add (D, dep, o, w0) w k a b).1.2.2.1 D.1 = (k, a, b, D.1 + 1) := upF_s _ _ _
  have e2 : (Ps.add (D, dep, o, w0) w k a b).1.2.2.2 D.2.1 = rwO (k, a, b) 0 := by
    refine (upF_s _ _ _).trans ?_
    rw [hm]
    rfl
  cases hk : isBk k with
  | false =>
    have hw : ¬ (w = 16 ∨ w = 19) := fun h => by rw [hb.mpr h] at hk; cases hk
    have e : (Ps.add (D, dep, o, w0) w k a b).2 = (dep, o, w0) := if_neg hw
    unfold PsL
    rw [e]
    exact ⟨h3, Opn_snoc (x := ((k, a, b), none)) _ _ (Opn_cg _ _ (fun _ _ => ⟨rfl, rfl⟩) al L) ⟨hv, e1, e2, rfl, rfl, hk⟩⟩
  | true =>
    have e : (Ps.add (D, dep, o, w0) w k a b).2 = (dep + 1, upF o dep D.1, upF w0 dep D.2.1) := if_pos (hb.mp hk)
    have hd2 := hd hk
    unfold PsL
    rw [e]
    have en : 3 - dep = (3 - (dep + 1)) + 1 := by omega
    rw [en] at L
    exact ⟨by show dep + 1 ≤ 3; omega, Opn_open (x := (k, a, b)) _ _ (Opn_cg _ _ (fun m hm => ⟨upF_n _ _ (by omega), upF_n _ _ (by omega)⟩) al L) hv hk e1 e2 (upF_s _ _ _) (upF_s _ _ _)⟩
theorem PsL.fin (L : PsL V S) (hd : S.2.1 ≠ 0) : PsL V S.fin := by
  obtain ⟨D, dep, o, w0⟩ := S
  obtain ⟨h3, L⟩ := L
  dsimp only at h3 L hd
  obtain ⟨k, rfl⟩ : ∃ k, dep = k + 1 := ⟨dep - 1, by omega⟩
  obtain ⟨l, x, j, t, h1, h2, h4, h5, h6, h7⟩ := L
  have le := Lay_le _ l h7
  have f1 : (Ps.fin (D, k + 1, o, w0)).1.2.2.1 = upF D.2.2.1 (o k) ((D.2.2.1 (o k)).1, (D.2.2.1 (o k)).2.1, (D.2.2.1 (o k)).2.2.1, D.1) := rfl
  have f2 : (Ps.fin (D, k + 1, o, w0)).1.2.2.2 = upF (upF D.2.2.2 D.2.1 (18, 0, 0, w0 k, 0)) (w0 k) ((D.2.2.2 (w0 k)).1, (D.2.2.2 (w0 k)).2.1, (D.2.2.2 (w0 k)).2.2.1, D.2.1, (D.2.2.2 (w0 k)).2.2.2.2) := rfl
  have f3 : (Ps.fin (D, k + 1, o, w0)).2 = (k, o, w0) := rfl
  have f4 : (Ps.fin (D, k + 1, o, w0)).1.1 = D.1 := rfl
  have f5 : (Ps.fin (D, k + 1, o, w0)).1.2.1 = D.2.1 + 1 := rfl
  unfold PsL
  rw [f3, f4, f5]
  generalize (Ps.fin (D, k + 1, o, w0)).1 = E at f1 f2 ⊢
  have al : Alk D E 0 (o k) 0 (w0 k) := ⟨fun m _ hm => by rw [f1, upF_n _ _ (by omega)], fun m _ hm => by rw [f2, upF_n _ _ (by omega), upF_n _ _ (by omega)]⟩
  have al2 : Alk D E (o k + 1) D.1 (w0 k + 1) D.2.1 := ⟨fun m hm _ => by rw [f1, upF_n _ _ (by omega)], fun m hm hm2 => by rw [f2, upF_n _ _ (by omega), upF_n _ _ (by omega)]⟩
  have en : 3 - k = (3 - (k + 1)) + 1 := by omega
  rw [en]
  refine ⟨by show k ≤ 3; omega, Opn_snoc (x := (x, some l)) _ _ (Opn_cg _ _ (fun _ _ => ⟨rfl, rfl⟩) al h4) ⟨h1, ?_, D.2.1, ?_, ?_, Lay_cg _ l al2 h7, rfl, h2⟩⟩
  · rw [f1, upF_s, h5]
  · rw [f2, upF_s, h6]
    rfl
  · rw [f2, upF_n _ _ (by omega), upF_s]
theorem qStep_lay {w : Nat} {y : Ps × Tk} (O : OfcOk A) (H : TkOk B n T) (L : PsL (OpV A.np A.nc (A.wide * A.high)) S) (h : qStep B n A S w T = .inr y) : PsL (OpV A.np A.nc (A.wide * A.high)) y.1 := by
  unfold qStep at h
  by_cases hw : isStW w = true
  · rw [if_pos hw] at h
    by_cases h30 : S.1.1 = 30
    · rw [if_pos h30] at h; cases h
    · rw [if_neg h30] at h
      by_cases h3 : (w = 16 ∨ w = 19) ∧ S.2.1 = 3
      · rw [if_pos h3] at h; cases h
      · rw [if_neg h3] at h
        cases hk : kindOf B n w (nx B n T) with
        | inl e => rw [hk] at h; cases h
        | inr x =>
          rw [hk] at h
          dsimp only at h
          cases hp : pieces B n A (pcs x.1) x.2 with
          | inl e => rw [hp] at h; cases h
          | inr z =>
            rw [hp] at h
            dsimp only at h
            unfold kE at h
            by_cases hs : isS B z.2.2 59 = true
            · rw [if_pos hs] at h
              cases h
              obtain ⟨k1, k2, k3⟩ := kind_v hw hk
              have c := kindOf_ok (w := w) (s := 0) (nx_ok H) (Nat.zero_le _)
              rw [hk] at c
              exact L.add (pieces_v O c.1 k3 hp) k1 k2 (fun hb hd => h3 ⟨k2.mp hb, hd⟩)
            · rw [if_neg hs] at h; cases h
  · rw [if_neg hw] at h; cases h
theorem qDay_lay {y : Ps × Tk} (O : OfcOk A) (H : TkOk B n T) (L : PsL (OpV A.np A.nc (A.wide * A.high)) S) (h : qDay B n A S T = .inr y) : PsL (OpV A.np A.nc (A.wide * A.high)) y.1 := by
  unfold qDay at h
  by_cases h2 : T.1 = 2
  · rw [if_pos h2] at h
    cases hw : wno (tw B T) with
    | none => rw [hw] at h; cases h
    | some w =>
      rw [hw] at h
      dsimp only at h
      by_cases h20 : w = 20
      · rw [if_pos h20] at h
        by_cases hd : S.2.1 = 0
        · rw [if_pos hd] at h; cases h
        · rw [if_neg hd] at h
          unfold kE at h
          by_cases hs : isS B (nx B n T) 59 = true
          · rw [if_pos hs] at h
            cases h
            exact L.fin hd
          · rw [if_neg hs] at h; cases h
      · rw [if_neg h20] at h
        exact qStep_lay O H L h
  · rw [if_neg h2] at h; cases h
theorem qDaysL_lay (O : OfcOk A) : ∀ (m : Nat) (S : Ps) (T : Tk) (D : Dy), n < m + T.2.1 → PsOk S → TkOk B n T → PsL (OpV A.np A.nc (A.wide * A.high)) S → qDaysL B n A m S T = .inr D → ∃ l : Pg 4, Lay (OpV A.np A.nc (A.wide * A.high)) D 4 l 0 D.1 0 D.2.1 := by
  intro m
  induction m with
  | zero =>
    intro S T D hm P H L h
    have := H.e
    have := H.se
    omega
  | succ m ih =>
    intro S T D hm P H L h
    rw [qDaysL_s] at h
    by_cases h0 : T.1 = 0
    · rw [if_pos h0] at h
      by_cases hd : S.2.1 = 0
      · rw [if_pos hd] at h
        cases h
        obtain ⟨-, L⟩ := L
        rw [hd] at L
        exact L
      · rw [if_neg hd] at h; cases h
    · rw [if_neg h0] at h
      have Q := qDay_ok (A := A) P H
      cases hq : qDay B n A S T with
      | inl e => rw [hq] at h; cases h
      | inr x =>
        rw [hq] at h Q
        exact ih _ _ D (by have := Q.2.2; omega) Q.1 Q.2.1 (qDay_lay O H L hq) h
theorem qDays_lay (O : OfcOk A) (hn : n ≤ 900) {D : Dy} (h : qDays B n A = .inr D) : ∃ l : Pg 4, Lay (OpV A.np A.nc (A.wide * A.high)) D 4 l 0 D.1 0 D.2.1 := qDaysL_lay O 901 _ _ D (by omega) psOk_0 (tk_ok (by omega)).1 ⟨by decide, [], rfl, rfl⟩ h
/-- the pieces stay right while papers come -/
theorem itm_mono {V2 : Op → Prop} (hV : ∀ x, V x → V2 x) {α : Type} {g g2 : α → Nat → Nat → Nat → Nat → Prop} {D : Dy} {i j r s : Nat} (G : ∀ I i j r s, g I i j r s → g2 I i j r s) {x : Op × Option α} (h : itm g V D x i j r s) : itm g2 V2 D x i j r s := by
  obtain ⟨h1, h2, h⟩ := h
  refine ⟨hV _ h1, h2, ?_⟩
  cases hx : x.2 with
  | none => rw [hx] at h; exact h
  | some I =>
    rw [hx] at h
    obtain ⟨t, h3, h4, h5, h6⟩ := h
    exact ⟨t, h3, h4, G _ _ _ _ _ h5, h6⟩
theorem Lay_mono {V2 : Op → Prop} (hV : ∀ x, V x → V2 x) {D : Dy} : ∀ (n : Nat) (P : Pg n) {i j r s : Nat}, Lay V D n P i j r s → Lay V2 D n P i j r s := by
  intro n
  induction n with
  | zero => intro P i j r s h; exact absurd h id
  | succ n ih =>
    intro P
    show ∀ {i j r s : Nat}, layL (Lay V D n) V D P i j r s → layL (Lay V2 D n) V2 D P i j r s
    have go : ∀ (l : List (Op × Option (Pg n))) {i j r s : Nat}, layL (Lay V D n) V D l i j r s → layL (Lay V2 D n) V2 D l i j r s := by
      intro l
      induction l with
      | nil => intro i j r s h; exact h
      | cons x l ih2 =>
        intro i j r s h
        obtain ⟨e, t, h1, h2⟩ := h
        exact ⟨e, t, itm_mono hV (fun I i j r s h => ih I h) h1, ih2 h2⟩
    intro i j r s h
    exact go P h
end LA2
