/-! WHAT IS READ STANDS AS A TREE -/
def OpV (np nc cl : Nat) (x : Op) : Prop := ((x.1 = 9 ∨ x.1 = 10 ∨ x.1 = 11) ∧ ∃ p, p < np ∧ x.2 = (some p, none)) ∨ (x.1 = 17 ∧ ∃ p q, p < np ∧ q < np ∧ x.2 = (some p, some q)) ∨ (x.1 = 14 ∧ ∃ c q, c < nc ∧ q < np ∧ x.2 = (some c, some q)) ∨ (x.1 = 12 ∧ ∃ c e, c < cl ∧ e < cl ∧ x.2 = (some c, some e)) ∨ (x.1 = 19 ∧ ∃ v, 1 ≤ v ∧ v ≤ 99 ∧ x.2 = (some v, none)) ∨ (x.1 = 18 ∧ ∃ s v, s < 256 ∧ v ≤ 9999 ∧ x.2 = (some s, some v)) ∨ ((x.1 = 13 ∨ x.1 = 15 ∨ x.1 = 21) ∧ x.2 = (none, none))
theorem OpV.mono {np nc cl np2 : Nat} {x : Op} (h : np ≤ np2) (H : OpV np nc cl x) : OpV np2 nc cl x := by
  rcases H with ⟨h1, p, h2, h3⟩ | ⟨h1, p, q, h2, h4, h3⟩ | ⟨h1, p, q, h2, h4, h3⟩ | H | H | H | H
  · exact .inl ⟨h1, p, by omega, h3⟩
  · exact .inr (.inl ⟨h1, p, q, by omega, by omega, h3⟩)
  · exact .inr (.inr (.inl ⟨h1, p, q, h2, by omega, h3⟩))
  · exact .inr (.inr (.inr (.inl H)))
  · exact .inr (.inr (.inr (.inr (.inl H))))
  · exact .inr (.inr (.inr (.inr (.inr (.inl H)))))
  · exact .inr (.inr (.inr (.inr (.inr (.inr H)))))
section PAV
variable {B : Nat → Nat} {n : Nat} {A : Ofc} {T : Tk} {x : Nat × Tk} {S : Ps}
theorem kN_v {lo hi : Nat} (h : (kN B n lo hi T fun v T => .inr (v, T)) = (.inr x : Er ⊕ (Nat × Tk))) : lo ≤ x.1 ∧ x.1 ≤ hi := by
  unfold kN at h
  by_cases h3 : T.1 = 3
  · rw [if_pos h3] at h
    by_cases hr : inN B T lo hi = true
    · rw [if_pos hr] at h
      unfold inN at hr
      rw [Bool.and_eq_true, decide_eq_true_eq, decide_eq_true_eq] at hr
      cases h
      exact hr
    · rw [if_neg hr] at h; cases h
  · rw [if_neg h3] at h; cases h
theorem piece_p (h : piece B n A 112 T = .inr x) : x.1 < A.np := by
  unfold piece at h
  rw [if_pos rfl] at h
  by_cases hn : isNm B T = true
  · rw [if_pos hn] at h
    cases hp : A.pOf (tw B T) with
    | none => rw [hp] at h; cases h
    | some p => rw [hp] at h; cases h; exact (ff_is hp).1
  · rw [if_neg hn] at h; cases h
theorem piece_c (h : piece B n A 99 T = .inr x) : x.1 < A.nc := by
  unfold piece at h
  rw [if_neg (by decide), if_pos rfl] at h
  by_cases hn : isNm B T = true
  · rw [if_pos hn] at h
    cases hp : A.cOf (tw B T) with
    | none => rw [hp] at h; cases h
    | some p => rw [hp] at h; cases h; exact (ff_is hp).1
  · rw [if_neg hn] at h; cases h
theorem piece_f (O : OfcOk A) (h : piece B n A 102 T = .inr x) : x.1 < A.wide * A.high := by
  have c1 : 1 ≤ A.wide * A.high := Nat.mul_le_mul O.w1 O.h1
  unfold piece at h
  rw [if_neg (by decide), if_neg (by decide), if_pos rfl] at h
  have := kN_v h
  omega
theorem piece_l (h : piece B n A 108 T = .inr x) : 1 ≤ x.1 ∧ x.1 ≤ 99 := by
  unfold piece at h
  rw [if_neg (by decide), if_neg (by decide), if_neg (by decide), if_pos rfl] at h
  exact kN_v h
theorem piece_s (H : TkOk B n T) (h : piece B n A 115 T = .inr x) : x.1 < 256 := by
  unfold piece at h
  rw [if_neg (by decide), if_neg (by decide), if_neg (by decide), if_neg (by decide), if_pos rfl] at h
  by_cases hc : T.1 = 4 ∧ B T.2.1 ≠ 59
  · rw [if_pos hc] at h
    have hs := H.sg hc.1
    unfold isSg at hs
    simp only [Bool.or_eq_true, beq_iff_eq] at hs
    cases h
    show B T.2.1 < 256
    omega
  · rw [if_neg hc] at h; cases h
theorem piece_w (h : piece B n A 110 T = .inr x) : x.1 ≤ 9999 := by
  unfold piece at h
  rw [if_neg (by decide), if_neg (by decide), if_neg (by decide), if_neg (by decide), if_neg (by decide)] at h
  exact (kN_v h).2
theorem kind_v {w : Nat} (hw : isStW w = true) (h : kindOf B n w T = .inr x) : kindM w x.1 = kM x.1 ∧ (isBk x.1 = true ↔ (w = 16 ∨ w = 19)) ∧ (x.1 = 9 ∨ x.1 = 10 ∨ x.1 = 11 ∨ x.1 = 12 ∨ x.1 = 13 ∨ x.1 = 14 ∨ x.1 = 15 ∨ x.1 = 17 ∨ x.1 = 18 ∨ x.1 = 19 ∨ x.1 = 21) := by
  by_cases h16 : w = 16
  · subst h16
    unfold kindOf at h
    rw [if_pos rfl] at h
    by_cases h2 : T.1 = 2
    · rw [if_pos h2] at h
      cases hq : wno (tw B T) with
      | none => rw [hq] at h; cases h
      | some k =>
        rw [hq] at h
        dsimp only at h
        by_cases ht : isTeW k = true
        · rw [if_pos ht] at h
          cases h
          unfold isTeW at ht
          simp only [Bool.or_eq_true, decide_eq_true_eq] at ht
          rcases ht with (rfl | rfl) | rfl
          · (dsimp only; exact ⟨by decide, by decide, by decide⟩)
          · (dsimp only; exact ⟨by decide, by decide, by decide⟩)
          · (dsimp only; exact ⟨by decide, by decide, by decide⟩)
        · rw [if_neg ht] at h; cases h
    · rw [if_neg h2] at h; cases h
  · rw [kindOf_n h16] at h
    cases h
    unfold isStW at hw
    simp only [Bool.or_eq_true, Bool.and_eq_true, decide_eq_true_eq] at hw
    have hh : w = 10 ∨ w = 11 ∨ w = 12 ∨ w = 13 ∨ w = 14 ∨ w = 15 ∨ w = 19 ∨ w = 21 := by omega
    rcases hh with rfl | rfl | rfl | rfl | rfl | rfl | rfl | rfl
    · (dsimp only; exact ⟨by decide, by decide, by decide⟩)
    · (dsimp only; exact ⟨by decide, by decide, by decide⟩)
    · (dsimp only; exact ⟨by decide, by decide, by decide⟩)
    · (dsimp only; exact ⟨by decide, by decide, by decide⟩)
    · (dsimp only; exact ⟨by decide, by decide, by decide⟩)
    · (dsimp only; exact ⟨by decide, by decide, by decide⟩)
    · (dsimp only; exact ⟨by decide, by decide, by decide⟩)
    · (dsimp only; exact ⟨by decide, by decide, by decide⟩)
theorem pc_1 {c : Nat} {y : Option Nat × Option Nat × Tk} (h : pieces B n A [c] T = .inr y) : ∃ x, piece B n A c T = .inr x ∧ y = (some x.1, none, x.2) := by
  rw [pieces_1] at h
  cases hq : piece B n A c T with
  | inl e => rw [hq] at h; cases h
  | inr x => rw [hq] at h; cases h; exact ⟨x, rfl, rfl⟩
theorem pc_2 {c e : Nat} {y : Option Nat × Option Nat × Tk} (h : pieces B n A [c, e] T = .inr y) : ∃ x z, piece B n A c T = .inr x ∧ piece B n A e x.2 = .inr z ∧ y = (some x.1, some z.1, z.2) := by
  rw [pieces_2] at h
  cases hq : piece B n A c T with
  | inl e => rw [hq] at h; cases h
  | inr x =>
    rw [hq] at h
    dsimp only at h
    cases hq2 : piece B n A e x.2 with
    | inl e => rw [hq2] at h; cases h
    | inr z => rw [hq2] at h; cases h; exact ⟨x, z, rfl, hq2, rfl⟩
theorem pieces_v {k : Nat} (O : OfcOk A) (H : TkOk B n T) (hk : k = 9 ∨ k = 10 ∨ k = 11 ∨ k = 12 ∨ k = 13 ∨ k = 14 ∨ k = 15 ∨ k = 17 ∨ k = 18 ∨ k = 19 ∨ k = 21) {y : Option Nat × Option Nat × Tk} (h : pieces B n A (pcs k) T = .inr y) : OpV A.np A.nc (A.wide * A.high) (k, y.1, y.2.1) := by
  have one : ∀ {k : Nat}, (k = 9 ∨ k = 10 ∨ k = 11) → pieces B n A [112] T = .inr y → OpV A.np A.nc (A.wide * A.high) (k, y.1, y.2.1) := fun hk h => by
    obtain ⟨x, h1, rfl⟩ := pc_1 h
    exact .inl ⟨hk, x.1, piece_p h1, rfl⟩
  have no : ∀ {k : Nat}, (k = 13 ∨ k = 15 ∨ k = 21) → pieces B n A [] T = .inr y → OpV A.np A.nc (A.wide * A.high) (k, y.1, y.2.1) := fun hk h => by
    rw [pieces_0] at h
    cases h
    exact .inr (.inr (.inr (.inr (.inr (.inr ⟨hk, rfl⟩)))))
  rcases hk with rfl | rfl | rfl | rfl | rfl | rfl | rfl | rfl | rfl | rfl | rfl
  · exact one (by decide) h
  · exact one (by decide) h
  · exact one (by decide) h
  · obtain ⟨x, z, h1, h2, rfl⟩ := pc_2 (c := 102) (e := 102) h
    exact .inr (.inr (.inr (.inl ⟨rfl, x.1, z.1, piece_f O h1, piece_f O h2, rfl⟩)))
  · exact no (by decide) h
  · obtain ⟨x, z, h1, h2, rfl⟩ := pc_2 (c := 99) (e := 112) h
    exact .inr (.inr (.inl ⟨rfl, x.1, z.1, piece_c h1, piece_p h2, rfl⟩))
  · exact no (by decide) h
  · obtain ⟨x, z, h1, h2, rfl⟩ := pc_2 (c := 112) (e := 112) h
    exact .inr (.inl ⟨rfl, x.1, z.1, piece_p h1, piece_p h2, rfl⟩)
  · obtain ⟨x, z, h1, h2, rfl⟩ := pc_2 (c := 115) (e := 110) h
    exact .inr (.inr (.inr (.inr (.inr (.inl ⟨rfl, x.1, z.1, piece_s H h1, piece_w h2, rfl⟩)))))
  · obtain ⟨x, h1, rfl⟩ := pc_1 (c := 108) h
    exact .inr (.inr (.inr (.inr (.inl ⟨rfl, x.1, (piece_l h1).1, (piece_l h1).2, rfl⟩))))
  · exact no (by decide) h
end PAV
