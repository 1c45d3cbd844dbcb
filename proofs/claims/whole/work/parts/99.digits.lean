/-! DIGITS -/
/-- the number of the first k digits from s on, as the Model and as the class reckon it -/
def dM (B : Nat → Nat) (s : Nat) : Nat → Nat
  | 0 => 0
  | k + 1 => min 100000 (10 * dM B s k + B (s + k) - 48)
def dC (B : Nat → Nat) (s : Nat) : Nat → Nat
  | 0 => 0
  | k + 1 => if k < 4 then dC B s k * 10 + (B (s + k) - 48) else dC B s k
theorem dM_le (B : Nat → Nat) (s k : Nat) : dM B s k ≤ 100000 := by
  cases k with
  | zero => exact Nat.zero_le _
  | succ k => exact Nat.min_le_left _ _
theorem dC_lt {B : Nat → Nat} {s : Nat} : ∀ {k : Nat}, k ≤ 4 → (∀ i, i < k → isDi (B (s + i)) = true) → dC B s k < 10 ^ k ∧ dM B s k = dC B s k := by
  intro k
  induction k with
  | zero => intro _ _; exact ⟨Nat.one_pos, rfl⟩
  | succ k ih =>
    intro h4 hd
    obtain ⟨h1, h2⟩ := ih (by omega) (fun i hi => hd i (by omega))
    have h3 := hd k (by omega)
    unfold isDi at h3
    rw [Bool.and_eq_true, decide_eq_true_eq, decide_eq_true_eq] at h3
    have p4 : (10 : Nat) ^ k ≤ 10 ^ 3 := Nat.pow_le_pow_right (by decide) (by omega)
    have p5 : (10 : Nat) ^ 3 = 1000 := by decide
    have e1 : dC B s (k + 1) = dC B s k * 10 + (B (s + k) - 48) := by
      show (if k < 4 then dC B s k * 10 + (B (s + k) - 48) else dC B s k) = _
      rw [if_pos (by omega)]
    have e2 : dM B s (k + 1) = min 100000 (10 * dM B s k + B (s + k) - 48) := rfl
    rw [e1, e2, h2, Nat.pow_succ]
    refine ⟨by omega, ?_⟩
    rw [Nat.min_eq_right (by omega)]
    omega
