/-! PASSING BYTES OF A KIND -/
def skpF (f : Nat → Bool) (B : Nat → Nat) (n : Nat) : Nat → Nat → Nat
  | 0, j => j
  | m + 1, j => if j < n ∧ f (B j) = true then skpF f B n m (j + 1) else j
def skp (f : Nat → Bool) (B : Nat → Nat) (n j : Nat) : Nat := skpF f B n (n - j) j
section SKP
variable {f : Nat → Bool} {B : Nat → Nat} {n j : Nat}
theorem skp_y (h : j < n) (hf : f (B j) = true) : skp f B n j = skp f B n (j + 1) := by
  unfold skp
  have e : n - j = (n - (j + 1)) + 1 := by omega
  rw [e]
  show (if j < n ∧ f (B j) = true then skpF f B n (n - (j + 1)) (j + 1) else j) = _
  rw [if_pos ⟨h, hf⟩]
theorem skp_n (h : ¬ (j < n ∧ f (B j) = true)) : skp f B n j = j := by
  unfold skp
  cases n - j with
  | zero => rfl
  | succ m =>
    show (if j < n ∧ f (B j) = true then skpF f B n m (j + 1) else j) = _
    rw [if_neg h]
theorem skp_all (f : Nat → Bool) (B : Nat → Nat) (n : Nat) : ∀ k j, n - j = k → j ≤ n → j ≤ skp f B n j ∧ skp f B n j ≤ n ∧ ¬ (skp f B n j < n ∧ f (B (skp f B n j)) = true) ∧ ∀ i, j ≤ i → i < skp f B n j → f (B i) = true := by
  intro k
  induction k with
  | zero =>
    intro j h1 h2
    rw [skp_n (by omega)]
    exact ⟨by omega, by omega, by omega, fun i h3 h4 => by omega⟩
  | succ k ih =>
    intro j h1 h2
    by_cases h : f (B j) = true
    · rw [skp_y (by omega) h]
      obtain ⟨a1, a2, a3, a4⟩ := ih (j + 1) (by omega) (by omega)
      refine ⟨by omega, a2, a3, fun i h3 h4 => ?_⟩
      by_cases e : i = j
      · rw [e]; exact h
      · exact a4 i (by omega) h4
    · rw [skp_n (fun hh => h hh.2)]
      exact ⟨by omega, by omega, fun hh => h hh.2, fun i h3 h4 => by omega⟩
theorem skp_le (h : j ≤ n) : skp f B n j ≤ n := (skp_all f B n _ j rfl h).2.1
theorem skp_ge (h : j ≤ n) : j ≤ skp f B n j := (skp_all f B n _ j rfl h).1
theorem skp_stop (h : j ≤ n) : ¬ (skp f B n j < n ∧ f (B (skp f B n j)) = true) := (skp_all f B n _ j rfl h).2.2.1
theorem skp_in (h : j ≤ n) {i : Nat} (h1 : j ≤ i) (h2 : i < skp f B n j) : f (B i) = true := (skp_all f B n _ j rfl h).2.2.2 i h1 h2
end SKP
theorem setI_two (σ : MS) (b i : Nat) (v w : Int32) : setI (setI σ b i v) b i w = setI σ b i w := by
  rw [setI_eq_upA σ b i v, setI_upA, setI_eq_upA σ b i w]
  congr 1
  funext j
  by_cases h : j = i
  · rw [if_pos h, if_pos h]
  · rw [if_neg h, if_neg h, if_neg h]
