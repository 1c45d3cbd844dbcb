/-! BEST: a given way is among all ways -/
section HSW
variable {w : Nat → Nat → Bool} {F : Nat → Nat → Nat} {N : Nat}
theorem hasW_of {y : Nat → Nat} (hy : ∀ i, i < N → y i < 8) (inj : ∀ i j, i < N → j < N → y i = y j → i = j) : ∀ (m k : Nat) (t : Nat → Nat) (l : Nat → Bool) (s v : Nat), k + m = N → (∀ i, i < k → t i = y i) → (∀ i, k ≤ i → i < N → l (y i) = true) → v = s + addF w F N k y → HasW (gAd w F) y v m k t l s := by
  intro m
  induction m with
  | zero =>
    intro k t l s v hk ht hl hv
    have e : k = N := by omega
    subst e
    rw [addF_N] at hv
    show s = v
    omega
  | succ m ih =>
    intro k t l s v hk ht hl hv
    have hk2 : k < N := by omega
    refine ⟨hy k hk2, hl k (Nat.le_refl _) hk2, ?_⟩
    refine ih (k + 1) _ _ _ _ (by omega) (fun i hi => ?_) (fun i h1 h2 => ?_) ?_
    · by_cases h : i = k
      · rw [h, upF_s]
      · rw [upF_n _ _ h]; exact ht i (by omega)
    · have ne : y i ≠ y k := fun e => by have := inj i k h2 hk2 e; omega
      rw [hl i (by omega) h2, Bool.true_and, beq_eq_false_iff_ne.mpr ne]
      rfl
    · have eg : gAd w F k y (y k) = gAd w F k t (y k) := by
        unfold gAd
        exact sm_congr (fun i hi => by rw [ht i hi])
      rw [addF_s hk2, eg] at hv
      omega
/-- all ways from nothing: the class's start and the Model's give the same, if the lay as it is is one of the ways -/
theorem best_start {y : Nat → Nat} {l : Nat → Bool} {t : Nat → Nat} {b : Nat} (hy : ∀ i, i < N → y i < 8) (inj : ∀ i j, i < N → j < N → y i = y j → i = j) (hl : ∀ i, i < N → l (y i) = true) (hb : b ≤ addF w F N 0 y) (t1 t2 : Nat → Nat) : srch (gAd w F) N 0 t l 0 (b, t1) = srch (gAd w F) N 0 t l 0 (0, t2) :=
  srch_from (hasW_of (w := w) (F := F) hy inj N 0 t l 0 _ (by omega) (fun i hi => absurd hi (Nat.not_lt_zero i)) (fun i _ h => hl i h) rfl) (by omega) rfl (Nat.zero_le _)
end HSW
