/-! BEST: what the ranks still to fill can add -/
/-- what a paper adds at rank k: w k i tells whether ranks i and k are beside each other -/
def gAd (w : Nat → Nat → Bool) (F : Nat → Nat → Nat) (k : Nat) (t : Nat → Nat) (p : Nat) : Nat := sm k (fun i => if w i k = true then F (t i) p else 0)
/-- couples of ranks, of which the greater is k or more -/
def cfs (w : Nat → Nat → Bool) (N k : Nat) : Nat := sm N (fun j => if k ≤ j then sm j (fun i => if w i j = true then 1 else 0) else 0)
def JW (P : Nat → Bool) (k : Nat) (t : Nat → Nat) (l : Nat → Bool) : Prop := (∀ i, i < k → t i < 8 ∧ P (t i) = true) ∧ (∀ i j, i < k → j < k → t i = t j → i = j) ∧ ∀ q, l q = true → P q = true ∧ ∀ i, i < k → t i ≠ q
section BND
variable {w : Nat → Nat → Bool} {F : Nat → Nat → Nat} {P : Nat → Bool} {N : Nat}
theorem JW.step {k : Nat} {t : Nat → Nat} {l : Nat → Bool} {p : Nat} (J : JW P k t l) (hp : p < 8) (hl : l p = true) : JW P (k + 1) (upF t k p) (fun q => l q && !(q == p)) := by
  obtain ⟨h1, h2, h3⟩ := J
  obtain ⟨h4, h5⟩ := h3 p hl
  refine ⟨fun i hi => ?_, fun i j hi hj e => ?_, fun q hq => ?_⟩
  · by_cases h : i = k
    · rw [h, upF_s]; exact ⟨hp, h4⟩
    · rw [upF_n _ _ h]; exact h1 i (by omega)
  · by_cases hi2 : i = k
    · by_cases hj2 : j = k
      · omega
      · rw [hi2, upF_s, upF_n _ _ hj2] at e
        exact absurd e.symm (h5 j (by omega))
    · by_cases hj2 : j = k
      · rw [hj2, upF_s, upF_n _ _ hi2] at e
        exact absurd e (h5 i (by omega))
      · rw [upF_n _ _ hi2, upF_n _ _ hj2] at e
        exact h2 i j (by omega) (by omega) e
  · rw [Bool.and_eq_true, Bool.not_eq_true', beq_eq_false_iff_ne] at hq
    obtain ⟨a1, a2⟩ := h3 q hq.1
    refine ⟨a1, fun i hi => ?_⟩
    by_cases h : i = k
    · rw [h, upF_s]; exact fun e => hq.2 e.symm
    · rw [upF_n _ _ h]; exact a2 i (by omega)
/-- what the ranks k .. add in a whole way -/
def addF (w : Nat → Nat → Bool) (F : Nat → Nat → Nat) (N k : Nat) (t : Nat → Nat) : Nat := sm N (fun j => if k ≤ j then sm j (fun i => if w i j = true then F (t i) (t j) else 0) else 0)
theorem addF_N (t : Nat → Nat) : addF w F N N t = 0 := sm_zero (fun j hj => if_neg (by omega))
theorem addF_s {k : Nat} (hk : k < N) (t : Nat → Nat) : addF w F N k t = addF w F N (k + 1) t + gAd w F k t (t k) := by
  have e : gAd w F k t (t k) = sm N (fun j => if j = k then sm j (fun i => if w i j = true then F (t i) (t j) else 0) else 0) := (sm_one hk (fun j => sm j (fun i => if w i j = true then F (t i) (t j) else 0))).symm
  rw [e]
  unfold addF
  rw [← sm_add]
  refine sm_congr (fun j _ => ?_)
  by_cases h : j = k
  · rw [if_pos (by omega), if_neg (by omega), if_pos h, Nat.zero_add]
  · by_cases h2 : k ≤ j
    · rw [if_pos h2, if_pos (by omega), if_neg h, Nat.add_zero]
    · rw [if_neg h2, if_neg (by omega), if_neg h]
/-- all ends at most b, if all whole ways from here are -/
theorem LeE_of {b : Nat} : ∀ (m k : Nat) (t : Nat → Nat) (l : Nat → Bool) (s : Nat), k + m = N → JW P k t l → (∀ t2 : Nat → Nat, (∀ i, i < k → t2 i = t i) → (∀ i, i < N → t2 i < 8 ∧ P (t2 i) = true) → (∀ i j, i < N → j < N → t2 i = t2 j → i = j) → s + addF w F N k t2 ≤ b) → LeE (gAd w F) b m k t l s := by
  intro m
  induction m with
  | zero =>
    intro k t l s hk J h
    have e : k = N := by omega
    subst e
    have := h t (fun _ _ => rfl) J.1 J.2.1
    show s ≤ b
    omega
  | succ m ih =>
    intro k t l s hk J h p hp hl
    refine ih (k + 1) (upF t k p) _ _ (by omega) (J.step hp hl) (fun t2 h1 h2 h3 => ?_)
    have := h t2 (fun i hi => (h1 i (by omega)).trans (upF_n _ _ (by omega))) h2 h3
    rw [addF_s (by omega)] at this
    have ek : t2 k = p := (h1 k (by omega)).trans (upF_s _ _ _)
    have eg : gAd w F k t2 (t2 k) = gAd w F k t p := by
      unfold gAd
      exact sm_congr (fun i hi => by rw [ek, h1 i (by omega), upF_n _ _ (by omega)])
    rw [eg] at this
    omega
theorem sm_flat (M : Nat) (H : Nat → Nat → Nat) : ∀ n, sm (n * M) (fun s => H (s / M) (s % M)) = sm n (fun j => sm M (fun i => H j i)) := by
  intro n
  by_cases hM : M = 0
  · subst hM
    rw [Nat.mul_zero, sm_0]
    exact (sm_zero (fun _ _ => sm_0 _)).symm
  induction n with
  | zero => rw [Nat.zero_mul, sm_0, sm_0]
  | succ n ih =>
    rw [sm_s, ← ih, Nat.succ_mul]
    have : ∀ c, c ≤ M → sm (n * M + c) (fun s => H (s / M) (s % M)) = sm (n * M) (fun s => H (s / M) (s % M)) + sm c (fun i => H n i) := by
      intro c
      induction c with
      | zero => intro _; rfl
      | succ c ihc =>
        intro hc
        rw [← Nat.add_assoc, sm_s, ihc (by omega), sm_s]
        have d1 : (n * M + c) / M = n := by
          rw [Nat.mul_comm, Nat.mul_add_div (by omega), Nat.div_eq_of_lt (by omega), Nat.add_zero]
        have d2 : (n * M + c) % M = c := by
          rw [Nat.mul_comm, Nat.mul_add_mod, Nat.mod_eq_of_lt (by omega)]
        rw [d1, d2]
        omega
    exact this M (Nat.le_refl _)
end BND
