/-! SUMS OVER COUPLES -/
theorem sm_inj {N : Nat} {t : Nat → Nat} {P : Nat → Bool} {G : Nat → Nat} (ht : ∀ i, i < N → t i < 8 ∧ P (t i) = true) (inj : ∀ i j, i < N → j < N → t i = t j → i = j) : sm N (fun i => G (t i)) ≤ sm 8 (fun p => if P p = true then G p else 0) := by
  have e : sm N (fun i => G (t i)) = sm N (fun i => sm 8 (fun p => if p = t i then G p else 0)) := sm_congr (fun i hi => (sm_one (ht i hi).1 G).symm)
  rw [e, sm_swap]
  refine sm_le (fun p _ => ?_)
  by_cases h : ∃ i, i < N ∧ t i = p
  · obtain ⟨i, hi, hp⟩ := h
    have : sm N (fun j => if p = t j then G p else 0) = sm N (fun j => if j = i then G p else 0) := sm_congr (fun j hj => by
      by_cases e : j = i
      · rw [if_pos e, if_pos (by rw [e, hp])]
      · rw [if_neg e, if_neg (fun h => e (inj j i hj hi (h.symm.trans hp.symm)))])
    rw [this, sm_one hi (fun _ => G p), if_pos (by rw [← hp]; exact (ht i hi).2)]
    exact Nat.le_refl _
  · rw [sm_zero (fun j hj => if_neg (fun hh => h ⟨j, hj, hh.symm⟩))]
    exact Nat.zero_le _
/-- couples told twice -/
theorem sm_twice {H : Nat → Nat → Nat} (hs : ∀ i j, H i j = H j i) : ∀ N, sm N (fun j => sm N (fun i => if i = j then 0 else H i j)) = 2 * sm N (fun j => sm j (fun i => H i j)) := by
  intro N
  induction N with
  | zero => rfl
  | succ N ih =>
    have e : sm (N + 1) (fun j => sm (N + 1) (fun i => if i = j then 0 else H i j)) = sm N (fun j => sm N (fun i => if i = j then 0 else H i j) + H N j) + (sm N (fun i => H i N) + 0) := by
      rw [sm_s]
      congr 1
      · exact sm_congr (fun j hj => by rw [sm_s, if_neg (by omega)])
      · rw [sm_s, if_pos rfl, sm_congr (f := fun i => if i = N then 0 else H i N) (g := fun i => H i N) (fun i hi => if_neg (by omega))]
    rw [e, sm_add, ih, sm_s, sm_congr (f := fun j => H N j) (g := fun i => H i N) (fun j _ => hs N j)]
    omega
/-- the couples of some that are all different, and all couples -/
theorem sm_pairs {N : Nat} {t : Nat → Nat} {P : Nat → Bool} {F : Nat → Nat → Nat} (hs : ∀ i j, F i j = F j i) (ht : ∀ i, i < N → t i < 8 ∧ P (t i) = true) (inj : ∀ i j, i < N → j < N → t i = t j → i = j) : sm N (fun j => sm j (fun i => F (t i) (t j))) ≤ sm 8 (fun q => sm q (fun p => if P p = true ∧ P q = true then F p q else 0)) := by
  have e1 := sm_twice (H := fun i j => F (t i) (t j)) (fun i j => hs _ _) N
  have e2 := sm_twice (H := fun p q => if P p = true ∧ P q = true then F p q else 0) (fun p q => by
    by_cases h : P p = true ∧ P q = true
    · rw [if_pos h, if_pos ⟨h.2, h.1⟩, hs]
    · rw [if_neg h, if_neg (fun hh => h ⟨hh.2, hh.1⟩)]) 8
  have l1 : sm N (fun j => sm N (fun i => if i = j then 0 else F (t i) (t j))) ≤ sm N (fun j => sm 8 (fun p => if P p = true then (if p = t j then 0 else F p (t j)) else 0)) := by
    refine sm_le (fun j hj => ?_)
    have : sm N (fun i => if i = j then 0 else F (t i) (t j)) = sm N (fun i => (fun p => if p = t j then 0 else F p (t j)) (t i)) := sm_congr (fun i hi => by
      dsimp only
      by_cases e : i = j
      · rw [if_pos e, if_pos (by rw [e])]
      · rw [if_neg e, if_neg (fun h => e (inj i j hi hj h))])
    rw [this]
    exact sm_inj (G := fun p => if p = t j then 0 else F p (t j)) ht inj
  have l2 : sm N (fun j => sm 8 (fun p => if P p = true then (if p = t j then 0 else F p (t j)) else 0)) ≤ sm 8 (fun q => if P q = true then sm 8 (fun p => if P p = true then (if p = q then 0 else F p q) else 0) else 0) := sm_inj (G := fun q => sm 8 (fun p => if P p = true then (if p = q then 0 else F p q) else 0)) ht inj
  have l3 : sm 8 (fun q => if P q = true then sm 8 (fun p => if P p = true then (if p = q then 0 else F p q) else 0) else 0) = sm 8 (fun q => sm 8 (fun p => if p = q then 0 else if P p = true ∧ P q = true then F p q else 0)) := sm_congr (fun q _ => by
    by_cases hq : P q = true
    · rw [if_pos hq]
      refine sm_congr (fun p _ => ?_)
      by_cases hp : P p = true
      · rw [if_pos hp, if_pos (show P p = true ∧ P q = true from ⟨hp, hq⟩)]
      · rw [if_neg hp, if_neg (fun h : P p = true ∧ P q = true => hp h.1)]
        split <;> rfl
    · rw [if_neg hq]
      refine (sm_zero (fun p _ => ?_)).symm
      rw [if_neg (fun h : P p = true ∧ P q = true => hq h.2)]
      split <;> rfl)
  omega
