/-! NUMBERS PUT IN ORDER, and sums of the first of them -/
def insF (v : Nat) : Nat → (Nat → Nat) → Nat → Nat
  | 0, f => upF f 0 v
  | n + 1, f => if n = 0 ∨ ¬ f n < v then upF f (n + 1) v else insF v n (upF f (n + 1) (f n))
theorem insF_is (v : Nat) : ∀ (n : Nat) (f : Nat → Nat), ∃ p, 1 ≤ p ∧ p ≤ n + 1 ∧ (∀ j, p ≤ j → j < n + 1 → f j < v) ∧ (p = 1 ∨ v ≤ f (p - 1)) ∧ insF v (n + 1) f = fun j => if j = p then v else if p < j ∧ j ≤ n + 1 then f (j - 1) else f j := by
  intro n
  induction n with
  | zero =>
    intro f
    refine ⟨1, by omega, by omega, fun j h1 h2 => by omega, .inl rfl, ?_⟩
    funext j
    show (if (0 : Nat) = 0 ∨ _ then upF f (0 + 1) v else _) j = _
    rw [if_pos (.inl rfl)]
    by_cases h : j = 1
    · rw [if_pos h, h]; exact upF_s _ _ _
    · rw [if_neg h, if_neg (by omega)]; exact upF_n _ _ h
  | succ n ih =>
    intro f
    by_cases h : f (n + 1) < v
    · obtain ⟨p, p1, p2, p3, p4, p5⟩ := ih (upF f (n + 1 + 1) (f (n + 1)))
      refine ⟨p, p1, by omega, fun j h1 h2 => ?_, ?_, ?_⟩
      · by_cases hj : j = n + 1
        · rw [hj]; exact h
        · have := p3 j h1 (by omega)
          rwa [upF_n _ _ (by omega)] at this
      · rcases p4 with p4 | p4
        · exact .inl p4
        · rw [upF_n _ _ (by omega)] at p4; exact .inr p4
      · show (if n + 1 = 0 ∨ ¬ f (n + 1) < v then upF f (n + 1 + 1) v else insF v (n + 1) (upF f (n + 1 + 1) (f (n + 1)))) = _
        rw [if_neg (by omega), p5]
        funext j
        by_cases e : j = p
        · rw [if_pos e, if_pos e]
        · rw [if_neg e, if_neg e]
          by_cases e2 : p < j ∧ j ≤ n + 1
          · rw [if_pos e2, if_pos (by omega), upF_n _ _ (by omega)]
          · rw [if_neg e2]
            by_cases e3 : j = n + 1 + 1
            · rw [if_pos (by omega), e3, upF_s]; rfl
            · rw [if_neg (by omega), upF_n _ _ e3]
    · refine ⟨n + 1 + 1, by omega, by omega, fun j h1 h2 => by omega, .inr (by show v ≤ f (n + 1); omega), ?_⟩
      funext j
      show (if n + 1 = 0 ∨ ¬ f (n + 1) < v then upF f (n + 1 + 1) v else insF v (n + 1) (upF f (n + 1 + 1) (f (n + 1)))) j = _
      rw [if_pos (.inr h)]
      by_cases e : j = n + 1 + 1
      · rw [if_pos e, e]; exact upF_s _ _ _
      · rw [if_neg e, if_neg (by omega)]; exact upF_n _ _ e
theorem sm_le {n : Nat} {f g : Nat → Nat} (h : ∀ i, i < n → f i ≤ g i) : sm n f ≤ sm n g := by
  induction n with
  | zero => exact Nat.le_refl _
  | succ n ih =>
    rw [sm_s, sm_s]
    have := ih (fun i hi => h i (by omega))
    have := h n (by omega)
    omega
/-- one put in between -/
theorem sm_ins (x p : Nat) (h : Nat → Nat) : ∀ n, p ≤ n → sm (n + 1) (fun i => if i = p then x else if p < i then h (i - 1) else h i) = sm n h + x := by
  intro n
  induction n with
  | zero =>
    intro hp
    have : p = 0 := by omega
    subst this
    rw [sm_s, sm_0, sm_0, if_pos rfl]
  | succ n ih =>
    intro hp
    rw [sm_s]
    by_cases e : p = n + 1
    · rw [if_pos e.symm, sm_congr (f := fun i => if i = p then x else if p < i then h (i - 1) else h i) (g := h) (fun i hi => by rw [if_neg (by omega), if_neg (by omega)])]
    · rw [ih (by omega), if_neg (by omega), if_pos (by omega), sm_s, show n + 1 - 1 = n from rfl]
      omega
def ge1 (θ v : Nat) : Nat := if θ < v then 1 else 0
theorem lay_cake {V : Nat} : ∀ v, v ≤ V → sm V (fun θ => ge1 θ v) = v := by
  induction V with
  | zero => intro v hv; rw [sm_0]; omega
  | succ V ih =>
    intro v hv
    rw [sm_s]
    by_cases h : v = V + 1
    · have : sm V (fun θ => ge1 θ v) = sm V (fun _ => 1) := sm_congr (fun i hi => if_pos (by omega))
      rw [this, sm_1, show ge1 V v = 1 from if_pos (by omega), h]
    · rw [ih v (by omega), show ge1 V v = 0 from if_neg (by omega)]
      rfl
/-- put in order: they grow smaller, and as many are above each bound as before and the new one -/
def Dsc (n : Nat) (f : Nat → Nat) : Prop := ∀ i, 1 ≤ i → i < n → f (i + 1) ≤ f i
theorem insF_dsc {v n : Nat} {f : Nat → Nat} (h : Dsc n f) : Dsc (n + 1) (insF v (n + 1) f) := by
  obtain ⟨p, p1, p2, p3, p4, p5⟩ := insF_is v n f
  rw [p5]
  intro i i1 i2
  dsimp only
  by_cases a : i + 1 = p
  · rw [if_pos a, if_neg (by omega), if_neg (by omega)]
    rcases p4 with p4 | p4
    · omega
    · rw [show i = p - 1 from by omega]; exact p4
  · rw [if_neg a]
    by_cases b : i = p
    · rw [if_pos b, if_pos (by omega), b]
      have := p3 p (Nat.le_refl _) (by omega)
      exact Nat.le_of_lt this
    · rw [if_neg b]
      by_cases c : p < i
      · rw [if_pos (by omega), if_pos (by omega)]
        have := h (i - 1) (by omega) (by omega)
        rw [show i - 1 + 1 = i from by omega] at this
        exact this
      · rw [if_neg (by omega), if_neg (by omega)]
        exact h i i1 (by omega)
theorem insF_cnt {v n : Nat} {f : Nat → Nat} (θ : Nat) : sm (n + 1) (fun i => ge1 θ (insF v (n + 1) f (i + 1))) = sm n (fun i => ge1 θ (f (i + 1))) + ge1 θ v := by
  obtain ⟨p, p1, p2, p3, p4, p5⟩ := insF_is v n f
  rw [p5, ← sm_ins (ge1 θ v) (p - 1) (fun i => ge1 θ (f (i + 1))) n (by omega)]
  refine sm_congr (fun i hi => ?_)
  dsimp only
  by_cases a : i + 1 = p
  · rw [if_pos a, if_pos (by omega)]
  · rw [if_neg a]
    by_cases b : p < i + 1
    · rw [if_pos (by omega), if_neg (by omega), if_pos (by omega), show i - 1 + 1 = i + 1 - 1 from by omega]
    · rw [if_neg (by omega), if_neg (by omega), if_neg (by omega)]
/-- the first c of them outdo any c of the numbers that were put in order -/
theorem sm_dsc {n c M V : Nat} {f y : Nat → Nat} {b : Nat → Bool} (h : Dsc n f) (hz : ∀ i, n < i → f i = 0) (hy : ∀ s, s < M → y s ≤ V) (hf : ∀ i, f i ≤ V) (hc : sm M (fun s => if b s = true then 1 else 0) ≤ c) (ht : ∀ θ, sm M (fun s => if b s = true then ge1 θ (y s) else 0) ≤ sm n (fun i => ge1 θ (f (i + 1)))) : sm M (fun s => if b s = true then y s else 0) ≤ sm c (fun i => f (i + 1)) := by
  have e1 : sm M (fun s => if b s = true then y s else 0) = sm V (fun θ => sm M (fun s => if b s = true then ge1 θ (y s) else 0)) := by
    rw [← sm_swap]
    refine sm_congr (fun s hs => ?_)
    split
    · exact (lay_cake _ (hy s hs)).symm
    · exact (sm_zero (fun _ _ => rfl)).symm
  have e2 : sm c (fun i => f (i + 1)) = sm V (fun θ => sm c (fun i => ge1 θ (f (i + 1)))) := by
    rw [← sm_swap]
    exact sm_congr (fun i _ => (lay_cake _ (hf _)).symm)
  rw [e1, e2]
  refine sm_le (fun θ _ => ?_)
  have dd : ∀ k i, 1 ≤ i → i + k ≤ n → f (i + k) ≤ f i := by
    intro k
    induction k with
    | zero => intro i _ _; exact Nat.le_refl _
    | succ k ih => intro i h1 h2; exact Nat.le_trans (h (i + k) (by omega) (by omega)) (ih i h1 (by omega))
  have de : ∀ i j, 1 ≤ i → i ≤ j → f j ≤ f i := fun i j h1 h2 => by
    by_cases hj : j ≤ n
    · have := dd (j - i) i h1 (by omega)
      rwa [show i + (j - i) = j from by omega] at this
    · rw [hz j (by omega)]; exact Nat.zero_le _
  have u1 : sm M (fun s => if b s = true then ge1 θ (y s) else 0) ≤ c := Nat.le_trans (sm_le (fun s _ => by
    split
    · unfold ge1; split <;> omega
    · exact Nat.le_refl _)) hc
  by_cases hc0 : c = 0
  · omega
  by_cases hq : θ < f c
  · have : sm c (fun i => ge1 θ (f (i + 1))) = sm c (fun _ => 1) := sm_congr (fun i hi => if_pos (Nat.lt_of_lt_of_le hq (de (i + 1) c (by omega) (by omega))))
    rw [this, sm_1]
    exact u1
  · refine Nat.le_trans (ht θ) ?_
    have z : ∀ i, c - 1 ≤ i → ge1 θ (f (i + 1)) = 0 := fun i hi => if_neg (by have := de c (i + 1) (by omega) (by omega); omega)
    have gen : ∀ k, sm k (fun i => ge1 θ (f (i + 1))) ≤ sm c (fun i => ge1 θ (f (i + 1))) := by
      intro k
      induction k with
      | zero => exact Nat.zero_le _
      | succ k ih =>
        rw [sm_s]
        by_cases hk : c - 1 ≤ k
        · rw [z k hk]; exact ih
        · have mono : ∀ d m, sm m (fun i => ge1 θ (f (i + 1))) ≤ sm (m + d) (fun i => ge1 θ (f (i + 1))) := by
            intro d
            induction d with
            | zero => intro m; exact Nat.le_refl _
            | succ d ihd => intro m; exact Nat.le_trans (ihd m) (Nat.le_add_right _ _)
          have := mono (c - (k + 1)) (k + 1)
          rw [show k + 1 + (c - (k + 1)) = c from by omega, sm_s] at this
          exact this
    exact gen n
