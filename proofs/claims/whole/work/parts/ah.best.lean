/-! BEST: all ways in order, and those that can't be better passed over -/
/-- a is (the best so far, or 0; one more than it), and its way -/
def srch (g : Nat → (Nat → Nat) → Nat → Nat) : Nat → Nat → (Nat → Nat) → (Nat → Bool) → Nat → Nat × (Nat → Nat) → Nat × (Nat → Nat)
  | 0, _, t, _, s, a => if a.1 < s + 1 then (s + 1, t) else a
  | m + 1, k, t, l, s, a => zfor (fun p a => if l p = true then srch g m (k + 1) (upF t k p) (fun q => l q && !(q == p)) (s + g k t p) a else a) 8 a
def srP (g : Nat → (Nat → Nat) → Nat → Nat) (u : Nat → Nat) : Nat → Nat → (Nat → Nat) → (Nat → Bool) → Nat → Nat × (Nat → Nat) → Nat × (Nat → Nat)
  | 0, _, t, _, s, _ => (s + 1, t)
  | m + 1, k, t, l, s, a => zfor (fun p a => if l p = true then (if a.1 < s + g k t p + u (k + 1) + 1 then srP g u m (k + 1) (upF t k p) (fun q => l q && !(q == p)) (s + g k t p) a else a) else a) 8 a
/-- all ends are at most b -/
def LeE (g : Nat → (Nat → Nat) → Nat → Nat) (b : Nat) : Nat → Nat → (Nat → Nat) → (Nat → Bool) → Nat → Prop
  | 0, _, _, _, s => s ≤ b
  | m + 1, k, t, l, s => ∀ p, p < 8 → l p = true → LeE g b m (k + 1) (upF t k p) (fun q => l q && !(q == p)) (s + g k t p)
/-- the way w is one of them, and it ends with v -/
def HasW (g : Nat → (Nat → Nat) → Nat → Nat) (w : Nat → Nat) (v : Nat) : Nat → Nat → (Nat → Nat) → (Nat → Bool) → Nat → Prop
  | 0, _, _, _, s => s = v
  | m + 1, k, t, l, s => w k < 8 ∧ l (w k) = true ∧ HasW g w v m (k + 1) (upF t k (w k)) (fun q => l q && !(q == w k)) (s + g k t (w k))
section BST
variable {g : Nat → (Nat → Nat) → Nat → Nat} {u : Nat → Nat}
theorem zfor_s {α : Type} (f : Nat → α → α) (n : Nat) (a : α) : zfor f (n + 1) a = f n (zfor f n a) := rfl
theorem srch_no {b : Nat} : ∀ (m k : Nat) (t : Nat → Nat) (l : Nat → Bool) (s : Nat) (a : Nat × (Nat → Nat)), LeE g b m k t l s → b + 1 ≤ a.1 → srch g m k t l s a = a := by
  intro m
  induction m with
  | zero =>
    intro k t l s a h hb
    have h : s ≤ b := h
    exact if_neg (by omega)
  | succ m ih =>
    intro k t l s a h hb
    have : ∀ n, n ≤ 8 → zfor (fun p a => if l p = true then srch g m (k + 1) (upF t k p) (fun q => l q && !(q == p)) (s + g k t p) a else a) n a = a := by
      intro n
      induction n with
      | zero => intro _; rfl
      | succ n ih2 =>
        intro hn
        rw [zfor_s, ih2 (by omega)]
        split
        · next hl => exact ih _ _ _ _ _ (h n (by omega) hl) hb
        · rfl
    exact this 8 (Nat.le_refl _)
theorem srch_up : ∀ (m k : Nat) (t : Nat → Nat) (l : Nat → Bool) (s : Nat) (a : Nat × (Nat → Nat)), a.1 ≤ (srch g m k t l s a).1 := by
  intro m
  induction m with
  | zero =>
    intro k t l s a
    show a.1 ≤ (if a.1 < s + 1 then (s + 1, t) else a).1
    split
    · next h => exact Nat.le_of_lt h
    · exact Nat.le_refl _
  | succ m ih =>
    intro k t l s a
    have : ∀ n, a.1 ≤ (zfor (fun p a => if l p = true then srch g m (k + 1) (upF t k p) (fun q => l q && !(q == p)) (s + g k t p) a else a) n a).1 := by
      intro n
      induction n with
      | zero => exact Nat.le_refl _
      | succ n ih2 =>
        rw [zfor_s]
        split
        · exact Nat.le_trans ih2 (ih _ _ _ _ _)
        · exact ih2
    exact this 8
theorem zfor_up1 {f : Nat → Nat × (Nat → Nat) → Nat × (Nat → Nat)} (h : ∀ p a, a.1 ≤ (f p a).1) {p b : Nat} (hp : ∀ a, b ≤ (f p a).1) : ∀ (n : Nat) (a : Nat × (Nat → Nat)), p < n → b ≤ (zfor f n a).1 := by
  intro n
  induction n with
  | zero => intro a hn; exact absurd hn (Nat.not_lt_zero p)
  | succ n ih =>
    intro a hn
    rw [zfor_s]
    by_cases e : p = n
    · subst e; exact hp _
    · exact Nat.le_trans (ih a (by omega)) (h _ _)
theorem srch_has {w : Nat → Nat} {v : Nat} : ∀ (m k : Nat) (t : Nat → Nat) (l : Nat → Bool) (s : Nat) (a : Nat × (Nat → Nat)), HasW g w v m k t l s → v + 1 ≤ (srch g m k t l s a).1 := by
  intro m
  induction m with
  | zero =>
    intro k t l s a h
    have h : s = v := h
    show v + 1 ≤ (if a.1 < s + 1 then (s + 1, t) else a).1
    split
    · show v + 1 ≤ s + 1; omega
    · omega
  | succ m ih =>
    intro k t l s a h
    obtain ⟨h1, h2, h3⟩ := h
    refine zfor_up1 (fun p a => ?_) (p := w k) (fun a => ?_) 8 a h1
    · split
      · exact srch_up _ _ _ _ _ _
      · exact Nat.le_refl _
    · rw [if_pos h2]
      exact ih _ _ _ _ _ h3
/-- begun at b, or at less: the same, once b is outdone -/
def SmB (b : Nat) (x y : Nat × (Nat → Nat)) : Prop := x = y ∨ (x.1 = b ∧ y.1 ≤ b)
theorem srch_sm {b : Nat} : ∀ (m k : Nat) (t : Nat → Nat) (l : Nat → Bool) (s : Nat) (x y : Nat × (Nat → Nat)), SmB b x y → SmB b (srch g m k t l s x) (srch g m k t l s y) := by
  intro m
  induction m with
  | zero =>
    intro k t l s x y h
    show SmB b (if x.1 < s + 1 then (s + 1, t) else x) (if y.1 < s + 1 then (s + 1, t) else y)
    rcases h with rfl | ⟨h1, h2⟩
    · exact .inl rfl
    · by_cases hx : x.1 < s + 1
      · rw [if_pos hx, if_pos (by omega)]; exact .inl rfl
      · rw [if_neg hx]
        refine .inr ⟨h1, ?_⟩
        split
        · show s + 1 ≤ b; omega
        · exact h2
  | succ m ih =>
    intro k t l s x y h
    have : ∀ n, SmB b (zfor (fun p a => if l p = true then srch g m (k + 1) (upF t k p) (fun q => l q && !(q == p)) (s + g k t p) a else a) n x) (zfor (fun p a => if l p = true then srch g m (k + 1) (upF t k p) (fun q => l q && !(q == p)) (s + g k t p) a else a) n y) := by
      intro n
      induction n with
      | zero => exact h
      | succ n ih2 =>
        rw [zfor_s, zfor_s]
        split
        · exact ih _ _ _ _ _ _ ih2
        · exact ih2
    exact this 8
theorem srch_from {w : Nat → Nat} {v b m k s : Nat} {t : Nat → Nat} {l : Nat → Bool} {x y : Nat × (Nat → Nat)} (h : HasW g w v m k t l s) (hb : b ≤ v) (hx : x.1 = b) (hy : y.1 ≤ b) : srch g m k t l s x = srch g m k t l s y := by
  rcases srch_sm (g := g) m k t l s x y (.inr ⟨hx, hy⟩ : SmB b x y) with e | ⟨e, -⟩
  · exact e
  · have := srch_has (g := g) m k t l s x h
    omega
/-- what can't be better is passed over rightly -/
theorem srP_eq (N : Nat) (J : Nat → (Nat → Nat) → (Nat → Bool) → Prop) (uN : u N = 0) (step : ∀ k t l p, k < N → J k t l → p < 8 → l p = true → J (k + 1) (upF t k p) (fun q => l q && !(q == p))) (bd : ∀ m k t l s, k + m = N → J k t l → LeE g (s + u k) m k t l s) : ∀ (m k : Nat) (t : Nat → Nat) (l : Nat → Bool) (s : Nat) (a : Nat × (Nat → Nat)), k + m = N → J k t l → a.1 < s + u k + 1 → srP g u m k t l s a = srch g m k t l s a := by
  intro m
  induction m with
  | zero =>
    intro k t l s a hk hj ha
    have e : k = N := by omega
    rw [e, uN] at ha
    show (s + 1, t) = if a.1 < s + 1 then (s + 1, t) else a
    rw [if_pos (by omega)]
  | succ m ih =>
    intro k t l s a hk hj ha
    have : ∀ n, n ≤ 8 → zfor (fun p a => if l p = true then (if a.1 < s + g k t p + u (k + 1) + 1 then srP g u m (k + 1) (upF t k p) (fun q => l q && !(q == p)) (s + g k t p) a else a) else a) n a = zfor (fun p a => if l p = true then srch g m (k + 1) (upF t k p) (fun q => l q && !(q == p)) (s + g k t p) a else a) n a := by
      intro n
      induction n with
      | zero => intro _; rfl
      | succ n ih2 =>
        intro hn
        rw [zfor_s, zfor_s, ih2 (by omega)]
        generalize zfor (fun p a => if l p = true then srch g m (k + 1) (upF t k p) (fun q => l q && !(q == p)) (s + g k t p) a else a) n a = c
        cases hl : l n with
        | false => rfl
        | true =>
          rw [if_pos rfl, if_pos rfl]
          have hj2 := step k t l n (by omega) hj (by omega) hl
          by_cases hc : c.1 < s + g k t n + u (k + 1) + 1
          · rw [if_pos hc]
            exact ih _ _ _ _ _ (by omega) hj2 hc
          · rw [if_neg hc]
            exact (srch_no m _ _ _ _ c (bd m (k + 1) _ _ _ (by omega) hj2) (by omega)).symm
    exact this 8 (Nat.le_refl _)
end BST
