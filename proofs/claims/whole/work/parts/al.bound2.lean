/-! BEST: the first numbers in order outdo what is still to come -/
section BN2
variable {w : Nat → Nat → Bool} {F : Nat → Nat → Nat} {P : Nat → Bool} {N : Nat}
theorem sm_cut (m : Nat) (f : Nat → Nat) : ∀ d, sm m f = sm (m + d) (fun i => if i < m then f i else 0) := by
  intro d
  induction d with
  | zero => exact sm_congr (fun i hi => (if_pos hi).symm)
  | succ d ih => rw [← Nat.add_assoc, sm_s, ← ih, if_neg (by omega)]; rfl
def bS (w : Nat → Nat → Bool) (k s : Nat) : Bool := decide (k ≤ s / 8) && (decide (s % 8 < s / 8) && w (s % 8) (s / 8))
theorem sm_tri (hN : N ≤ 8) (k : Nat) (X : Nat → Nat → Nat) : sm N (fun j => if k ≤ j then sm j (fun i => if w i j = true then X i j else 0) else 0) = sm (N * 8) (fun s => if bS w k s = true then X (s % 8) (s / 8) else 0) := by
  have e := sm_flat 8 (fun j i => if (decide (k ≤ j) && (decide (i < j) && w i j)) = true then X i j else 0) N
  refine Eq.trans ?_ e.symm
  refine sm_congr (fun j hj => ?_)
  by_cases h : k ≤ j
  · rw [if_pos h, sm_cut j _ (8 - j), show j + (8 - j) = 8 from by omega]
    refine sm_congr (fun i _ => ?_)
    rw [decide_eq_true h, Bool.true_and]
    by_cases h2 : i < j
    · rw [if_pos h2, decide_eq_true h2, Bool.true_and]
    · rw [if_neg h2, decide_eq_false h2, Bool.false_and, if_neg Bool.false_ne_true]
  · rw [if_neg h]
    refine (sm_zero (fun i _ => ?_)).symm
    rw [decide_eq_false h, Bool.false_and, if_neg Bool.false_ne_true]
theorem add_le {n V : Nat} {f : Nat → Nat} (hN : N ≤ 8) (hs : ∀ i j, F i j = F j i) (hV : ∀ p q, P p = true → P q = true → F p q ≤ V) (fV : ∀ i, f i ≤ V) (h : Dsc n f) (hz : ∀ i, n < i → f i = 0) (hc : ∀ θ, sm 8 (fun q => sm q (fun p => if P p = true ∧ P q = true then ge1 θ (F p q) else 0)) = sm n (fun i => ge1 θ (f (i + 1)))) {t : Nat → Nat} (ht : ∀ i, i < N → t i < 8 ∧ P (t i) = true) (inj : ∀ i j, i < N → j < N → t i = t j → i = j) (k : Nat) : addF w F N k t ≤ sm (cfs w N k) (fun i => f (i + 1)) := by
  unfold addF cfs
  rw [sm_tri hN k (fun i j => F (t i) (t j)), sm_tri hN k (fun _ _ => 1)]
  have hb : ∀ s, s < N * 8 → bS w k s = true → s / 8 < N ∧ s % 8 < N := fun s hs hb => by
    unfold bS at hb
    simp only [Bool.and_eq_true, decide_eq_true_eq] at hb
    omega
  have e0 : sm (N * 8) (fun s => if bS w k s = true then F (t (s % 8)) (t (s / 8)) else 0) = sm (N * 8) (fun s => if bS w k s = true then (if bS w k s = true then F (t (s % 8)) (t (s / 8)) else 0) else 0) := sm_congr (fun s _ => by
    by_cases h : bS w k s = true
    · rw [if_pos h, if_pos h]
    · rw [if_neg h, if_neg h])
  rw [e0]
  refine sm_dsc (V := V) (y := fun s => if bS w k s = true then F (t (s % 8)) (t (s / 8)) else 0) h hz (fun s hs => ?_) fV (Nat.le_refl _) (fun θ => ?_)
  · split
    · next h1 => exact hV _ _ (ht _ (hb s hs h1).2).2 (ht _ (hb s hs h1).1).2
    · exact Nat.zero_le _
  · rw [← hc θ]
    refine Nat.le_trans ?_ (sm_pairs (F := fun p q => ge1 θ (F p q)) (fun i j => by rw [hs]) ht inj)
    have e1 : sm (N * 8) (fun s => if bS w k s = true then ge1 θ (if bS w k s = true then F (t (s % 8)) (t (s / 8)) else 0) else 0) = sm (N * 8) (fun s => if bS w k s = true then ge1 θ (F (t (s % 8)) (t (s / 8))) else 0) := sm_congr (fun s _ => by
      by_cases h : bS w k s = true
      · rw [if_pos h, if_pos h, if_pos h]
      · rw [if_neg h, if_neg h])
    rw [e1, ← sm_tri hN k (fun i j => ge1 θ (F (t i) (t j)))]
    refine sm_le (fun j _ => ?_)
    split
    · refine sm_le (fun i _ => ?_)
      split
      · exact Nat.le_refl _
      · exact Nat.zero_le _
    · exact Nat.zero_le _
/-- branch and bound finds what all ways would -/
theorem best_eq {n V : Nat} {f : Nat → Nat} (hN : N ≤ 8) (hs : ∀ i j, F i j = F j i) (hV : ∀ p q, P p = true → P q = true → F p q ≤ V) (fV : ∀ i, f i ≤ V) (h : Dsc n f) (hz : ∀ i, n < i → f i = 0) (hc : ∀ θ, sm 8 (fun q => sm q (fun p => if P p = true ∧ P q = true then ge1 θ (F p q) else 0)) = sm n (fun i => ge1 θ (f (i + 1)))) : ∀ (m k : Nat) (t : Nat → Nat) (l : Nat → Bool) (s : Nat) (a : Nat × (Nat → Nat)), k + m = N → JW P k t l → a.1 < s + sm (cfs w N k) (fun i => f (i + 1)) + 1 → srP (gAd w F) (fun k => sm (cfs w N k) (fun i => f (i + 1))) m k t l s a = srch (gAd w F) m k t l s a := by
  refine srP_eq N (fun k t l => JW P k t l) ?_ (fun k t l p _ J hp hl => J.step hp hl) (fun m k t l s hk J => ?_)
  · have : cfs w N N = 0 := sm_zero (fun j hj => if_neg (by omega))
    show sm (cfs w N N) _ = 0
    rw [this]
    rfl
  · refine LeE_of m k t l s hk J (fun t2 h1 h2 h3 => ?_)
    have := add_le (w := w) hN hs hV fV h hz hc h2 h3 k
    omega
end BN2
