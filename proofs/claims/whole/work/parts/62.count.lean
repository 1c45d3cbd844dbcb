/-! COUNTING: how many below, and which is the k-th -/
def ct (P : Nat → Bool) (n : Nat) : Nat := sm n (fun i => if P i = true then 1 else 0)
def nth (P : Nat → Bool) (n k : Nat) : Option Nat := (List.range n).find? (fun i => P i && (ct P i == k))
section CNT
variable {P : Nat → Bool}
theorem ct_0 : ct P 0 = 0 := rfl
theorem ct_t {i : Nat} (h : P i = true) : ct P (i + 1) = ct P i + 1 := by
  unfold ct
  rw [sm_s, if_pos h]
theorem ct_f {i : Nat} (h : P i = false) : ct P (i + 1) = ct P i := by
  unfold ct
  rw [sm_s, if_neg (by rw [h]; decide)]
  rfl
theorem ct_mono {i j : Nat} (h : i ≤ j) : ct P i ≤ ct P j := by
  obtain ⟨k, rfl⟩ := Nat.le.dest h
  clear h
  induction k with
  | zero => exact Nat.le_refl _
  | succ k ih =>
    rw [← Nat.add_assoc]
    cases hp : P (i + k) with
    | true => rw [ct_t hp]; omega
    | false => rw [ct_f hp]; exact ih
theorem ct_lt {i j : Nat} (h : i < j) (hp : P i = true) : ct P i < ct P j := by
  have h1 := ct_t hp
  have h2 := ct_mono (P := P) (show i + 1 ≤ j from h)
  omega
theorem ct_inj {i j : Nat} (hi : P i = true) (hj : P j = true) (h : ct P i = ct P j) : i = j := by
  rcases Nat.lt_trichotomy i j with h1 | h1 | h1
  · have := ct_lt h1 hi; omega
  · exact h1
  · have := ct_lt h1 hj; omega
theorem ct_le (n : Nat) : ct P n ≤ n := by
  induction n with
  | zero => exact Nat.le_refl _
  | succ n ih =>
    cases hp : P n with
    | true => rw [ct_t hp]; omega
    | false => rw [ct_f hp]; omega
theorem nth_of {n i : Nat} (hi : i < n) (hp : P i = true) : nth P n (ct P i) = some i := by
  unfold nth
  cases hf : (List.range n).find? (fun j => P j && (ct P j == ct P i)) with
  | none =>
    have := List.find?_eq_none.mp hf i (List.mem_range.mpr hi)
    simp [hp] at this
  | some j =>
    have h1 := List.find?_some hf
    rw [Bool.and_eq_true, beq_iff_eq] at h1
    rw [ct_inj h1.1 hp h1.2]
theorem nth_is {n k i : Nat} (h : nth P n k = some i) : i < n ∧ P i = true ∧ ct P i = k := by
  unfold nth at h
  have h1 := List.find?_some h
  have h2 := List.mem_of_find?_eq_some h
  rw [Bool.and_eq_true, beq_iff_eq] at h1
  exact ⟨List.mem_range.mp h2, h1.1, h1.2⟩
theorem nth_ex : ∀ {n k : Nat}, k < ct P n → ∃ i, nth P n k = some i := by
  intro n
  induction n with
  | zero => intro k h; rw [ct_0] at h; omega
  | succ n ih =>
    intro k h
    cases hp : P n with
    | true =>
      rw [ct_t hp] at h
      by_cases hk : k = ct P n
      · subst hk
        exact ⟨n, nth_of (by omega) hp⟩
      · obtain ⟨i, hi⟩ := ih (show k < ct P n by omega)
        obtain ⟨h1, h2, h3⟩ := nth_is hi
        exact ⟨i, by rw [← h3]; exact nth_of (by omega) h2⟩
    | false =>
      rw [ct_f hp] at h
      obtain ⟨i, hi⟩ := ih h
      obtain ⟨h1, h2, h3⟩ := nth_is hi
      exact ⟨i, by rw [← h3]; exact nth_of (by omega) h2⟩
end CNT
section CNT2
variable {d : Nat} {σ : MS} {a : Nat} {A : Ofc} {K : Option Value → MS → Prop}
def Ofc.lie (A : Ofc) (p : Nat) : Bool := (A.pl p).isSome
def Ofc.occ (A : Ofc) (c : Nat) : Bool := (A.who c).isSome
/-- how many lie -/
def Ofc.N (A : Ofc) : Nat := ct A.lie A.np
theorem N_occ (O : OfcOk A) : ct A.occ (A.wide * A.high) = A.N := by
  have h := pl_sum O (fun _ _ => 1)
  have e1 : A.N = sm A.np (fun o => om (A.pl o) fun _ => 1) := by
    refine sm_congr (fun o _ => ?_)
    unfold Ofc.lie
    cases A.pl o <;> rfl
  have e2 : ct A.occ (A.wide * A.high) = sm (A.wide * A.high) (fun e => om (A.who e) fun _ => 1) := by
    refine sm_congr (fun o _ => ?_)
    unfold Ofc.occ
    cases A.who o <;> rfl
  rw [e1, e2, h]
theorem N8 (O : OfcOk A) : A.N ≤ 8 := by
  have h8 := O.p8
  have := ct_le (P := A.lie) A.np
  unfold Ofc.N
  omega
theorem lying_bit (p : Nat) : A.lying.testBit p = (decide (p < A.np) && A.lie p) := by
  unfold Ofc.lying
  rw [bset_bit (fun p => (A.pl p).isSome)]
  simp [Ofc.lie]
theorem lie_np (O : OfcOk A) {p : Nat} (h : A.lie p = true) : p < A.np := by
  unfold Ofc.lie at h
  cases hl : A.pl p with
  | none => rw [hl] at h; cases h
  | some c => exact pl_np O hl
theorem lying_lie (O : OfcOk A) (p : Nat) : A.lying.testBit p = A.lie p := by
  rw [lying_bit]
  cases h : A.lie p with
  | false => simp
  | true => simp [lie_np O h]
theorem pop_ct (x : Nat) : pop x = ct (fun i => x.testBit i) 8 := by
  have : ∀ n, ((List.range n).filter (fun i => x.testBit i)).length = ct (fun i => x.testBit i) n := by
    intro n
    induction n with
    | zero => rfl
    | succ n ih =>
      rw [List.range_succ, List.filter_append, List.length_append, ih]
      cases h : x.testBit n with
      | true => rw [ct_t (P := fun i => x.testBit i) h]; simp [h]
      | false => rw [ct_f (P := fun i => x.testBit i) h]; simp [h]
  exact this 8
theorem ct_congr {P Q : Nat → Bool} {n : Nat} (h : ∀ i, i < n → P i = Q i) : ct P n = ct Q n := sm_congr (fun i hi => by rw [h i hi])
theorem ct_ext {P : Nat → Bool} {n m : Nat} (h : n ≤ m) (hf : ∀ i, n ≤ i → i < m → P i = false) : ct P m = ct P n := by
  obtain ⟨k, rfl⟩ := Nat.le.dest h
  clear h
  induction k with
  | zero => rfl
  | succ k ih =>
    rw [← Nat.add_assoc, ct_f (hf (n + k) (by omega) (by omega))]
    exact ih (fun i h1 h2 => hf i h1 (by omega))
theorem pop_lying (O : OfcOk A) : pop A.lying = A.N := by
  have h8 := O.p8
  rw [pop_ct, ct_congr (Q := A.lie) (fun i _ => lying_lie O i)]
  exact ct_ext h8 (fun i h1 _ => by
    cases h : A.lie i with
    | false => rfl
    | true => have := lie_np O h; omega)
theorem rk_ct (O : OfcOk A) {p : Nat} (hp : p < A.np) : A.rk p = ct A.lie p := by
  have h8 := O.p8
  unfold Ofc.rk
  rw [pop_ct]
  have e : ∀ i, (A.lying &&& (2 ^ p - 1)).testBit i = (A.lie i && decide (i < p)) := fun i => by
    rw [Nat.testBit_and, lying_lie O, Nat.testBit_two_pow_sub_one]
  rw [ct_congr (Q := fun i => A.lie i && decide (i < p)) (fun i _ => e i)]
  rw [ct_ext (show p ≤ 8 by omega) (fun i h1 _ => by simp [show ¬ i < p by omega])]
  exact ct_congr (fun i hi => by simp [hi])
theorem rankG_nth : ∀ (m i k : Nat), A.rankG m i k = nth A.occ (m + i) (ct A.occ i + k) := by
  intro m
  induction m with
  | zero =>
    intro i k
    cases h : nth A.occ (0 + i) (ct A.occ i + k) with
    | none => rfl
    | some j =>
      obtain ⟨h1, h2, h3⟩ := nth_is h
      have := ct_lt (P := A.occ) (show j < i by omega) h2
      omega
  | succ m ih =>
    intro i k
    unfold Ofc.rankG
    cases ho : A.occ i with
    | true =>
      rw [if_pos (show (A.who i).isSome = true from ho)]
      by_cases hk : k = 0
      · subst hk
        rw [if_pos rfl]
        exact (nth_of (by omega) ho).symm
      · rw [if_neg hk, ih, ct_t ho, show m + 1 + i = m + (i + 1) by omega]
        congr 1
        omega
    | false =>
      have ho' : ¬ (A.who i).isSome = true := by
        show ¬ A.occ i = true
        rw [ho]
        decide
      rw [if_neg ho', ih, ct_f ho, show m + 1 + i = m + (i + 1) by omega]
theorem rank_nth (k : Nat) : A.rank k = nth A.occ (A.wide * A.high) k := by
  unfold Ofc.rank
  rw [rankG_nth, ct_0, Nat.zero_add, Nat.add_zero]
/-- the Office's numbers and rows alone -/
def ROffN (σ : MS) (a : Nat) (A : Ofc) : Prop := (sK σ a = (0, 5)) ∧ (sI σ a 0 = nI A.wide) ∧ (sI σ a 1 = nI A.high) ∧ (sI σ a 2 = nI (A.wide * A.high)) ∧ (sI σ a 3 = nI A.near) ∧ (sI σ a 4 = nI A.odds) ∧ (sI σ a 5 = nI A.nt) ∧ (sI σ a 6 = nI A.np) ∧ (sI σ a 7 = nI A.nc) ∧ (sR σ a 8 = a + 1) ∧ (sR σ a 9 = a + 2) ∧ (sR σ a 10 = a + 3) ∧ (sR σ a 11 = a + 4) ∧ (sR σ a 12 = a + 5) ∧ (sR σ a 13 = a + 6) ∧ (sR σ a 14 = a + 7) ∧ (sR σ a 15 = a + 8) ∧ (sR σ a 16 = a + 9) ∧ (sR σ a 17 = a + 10) ∧ (sR σ a 18 = a + 11) ∧ (sK σ (a + 1) = (1, 8)) ∧ (sK σ (a + 2) = (2, 8)) ∧ (sK σ (a + 3) = (1, 8)) ∧ (sK σ (a + 4) = (1, 8)) ∧ (sK σ (a + 5) = (2, 8)) ∧ (sK σ (a + 6) = (1, 4)) ∧ (sK σ (a + 7) = (2, 4)) ∧ (sK σ (a + 8) = (1, 20)) ∧ (sK σ (a + 9) = (1, 80)) ∧ (sK σ (a + 10) = (1, 64)) ∧ (sK σ (a + 11) = (1, 20))
theorem ROffN.k {σ : MS} {a : Nat} {A : Ofc} (H : ROffN σ a A) : sK σ a = (0, 5) := H.1
theorem ROffN.i0 {σ : MS} {a : Nat} {A : Ofc} (H : ROffN σ a A) : sI σ a 0 = nI A.wide := H.2.1
theorem ROffN.i1 {σ : MS} {a : Nat} {A : Ofc} (H : ROffN σ a A) : sI σ a 1 = nI A.high := H.2.2.1
theorem ROffN.i2 {σ : MS} {a : Nat} {A : Ofc} (H : ROffN σ a A) : sI σ a 2 = nI (A.wide * A.high) := H.2.2.2.1
theorem ROffN.i3 {σ : MS} {a : Nat} {A : Ofc} (H : ROffN σ a A) : sI σ a 3 = nI A.near := H.2.2.2.2.1
theorem ROffN.i4 {σ : MS} {a : Nat} {A : Ofc} (H : ROffN σ a A) : sI σ a 4 = nI A.odds := H.2.2.2.2.2.1
theorem ROffN.i5 {σ : MS} {a : Nat} {A : Ofc} (H : ROffN σ a A) : sI σ a 5 = nI A.nt := H.2.2.2.2.2.2.1
theorem ROffN.i6 {σ : MS} {a : Nat} {A : Ofc} (H : ROffN σ a A) : sI σ a 6 = nI A.np := H.2.2.2.2.2.2.2.1
theorem ROffN.i7 {σ : MS} {a : Nat} {A : Ofc} (H : ROffN σ a A) : sI σ a 7 = nI A.nc := H.2.2.2.2.2.2.2.2.1
theorem ROffN.r8 {σ : MS} {a : Nat} {A : Ofc} (H : ROffN σ a A) : sR σ a 8 = a + 1 := H.2.2.2.2.2.2.2.2.2.1
theorem ROffN.r9 {σ : MS} {a : Nat} {A : Ofc} (H : ROffN σ a A) : sR σ a 9 = a + 2 := H.2.2.2.2.2.2.2.2.2.2.1
theorem ROffN.r10 {σ : MS} {a : Nat} {A : Ofc} (H : ROffN σ a A) : sR σ a 10 = a + 3 := H.2.2.2.2.2.2.2.2.2.2.2.1
theorem ROffN.r11 {σ : MS} {a : Nat} {A : Ofc} (H : ROffN σ a A) : sR σ a 11 = a + 4 := H.2.2.2.2.2.2.2.2.2.2.2.2.1
theorem ROffN.r12 {σ : MS} {a : Nat} {A : Ofc} (H : ROffN σ a A) : sR σ a 12 = a + 5 := H.2.2.2.2.2.2.2.2.2.2.2.2.2.1
theorem ROffN.r13 {σ : MS} {a : Nat} {A : Ofc} (H : ROffN σ a A) : sR σ a 13 = a + 6 := H.2.2.2.2.2.2.2.2.2.2.2.2.2.2.1
theorem ROffN.r14 {σ : MS} {a : Nat} {A : Ofc} (H : ROffN σ a A) : sR σ a 14 = a + 7 := H.2.2.2.2.2.2.2.2.2.2.2.2.2.2.2.1
theorem ROffN.r15 {σ : MS} {a : Nat} {A : Ofc} (H : ROffN σ a A) : sR σ a 15 = a + 8 := H.2.2.2.2.2.2.2.2.2.2.2.2.2.2.2.2.1
theorem ROffN.r16 {σ : MS} {a : Nat} {A : Ofc} (H : ROffN σ a A) : sR σ a 16 = a + 9 := H.2.2.2.2.2.2.2.2.2.2.2.2.2.2.2.2.2.1
theorem ROffN.r17 {σ : MS} {a : Nat} {A : Ofc} (H : ROffN σ a A) : sR σ a 17 = a + 10 := H.2.2.2.2.2.2.2.2.2.2.2.2.2.2.2.2.2.2.1
theorem ROffN.r18 {σ : MS} {a : Nat} {A : Ofc} (H : ROffN σ a A) : sR σ a 18 = a + 11 := H.2.2.2.2.2.2.2.2.2.2.2.2.2.2.2.2.2.2.2.1
theorem ROffN.k1 {σ : MS} {a : Nat} {A : Ofc} (H : ROffN σ a A) : sK σ (a + 1) = (1, 8) := H.2.2.2.2.2.2.2.2.2.2.2.2.2.2.2.2.2.2.2.2.1
theorem ROffN.k2 {σ : MS} {a : Nat} {A : Ofc} (H : ROffN σ a A) : sK σ (a + 2) = (2, 8) := H.2.2.2.2.2.2.2.2.2.2.2.2.2.2.2.2.2.2.2.2.2.1
theorem ROffN.k3 {σ : MS} {a : Nat} {A : Ofc} (H : ROffN σ a A) : sK σ (a + 3) = (1, 8) := H.2.2.2.2.2.2.2.2.2.2.2.2.2.2.2.2.2.2.2.2.2.2.1
theorem ROffN.k4 {σ : MS} {a : Nat} {A : Ofc} (H : ROffN σ a A) : sK σ (a + 4) = (1, 8) := H.2.2.2.2.2.2.2.2.2.2.2.2.2.2.2.2.2.2.2.2.2.2.2.1
theorem ROffN.k5 {σ : MS} {a : Nat} {A : Ofc} (H : ROffN σ a A) : sK σ (a + 5) = (2, 8) := H.2.2.2.2.2.2.2.2.2.2.2.2.2.2.2.2.2.2.2.2.2.2.2.2.1
theorem ROffN.k6 {σ : MS} {a : Nat} {A : Ofc} (H : ROffN σ a A) : sK σ (a + 6) = (1, 4) := H.2.2.2.2.2.2.2.2.2.2.2.2.2.2.2.2.2.2.2.2.2.2.2.2.2.1
theorem ROffN.k7 {σ : MS} {a : Nat} {A : Ofc} (H : ROffN σ a A) : sK σ (a + 7) = (2, 4) := H.2.2.2.2.2.2.2.2.2.2.2.2.2.2.2.2.2.2.2.2.2.2.2.2.2.2.1
theorem ROffN.k8 {σ : MS} {a : Nat} {A : Ofc} (H : ROffN σ a A) : sK σ (a + 8) = (1, 20) := H.2.2.2.2.2.2.2.2.2.2.2.2.2.2.2.2.2.2.2.2.2.2.2.2.2.2.2.1
theorem ROffN.k9 {σ : MS} {a : Nat} {A : Ofc} (H : ROffN σ a A) : sK σ (a + 9) = (1, 80) := H.2.2.2.2.2.2.2.2.2.2.2.2.2.2.2.2.2.2.2.2.2.2.2.2.2.2.2.2.1
theorem ROffN.k10 {σ : MS} {a : Nat} {A : Ofc} (H : ROffN σ a A) : sK σ (a + 10) = (1, 64) := H.2.2.2.2.2.2.2.2.2.2.2.2.2.2.2.2.2.2.2.2.2.2.2.2.2.2.2.2.2.1
theorem ROffN.k11 {σ : MS} {a : Nat} {A : Ofc} (H : ROffN σ a A) : sK σ (a + 11) = (1, 20) := H.2.2.2.2.2.2.2.2.2.2.2.2.2.2.2.2.2.2.2.2.2.2.2.2.2.2.2.2.2.2
theorem ROffN.mk {σ : MS} {a : Nat} {A : Ofc} (k : sK σ a = (0, 5)) (i0 : sI σ a 0 = nI A.wide) (i1 : sI σ a 1 = nI A.high) (i2 : sI σ a 2 = nI (A.wide * A.high)) (i3 : sI σ a 3 = nI A.near) (i4 : sI σ a 4 = nI A.odds) (i5 : sI σ a 5 = nI A.nt) (i6 : sI σ a 6 = nI A.np) (i7 : sI σ a 7 = nI A.nc) (r8 : sR σ a 8 = a + 1) (r9 : sR σ a 9 = a + 2) (r10 : sR σ a 10 = a + 3) (r11 : sR σ a 11 = a + 4) (r12 : sR σ a 12 = a + 5) (r13 : sR σ a 13 = a + 6) (r14 : sR σ a 14 = a + 7) (r15 : sR σ a 15 = a + 8) (r16 : sR σ a 16 = a + 9) (r17 : sR σ a 17 = a + 10) (r18 : sR σ a 18 = a + 11) (k1 : sK σ (a + 1) = (1, 8)) (k2 : sK σ (a + 2) = (2, 8)) (k3 : sK σ (a + 3) = (1, 8)) (k4 : sK σ (a + 4) = (1, 8)) (k5 : sK σ (a + 5) = (2, 8)) (k6 : sK σ (a + 6) = (1, 4)) (k7 : sK σ (a + 7) = (2, 4)) (k8 : sK σ (a + 8) = (1, 20)) (k9 : sK σ (a + 9) = (1, 80)) (k10 : sK σ (a + 10) = (1, 64)) (k11 : sK σ (a + 11) = (1, 20)) : ROffN σ a A := ⟨k, i0, i1, i2, i3, i4, i5, i6, i7, r8, r9, r10, r11, r12, r13, r14, r15, r16, r17, r18, k1, k2, k3, k4, k5, k6, k7, k8, k9, k10, k11⟩
theorem ROff.n (H : ROff σ a A) : ROffN σ a A := ROffN.mk H.k H.i0 H.i1 H.i2 H.i3 H.i4 H.i5 H.i6 H.i7 H.r8 H.r9 H.r10 H.r11 H.r12 H.r13 H.r14 H.r15 H.r16 H.r17 H.r18 H.k1 H.k2 H.k3 H.k4 H.k5 H.k6 H.k7 H.k8 H.k9 H.k10 H.k11
theorem ROffN.keep {τ : MS} (H : ROffN σ a A) (hK : ∀ b, sK τ b = sK σ b) (hI : ∀ j, sI τ a j = sI σ a j) (hR : ∀ j, sR τ a j = sR σ a j) : ROffN τ a A := by
  obtain ⟨h1, h2, h3, h4, h5, h6, h7, h8, h9, h10, h11, h12, h13, h14, h15, h16, h17, h18, h19, h20, h21, h22, h23, h24, h25, h26, h27, h28, h29, h30, h31⟩ := H
  unfold ROffN
  simp only [hK, hI, hR]
  exact ⟨h1, h2, h3, h4, h5, h6, h7, h8, h9, h10, h11, h12, h13, h14, h15, h16, h17, h18, h19, h20, h21, h22, h23, h24, h25, h26, h27, h28, h29, h30, h31⟩
theorem n_isPaper (H : ROffN σ a A) (h8 : A.np ≤ 8) (p : Int32) :
   zC (d + 1) 43 [.ref a, .int p] σ K = K (some (.int (bI (isI p A.np)))) σ := by
  rw [E_43]
  simp only [L_43_0, zt_43_0, L_43_22, zt_43_22, L_43_23, zt_43_23, ↓e_iconst0, ↓e_iconst1, ↓e_bipush0, ↓e_bipush1, ↓e_sipush0, ↓e_sipush1, ↓e_ldc0, ↓e_ldc1, ↓e_ldc_w0, ↓e_ldc_w1, ↓e_ldc2, ↓e_lconst0, ↓e_lconst1, ↓e_ldc2_w0, ↓e_ldc2_w1, ↓e_iload, ↓e_iload_n, ↓e_istore, ↓e_istore_n, ↓e_lload, ↓e_lload_n, ↓e_lstore, ↓e_lstore_n, ↓e_aload, ↓e_aload_n, ↓e_astore, ↓e_astore_n, ↓e_iinc0, ↓e_iinc1, ↓e_iadd, ↓e_isub, ↓e_imul, ↓e_iand, ↓e_ior, ↓e_ixor, ↓e_ishl, ↓e_ishr, ↓e_iushr, ↓e_ladd, ↓e_lsub, ↓e_lmul, ↓e_land, ↓e_lor, ↓e_idiv, ↓e_irem, ↓e_ldiv, ↓e_lrem, ↓e_lshl, ↓e_lcmp, ↓e_i2l, ↓e_l2i, ↓e_i2b, ↓e_i2s, ↓e_dup_int, ↓e_pop_int, ↓e_dup_ref, ↓e_pop_ref, ↓e_dup2, ↓e_goto, ↓e_nop, ↓e_ifCond_eq, ↓e_if_icmp_eq, ↓e_ifCond_ne, ↓e_if_icmp_ne, ↓e_ifCond_lt, ↓e_if_icmp_lt, ↓e_ifCond_ge, ↓e_if_icmp_ge, ↓e_ifCond_gt, ↓e_if_icmp_gt, ↓e_ifCond_le, ↓e_if_icmp_le, ↓e_tab, ↓e_look, ↓e_get0, ↓e_get1, ↓e_get2, ↓e_get3, ↓e_put0, ↓e_put1, ↓e_put2, ↓e_put3, ↓e_iaload, ↓e_laload, ↓e_baload, ↓e_aaload, ↓e_iastore, ↓e_lastore, ↓e_bastore, ↓e_aastore, ↓e_alen, ↓e_new, ↓e_newarray, ↓e_anewarray, ↓e_objinit, ↓e_virt1, ↓e_virt2, ↓e_virt3, ↓e_virt4, ↓e_virt5, ↓e_virt6, ↓e_virt7, ↓e_stat0, ↓e_stat1, ↓e_stat2, ↓e_stat3, ↓e_stat4, ↓e_stat5, ↓e_stat6, ↓e_stat7, ↓e_spec1, ↓e_spec2, ↓e_spec3, ↓e_spec4, ↓e_spec5, ↓e_strlen, ↓e_charAt, ↓e_copy, ↓e_iret0, ↓e_iret1, ↓e_lret, ↓e_aret, ↓e_vret, zIsI_int, zIsL_long, zIsA_ref, zInt_int, true_and, and_true, ↓reduceIte, zGet, zSet, zSet2, zEnt, zWid, Value.category, List.map_cons, List.map_nil, List.sum_cons, List.sum_nil, List.replicate, Option.toList, Nat.reduceAdd, Nat.reduceSub, Nat.reduceMul, Nat.reduceLeDiff, Nat.reduceEqDiff, Nat.reduceLT, List.cons_append, List.nil_append, true_or, or_true, or_false, false_or, H.k, H.i0, H.i1, H.i2, H.i3, H.i4, H.i5, H.i6, H.i7, H.r8, H.r9, H.r10, H.r11, H.r12, H.r13, H.r14, H.r15, H.r16, H.r17, H.r18, H.k1, H.k2, H.k3, H.k4, H.k5, H.k6, H.k7, H.k8, H.k9, H.k10, H.k11]
  by_cases h0 : p < nI 0
  · simp [h0, isI, bI]; rfl
  · by_cases h1 : p < nI A.np
    · simp [h0, h1, isI, bI, isI_min (by decide : 8 < 2 ^ 31) h8 h1 h0]; rfl
    · simp [h0, h1, isI, bI]; rfl
theorem n_isTrait (H : ROffN σ a A) (h8 : A.nt ≤ 8) (p : Int32) :
   zC (d + 1) 42 [.ref a, .int p] σ K = K (some (.int (bI (isI p A.nt)))) σ := by
  rw [E_42]
  simp only [L_42_0, zt_42_0, L_42_22, zt_42_22, L_42_23, zt_42_23, ↓e_iconst0, ↓e_iconst1, ↓e_bipush0, ↓e_bipush1, ↓e_sipush0, ↓e_sipush1, ↓e_ldc0, ↓e_ldc1, ↓e_ldc_w0, ↓e_ldc_w1, ↓e_ldc2, ↓e_lconst0, ↓e_lconst1, ↓e_ldc2_w0, ↓e_ldc2_w1, ↓e_iload, ↓e_iload_n, ↓e_istore, ↓e_istore_n, ↓e_lload, ↓e_lload_n, ↓e_lstore, ↓e_lstore_n, ↓e_aload, ↓e_aload_n, ↓e_astore, ↓e_astore_n, ↓e_iinc0, ↓e_iinc1, ↓e_iadd, ↓e_isub, ↓e_imul, ↓e_iand, ↓e_ior, ↓e_ixor, ↓e_ishl, ↓e_ishr, ↓e_iushr, ↓e_ladd, ↓e_lsub, ↓e_lmul, ↓e_land, ↓e_lor, ↓e_idiv, ↓e_irem, ↓e_ldiv, ↓e_lrem, ↓e_lshl, ↓e_lcmp, ↓e_i2l, ↓e_l2i, ↓e_i2b, ↓e_i2s, ↓e_dup_int, ↓e_pop_int, ↓e_dup_ref, ↓e_pop_ref, ↓e_dup2, ↓e_goto, ↓e_nop, ↓e_ifCond_eq, ↓e_if_icmp_eq, ↓e_ifCond_ne, ↓e_if_icmp_ne, ↓e_ifCond_lt, ↓e_if_icmp_lt, ↓e_ifCond_ge, ↓e_if_icmp_ge, ↓e_ifCond_gt, ↓e_if_icmp_gt, ↓e_ifCond_le, ↓e_if_icmp_le, ↓e_tab, ↓e_look, ↓e_get0, ↓e_get1, ↓e_get2, ↓e_get3, ↓e_put0, ↓e_put1, ↓e_put2, ↓e_put3, ↓e_iaload, ↓e_laload, ↓e_baload, ↓e_aaload, ↓e_iastore, ↓e_lastore, ↓e_bastore, ↓e_aastore, ↓e_alen, ↓e_new, ↓e_newarray, ↓e_anewarray, ↓e_objinit, ↓e_virt1, ↓e_virt2, ↓e_virt3, ↓e_virt4, ↓e_virt5, ↓e_virt6, ↓e_virt7, ↓e_stat0, ↓e_stat1, ↓e_stat2, ↓e_stat3, ↓e_stat4, ↓e_stat5, ↓e_stat6, ↓e_stat7, ↓e_spec1, ↓e_spec2, ↓e_spec3, ↓e_spec4, ↓e_spec5, ↓e_strlen, ↓e_charAt, ↓e_copy, ↓e_iret0, ↓e_iret1, ↓e_lret, ↓e_aret, ↓e_vret, zIsI_int, zIsL_long, zIsA_ref, zInt_int, true_and, and_true, ↓reduceIte, zGet, zSet, zSet2, zEnt, zWid, Value.category, List.map_cons, List.map_nil, List.sum_cons, List.sum_nil, List.replicate, Option.toList, Nat.reduceAdd, Nat.reduceSub, Nat.reduceMul, Nat.reduceLeDiff, Nat.reduceEqDiff, Nat.reduceLT, List.cons_append, List.nil_append, true_or, or_true, or_false, false_or, H.k, H.i0, H.i1, H.i2, H.i3, H.i4, H.i5, H.i6, H.i7, H.r8, H.r9, H.r10, H.r11, H.r12, H.r13, H.r14, H.r15, H.r16, H.r17, H.r18, H.k1, H.k2, H.k3, H.k4, H.k5, H.k6, H.k7, H.k8, H.k9, H.k10, H.k11]
  by_cases h0 : p < nI 0
  · simp [h0, isI, bI]; rfl
  · by_cases h1 : p < nI A.nt
    · simp [h0, h1, isI, bI, isI_min (by decide : 8 < 2 ^ 31) h8 h1 h0]; rfl
    · simp [h0, h1, isI, bI]; rfl
theorem n_isClerk (H : ROffN σ a A) (h8 : A.nc ≤ 4) (p : Int32) :
   zC (d + 1) 44 [.ref a, .int p] σ K = K (some (.int (bI (isI p A.nc)))) σ := by
  rw [E_44]
  simp only [L_44_0, zt_44_0, L_44_21, zt_44_21, L_44_22, zt_44_22, ↓e_iconst0, ↓e_iconst1, ↓e_bipush0, ↓e_bipush1, ↓e_sipush0, ↓e_sipush1, ↓e_ldc0, ↓e_ldc1, ↓e_ldc_w0, ↓e_ldc_w1, ↓e_ldc2, ↓e_lconst0, ↓e_lconst1, ↓e_ldc2_w0, ↓e_ldc2_w1, ↓e_iload, ↓e_iload_n, ↓e_istore, ↓e_istore_n, ↓e_lload, ↓e_lload_n, ↓e_lstore, ↓e_lstore_n, ↓e_aload, ↓e_aload_n, ↓e_astore, ↓e_astore_n, ↓e_iinc0, ↓e_iinc1, ↓e_iadd, ↓e_isub, ↓e_imul, ↓e_iand, ↓e_ior, ↓e_ixor, ↓e_ishl, ↓e_ishr, ↓e_iushr, ↓e_ladd, ↓e_lsub, ↓e_lmul, ↓e_land, ↓e_lor, ↓e_idiv, ↓e_irem, ↓e_ldiv, ↓e_lrem, ↓e_lshl, ↓e_lcmp, ↓e_i2l, ↓e_l2i, ↓e_i2b, ↓e_i2s, ↓e_dup_int, ↓e_pop_int, ↓e_dup_ref, ↓e_pop_ref, ↓e_dup2, ↓e_goto, ↓e_nop, ↓e_ifCond_eq, ↓e_if_icmp_eq, ↓e_ifCond_ne, ↓e_if_icmp_ne, ↓e_ifCond_lt, ↓e_if_icmp_lt, ↓e_ifCond_ge, ↓e_if_icmp_ge, ↓e_ifCond_gt, ↓e_if_icmp_gt, ↓e_ifCond_le, ↓e_if_icmp_le, ↓e_tab, ↓e_look, ↓e_get0, ↓e_get1, ↓e_get2, ↓e_get3, ↓e_put0, ↓e_put1, ↓e_put2, ↓e_put3, ↓e_iaload, ↓e_laload, ↓e_baload, ↓e_aaload, ↓e_iastore, ↓e_lastore, ↓e_bastore, ↓e_aastore, ↓e_alen, ↓e_new, ↓e_newarray, ↓e_anewarray, ↓e_objinit, ↓e_virt1, ↓e_virt2, ↓e_virt3, ↓e_virt4, ↓e_virt5, ↓e_virt6, ↓e_virt7, ↓e_stat0, ↓e_stat1, ↓e_stat2, ↓e_stat3, ↓e_stat4, ↓e_stat5, ↓e_stat6, ↓e_stat7, ↓e_spec1, ↓e_spec2, ↓e_spec3, ↓e_spec4, ↓e_spec5, ↓e_strlen, ↓e_charAt, ↓e_copy, ↓e_iret0, ↓e_iret1, ↓e_lret, ↓e_aret, ↓e_vret, zIsI_int, zIsL_long, zIsA_ref, zInt_int, true_and, and_true, ↓reduceIte, zGet, zSet, zSet2, zEnt, zWid, Value.category, List.map_cons, List.map_nil, List.sum_cons, List.sum_nil, List.replicate, Option.toList, Nat.reduceAdd, Nat.reduceSub, Nat.reduceMul, Nat.reduceLeDiff, Nat.reduceEqDiff, Nat.reduceLT, List.cons_append, List.nil_append, true_or, or_true, or_false, false_or, H.k, H.i0, H.i1, H.i2, H.i3, H.i4, H.i5, H.i6, H.i7, H.r8, H.r9, H.r10, H.r11, H.r12, H.r13, H.r14, H.r15, H.r16, H.r17, H.r18, H.k1, H.k2, H.k3, H.k4, H.k5, H.k6, H.k7, H.k8, H.k9, H.k10, H.k11]
  by_cases h0 : p < nI 0
  · simp [h0, isI, bI]; rfl
  · by_cases h1 : p < nI A.nc
    · simp [h0, h1, isI, bI, isI_min (by decide : 4 < 2 ^ 31) h8 h1 h0]; rfl
    · simp [h0, h1, isI, bI]; rfl
theorem n_isCell (H : ROffN σ a A) (h8 : A.wide * A.high ≤ 20) (p : Int32) :
   zC (d + 1) 45 [.ref a, .int p] σ K = K (some (.int (bI (isI p (A.wide * A.high))))) σ := by
  rw [E_45]
  simp only [L_45_0, zt_45_0, L_45_22, zt_45_22, L_45_23, zt_45_23, ↓e_iconst0, ↓e_iconst1, ↓e_bipush0, ↓e_bipush1, ↓e_sipush0, ↓e_sipush1, ↓e_ldc0, ↓e_ldc1, ↓e_ldc_w0, ↓e_ldc_w1, ↓e_ldc2, ↓e_lconst0, ↓e_lconst1, ↓e_ldc2_w0, ↓e_ldc2_w1, ↓e_iload, ↓e_iload_n, ↓e_istore, ↓e_istore_n, ↓e_lload, ↓e_lload_n, ↓e_lstore, ↓e_lstore_n, ↓e_aload, ↓e_aload_n, ↓e_astore, ↓e_astore_n, ↓e_iinc0, ↓e_iinc1, ↓e_iadd, ↓e_isub, ↓e_imul, ↓e_iand, ↓e_ior, ↓e_ixor, ↓e_ishl, ↓e_ishr, ↓e_iushr, ↓e_ladd, ↓e_lsub, ↓e_lmul, ↓e_land, ↓e_lor, ↓e_idiv, ↓e_irem, ↓e_ldiv, ↓e_lrem, ↓e_lshl, ↓e_lcmp, ↓e_i2l, ↓e_l2i, ↓e_i2b, ↓e_i2s, ↓e_dup_int, ↓e_pop_int, ↓e_dup_ref, ↓e_pop_ref, ↓e_dup2, ↓e_goto, ↓e_nop, ↓e_ifCond_eq, ↓e_if_icmp_eq, ↓e_ifCond_ne, ↓e_if_icmp_ne, ↓e_ifCond_lt, ↓e_if_icmp_lt, ↓e_ifCond_ge, ↓e_if_icmp_ge, ↓e_ifCond_gt, ↓e_if_icmp_gt, ↓e_ifCond_le, ↓e_if_icmp_le, ↓e_tab, ↓e_look, ↓e_get0, ↓e_get1, ↓e_get2, ↓e_get3, ↓e_put0, ↓e_put1, ↓e_put2, ↓e_put3, ↓e_iaload, ↓e_laload, ↓e_baload, ↓e_aaload, ↓e_iastore, ↓e_lastore, ↓e_bastore, ↓e_aastore, ↓e_alen, ↓e_new, ↓e_newarray, ↓e_anewarray, ↓e_objinit, ↓e_virt1, ↓e_virt2, ↓e_virt3, ↓e_virt4, ↓e_virt5, ↓e_virt6, ↓e_virt7, ↓e_stat0, ↓e_stat1, ↓e_stat2, ↓e_stat3, ↓e_stat4, ↓e_stat5, ↓e_stat6, ↓e_stat7, ↓e_spec1, ↓e_spec2, ↓e_spec3, ↓e_spec4, ↓e_spec5, ↓e_strlen, ↓e_charAt, ↓e_copy, ↓e_iret0, ↓e_iret1, ↓e_lret, ↓e_aret, ↓e_vret, zIsI_int, zIsL_long, zIsA_ref, zInt_int, true_and, and_true, ↓reduceIte, zGet, zSet, zSet2, zEnt, zWid, Value.category, List.map_cons, List.map_nil, List.sum_cons, List.sum_nil, List.replicate, Option.toList, Nat.reduceAdd, Nat.reduceSub, Nat.reduceMul, Nat.reduceLeDiff, Nat.reduceEqDiff, Nat.reduceLT, List.cons_append, List.nil_append, true_or, or_true, or_false, false_or, H.k, H.i0, H.i1, H.i2, H.i3, H.i4, H.i5, H.i6, H.i7, H.r8, H.r9, H.r10, H.r11, H.r12, H.r13, H.r14, H.r15, H.r16, H.r17, H.r18, H.k1, H.k2, H.k3, H.k4, H.k5, H.k6, H.k7, H.k8, H.k9, H.k10, H.k11]
  by_cases h0 : p < nI 0
  · simp [h0, isI, bI]; rfl
  · by_cases h1 : p < nI (A.wide * A.high)
    · simp [h0, h1, isI, bI, isI_min (by decide : 20 < 2 ^ 31) h8 h1 h0]; rfl
    · simp [h0, h1, isI, bI]; rfl
theorem n_putInto (H : ROffN σ a A) (h8 : A.np ≤ 8) (h20 : A.wide * A.high ≤ 20) {p c : Nat} (hp : p < A.np) (hc : c < A.wide * A.high) :
   zC (d + 2) 60 [.ref a, .int (nI p), .int (nI c)] σ K = K none (setI (setI σ (a + 4) p (nI c)) (a + 8) c (nI p)) := by
  have hp8 : p < 8 := by omega
  have hc20 : c < 20 := by omega
  have i1 : isI (nI p) A.np = true := by rw [isI_nI (by omega) (by omega)]; simpa using hp
  have i2 : isI (nI c) (A.wide * A.high) = true := by rw [isI_nI (by omega) (by omega)]; simpa using hc
  rw [E_60]
  simp (disch := omega) only [L_60_0, zt_60_0, L_60_30, zt_60_30, ↓e_iconst0, ↓e_iconst1, ↓e_bipush0, ↓e_bipush1, ↓e_sipush0, ↓e_sipush1, ↓e_ldc0, ↓e_ldc1, ↓e_ldc_w0, ↓e_ldc_w1, ↓e_ldc2, ↓e_lconst0, ↓e_lconst1, ↓e_ldc2_w0, ↓e_ldc2_w1, ↓e_iload, ↓e_iload_n, ↓e_istore, ↓e_istore_n, ↓e_lload, ↓e_lload_n, ↓e_lstore, ↓e_lstore_n, ↓e_aload, ↓e_aload_n, ↓e_astore, ↓e_astore_n, ↓e_iinc0, ↓e_iinc1, ↓e_iadd, ↓e_isub, ↓e_imul, ↓e_iand, ↓e_ior, ↓e_ixor, ↓e_ishl, ↓e_ishr, ↓e_iushr, ↓e_ladd, ↓e_lsub, ↓e_lmul, ↓e_land, ↓e_lor, ↓e_idiv, ↓e_irem, ↓e_ldiv, ↓e_lrem, ↓e_lshl, ↓e_lcmp, ↓e_i2l, ↓e_l2i, ↓e_i2b, ↓e_i2s, ↓e_dup_int, ↓e_pop_int, ↓e_dup_ref, ↓e_pop_ref, ↓e_dup2, ↓e_goto, ↓e_nop, ↓e_ifCond_eq, ↓e_if_icmp_eq, ↓e_ifCond_ne, ↓e_if_icmp_ne, ↓e_ifCond_lt, ↓e_if_icmp_lt, ↓e_ifCond_ge, ↓e_if_icmp_ge, ↓e_ifCond_gt, ↓e_if_icmp_gt, ↓e_ifCond_le, ↓e_if_icmp_le, ↓e_tab, ↓e_look, ↓e_get0, ↓e_get1, ↓e_get2, ↓e_get3, ↓e_put0, ↓e_put1, ↓e_put2, ↓e_put3, ↓e_iaload, ↓e_laload, ↓e_baload, ↓e_aaload, ↓e_iastore, ↓e_lastore, ↓e_bastore, ↓e_aastore, ↓e_alen, ↓e_new, ↓e_newarray, ↓e_anewarray, ↓e_objinit, ↓e_virt1, ↓e_virt2, ↓e_virt3, ↓e_virt4, ↓e_virt5, ↓e_virt6, ↓e_virt7, ↓e_stat0, ↓e_stat1, ↓e_stat2, ↓e_stat3, ↓e_stat4, ↓e_stat5, ↓e_stat6, ↓e_stat7, ↓e_spec1, ↓e_spec2, ↓e_spec3, ↓e_spec4, ↓e_spec5, ↓e_strlen, ↓e_charAt, ↓e_copy, ↓e_iret0, ↓e_iret1, ↓e_lret, ↓e_aret, ↓e_vret, zIsI_int, zIsL_long, zIsA_ref, zInt_int, true_and, and_true, ↓reduceIte, zGet, zSet, zSet2, zEnt, zWid, Value.category, List.map_cons, List.map_nil, List.sum_cons, List.sum_nil, List.replicate, Option.toList, Nat.reduceAdd, Nat.reduceSub, Nat.reduceMul, Nat.reduceLeDiff, Nat.reduceEqDiff, Nat.reduceLT, List.cons_append, List.nil_append, true_or, or_true, or_false, false_or, H.k, H.i0, H.i1, H.i2, H.i3, H.i4, H.i5, H.i6, H.i7, H.r8, H.r9, H.r10, H.r11, H.r12, H.r13, H.r14, H.r15, H.r16, H.r17, H.r18, H.k1, H.k2, H.k3, H.k4, H.k5, H.k6, H.k7, H.k8, H.k9, H.k10, H.k11, nI_ltI, nI_leI, nI_eq, nI_clamp, zIn_nI, bI_0, nI_add, nI_mul, nI_or, nI_and, nI_shl1, nI_bit, ↓pk_rem, pk_div, Nat.lt_irrefl, Nat.not_lt_zero, reduceCtorEq, ↓n_isPaper H h8, ↓n_isCell H h20, i1, i2, hp8, hc20, sK_setI, sR_setI, sL_setI]
end CNT2
