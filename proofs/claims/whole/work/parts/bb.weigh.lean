/-! WEIGHED: rows of weights, threes that were seen -/
def wI (r t : Nat) : Nat := 1 + r / 3 ^ t % 3
def lkB (nt r set : Nat) : Nat := sm nt (fun t => if set.testBit t = true then wI r t else 0)
/-- the number of a paper as a tray has it -/
def pv (v : Int64) : Nat := v.toInt.toNat
def pOk (n : Nat) (v : Int64) : Bool := decide (¬ v < lN 0) && decide (v < lN n)
/-- of the k-th three: what the first has like the second, like the third -/
def Ofc.thW (A : Ofc) (f : Nat → Int64) (k : Nat) : Nat := A.tr (pv (f (3 * k))) &&& A.tr (pv (f (3 * k + 1)))
def Ofc.thA (A : Ofc) (f : Nat → Int64) (k : Nat) : Nat := A.tr (pv (f (3 * k))) &&& A.tr (pv (f (3 * k + 2)))
def Ofc.fitR (A : Ofc) (f : Nat → Int64) (n r : Nat) : Bool := (List.range n).all (fun k => decide (lkB A.nt r (A.thA f k) ≤ lkB A.nt r (A.thW f k)))
/-- the rows that fit; the weights of a trait that were seen in them -/
def Ofc.seenT (A : Ofc) (f : Nat → Int64) (n t R : Nat) : Nat := zfor (fun r x => if A.fitR f n r = true then x ||| 2 ^ wI r t else x) R 0
def sureF (fit : Nat → Bool) (t : Nat) (R : Nat) : Option Nat := zfor (fun r s => if fit r = true then (if ct fit r = 0 ∨ s = some (wI r t) then some (wI r t) else some 0) else s) R none
section WGH
variable {A : Ofc}
theorem wI_le (r t : Nat) : 1 ≤ wI r t ∧ wI r t ≤ 3 := by unfold wI; omega
theorem lkB_le (nt r set : Nat) : lkB nt r set ≤ 3 * nt := by
  unfold lkB
  induction nt with
  | zero => exact Nat.le_refl _
  | succ n ih =>
    rw [sm_s]
    have := (wI_le r n).2
    split <;> omega
theorem fitR_iff (f : Nat → Int64) (n r : Nat) : A.fitR f n r = true ↔ ∀ k, k < n → lkB A.nt r (A.thA f k) ≤ lkB A.nt r (A.thW f k) := by
  unfold Ofc.fitR
  rw [List.all_eq_true]
  refine ⟨fun h k hk => ?_, fun h k hk => ?_⟩
  · have := h k (List.mem_range.mpr hk)
    rwa [decide_eq_true_eq] at this
  · rw [decide_eq_true_eq]
    exact h k (List.mem_range.mp hk)
/-- the next row -/
theorem wI_next {r t : Nat} (h : r % 3 ^ t = 3 ^ t - 1) : (∀ i, i < t → wI (r + 1) i = 1) ∧ (wI r t < 3 → wI (r + 1) t = wI r t + 1 ∧ ∀ i, t < i → wI (r + 1) i = wI r i) ∧ (∀ i, i < t → wI r i = 3) := by
  have p0 : 0 < 3 ^ t := Nat.pow_pos (by decide)
  have e : r = 3 ^ t * (r / 3 ^ t) + (3 ^ t - 1) := by have := Nat.div_add_mod r (3 ^ t); omega
  have e1 : r + 1 = 3 ^ t * (r / 3 ^ t + 1) := by rw [Nat.mul_add, Nat.mul_one]; omega
  have e2 : (r + 1) / 3 ^ t = r / 3 ^ t + 1 := by rw [e1]; exact Nat.mul_div_cancel_left _ p0
  refine ⟨fun i hi => ?_, fun hw => ⟨?_, fun i hi => ?_⟩, fun i hi => ?_⟩
  · obtain ⟨d, rfl⟩ : ∃ d, t = i + d + 1 := ⟨t - i - 1, by omega⟩
    have pi : 0 < 3 ^ i := Nat.pow_pos (by decide)
    have : (r + 1) / 3 ^ i = 3 * (3 ^ d * (r / 3 ^ (i + d + 1) + 1)) := by
      rw [e1, show 3 ^ (i + d + 1) * (r / 3 ^ (i + d + 1) + 1) = 3 ^ i * (3 * (3 ^ d * (r / 3 ^ (i + d + 1) + 1))) from by
        rw [Nat.pow_succ, Nat.pow_add, Nat.mul_comm (3 ^ i * 3 ^ d) 3, ← Nat.mul_assoc 3, Nat.mul_assoc, Nat.mul_assoc, Nat.mul_left_comm]]
      exact Nat.mul_div_cancel_left _ pi
    unfold wI
    rw [this, Nat.mul_mod_right]
  · unfold wI at hw ⊢
    rw [e2]
    omega
  · obtain ⟨d, rfl⟩ : ∃ d, i = t + (d + 1) := ⟨i - t - 1, by omega⟩
    unfold wI at hw ⊢
    have q : ∀ x, x / 3 ^ (t + (d + 1)) = x / 3 ^ t / 3 / 3 ^ d := fun x => by
      rw [Nat.pow_add, Nat.pow_succ, Nat.mul_comm (3 ^ d) 3, ← Nat.div_div_eq_div_mul, ← Nat.div_div_eq_div_mul]
    rw [q, q, e2, show (r / 3 ^ t + 1) / 3 = r / 3 ^ t / 3 by omega]
  · obtain ⟨d, rfl⟩ : ∃ d, t = i + d + 1 := ⟨t - i - 1, by omega⟩
    have pi : 0 < 3 ^ i := Nat.pow_pos (by decide)
    have pd : 0 < 3 ^ d := Nat.pow_pos (by decide)
    -- one less than a multiple of 3 times 3^i
    have e3 : r + 1 = 3 ^ i * (3 * (3 ^ d * (r / 3 ^ (i + d + 1) + 1))) := by
      rw [e1, Nat.pow_succ, Nat.pow_add, Nat.mul_comm (3 ^ i * 3 ^ d) 3, ← Nat.mul_assoc 3, Nat.mul_assoc, Nat.mul_assoc, Nat.mul_left_comm]
    generalize hm : 3 ^ d * (r / 3 ^ (i + d + 1) + 1) = m at e3
    have hm1 : 1 ≤ m := by rw [← hm]; exact Nat.mul_pos pd (Nat.succ_pos _)
    have e4 : r = 3 ^ i * (3 * m - 1) + (3 ^ i - 1) := by rw [Nat.mul_sub, Nat.mul_one]; have := Nat.mul_le_mul_left (3 ^ i) (show 1 ≤ 3 * m by omega); omega
    have : r / 3 ^ i = 3 * m - 1 := by
      rw [e4, Nat.mul_add_div pi, Nat.div_eq_of_lt (by omega), Nat.add_zero]
    unfold wI
    rw [this]
    omega
theorem mod_next {r t : Nat} (h : r % 3 ^ t = 3 ^ t - 1) (hw : ¬ wI r t < 3) : r % 3 ^ (t + 1) = 3 ^ (t + 1) - 1 := by
  have p0 : 0 < 3 ^ t := Nat.pow_pos (by decide)
  have h3 : r / 3 ^ t % 3 = 2 := by unfold wI at hw; omega
  rw [Nat.pow_succ, Nat.mod_mul, h, h3]
  omega
/-- the sums of a three, in whole numbers -/
def sgT (p : Nat × Nat) (t : Nat) : Int := (if p.1.testBit t = true then 1 else 0) - (if p.2.testBit t = true then 1 else 0)
def sI3 (v : Nat → Nat) (p : Nat × Nat) : Nat → Int
  | 0 => 0
  | t + 1 => sI3 v p t + (v t : Int) * sgT p t
theorem sI3_lk (r : Nat) (p : Nat × Nat) : ∀ nt, sI3 (wI r) p nt = (lkB nt r p.1 : Int) - lkB nt r p.2 := by
  intro nt
  induction nt with
  | zero => rfl
  | succ n ih =>
    have e1 : lkB (n + 1) r p.1 = lkB n r p.1 + (if p.1.testBit n = true then wI r n else 0) := rfl
    have e2 : lkB (n + 1) r p.2 = lkB n r p.2 + (if p.2.testBit n = true then wI r n else 0) := rfl
    show sI3 (wI r) p n + (wI r n : Int) * sgT p n = _
    rw [ih, e1, e2]
    unfold sgT
    cases p.1.testBit n <;> cases p.2.testBit n <;> simp <;> omega
theorem sI3_congr {v v' : Nat → Nat} {p : Nat × Nat} : ∀ nt, (∀ t, t < nt → v t = v' t) → sI3 v p nt = sI3 v' p nt := by
  intro nt
  induction nt with
  | zero => intro _; rfl
  | succ n ih =>
    intro h
    show sI3 v p n + (v n : Int) * sgT p n = sI3 v' p n + (v' n : Int) * sgT p n
    rw [ih (fun t ht => h t (by omega)), h n (by omega)]
theorem sI3_up {v v' : Nat → Nat} {p : Nat × Nat} {t : Nat} {b : Int} (ht : (v' t : Int) = v t + b) (ho : ∀ i, i ≠ t → v' i = v i) : ∀ nt, sI3 v' p nt = sI3 v p nt + (if t < nt then b * sgT p t else 0) := by
  intro nt
  induction nt with
  | zero => rfl
  | succ n ih =>
    show sI3 v' p n + (v' n : Int) * sgT p n = sI3 v p n + (v n : Int) * sgT p n + _
    rw [ih]
    by_cases h : n = t
    · subst h
      rw [if_neg (by omega), if_pos (by omega), ht, Int.add_mul]
      omega
    · rw [ho n h]
      by_cases h2 : t < n
      · rw [if_pos h2, if_pos (by omega)]; omega
      · rw [if_neg h2, if_neg (by omega)]; omega
theorem sgT_le (p : Nat × Nat) (t : Nat) : -1 ≤ sgT p t ∧ sgT p t ≤ 1 := by
  unfold sgT
  cases p.1.testBit t <;> cases p.2.testBit t <;> simp
theorem sI3_le {v : Nat → Nat} {p : Nat × Nat} (hv : ∀ t, v t ≤ 3) : ∀ nt : Nat, -3 * (nt : Int) ≤ sI3 v p nt ∧ sI3 v p nt ≤ 3 * nt := by
  intro nt
  induction nt with
  | zero => exact ⟨Int.le_refl 0, Int.le_refl 0⟩
  | succ n ih =>
    have h1 := sgT_le p n
    have h2 := hv n
    have e : sI3 v p (n + 1) = sI3 v p n + (v n : Int) * sgT p n := rfl
    rw [e]
    have h3 : sgT p n = -1 ∨ sgT p n = 0 ∨ sgT p n = 1 := by omega
    rcases h3 with h | h | h <;> rw [h] <;> omega
/-- the threes that could rule a row out -/
def kpt (w g : Nat → Nat) : Nat → List (Nat × Nat)
  | 0 => []
  | k + 1 => if g k &&& (255 - w k) = 0 then kpt w g k else kpt w g k ++ [(w k, g k)]
theorem kpt_len (w g : Nat → Nat) : ∀ k, (kpt w g k).length ≤ k := by
  intro k
  induction k with
  | zero => exact Nat.le_refl _
  | succ k ih =>
    unfold kpt
    split
    · omega
    · rw [List.length_append]
      show _ + 1 ≤ k + 1
      omega
theorem kpt_fit {w g : Nat → Nat} (hw : ∀ k, w k < 256) (hg : ∀ k, g k < 256) (r nt : Nat) : ∀ n, (∀ p, p ∈ kpt w g n → 0 ≤ sI3 (wI r) p nt) ↔ ∀ k, k < n → lkB nt r (g k) ≤ lkB nt r (w k) := by
  intro n
  induction n with
  | zero => exact ⟨fun _ k hk => absurd hk (Nat.not_lt_zero k), fun _ p hp => by cases hp⟩
  | succ n ih =>
    unfold kpt
    by_cases h : g n &&& (255 - w n) = 0
    · rw [if_pos h, ih]
      refine ⟨fun hh k hk => ?_, fun hh k hk => hh k (by omega)⟩
      by_cases e : k = n
      · subst e
        unfold lkB
        refine sm_le (fun t _ => ?_)
        by_cases hb : (g k).testBit t = true
        · rw [if_pos hb, if_pos (within_bit (hg k) (hw k) h t hb)]
          exact Nat.le_refl _
        · rw [if_neg hb]; exact Nat.zero_le _
      · exact hh k (by omega)
    · rw [if_neg h]
      have es := sI3_lk r (w n, g n) nt
      refine ⟨fun hh k hk => ?_, fun hh p hp => ?_⟩
      · by_cases e : k = n
        · subst e
          have := hh (w k, g k) (List.mem_append_right _ (List.mem_singleton.mpr rfl))
          rw [es] at this
          have this : 0 ≤ (lkB nt r (w k) : Int) - lkB nt r (g k) := this
          omega
        · exact ih.mp (fun p hp => hh p (List.mem_append_left _ hp)) k (by omega)
      · rcases List.mem_append.mp hp with hp | hp
        · exact ih.mpr (fun k hk => hh k (by omega)) p hp
        · rw [List.mem_singleton.mp hp, es]
          have := hh n (by omega)
          show 0 ≤ (lkB nt r (w n) : Int) - lkB nt r (g n)
          omega
/-- one weight alone: the Model's word, the class's set -/
def SrR (s : Option Nat) (c x : Nat) : Prop := x < 16 ∧ ((c = 0 ∧ s = none ∧ x = 0) ∨ (0 < c ∧ ∃ w, 1 ≤ w ∧ w ≤ 3 ∧ s = some w ∧ x = 2 ^ w) ∨ (0 < c ∧ s = some 0 ∧ 2 ≤ pop x))
def srB (x w v : Nat) : Bool := (decide (pop (x ||| 2 ^ v) < pop x)) == false && (decide (w = v) || decide (pop (2 ^ w ||| 2 ^ v) = 2)) && decide (x ||| 2 ^ v < 16)
theorem srB_t : ∀ x, x < 16 → ∀ w, w < 4 → ∀ v, v < 4 → srB x w v = true := by decide +kernel
theorem SrR.put {s : Option Nat} {c x v : Nat} (h : SrR s c x) (v1 : 1 ≤ v) (v3 : v ≤ 3) : SrR (if c = 0 ∨ s = some v then some v else some 0) (c + 1) (x ||| 2 ^ v) := by
  obtain ⟨h0, h⟩ := h
  have lt : x ||| 2 ^ v < 16 := by
    have := srB_t x h0 0 (by omega) v (by omega)
    unfold srB at this
    simp only [Bool.and_eq_true, decide_eq_true_eq] at this
    exact this.2
  refine ⟨lt, ?_⟩
  rcases h with ⟨h1, h2, h3⟩ | ⟨h1, w, w1, w3, h2, h3⟩ | ⟨h1, h2, h3⟩
  · rw [if_pos (.inl h1), h3, Nat.zero_or]
    exact .inr (.inl ⟨by omega, v, v1, v3, rfl, rfl⟩)
  · by_cases e : w = v
    · subst e
      rw [if_pos (.inr h2), h3, Nat.or_self]
      exact .inr (.inl ⟨by omega, w, w1, w3, rfl, rfl⟩)
    · rw [if_neg (by
        intro hh
        rcases hh with hh | hh
        · omega
        · rw [h2] at hh; exact e (Option.some.inj hh)), h3]
      have := srB_t 0 (by omega) w (by omega) v (by omega)
      unfold srB at this
      simp only [Bool.and_eq_true, Bool.or_eq_true, decide_eq_true_eq] at this
      rcases this.1.2 with hh | hh
      · exact absurd hh e
      · exact .inr (.inr ⟨by omega, rfl, by omega⟩)
  · rw [if_neg (by
      intro hh
      rcases hh with hh | hh
      · omega
      · rw [h2] at hh; have := Option.some.inj hh; omega)]
    have := srB_t x h0 0 (by omega) v (by omega)
    unfold srB at this
    simp only [Bool.and_eq_true, beq_iff_eq, decide_eq_false_iff_not] at this
    exact .inr (.inr ⟨by omega, rfl, by have := this.1.1; omega⟩)
theorem sure_is (fit : Nat → Bool) (t : Nat) : ∀ R, SrR (sureF fit t R) (ct fit R) (zfor (fun r x => if fit r = true then x ||| 2 ^ wI r t else x) R 0) := by
  intro R
  induction R with
  | zero => exact ⟨Nat.zero_lt_succ 15, .inl ⟨rfl, rfl, rfl⟩⟩
  | succ R ih =>
    unfold sureF at ih ⊢
    rw [zfor_s, zfor_s]
    cases h : fit R with
    | false =>
      rw [ct_f h, if_neg Bool.false_ne_true, if_neg Bool.false_ne_true]
      exact ih
    | true =>
      rw [ct_t h, if_pos rfl, if_pos rfl]
      exact ih.put (wI_le R t).1 (wI_le R t).2
/-- why there are no threes -/
def Ofc.whyT (A : Ofc) (T : Trs) (t n : Int32) : Nat := match ix t 4, ix n 21 with
  | some t, some n => match T t with
    | none => 2
    | some x => if x.2.1 < 3 * n then 3 else if (List.range (3 * n)).all (fun k => pOk A.np (x.2.2 k)) = true then 0 else 5
  | _, _ => 1
def thOf (T : Trs) (t : Int32) : Nat → Int64 := match T t.toNatClampNeg with
  | none => fun _ => 0
  | some x => x.2.2
def Ofc.qWeighed (A : Ofc) (T : Trs) (t n : Int32) : Int32 × Int32 := if A.whyT T t n = 0 then qA (nI (ct (A.fitR (thOf T t) n.toNatClampNeg) (3 ^ A.nt))) else qR (A.whyT T t n)
def qSr (s : Option Nat) : Int32 × Int32 := match s with
  | none => qR 6
  | some w => if w = 0 then qR 6 else qA (nI w)
def Ofc.qSure (A : Ofc) (T : Trs) (i t n : Int32) : Int32 × Int32 := match ix i A.nt with
  | none => qR 1
  | some i => if A.whyT T t n = 0 then qSr (sureF (A.fitR (thOf T t) n.toNatClampNeg) i (3 ^ A.nt)) else qR (A.whyT T t n)
theorem pOk_is {n : Nat} {v : Int64} (hn : n < 2 ^ 31) (h : pOk n v = true) : ∃ p, p < n ∧ v = lN p ∧ pv v = p := by
  unfold pOk at h
  rw [Bool.and_eq_true, decide_eq_true_eq, decide_eq_true_eq, Int64.lt_iff_toInt_lt, Int64.lt_iff_toInt_lt] at h
  have e0 : (lN 0).toInt = 0 := by decide
  have en : (lN n).toInt = n := Int64.toInt_ofNat_of_lt (by omega)
  rw [e0, en] at h
  refine ⟨v.toInt.toNat, by omega, ?_, rfl⟩
  apply Int64.toInt_inj.mp
  have : (lN v.toInt.toNat).toInt = (v.toInt.toNat : Int) := Int64.toInt_ofNat_of_lt (by omega)
  rw [this]
  omega
end WGH
