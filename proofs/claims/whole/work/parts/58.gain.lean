/-! HOW MUCH AN EXCHANGE BRINGS -/
theorem sm_two {n c e : Nat} (hc : c < n) (he : e < n) (hne : c ≠ e) (f : Nat → Nat) : sm n f = f c + f e + sm n (fun i => if i = c ∨ i = e then 0 else f i) := by
  have h1 := sm_one hc f
  have h2 := sm_one he f
  have h3 : sm n f = sm n (fun i => ((if i = c then f i else 0) + (if i = e then f i else 0)) + (if i = c ∨ i = e then 0 else f i)) := by
    refine sm_congr (fun i _ => ?_)
    by_cases a1 : i = c
    · simp [a1, hne]
    · by_cases a2 : i = e
      · simp [a2, show ¬ e = c from fun h => hne h.symm]
      · simp [a1, a2]
  rw [h3, sm_add, sm_add, h1, h2]
section GAI
variable {A : Ofc}
def Ofc.F (A : Ofc) (lay : Nat → Option Nat) (x y : Nat) : Nat := if A.bes x y = true then A.likeO (lay x) (lay y) else 0
def Ofc.r (A : Ofc) (lay : Nat → Option Nat) (o : Option Nat) (c e x : Nat) : Nat := sm (A.wide * A.high) (fun y => if y = c ∨ y = e then 0 else if A.bes x y = true then A.likeO o (lay y) else 0)
theorem F_comm (lay : Nat → Option Nat) (x y : Nat) : A.F lay x y = A.F lay y x := by
  unfold Ofc.F
  rw [bes_comm x y, likeO_comm]
theorem F_self (lay : Nat → Option Nat) (x : Nat) : A.F lay x x = 0 := by
  unfold Ofc.F
  rw [bes_self]
  rfl
/-- twice the whole likeness of a lay -/
def Ofc.W2 (A : Ofc) (lay : Nat → Option Nat) : Nat := sm (A.wide * A.high) (fun x => sm (A.wide * A.high) (fun y => A.F lay x y))
def Ofc.Q2 (A : Ofc) (lay : Nat → Option Nat) (c e : Nat) : Nat := sm (A.wide * A.high) (fun x => if x = c ∨ x = e then 0 else sm (A.wide * A.high) (fun y => if y = c ∨ y = e then 0 else A.F lay x y))
theorem W2_two {c e : Nat} (hc : c < A.wide * A.high) (he : e < A.wide * A.high) (hne : c ≠ e) (lay : Nat → Option Nat) :
    A.W2 lay = 2 * A.F lay c e + 2 * A.r lay (lay c) c e c + 2 * A.r lay (lay e) c e e + A.Q2 lay c e := by
  have row : ∀ x, sm (A.wide * A.high) (fun y => A.F lay x y) = A.F lay x c + A.F lay x e + sm (A.wide * A.high) (fun y => if y = c ∨ y = e then 0 else A.F lay x y) := fun x => sm_two hc he hne _
  have rc : ∀ x, sm (A.wide * A.high) (fun y => if y = c ∨ y = e then 0 else A.F lay x y) = A.r lay (lay x) c e x := fun x => rfl
  unfold Ofc.W2
  rw [sm_two hc he hne, row c, row e, rc, rc, F_self, F_self, F_comm lay e c]
  have e1 : sm (A.wide * A.high) (fun x => if x = c ∨ x = e then 0 else sm (A.wide * A.high) (fun y => A.F lay x y)) = A.r lay (lay c) c e c + A.r lay (lay e) c e e + A.Q2 lay c e := by
    have : sm (A.wide * A.high) (fun x => if x = c ∨ x = e then 0 else sm (A.wide * A.high) (fun y => A.F lay x y)) = sm (A.wide * A.high) (fun x => ((if x = c ∨ x = e then 0 else A.F lay c x) + (if x = c ∨ x = e then 0 else A.F lay e x)) + (if x = c ∨ x = e then 0 else sm (A.wide * A.high) (fun y => if y = c ∨ y = e then 0 else A.F lay x y))) := by
      refine sm_congr (fun x _ => ?_)
      by_cases h : x = c ∨ x = e
      · simp only [h, if_true]
      · simp only [h, if_false]
        rw [row x, F_comm lay x c, F_comm lay x e]
    rw [this, sm_add, sm_add]
    rfl
  rw [e1]
  omega
def swl (lay : Nat → Option Nat) (c e : Nat) : Nat → Option Nat := fun x => if x = c then lay e else if x = e then lay c else lay x
theorem kin_r (O : OfcOk A) {c e : Nat} (hc : c < A.wide * A.high) (lay : Nat → Option Nat) (o : Option Nat) : A.kinO lay c (some e) o = A.r lay o c e c := by
  unfold Ofc.r
  have e1 : sm (A.wide * A.high) (fun y => if y = c ∨ y = e then 0 else if A.bes c y = true then A.likeO o (lay y) else 0) = sm (A.wide * A.high) (fun y => if A.bes c y = true then (if y = e then 0 else A.likeO o (lay y)) else 0) := by
    refine sm_congr (fun y _ => ?_)
    by_cases h1 : y = c
    · simp [h1, bes_self]
    · by_cases h2 : y = e
      · simp [h2]
      · simp [h1, h2]
  rw [e1, ← sides_sum O hc]
  cases o with
  | none =>
    symm
    refine sm_zero (fun k _ => ?_)
    cases A.side c k with
    | none => rfl
    | some y =>
      rw [om_some]
      have : ∀ x, A.likeO none x = 0 := fun _ => rfl
      simp [this]
  | some p =>
    refine zfor_congr (fun k n _ => ?_)
    dsimp only
    congr 1
    unfold Ofc.kinS
    cases A.side c k with
    | none => rfl
    | some y =>
      rw [om_some]
      by_cases h : y = e
      · simp [h]
      · simp [h, show ¬ e = y from fun hh => h hh.symm]
theorem kin_r' (O : OfcOk A) {c e : Nat} (he : e < A.wide * A.high) (lay : Nat → Option Nat) (o : Option Nat) : A.kinO lay e (some c) o = A.r lay o c e e := by
  rw [kin_r O he lay o]
  refine sm_congr (fun y _ => ?_)
  by_cases h1 : y = c <;> by_cases h2 : y = e <;> simp [h1, h2]
theorem W2_swap (O : OfcOk A) {c e : Nat} (hc : c < A.wide * A.high) (he : e < A.wide * A.high) (hne : c ≠ e) (lay : Nat → Option Nat) : (A.W2 (swl lay c e) : Int) = A.W2 lay + 2 * A.gain lay c e := by
  rw [W2_two hc he hne lay, W2_two hc he hne (swl lay c e)]
  unfold Ofc.gain
  rw [kin_r O hc, kin_r O hc, kin_r' O he, kin_r' O he]
  have hne' : ¬ e = c := fun h => hne h.symm
  have lc : swl lay c e c = lay e := by unfold swl; simp
  have le : swl lay c e e = lay c := by unfold swl; simp [hne']
  have lo : ∀ y, ¬ (y = c ∨ y = e) → swl lay c e y = lay y := fun y hy => by
    unfold swl
    rw [if_neg (fun h => hy (.inl h)), if_neg (fun h => hy (.inr h))]
  have hr : ∀ o x, A.r (swl lay c e) o c e x = A.r lay o c e x := fun o x => sm_congr (fun y _ => by
    by_cases h : y = c ∨ y = e
    · rw [if_pos h, if_pos h]
    · rw [if_neg h, if_neg h, lo y h])
  have hf : A.F (swl lay c e) c e = A.F lay c e := by
    unfold Ofc.F
    rw [lc, le, likeO_comm]
  have hq : A.Q2 (swl lay c e) c e = A.Q2 lay c e := sm_congr (fun x _ => by
    by_cases hx : x = c ∨ x = e
    · rw [if_pos hx, if_pos hx]
    · rw [if_neg hx, if_neg hx]
      refine sm_congr (fun y _ => ?_)
      by_cases h : y = c ∨ y = e
      · rw [if_pos h, if_pos h]
      · rw [if_neg h, if_neg h]
        unfold Ofc.F
        rw [lo x hx, lo y h])
  rw [lc, le, hr, hr, hf, hq]
  omega
theorem W2_who (O : OfcOk A) : A.W2 A.who = 2 * A.whole := by
  have e1 : A.W2 A.who = sm (A.wide * A.high) (fun c => A.sd 0 c + A.sd 1 c + (A.sd 2 c + A.sd 3 c)) := by
    refine sm_congr (fun c hc => ?_)
    have := sides_sum O hc (fun e => A.likeO (A.who c) (A.who e))
    refine this.symm.trans ?_
    simp only [sm_s, sm_0]
    unfold Ofc.sd
    omega
  have e3 : A.whole = sm (A.wide * A.high) (fun c => A.sd 2 c + A.sd 3 c) := by
    refine zfor_congr (fun c n _ => ?_)
    rw [sd_eq, sd_eq, Nat.add_assoc]
  have o1 : sm (A.wide * A.high) (A.sd 0) = sm (A.wide * A.high) (A.sd 3) := by
    have := opp_sum O 0 3 (fun c e hc he => (side_opp O hc he).1) (fun c e => A.likeO (A.who c) (A.who e))
    refine this.trans (sm_congr (fun e _ => ?_))
    unfold Ofc.sd
    cases A.side e 3 with
    | none => rfl
    | some c => exact likeO_comm _ _
  have o2 : sm (A.wide * A.high) (A.sd 1) = sm (A.wide * A.high) (A.sd 2) := by
    have := opp_sum O 1 2 (fun c e hc he => (side_opp O hc he).2) (fun c e => A.likeO (A.who c) (A.who e))
    refine this.trans (sm_congr (fun e _ => ?_))
    unfold Ofc.sd
    cases A.side e 2 with
    | none => rfl
    | some c => exact likeO_comm _ _
  have e4 : sm (A.wide * A.high) (fun c => A.sd 0 c + A.sd 1 c + (A.sd 2 c + A.sd 3 c)) = sm (A.wide * A.high) (A.sd 0) + sm (A.wide * A.high) (A.sd 1) + (sm (A.wide * A.high) (A.sd 2) + sm (A.wide * A.high) (A.sd 3)) := by
    rw [← sm_add, ← sm_add, ← sm_add]
  have e5 : sm (A.wide * A.high) (fun c => A.sd 2 c + A.sd 3 c) = sm (A.wide * A.high) (A.sd 2) + sm (A.wide * A.high) (A.sd 3) := by
    rw [← sm_add]
  rw [e1, e4, o1, o2, e3, e5]
  omega
/-- the whole likeness after an exchange -/
theorem whole_swa (O : OfcOk A) {c e : Nat} (hc : c < A.wide * A.high) (he : e < A.wide * A.high) (hne : c ≠ e) : ((A.swa c e).whole : Int) = A.whole + A.gain A.who c e := by
  have h1 := W2_who (swa_ok O hc he)
  have h2 := W2_swap O hc he hne A.who
  have h3 := W2_who O
  have h4 : (A.swa c e).W2 (A.swa c e).who = A.W2 (swl A.who c e) := by
    have : (A.swa c e).who = swl A.who c e := by
      funext x
      rw [swa_who O hc he x]
      unfold swl
      by_cases a1 : x = e
      · by_cases a2 : x = c
        · exact absurd (a2.symm.trans a1) hne
        · simp [a1, show ¬ e = c from fun h => hne h.symm]
      · simp [a1]
    rw [this]
    rfl
  rw [h4] at h1
  omega
theorem whole_le (O : OfcOk A) : A.whole ≤ 1152 := by
  have := totM_le O
  rw [← totM_eq O]
  omega
end GAI
