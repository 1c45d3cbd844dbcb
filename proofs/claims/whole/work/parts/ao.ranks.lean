/-! BEST: ranks, and what lies above and left of them -/
/-- the cell of a rank -/
def Ofc.cc (A : Ofc) (k : Nat) : Nat := (nth A.occ (A.wide * A.high) k).getD 0
def Ofc.wBe (A : Ofc) (i k : Nat) : Bool := A.bes (A.cc i) (A.cc k)
/-- the rank of what lies at a side -/
def Ofc.rkS (A : Ofc) (c s : Nat) : Option Nat := (A.side c s).bind (fun e => if A.occ e = true then some (ct A.occ e) else none)
section RNK
variable {A : Ofc}
theorem cc_is (O : OfcOk A) {k : Nat} (hk : k < A.N) : A.cc k < A.wide * A.high ∧ A.occ (A.cc k) = true ∧ ct A.occ (A.cc k) = k ∧ nth A.occ (A.wide * A.high) k = some (A.cc k) := by
  obtain ⟨c, hc⟩ := nth_ex (P := A.occ) (n := A.wide * A.high) (k := k) (by rw [N_occ O]; exact hk)
  have e : A.cc k = c := by unfold Ofc.cc; rw [hc]; rfl
  obtain ⟨h1, h2, h3⟩ := nth_is hc
  rw [e]
  exact ⟨h1, h2, h3, hc⟩
theorem cc_of (O : OfcOk A) {c : Nat} (h : A.occ c = true) : A.cc (ct A.occ c) = c ∧ ct A.occ c < A.N := by
  have hc := occ_c O h
  refine ⟨?_, occ_N O h⟩
  unfold Ofc.cc
  rw [nth_of hc h]
  rfl
theorem cc_lt (O : OfcOk A) {i k : Nat} (hk : k < A.N) (hi : i < k) : A.cc i < A.cc k := by
  obtain ⟨a1, a2, a3, _⟩ := cc_is O hk
  obtain ⟨b1, b2, b3, _⟩ := cc_is O (show i < A.N by omega)
  rcases Nat.lt_or_ge (A.cc i) (A.cc k) with h | h
  · exact h
  · have := ct_mono (P := A.occ) h
    omega
theorem side01 {c e s : Nat} (hs : s < 2) (h : A.side c s = some e) : e < c := by
  have h2 : s = 0 ∨ s = 1 := by omega
  have hd := Nat.div_mul_le_self c A.wide
  rcases h2 with rfl | rfl
  · have h : (if 0 < c / A.wide then some (c - A.wide) else none) = some e := h
    split at h
    · next hh =>
      cases h
      have hw : 0 < A.wide := by
        rcases Nat.eq_zero_or_pos A.wide with h0 | h0
        · rw [h0, Nat.div_zero] at hh; omega
        · exact h0
      have := Nat.mul_le_mul_right A.wide hh
      omega
    · cases h
  · have h : (if 0 < c % A.wide then some (c - 1) else none) = some e := h
    split at h
    · next hh =>
      cases h
      have := Nat.mod_le c A.wide
      omega
    · cases h
theorem side23 (O : OfcOk A) {c e s : Nat} (hs : 2 ≤ s) (h : A.side c s = some e) : c < e := by
  have hw := O.w1
  unfold Ofc.side at h
  split at h
  · omega
  · omega
  · split at h
    · cases h; omega
    · cases h
  · split at h
    · cases h; omega
    · cases h
theorem side_dis (O : OfcOk A) {c e : Nat} (h0 : A.side c 0 = some e) (h1 : A.side c 1 = some e) : False := by
  have h0 : (if 0 < c / A.wide then some (c - A.wide) else none) = some e := h0
  have h1 : (if 0 < c % A.wide then some (c - 1) else none) = some e := h1
  split at h0
  · next hh =>
    cases h0
    split at h1
    · next hm =>
      have h1 : c - 1 = c - A.wide := Option.some.inj h1
      have hw := O.w1
      have hd := Nat.div_mul_le_self c A.wide
      have hq := Nat.mul_le_mul_right A.wide hh
      have : A.wide = 1 := by omega
      rw [this, Nat.mod_one] at hm
      omega
    · cases h1
  · cases h0
theorem bes_up (O : OfcOk A) {c e : Nat} (hc : c < A.wide * A.high) (he : e < A.wide * A.high) (h : e < c) : A.bes e c = true ↔ (A.side c 0 = some e ∨ A.side c 1 = some e) := by
  have hs := sides O hc
  rw [bes_comm e c]
  refine ⟨fun hb => ?_, fun hh => ?_⟩
  · have hm : e ∈ (List.range (A.wide * A.high)).filter (fun e => A.bes c e) := List.mem_filter.mpr ⟨List.mem_range.mpr he, hb⟩
    rw [← hs] at hm
    obtain ⟨s, hs1, hs2⟩ := List.mem_filterMap.mp hm
    have h4 := List.mem_range.mp hs1
    have h3 : s = 0 ∨ s = 1 ∨ 2 ≤ s := by omega
    rcases h3 with rfl | rfl | h3
    · exact .inl hs2
    · exact .inr hs2
    · have := side23 O h3 hs2
      omega
  · have key : ∀ s, s < 4 → A.side c s = some e → A.bes c e = true := fun s h4 hs2 => by
      have hm : e ∈ (List.range 4).filterMap (A.side c) := List.mem_filterMap.mpr ⟨s, List.mem_range.mpr h4, hs2⟩
      rw [hs] at hm
      exact (List.mem_filter.mp hm).2
    rcases hh with h0 | h0
    · exact key 0 (by decide) h0
    · exact key 1 (by decide) h0
theorem rkS_iff (O : OfcOk A) {k i s : Nat} (hi : i < A.N) : A.rkS (A.cc k) s = some i ↔ A.side (A.cc k) s = some (A.cc i) := by
  obtain ⟨b1, b2, b3, _⟩ := cc_is O hi
  unfold Ofc.rkS
  refine ⟨fun h => ?_, fun h => ?_⟩
  · cases hs : A.side (A.cc k) s with
    | none => rw [hs] at h; cases h
    | some e =>
      rw [hs] at h
      have h : (if A.occ e = true then some (ct A.occ e) else none) = some i := h
      split at h
      · next ho =>
        have h := Option.some.inj h
        rw [← h, (cc_of O ho).1]
      · cases h
  · rw [h]
    show (if A.occ (A.cc i) = true then some (ct A.occ (A.cc i)) else none) = some i
    rw [if_pos b2, b3]
theorem rkS_lt (O : OfcOk A) {k i s : Nat} (hk : k < A.N) (hs : s < 2) (h : A.rkS (A.cc k) s = some i) : i < k := by
  obtain ⟨a1, a2, a3, _⟩ := cc_is O hk
  unfold Ofc.rkS at h
  cases he : A.side (A.cc k) s with
  | none => rw [he] at h; cases h
  | some e =>
    rw [he] at h
    have h : (if A.occ e = true then some (ct A.occ e) else none) = some i := h
    split at h
    · next ho =>
      have h := Option.some.inj h
      have := ct_lt (P := A.occ) (side01 hs he) ho
      omega
    · cases h
/-- a sum over the ranks beside, before -/
theorem sm_be (O : OfcOk A) {k : Nat} (hk : k < A.N) (X : Nat → Nat) : sm k (fun i => if A.wBe i k = true then X i else 0) = om (A.rkS (A.cc k) 0) X + om (A.rkS (A.cc k) 1) X := by
  obtain ⟨a1, a2, a3, _⟩ := cc_is O hk
  rw [← sm_oneO (n := k) (fun i h => rkS_lt O hk (by decide) h) X, ← sm_oneO (n := k) (o := A.rkS (A.cc k) 1) (fun i h => rkS_lt O hk (by decide) h) X, ← sm_add]
  refine sm_congr (fun i hi => ?_)
  have hi2 : i < A.N := by omega
  obtain ⟨b1, b2, b3, _⟩ := cc_is O hi2
  have hb := bes_up O a1 b1 (cc_lt O hk hi)
  have r0 := rkS_iff O (k := k) (s := 0) hi2
  have r1 := rkS_iff O (k := k) (s := 1) hi2
  by_cases h0 : A.side (A.cc k) 0 = some (A.cc i)
  · rw [if_pos (show A.wBe i k = true from hb.mpr (.inl h0)), if_pos (r0.mpr h0), if_neg (fun h => side_dis O h0 (r1.mp h)), Nat.add_zero]
  · by_cases h1 : A.side (A.cc k) 1 = some (A.cc i)
    · rw [if_pos (show A.wBe i k = true from hb.mpr (.inr h1)), if_neg (fun h => h0 (r0.mp h)), if_pos (r1.mpr h1), Nat.zero_add]
    · rw [if_neg (show ¬ A.wBe i k = true from fun h => (hb.mp h).elim h0 h1), if_neg (fun h => h0 (r0.mp h)), if_neg (fun h => h1 (r1.mp h))]
theorem gAd_be (O : OfcOk A) {k : Nat} (hk : k < A.N) (F : Nat → Nat → Nat) (t : Nat → Nat) (p : Nat) : gAd A.wBe F k t p = om (A.rkS (A.cc k) 0) (fun i => F (t i) p) + om (A.rkS (A.cc k) 1) (fun i => F (t i) p) :=
  sm_be O hk (fun i => F (t i) p)
theorem cfs_N : cfs A.wBe A.N A.N = 0 := sm_zero (fun j hj => if_neg (by omega))
def o1 (o : Option Nat) : Nat := if o = none then 0 else 1
theorem o1_om (o : Option Nat) : om o (fun _ => 1) = o1 o := by cases o <;> rfl
theorem cfs_s (O : OfcOk A) {k : Nat} (hk : k < A.N) : cfs A.wBe A.N k = cfs A.wBe A.N (k + 1) + o1 (A.rkS (A.cc k) 0) + o1 (A.rkS (A.cc k) 1) := by
  have h := addF_s (w := A.wBe) (F := fun _ _ => 1) hk (fun i => i)
  have e := gAd_be O hk (fun _ _ => 1) (fun i => i) k
  rw [o1_om, o1_om] at e
  have e1 : ∀ j, cfs A.wBe A.N j = addF A.wBe (fun _ _ => 1) A.N j (fun i => i) := fun _ => rfl
  rw [e1, e1, h, e, Nat.add_assoc]
theorem o1_le (o : Option Nat) : o1 o ≤ 1 := by unfold o1; split <;> omega
theorem cfs_le (O : OfcOk A) : ∀ d k, k + d = A.N → cfs A.wBe A.N k ≤ 2 * d := by
  intro d
  induction d with
  | zero => intro k hk; rw [show k = A.N from by omega, cfs_N]; exact Nat.le_refl _
  | succ d ih =>
    intro k hk
    have := ih (k + 1) (by omega)
    have h := cfs_s O (show k < A.N by omega)
    have a := o1_le (A.rkS (A.cc k) 0)
    have b := o1_le (A.rkS (A.cc k) 1)
    omega
theorem cfs16 (O : OfcOk A) {k : Nat} (hk : k ≤ A.N) : cfs A.wBe A.N k ≤ 16 := by
  have := cfs_le O (A.N - k) k (by omega)
  have := N8 O
  omega
/-- how it lies now is one of the ways -/
def Ofc.yw (A : Ofc) (k : Nat) : Nat := (A.who (A.cc k)).getD 0
theorem yw_is (O : OfcOk A) {k : Nat} (hk : k < A.N) : A.who (A.cc k) = some (A.yw k) ∧ A.lie (A.yw k) = true ∧ A.yw k < A.np := by
  obtain ⟨a1, a2, a3, _⟩ := cc_is O hk
  obtain ⟨q, hq⟩ := occ_who a2
  have e : A.yw k = q := by unfold Ofc.yw; rw [hq]; rfl
  rw [e]
  exact ⟨hq, who_lie hq, who_np O hq⟩
theorem yw_inj (O : OfcOk A) {i j : Nat} (hi : i < A.N) (hj : j < A.N) (h : A.yw i = A.yw j) : i = j := by
  have a := who_pl (yw_is O hi).1
  have b := who_pl (yw_is O hj).1
  rw [h, b] at a
  have e : A.cc j = A.cc i := Option.some.inj a
  have a3 := (cc_is O hi).2.2.1
  have b3 := (cc_is O hj).2.2.1
  rw [e] at b3
  omega
theorem whole_yw (O : OfcOk A) : addF A.wBe A.like A.N 0 A.yw = A.whole := by
  have e3 : A.whole = sm (A.wide * A.high) (fun c => A.sd 2 c + A.sd 3 c) := by
    refine zfor_congr (fun c n _ => ?_)
    rw [sd_eq, sd_eq, Nat.add_assoc]
  have o1 : sm (A.wide * A.high) (A.sd 0) = sm (A.wide * A.high) (A.sd 3) := by
    have := opp_sum O 0 3 (fun c e hc he => (side_opp O hc he).1) (fun c e => A.likeO (A.who c) (A.who e))
    refine this.trans (sm_congr (fun e _ => ?_))
    unfold Ofc.sd
    cases A.side e 3 with
    | none => rfl
    | some c => exact likeO_comm _ _
  have o2 : sm (A.wide * A.high) (A.sd 1) = sm (A.wide * A.high) (A.sd 2) := by
    have := opp_sum O 1 2 (fun c e hc he => (side_opp O hc he).2) (fun c e => A.likeO (A.who c) (A.who e))
    refine this.trans (sm_congr (fun e _ => ?_))
    unfold Ofc.sd
    cases A.side e 2 with
    | none => rfl
    | some c => exact likeO_comm _ _
  have e4 : A.whole = sm (A.wide * A.high) (fun c => A.sd 0 c + A.sd 1 c) := by
    rw [e3, sm_add, sm_add, o1, o2, Nat.add_comm]
  have e5 : sm (A.wide * A.high) (fun c => A.sd 0 c + A.sd 1 c) = sm (A.wide * A.high) (fun c => if A.occ c = true then A.sd 0 c + A.sd 1 c else 0) := sm_congr (fun c _ => by
    cases ho : A.occ c with
    | true => rw [if_pos rfl]
    | false =>
      have hw : A.who c = none := by
        unfold Ofc.occ at ho
        cases hw : A.who c with
        | none => rfl
        | some q => rw [hw] at ho; cases ho
      have z : ∀ s, A.sd s c = 0 := fun s => by
        unfold Ofc.sd
        rw [hw]
        cases A.side c s <;> rfl
      rw [if_neg Bool.false_ne_true, z, z])
  rw [e4, e5, ← nth_sum (P := A.occ) (fun c => A.sd 0 c + A.sd 1 c), N_occ O]
  refine sm_congr (fun k hk => ?_)
  obtain ⟨a1, a2, a3, a4⟩ := cc_is O hk
  rw [a4, om_some, if_pos (Nat.zero_le _), sm_be O hk (fun i => A.like (A.yw i) (A.yw k))]
  have hw := (yw_is O hk).1
  have key : ∀ s, s < 2 → om (A.rkS (A.cc k) s) (fun i => A.like (A.yw i) (A.yw k)) = A.sd s (A.cc k) := fun s hs => by
    unfold Ofc.sd Ofc.rkS
    cases he : A.side (A.cc k) s with
    | none => rfl
    | some e =>
      show om (if A.occ e = true then some (ct A.occ e) else none) _ = A.likeO (A.who (A.cc k)) (A.who e)
      cases ho : A.occ e with
      | true =>
        obtain ⟨c1, c2⟩ := cc_of O ho
        have hy := (yw_is O c2).1
        rw [c1] at hy
        rw [if_pos rfl, om_some, hw, hy]
        exact like_comm _ _
      | false =>
        have hn : A.who e = none := by
          unfold Ofc.occ at ho
          cases hn : A.who e with
          | none => rfl
          | some q => rw [hn] at ho; cases ho
        rw [if_neg Bool.false_ne_true, om_none, hn, hw]
        rfl
  rw [key 0 (by decide), key 1 (by decide)]
end RNK
