/-! SUMS, AND THE FLOOR'S SIDES -/
def sm (n : Nat) (f : Nat → Nat) : Nat := zfor (fun i x => x + f i) n 0
theorem sm_s (n : Nat) (f : Nat → Nat) : sm (n + 1) f = sm n f + f n := rfl
theorem sm_0 (f : Nat → Nat) : sm 0 f = 0 := rfl
theorem sm_congr {n : Nat} {f g : Nat → Nat} (h : ∀ i, i < n → f i = g i) : sm n f = sm n g := by
  induction n with
  | zero => rfl
  | succ n ih => rw [sm_s, sm_s, ih (fun i hi => h i (by omega)), h n (by omega)]
theorem sm_zero {n : Nat} {f : Nat → Nat} (h : ∀ i, i < n → f i = 0) : sm n f = 0 := by
  induction n with
  | zero => rfl
  | succ n ih => rw [sm_s, ih (fun i hi => h i (by omega)), h n (by omega)]
theorem sm_add (n : Nat) (f g : Nat → Nat) : sm n (fun i => f i + g i) = sm n f + sm n g := by
  induction n with
  | zero => rfl
  | succ n ih => rw [sm_s, sm_s, sm_s, ih]; omega
theorem sm_swap (n m : Nat) (f : Nat → Nat → Nat) : sm n (fun i => sm m (fun j => f i j)) = sm m (fun j => sm n (fun i => f i j)) := by
  induction n with
  | zero => rw [sm_0]; exact (sm_zero (fun _ _ => rfl)).symm
  | succ n ih =>
    rw [sm_s, ih, ← sm_add]
    rfl
theorem sm_one {n k : Nat} (hk : k < n) (f : Nat → Nat) : sm n (fun i => if i = k then f i else 0) = f k := by
  induction n with
  | zero => omega
  | succ n ih =>
    rw [sm_s]
    by_cases h : n = k
    · subst h
      rw [sm_zero (fun i hi => if_neg (by omega)), if_pos rfl, Nat.zero_add]
    · rw [ih (by omega), if_neg h, Nat.add_zero]
def om (o : Option Nat) (f : Nat → Nat) : Nat := match o with
  | none => 0
  | some k => f k
theorem om_none (f : Nat → Nat) : om none f = 0 := rfl
theorem om_some (k : Nat) (f : Nat → Nat) : om (some k) f = f k := rfl
theorem sm_oneO {n : Nat} {o : Option Nat} (ho : ∀ k, o = some k → k < n) (f : Nat → Nat) : sm n (fun i => if o = some i then f i else 0) = om o f := by
  cases o with
  | none => exact sm_zero (fun _ _ => if_neg (by intro h; cases h))
  | some k =>
    rw [om_some, ← sm_one (ho k rfl) f]
    refine sm_congr (fun i _ => ?_)
    by_cases h : i = k
    · rw [if_pos h, if_pos (by rw [h])]
    · rw [if_neg h, if_neg (by intro hh; cases hh; exact h rfl)]
theorem zfor_list {α : Type} (g : Nat → α → α) (n : Nat) (a : α) : zfor g n a = (List.range n).foldl (fun x i => g i x) a := by
  induction n with
  | zero => rfl
  | succ n ih => rw [List.range_succ, List.foldl_append, ← ih]; rfl
theorem zfor_congr {α : Type} {g h : Nat → α → α} {n : Nat} {a : α} (e : ∀ i x, i < n → g i x = h i x) : zfor g n a = zfor h n a := by
  induction n with
  | zero => rfl
  | succ n ih =>
    show g n (zfor g n a) = h n (zfor h n a)
    rw [ih (fun i x hi => e i x (by omega)), e n _ (by omega)]
theorem sm_filter (n : Nat) (b : Nat → Bool) (g : Nat → Nat) : sm n (fun e => if b e = true then g e else 0) = (((List.range n).filter b).map g).sum := by
  induction n with
  | zero => rfl
  | succ n ih =>
    rw [sm_s, ih, List.range_succ, List.filter_append, List.map_append, List.sum_append]
    cases hb : b n <;> simp [hb]
theorem sm_fmap (n : Nat) (F : Nat → Option Nat) (g : Nat → Nat) : sm n (fun k => om (F k) fun e => g e) = (((List.range n).filterMap F).map g).sum := by
  induction n with
  | zero => rfl
  | succ n ih =>
    rw [sm_s, ih, List.range_succ, List.filterMap_append, List.map_append, List.sum_append]
    cases hb : F n <;> simp [hb, om_none, om_some]
def sideW (w h c k : Nat) : Option Nat := match k with
  | 0 => if 0 < c / w then some (c - w) else none
  | 1 => if 0 < c % w then some (c - 1) else none
  | 2 => if c % w + 1 < w then some (c + 1) else none
  | _ => if c / w + 1 < h then some (c + w) else none
theorem side_W (A : Ofc) (c k : Nat) : A.side c k = sideW A.wide A.high c k := by
  unfold Ofc.side sideW
  match k with
  | 0 => rfl
  | 1 => rfl
  | 2 => rfl
  | _ + 3 => rfl
def besN (x y u v : Nat) : Bool := decide ((x = y ∧ (u = v + 1 ∨ v = u + 1)) ∨ (u = v ∧ (x = y + 1 ∨ y = x + 1)))
def besW (w a b : Nat) : Bool := besN (a % w) (b % w) (a / w) (b / w)
def Ofc.bes (A : Ofc) (a b : Nat) : Bool := besW A.wide a b
theorem besN_comm (x y u v : Nat) : besN x y u v = besN y x v u := by
  unfold besN
  congr 1
  refine propext ⟨fun h => by omega, fun h => by omega⟩
def geo1b (w h c : Nat) : Bool := decide ((List.range 4).filterMap (sideW w h c) = (List.range (w * h)).filter (fun e => besW w c e))
def geo2b (w h c e : Nat) : Bool := decide (sideW w h c 0 = some e) == decide (sideW w h e 3 = some c) && decide (sideW w h c 1 = some e) == decide (sideW w h e 2 = some c)
theorem geo1 : ∀ w, w < 5 → ∀ h, h < 5 → ∀ c, c < (w + 1) * h → geo1b (w + 1) h c = true := by decide +kernel
theorem geo2 : ∀ w, w < 5 → ∀ h, h < 5 → ∀ c, c < (w + 1) * h → ∀ e, e < (w + 1) * h → geo2b (w + 1) h c e = true := by decide +kernel
section BRI
variable {A : Ofc}
theorem bes_comm (a b : Nat) : A.bes a b = A.bes b a := besN_comm _ _ _ _
theorem bes_self (c : Nat) : A.bes c c = false := by
  unfold Ofc.bes besW besN
  simp
theorem sides (O : OfcOk A) {c : Nat} (hc : c < A.wide * A.high) : (List.range 4).filterMap (A.side c) = (List.range (A.wide * A.high)).filter (fun e => A.bes c e) := by
  have h20 := cells20 O
  have h1 := O.w1
  have h5 := O.w5
  have h4 := O.h4
  rw [show A.side c = sideW A.wide A.high c from funext (fun k => side_W A c k)]
  obtain ⟨w, hw⟩ : ∃ w, A.wide = w + 1 := ⟨A.wide - 1, by omega⟩
  rw [hw] at hc ⊢
  have h := geo1 w (by omega) A.high (by omega) c hc
  unfold geo1b at h
  rw [decide_eq_true_eq] at h
  simp only [Ofc.bes, hw]
  exact h
theorem side_opp (O : OfcOk A) {c e : Nat} (hc : c < A.wide * A.high) (he : e < A.wide * A.high) : (A.side c 0 = some e ↔ A.side e 3 = some c) ∧ (A.side c 1 = some e ↔ A.side e 2 = some c) := by
  have h20 := cells20 O
  have h1 := O.w1
  have h5 := O.w5
  have h4 := O.h4
  simp only [side_W]
  obtain ⟨w, hw⟩ : ∃ w, A.wide = w + 1 := ⟨A.wide - 1, by omega⟩
  rw [hw] at hc he ⊢
  have h := geo2 w (by omega) A.high (by omega) c hc e he
  unfold geo2b at h
  rw [Bool.and_eq_true, beq_iff_eq, beq_iff_eq, decide_eq_decide, decide_eq_decide] at h
  exact h
theorem sides_sum (O : OfcOk A) {c : Nat} (hc : c < A.wide * A.high) (g : Nat → Nat) : sm 4 (fun k => om (A.side c k) fun e => g e) = sm (A.wide * A.high) (fun e => if A.bes c e = true then g e else 0) := by
  rw [sm_fmap, sm_filter, sides O hc]
/-- a sum over papers that lie is one over cells -/
theorem pl_sum (O : OfcOk A) (f : Nat → Nat → Nat) : sm A.np (fun o => om (A.pl o) fun e => f o e) = sm (A.wide * A.high) (fun e => om (A.who e) fun o => f o e) := by
  have e1 : sm A.np (fun o => om (A.pl o) fun e => f o e) = sm A.np (fun o => sm (A.wide * A.high) (fun e => if A.pl o = some e then f o e else 0)) := by
    refine sm_congr (fun o _ => ?_)
    rw [sm_oneO (fun k hk => O.plc o k hk) (f o)]
  rw [e1, sm_swap]
  refine sm_congr (fun e _ => ?_)
  rw [← sm_oneO (n := A.np) (o := A.who e) (fun k hk => who_np O hk) (fun o => f o e)]
  refine sm_congr (fun o _ => ?_)
  by_cases h : A.pl o = some e
  · rw [if_pos h, if_pos ((who_iff O).mpr h)]
  · rw [if_neg h, if_neg (fun hh => h ((who_iff O).mp hh))]
def Ofc.kinM (A : Ofc) (p c : Nat) : Nat := zfor (fun o n => if o ≠ p ∧ (match A.pl o with | none => false | some e => A.bes e c) = true then n + A.like p o else n) A.np 0
theorem kinM_eq (O : OfcOk A) {p c : Nat} (hc : c < A.wide * A.high) : A.kinM p c = A.kin A.who c (A.pl p) p := by
  have e1 : A.kinM p c = sm A.np (fun o => om (A.pl o) fun e => if A.bes c e = true then (if o = p then 0 else A.like p o) else 0) := by
    refine zfor_congr (fun o n _ => ?_)
    dsimp only
    cases h : A.pl o with
    | none => simp [om_none]
    | some e =>
      by_cases h1 : o = p
      · simp [h1, om_some]
      · dsimp only
        simp only [bes_comm e c, om_some]
        cases hb : A.bes c e <;> simp [h1]
  rw [e1, pl_sum O]
  have e2 : A.kin A.who c (A.pl p) p = sm 4 (fun k => om (A.side c k) fun e => om (A.who e) fun o => if o = p then 0 else A.like p o) := by
    refine zfor_congr (fun k n _ => ?_)
    dsimp only
    congr 1
    unfold Ofc.kinS
    cases hs : A.side c k with
    | none => rfl
    | some e =>
      show (if A.pl p = some e then 0 else A.likeO (some p) (A.who e)) = om (A.who e) fun o => if o = p then 0 else A.like p o
      cases hw : A.who e with
      | none =>
        rw [if_neg (fun h => by rw [(who_iff O).mpr h] at hw; cases hw)]
        rfl
      | some o =>
        by_cases h : o = p
        · subst h
          rw [if_pos (who_pl hw), om_some, if_pos rfl]
        · rw [if_neg (fun hh => h (by rw [(who_iff O).mpr hh] at hw; cases hw; rfl))]
          rw [om_some, if_neg h]
          rfl
  rw [e2, sides_sum O hc]
  refine sm_congr (fun e _ => ?_)
  cases A.who e with
  | none => simp [om_none]
  | some o => rw [om_some, om_some]
theorem likeO_comm (o p : Option Nat) : A.likeO o p = A.likeO p o := by
  unfold Ofc.likeO
  cases o <;> cases p <;> simp [Ofc.like, Nat.and_comm]
def Ofc.totM (A : Ofc) : Nat := zfor (fun p n => match A.pl p with | none => n | some c => n + A.kin A.who c (A.pl p) p) A.np 0
theorem opp_sum (O : OfcOk A) (k l : Nat) (h : ∀ c e, c < A.wide * A.high → e < A.wide * A.high → (A.side c k = some e ↔ A.side e l = some c)) (L : Nat → Nat → Nat) :
    sm (A.wide * A.high) (fun c => om (A.side c k) fun e => L c e) = sm (A.wide * A.high) (fun e => om (A.side e l) fun c => L c e) := by
  have e1 : sm (A.wide * A.high) (fun c => om (A.side c k) fun e => L c e) = sm (A.wide * A.high) (fun c => sm (A.wide * A.high) (fun e => if A.side c k = some e then L c e else 0)) :=
    sm_congr (fun c hc => (sm_oneO (fun e he => side_lt O hc he) (L c)).symm)
  rw [e1, sm_swap]
  refine sm_congr (fun e he => ?_)
  rw [← sm_oneO (n := A.wide * A.high) (o := A.side e l) (fun c hc => side_lt O he hc) (fun c => L c e)]
  refine sm_congr (fun c hc => ?_)
  by_cases hh : A.side c k = some e
  · rw [if_pos hh, if_pos ((h c e hc he).mp hh)]
  · rw [if_neg hh, if_neg (fun h2 => hh ((h c e hc he).mpr h2))]
def Ofc.sd (A : Ofc) (k c : Nat) : Nat := om (A.side c k) fun e => A.likeO (A.who c) (A.who e)
theorem sd_eq (k c : Nat) : A.likeO (A.who c) ((A.side c k).bind A.who) = A.sd k c := by
  unfold Ofc.sd
  cases A.side c k with
  | none => cases A.who c <;> rfl
  | some e => rfl
theorem totM_eq (O : OfcOk A) : A.totM / 2 = A.whole := by
  have e1 : A.totM = sm A.np (fun p => om (A.pl p) fun c => sm 4 (fun k => om (A.side c k) fun e => A.likeO (some p) (A.who e))) := by
    refine zfor_congr (fun p n hp => ?_)
    dsimp only
    cases h : A.pl p with
    | none => rfl
    | some c =>
      dsimp only
      rw [om_some]
      congr 1
      refine zfor_congr (fun k n _ => ?_)
      dsimp only
      congr 1
      unfold Ofc.kinS
      cases hs : A.side c k with
      | none => rfl
      | some e =>
        show (if some c = some e then 0 else A.likeO (some p) (A.who e)) = A.likeO (some p) (A.who e)
        refine if_neg (fun hh => ?_)
        cases hh
        have h1 : c < A.wide * A.high := O.plc p _ h
        have h2 : c ∈ (List.range 4).filterMap (A.side c) ∨ 4 ≤ k := by
          rcases Nat.lt_or_ge k 4 with hk | hk
          · exact .inl (List.mem_filterMap.mpr ⟨k, List.mem_range.mpr hk, hs⟩)
          · exact .inr hk
        rcases h2 with h2 | h2
        · rw [sides O h1] at h2
          have := (List.mem_filter.mp h2).2
          rw [bes_self] at this
          cases this
        · omega
  rw [e1, pl_sum O]
  have e2 : sm (A.wide * A.high) (fun c => om (A.who c) fun p => sm 4 (fun k => om (A.side c k) fun e => A.likeO (some p) (A.who e))) = sm (A.wide * A.high) (fun c => A.sd 0 c + A.sd 1 c + (A.sd 2 c + A.sd 3 c)) := by
    refine sm_congr (fun c _ => ?_)
    unfold Ofc.sd
    cases hw : A.who c with
    | none =>
      have : ∀ o, A.likeO none o = 0 := fun o => rfl
      simp only [this]
      cases A.side c 0 <;> cases A.side c 1 <;> cases A.side c 2 <;> cases A.side c 3 <;> rfl
    | some p => simp only [sm_s, sm_0, om_some]; omega
  have e3 : A.whole = sm (A.wide * A.high) (fun c => A.sd 2 c + A.sd 3 c) := by
    refine zfor_congr (fun c n _ => ?_)
    rw [sd_eq, sd_eq, Nat.add_assoc]
  have o1 : sm (A.wide * A.high) (A.sd 0) = sm (A.wide * A.high) (A.sd 3) := by
    have := opp_sum O 0 3 (fun c e hc he => (side_opp O hc he).1) (fun c e => A.likeO (A.who c) (A.who e))
    refine this.trans (sm_congr (fun e _ => ?_))
    unfold Ofc.sd
    cases A.side e 3 with
    | none => rfl
    | some c => exact likeO_comm _ _
  have o2 : sm (A.wide * A.high) (A.sd 1) = sm (A.wide * A.high) (A.sd 2) := by
    have := opp_sum O 1 2 (fun c e hc he => (side_opp O hc he).2) (fun c e => A.likeO (A.who c) (A.who e))
    refine this.trans (sm_congr (fun e _ => ?_))
    unfold Ofc.sd
    cases A.side e 2 with
    | none => rfl
    | some c => exact likeO_comm _ _
  have e4 : sm (A.wide * A.high) (fun c => A.sd 0 c + A.sd 1 c + (A.sd 2 c + A.sd 3 c)) = sm (A.wide * A.high) (A.sd 0) + sm (A.wide * A.high) (A.sd 1) + (sm (A.wide * A.high) (A.sd 2) + sm (A.wide * A.high) (A.sd 3)) := by
    rw [← sm_add, ← sm_add, ← sm_add]
  have e5 : sm (A.wide * A.high) (fun c => A.sd 2 c + A.sd 3 c) = sm (A.wide * A.high) (A.sd 2) + sm (A.wide * A.high) (A.sd 3) := by
    rw [← sm_add]
  rw [e2, e4, o1, o2, e3, e5]
  omega
end BRI
