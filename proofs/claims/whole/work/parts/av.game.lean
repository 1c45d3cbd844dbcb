/-! GAMES: what a lay is worth -/
/-- the couples of cells beside each other, in order -/
def prsW (w h : Nat) : List (Nat × Nat) := (List.range (2 * (w * h))).filterMap (fun k => (sideW w h (k / 2) (2 + k % 2)).map (fun e => (k / 2, e)))
def rowW (w h a : Nat) : List (Nat × Nat) := ((List.range (w * h)).filter (fun b => decide (a < b) && besW w a b)).map (fun b => (a, b))
def Ofc.prs (A : Ofc) : List (Nat × Nat) := prsW A.wide A.high
def geo3b (w h : Nat) : Bool := decide (prsW w h = (List.range (w * h)).flatMap (rowW w h)) && decide ((prsW w h).length ≤ 31) && (prsW w h).all (fun p => decide (p.1 < p.2) && decide (p.2 < w * h))
theorem geo3 : ∀ w, w < 5 → ∀ h, h < 5 → geo3b (w + 1) h = true := by decide +kernel
/-- the better of two for the clerk (true), for the modern man (false) -/
def mxg (cl : Bool) (x y : Nat) : Nat := if cl = true then max x y else min x y
def stl (cl : Bool) (st : Option (Nat × Option Nat)) (v : Nat) (m : Option Nat) : Nat × Option Nat := match st with
  | none => (v, m)
  | some c => if (if cl = true then c.1 < v else v < c.1) then (v, m) else c
def Ofc.canG (B : Ofc) (p : Nat × Nat) : Bool := (B.who p.1).isSome || (B.who p.2).isSome
def gst (cl : Bool) (val : Ofc → Nat) (B : Ofc) (st : Option (Nat × Option Nat)) (p : Nat × Nat) : Option (Nat × Option Nat) :=
  if B.canG p = true then some (stl cl st (val (B.swa p.1 p.2)) (some (100 * p.1 + p.2))) else st
/-- the worth of a lay with n turns to come, cl: the clerk's turn; and the swap that gives it (none: none) -/
def gm : Nat → Bool → Ofc → Nat × Option Nat
  | 0, _, B => (B.whole, none)
  | n + 1, cl, B => stl cl (B.prs.foldl (gst cl (fun C => (gm n (!cl) C).1) B) none) (gm n (!cl) B).1 none
def wst (cl : Bool) (val : Ofc → Nat) (B : Ofc) (x : Nat) (p : Nat × Nat) : Nat := if B.canG p = true then mxg cl x (val (B.swa p.1 p.2)) else x
/-- r tells where x stands between low and high -/
def ABw (r x : Nat) (low high : Int) : Prop := (low < r → (r : Int) < high → r = x) ∧ ((r : Int) ≤ low → (x : Int) ≤ low) ∧ (high ≤ r → high ≤ (x : Int))
section GME
variable {A B : Ofc}
theorem prs_is (O : OfcOk A) : A.prs = (List.range (A.wide * A.high)).flatMap (rowW A.wide A.high) ∧ A.prs.length ≤ 31 ∧ ∀ p, p ∈ A.prs → p.1 < p.2 ∧ p.2 < A.wide * A.high := by
  have h1 := O.w1
  have h5 := O.w5
  have h4 := O.h4
  obtain ⟨w, hw⟩ : ∃ w, A.wide = w + 1 := ⟨A.wide - 1, by omega⟩
  have h := geo3 w (by omega) A.high (by omega)
  unfold geo3b at h
  rw [Bool.and_eq_true, Bool.and_eq_true, decide_eq_true_eq, decide_eq_true_eq, List.all_eq_true] at h
  obtain ⟨⟨g1, g2⟩, g3⟩ := h
  unfold Ofc.prs
  rw [hw]
  refine ⟨g1, g2, fun p hp => ?_⟩
  have := g3 p hp
  rw [Bool.and_eq_true, decide_eq_true_eq, decide_eq_true_eq] at this
  exact this
theorem stl_val (cl : Bool) (st : Option (Nat × Option Nat)) (v v0 : Nat) (t m : Option Nat) : (stl cl (some (stl cl st v t)) v0 m).1 = mxg cl (stl cl st v0 m).1 v := by
  unfold mxg
  cases st with
  | none =>
    unfold stl
    dsimp only
    cases cl <;> simp only [if_true, Bool.false_eq_true, if_false]
    · split
      · show v0 = min v0 v; omega
      · show v = min v0 v; omega
    · split
      · show v0 = max v0 v; omega
      · show v = max v0 v; omega
  | some c =>
    unfold stl
    dsimp only
    cases cl <;> simp only [if_true, Bool.false_eq_true, if_false]
    · by_cases h1 : v < c.1
      · rw [if_pos h1]
        dsimp only
        by_cases h2 : v0 < v
        · rw [if_pos h2, if_pos (by omega)]; show v0 = min v0 v; omega
        · rw [if_neg h2]
          split
          · show v = min v0 v; omega
          · show v = min c.1 v; omega
      · rw [if_neg h1]
        by_cases h2 : v0 < c.1
        · rw [if_pos h2]; show v0 = min v0 v; omega
        · rw [if_neg h2]; show c.1 = min c.1 v; omega
    · by_cases h1 : c.1 < v
      · rw [if_pos h1]
        dsimp only
        by_cases h2 : v < v0
        · rw [if_pos h2, if_pos (by omega)]; show v0 = max v0 v; omega
        · rw [if_neg h2]
          split
          · show v = max v0 v; omega
          · show v = max c.1 v; omega
      · rw [if_neg h1]
        by_cases h2 : c.1 < v0
        · rw [if_pos h2]; show v0 = max v0 v; omega
        · rw [if_neg h2]; show c.1 = max c.1 v; omega
theorem gst_val (cl : Bool) (val : Ofc → Nat) (v0 : Nat) : ∀ (L : List (Nat × Nat)) (st : Option (Nat × Option Nat)), (stl cl (L.foldl (gst cl val B) st) v0 none).1 = L.foldl (wst cl val B) (stl cl st v0 none).1 := by
  intro L
  induction L with
  | nil => intro st; rfl
  | cons p L ih =>
    intro st
    rw [List.foldl_cons, List.foldl_cons, ih]
    congr 1
    unfold gst wst
    by_cases h : B.canG p = true
    · rw [if_pos h, if_pos h, stl_val]
    · rw [if_neg h, if_neg h]
theorem gm_val (n : Nat) (cl : Bool) (B : Ofc) : (gm (n + 1) cl B).1 = B.prs.foldl (wst cl (fun C => (gm n (!cl) C).1) B) (gm n (!cl) B).1 := by
  show (stl cl (B.prs.foldl (gst cl (fun C => (gm n (!cl) C).1) B) none) (gm n (!cl) B).1 none).1 = _
  rw [gst_val]
  rfl
theorem wst_mono (cl : Bool) (val : Ofc → Nat) : ∀ (L : List (Nat × Nat)) (x : Nat), (cl = true → x ≤ L.foldl (wst cl val B) x) ∧ (cl = false → L.foldl (wst cl val B) x ≤ x) := by
  intro L
  induction L with
  | nil => intro x; exact ⟨fun _ => Nat.le_refl _, fun _ => Nat.le_refl _⟩
  | cons p L ih =>
    intro x
    rw [List.foldl_cons]
    obtain ⟨h1, h2⟩ := ih (wst cl val B x p)
    refine ⟨fun h => Nat.le_trans ?_ (h1 h), fun h => Nat.le_trans (h2 h) ?_⟩
    · subst h
      unfold wst mxg
      split
      · rw [if_pos rfl]; exact Nat.le_max_left ..
      · exact Nat.le_refl _
    · subst h
      unfold wst mxg
      split
      · rw [if_neg Bool.false_ne_true]; exact Nat.min_le_left ..
      · exact Nat.le_refl _
theorem ABw.refl (x : Nat) (low high : Int) : ABw x x low high := ⟨fun _ _ => rfl, fun h => h, fun h => h⟩
theorem ABw.up {r x w' w : Nat} {low high : Int} (h : ABw r x low high) (hf : max low (r : Int) < high) (hw : ABw w' w (max low (r : Int)) high) : ABw (max r w') (max x w) low high := by
  obtain ⟨a1, a2, a3⟩ := h
  obtain ⟨b1, b2, b3⟩ := hw
  refine ⟨fun c1 c2 => ?_, fun c1 => ?_, fun c1 => ?_⟩
  · by_cases hr : low < (r : Int)
    · have e := a1 hr (by omega)
      by_cases hq : (w' : Int) ≤ r
      · have := b2 (by omega); omega
      · have := b1 (by omega) (by omega); omega
    · have := a2 (by omega)
      have := b1 (by omega) (by omega)
      omega
  · have := a2 (by omega)
    have := b2 (by omega)
    omega
  · by_cases hr : high ≤ (r : Int)
    · omega
    · have := b3 (by omega); omega
theorem ABw.dn {r x w' w : Nat} {low high : Int} (h : ABw r x low high) (hf : low < min high (r : Int)) (hw : ABw w' w low (min high (r : Int))) : ABw (min r w') (min x w) low high := by
  obtain ⟨a1, a2, a3⟩ := h
  obtain ⟨b1, b2, b3⟩ := hw
  refine ⟨fun c1 c2 => ?_, fun c1 => ?_, fun c1 => ?_⟩
  · by_cases hr : (r : Int) < high
    · have e := a1 (by omega) hr
      by_cases hq : (r : Int) ≤ w'
      · have := b3 (by omega); omega
      · have := b1 (by omega) (by omega); omega
    · have := a3 (by omega)
      have := b1 (by omega) (by omega)
      omega
  · by_cases hr : (r : Int) ≤ low
    · omega
    · have := b2 (by omega); omega
  · have := a3 (by omega)
    have := b3 (by omega)
    omega
/-- what the game does with an Office: the papers lie elsewhere -/
theorem setPl_setPl (f g : Nat → Option Nat) : (A.setPl f).setPl g = A.setPl g := rfl
theorem setPl_prs (f : Nat → Option Nat) : (A.setPl f).prs = A.prs := rfl
theorem setPl_side (f : Nat → Option Nat) (c k : Nat) : (A.setPl f).side c k = A.side c k := rfl
theorem setPl_gain (f : Nat → Option Nat) (lay : Nat → Option Nat) (c e : Nat) : (A.setPl f).gain lay c e = A.gain lay c e := rfl
theorem gm_le : ∀ (n : Nat) (cl : Bool) (B : Ofc), OfcOk B → (gm n cl B).1 ≤ 1152 := by
  intro n
  induction n with
  | zero => intro cl B O; exact whole_le O
  | succ n ih =>
    intro cl B O
    rw [gm_val]
    have key : ∀ (L : List (Nat × Nat)) (x : Nat), (∀ p, p ∈ L → p.1 < p.2 ∧ p.2 < B.wide * B.high) → x ≤ 1152 → L.foldl (wst cl (fun C => (gm n (!cl) C).1) B) x ≤ 1152 := by
      intro L
      induction L with
      | nil => intro x _ hx; exact hx
      | cons p L ih2 =>
        intro x hL hx
        rw [List.foldl_cons]
        refine ih2 _ (fun q hq => hL q (List.mem_cons_of_mem _ hq)) ?_
        obtain ⟨p1, p2⟩ := hL p (List.mem_cons_self ..)
        have := ih (!cl) (B.swa p.1 p.2) (swa_ok O (by omega) p2)
        unfold wst mxg
        dsimp only
        split
        · split <;> omega
        · exact hx
    exact key _ _ (prs_is O).2.2 (ih _ _ O)
end GME
