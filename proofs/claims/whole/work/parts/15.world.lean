/-! THE SMALL MACHINE'S HEAP AS CELLS OF THE MACHINE: X = (where the new cells begin, the script's cell, the Strings' cells) -/
abbrev zXe : Type := Nat × Nat × (Nat → Nat)
def zEo (X : zXe) (r : Nat) : Option Nat := if r = 0 then some X.2.1 else if r < zNul then some (X.1 + (r - 1)) else if r < zStr then none else some (X.2.2 (r - zStr))
def zE (X : zXe) (r : Nat) : Value := va_rf (zEo X r)
def zV (X : zXe) (v : Value) : Value := match v with
  | .ref r => zE X r
  | v => v
theorem zE_in {X : zXe} {r : Nat} (h1 : 1 ≤ r) (h2 : r < zNul) : zE X r = .ref (X.1 + (r - 1)) := by
  unfold zE zEo
  rw [if_neg (by omega), if_pos h2]
  rfl
theorem zE_0 {X : zXe} : zE X 0 = .ref X.2.1 := rfl
theorem zE_cat {X : zXe} {r : Nat} : (zE X r).category = 1 := by
  unfold zE va_rf
  cases zEo X r <;> rfl
theorem zV_cat {X : zXe} {v : Value} : (zV X v).category = v.category := by
  cases v with
  | ref r => exact zE_cat
  | _ => rfl
def zfv (X : zXe) (σ : MS) (r ci k : Nat) : Value := match zft ci k with
  | 1 => .long (sL σ r k)
  | 2 => zE X (sR σ r k)
  | _ => .int (sI σ r k)
def zcell (X : zXe) (cA : Nat → ClassId) (σ : MS) (r : Nat) : va_E :=
  if (sK σ r).1 = 0 then .inr ((sK σ r).2, (List.range (znf (sK σ r).2)).map (zfv X σ r (sK σ r).2))
  else if (sK σ r).1 = 2 then .inl (cA 2, (sK σ r).2, .inr (.inl (sL σ r)))
  else if (sK σ r).1 < 40 then .inl (cA (sK σ r).1, (sK σ r).2, .inl (sI σ r))
  else .inl (cA (sK σ r).1, (sK σ r).2, .inr (.inr (.inr (.inr (fun j => zEo X (sR σ r j))))))
def zws (X : zXe) (cA : Nat → ClassId) (σ : MS) : va_W := (List.range (σ.1.length - 1)).map (fun j => (X.1 + j, zcell X cA σ (j + 1)))
theorem zws_at {X : zXe} {cA : Nat → ClassId} {σ : MS} {r : Nat} (h1 : 1 ≤ r) (h2 : r < σ.1.length) : (zws X cA σ)[r - 1]? = some (X.1 + (r - 1), zcell X cA σ r) := by
  unfold zws
  rw [List.getElem?_map, List.getElem?_range (by omega)]
  simp only [Option.map_some]
  rw [show r - 1 + 1 = r by omega]
theorem zws_get {X : zXe} {cA : Nat → ClassId} {σ : MS} {j : Nat} {q : Nat × va_E} (h : (zws X cA σ)[j]? = some q) : j + 1 < σ.1.length ∧ q = (X.1 + j, zcell X cA σ (j + 1)) := by
  unfold zws at h
  rw [List.getElem?_map] at h
  cases hj : (List.range (σ.1.length - 1))[j]? with
  | none => rw [hj] at h; cases h
  | some k =>
    rw [hj] at h
    have h1 := List.getElem?_eq_some_iff.mp hj
    obtain ⟨h2, h3⟩ := h1
    rw [List.length_range] at h2
    rw [List.getElem_range] at h3
    subst h3
    cases h
    exact ⟨by omega, rfl⟩
theorem zws_D {X : zXe} {cA : Nat → ClassId} {σ : MS} : va_D (fun q => X.1 ≤ q) (zws X cA σ) := by
  refine ⟨fun i j p q hi hj e => ?_, fun k q hk => ?_⟩
  · rw [(zws_get hi).2, (zws_get hj).2] at e
    dsimp only at e
    omega
  · rw [(zws_get hk).2]
    exact Nat.le_add_right _ _
/-- a heap that differs at one address alone -/
theorem zws_set {X : zXe} {cA : Nat → ClassId} {σ τ : MS} {r : Nat} (h1 : 1 ≤ r) (hl : τ.1 = σ.1) (hI : ∀ a, a ≠ r → ∀ i, sI τ a i = sI σ a i) (hL : ∀ a, a ≠ r → ∀ i, sL τ a i = sL σ a i) (hR : ∀ a, a ≠ r → ∀ i, sR τ a i = sR σ a i) :
    zws X cA τ = (zws X cA σ).set (r - 1) (X.1 + (r - 1), zcell X cA τ r) := by
  refine List.ext_getElem? fun j => ?_
  have hk : ∀ a, sK τ a = sK σ a := fun a => by unfold sK; rw [hl]
  by_cases hj : j + 1 < σ.1.length
  · by_cases hr : j = r - 1
    · subst hr
      rw [List.getElem?_set_self (by unfold zws; rw [List.length_map, List.length_range]; omega), zws_at h1 (by rw [hl]; omega)]
    · rw [List.getElem?_set_ne (by omega)]
      have e1 := zws_at (X := X) (cA := cA) (σ := τ) (r := j + 1) (by omega) (by rw [hl]; exact hj)
      have e2 := zws_at (X := X) (cA := cA) (σ := σ) (r := j + 1) (by omega) hj
      rw [Nat.add_sub_cancel] at e1 e2
      rw [e1, e2]
      have fI : sI τ (j + 1) = sI σ (j + 1) := funext fun i => hI _ (by omega) i
      have fL : sL τ (j + 1) = sL σ (j + 1) := funext fun i => hL _ (by omega) i
      have fR : sR τ (j + 1) = sR σ (j + 1) := funext fun i => hR _ (by omega) i
      have fv : ∀ ci, zfv X τ (j + 1) ci = zfv X σ (j + 1) ci := fun ci => funext fun k => by unfold zfv; rw [fI, fL, fR]
      unfold zcell
      rw [hk, fI, fL, fR, fv]
  · rw [List.getElem?_eq_none (by unfold zws; rw [List.length_map, List.length_range, hl]; omega), List.getElem?_eq_none (by rw [List.length_set]; unfold zws; rw [List.length_map, List.length_range]; omega)]
/-- one cell more -/
theorem zws_new {X : zXe} {cA : Nat → ClassId} {σ : MS} {k : Nat × Nat} (h1 : 1 ≤ σ.1.length) : zws X cA (zNew σ k) = zws X cA σ ++ [(X.1 + (σ.1.length - 1), zcell X cA (zNew σ k) σ.1.length)] := by
  refine List.ext_getElem? fun j => ?_
  have hlen : (zNew σ k).1.length = σ.1.length + 1 := by show (σ.1 ++ [k]).length = _; rw [List.length_append]; rfl
  have hz : (zws X cA σ).length = σ.1.length - 1 := by unfold zws; rw [List.length_map, List.length_range]
  by_cases hj : j + 1 < σ.1.length
  · rw [List.getElem?_append_left (by omega)]
    have e1 := zws_at (X := X) (cA := cA) (σ := zNew σ k) (r := j + 1) (by omega) (by omega)
    have e2 := zws_at (X := X) (cA := cA) (σ := σ) (r := j + 1) (by omega) hj
    rw [Nat.add_sub_cancel] at e1 e2
    rw [e1, e2]
    have hne : j + 1 ≠ σ.1.length := by omega
    have fI : sI (zNew σ k) (j + 1) = sI σ (j + 1) := funext fun i => if_neg hne
    have fL : sL (zNew σ k) (j + 1) = sL σ (j + 1) := funext fun i => if_neg hne
    have fR : sR (zNew σ k) (j + 1) = sR σ (j + 1) := funext fun i => if_neg hne
    have fK : sK (zNew σ k) (j + 1) = sK σ (j + 1) := by
      show (σ.1 ++ [k]).getD (j + 1) _ = σ.1.getD (j + 1) _
      rw [List.getD_eq_getElem?_getD, List.getD_eq_getElem?_getD, List.getElem?_append_left hj]
    have fv : ∀ ci, zfv X (zNew σ k) (j + 1) ci = zfv X σ (j + 1) ci := fun ci => funext fun k => by unfold zfv; rw [fI, fL, fR]
    unfold zcell
    rw [fK, fI, fL, fR, fv]
  · by_cases hj2 : j + 1 = σ.1.length
    · rw [List.getElem?_append_right (by omega)]
      have e1 := zws_at (X := X) (cA := cA) (σ := zNew σ k) (r := j + 1) (by omega) (by omega)
      rw [Nat.add_sub_cancel] at e1
      rw [e1, hz, show j - (σ.1.length - 1) = 0 by omega, hj2, show j = σ.1.length - 1 by omega]
      rfl
    · rw [List.getElem?_eq_none (by unfold zws; rw [List.length_map, List.length_range]; omega), List.getElem?_eq_none (by rw [List.length_append, List.length_singleton]; omega)]
def zaty (t : Nat) : FieldType := match t with
  | 1 => .int
  | 2 => .long
  | 3 => .byte
  | _ => .object (zcn (t - 40))
def zarr (t : Nat) : Prop := (1 ≤ t ∧ t ≤ 3) ∨ (40 ≤ t ∧ t < 60)
def zAK (U : State) (cA : Nat → ClassId) (σ : MS) : Prop := ∀ r, 1 ≤ r → r < σ.1.length → zarr (sK σ r).1 → ArrOfT U (cA (sK σ r).1) (zaty (sK σ r).1) ∧ va_RA U (cA (sK σ r).1) (zaty (sK σ r).1)
def zScr (L : Nat) (xs : Nat → Int32) (σ : MS) : Prop := (∀ j, j < L → sI σ 0 j = xs j) ∧ ∀ r, 1 ≤ r → (sK σ r).1 ≠ 6
/-- the heap H holds σ; the script is cell 0 -/
def zSm (X : zXe) (D : va_G) (L : Nat) (xs : Nat → Int32) (σ : MS) (U : State) (H : Heap) : Prop := ∃ cA : Nat → ClassId, zAK U cA σ ∧ va_P D zcls (zws X cA σ) H ∧ H.size = X.1 + (σ.1.length - 1) ∧ 1 ≤ σ.1.length ∧ sK σ 0 = (6, L) ∧ zScr L xs σ
theorem sK_lt {σ : MS} {r : Nat} (h : (sK σ r).1 ≠ 99) : r < σ.1.length := by
  rcases Nat.lt_or_ge r σ.1.length with q | q
  · exact q
  · refine absurd ?_ h
    unfold sK
    rw [List.getD_eq_getElem?_getD, List.getElem?_eq_none q]
    rfl
theorem zAK.moved {u U : State} (hvm : u.vm.Alike U.vm) {cA : Nat → ClassId} {σ : MS} (h : zAK u cA σ) : zAK U cA σ := fun r h1 h2 h3 => ⟨arrOfT_moved hvm (h r h1 h2 h3).1, (h r h1 h2 h3).2.moved hvm⟩
theorem zSm.moved {X : zXe} {D : va_G} {L : Nat} {xs : Nat → Int32} {σ : MS} {u U : State} {H : Heap} (hvm : u.vm.Alike U.vm) (h : zSm X D L xs σ u H) : zSm X D L xs σ U H := by
  obtain ⟨cA, h1, h2⟩ := h
  exact ⟨cA, h1.moved hvm, h2⟩
/-- the slots that a heap takes -/
def zsz (k : Nat × Nat) : Nat := if k.1 = 0 then znf k.2 else k.2
def zsl (σ : MS) : Nat := (σ.1.map zsz).sum
/-- the locals -/
def zgd (v : Value) : Bool := match v with
  | .int _ => true
  | .long _ => true
  | .ref _ => true
  | _ => false
def zlp (X : zXe) : Nat → List Value → List (Nat × Value)
  | _, [] => []
  | i, v :: l => if zgd v = true then (i, zV X v) :: zlp X (i + 1) l else zlp X (i + 1) l
theorem zlp_iff {X : zXe} : ∀ (l : List Value) (i : Nat) (q : Nat × Value), q ∈ zlp X i l ↔ ∃ k v, q = (i + k, zV X v) ∧ zGet l k = v ∧ zgd v = true := by
  intro l
  induction l with
  | nil =>
    intro i q
    refine ⟨fun h => (by cases h), fun h => ?_⟩
    obtain ⟨k, v, -, h2, h3⟩ := h
    rw [← h2] at h3
    cases h3
  | cons w l ih =>
    intro i q
    have back : (∃ k v, q = (i + 1 + k, zV X v) ∧ zGet l k = v ∧ zgd v = true) → ∃ k v, q = (i + k, zV X v) ∧ zGet (w :: l) k = v ∧ zgd v = true := fun h => by
      obtain ⟨k, v, h1, h2, h3⟩ := h
      exact ⟨k + 1, v, by rw [h1]; congr 1; omega, h2, h3⟩
    by_cases hw : zgd w = true
    · have e : zlp X i (w :: l) = (i, zV X w) :: zlp X (i + 1) l := if_pos hw
      rw [e, List.mem_cons, ih]
      refine ⟨fun h => ?_, fun h => ?_⟩
      · rcases h with h | h
        · exact ⟨0, w, h, rfl, hw⟩
        · exact back h
      · obtain ⟨k, v, h1, h2, h3⟩ := h
        cases k with
        | zero => left; rw [h1, ← h2]; rfl
        | succ k => right; exact ⟨k, v, by rw [h1]; congr 1; omega, h2, h3⟩
    · have e : zlp X i (w :: l) = zlp X (i + 1) l := if_neg hw
      rw [e, ih]
      refine ⟨back, fun h => ?_⟩
      obtain ⟨k, v, h1, h2, h3⟩ := h
      cases k with
      | zero => rw [← h2] at h3; exact absurd h3 hw
      | succ k => exact ⟨k, v, by rw [h1]; congr 1; omega, h2, h3⟩
def zLv (X : zXe) (lr : Array Slot) (n : Nat) (ls : List Value) : Prop := lv_has lr n (zlp X 0 ls)
theorem zLv.at {X : zXe} {lr : Array Slot} {n : Nat} {ls : List Value} (h : zLv X lr n ls) {i : Nat} {v : Value} (hv : zGet ls i = v) (hn : zgd v = true) : lr[i]? = some (.val (zV X v)) := by
  have h1 := h.2.2 (0 + i, zV X v) ((zlp_iff ls 0 _).mpr ⟨i, v, rfl, hv, hn⟩)
  rw [Nat.zero_add] at h1
  exact h1
theorem zGet_set : ∀ (l : List Value) (a : Nat) (v : Value) (i : Nat), zGet (zSet l a v) i = .null ∨ (i = a ∧ zGet (zSet l a v) i = v) ∨ (i ≠ a ∧ zGet (zSet l a v) i = zGet l i ∧ ¬ (i + 1 = a ∧ zgd (zGet l i) = true ∧ (zGet l i).category = 2)) := by
  intro l
  induction l with
  | nil => intro a v i; left; unfold zSet; rfl
  | cons w l ih =>
    intro a v i
    cases a with
    | zero =>
      have e : zSet (w :: l) 0 v = v :: l := by cases w <;> rfl
      rw [e]
      cases i with
      | zero => right; left; exact ⟨rfl, rfl⟩
      | succ i => right; right; exact ⟨by omega, rfl, fun z => by omega⟩
    | succ a =>
      cases i with
      | zero =>
        cases w with
        | long x =>
          cases a with
          | zero => left; rfl
          | succ a => right; right; exact ⟨by omega, rfl, fun z => by omega⟩
        | _ => right; right; exact ⟨by omega, rfl, fun z => by obtain ⟨-, z1, z2⟩ := z; first | (cases z1; done) | (cases z2; done)⟩
      | succ i =>
        have e : zGet (zSet (w :: l) (a + 1) v) (i + 1) = zGet (zSet l a v) i := by cases w <;> rfl
        rw [e]
        rcases ih a v i with h | ⟨h1, h2⟩ | ⟨h1, h2, h3⟩
        · left; exact h
        · right; left; exact ⟨by omega, h2⟩
        · right; right
          refine ⟨by omega, h2, fun z => h3 ⟨by omega, z.2⟩⟩
theorem zLv.set {X : zXe} {lr' : Array Slot} {n a : Nat} {ls : List Value} {v : Value} (h : lv_has lr' n ((a, zV X v) :: (zlp X 0 ls).filter (fun q => !(q.1 == a) && !(q.1 + 1 == a && q.2.category == 2)))) : zLv X lr' n (zSet ls a v) := by
  refine ⟨h.1, h.2.1, fun q hq => h.2.2 q ?_⟩
  obtain ⟨k, w, h1, h2, h3⟩ := (zlp_iff _ 0 q).mp hq
  rw [Nat.zero_add] at h1
  rcases zGet_set ls a v k with g | ⟨g1, g2⟩ | ⟨g1, g2, g3⟩
  · rw [g] at h2; rw [← h2] at h3; cases h3
  · rw [g2] at h2
    rw [h1, g1, ← h2]
    exact List.mem_cons_self
  · rw [g2] at h2
    refine List.mem_cons_of_mem _ (List.mem_filter.mpr ⟨(zlp_iff _ 0 q).mpr ⟨k, w, by rw [Nat.zero_add]; exact h1, h2, h3⟩, ?_⟩)
    rw [h1]
    dsimp only
    rw [zV_cat, Bool.and_eq_true]
    refine ⟨by simpa using g1, ?_⟩
    rw [Bool.not_eq_true', Bool.and_eq_false_iff]
    by_cases hk : k + 1 = a
    · right
      have : ¬ w.category = 2 := fun z => g3 ⟨hk, by rw [h2]; exact h3, by rw [h2]; exact z⟩
      simpa using this
    · left
      simpa using hk
theorem zLv.set2 {X : zXe} {lr' : Array Slot} {n a : Nat} {ls : List Value} {v : Value} (h : lv_has lr' n ((a, zV X v) :: (zlp X 0 ls).filter (fun q => !(q.1 == a) && (!(q.1 == a + 1) && !(q.1 + 1 == a && q.2.category == 2))))) : zLv X lr' n (zSet2 ls a v) := by
  refine ⟨h.1, h.2.1, fun q hq => h.2.2 q ?_⟩
  obtain ⟨k, w, h1, h2, h3⟩ := (zlp_iff _ 0 q).mp hq
  rw [Nat.zero_add] at h1
  unfold zSet2 at h2
  rcases zGet_set (zSet ls (a + 1) .null) a v k with g | ⟨g1, g2⟩ | ⟨g1, g2, g3⟩
  · rw [g] at h2; rw [← h2] at h3; cases h3
  · rw [g2] at h2
    rw [h1, g1, ← h2]
    exact List.mem_cons_self
  · rw [g2] at h2
    rcases zGet_set ls (a + 1) .null k with f | ⟨f1, f2⟩ | ⟨f1, f2, f3⟩
    · rw [f] at h2; rw [← h2] at h3; cases h3
    · rw [f2] at h2; rw [← h2] at h3; cases h3
    · rw [f2] at h2
      refine List.mem_cons_of_mem _ (List.mem_filter.mpr ⟨(zlp_iff _ 0 q).mpr ⟨k, w, by rw [Nat.zero_add]; exact h1, h2, h3⟩, ?_⟩)
      rw [h1]
      dsimp only
      rw [zV_cat, Bool.and_eq_true, Bool.and_eq_true]
      refine ⟨by simpa using g1, by simpa using f1, ?_⟩
      rw [Bool.not_eq_true', Bool.and_eq_false_iff]
      by_cases hk : k + 1 = a
      · right
        have : ¬ w.category = 2 := fun z => g3 ⟨hk, by rw [f2, h2]; exact h3, by rw [f2, h2]; exact z⟩
        simpa using this
      · left
        simpa using hk
/-- the locals at a method's start -/
theorem zEnt_args {X : zXe} : ∀ (as : List Value) (n i : Nat) (q : Nat × Value), as.all zgd = true → q ∈ zlp X i (zEnt as n) → q ∈ lv_args i (as.map (zV X)) := by
  intro as
  induction as with
  | nil =>
    intro n i q _ h
    obtain ⟨k, v, h1, h2, h3⟩ := (zlp_iff _ i q).mp h
    have : ∀ n k, zGet (List.replicate n .null) k = .null := by
      intro n
      induction n with
      | zero => intro k; rfl
      | succ n ih => intro k; cases k with
        | zero => rfl
        | succ k => exact ih k
    unfold zEnt at h2
    rw [this] at h2
    rw [← h2] at h3
    cases h3
  | cons v as ih =>
    intro n i q ha h
    rw [List.all_cons, Bool.and_eq_true] at ha
    show q ∈ (i, zV X v) :: lv_args (if (zV X v).category = 2 then i + 2 else i + 1) (as.map (zV X))
    rw [zV_cat, List.mem_cons]
    cases v with
    | long x =>
      have e : zlp X i (zEnt (.long x :: as) n) = (i, .long x) :: zlp X (i + 2) (zEnt as (n - 2)) := rfl
      rw [e, List.mem_cons] at h
      rcases h with h | h
      · left; exact h
      · right; exact ih _ _ _ ha.2 h
    | int x =>
      have e : zlp X i (zEnt (.int x :: as) n) = (i, .int x) :: zlp X (i + 1) (zEnt as (n - 1)) := rfl
      rw [e, List.mem_cons] at h
      rcases h with h | h
      · left; exact h
      · right; exact ih _ _ _ ha.2 h
    | ref x =>
      have e : zlp X i (zEnt (.ref x :: as) n) = (i, zE X x) :: zlp X (i + 1) (zEnt as (n - 1)) := rfl
      rw [e, List.mem_cons] at h
      rcases h with h | h
      · left; exact h
      · right; exact ih _ _ _ ha.2 h
    | _ => exact absurd ha.1 Bool.false_ne_true
