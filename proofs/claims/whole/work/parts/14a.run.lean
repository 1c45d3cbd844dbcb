/-- the locals at a method's start -/
def zEnt : List Value → Nat → List Value
  | [], n => List.replicate n .null
  | .long x :: as, n => .long x :: .null :: zEnt as (n - 2)
  | v :: as, n => v :: zEnt as (n - 1)
abbrev zO : Type := Option (Option Value × MS)
/-- a list of instructions: where it jumps, 'rec' goes on; what it calls, 'cal' does -/
def zex (rec : Nat → List Value → List Value → MS → zO) (cal : Nat → List Value → MS → zO) : List zOp → List Value → List Value → MS → zO
  | [], _, _, _ => none
  | o :: rest, ls, st, σ => match zop o ls st σ with
    | none => none
    | some (.inl (l, s, τ)) => zex rec cal rest l s τ
    | some (.inr (.inl (t, l, s, τ))) => rec t l s τ
    | some (.inr (.inr (.inl (m, as, l, s, τ)))) => (match cal m as τ with
      | none => none
      | some (v, ρ) => zex rec cal rest l (v.toList ++ s) ρ)
    | some (.inr (.inr (.inr (v, τ)))) => some (v, τ)
def zrun : Nat → Nat → Nat → Nat → List Value → List Value → MS → zO
  | 0, _, _, _, _, _, _ => none
  | n + 1, d, m, pc, ls, st, σ => zex (zrun n d m) (fun y as τ => match d with
      | 0 => none
      | e + 1 => if zWid as ≤ zmx y then zrun n e y 0 (zEnt as (zmx y)) [] τ else none) (ztr m pc) ls st σ
def zcal (n d : Nat) (y : Nat) (as : List Value) (τ : MS) : zO := match d with
  | 0 => none
  | e + 1 => if zWid as ≤ zmx y then zrun n e y 0 (zEnt as (zmx y)) [] τ else none
theorem zrun_s (n d m pc : Nat) (ls st : List Value) (σ : MS) : zrun (n + 1) d m pc ls st σ = zex (zrun n d m) (zcal n d) (ztr m pc) ls st σ := rfl
theorem zex_mono {r r' : Nat → List Value → List Value → MS → zO} {c c' : Nat → List Value → MS → zO} (hr : ∀ t l s τ x, r t l s τ = some x → r' t l s τ = some x) (hc : ∀ m as τ x, c m as τ = some x → c' m as τ = some x) :
    ∀ (ops : List zOp) (ls st : List Value) (σ : MS) (x : Option Value × MS), zex r c ops ls st σ = some x → zex r' c' ops ls st σ = some x := by
  intro ops
  induction ops with
  | nil => intro ls st σ x h; exact h
  | cons o rest ih =>
    intro ls st σ x h
    unfold zex at h ⊢
    split at h
    · cases h
    · exact ih _ _ _ _ h
    · exact hr _ _ _ _ _ h
    · split at h
      · cases h
      · next v ρ e =>
        rw [hc _ _ _ _ e]
        exact ih _ _ _ _ h
    · exact h
theorem zrun_mono1 : ∀ (n d m pc : Nat) (ls st : List Value) (σ : MS) (x : Option Value × MS), zrun n d m pc ls st σ = some x → zrun (n + 1) d m pc ls st σ = some x := by
  intro n
  induction n with
  | zero => intro d m pc ls st σ x h; cases h
  | succ n ih =>
    intro d m pc ls st σ x h
    rw [zrun_s] at h ⊢
    refine zex_mono (fun t l s τ x h => ih d m t l s τ x h) (fun y as τ x h => ?_) _ _ _ _ _ h
    cases d with
    | zero => cases h
    | succ e =>
      have h2 : (if zWid as ≤ zmx y then zrun n e y 0 (zEnt as (zmx y)) [] τ else none) = some x := h
      show (if zWid as ≤ zmx y then zrun (n + 1) e y 0 (zEnt as (zmx y)) [] τ else none) = some x
      split at h2
      · next hw => rw [if_pos hw]; exact ih e y 0 _ [] τ x h2
      · cases h2
theorem zrun_mono {n k d m pc : Nat} {ls st : List Value} {σ : MS} {x : Option Value × MS} (hk : n ≤ k) (h : zrun n d m pc ls st σ = some x) : zrun k d m pc ls st σ = some x := by
  obtain ⟨j, rfl⟩ := Nat.le.dest hk
  clear hk
  induction j with
  | zero => exact h
  | succ j ih => exact zrun_mono1 _ _ _ _ _ _ _ _ ih
theorem zcal_mono {n k d y : Nat} {as : List Value} {τ : MS} {x : Option Value × MS} (hk : n ≤ k) (h : zcal n d y as τ = some x) : zcal k d y as τ = some x := by
  cases d with
  | zero => cases h
  | succ e =>
    have h2 : (if zWid as ≤ zmx y then zrun n e y 0 (zEnt as (zmx y)) [] τ else none) = some x := h
    show (if zWid as ≤ zmx y then zrun k e y 0 (zEnt as (zmx y)) [] τ else none) = some x
    split at h2
    · next hw => rw [if_pos hw]; exact zrun_mono hk h2
    · cases h2
theorem zexn_mono {n k d m : Nat} (hk : n ≤ k) {ops : List zOp} {ls st : List Value} {σ : MS} {x : Option Value × MS} (h : zex (zrun n d m) (zcal n d) ops ls st σ = some x) : zex (zrun k d m) (zcal k d) ops ls st σ = some x :=
  zex_mono (fun _ _ _ _ _ h => zrun_mono hk h) (fun _ _ _ _ h => zcal_mono hk h) _ _ _ _ _ h
/-! what is proved of it: from here it ends so that Q -/
def zX (d m pc : Nat) (ls st : List Value) (σ : MS) (Q : Option Value → MS → Prop) : Prop := ∃ n r τ, zrun n d m pc ls st σ = some (r, τ) ∧ Q r τ
def zB (d m : Nat) (ops : List zOp) (ls st : List Value) (σ : MS) (Q : Option Value → MS → Prop) : Prop := ∃ n r τ, zex (zrun n d m) (zcal n d) ops ls st σ = some (r, τ) ∧ Q r τ
def zC (d y : Nat) (as : List Value) (σ : MS) (Q : Option Value → MS → Prop) : Prop := ∃ n r τ, zcal n d y as σ = some (r, τ) ∧ Q r τ
theorem zX_eq (d m pc : Nat) (ls st : List Value) (σ : MS) (Q : Option Value → MS → Prop) : zX d m pc ls st σ Q = zB d m (ztr m pc) ls st σ Q := by
  refine propext ⟨fun h => ?_, fun h => ?_⟩
  · obtain ⟨n, r, τ, h, q⟩ := h
    cases n with
    | zero => cases h
    | succ n => exact ⟨n, r, τ, h, q⟩
  · obtain ⟨n, r, τ, h, q⟩ := h
    exact ⟨n + 1, r, τ, h, q⟩
theorem zC_eq (d y : Nat) (as : List Value) (σ : MS) (Q : Option Value → MS → Prop) (hw : zWid as ≤ zmx y) : zC (d + 1) y as σ Q = zX d y 0 (zEnt as (zmx y)) [] σ Q := by
  have e : ∀ n, zcal n (d + 1) y as σ = zrun n d y 0 (zEnt as (zmx y)) [] σ := fun n => if_pos hw
  unfold zC zX
  simp only [e]
/-- what comes behind one instruction -/
def zK (d m : Nat) (rest : List zOp) (Q : Option Value → MS → Prop) (x : zR) : Prop := match x with
  | none => False
  | some (.inl (l, s, τ)) => zB d m rest l s τ Q
  | some (.inr (.inl (t, l, s, τ))) => zX d m t l s τ Q
  | some (.inr (.inr (.inl (y, as, l, s, τ)))) => zC d y as τ (fun v ρ => zB d m rest l (v.toList ++ s) ρ Q)
  | some (.inr (.inr (.inr (v, τ)))) => Q v τ
theorem zB_cons (d m : Nat) (o : zOp) (rest : List zOp) (ls st : List Value) (σ : MS) (Q : Option Value → MS → Prop) : zB d m (o :: rest) ls st σ Q = zK d m rest Q (zop o ls st σ) := by
  unfold zB zex zK
  cases h : zop o ls st σ with
  | none => exact propext ⟨fun h => (by obtain ⟨n, r, τ, h, q⟩ := h; cases h), fun h => False.elim h⟩
  | some x =>
    rcases x with ⟨l, s, τ⟩ | ⟨t, l, s, τ⟩ | ⟨y, as, l, s, τ⟩ | ⟨v, τ⟩
    · rfl
    · rfl
    · refine propext ⟨fun h => ?_, fun h => ?_⟩
      · obtain ⟨n, r, ρ, h, q⟩ := h
        dsimp only at h
        split at h
        · cases h
        · next v π e => exact ⟨n, v, π, e, n, r, ρ, h, q⟩
      · obtain ⟨n, v, π, e, k, r, ρ, h, q⟩ := h
        refine ⟨max n k, r, ρ, ?_, q⟩
        dsimp only
        rw [zcal_mono (Nat.le_max_left n k) e]
        exact zexn_mono (Nat.le_max_right n k) h
    · refine propext ⟨fun h => ?_, fun h => ⟨0, v, τ, rfl, h⟩⟩
      obtain ⟨n, r, ρ, h, q⟩ := h
      cases h
      exact q
