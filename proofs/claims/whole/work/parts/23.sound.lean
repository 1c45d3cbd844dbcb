theorem zI1_p {P : zR → Prop} (h0 : P none) {st : List Value} {f : Int32 → List Value → zR} (h : ∀ x s1, P (f x s1)) : P (zI1 st f) := by
  cases st with
  | nil => exact h0
  | cons v s1 => cases v <;> first | exact h _ _ | exact h0
theorem zL1_p {P : zR → Prop} (h0 : P none) {st : List Value} {f : Int64 → List Value → zR} (h : ∀ x s1, P (f x s1)) : P (zL1 st f) := by
  cases st with
  | nil => exact h0
  | cons v s1 => cases v <;> first | exact h _ _ | exact h0
theorem zA1_p {P : zR → Prop} (h0 : P none) {st : List Value} {f : Nat → List Value → zR} (h : ∀ x s1, P (f x s1)) : P (zA1 st f) := by
  cases st with
  | nil => exact h0
  | cons v s1 => cases v <;> first | exact h _ _ | exact h0
theorem zif_p {P : zR → Prop} {q : Prop} [Decidable q] {A B : zR} (a : P A) (b : P B) : P (if q then A else B) := by
  by_cases h : q
  · rw [if_pos h]; exact a
  · rw [if_neg h]; exact b
/-- the heap only grows; what is given back is a number or a reference -/
def zEx (σ : MS) (v : Option Value) (τ : MS) : Prop := (∃ E, τ.1 = σ.1 ++ E) ∧ v.toList.all zgd = true
def zKp (σ : MS) (z : zR) : Prop := match z with
  | none => True
  | some (.inl (_, _, τ)) => zEx σ none τ
  | some (.inr (.inl (_, _, _, τ))) => zEx σ none τ
  | some (.inr (.inr (.inl (_, _, _, _, τ)))) => zEx σ none τ
  | some (.inr (.inr (.inr (v, τ)))) => zEx σ v τ
theorem zEx_rf {σ τ : MS} (h : τ.1 = σ.1) : zEx σ none τ := ⟨⟨[], by rw [h, List.append_nil]⟩, rfl⟩
theorem zEx.trans {σ τ ρ : MS} {v w : Option Value} (h1 : zEx σ v τ) (h2 : zEx τ w ρ) : zEx σ w ρ := by
  obtain ⟨⟨E, h⟩, -⟩ := h1
  obtain ⟨⟨F, g⟩, g2⟩ := h2
  exact ⟨⟨E ++ F, by rw [g, h, List.append_assoc]⟩, g2⟩
theorem zEx.len {σ τ : MS} {v : Option Value} (h : zEx σ v τ) : σ.1.length ≤ τ.1.length ∧ zsl σ ≤ zsl τ := by
  obtain ⟨⟨E, h⟩, -⟩ := h
  refine ⟨by rw [h, List.length_append]; omega, ?_⟩
  unfold zsl
  rw [h, List.map_append, List.sum_append]
  omega
theorem zInv_p {σ : MS} (a b t u : Nat) (ls st : List Value) : zKp σ (zInvoke a b t u ls st σ) := by
  unfold zInvoke
  split
  · exact zA1_p (P := zKp σ) trivial fun _ _ => zif_p (P := zKp σ) (zEx_rf rfl) trivial
  · exact zI1_p (P := zKp σ) trivial fun _ _ => zI1_p (P := zKp σ) trivial fun _ _ => zA1_p (P := zKp σ) trivial fun _ _ => zI1_p (P := zKp σ) trivial fun _ _ => zA1_p (P := zKp σ) trivial fun _ _ => zif_p (P := zKp σ) (zif_p (P := zKp σ) (zEx_rf rfl) (zif_p (P := zKp σ) (zEx_rf rfl) trivial)) trivial
  · exact zA1_p (P := zKp σ) trivial fun _ _ => zif_p (P := zKp σ) (zEx_rf rfl) trivial
  · exact zI1_p (P := zKp σ) trivial fun _ _ => zA1_p (P := zKp σ) trivial fun _ _ => zif_p (P := zKp σ) (zEx_rf rfl) trivial
  · split
    · exact trivial
    · exact zif_p (P := zKp σ) (zEx_rf rfl) trivial
theorem zcond_p {σ : MS} (cc : Jvm.ClassFile.Cond) (x y : Int32) {A B : zR} (a : zKp σ A) (b : zKp σ B) : zKp σ (zCond cc x y A B) := by
  cases cc <;> exact zif_p (P := zKp σ) (by assumption) (by assumption)
theorem zNew_ex (σ : MS) (k : Nat × Nat) : zEx σ none (zNew σ k) := ⟨⟨[k], rfl⟩, rfl⟩
theorem zop_p (o : zOp) (ls st : List Value) (σ : MS) : zKp σ (zop o ls st σ) := by
  obtain ⟨i, a, b, t, u, n⟩ := o
  cases i with
  | invokevirtual v => exact zInv_p a b t u ls st
  | invokestatic v => exact zInv_p a b t u ls st
  | invokespecial v => exact zInv_p a b t u ls st
  | ifCond cc v => exact zI1_p (P := zKp σ) trivial fun _ _ => zcond_p cc _ _ (zEx_rf rfl) (zEx_rf rfl)
  | if_icmp cc v => exact zI1_p (P := zKp σ) trivial fun _ _ => zI1_p (P := zKp σ) trivial fun _ _ => zcond_p cc _ _ (zEx_rf rfl) (zEx_rf rfl)
  | new v => exact zNew_ex σ _
  | newarray v => exact zI1_p (P := zKp σ) trivial fun _ _ => zif_p (P := zKp σ) (zNew_ex σ _) trivial
  | anewarray v => exact zI1_p (P := zKp σ) trivial fun _ _ => zif_p (P := zKp σ) (zNew_ex σ _) trivial
  | dup => cases st with
    | nil => exact trivial
    | cons v s1 => exact zif_p (P := zKp σ) (zEx_rf rfl) trivial
  | pop => cases st with
    | nil => exact trivial
    | cons v s1 => exact zif_p (P := zKp σ) (zEx_rf rfl) trivial
  | dup2 => cases st with
    | nil => exact trivial
    | cons v s1 => cases s1 with
      | nil => exact trivial
      | cons w s2 => exact zif_p (P := zKp σ) (zEx_rf rfl) trivial
  | ireturn => cases st with
    | nil => exact trivial
    | cons v s1 => cases s1 with
      | cons w s2 => cases v <;> exact trivial
      | nil => cases v <;> first | exact zif_p (P := zKp σ) ⟨(zEx_rf rfl).1, rfl⟩ trivial | exact trivial
  | lreturn => cases st with
    | nil => exact trivial
    | cons v s1 => cases s1 with
      | cons w s2 => cases v <;> exact trivial
      | nil => cases v <;> first | exact ⟨(zEx_rf rfl).1, rfl⟩ | exact trivial
  | areturn => cases st with
    | nil => exact trivial
    | cons v s1 => cases s1 with
      | cons w s2 => cases v <;> exact trivial
      | nil => cases v <;> first | exact ⟨(zEx_rf rfl).1, rfl⟩ | exact trivial
  | return_ => cases st with
    | nil => exact zEx_rf rfl
    | cons v s1 => exact trivial
  | getfield v => exact zA1_p (P := zKp σ) trivial fun _ _ => zif_p (P := zKp σ) (zEx_rf rfl) trivial
  | putfield v =>
    match t with
    | 0 => exact zI1_p (P := zKp σ) trivial fun _ _ => zA1_p (P := zKp σ) trivial fun _ _ => zif_p (P := zKp σ) (zEx_rf rfl) trivial
    | 1 => exact zL1_p (P := zKp σ) trivial fun _ _ => zA1_p (P := zKp σ) trivial fun _ _ => zif_p (P := zKp σ) (zEx_rf rfl) trivial
    | 2 => exact zA1_p (P := zKp σ) trivial fun _ _ => zA1_p (P := zKp σ) trivial fun _ _ => zif_p (P := zKp σ) (zEx_rf rfl) trivial
    | 3 => exact zI1_p (P := zKp σ) trivial fun _ _ => zA1_p (P := zKp σ) trivial fun _ _ => zif_p (P := zKp σ) (zEx_rf rfl) trivial
    | t + 4 => exact zI1_p (P := zKp σ) trivial fun _ _ => zA1_p (P := zKp σ) trivial fun _ _ => zif_p (P := zKp σ) (zEx_rf rfl) trivial
  | iadd => exact zI1_p (P := zKp σ) trivial fun _ _ => zI1_p (P := zKp σ) trivial fun _ _ => zEx_rf rfl
  | isub => exact zI1_p (P := zKp σ) trivial fun _ _ => zI1_p (P := zKp σ) trivial fun _ _ => zEx_rf rfl
  | imul => exact zI1_p (P := zKp σ) trivial fun _ _ => zI1_p (P := zKp σ) trivial fun _ _ => zEx_rf rfl
  | iand => exact zI1_p (P := zKp σ) trivial fun _ _ => zI1_p (P := zKp σ) trivial fun _ _ => zEx_rf rfl
  | ior => exact zI1_p (P := zKp σ) trivial fun _ _ => zI1_p (P := zKp σ) trivial fun _ _ => zEx_rf rfl
  | ixor => exact zI1_p (P := zKp σ) trivial fun _ _ => zI1_p (P := zKp σ) trivial fun _ _ => zEx_rf rfl
  | ishl => exact zI1_p (P := zKp σ) trivial fun _ _ => zI1_p (P := zKp σ) trivial fun _ _ => zEx_rf rfl
  | ishr => exact zI1_p (P := zKp σ) trivial fun _ _ => zI1_p (P := zKp σ) trivial fun _ _ => zEx_rf rfl
  | iushr => exact zI1_p (P := zKp σ) trivial fun _ _ => zI1_p (P := zKp σ) trivial fun _ _ => zEx_rf rfl
  | idiv => exact zI1_p (P := zKp σ) trivial fun _ _ => zI1_p (P := zKp σ) trivial fun _ _ => zif_p (P := zKp σ) trivial (zEx_rf rfl)
  | irem => exact zI1_p (P := zKp σ) trivial fun _ _ => zI1_p (P := zKp σ) trivial fun _ _ => zif_p (P := zKp σ) trivial (zEx_rf rfl)
  | ladd => exact zL1_p (P := zKp σ) trivial fun _ _ => zL1_p (P := zKp σ) trivial fun _ _ => zEx_rf rfl
  | lsub => exact zL1_p (P := zKp σ) trivial fun _ _ => zL1_p (P := zKp σ) trivial fun _ _ => zEx_rf rfl
  | lmul => exact zL1_p (P := zKp σ) trivial fun _ _ => zL1_p (P := zKp σ) trivial fun _ _ => zEx_rf rfl
  | land => exact zL1_p (P := zKp σ) trivial fun _ _ => zL1_p (P := zKp σ) trivial fun _ _ => zEx_rf rfl
  | lor => exact zL1_p (P := zKp σ) trivial fun _ _ => zL1_p (P := zKp σ) trivial fun _ _ => zEx_rf rfl
  | lcmp => exact zL1_p (P := zKp σ) trivial fun _ _ => zL1_p (P := zKp σ) trivial fun _ _ => zEx_rf rfl
  | ldiv => exact zL1_p (P := zKp σ) trivial fun _ _ => zL1_p (P := zKp σ) trivial fun _ _ => zif_p (P := zKp σ) trivial (zEx_rf rfl)
  | lrem => exact zL1_p (P := zKp σ) trivial fun _ _ => zL1_p (P := zKp σ) trivial fun _ _ => zif_p (P := zKp σ) trivial (zEx_rf rfl)
  | lshl => exact zI1_p (P := zKp σ) trivial fun _ _ => zL1_p (P := zKp σ) trivial fun _ _ => zEx_rf rfl
  | l2i => exact zL1_p (P := zKp σ) trivial fun _ _ => zEx_rf rfl
  | i2l => exact zI1_p (P := zKp σ) trivial fun _ _ => zEx_rf rfl
  | i2b => exact zI1_p (P := zKp σ) trivial fun _ _ => zEx_rf rfl
  | i2s => exact zI1_p (P := zKp σ) trivial fun _ _ => zEx_rf rfl
  | iload v => exact zI1_p (P := zKp σ) trivial fun _ _ => zEx_rf rfl
  | iload_n v => exact zI1_p (P := zKp σ) trivial fun _ _ => zEx_rf rfl
  | lload v => exact zL1_p (P := zKp σ) trivial fun _ _ => zEx_rf rfl
  | lload_n v => exact zL1_p (P := zKp σ) trivial fun _ _ => zEx_rf rfl
  | aload v => exact zA1_p (P := zKp σ) trivial fun _ _ => zEx_rf rfl
  | aload_n v => exact zA1_p (P := zKp σ) trivial fun _ _ => zEx_rf rfl
  | istore v => exact zI1_p (P := zKp σ) trivial fun _ _ => zEx_rf rfl
  | istore_n v => exact zI1_p (P := zKp σ) trivial fun _ _ => zEx_rf rfl
  | lstore v => exact zL1_p (P := zKp σ) trivial fun _ _ => zEx_rf rfl
  | lstore_n v => exact zL1_p (P := zKp σ) trivial fun _ _ => zEx_rf rfl
  | astore v => exact zA1_p (P := zKp σ) trivial fun _ _ => zEx_rf rfl
  | astore_n v => exact zA1_p (P := zKp σ) trivial fun _ _ => zEx_rf rfl
  | iinc v w => exact zI1_p (P := zKp σ) trivial fun _ _ => zEx_rf rfl
  | tableswitch f lo hi offs => exact zI1_p (P := zKp σ) trivial fun _ _ => zEx_rf rfl
  | lookupswitch f ps => exact zI1_p (P := zKp σ) trivial fun _ _ => zEx_rf rfl
  | iaload => exact zI1_p (P := zKp σ) trivial fun _ _ => zA1_p (P := zKp σ) trivial fun _ _ => zif_p (P := zKp σ) (zEx_rf rfl) trivial
  | laload => exact zI1_p (P := zKp σ) trivial fun _ _ => zA1_p (P := zKp σ) trivial fun _ _ => zif_p (P := zKp σ) (zEx_rf rfl) trivial
  | baload => exact zI1_p (P := zKp σ) trivial fun _ _ => zA1_p (P := zKp σ) trivial fun _ _ => zif_p (P := zKp σ) (zEx_rf rfl) trivial
  | aaload => exact zI1_p (P := zKp σ) trivial fun _ _ => zA1_p (P := zKp σ) trivial fun _ _ => zif_p (P := zKp σ) (zEx_rf rfl) trivial
  | iastore => exact zI1_p (P := zKp σ) trivial fun _ _ => zI1_p (P := zKp σ) trivial fun _ _ => zA1_p (P := zKp σ) trivial fun _ _ => zif_p (P := zKp σ) (zEx_rf rfl) trivial
  | bastore => exact zI1_p (P := zKp σ) trivial fun _ _ => zI1_p (P := zKp σ) trivial fun _ _ => zA1_p (P := zKp σ) trivial fun _ _ => zif_p (P := zKp σ) (zEx_rf rfl) trivial
  | lastore => exact zL1_p (P := zKp σ) trivial fun _ _ => zI1_p (P := zKp σ) trivial fun _ _ => zA1_p (P := zKp σ) trivial fun _ _ => zif_p (P := zKp σ) (zEx_rf rfl) trivial
  | aastore => exact zA1_p (P := zKp σ) trivial fun _ _ => zI1_p (P := zKp σ) trivial fun _ _ => zA1_p (P := zKp σ) trivial fun _ _ => zif_p (P := zKp σ) (zEx_rf rfl) trivial
  | arraylength => exact zA1_p (P := zKp σ) trivial fun _ _ => zif_p (P := zKp σ) (zEx_rf rfl) trivial
  | _ => first | exact zEx_rf rfl | exact trivial
theorem zex_p {r : Nat → List Value → List Value → MS → zO} {c : Nat → List Value → MS → zO} (hr : ∀ t l s σ v τ, r t l s σ = some (v, τ) → zEx σ v τ) (hc : ∀ y as σ v τ, c y as σ = some (v, τ) → zEx σ v τ) :
    ∀ (ops : List zOp) (ls st : List Value) (σ : MS) (v : Option Value) (τ : MS), zex r c ops ls st σ = some (v, τ) → zEx σ v τ := by
  intro ops
  induction ops with
  | nil => intro ls st σ v τ h; cases h
  | cons o rest ih =>
    intro ls st σ v τ h
    have hp := zop_p o ls st σ
    unfold zex at h
    split at h
    · cases h
    · next l s ρ e => rw [e] at hp; exact zEx.trans hp (ih _ _ _ _ _ h)
    · next t l s ρ e => rw [e] at hp; exact zEx.trans hp (hr _ _ _ _ _ _ h)
    · next y as l s ρ e =>
      rw [e] at hp
      split at h
      · cases h
      · next w π e2 => exact zEx.trans hp (zEx.trans (hc _ _ _ _ _ e2) (ih _ _ _ _ _ h))
    · next w ρ e => rw [e] at hp; cases h; exact hp
theorem zrun_p : ∀ (n d m pc : Nat) (ls st : List Value) (σ : MS) (v : Option Value) (τ : MS), zrun n d m pc ls st σ = some (v, τ) → zEx σ v τ := by
  intro n
  induction n with
  | zero => intro d m pc ls st σ v τ h; cases h
  | succ n ih =>
    intro d m pc ls st σ v τ h
    rw [zrun_s] at h
    refine zex_p (fun t l s σ v τ h => ih d m t l s σ v τ h) (fun y as σ v τ h => ?_) _ _ _ _ _ _ h
    cases d with
    | zero => cases h
    | succ e =>
      have h2 : (if zWid as ≤ zmx y then zrun n e y 0 (zEnt as (zmx y)) [] σ else none) = some (v, τ) := h
      split at h2
      · exact ih e y 0 _ [] σ v τ h2
      · cases h2
/-! every list is good -/
def zGood : Prop := ∀ m pc : Nat, zchkT m pc (ztr m pc) = true
theorem lg_wid (X : zXe) : ∀ as : List Value, (lg_sl (as.map (zV X))).length = zWid as := by
  intro as
  induction as with
  | nil => rfl
  | cons v as ih =>
    have e : lg_sl ((v :: as).map (zV X)) = (if (zV X v).category = 2 then [.val (zV X v), .second] else [.val (zV X v)]) ++ lg_sl (as.map (zV X)) := rfl
    rw [e, List.length_append, ih, zV_cat]
    show _ = v.category + zWid as
    rcases lv_cat v with h | h
    · rw [if_neg (by omega), h]; rfl
    · rw [if_pos h, h]; rfl
section ZZ
variable {l : Launch} {X : zXe} {D : va_G} {L : Nat} {xs : Nat → Int32} {PS : State → Prop}
/-- what is asked of String.length and String.charAt -/
def zHS (l : Launch) (X : zXe) (D : va_G) (L : Nat) (xs : Nat → Int32) (PS : State → Prop) : Prop := ∀ (p : Program) (e : Env) (R : Room) (s : State) (m : MethodId) (args : Array Value) (below : List Frame) (meth : Method) (c : Code) (Q : State → Prop) (mid N NS mc ms pc : Nat) (ls st : List Value) (σ : MS), zCx X D L xs PS mid N NS mc ms p R s m args meth c → 5 ≤ R.frames → 300 ≤ R.locals →
  ∀ (a b u v t : Nat), decode (zby mid) pc = .ok (.invokevirtual v, 3) → (zow mid, v, t) ∈ zWt → zCt p l e R s m args below meth c Q X D L xs PS mid N NS mc ms (pc + 3) (zInvoke a b t u ls st σ) → zW p l e R s m args below meth c Q X D L xs mid N NS mc ms pc ls st σ
/-- the small machine's method at depth d (counted from 4 on: the Strings' own methods take so many frames) -/
def zSd (l : Launch) (X : zXe) (D : va_G) (L : Nat) (xs : Nat → Int32) (PS : State → Prop) (n : Nat) : Prop := ∀ (d mid pc : Nat) (ls st : List Value) (σ : MS) (rv : Option Value) (τ : MS), zrun n d mid pc ls st σ = some (rv, τ) → ∀ (p : Program) (e : Env) (R : Room) (s : State) (m : MethodId) (args : Array Value) (below : List Frame) (meth : Method) (c : Code) (mc ms : Nat), zCx X D L xs PS mid τ.1.length (zsl τ) mc ms p R s m args meth c → (d + 4) + 1 ≤ R.frames → 60 * ((d + 4) + 1) ≤ R.locals →
  zW p l e R s m args below meth c (MQ below (zQc X D L xs rv τ) args s mc ms (fun q => X.1 ≤ q)) X D L xs mid τ.1.length (zsl τ) mc ms pc ls st σ
theorem zWc14 : ∀ a ∈ zWc, zow a = 14 → a = 388 ∨ a = 389 := by decide +kernel
theorem zMath_of {n d a : Nat} {as : List Value} {σ ρ : MS} {rv : Option Value} (ha : a ∈ zWc) (h14 : zow a = 14) (hw : zWid as ≤ zmx a) (h : zrun n d a 0 (zEnt as (zmx a)) [] σ = some (rv, ρ)) : zMath a as σ rv ρ := by
  have hX : zX d a 0 (zEnt as (zmx a)) [] σ (fun r q => r = rv ∧ q = ρ) := ⟨n, rv, ρ, h, rfl, rfl⟩
  have hint : ∀ v : Value, zIsI v = true → ∃ x, v = .int x := fun v hv => by cases v <;> first | exact ⟨_, rfl⟩ | cases hv
  have hshape : zmx a = 2 → zIsI (zGet (zEnt as 2) 0) = true → zIsI (zGet (zEnt as 2) 1) = true → ∃ x z, as = [.int x, .int z] := by
    intro hm h0 h1
    rw [hm] at hw
    cases as with
    | nil => cases h0
    | cons v as =>
      have hv : ∃ x, v = .int x := by
        cases v <;> first | exact ⟨_, rfl⟩ | cases h0
      obtain ⟨x, rfl⟩ := hv
      cases as with
      | nil => cases h1
      | cons w as =>
        have hw2 : ∃ z, w = .int z := by
          cases w <;> first | exact ⟨_, rfl⟩ | cases h1
        obtain ⟨z, rfl⟩ := hw2
        cases as with
        | nil => exact ⟨x, z, rfl⟩
        | cons u as =>
          exfalso
          have e : zWid (.int x :: .int z :: u :: as) = 1 + (1 + (u.category + zWid as)) := rfl
          rcases lv_cat u with hu | hu <;> omega
  rcases zWc14 a ha h14 with rfl | rfl
  · rw [L_388_0] at hX
    have hX : zB d 388 zt_388_0 (zEnt as 2) [] σ _ := hX
    unfold zt_388_0 at hX
    rw [e_iload_n, e_iload_n] at hX
    obtain ⟨h0, h1, hX⟩ := hX
    obtain ⟨x, z, rfl⟩ := hshape rfl h0 h1
    refine ⟨x, z, rfl, ?_⟩
    have hX : zB d 388 _ [.int x, .int z] (.int z :: .int x :: []) σ _ := hX
    simp only [↓e_if_icmp_lt, ↓e_iload_n, ↓e_goto, ↓e_nop, ↓e_iret0, L_388_9, L_388_10, zt_388_9, zt_388_10, zGet, zIsI_int, true_and] at hX
    by_cases hlt : x < z
    · rw [if_pos hlt] at hX
      exact ⟨hX.2.symm, Or.inl ⟨rfl, by rw [if_pos hlt]; exact hX.1.symm⟩⟩
    · rw [if_neg hlt] at hX
      exact ⟨hX.2.symm, Or.inl ⟨rfl, by rw [if_neg hlt]; exact hX.1.symm⟩⟩
  · rw [L_389_0] at hX
    have hX : zB d 389 zt_389_0 (zEnt as 2) [] σ _ := hX
    unfold zt_389_0 at hX
    rw [e_iload_n, e_iload_n] at hX
    obtain ⟨h0, h1, hX⟩ := hX
    obtain ⟨x, z, rfl⟩ := hshape rfl h0 h1
    refine ⟨x, z, rfl, ?_⟩
    have hX : zB d 389 _ [.int x, .int z] (.int z :: .int x :: []) σ _ := hX
    simp only [↓e_if_icmp_gt, ↓e_iload_n, ↓e_goto, ↓e_nop, ↓e_iret0, L_389_9, L_389_10, zt_389_9, zt_389_10, zGet, zIsI_int, true_and] at hX
    by_cases hlt : z < x
    · rw [if_pos hlt] at hX
      exact ⟨hX.2.symm, Or.inr ⟨rfl, by rw [if_pos hlt]; exact hX.1.symm⟩⟩
    · rw [if_neg hlt] at hX
      exact ⟨hX.2.symm, Or.inr ⟨rfl, by rw [if_neg hlt]; exact hX.1.symm⟩⟩
theorem zMet_of {n d a : Nat} {as : List Value} {σ ρ : MS} {rv : Option Value} (ih : zSd l X D L xs PS n) (ha : a ∈ zWc) (h14 : zow a ≠ 14) (hgd : as.all zgd = true) (hw : zWid as ≤ zmx a) (hN : ρ.1.length < zNul) (h : zrun n d a 0 (zEnt as (zmx a)) [] σ = some (rv, ρ)) : zMet l X D L xs PS (d + 4) a as σ rv ρ := by
  have hcl := zcc_ok a ha
  obtain ⟨how, -⟩ := zow_ok a ha
  have hex := (zrun_p _ _ _ _ _ _ _ _ _ h).len
  refine Met.ofW (cc := zby a) (maxL := zmx a) (ret := zrt a) (by rw [hcl]; exact zpn_ok _ (List.mem_range.mpr how) h14) rfl ?_
  intro p e s m args below meth c s₁ B hml hv
  obtain ⟨rfl, hG, hSm⟩ := hv
  have hts0 := atoms_spec (ws := zMw a) B.pre
  have hown : s.vm.findClass (zmn a).cls = some m.cls := findClass_of_methodNamed B.named
  rw [hcl] at hown
  have C : zCx X D L xs PS a ρ.1.length (zsl ρ) (ρ.1.length - σ.1.length) (zsl ρ - zsl σ) p (zRm (d + 4) (ρ.1.length - σ.1.length) (zsl ρ - zsl σ)) s m (as.map (zV X)).toArray meth c :=
    ⟨B.exec, B.bytes, B.returns, hml, hown, fun w hw => hts0 w (List.mem_cons_of_mem _ hw), B.notSynchronized, fun hi => (name_of_methodNamed B.named B.method).1.trans (zIni_ok a hi), hG, hN, Nat.le_refl _, Nat.le_refl _, by show 1 ≤ d + 4 + 1; omega, by show 60 ≤ 60 * (d + 4 + 1); omega⟩
  have hW := ih d a 0 _ [] σ rv ρ h p e _ s m _ below meth c _ _ C (Nat.le_refl _) (Nat.le_refl _)
  have hl := lv_entry (as.map (zV X)) (n := zmx a) (by rw [lg_wid]; exact hw)
  rw [lg_entry_eq]
  exact hW s.heap [] 0 0 _ hSm va_S.rf ⟨hl.1, hl.2.1, fun q hq => hl.2.2 q (zEnt_args as (zmx a) 0 q hgd hq)⟩ (by omega) (by omega) hex.1 hex.2 rfl
theorem zsound (hg : zGood) (hPS : zPSok X PS) (HS : zHS l X D L xs PS) : ∀ n, zSd l X D L xs PS n := by
  intro n
  induction n with
  | zero => intro d mid pc ls st σ rv τ h; cases h
  | succ n ih =>
    intro d mid pc ls st σ rv τ h p e R s m args below meth c mc ms C hf hlo
    rw [zrun_s] at h
    have hcap := C.2.2.2.2.2.2.2.2.2.1
    suffices H : ∀ (ops : List zOp) (pc : Nat) (ls st : List Value) (σ : MS), zchkT mid pc ops = true → zex (zrun n d mid) (zcal n d) ops ls st σ = some (rv, τ) → zW p l e R s m args below meth c (MQ below (zQc X D L xs rv τ) args s mc ms (fun q => X.1 ≤ q)) X D L xs mid τ.1.length (zsl τ) mc ms pc ls st σ from H _ pc ls st σ (hg mid pc) h
    intro ops
    induction ops with
    | nil => intro pc ls st σ _ h; cases h
    | cons o rest ih2 =>
      intro pc ls st σ hc h
      have hc : (zchk mid pc o && zchkT mid (pc + o.2.2.2.2.2) rest) = true := hc
      rw [Bool.and_eq_true] at hc
      refine zstep C hPS (HS p e R s m args below meth c _ mid _ _ mc ms pc ls st σ C (by omega) (by omega)) o hc.1 ?_
      have hop := zop_p o ls st σ
      have hpx : ∀ (ops : List zOp) (ls st : List Value) (σ : MS) (v : Option Value) (τ : MS), zex (zrun n d mid) (zcal n d) ops ls st σ = some (v, τ) → zEx σ v τ := zex_p (fun t l s σ v τ h => zrun_p n d mid t l s σ v τ h) (fun y as σ v τ h => by
        cases d with
        | zero => cases h
        | succ e =>
          have h2 : (if zWid as ≤ zmx y then zrun n e y 0 (zEnt as (zmx y)) [] σ else none) = some (v, τ) := h
          split at h2
          · exact zrun_p n e y 0 _ [] σ v τ h2
          · cases h2)
      unfold zex at h
      split at h
      · cases h
      · next l2 s2 ρ e2 =>
        rw [e2]
        exact ⟨(hpx _ _ _ _ _ _ h).len, ih2 _ _ _ _ hc.2 h⟩
      · next t l2 s2 ρ e2 =>
        rw [e2]
        exact ih d mid t l2 s2 ρ rv τ h p e R s m args below meth c mc ms C hf hlo
      · next y as l2 s2 ρ e2 =>
        rw [e2]
        split at h
        · cases h
        · next w π e3 =>
          cases d with
          | zero => cases e3
          | succ d =>
            have e4 : (if zWid as ≤ zmx y then zrun n d y 0 (zEnt as (zmx y)) [] ρ else none) = some (w, π) := e3
            split at e4
            · next hw =>
              have x1 := zrun_p n d y 0 _ [] ρ w π e4
              have x2 := (hpx _ _ _ _ _ _ h).len
              exact ⟨d + 4, w, π, fun hy hgd => ⟨fun h14 => zMet_of ih hy h14 hgd hw (by omega) e4, fun h14 => zMath_of hy h14 hw e4⟩, ⟨by omega, by omega⟩, ⟨x1.len.1, x2.1, x1.len.2, x2.2⟩, x1.2, ih2 _ _ _ _ hc.2 h⟩
            · cases e4
      · next w ρ e2 =>
        rw [e2]
        cases h
        exact ⟨rfl, rfl, rfl⟩
end ZZ
