/-! NAMES AS NUMBERS -/
def fR (B k : Nat) : List Nat → Nat
  | [] => 0
  | c :: l => fR B k l * B + (c + k)
theorem fR_eq (B k : Nat) (l : List Nat) : l.foldl (fun n c => n * B + (c + k)) 0 = fR B k l.reverse := by
  rw [← List.foldr_reverse]
  generalize l.reverse = m
  induction m with
  | nil => rfl
  | cons c m ih => rw [List.foldr_cons, ih]; rfl
theorem fR_inj {B k : Nat} : ∀ {l m : List Nat}, (∀ c, c ∈ l → 1 ≤ c + k ∧ c + k < B) → (∀ c, c ∈ m → 1 ≤ c + k ∧ c + k < B) → fR B k l = fR B k m → l = m := by
  intro l
  induction l with
  | nil =>
    intro m _ hm h
    cases m with
    | nil => rfl
    | cons c m =>
      have := hm c (List.mem_cons_self ..)
      have h : 0 = fR B k m * B + (c + k) := h
      omega
  | cons c l ih =>
    intro m hl hm h
    cases m with
    | nil =>
      have := hl c (List.mem_cons_self ..)
      have h : fR B k l * B + (c + k) = 0 := h
      omega
    | cons e m =>
      have h1 := hl c (List.mem_cons_self ..)
      have h2 := hm e (List.mem_cons_self ..)
      have h : fR B k l * B + (c + k) = fR B k m * B + (e + k) := h
      have hc : c + k = e + k := by
        have x : (fR B k l * B + (c + k)) % B = (fR B k m * B + (e + k)) % B := by rw [h]
        rw [Nat.mul_comm (fR B k l), Nat.mul_comm (fR B k m), Nat.mul_add_mod, Nat.mul_add_mod, Nat.mod_eq_of_lt h1.2, Nat.mod_eq_of_lt h2.2] at x
        exact x
      have hq : fR B k l * B = fR B k m * B := by omega
      have hB : 0 < B := by omega
      have := Nat.eq_of_mul_eq_mul_right hB hq
      rw [ih (fun x hx => hl x (List.mem_cons_of_mem _ hx)) (fun x hx => hm x (List.mem_cons_of_mem _ hx)) this]
      have : c = e := by omega
      rw [this]
theorem fR_lt {B k : Nat} : ∀ {l : List Nat}, (∀ c, c ∈ l → c + k < B) → fR B k l < B ^ l.length := by
  intro l
  induction l with
  | nil => intro _; exact Nat.one_pos
  | cons c l ih =>
    intro hl
    have h1 := ih (fun x hx => hl x (List.mem_cons_of_mem _ hx))
    have h2 := hl c (List.mem_cons_self ..)
    show fR B k l * B + (c + k) < B ^ (l.length + 1)
    rw [Nat.pow_succ]
    have := Nat.mul_le_mul_right B h1
    rw [Nat.succ_mul] at this
    omega
/-- a name: 1 to 8 letters -/
def Nm (l : List Nat) : Prop := 1 ≤ l.length ∧ l.length ≤ 8 ∧ ∀ c, c ∈ l → 1 ≤ c ∧ c ≤ 26
theorem nm27_fR (l : List Nat) : nm27 l = fR 27 0 l.reverse := fR_eq 27 0 l
theorem nm256_fR (l : List Nat) : nm256 l = fR 256 96 l.reverse := fR_eq 256 96 l
theorem nm27_inj {l m : List Nat} (hl : Nm l) (hm : Nm m) (h : nm27 l = nm27 m) : l = m := by
  rw [nm27_fR, nm27_fR] at h
  have := fR_inj (fun c hc => by have := hl.2.2 c (List.mem_reverse.mp hc); omega) (fun c hc => by have := hm.2.2 c (List.mem_reverse.mp hc); omega) h
  exact List.reverse_inj.mp this
theorem nm256_inj {l m : List Nat} (hl : Nm l) (hm : Nm m) (h : nm256 l = nm256 m) : l = m := by
  rw [nm256_fR, nm256_fR] at h
  have := fR_inj (fun c hc => by have := hl.2.2 c (List.mem_reverse.mp hc); omega) (fun c hc => by have := hm.2.2 c (List.mem_reverse.mp hc); omega) h
  exact List.reverse_inj.mp this
theorem nm27_lt {l : List Nat} (hl : Nm l) : nm27 l < 2 ^ 63 := by
  rw [nm27_fR]
  have h := fR_lt (B := 27) (k := 0) (l := l.reverse) (fun c hc => by have := hl.2.2 c (List.mem_reverse.mp hc); omega)
  rw [List.length_reverse] at h
  have h8 : (27 : Nat) ^ l.length ≤ 27 ^ 8 := Nat.pow_le_pow_right (by decide) hl.2.1
  have : (27 : Nat) ^ 8 < 2 ^ 63 := by decide
  omega
theorem fR_top : ∀ {l : List Nat}, 1 ≤ l.length → (∀ c, c ∈ l → c ≤ 26) → fR 256 96 l < 123 * 256 ^ (l.length - 1) := by
  intro l
  induction l with
  | nil => intro h _; exact absurd h (by decide)
  | cons c l ih =>
    intro _ hl
    have h2 := hl c (List.mem_cons_self ..)
    show fR 256 96 l * 256 + (c + 96) < 123 * 256 ^ (l.length + 1 - 1)
    cases l with
    | nil =>
      show 0 * 256 + (c + 96) < 123 * 256 ^ 0
      rw [Nat.pow_zero]
      omega
    | cons e m =>
      have h1 := ih (by rw [List.length_cons]; omega) (fun x hx => hl x (List.mem_cons_of_mem _ hx))
      have e1 : (e :: m).length - 1 = m.length := by rw [List.length_cons]; omega
      have e2 : (e :: m).length + 1 - 1 = m.length + 1 := by rw [List.length_cons]; omega
      rw [e1] at h1
      rw [e2, Nat.pow_succ]
      generalize fR 256 96 (e :: m) = x at h1
      generalize 256 ^ m.length = y at h1
      omega
theorem nm256_lt {l : List Nat} (hl : Nm l) : nm256 l < 2 ^ 63 := by
  rw [nm256_fR]
  have h := fR_top (l := l.reverse) (by rw [List.length_reverse]; exact hl.1) (fun c hc => (hl.2.2 c (List.mem_reverse.mp hc)).2)
  rw [List.length_reverse] at h
  have h8 : (256 : Nat) ^ (l.length - 1) ≤ 256 ^ 7 := Nat.pow_le_pow_right (by decide) (by have := hl.2.1; omega)
  have : 123 * (256 : Nat) ^ 7 < 2 ^ 63 := by decide
  have := Nat.mul_le_mul_left 123 h8
  omega
