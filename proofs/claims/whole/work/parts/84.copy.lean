/-! COPIES -/
def ROffK (σ : MS) (a : Nat) : Prop := (sK σ a = (0, 5)) ∧ (sR σ a 8 = a + 1) ∧ (sR σ a 9 = a + 2) ∧ (sR σ a 10 = a + 3) ∧ (sR σ a 11 = a + 4) ∧ (sR σ a 12 = a + 5) ∧ (sR σ a 13 = a + 6) ∧ (sR σ a 14 = a + 7) ∧ (sR σ a 15 = a + 8) ∧ (sR σ a 16 = a + 9) ∧ (sR σ a 17 = a + 10) ∧ (sR σ a 18 = a + 11) ∧ (sK σ (a + 1) = (1, 8)) ∧ (sK σ (a + 2) = (2, 8)) ∧ (sK σ (a + 3) = (1, 8)) ∧ (sK σ (a + 4) = (1, 8)) ∧ (sK σ (a + 5) = (2, 8)) ∧ (sK σ (a + 6) = (1, 4)) ∧ (sK σ (a + 7) = (2, 4)) ∧ (sK σ (a + 8) = (1, 20)) ∧ (sK σ (a + 9) = (1, 80)) ∧ (sK σ (a + 10) = (1, 64)) ∧ (sK σ (a + 11) = (1, 20))
theorem ROffK.k {σ : MS} {a : Nat} (H : ROffK σ a) : sK σ a = (0, 5) := H.1
theorem ROffK.r8 {σ : MS} {a : Nat} (H : ROffK σ a) : sR σ a 8 = a + 1 := H.2.1
theorem ROffK.r9 {σ : MS} {a : Nat} (H : ROffK σ a) : sR σ a 9 = a + 2 := H.2.2.1
theorem ROffK.r10 {σ : MS} {a : Nat} (H : ROffK σ a) : sR σ a 10 = a + 3 := H.2.2.2.1
theorem ROffK.r11 {σ : MS} {a : Nat} (H : ROffK σ a) : sR σ a 11 = a + 4 := H.2.2.2.2.1
theorem ROffK.r12 {σ : MS} {a : Nat} (H : ROffK σ a) : sR σ a 12 = a + 5 := H.2.2.2.2.2.1
theorem ROffK.r13 {σ : MS} {a : Nat} (H : ROffK σ a) : sR σ a 13 = a + 6 := H.2.2.2.2.2.2.1
theorem ROffK.r14 {σ : MS} {a : Nat} (H : ROffK σ a) : sR σ a 14 = a + 7 := H.2.2.2.2.2.2.2.1
theorem ROffK.r15 {σ : MS} {a : Nat} (H : ROffK σ a) : sR σ a 15 = a + 8 := H.2.2.2.2.2.2.2.2.1
theorem ROffK.r16 {σ : MS} {a : Nat} (H : ROffK σ a) : sR σ a 16 = a + 9 := H.2.2.2.2.2.2.2.2.2.1
theorem ROffK.r17 {σ : MS} {a : Nat} (H : ROffK σ a) : sR σ a 17 = a + 10 := H.2.2.2.2.2.2.2.2.2.2.1
theorem ROffK.r18 {σ : MS} {a : Nat} (H : ROffK σ a) : sR σ a 18 = a + 11 := H.2.2.2.2.2.2.2.2.2.2.2.1
theorem ROffK.k1 {σ : MS} {a : Nat} (H : ROffK σ a) : sK σ (a + 1) = (1, 8) := H.2.2.2.2.2.2.2.2.2.2.2.2.1
theorem ROffK.k2 {σ : MS} {a : Nat} (H : ROffK σ a) : sK σ (a + 2) = (2, 8) := H.2.2.2.2.2.2.2.2.2.2.2.2.2.1
theorem ROffK.k3 {σ : MS} {a : Nat} (H : ROffK σ a) : sK σ (a + 3) = (1, 8) := H.2.2.2.2.2.2.2.2.2.2.2.2.2.2.1
theorem ROffK.k4 {σ : MS} {a : Nat} (H : ROffK σ a) : sK σ (a + 4) = (1, 8) := H.2.2.2.2.2.2.2.2.2.2.2.2.2.2.2.1
theorem ROffK.k5 {σ : MS} {a : Nat} (H : ROffK σ a) : sK σ (a + 5) = (2, 8) := H.2.2.2.2.2.2.2.2.2.2.2.2.2.2.2.2.1
theorem ROffK.k6 {σ : MS} {a : Nat} (H : ROffK σ a) : sK σ (a + 6) = (1, 4) := H.2.2.2.2.2.2.2.2.2.2.2.2.2.2.2.2.2.1
theorem ROffK.k7 {σ : MS} {a : Nat} (H : ROffK σ a) : sK σ (a + 7) = (2, 4) := H.2.2.2.2.2.2.2.2.2.2.2.2.2.2.2.2.2.2.1
theorem ROffK.k8 {σ : MS} {a : Nat} (H : ROffK σ a) : sK σ (a + 8) = (1, 20) := H.2.2.2.2.2.2.2.2.2.2.2.2.2.2.2.2.2.2.2.1
theorem ROffK.k9 {σ : MS} {a : Nat} (H : ROffK σ a) : sK σ (a + 9) = (1, 80) := H.2.2.2.2.2.2.2.2.2.2.2.2.2.2.2.2.2.2.2.2.1
theorem ROffK.k10 {σ : MS} {a : Nat} (H : ROffK σ a) : sK σ (a + 10) = (1, 64) := H.2.2.2.2.2.2.2.2.2.2.2.2.2.2.2.2.2.2.2.2.2.1
theorem ROffK.k11 {σ : MS} {a : Nat} (H : ROffK σ a) : sK σ (a + 11) = (1, 20) := H.2.2.2.2.2.2.2.2.2.2.2.2.2.2.2.2.2.2.2.2.2.2
theorem ROffK.mk {σ : MS} {a : Nat} (k : sK σ a = (0, 5)) (r8 : sR σ a 8 = a + 1) (r9 : sR σ a 9 = a + 2) (r10 : sR σ a 10 = a + 3) (r11 : sR σ a 11 = a + 4) (r12 : sR σ a 12 = a + 5) (r13 : sR σ a 13 = a + 6) (r14 : sR σ a 14 = a + 7) (r15 : sR σ a 15 = a + 8) (r16 : sR σ a 16 = a + 9) (r17 : sR σ a 17 = a + 10) (r18 : sR σ a 18 = a + 11) (k1 : sK σ (a + 1) = (1, 8)) (k2 : sK σ (a + 2) = (2, 8)) (k3 : sK σ (a + 3) = (1, 8)) (k4 : sK σ (a + 4) = (1, 8)) (k5 : sK σ (a + 5) = (2, 8)) (k6 : sK σ (a + 6) = (1, 4)) (k7 : sK σ (a + 7) = (2, 4)) (k8 : sK σ (a + 8) = (1, 20)) (k9 : sK σ (a + 9) = (1, 80)) (k10 : sK σ (a + 10) = (1, 64)) (k11 : sK σ (a + 11) = (1, 20)) : ROffK σ a := ⟨k, r8, r9, r10, r11, r12, r13, r14, r15, r16, r17, r18, k1, k2, k3, k4, k5, k6, k7, k8, k9, k10, k11⟩
section CPY
variable {d : Nat} {σ τ : MS} {a o : Nat} {A : Ofc} {K : Option Value → MS → Prop}
theorem ROff.kk (H : ROff σ a A) : ROffK σ a := ROffK.mk H.k H.r8 H.r9 H.r10 H.r11 H.r12 H.r13 H.r14 H.r15 H.r16 H.r17 H.r18 H.k1 H.k2 H.k3 H.k4 H.k5 H.k6 H.k7 H.k8 H.k9 H.k10 H.k11
theorem ROffK.keep (H : ROffK σ a) (hK : ∀ b, sK τ b = sK σ b) (hR : ∀ j, sR τ a j = sR σ a j) : ROffK τ a := by
  obtain ⟨h1, h2, h3, h4, h5, h6, h7, h8, h9, h10, h11, h12, h13, h14, h15, h16, h17, h18, h19, h20, h21, h22, h23⟩ := H
  unfold ROffK
  simp only [hK, hR]
  exact ⟨h1, h2, h3, h4, h5, h6, h7, h8, h9, h10, h11, h12, h13, h14, h15, h16, h17, h18, h19, h20, h21, h22, h23⟩
theorem ROff.copy (H : ROff σ o A) (O : OfcOk A) (G : ROffK τ a) (hI : ∀ j, j < 8 → sI τ a j = sI σ o j) (h1 : ∀ j, j < 8 → sI τ (a + 1) j = sI σ (o + 1) j) (h2 : ∀ j, j < 8 → sL τ (a + 2) j = sL σ (o + 2) j) (h3 : ∀ j, j < 8 → sI τ (a + 3) j = sI σ (o + 3) j) (h4 : ∀ j, j < 8 → sI τ (a + 4) j = sI σ (o + 4) j) (h5 : ∀ j, j < 8 → sL τ (a + 5) j = sL σ (o + 5) j) (h6 : ∀ j, j < 4 → sI τ (a + 6) j = sI σ (o + 6) j) (h7 : ∀ j, j < 4 → sL τ (a + 7) j = sL σ (o + 7) j) (h8 : ∀ j, j < 20 → sI τ (a + 8) j = sI σ (o + 8) j) (h9 : ∀ j, j < 80 → sI τ (a + 9) j = sI σ (o + 9) j) (h10 : ∀ j, j < 64 → sI τ (a + 10) j = sI σ (o + 10) j) : ROff τ a A := by
  have t8 := O.t8
  have p8 := O.p8
  have c4 := O.c4
  have h20 := cells20 O
  exact ROff.mk G.k ((hI 0 (by decide)).trans H.i0) ((hI 1 (by decide)).trans H.i1) ((hI 2 (by decide)).trans H.i2) ((hI 3 (by decide)).trans H.i3) ((hI 4 (by decide)).trans H.i4) ((hI 5 (by decide)).trans H.i5) ((hI 6 (by decide)).trans H.i6) ((hI 7 (by decide)).trans H.i7) G.r8 G.r9 G.r10 G.r11 G.r12 G.r13 G.r14 G.r15 G.r16 G.r17 G.r18 G.k1 G.k2 G.k3 G.k4 G.k5 G.k6 G.k7 G.k8 G.k9 G.k10 G.k11 (fun t h => (h1 t (by omega)).trans (H.a1 t h)) (fun t h => (h2 t (by omega)).trans (H.a2 t h)) (fun t h => (h3 t (by omega)).trans (H.a3 t h)) (fun t h => (h4 t (by omega)).trans (H.a4 t h)) (fun t h => (h5 t (by omega)).trans (H.a5 t h)) (fun t h => (h6 t (by omega)).trans (H.a6 t h)) (fun t h => (h7 t (by omega)).trans (H.a7 t h)) (fun t h => (h8 t (by omega)).trans (H.a8 t h)) (fun c k h1 h2 => (h9 _ (by omega)).trans (H.a9 c k h1 h2)) (fun p q h1 h2 => (h10 _ (by omega)).trans (H.a10 p q h1 h2))
/-- the first n places of a row as another row's -/
def cpA (σ : MS) (b c n : Nat) : MS := upA σ c (fun j => if j < n then sI σ b j else sI σ c j)
def cpB (σ : MS) (b c n : Nat) : MS := upL σ c (fun j => if j < n then sL σ b j else sL σ c j)
theorem cpI_A (σ : MS) (b c n : Nat) : cpI σ b c 0 0 n = cpA σ b c n := by
  have : ∀ j, va_cpy (σ.2.1 b) (σ.2.1 c) 0 0 n j = if j < n then sI σ b j else sI σ c j := fun j => by
    unfold va_cpy
    by_cases h : j < n
    · rw [if_pos ⟨by omega, by omega⟩, if_pos h, Nat.zero_add, Nat.sub_zero]; rfl
    · rw [if_neg (by omega), if_neg h]; rfl
  unfold cpI cpA upA
  simp only [this]
theorem cpL_B (σ : MS) (b c n : Nat) : cpL σ b c 0 0 n = cpB σ b c n := by
  have : ∀ j, va_cpy (σ.2.2.1 b) (σ.2.2.1 c) 0 0 n j = if j < n then sL σ b j else sL σ c j := fun j => by
    unfold va_cpy
    by_cases h : j < n
    · rw [if_pos ⟨by omega, by omega⟩, if_pos h, Nat.zero_add, Nat.sub_zero]; rfl
    · rw [if_neg (by omega), if_neg h]; rfl
  unfold cpL cpB upL
  simp only [this]
theorem sK_cpA (σ : MS) (b c n q : Nat) : sK (cpA σ b c n) q = sK σ q := rfl
theorem sR_cpA (σ : MS) (b c n q j : Nat) : sR (cpA σ b c n) q j = sR σ q j := rfl
theorem sL_cpA (σ : MS) (b c n q j : Nat) : sL (cpA σ b c n) q j = sL σ q j := rfl
theorem sI_cpA (σ : MS) (b c n q j : Nat) : sI (cpA σ b c n) q j = if q = c then (if j < n then sI σ b j else sI σ c j) else sI σ q j := rfl
theorem sK_cpB (σ : MS) (b c n q : Nat) : sK (cpB σ b c n) q = sK σ q := rfl
theorem sR_cpB (σ : MS) (b c n q j : Nat) : sR (cpB σ b c n) q j = sR σ q j := rfl
theorem sI_cpB (σ : MS) (b c n q j : Nat) : sI (cpB σ b c n) q j = sI σ q j := rfl
theorem sL_cpB (σ : MS) (b c n q j : Nat) : sL (cpB σ b c n) q j = if q = c then (if j < n then sL σ b j else sL σ c j) else sL σ q j := rfl
theorem sI_cpA_ne {σ : MS} {b c n q j : Nat} (h : q ≠ c) : sI (cpA σ b c n) q j = sI σ q j := by rw [sI_cpA, if_neg h]
theorem sI_cpA_eq {σ : MS} {b c n j : Nat} (h : j < n) : sI (cpA σ b c n) c j = sI σ b j := by rw [sI_cpA, if_pos rfl, if_pos h]
theorem sL_cpB_ne {σ : MS} {b c n q j : Nat} (h : q ≠ c) : sL (cpB σ b c n) q j = sL σ q j := by rw [sL_cpB, if_neg h]
theorem sL_cpB_eq {σ : MS} {b c n j : Nat} (h : j < n) : sL (cpB σ b c n) c j = sL σ b j := by rw [sL_cpB, if_pos rfl, if_pos h]
theorem Ag.cpA {p : Nat → Prop} (h : Ag p σ τ) {b c n : Nat} (hc : p c) : Ag p σ (cpA τ b c n) := h.upA hc
theorem Ag.cpB {p : Nat → Prop} (h : Ag p σ τ) {b c n : Nat} (hc : p c) : Ag p σ (cpB τ b c n) := h.upL hc
/-- an Office as another -/
def cpO1 (σ : MS) (o a : Nat) : MS := setI (setI (setI (setI (setI (setI (setI (setI σ a 0 (sI σ o 0)) a 1 (sI σ o 1)) a 2 (sI σ o 2)) a 3 (sI σ o 3)) a 4 (sI σ o 4)) a 5 (sI σ o 5)) a 6 (sI σ o 6)) a 7 (sI σ o 7)
def cpO2 (σ : MS) (o a : Nat) : MS := cpA (cpA (cpA (cpB (cpA (cpB (cpA (cpA (cpB (cpA σ (o + 1) (a + 1) 8) (o + 2) (a + 2) 8) (o + 3) (a + 3) 8) (o + 4) (a + 4) 8) (o + 5) (a + 5) 8) (o + 6) (a + 6) 4) (o + 7) (a + 7) 4) (o + 8) (a + 8) 20) (o + 9) (a + 9) 80) (o + 10) (a + 10) 64
theorem c_copyFrom (H : ROff σ o A) (O : OfcOk A) (G : ROffK σ a) (hd : a + 11 < o ∨ o + 11 < a) :
   ∃ τ, Ag (fun c => a ≤ c ∧ c ≤ a + 11) σ τ ∧ ROff τ a A ∧ ∀ K, zC (d + 1) 40 [.ref a, .ref o] σ K = K none τ := by
  have hne : ∀ r s, r ≤ 11 → s ≤ 11 → ¬ o + r = a + s := fun r s h1 h2 => by omega
  have f1 : Ag (fun c => a ≤ c ∧ c ≤ a + 11) σ (cpO1 σ o a) := by
    have h : a ≤ a ∧ a ≤ a + 11 := ⟨by omega, by omega⟩
    exact (((((((Ag.rf.setI h).setI h).setI h).setI h).setI h).setI h).setI h).setI h
  have f2 : ∀ ρ, Ag (fun c => a ≤ c ∧ c ≤ a + 11) ρ (cpO2 ρ o a) := fun ρ => by
    have h : ∀ r, r ≤ 11 → a ≤ a + r ∧ a + r ≤ a + 11 := fun r hr => ⟨by omega, by omega⟩
    exact (((((((((Ag.rf.cpA (h 1 (by omega))).cpB (h 2 (by omega))).cpA (h 3 (by omega))).cpA (h 4 (by omega))).cpB (h 5 (by omega))).cpA (h 6 (by omega))).cpB (h 7 (by omega))).cpA (h 8 (by omega))).cpA (h 9 (by omega))).cpA (h 10 (by omega))
  have i1 : ∀ j, j < 8 → sI (cpO1 σ o a) a j = sI σ o j := fun j hj => by
    have hj8 : j = 0 ∨ j = 1 ∨ j = 2 ∨ j = 3 ∨ j = 4 ∨ j = 5 ∨ j = 6 ∨ j = 7 := by omega
    unfold cpO1
    rcases hj8 with rfl | rfl | rfl | rfl | rfl | rfl | rfl | rfl <;> simp [sI_setI]
  have i2 : ∀ r j, r ≤ 11 → sI (cpO1 σ o a) (o + r) j = sI σ (o + r) j := fun r j hr => f1.I (by omega) j
  have l2 : ∀ r j, r ≤ 11 → sL (cpO1 σ o a) (o + r) j = sL σ (o + r) j := fun r j hr => f1.L (by omega) j
  have G1 : ROffK (cpO1 σ o a) a := G.keep (fun _ => rfl) (fun _ => rfl)
  refine ⟨cpO2 (cpO1 σ o a) o a, f1.tr (f2 _), ?_, fun K => ?_⟩
  · have G2 : ROffK (cpO2 (cpO1 σ o a) o a) a := G1.keep (fun _ => rfl) (fun _ => rfl)
    refine H.copy O G2 (fun j hj => ?_) (fun j hj => ?_) (fun j hj => ?_) (fun j hj => ?_) (fun j hj => ?_) (fun j hj => ?_) (fun j hj => ?_) (fun j hj => ?_) (fun j hj => ?_) (fun j hj => ?_) (fun j hj => ?_)
    · rw [← i1 j hj]
      unfold cpO2
      simp (disch := omega) only [sI_cpA_ne, sI_cpB]
    all_goals
      first
      | rw [← i2 _ j (by decide)]
      | rw [← l2 _ j (by decide)]
      unfold cpO2
      simp (disch := omega) only [sI_cpA_ne, sI_cpA_eq, sI_cpB, sL_cpA, sL_cpB_ne, sL_cpB_eq]
  · rw [E_40]
    have iO : ∀ (ρ : MS) (j i : Nat) (v : Int32), sI (setI ρ a i v) o j = sI ρ o j := fun ρ j i v => by rw [sI_setI, if_neg (by omega)]
    unfold cpO2 cpO1
    have n0 : ¬ (nI 0 : Int32) < 0 := by decide
    have n4 : ¬ (nI 4 : Int32) < 0 := by decide
    have n8 : ¬ (nI 8 : Int32) < 0 := by decide
    have n20 : ¬ (nI 20 : Int32) < 0 := by decide
    have n80 : ¬ (nI 80 : Int32) < 0 := by decide
    have n64 : ¬ (nI 64 : Int32) < 0 := by decide
    simp (disch := omega) only [L_40_0, zt_40_0, ↓e_iconst0, ↓e_iconst1, ↓e_bipush0, ↓e_bipush1, ↓e_sipush0, ↓e_sipush1, ↓e_ldc0, ↓e_ldc1, ↓e_ldc_w0, ↓e_ldc_w1, ↓e_ldc2, ↓e_lconst0, ↓e_lconst1, ↓e_ldc2_w0, ↓e_ldc2_w1, ↓e_iload, ↓e_iload_n, ↓e_istore, ↓e_istore_n, ↓e_lload, ↓e_lload_n, ↓e_lstore, ↓e_lstore_n, ↓e_aload, ↓e_aload_n, ↓e_astore, ↓e_astore_n, ↓e_iinc0, ↓e_iinc1, ↓e_iadd, ↓e_isub, ↓e_imul, ↓e_iand, ↓e_ior, ↓e_ixor, ↓e_ishl, ↓e_ishr, ↓e_iushr, ↓e_ladd, ↓e_lsub, ↓e_lmul, ↓e_land, ↓e_lor, ↓e_idiv, ↓e_irem, ↓e_ldiv, ↓e_lrem, ↓e_lshl, ↓e_lcmp, ↓e_i2l, ↓e_l2i, ↓e_i2b, ↓e_i2s, ↓e_dup_int, ↓e_pop_int, ↓e_dup_ref, ↓e_pop_ref, ↓e_dup2, ↓e_goto, ↓e_nop, ↓e_ifCond_eq, ↓e_if_icmp_eq, ↓e_ifCond_ne, ↓e_if_icmp_ne, ↓e_ifCond_lt, ↓e_if_icmp_lt, ↓e_ifCond_ge, ↓e_if_icmp_ge, ↓e_ifCond_gt, ↓e_if_icmp_gt, ↓e_ifCond_le, ↓e_if_icmp_le, ↓e_tab, ↓e_look, ↓e_get0, ↓e_get1, ↓e_get2, ↓e_get3, ↓e_put0, ↓e_put1, ↓e_put2, ↓e_put3, ↓e_iaload, ↓e_laload, ↓e_baload, ↓e_aaload, ↓e_iastore, ↓e_lastore, ↓e_bastore, ↓e_aastore, ↓e_alen, ↓e_new, ↓e_newarray, ↓e_anewarray, ↓e_objinit, ↓e_virt1, ↓e_virt2, ↓e_virt3, ↓e_virt4, ↓e_virt5, ↓e_virt6, ↓e_virt7, ↓e_stat0, ↓e_stat1, ↓e_stat2, ↓e_stat3, ↓e_stat4, ↓e_stat5, ↓e_stat6, ↓e_stat7, ↓e_spec1, ↓e_spec2, ↓e_spec3, ↓e_spec4, ↓e_spec5, ↓e_strlen, ↓e_charAt, ↓e_copy, ↓e_iret0, ↓e_iret1, ↓e_lret, ↓e_aret, ↓e_vret, zIsI_int, zIsL_long, zIsA_ref, zInt_int, true_and, and_true, ↓reduceIte, zGet, zSet, zSet2, zEnt, zWid, Value.category, List.map_cons, List.map_nil, List.sum_cons, List.sum_nil, List.replicate, Option.toList, Nat.reduceAdd, Nat.reduceSub, Nat.reduceMul, Nat.reduceLeDiff, Nat.reduceEqDiff, Nat.reduceLT, List.cons_append, List.nil_append, true_or, or_true, or_false, false_or, nI_ltI, nI_leI, nI_eq, nI_clamp, zIn_nI, bI_0, nI_add, nI_mul, nI_or, nI_and, nI_shl1, nI_bit, ↓pk_rem, pk_div, Nat.lt_irrefl, Nat.not_lt_zero, reduceCtorEq, sK_setI, sR_setI, sL_setI, sK_cpA, sK_cpB, sR_cpA, sR_cpB, H.k, G.k, iO, H.r8, H.r9, H.r10, H.r11, H.r12, H.r13, H.r14, H.r15, H.r16, H.r17, G.r8, G.r9, G.r10, G.r11, G.r12, G.r13, G.r14, G.r15, G.r16, G.r17, H.k1, H.k2, H.k3, H.k4, H.k5, H.k6, H.k7, H.k8, H.k9, H.k10, G.k1, G.k2, G.k3, G.k4, G.k5, G.k6, G.k7, G.k8, G.k9, G.k10, n0, n4, n8, n20, n80, n64, not_false_eq_true, Nat.zero_add, Nat.le_refl, cpI_A, cpL_B, and_self]
end CPY
