/-! FRAMES: what is left as it was; rows of ints written anew -/
/-- the objects whose references change -/
def rX (b : Nat) : Prop := b = 1 ∨ b = 101 ∨ b = 102 ∨ b = 103 ∨ b = 113
def Ag (p : Nat → Prop) (σ τ : MS) : Prop := τ.1 = σ.1 ∧ ∀ b, (¬ p b → (∀ j, sI τ b j = sI σ b j) ∧ (∀ j, sL τ b j = sL σ b j)) ∧ (¬ (p b ∧ rX b) → ∀ j, sR τ b j = sR σ b j)
section FRM
variable {p q : Nat → Prop} {σ τ ρ : MS}
theorem Ag.rf : Ag p σ σ := ⟨rfl, fun _ => ⟨fun _ => ⟨fun _ => rfl, fun _ => rfl⟩, fun _ _ => rfl⟩⟩
theorem Ag.tr (h1 : Ag p σ τ) (h2 : Ag p τ ρ) : Ag p σ ρ := by
  refine ⟨h2.1.trans h1.1, fun b => ?_⟩
  have x := h1.2 b
  have y := h2.2 b
  exact ⟨fun hb => ⟨fun j => ((y.1 hb).1 j).trans ((x.1 hb).1 j), fun j => ((y.1 hb).2 j).trans ((x.1 hb).2 j)⟩, fun hb j => (y.2 hb j).trans (x.2 hb j)⟩
theorem Ag.mono (h : Ag p σ τ) (hp : ∀ b, p b → q b) : Ag q σ τ := ⟨h.1, fun b => ⟨fun hb => (h.2 b).1 (fun hh => hb (hp b hh)), fun hb => (h.2 b).2 (fun hh => hb ⟨hp b hh.1, hh.2⟩)⟩⟩
theorem Ag.K (h : Ag p σ τ) (b : Nat) : sK τ b = sK σ b := by unfold sK; rw [h.1]
theorem Ag.I (h : Ag p σ τ) {b : Nat} (hb : ¬ p b) (j : Nat) : sI τ b j = sI σ b j := ((h.2 b).1 hb).1 j
theorem Ag.L (h : Ag p σ τ) {b : Nat} (hb : ¬ p b) (j : Nat) : sL τ b j = sL σ b j := ((h.2 b).1 hb).2 j
theorem Ag.R (h : Ag p σ τ) {b : Nat} (hb : ¬ p b) (j : Nat) : sR τ b j = sR σ b j := (h.2 b).2 (fun hh => hb hh.1) j
theorem Ag.Rx (h : Ag p σ τ) {b : Nat} (hb : ¬ rX b) (j : Nat) : sR τ b j = sR σ b j := (h.2 b).2 (fun hh => hb hh.2) j
theorem sK_setL (σ : MS) (b i : Nat) (v : Int64) (q : Nat) : sK (setL σ b i v) q = sK σ q := rfl
theorem sI_setL (σ : MS) (b i : Nat) (v : Int64) (q j : Nat) : sI (setL σ b i v) q j = sI σ q j := rfl
theorem sR_setL (σ : MS) (b i : Nat) (v : Int64) (q j : Nat) : sR (setL σ b i v) q j = sR σ q j := rfl
theorem sL_setL (σ : MS) (b i : Nat) (v : Int64) (q j : Nat) : sL (setL σ b i v) q j = if q = b ∧ j = i then v else sL σ q j := rfl
theorem sK_setR (σ : MS) (b i v : Nat) (q : Nat) : sK (setR σ b i v) q = sK σ q := rfl
theorem sI_setR (σ : MS) (b i v : Nat) (q j : Nat) : sI (setR σ b i v) q j = sI σ q j := rfl
theorem sL_setR (σ : MS) (b i v : Nat) (q j : Nat) : sL (setR σ b i v) q j = sL σ q j := rfl
theorem sR_setR (σ : MS) (b i v : Nat) (q j : Nat) : sR (setR σ b i v) q j = if q = b ∧ j = i then v else sR σ q j := rfl
theorem Ag.setI (h : Ag p σ τ) {b i : Nat} {v : Int32} (hb : p b) : Ag p σ (setI τ b i v) := h.tr ⟨rfl, fun c => ⟨fun hc => ⟨fun j => by rw [sI_setI]; refine if_neg ?_; intro hh; exact hc (hh.1 ▸ hb), fun _ => rfl⟩, fun _ _ => rfl⟩⟩
theorem Ag.setL (h : Ag p σ τ) {b i : Nat} {v : Int64} (hb : p b) : Ag p σ (setL τ b i v) := h.tr ⟨rfl, fun c => ⟨fun hc => ⟨fun _ => rfl, fun j => by rw [sL_setL]; refine if_neg ?_; intro hh; exact hc (hh.1 ▸ hb)⟩, fun _ _ => rfl⟩⟩
theorem Ag.setR (h : Ag p σ τ) {b i v : Nat} (hb : p b) (hr : rX b) : Ag p σ (setR τ b i v) := h.tr ⟨rfl, fun c => ⟨fun _ => ⟨fun _ => rfl, fun _ => rfl⟩, fun hc j => by rw [sR_setR]; refine if_neg ?_; intro hh; exact hc (hh.1 ▸ ⟨hb, hr⟩)⟩⟩
/-- the whole row b of ints, of longs, as f says -/
def upA (σ : MS) (b : Nat) (f : Nat → Int32) : MS := (σ.1, fun q j => if q = b then f j else σ.2.1 q j, σ.2.2)
def upL (σ : MS) (b : Nat) (f : Nat → Int64) : MS := (σ.1, σ.2.1, fun q j => if q = b then f j else σ.2.2.1 q j, σ.2.2.2)
theorem sK_upA (σ : MS) (b : Nat) (f : Nat → Int32) (q : Nat) : sK (upA σ b f) q = sK σ q := rfl
theorem sL_upA (σ : MS) (b : Nat) (f : Nat → Int32) (q j : Nat) : sL (upA σ b f) q j = sL σ q j := rfl
theorem sR_upA (σ : MS) (b : Nat) (f : Nat → Int32) (q j : Nat) : sR (upA σ b f) q j = sR σ q j := rfl
theorem sI_upA (σ : MS) (b : Nat) (f : Nat → Int32) (q j : Nat) : sI (upA σ b f) q j = if q = b then f j else sI σ q j := rfl
theorem sK_upL (σ : MS) (b : Nat) (f : Nat → Int64) (q : Nat) : sK (upL σ b f) q = sK σ q := rfl
theorem sI_upL (σ : MS) (b : Nat) (f : Nat → Int64) (q j : Nat) : sI (upL σ b f) q j = sI σ q j := rfl
theorem sR_upL (σ : MS) (b : Nat) (f : Nat → Int64) (q j : Nat) : sR (upL σ b f) q j = sR σ q j := rfl
theorem sL_upL (σ : MS) (b : Nat) (f : Nat → Int64) (q j : Nat) : sL (upL σ b f) q j = if q = b then f j else sL σ q j := rfl
theorem Ag.upA (h : Ag p σ τ) {b : Nat} {f : Nat → Int32} (hb : p b) : Ag p σ (upA τ b f) := h.tr ⟨rfl, fun c => ⟨fun hc => ⟨fun j => by rw [sI_upA]; refine if_neg ?_; intro hh; exact hc (hh ▸ hb), fun _ => rfl⟩, fun _ _ => rfl⟩⟩
theorem Ag.upL (h : Ag p σ τ) {b : Nat} {f : Nat → Int64} (hb : p b) : Ag p σ (upL τ b f) := h.tr ⟨rfl, fun c => ⟨fun hc => ⟨fun _ => rfl, fun j => by rw [sL_upL]; refine if_neg ?_; intro hh; exact hc (hh ▸ hb)⟩, fun _ _ => rfl⟩⟩
theorem setI_upA (σ : MS) (b i : Nat) (f : Nat → Int32) (v : Int32) : setI (upA σ b f) b i v = upA σ b (fun j => if j = i then v else f j) := by
  unfold setI upA
  congr 2
  funext q j
  by_cases hq : q = b <;> by_cases hj : j = i <;> simp [hq, hj]
theorem setL_upL (σ : MS) (b i : Nat) (f : Nat → Int64) (v : Int64) : setL (upL σ b f) b i v = upL σ b (fun j => if j = i then v else f j) := by
  unfold setL upL
  congr 3
  funext q j
  by_cases hq : q = b <;> by_cases hj : j = i <;> simp [hq, hj]
theorem upA_self (σ : MS) (b : Nat) : upA σ b (fun j => sI σ b j) = σ := by
  have : (fun q j => if q = b then sI σ b j else σ.2.1 q j) = σ.2.1 := by
    funext q j
    by_cases hq : q = b
    · rw [if_pos hq, hq]; rfl
    · rw [if_neg hq]
  unfold upA
  rw [this]
theorem upL_self (σ : MS) (b : Nat) : upL σ b (fun j => sL σ b j) = σ := by
  have : (fun q j => if q = b then sL σ b j else σ.2.2.1 q j) = σ.2.2.1 := by
    funext q j
    by_cases hq : q = b
    · rw [if_pos hq, hq]; rfl
    · rw [if_neg hq]
  unfold upL
  rw [this]
theorem upA_upA (σ : MS) (b : Nat) (f g : Nat → Int32) : upA (upA σ b f) b g = upA σ b g := by
  unfold upA
  congr 2
  funext q j
  by_cases hq : q = b <;> simp [hq]
theorem upL_upL (σ : MS) (b : Nat) (f g : Nat → Int64) : upL (upL σ b f) b g = upL σ b g := by
  unfold upL
  congr 3
  funext q j
  by_cases hq : q = b <;> simp [hq]
theorem setA_upA (σ : MS) (b n : Nat) (f : Nat → Int32) : setA σ b n f = upA σ b (fun j => if j < n then f j else sI σ b j) := by
  unfold setA upA
  congr 2
  funext q j
  by_cases hq : q = b
  · subst hq; by_cases hj : j < n <;> simp [hj, sI]
  · simp [hq]
theorem setI_eq_upA (σ : MS) (b i : Nat) (v : Int32) : setI σ b i v = upA σ b (fun j => if j = i then v else sI σ b j) := by
  rw [← setI_upA, upA_self]
theorem setL_eq_upL (σ : MS) (b i : Nat) (v : Int64) : setL σ b i v = upL σ b (fun j => if j = i then v else sL σ b j) := by
  rw [← setL_upL, upL_self]
/-- loops whose state is known by what holds of it -/
theorem zloop {β : Type} {γ : Type} (I : Nat → β → Prop) {P : Nat → β → γ} {n : Nat} (h : ∀ i x, i < n → I i x → ∃ x', I (i + 1) x' ∧ P i x = P (i + 1) x') : ∀ x, I 0 x → ∃ x', I n x' ∧ P 0 x = P n x' := by
  intro x hx
  have : ∀ k, k ≤ n → ∃ x', I k x' ∧ P 0 x = P k x' := by
    intro k
    induction k with
    | zero => intro _; exact ⟨x, hx, rfl⟩
    | succ k ih =>
      intro hk
      obtain ⟨x1, i1, e1⟩ := ih (by omega)
      obtain ⟨x2, i2, e2⟩ := h k x1 (by omega) i1
      exact ⟨x2, i2, e1.trans e2⟩
  exact this n (Nat.le_refl n)
theorem ROff.ag {a : Nat} {A : Ofc} (H : ROff σ a A) (h : Ag p σ τ) (hp : ∀ b, a ≤ b → b ≤ a + 10 → ¬ p b) : ROff τ a A :=
  H.congr (fun b _ _ => h.K b) (fun b j h1 h2 => h.I (hp b h1 h2) j) (fun b j h1 h2 => h.L (hp b h1 h2) j) (fun j => h.R (hp a (by omega) (by omega)) j)
end FRM
section FIL
variable {d : Nat} {σ : MS} {K : Option Value → MS → Prop}
theorem c_fillI {b n : Nat} {v : Int32} (hk : sK σ b = (1, n)) (hn : n < 2 ^ 31) :
   zC (d + 1) 390 [.ref b, .int v] σ K = K none (upA σ b (fun j => if j < n then v else sI σ b j)) := by
  rw [← setA_upA σ b n (fun _ => v), E_390]
  simp (disch := omega) only [L_390_0, zt_390_0, ↓e_iconst0, ↓e_iconst1, ↓e_bipush0, ↓e_bipush1, ↓e_sipush0, ↓e_sipush1, ↓e_ldc0, ↓e_ldc1, ↓e_ldc_w0, ↓e_ldc_w1, ↓e_ldc2, ↓e_lconst0, ↓e_lconst1, ↓e_ldc2_w0, ↓e_ldc2_w1, ↓e_iload, ↓e_iload_n, ↓e_istore, ↓e_istore_n, ↓e_lload, ↓e_lload_n, ↓e_lstore, ↓e_lstore_n, ↓e_aload, ↓e_aload_n, ↓e_astore, ↓e_astore_n, ↓e_iinc0, ↓e_iinc1, ↓e_iadd, ↓e_isub, ↓e_imul, ↓e_iand, ↓e_ior, ↓e_ixor, ↓e_ishl, ↓e_ishr, ↓e_iushr, ↓e_ladd, ↓e_lsub, ↓e_lmul, ↓e_land, ↓e_lor, ↓e_idiv, ↓e_irem, ↓e_ldiv, ↓e_lrem, ↓e_lshl, ↓e_lcmp, ↓e_i2l, ↓e_l2i, ↓e_i2b, ↓e_i2s, ↓e_dup_int, ↓e_pop_int, ↓e_dup_ref, ↓e_pop_ref, ↓e_dup2, ↓e_goto, ↓e_nop, ↓e_ifCond_eq, ↓e_if_icmp_eq, ↓e_ifCond_ne, ↓e_if_icmp_ne, ↓e_ifCond_lt, ↓e_if_icmp_lt, ↓e_ifCond_ge, ↓e_if_icmp_ge, ↓e_ifCond_gt, ↓e_if_icmp_gt, ↓e_ifCond_le, ↓e_if_icmp_le, ↓e_tab, ↓e_look, ↓e_get0, ↓e_get1, ↓e_get2, ↓e_get3, ↓e_put0, ↓e_put1, ↓e_put2, ↓e_put3, ↓e_iaload, ↓e_laload, ↓e_baload, ↓e_aaload, ↓e_iastore, ↓e_lastore, ↓e_bastore, ↓e_aastore, ↓e_alen, ↓e_new, ↓e_newarray, ↓e_anewarray, ↓e_objinit, ↓e_virt1, ↓e_virt2, ↓e_virt3, ↓e_virt4, ↓e_virt5, ↓e_virt6, ↓e_virt7, ↓e_stat0, ↓e_stat1, ↓e_stat2, ↓e_stat3, ↓e_stat4, ↓e_stat5, ↓e_stat6, ↓e_stat7, ↓e_spec1, ↓e_spec2, ↓e_spec3, ↓e_spec4, ↓e_spec5, ↓e_strlen, ↓e_charAt, ↓e_copy, ↓e_iret0, ↓e_iret1, ↓e_lret, ↓e_aret, ↓e_vret, zIsI_int, zIsL_long, zIsA_ref, zInt_int, true_and, and_true, ↓reduceIte, zGet, zSet, zSet2, zEnt, zWid, Value.category, List.map_cons, List.map_nil, List.sum_cons, List.sum_nil, List.replicate, Option.toList, Nat.reduceAdd, Nat.reduceSub, Nat.reduceMul, Nat.reduceLeDiff, Nat.reduceEqDiff, Nat.reduceLT, List.cons_append, List.nil_append, true_or, or_true, or_false, false_or, nI_ltI, nI_leI, nI_eq, nI_clamp, zIn_nI, bI_0, nI_add, nI_mul, nI_or, nI_and, nI_shl1, nI_bit, pk_rem, pk_div, Nat.lt_irrefl, Nat.not_lt_zero, reduceCtorEq, hk]
  have st : ∀ (i : Nat) (x : Unit), i < n → zX d 390 5 [.ref b, .int v, .int (nI i), .int (nI n)] [] (setA σ b i (fun _ => v)) K = zX d 390 5 [.ref b, .int v, .int (nI (i + 1)), .int (nI n)] [] (setA σ b (i + 1) (fun _ => v)) K := by
    intro i x hi
    rw [L_390_5, ← setA_s]
    simp (disch := omega) only [zt_390_5, ↓e_iconst0, ↓e_iconst1, ↓e_bipush0, ↓e_bipush1, ↓e_sipush0, ↓e_sipush1, ↓e_ldc0, ↓e_ldc1, ↓e_ldc_w0, ↓e_ldc_w1, ↓e_ldc2, ↓e_lconst0, ↓e_lconst1, ↓e_ldc2_w0, ↓e_ldc2_w1, ↓e_iload, ↓e_iload_n, ↓e_istore, ↓e_istore_n, ↓e_lload, ↓e_lload_n, ↓e_lstore, ↓e_lstore_n, ↓e_aload, ↓e_aload_n, ↓e_astore, ↓e_astore_n, ↓e_iinc0, ↓e_iinc1, ↓e_iadd, ↓e_isub, ↓e_imul, ↓e_iand, ↓e_ior, ↓e_ixor, ↓e_ishl, ↓e_ishr, ↓e_iushr, ↓e_ladd, ↓e_lsub, ↓e_lmul, ↓e_land, ↓e_lor, ↓e_idiv, ↓e_irem, ↓e_ldiv, ↓e_lrem, ↓e_lshl, ↓e_lcmp, ↓e_i2l, ↓e_l2i, ↓e_i2b, ↓e_i2s, ↓e_dup_int, ↓e_pop_int, ↓e_dup_ref, ↓e_pop_ref, ↓e_dup2, ↓e_goto, ↓e_nop, ↓e_ifCond_eq, ↓e_if_icmp_eq, ↓e_ifCond_ne, ↓e_if_icmp_ne, ↓e_ifCond_lt, ↓e_if_icmp_lt, ↓e_ifCond_ge, ↓e_if_icmp_ge, ↓e_ifCond_gt, ↓e_if_icmp_gt, ↓e_ifCond_le, ↓e_if_icmp_le, ↓e_tab, ↓e_look, ↓e_get0, ↓e_get1, ↓e_get2, ↓e_get3, ↓e_put0, ↓e_put1, ↓e_put2, ↓e_put3, ↓e_iaload, ↓e_laload, ↓e_baload, ↓e_aaload, ↓e_iastore, ↓e_lastore, ↓e_bastore, ↓e_aastore, ↓e_alen, ↓e_new, ↓e_newarray, ↓e_anewarray, ↓e_objinit, ↓e_virt1, ↓e_virt2, ↓e_virt3, ↓e_virt4, ↓e_virt5, ↓e_virt6, ↓e_virt7, ↓e_stat0, ↓e_stat1, ↓e_stat2, ↓e_stat3, ↓e_stat4, ↓e_stat5, ↓e_stat6, ↓e_stat7, ↓e_spec1, ↓e_spec2, ↓e_spec3, ↓e_spec4, ↓e_spec5, ↓e_strlen, ↓e_charAt, ↓e_copy, ↓e_iret0, ↓e_iret1, ↓e_lret, ↓e_aret, ↓e_vret, zIsI_int, zIsL_long, zIsA_ref, zInt_int, true_and, and_true, ↓reduceIte, zGet, zSet, zSet2, zEnt, zWid, Value.category, List.map_cons, List.map_nil, List.sum_cons, List.sum_nil, List.replicate, Option.toList, Nat.reduceAdd, Nat.reduceSub, Nat.reduceMul, Nat.reduceLeDiff, Nat.reduceEqDiff, Nat.reduceLT, List.cons_append, List.nil_append, true_or, or_true, or_false, false_or, nI_ltI, nI_leI, nI_eq, nI_clamp, zIn_nI, bI_0, nI_add, nI_mul, nI_or, nI_and, nI_shl1, nI_bit, pk_rem, pk_div, Nat.lt_irrefl, Nat.not_lt_zero, reduceCtorEq, sK_setA, hk, hi]
  have h' := zfor_up (P := fun i (x : Unit) => zX d 390 5 [.ref b, .int v, .int (nI i), .int (nI n)] [] (setA σ b i (fun _ => v)) K) (g := fun _ x => x) (a := ()) st
  rw [setA_0] at h'
  refine Eq.trans h' ?_
  rw [L_390_5]
  simp (disch := omega) only [zt_390_5, L_390_20, zt_390_20, ↓e_iconst0, ↓e_iconst1, ↓e_bipush0, ↓e_bipush1, ↓e_sipush0, ↓e_sipush1, ↓e_ldc0, ↓e_ldc1, ↓e_ldc_w0, ↓e_ldc_w1, ↓e_ldc2, ↓e_lconst0, ↓e_lconst1, ↓e_ldc2_w0, ↓e_ldc2_w1, ↓e_iload, ↓e_iload_n, ↓e_istore, ↓e_istore_n, ↓e_lload, ↓e_lload_n, ↓e_lstore, ↓e_lstore_n, ↓e_aload, ↓e_aload_n, ↓e_astore, ↓e_astore_n, ↓e_iinc0, ↓e_iinc1, ↓e_iadd, ↓e_isub, ↓e_imul, ↓e_iand, ↓e_ior, ↓e_ixor, ↓e_ishl, ↓e_ishr, ↓e_iushr, ↓e_ladd, ↓e_lsub, ↓e_lmul, ↓e_land, ↓e_lor, ↓e_idiv, ↓e_irem, ↓e_ldiv, ↓e_lrem, ↓e_lshl, ↓e_lcmp, ↓e_i2l, ↓e_l2i, ↓e_i2b, ↓e_i2s, ↓e_dup_int, ↓e_pop_int, ↓e_dup_ref, ↓e_pop_ref, ↓e_dup2, ↓e_goto, ↓e_nop, ↓e_ifCond_eq, ↓e_if_icmp_eq, ↓e_ifCond_ne, ↓e_if_icmp_ne, ↓e_ifCond_lt, ↓e_if_icmp_lt, ↓e_ifCond_ge, ↓e_if_icmp_ge, ↓e_ifCond_gt, ↓e_if_icmp_gt, ↓e_ifCond_le, ↓e_if_icmp_le, ↓e_tab, ↓e_look, ↓e_get0, ↓e_get1, ↓e_get2, ↓e_get3, ↓e_put0, ↓e_put1, ↓e_put2, ↓e_put3, ↓e_iaload, ↓e_laload, ↓e_baload, ↓e_aaload, ↓e_iastore, ↓e_lastore, ↓e_bastore, ↓e_aastore, ↓e_alen, ↓e_new, ↓e_newarray, ↓e_anewarray, ↓e_objinit, ↓e_virt1, ↓e_virt2, ↓e_virt3, ↓e_virt4, ↓e_virt5, ↓e_virt6, ↓e_virt7, ↓e_stat0, ↓e_stat1, ↓e_stat2, ↓e_stat3, ↓e_stat4, ↓e_stat5, ↓e_stat6, ↓e_stat7, ↓e_spec1, ↓e_spec2, ↓e_spec3, ↓e_spec4, ↓e_spec5, ↓e_strlen, ↓e_charAt, ↓e_copy, ↓e_iret0, ↓e_iret1, ↓e_lret, ↓e_aret, ↓e_vret, zIsI_int, zIsL_long, zIsA_ref, zInt_int, true_and, and_true, ↓reduceIte, zGet, zSet, zSet2, zEnt, zWid, Value.category, List.map_cons, List.map_nil, List.sum_cons, List.sum_nil, List.replicate, Option.toList, Nat.reduceAdd, Nat.reduceSub, Nat.reduceMul, Nat.reduceLeDiff, Nat.reduceEqDiff, Nat.reduceLT, List.cons_append, List.nil_append, true_or, or_true, or_false, false_or, nI_ltI, nI_leI, nI_eq, nI_clamp, zIn_nI, bI_0, nI_add, nI_mul, nI_or, nI_and, nI_shl1, nI_bit, pk_rem, pk_div, Nat.lt_irrefl, Nat.not_lt_zero, reduceCtorEq, sK_setA, hk]
theorem c_fillL {b n : Nat} {v : Int64} (hk : sK σ b = (2, n)) (hn : n < 2 ^ 31) :
   zC (d + 1) 391 [.ref b, .long v] σ K = K none (upL σ b (fun j => if j < n then v else sL σ b j)) := by
  rw [E_391]
  simp (disch := omega) only [L_391_0, zt_391_0, ↓e_iconst0, ↓e_iconst1, ↓e_bipush0, ↓e_bipush1, ↓e_sipush0, ↓e_sipush1, ↓e_ldc0, ↓e_ldc1, ↓e_ldc_w0, ↓e_ldc_w1, ↓e_ldc2, ↓e_lconst0, ↓e_lconst1, ↓e_ldc2_w0, ↓e_ldc2_w1, ↓e_iload, ↓e_iload_n, ↓e_istore, ↓e_istore_n, ↓e_lload, ↓e_lload_n, ↓e_lstore, ↓e_lstore_n, ↓e_aload, ↓e_aload_n, ↓e_astore, ↓e_astore_n, ↓e_iinc0, ↓e_iinc1, ↓e_iadd, ↓e_isub, ↓e_imul, ↓e_iand, ↓e_ior, ↓e_ixor, ↓e_ishl, ↓e_ishr, ↓e_iushr, ↓e_ladd, ↓e_lsub, ↓e_lmul, ↓e_land, ↓e_lor, ↓e_idiv, ↓e_irem, ↓e_ldiv, ↓e_lrem, ↓e_lshl, ↓e_lcmp, ↓e_i2l, ↓e_l2i, ↓e_i2b, ↓e_i2s, ↓e_dup_int, ↓e_pop_int, ↓e_dup_ref, ↓e_pop_ref, ↓e_dup2, ↓e_goto, ↓e_nop, ↓e_ifCond_eq, ↓e_if_icmp_eq, ↓e_ifCond_ne, ↓e_if_icmp_ne, ↓e_ifCond_lt, ↓e_if_icmp_lt, ↓e_ifCond_ge, ↓e_if_icmp_ge, ↓e_ifCond_gt, ↓e_if_icmp_gt, ↓e_ifCond_le, ↓e_if_icmp_le, ↓e_tab, ↓e_look, ↓e_get0, ↓e_get1, ↓e_get2, ↓e_get3, ↓e_put0, ↓e_put1, ↓e_put2, ↓e_put3, ↓e_iaload, ↓e_laload, ↓e_baload, ↓e_aaload, ↓e_iastore, ↓e_lastore, ↓e_bastore, ↓e_aastore, ↓e_alen, ↓e_new, ↓e_newarray, ↓e_anewarray, ↓e_objinit, ↓e_virt1, ↓e_virt2, ↓e_virt3, ↓e_virt4, ↓e_virt5, ↓e_virt6, ↓e_virt7, ↓e_stat0, ↓e_stat1, ↓e_stat2, ↓e_stat3, ↓e_stat4, ↓e_stat5, ↓e_stat6, ↓e_stat7, ↓e_spec1, ↓e_spec2, ↓e_spec3, ↓e_spec4, ↓e_spec5, ↓e_strlen, ↓e_charAt, ↓e_copy, ↓e_iret0, ↓e_iret1, ↓e_lret, ↓e_aret, ↓e_vret, zIsI_int, zIsL_long, zIsA_ref, zInt_int, true_and, and_true, ↓reduceIte, zGet, zSet, zSet2, zEnt, zWid, Value.category, List.map_cons, List.map_nil, List.sum_cons, List.sum_nil, List.replicate, Option.toList, Nat.reduceAdd, Nat.reduceSub, Nat.reduceMul, Nat.reduceLeDiff, Nat.reduceEqDiff, Nat.reduceLT, List.cons_append, List.nil_append, true_or, or_true, or_false, false_or, nI_ltI, nI_leI, nI_eq, nI_clamp, zIn_nI, bI_0, nI_add, nI_mul, nI_or, nI_and, nI_shl1, nI_bit, pk_rem, pk_div, Nat.lt_irrefl, Nat.not_lt_zero, reduceCtorEq, hk]
  have st : ∀ (i : Nat) (x : Unit), i < n → zX d 391 6 [.ref b, .long v, .null, .int (nI i), .int (nI n)] [] (upL σ b (fun j => if j < i then v else sL σ b j)) K = zX d 391 6 [.ref b, .long v, .null, .int (nI (i + 1)), .int (nI n)] [] (upL σ b (fun j => if j < i + 1 then v else sL σ b j)) K := by
    intro i x hi
    have e : (fun j => if j < i + 1 then v else sL σ b j) = (fun j => if j = i then v else if j < i then v else sL σ b j) := by
      funext j
      by_cases h1 : j = i
      · simp [h1]
      · by_cases h2 : j < i
        · simp [h1, h2, Nat.lt_succ_of_lt h2]
        · simp [h1, h2, show ¬ j < i + 1 by omega]
    rw [L_391_6, e]
    simp (disch := omega) only [zt_391_6, ↓e_iconst0, ↓e_iconst1, ↓e_bipush0, ↓e_bipush1, ↓e_sipush0, ↓e_sipush1, ↓e_ldc0, ↓e_ldc1, ↓e_ldc_w0, ↓e_ldc_w1, ↓e_ldc2, ↓e_lconst0, ↓e_lconst1, ↓e_ldc2_w0, ↓e_ldc2_w1, ↓e_iload, ↓e_iload_n, ↓e_istore, ↓e_istore_n, ↓e_lload, ↓e_lload_n, ↓e_lstore, ↓e_lstore_n, ↓e_aload, ↓e_aload_n, ↓e_astore, ↓e_astore_n, ↓e_iinc0, ↓e_iinc1, ↓e_iadd, ↓e_isub, ↓e_imul, ↓e_iand, ↓e_ior, ↓e_ixor, ↓e_ishl, ↓e_ishr, ↓e_iushr, ↓e_ladd, ↓e_lsub, ↓e_lmul, ↓e_land, ↓e_lor, ↓e_idiv, ↓e_irem, ↓e_ldiv, ↓e_lrem, ↓e_lshl, ↓e_lcmp, ↓e_i2l, ↓e_l2i, ↓e_i2b, ↓e_i2s, ↓e_dup_int, ↓e_pop_int, ↓e_dup_ref, ↓e_pop_ref, ↓e_dup2, ↓e_goto, ↓e_nop, ↓e_ifCond_eq, ↓e_if_icmp_eq, ↓e_ifCond_ne, ↓e_if_icmp_ne, ↓e_ifCond_lt, ↓e_if_icmp_lt, ↓e_ifCond_ge, ↓e_if_icmp_ge, ↓e_ifCond_gt, ↓e_if_icmp_gt, ↓e_ifCond_le, ↓e_if_icmp_le, ↓e_tab, ↓e_look, ↓e_get0, ↓e_get1, ↓e_get2, ↓e_get3, ↓e_put0, ↓e_put1, ↓e_put2, ↓e_put3, ↓e_iaload, ↓e_laload, ↓e_baload, ↓e_aaload, ↓e_iastore, ↓e_lastore, ↓e_bastore, ↓e_aastore, ↓e_alen, ↓e_new, ↓e_newarray, ↓e_anewarray, ↓e_objinit, ↓e_virt1, ↓e_virt2, ↓e_virt3, ↓e_virt4, ↓e_virt5, ↓e_virt6, ↓e_virt7, ↓e_stat0, ↓e_stat1, ↓e_stat2, ↓e_stat3, ↓e_stat4, ↓e_stat5, ↓e_stat6, ↓e_stat7, ↓e_spec1, ↓e_spec2, ↓e_spec3, ↓e_spec4, ↓e_spec5, ↓e_strlen, ↓e_charAt, ↓e_copy, ↓e_iret0, ↓e_iret1, ↓e_lret, ↓e_aret, ↓e_vret, zIsI_int, zIsL_long, zIsA_ref, zInt_int, true_and, and_true, ↓reduceIte, zGet, zSet, zSet2, zEnt, zWid, Value.category, List.map_cons, List.map_nil, List.sum_cons, List.sum_nil, List.replicate, Option.toList, Nat.reduceAdd, Nat.reduceSub, Nat.reduceMul, Nat.reduceLeDiff, Nat.reduceEqDiff, Nat.reduceLT, List.cons_append, List.nil_append, true_or, or_true, or_false, false_or, nI_ltI, nI_leI, nI_eq, nI_clamp, zIn_nI, bI_0, nI_add, nI_mul, nI_or, nI_and, nI_shl1, nI_bit, pk_rem, pk_div, Nat.lt_irrefl, Nat.not_lt_zero, reduceCtorEq, sK_upL, hk, hi, setL_upL]
  have h' := zfor_up (P := fun i (x : Unit) => zX d 391 6 [.ref b, .long v, .null, .int (nI i), .int (nI n)] [] (upL σ b (fun j => if j < i then v else sL σ b j)) K) (g := fun _ x => x) (a := ()) st
  simp only [Nat.not_lt_zero, if_false, upL_self] at h'
  refine Eq.trans h' ?_
  rw [L_391_6]
  simp (disch := omega) only [zt_391_6, L_391_22, zt_391_22, ↓e_iconst0, ↓e_iconst1, ↓e_bipush0, ↓e_bipush1, ↓e_sipush0, ↓e_sipush1, ↓e_ldc0, ↓e_ldc1, ↓e_ldc_w0, ↓e_ldc_w1, ↓e_ldc2, ↓e_lconst0, ↓e_lconst1, ↓e_ldc2_w0, ↓e_ldc2_w1, ↓e_iload, ↓e_iload_n, ↓e_istore, ↓e_istore_n, ↓e_lload, ↓e_lload_n, ↓e_lstore, ↓e_lstore_n, ↓e_aload, ↓e_aload_n, ↓e_astore, ↓e_astore_n, ↓e_iinc0, ↓e_iinc1, ↓e_iadd, ↓e_isub, ↓e_imul, ↓e_iand, ↓e_ior, ↓e_ixor, ↓e_ishl, ↓e_ishr, ↓e_iushr, ↓e_ladd, ↓e_lsub, ↓e_lmul, ↓e_land, ↓e_lor, ↓e_idiv, ↓e_irem, ↓e_ldiv, ↓e_lrem, ↓e_lshl, ↓e_lcmp, ↓e_i2l, ↓e_l2i, ↓e_i2b, ↓e_i2s, ↓e_dup_int, ↓e_pop_int, ↓e_dup_ref, ↓e_pop_ref, ↓e_dup2, ↓e_goto, ↓e_nop, ↓e_ifCond_eq, ↓e_if_icmp_eq, ↓e_ifCond_ne, ↓e_if_icmp_ne, ↓e_ifCond_lt, ↓e_if_icmp_lt, ↓e_ifCond_ge, ↓e_if_icmp_ge, ↓e_ifCond_gt, ↓e_if_icmp_gt, ↓e_ifCond_le, ↓e_if_icmp_le, ↓e_tab, ↓e_look, ↓e_get0, ↓e_get1, ↓e_get2, ↓e_get3, ↓e_put0, ↓e_put1, ↓e_put2, ↓e_put3, ↓e_iaload, ↓e_laload, ↓e_baload, ↓e_aaload, ↓e_iastore, ↓e_lastore, ↓e_bastore, ↓e_aastore, ↓e_alen, ↓e_new, ↓e_newarray, ↓e_anewarray, ↓e_objinit, ↓e_virt1, ↓e_virt2, ↓e_virt3, ↓e_virt4, ↓e_virt5, ↓e_virt6, ↓e_virt7, ↓e_stat0, ↓e_stat1, ↓e_stat2, ↓e_stat3, ↓e_stat4, ↓e_stat5, ↓e_stat6, ↓e_stat7, ↓e_spec1, ↓e_spec2, ↓e_spec3, ↓e_spec4, ↓e_spec5, ↓e_strlen, ↓e_charAt, ↓e_copy, ↓e_iret0, ↓e_iret1, ↓e_lret, ↓e_aret, ↓e_vret, zIsI_int, zIsL_long, zIsA_ref, zInt_int, true_and, and_true, ↓reduceIte, zGet, zSet, zSet2, zEnt, zWid, Value.category, List.map_cons, List.map_nil, List.sum_cons, List.sum_nil, List.replicate, Option.toList, Nat.reduceAdd, Nat.reduceSub, Nat.reduceMul, Nat.reduceLeDiff, Nat.reduceEqDiff, Nat.reduceLT, List.cons_append, List.nil_append, true_or, or_true, or_false, false_or, nI_ltI, nI_leI, nI_eq, nI_clamp, zIn_nI, bI_0, nI_add, nI_mul, nI_or, nI_and, nI_shl1, nI_bit, pk_rem, pk_div, Nat.lt_irrefl, Nat.not_lt_zero, reduceCtorEq, sK_upL, hk]
end FIL
