/-! THE MODEL READS DAYS -/
def RDn (σ : MS) (B : Nat → Nat) (n : Nat) (T : Tk) (A : Ofc) (S : Ps) : Prop := (RMod σ A) ∧ (RTn σ B n T) ∧ (sI σ 121 1623 = nI S.1.2.1) ∧ (∀ i, i < S.1.2.1 → sI σ 121 (1652 + 6 * i) = nI (S.1.2.2.2 i).1) ∧ (∀ i, i < S.1.2.1 → sI σ 121 (1652 + 6 * i + 1) = nI (S.1.2.2.2 i).2.1) ∧ (∀ i, i < S.1.2.1 → sI σ 121 (1652 + 6 * i + 2) = nI (S.1.2.2.2 i).2.2.1) ∧ (∀ i, i < S.1.2.1 → sI σ 121 (1652 + 6 * i + 4) = nI (S.1.2.2.2 i).2.2.2.1) ∧ (∀ i, i < S.1.2.1 → sI σ 121 (1652 + 6 * i + 5) = nI (S.1.2.2.2 i).2.2.2.2) ∧ (sI σ 120 22 = nI S.2.1) ∧ (sI σ 120 23 = nI S.1.1) ∧ (∀ k, k < S.2.1 → sI σ 128 k = nI (S.2.2.2 k)) ∧ (sI σ 120 18 = nI 0) ∧ (sI σ 120 17 = -nI 1)
theorem RDn.m {σ : MS} {B : Nat → Nat} {n : Nat} {T : Tk} {A : Ofc} {S : Ps} (H : RDn σ B n T A S) : RMod σ A := H.1
theorem RDn.x {σ : MS} {B : Nat → Nat} {n : Nat} {T : Tk} {A : Ofc} {S : Ps} (H : RDn σ B n T A S) : RTn σ B n T := H.2.1
theorem RDn.s7 {σ : MS} {B : Nat → Nat} {n : Nat} {T : Tk} {A : Ofc} {S : Ps} (H : RDn σ B n T A S) : sI σ 121 1623 = nI S.1.2.1 := H.2.2.1
theorem RDn.q0 {σ : MS} {B : Nat → Nat} {n : Nat} {T : Tk} {A : Ofc} {S : Ps} (H : RDn σ B n T A S) : ∀ i, i < S.1.2.1 → sI σ 121 (1652 + 6 * i) = nI (S.1.2.2.2 i).1 := H.2.2.2.1
theorem RDn.q1 {σ : MS} {B : Nat → Nat} {n : Nat} {T : Tk} {A : Ofc} {S : Ps} (H : RDn σ B n T A S) : ∀ i, i < S.1.2.1 → sI σ 121 (1652 + 6 * i + 1) = nI (S.1.2.2.2 i).2.1 := H.2.2.2.2.1
theorem RDn.q2 {σ : MS} {B : Nat → Nat} {n : Nat} {T : Tk} {A : Ofc} {S : Ps} (H : RDn σ B n T A S) : ∀ i, i < S.1.2.1 → sI σ 121 (1652 + 6 * i + 2) = nI (S.1.2.2.2 i).2.2.1 := H.2.2.2.2.2.1
theorem RDn.q4 {σ : MS} {B : Nat → Nat} {n : Nat} {T : Tk} {A : Ofc} {S : Ps} (H : RDn σ B n T A S) : ∀ i, i < S.1.2.1 → sI σ 121 (1652 + 6 * i + 4) = nI (S.1.2.2.2 i).2.2.2.1 := H.2.2.2.2.2.2.1
theorem RDn.q5 {σ : MS} {B : Nat → Nat} {n : Nat} {T : Tk} {A : Ofc} {S : Ps} (H : RDn σ B n T A S) : ∀ i, i < S.1.2.1 → sI σ 121 (1652 + 6 * i + 5) = nI (S.1.2.2.2 i).2.2.2.2 := H.2.2.2.2.2.2.2.1
theorem RDn.dp {σ : MS} {B : Nat → Nat} {n : Nat} {T : Tk} {A : Ofc} {S : Ps} (H : RDn σ B n T A S) : sI σ 120 22 = nI S.2.1 := H.2.2.2.2.2.2.2.2.1
theorem RDn.ct {σ : MS} {B : Nat → Nat} {n : Nat} {T : Tk} {A : Ofc} {S : Ps} (H : RDn σ B n T A S) : sI σ 120 23 = nI S.1.1 := H.2.2.2.2.2.2.2.2.2.1
theorem RDn.op {σ : MS} {B : Nat → Nat} {n : Nat} {T : Tk} {A : Ofc} {S : Ps} (H : RDn σ B n T A S) : ∀ k, k < S.2.1 → sI σ 128 k = nI (S.2.2.2 k) := H.2.2.2.2.2.2.2.2.2.2.1
theorem RDn.z {σ : MS} {B : Nat → Nat} {n : Nat} {T : Tk} {A : Ofc} {S : Ps} (H : RDn σ B n T A S) : sI σ 120 18 = nI 0 := H.2.2.2.2.2.2.2.2.2.2.2.1
theorem RDn.z7 {σ : MS} {B : Nat → Nat} {n : Nat} {T : Tk} {A : Ofc} {S : Ps} (H : RDn σ B n T A S) : sI σ 120 17 = -nI 1 := H.2.2.2.2.2.2.2.2.2.2.2.2
theorem RDn.mk {σ : MS} {B : Nat → Nat} {n : Nat} {T : Tk} {A : Ofc} {S : Ps} (m : RMod σ A) (x : RTn σ B n T) (s7 : sI σ 121 1623 = nI S.1.2.1) (q0 : ∀ i, i < S.1.2.1 → sI σ 121 (1652 + 6 * i) = nI (S.1.2.2.2 i).1) (q1 : ∀ i, i < S.1.2.1 → sI σ 121 (1652 + 6 * i + 1) = nI (S.1.2.2.2 i).2.1) (q2 : ∀ i, i < S.1.2.1 → sI σ 121 (1652 + 6 * i + 2) = nI (S.1.2.2.2 i).2.2.1) (q4 : ∀ i, i < S.1.2.1 → sI σ 121 (1652 + 6 * i + 4) = nI (S.1.2.2.2 i).2.2.2.1) (q5 : ∀ i, i < S.1.2.1 → sI σ 121 (1652 + 6 * i + 5) = nI (S.1.2.2.2 i).2.2.2.2) (dp : sI σ 120 22 = nI S.2.1) (ct : sI σ 120 23 = nI S.1.1) (op : ∀ k, k < S.2.1 → sI σ 128 k = nI (S.2.2.2 k)) (z : sI σ 120 18 = nI 0) (z7 : sI σ 120 17 = -nI 1) : RDn σ B n T A S := ⟨m, x, s7, q0, q1, q2, q4, q5, dp, ct, op, z, z7⟩
def FN (σ τ : MS) : Prop := Ag (fun b => b = 120 ∨ b = 121 ∨ b = 128) σ τ ∧ (∀ j, j < 1616 → sI τ 121 j = sI σ 121 j) ∧ (∀ j, (j < 12 ∨ j = 16 ∨ 24 ≤ j) → sI τ 120 j = sI σ 120 j) ∧ (∀ j, sL τ 120 j = sL σ 120 j)
def NP (σ : MS) (B : Nat → Nat) (n : Nat) (A : Ofc) (x : Er ⊕ (Ps × Tk)) (τ : MS) : Prop := FN σ τ ∧ match x with
  | .inl e => sI τ 120 18 = nI e.1 ∧ sI τ 120 17 = nI e.2
  | .inr y => RDn τ B n y.2 A y.1
/-- a number read to a place -/
def MPc (σ : MS) (B : Nat → Nat) (n to : Nat) (x : Er ⊕ (Nat × Tk)) (τ : MS) : Prop := match x with
  | .inl e => FN σ τ ∧ sI τ 120 18 = nI e.1 ∧ sI τ 120 17 = nI e.2
  | .inr y => TmF (setI σ 121 to (nI y.1)) τ ∧ RTn τ B n y.2
section DYM
variable {d : Nat} {σ τ ρ : MS} {n : Nat} {A : Ofc} {B : Nat → Nat} {T U : Tk} {S : Ps} {K : Option Value → MS → Prop}
theorem FN.rf : FN σ σ := ⟨Ag.rf, fun _ _ => rfl, fun _ _ => rfl, fun _ => rfl⟩
theorem FN.tr (h1 : FN σ τ) (h2 : FN τ ρ) : FN σ ρ := ⟨h1.1.tr h2.1, fun j hj => (h2.2.1 j hj).trans (h1.2.1 j hj), fun j hj => (h2.2.2.1 j hj).trans (h1.2.2.1 j hj), fun j => (h2.2.2.2 j).trans (h1.2.2.2 j)⟩
theorem FN.tm (h : TmF σ τ) : FN σ τ := ⟨h.1.mono (fun b hb => .inl hb), fun j _ => h.1.I (by omega) j, fun j hj => h.2.1 j (by omega), h.2.2⟩
theorem FN.st {i : Nat} {v : Int32} (h : 1616 ≤ i) : FN σ (setI σ 121 i v) := ⟨Ag.rf.setI (.inr (.inl rfl)), fun j hj => by rw [sI_setI, if_neg (by omega)], fun j _ => by rw [sI_setI, if_neg (by omega)], fun j => rfl⟩
theorem FN.s0 {i : Nat} {v : Int32} (h : i = 22 ∨ i = 23) : FN σ (setI σ 120 i v) := ⟨Ag.rf.setI (.inl rfl), fun j hj => by rw [sI_setI, if_neg (by omega)], fun j _ => by rw [sI_setI, if_neg (by omega)], fun j => rfl⟩
theorem FN.s8 {i : Nat} {v : Int32} : FN σ (setI σ 128 i v) := ⟨Ag.rf.setI (.inr (.inr rfl)), fun j hj => by rw [sI_setI, if_neg (by omega)], fun j _ => by rw [sI_setI, if_neg (by omega)], fun j => rfl⟩
theorem FN.flt (h : FN σ τ) (c s : Nat) : FN σ (fltM τ c s) := h.tr ⟨(fltM_ag c s).mono (fun b hb => .inl hb), fun j _ => (fltM_ag c s).I (by omega) j, fun j hj => fltM_I c s (by omega), fun j => by unfold fltM; rfl⟩
theorem NP.no {e : Er} (h : FN σ τ) : NP σ B n A (.inl e) (fltM τ e.1 e.2) := ⟨h.flt _ _, fltM_18 _ _, fltM_17 _ _⟩
theorem NP.tr {x : Er ⊕ (Ps × Tk)} (h : FN σ τ) (X : NP τ B n A x ρ) : NP σ B n A x ρ := ⟨h.tr X.1, X.2⟩
theorem RMod.fn (M : RMod σ A) (O : OfcOk A) (h : FN σ τ) : RMod τ A := RSl.mod (M.sl.to O (fun j hj => h.2.1 _ (by omega)) (fun j _ => h.1.L (by omega) _)) (M.m.ag h.1)
theorem RDn.tm (X : RDn σ B n T A S) (O : OfcOk A) (f : TmF σ τ) (Y : RTn τ B n U) : RDn τ B n U A S := by
  have i := fun j => f.1.I (b := 121) (by omega) j
  have i8 := fun j => f.1.I (b := 128) (by omega) j
  exact RDn.mk (X.m.fn O (FN.tm f)) Y ((i _).trans X.s7) (fun k h => (i _).trans (X.q0 k h)) (fun k h => (i _).trans (X.q1 k h)) (fun k h => (i _).trans (X.q2 k h)) (fun k h => (i _).trans (X.q4 k h)) (fun k h => (i _).trans (X.q5 k h)) ((f.2.1 _ (by omega)).trans X.dp) ((f.2.1 _ (by omega)).trans X.ct) (fun k h => (i8 _).trans (X.op k h)) ((f.2.1 _ (by omega)).trans X.z) ((f.2.1 _ (by omega)).trans X.z7)
/-- places of one row set -/
theorem RDn.row (X : RDn σ B n T A S) (O : OfcOk A) {m : Nat} (hm : m < S.1.2.1) {q : Nat × Nat × Nat × Nat × Nat} (f : Ag (fun b => b = 121) σ τ) (hI : ∀ j, (j < 1652 + 6 * m ∨ 1652 + 6 * m + 6 ≤ j) → sI τ 121 j = sI σ 121 j) (h0 : sI τ 121 (1652 + 6 * m) = nI q.1) (h1 : sI τ 121 (1652 + 6 * m + 1) = nI q.2.1) (h2 : sI τ 121 (1652 + 6 * m + 2) = nI q.2.2.1) (h4 : sI τ 121 (1652 + 6 * m + 4) = nI q.2.2.2.1) (h5 : sI τ 121 (1652 + 6 * m + 5) = nI q.2.2.2.2) : RDn τ B n T A ((S.1.1, S.1.2.1, S.1.2.2.1, upF S.1.2.2.2 m q), S.2) := by
  have fn : FN σ τ := ⟨f.mono (fun b hb => .inr (.inl hb)), fun j hj => hI j (by omega), fun j _ => f.I (by omega) j, fun j => f.L (by omega) j⟩
  have i0 := fun j => f.I (b := 120) (by omega) j
  refine RDn.mk (X.m.fn O fn) (X.x.keep i0 (fun j => f.I (by omega) j)) ((hI _ (by omega)).trans X.s7) (fun k h => ?_) (fun k h => ?_) (fun k h => ?_) (fun k h => ?_) (fun k h => ?_) ((i0 _).trans X.dp) ((i0 _).trans X.ct) (fun k h => (f.I (by omega) _).trans (X.op k h)) ((i0 _).trans X.z) ((i0 _).trans X.z7)
  · show _ = nI (upF S.1.2.2.2 m q k).1
    by_cases e : k = m
    · rw [e, upF_s]; exact h0
    · rw [upF_n _ _ e, hI _ (by omega)]; exact X.q0 k h
  · show _ = nI (upF S.1.2.2.2 m q k).2.1
    by_cases e : k = m
    · rw [e, upF_s]; exact h1
    · rw [upF_n _ _ e, hI _ (by omega)]; exact X.q1 k h
  · show _ = nI (upF S.1.2.2.2 m q k).2.2.1
    by_cases e : k = m
    · rw [e, upF_s]; exact h2
    · rw [upF_n _ _ e, hI _ (by omega)]; exact X.q2 k h
  · show _ = nI (upF S.1.2.2.2 m q k).2.2.2.1
    by_cases e : k = m
    · rw [e, upF_s]; exact h4
    · rw [upF_n _ _ e, hI _ (by omega)]; exact X.q4 k h
  · show _ = nI (upF S.1.2.2.2 m q k).2.2.2.2
    by_cases e : k = m
    · rw [e, upF_s]; exact h5
    · rw [upF_n _ _ e, hI _ (by omega)]; exact X.q5 k h
theorem m_oldOne (M : RMk σ) (X : RTn σ B n T) (z : sI σ 120 18 = nI 0) (H : TkOk B n T) (h9 : n ≤ 900) {b m to : Nat} (hb : b + m ≤ 120) (hm : m ≤ 8) (ht : 1616 ≤ to) (ht2 : to < 2640) {f : Nat → Bool} (hf : isNm B T = true → ∀ i, i < m → (sL σ 122 (b + i) == lN (nm256 (tw B T))) = f i) {o : Option Nat} (ho : o = ff f m) :
   ∃ τ, MPc σ B n to (if isNm B T = true then (match o with | none => .inl (3, T.2.1) | some p => .inr (p, nx B n T)) else .inl (cs T, T.2.1)) τ ∧ ∀ K, zC (d + 4) 256 [.ref 120, .int (nI b), .int (nI m), .int (nI to)] σ K = K (some (.int (bI (okR (if isNm B T = true then (match o with | none => (.inl (3, T.2.1) : Er ⊕ (Nat × Tk)) | some p => .inr (p, nx B n T)) else .inl (cs T, T.2.1)))))) τ := by
  have inm := fun (K : Option Value → MS → Prop) => m_isName (d := d) (K := K) M X H h9
  cases hn : isNm B T with
  | false =>
    rw [if_neg Bool.false_ne_true]
    refine ⟨_, ⟨FN.rf.flt _ _, fltM_18 _ _, fltM_17 _ _⟩, fun K => ?_⟩
    rw [E_256]
    simp (disch := omega) only [L_256_0, zt_256_0, L_256_15, zt_256_15, L_256_43, zt_256_43, ↓e_iconst0, ↓e_iconst1, ↓e_bipush0, ↓e_bipush1, ↓e_sipush0, ↓e_sipush1, ↓e_ldc0, ↓e_ldc1, ↓e_ldc_w0, ↓e_ldc_w1, ↓e_ldc2, ↓e_lconst0, ↓e_lconst1, ↓e_ldc2_w0, ↓e_ldc2_w1, ↓e_iload, ↓e_iload_n, ↓e_istore, ↓e_istore_n, ↓e_lload, ↓e_lload_n, ↓e_lstore, ↓e_lstore_n, ↓e_aload, ↓e_aload_n, ↓e_astore, ↓e_astore_n, ↓e_iinc0, ↓e_iinc1, ↓e_iadd, ↓e_isub, ↓e_imul, ↓e_iand, ↓e_ior, ↓e_ixor, ↓e_ishl, ↓e_ishr, ↓e_iushr, ↓e_ladd, ↓e_lsub, ↓e_lmul, ↓e_land, ↓e_lor, ↓e_idiv, ↓e_irem, ↓e_ldiv, ↓e_lrem, ↓e_lshl, ↓e_lcmp, ↓e_i2l, ↓e_l2i, ↓e_i2b, ↓e_i2s, ↓e_dup_int, ↓e_pop_int, ↓e_dup_ref, ↓e_pop_ref, ↓e_dup2, ↓e_goto, ↓e_nop, ↓e_ifCond_eq, ↓e_if_icmp_eq, ↓e_ifCond_ne, ↓e_if_icmp_ne, ↓e_ifCond_lt, ↓e_if_icmp_lt, ↓e_ifCond_ge, ↓e_if_icmp_ge, ↓e_ifCond_gt, ↓e_if_icmp_gt, ↓e_ifCond_le, ↓e_if_icmp_le, ↓e_tab, ↓e_look, ↓e_get0, ↓e_get1, ↓e_get2, ↓e_get3, ↓e_put0, ↓e_put1, ↓e_put2, ↓e_put3, ↓e_iaload, ↓e_laload, ↓e_baload, ↓e_aaload, ↓e_iastore, ↓e_lastore, ↓e_bastore, ↓e_aastore, ↓e_alen, ↓e_new, ↓e_newarray, ↓e_anewarray, ↓e_objinit, ↓e_virt1, ↓e_virt2, ↓e_virt3, ↓e_virt4, ↓e_virt5, ↓e_virt6, ↓e_virt7, ↓e_stat0, ↓e_stat1, ↓e_stat2, ↓e_stat3, ↓e_stat4, ↓e_stat5, ↓e_stat6, ↓e_stat7, ↓e_spec1, ↓e_spec2, ↓e_spec3, ↓e_spec4, ↓e_spec5, ↓e_strlen, ↓e_charAt, ↓e_copy, ↓e_iret0, ↓e_iret1, ↓e_lret, ↓e_aret, ↓e_vret, zIsI_int, zIsL_long, zIsA_ref, zInt_int, true_and, and_true, ↓reduceIte, zGet, zSet, zSet2, zEnt, zWid, Value.category, List.map_cons, List.map_nil, List.sum_cons, List.sum_nil, List.replicate, Option.toList, Nat.reduceAdd, Nat.reduceSub, Nat.reduceMul, Nat.reduceLeDiff, Nat.reduceEqDiff, Nat.reduceLT, List.cons_append, List.nil_append, true_or, or_true, or_false, false_or, nI_ltI, nI_leI, nI_eq, nI_clamp, zIn_nI, bI_0, nI_add, nI_mul, nI_or, nI_and, nI_shl1, nI_bit, ↓pk_rem, pk_div, Nat.lt_irrefl, Nat.not_lt_zero, reduceCtorEq, M.k, ↓inm, hn, show bI false = nI 0 from rfl, ↓m_fails2 M X H z]
    rfl
  | true =>
    rw [if_pos rfl]
    have T1n : T.1 ≠ 1 := by have := (isNm_is hn).1; omega
    have fh := fun (K : Option Value → MS → Prop) => m_findHere (d := d) (K := K) M X H h9 hn hb (hf hn)
    rw [← ho] at fh
    have s12 : ∀ v, sI (setI σ 121 to v) 121 to = v := fun v => by rw [sI_setI, if_pos ⟨rfl, rfl⟩]
    have M2 : ∀ v, RMk (setI σ 121 to v) := fun v => M.ag (Ag.rf.setI (p := fun b => b = 121) rfl)
    have X2 : ∀ v, RTn (setI σ 121 to v) B n T := fun v => X.sI
    cases ho2 : o with
    | none =>
      have M3 := M2 (-nI 1)
      refine ⟨fltM (setI σ 121 to (-nI 1)) 3 T.2.1, ⟨FN.flt (FN.st ht) _ _, fltM_18 _ _, fltM_17 _ _⟩, fun K => ?_⟩
      have z2 : sI (setI σ 121 to (-nI 1)) 120 18 = nI 0 := by rw [sI_setI, if_neg (by omega)]; exact z
      rw [E_256]
      simp (disch := omega) only [L_256_0, zt_256_0, L_256_15, zt_256_15, L_256_43, zt_256_43, ↓e_iconst0, ↓e_iconst1, ↓e_bipush0, ↓e_bipush1, ↓e_sipush0, ↓e_sipush1, ↓e_ldc0, ↓e_ldc1, ↓e_ldc_w0, ↓e_ldc_w1, ↓e_ldc2, ↓e_lconst0, ↓e_lconst1, ↓e_ldc2_w0, ↓e_ldc2_w1, ↓e_iload, ↓e_iload_n, ↓e_istore, ↓e_istore_n, ↓e_lload, ↓e_lload_n, ↓e_lstore, ↓e_lstore_n, ↓e_aload, ↓e_aload_n, ↓e_astore, ↓e_astore_n, ↓e_iinc0, ↓e_iinc1, ↓e_iadd, ↓e_isub, ↓e_imul, ↓e_iand, ↓e_ior, ↓e_ixor, ↓e_ishl, ↓e_ishr, ↓e_iushr, ↓e_ladd, ↓e_lsub, ↓e_lmul, ↓e_land, ↓e_lor, ↓e_idiv, ↓e_irem, ↓e_ldiv, ↓e_lrem, ↓e_lshl, ↓e_lcmp, ↓e_i2l, ↓e_l2i, ↓e_i2b, ↓e_i2s, ↓e_dup_int, ↓e_pop_int, ↓e_dup_ref, ↓e_pop_ref, ↓e_dup2, ↓e_goto, ↓e_nop, ↓e_ifCond_eq, ↓e_if_icmp_eq, ↓e_ifCond_ne, ↓e_if_icmp_ne, ↓e_ifCond_lt, ↓e_if_icmp_lt, ↓e_ifCond_ge, ↓e_if_icmp_ge, ↓e_ifCond_gt, ↓e_if_icmp_gt, ↓e_ifCond_le, ↓e_if_icmp_le, ↓e_tab, ↓e_look, ↓e_get0, ↓e_get1, ↓e_get2, ↓e_get3, ↓e_put0, ↓e_put1, ↓e_put2, ↓e_put3, ↓e_iaload, ↓e_laload, ↓e_baload, ↓e_aaload, ↓e_iastore, ↓e_lastore, ↓e_bastore, ↓e_aastore, ↓e_alen, ↓e_new, ↓e_newarray, ↓e_anewarray, ↓e_objinit, ↓e_virt1, ↓e_virt2, ↓e_virt3, ↓e_virt4, ↓e_virt5, ↓e_virt6, ↓e_virt7, ↓e_stat0, ↓e_stat1, ↓e_stat2, ↓e_stat3, ↓e_stat4, ↓e_stat5, ↓e_stat6, ↓e_stat7, ↓e_spec1, ↓e_spec2, ↓e_spec3, ↓e_spec4, ↓e_spec5, ↓e_strlen, ↓e_charAt, ↓e_copy, ↓e_iret0, ↓e_iret1, ↓e_lret, ↓e_aret, ↓e_vret, zIsI_int, zIsL_long, zIsA_ref, zInt_int, true_and, and_true, ↓reduceIte, zGet, zSet, zSet2, zEnt, zWid, Value.category, List.map_cons, List.map_nil, List.sum_cons, List.sum_nil, List.replicate, Option.toList, Nat.reduceAdd, Nat.reduceSub, Nat.reduceMul, Nat.reduceLeDiff, Nat.reduceEqDiff, Nat.reduceLT, List.cons_append, List.nil_append, true_or, or_true, or_false, false_or, nI_ltI, nI_leI, nI_eq, nI_clamp, zIn_nI, bI_0, nI_add, nI_mul, nI_or, nI_and, nI_shl1, nI_bit, ↓pk_rem, pk_div, Nat.lt_irrefl, Nat.not_lt_zero, reduceCtorEq, M.k, M.r0, M.r1, M.r5, M.r6, M.r7, M.r8, M.r9, M.r21, M.r24, M.r25, M.r28, M.r29, M.r30, M.r31, M.r35, M.r36, M.r37, M.r38, M.r40, M.r43, M.r44, M.r45, M.k121, M.k122, M.k123, M.k124, M.k125, M.k126, M.k127, M.k128, M.k129, M.k130, M.k131, M.k132, M.k133, M.k134, M.k135, M.k136, M.k137, M.k138, M.k139, M.k140, M.k141, M.k142, ↓inm, hn, show bI true = nI 1 from rfl, ↓fh, ho2, show oI none = -nI 1 from rfl, ht2, M3.k, M3.r0, M3.r1, M3.r5, M3.r6, M3.r7, M3.r8, M3.r9, M3.r21, M3.r24, M3.r25, M3.r28, M3.r29, M3.r30, M3.r31, M3.r35, M3.r36, M3.r37, M3.r38, M3.r40, M3.r43, M3.r44, M3.r45, M3.k121, M3.k122, M3.k123, M3.k124, M3.k125, M3.k126, M3.k127, M3.k128, M3.k129, M3.k130, M3.k131, M3.k132, M3.k133, M3.k134, M3.k135, M3.k136, M3.k137, M3.k138, M3.k139, M3.k140, M3.k141, M3.k142, s12, ↓m_failsW M3 (X2 (-nI 1)) H z2 T1n]
      rfl
    | some p =>
      have pm : p < m := (ff_is (ho.symm.trans ho2)).1
      have np1 : ¬ nI p = -nI 1 := oI_some_ne (k := p) (by omega)
      have M3 := M2 (nI p)
      obtain ⟨τ, g, Y, e⟩ := m_adv (d := d + 1) M3 (X2 (nI p)) H h9
      refine ⟨τ, ⟨g, Y⟩, fun K => ?_⟩
      rw [E_256]
      simp (disch := omega) only [L_256_0, zt_256_0, L_256_15, zt_256_15, L_256_43, zt_256_43, ↓e_iconst0, ↓e_iconst1, ↓e_bipush0, ↓e_bipush1, ↓e_sipush0, ↓e_sipush1, ↓e_ldc0, ↓e_ldc1, ↓e_ldc_w0, ↓e_ldc_w1, ↓e_ldc2, ↓e_lconst0, ↓e_lconst1, ↓e_ldc2_w0, ↓e_ldc2_w1, ↓e_iload, ↓e_iload_n, ↓e_istore, ↓e_istore_n, ↓e_lload, ↓e_lload_n, ↓e_lstore, ↓e_lstore_n, ↓e_aload, ↓e_aload_n, ↓e_astore, ↓e_astore_n, ↓e_iinc0, ↓e_iinc1, ↓e_iadd, ↓e_isub, ↓e_imul, ↓e_iand, ↓e_ior, ↓e_ixor, ↓e_ishl, ↓e_ishr, ↓e_iushr, ↓e_ladd, ↓e_lsub, ↓e_lmul, ↓e_land, ↓e_lor, ↓e_idiv, ↓e_irem, ↓e_ldiv, ↓e_lrem, ↓e_lshl, ↓e_lcmp, ↓e_i2l, ↓e_l2i, ↓e_i2b, ↓e_i2s, ↓e_dup_int, ↓e_pop_int, ↓e_dup_ref, ↓e_pop_ref, ↓e_dup2, ↓e_goto, ↓e_nop, ↓e_ifCond_eq, ↓e_if_icmp_eq, ↓e_ifCond_ne, ↓e_if_icmp_ne, ↓e_ifCond_lt, ↓e_if_icmp_lt, ↓e_ifCond_ge, ↓e_if_icmp_ge, ↓e_ifCond_gt, ↓e_if_icmp_gt, ↓e_ifCond_le, ↓e_if_icmp_le, ↓e_tab, ↓e_look, ↓e_get0, ↓e_get1, ↓e_get2, ↓e_get3, ↓e_put0, ↓e_put1, ↓e_put2, ↓e_put3, ↓e_iaload, ↓e_laload, ↓e_baload, ↓e_aaload, ↓e_iastore, ↓e_lastore, ↓e_bastore, ↓e_aastore, ↓e_alen, ↓e_new, ↓e_newarray, ↓e_anewarray, ↓e_objinit, ↓e_virt1, ↓e_virt2, ↓e_virt3, ↓e_virt4, ↓e_virt5, ↓e_virt6, ↓e_virt7, ↓e_stat0, ↓e_stat1, ↓e_stat2, ↓e_stat3, ↓e_stat4, ↓e_stat5, ↓e_stat6, ↓e_stat7, ↓e_spec1, ↓e_spec2, ↓e_spec3, ↓e_spec4, ↓e_spec5, ↓e_strlen, ↓e_charAt, ↓e_copy, ↓e_iret0, ↓e_iret1, ↓e_lret, ↓e_aret, ↓e_vret, zIsI_int, zIsL_long, zIsA_ref, zInt_int, true_and, and_true, ↓reduceIte, zGet, zSet, zSet2, zEnt, zWid, Value.category, List.map_cons, List.map_nil, List.sum_cons, List.sum_nil, List.replicate, Option.toList, Nat.reduceAdd, Nat.reduceSub, Nat.reduceMul, Nat.reduceLeDiff, Nat.reduceEqDiff, Nat.reduceLT, List.cons_append, List.nil_append, true_or, or_true, or_false, false_or, nI_ltI, nI_leI, nI_eq, nI_clamp, zIn_nI, bI_0, nI_add, nI_mul, nI_or, nI_and, nI_shl1, nI_bit, ↓pk_rem, pk_div, Nat.lt_irrefl, Nat.not_lt_zero, reduceCtorEq, M.k, M.r0, M.r1, M.r5, M.r6, M.r7, M.r8, M.r9, M.r21, M.r24, M.r25, M.r28, M.r29, M.r30, M.r31, M.r35, M.r36, M.r37, M.r38, M.r40, M.r43, M.r44, M.r45, M.k121, M.k122, M.k123, M.k124, M.k125, M.k126, M.k127, M.k128, M.k129, M.k130, M.k131, M.k132, M.k133, M.k134, M.k135, M.k136, M.k137, M.k138, M.k139, M.k140, M.k141, M.k142, ↓inm, hn, show bI true = nI 1 from rfl, ↓fh, ho2, show oI (some p) = nI p from rfl, np1, ht2, M3.k, M3.r0, M3.r1, M3.r5, M3.r6, M3.r7, M3.r8, M3.r9, M3.r21, M3.r24, M3.r25, M3.r28, M3.r29, M3.r30, M3.r31, M3.r35, M3.r36, M3.r37, M3.r38, M3.r40, M3.r43, M3.r44, M3.r45, M3.k121, M3.k122, M3.k123, M3.k124, M3.k125, M3.k126, M3.k127, M3.k128, M3.k129, M3.k130, M3.k131, M3.k132, M3.k133, M3.k134, M3.k135, M3.k136, M3.k137, M3.k138, M3.k139, M3.k140, M3.k141, M3.k142, s12, ↓e]
      rfl
theorem m_paperTo (X : RDn σ B n T A S) (H : TkOk B n T) (h9 : n ≤ 900) (O : OfcOk A) (N : NmOk A) {to : Nat} (ht : 1616 ≤ to) (ht2 : to < 2640) :
   ∃ τ, MPc σ B n to (piece B n A 112 T) τ ∧ ∀ K, zC (d + 5) 265 [.ref 120, .int (nI to)] σ K = K (some (.int (bI (okR (piece B n A 112 T))))) τ := by
  have M := X.m.m
  have p8 := O.p8
  obtain ⟨τ, P, e⟩ := m_oldOne (d := d) M X.x X.z H h9 (b := 8) (m := A.np) (to := to) (by omega) p8 ht ht2 (f := fun i => A.pn i == tw B T) (fun hn i hi => by rw [X.m.n8 i hi]; exact nm256_beq0 (N.p i hi) (tw_Nm H hn)) (o := A.pOf (tw B T)) rfl
  have ep : piece B n A 112 T = (if isNm B T = true then (match A.pOf (tw B T) with | none => .inl (3, T.2.1) | some p => .inr (p, nx B n T)) else .inl (cs T, T.2.1)) := by unfold piece; rw [if_pos rfl]; rfl
  rw [ep]
  refine ⟨τ, P, fun K => ?_⟩
  rw [E_265]
  simp (disch := omega) only [L_265_0, zt_265_0, ↓e_iconst0, ↓e_iconst1, ↓e_bipush0, ↓e_bipush1, ↓e_sipush0, ↓e_sipush1, ↓e_ldc0, ↓e_ldc1, ↓e_ldc_w0, ↓e_ldc_w1, ↓e_ldc2, ↓e_lconst0, ↓e_lconst1, ↓e_ldc2_w0, ↓e_ldc2_w1, ↓e_iload, ↓e_iload_n, ↓e_istore, ↓e_istore_n, ↓e_lload, ↓e_lload_n, ↓e_lstore, ↓e_lstore_n, ↓e_aload, ↓e_aload_n, ↓e_astore, ↓e_astore_n, ↓e_iinc0, ↓e_iinc1, ↓e_iadd, ↓e_isub, ↓e_imul, ↓e_iand, ↓e_ior, ↓e_ixor, ↓e_ishl, ↓e_ishr, ↓e_iushr, ↓e_ladd, ↓e_lsub, ↓e_lmul, ↓e_land, ↓e_lor, ↓e_idiv, ↓e_irem, ↓e_ldiv, ↓e_lrem, ↓e_lshl, ↓e_lcmp, ↓e_i2l, ↓e_l2i, ↓e_i2b, ↓e_i2s, ↓e_dup_int, ↓e_pop_int, ↓e_dup_ref, ↓e_pop_ref, ↓e_dup2, ↓e_goto, ↓e_nop, ↓e_ifCond_eq, ↓e_if_icmp_eq, ↓e_ifCond_ne, ↓e_if_icmp_ne, ↓e_ifCond_lt, ↓e_if_icmp_lt, ↓e_ifCond_ge, ↓e_if_icmp_ge, ↓e_ifCond_gt, ↓e_if_icmp_gt, ↓e_ifCond_le, ↓e_if_icmp_le, ↓e_tab, ↓e_look, ↓e_get0, ↓e_get1, ↓e_get2, ↓e_get3, ↓e_put0, ↓e_put1, ↓e_put2, ↓e_put3, ↓e_iaload, ↓e_laload, ↓e_baload, ↓e_aaload, ↓e_iastore, ↓e_lastore, ↓e_bastore, ↓e_aastore, ↓e_alen, ↓e_new, ↓e_newarray, ↓e_anewarray, ↓e_objinit, ↓e_virt1, ↓e_virt2, ↓e_virt3, ↓e_virt4, ↓e_virt5, ↓e_virt6, ↓e_virt7, ↓e_stat0, ↓e_stat1, ↓e_stat2, ↓e_stat3, ↓e_stat4, ↓e_stat5, ↓e_stat6, ↓e_stat7, ↓e_spec1, ↓e_spec2, ↓e_spec3, ↓e_spec4, ↓e_spec5, ↓e_strlen, ↓e_charAt, ↓e_copy, ↓e_iret0, ↓e_iret1, ↓e_lret, ↓e_aret, ↓e_vret, zIsI_int, zIsL_long, zIsA_ref, zInt_int, true_and, and_true, ↓reduceIte, zGet, zSet, zSet2, zEnt, zWid, Value.category, List.map_cons, List.map_nil, List.sum_cons, List.sum_nil, List.replicate, Option.toList, Nat.reduceAdd, Nat.reduceSub, Nat.reduceMul, Nat.reduceLeDiff, Nat.reduceEqDiff, Nat.reduceLT, List.cons_append, List.nil_append, true_or, or_true, or_false, false_or, nI_ltI, nI_leI, nI_eq, nI_clamp, zIn_nI, bI_0, nI_add, nI_mul, nI_or, nI_and, nI_shl1, nI_bit, ↓pk_rem, pk_div, Nat.lt_irrefl, Nat.not_lt_zero, reduceCtorEq, M.k, M.r0, M.r1, M.r5, M.r6, M.r7, M.r8, M.r9, M.r21, M.r24, M.r25, M.r28, M.r29, M.r30, M.r31, M.r35, M.r36, M.r37, M.r38, M.r40, M.r43, M.r44, M.r45, M.k121, M.k122, M.k123, M.k124, M.k125, M.k126, M.k127, M.k128, M.k129, M.k130, M.k131, M.k132, M.k133, M.k134, M.k135, M.k136, M.k137, M.k138, M.k139, M.k140, M.k141, M.k142, X.m.a1, ↓e, bI_1, bI_tf]
theorem m_clerkTo (X : RDn σ B n T A S) (H : TkOk B n T) (h9 : n ≤ 900) (O : OfcOk A) (N : NmOk A) {to : Nat} (ht : 1616 ≤ to) (ht2 : to < 2640) :
   ∃ τ, MPc σ B n to (piece B n A 99 T) τ ∧ ∀ K, zC (d + 4) 256 [.ref 120, .int (nI 16), .int (nI A.nc), .int (nI to)] σ K = K (some (.int (bI (okR (piece B n A 99 T))))) τ := by
  have M := X.m.m
  have c4 := O.c4
  have ep : piece B n A 99 T = (if isNm B T = true then (match A.cOf (tw B T) with | none => .inl (3, T.2.1) | some p => .inr (p, nx B n T)) else .inl (cs T, T.2.1)) := by unfold piece; rw [if_neg (by decide), if_pos rfl]; rfl
  rw [ep]
  exact m_oldOne (d := d) M X.x X.z H h9 (b := 16) (m := A.nc) (to := to) (by omega) (by omega) ht ht2 (f := fun i => A.cn i == tw B T) (fun hn i hi => by rw [X.m.n16 i hi]; exact nm256_beq (N.c i hi) (tw_Nm H hn)) (o := A.cOf (tw B T)) rfl
theorem m_num (M : RMk σ) (X : RTn σ B n T) (z : sI σ 120 18 = nI 0) (H : TkOk B n T) (h9 : n ≤ 900) {lo hi to : Nat} (hlo : lo < 2 ^ 31) (hhi : hi < 2 ^ 31) (ht : 1616 ≤ to) (ht2 : to < 2640) :
   ∃ τ, MPc σ B n to (kN B n lo hi T fun v T => .inr (v, T)) τ ∧ ∀ K, zC (d + 3) 248 [.ref 120, .int (nI to), .int (nI lo), .int (nI hi)] σ K = K (some (.int (bI (okR (kN B n lo hi T fun v T => (.inr (v, T) : Er ⊕ (Nat × Tk))))))) τ := by
  unfold kN
  dsimp only
  by_cases h3 : T.1 = 3
  · rw [if_pos h3]
    cases hr : inN B T lo hi with
    | false =>
      rw [if_neg Bool.false_ne_true]
      have nb := fun (K : Option Value → MS → Prop) => m_numberNo (d := d) (K := K) (to := nI to) M X H z (lo := lo) (hi := hi) hlo hhi (fun _ => hr)
      rw [if_pos h3] at nb
      exact ⟨_, ⟨FN.rf.flt _ _, fltM_18 _ _, fltM_17 _ _⟩, nb⟩
    | true =>
      rw [if_pos rfl]
      obtain ⟨τ, f, Y, e⟩ := m_number (d := d) M X H h9 hlo hhi ht2 h3 hr
      exact ⟨τ, ⟨f, Y⟩, e⟩
  · rw [if_neg h3]
    have nb := fun (K : Option Value → MS → Prop) => m_numberNo (d := d) (K := K) (to := nI to) M X H z (lo := lo) (hi := hi) hlo hhi (fun h => absurd h h3)
    rw [if_neg h3] at nb
    exact ⟨_, ⟨FN.rf.flt _ _, fltM_18 _ _, fltM_17 _ _⟩, nb⟩
theorem m_cellTo (X : RDn σ B n T A S) (H : TkOk B n T) (h9 : n ≤ 900) (O : OfcOk A) {to : Nat} (ht : 1616 ≤ to) (ht2 : to < 2640) :
   ∃ τ, MPc σ B n to (piece B n A 102 T) τ ∧ ∀ K, zC (d + 4) 266 [.ref 120, .int (nI to)] σ K = K (some (.int (bI (okR (piece B n A 102 T))))) τ := by
  have M := X.m.m
  have c1 : 1 ≤ A.wide * A.high := Nat.mul_le_mul O.w1 O.h1
  have c20 := cells20 O
  have ep : piece B n A 102 T = kN B n 0 (A.wide * A.high - 1) T fun v T => .inr (v, T) := by unfold piece; rw [if_neg (by decide), if_neg (by decide), if_pos rfl]
  rw [ep]
  obtain ⟨τ, P, e⟩ := m_num (d := d) M X.x X.z H h9 (lo := 0) (hi := A.wide * A.high - 1) (by decide) (by omega) ht ht2
  refine ⟨τ, P, fun K => ?_⟩
  have cl := fun (K : Option Value → MS → Prop) => m_cells (d := d + 2) (K := K) X.m O
  rw [E_266]
  simp (disch := omega) only [L_266_0, zt_266_0, ↓e_iconst0, ↓e_iconst1, ↓e_bipush0, ↓e_bipush1, ↓e_sipush0, ↓e_sipush1, ↓e_ldc0, ↓e_ldc1, ↓e_ldc_w0, ↓e_ldc_w1, ↓e_ldc2, ↓e_lconst0, ↓e_lconst1, ↓e_ldc2_w0, ↓e_ldc2_w1, ↓e_iload, ↓e_iload_n, ↓e_istore, ↓e_istore_n, ↓e_lload, ↓e_lload_n, ↓e_lstore, ↓e_lstore_n, ↓e_aload, ↓e_aload_n, ↓e_astore, ↓e_astore_n, ↓e_iinc0, ↓e_iinc1, ↓e_iadd, ↓e_isub, ↓e_imul, ↓e_iand, ↓e_ior, ↓e_ixor, ↓e_ishl, ↓e_ishr, ↓e_iushr, ↓e_ladd, ↓e_lsub, ↓e_lmul, ↓e_land, ↓e_lor, ↓e_idiv, ↓e_irem, ↓e_ldiv, ↓e_lrem, ↓e_lshl, ↓e_lcmp, ↓e_i2l, ↓e_l2i, ↓e_i2b, ↓e_i2s, ↓e_dup_int, ↓e_pop_int, ↓e_dup_ref, ↓e_pop_ref, ↓e_dup2, ↓e_goto, ↓e_nop, ↓e_ifCond_eq, ↓e_if_icmp_eq, ↓e_ifCond_ne, ↓e_if_icmp_ne, ↓e_ifCond_lt, ↓e_if_icmp_lt, ↓e_ifCond_ge, ↓e_if_icmp_ge, ↓e_ifCond_gt, ↓e_if_icmp_gt, ↓e_ifCond_le, ↓e_if_icmp_le, ↓e_tab, ↓e_look, ↓e_get0, ↓e_get1, ↓e_get2, ↓e_get3, ↓e_put0, ↓e_put1, ↓e_put2, ↓e_put3, ↓e_iaload, ↓e_laload, ↓e_baload, ↓e_aaload, ↓e_iastore, ↓e_lastore, ↓e_bastore, ↓e_aastore, ↓e_alen, ↓e_new, ↓e_newarray, ↓e_anewarray, ↓e_objinit, ↓e_virt1, ↓e_virt2, ↓e_virt3, ↓e_virt4, ↓e_virt5, ↓e_virt6, ↓e_virt7, ↓e_stat0, ↓e_stat1, ↓e_stat2, ↓e_stat3, ↓e_stat4, ↓e_stat5, ↓e_stat6, ↓e_stat7, ↓e_spec1, ↓e_spec2, ↓e_spec3, ↓e_spec4, ↓e_spec5, ↓e_strlen, ↓e_charAt, ↓e_copy, ↓e_iret0, ↓e_iret1, ↓e_lret, ↓e_aret, ↓e_vret, zIsI_int, zIsL_long, zIsA_ref, zInt_int, true_and, and_true, ↓reduceIte, zGet, zSet, zSet2, zEnt, zWid, Value.category, List.map_cons, List.map_nil, List.sum_cons, List.sum_nil, List.replicate, Option.toList, Nat.reduceAdd, Nat.reduceSub, Nat.reduceMul, Nat.reduceLeDiff, Nat.reduceEqDiff, Nat.reduceLT, List.cons_append, List.nil_append, true_or, or_true, or_false, false_or, nI_ltI, nI_leI, nI_eq, nI_clamp, zIn_nI, bI_0, nI_add, nI_mul, nI_or, nI_and, nI_shl1, nI_bit, ↓pk_rem, pk_div, Nat.lt_irrefl, Nat.not_lt_zero, reduceCtorEq, M.k, ↓cl, nI_sub, ↓e, bI_1, bI_tf]
end DYM
