/-! THE CLASS'S registry -/
/-- as far as the first cells go -/
def AgN (p : Nat → Prop) (σ τ : MS) : Prop := ∀ c, c < 143 → sK τ c = sK σ c ∧ (¬ p c → ∀ j, sI τ c j = sI σ c j ∧ sL τ c j = sL σ c j) ∧ (¬ (p c ∧ rX c) → ∀ j, sR τ c j = sR σ c j)
def Ag3 (σ τ : MS) : Prop := AgN (fun _ => False) σ τ
section AGN
variable {p q : Nat → Prop} {σ τ ρ : MS} {a : Nat} {A : Ofc} {n : Nat} {B : Nat → Nat} {T : Tk}
theorem Ag.toN (h : Ag p σ τ) : AgN p σ τ := fun c _ => ⟨h.K c, fun hc j => ⟨h.I hc j, h.L hc j⟩, fun hc j => (h.2 c).2 hc j⟩
theorem AgN.tr (h1 : AgN p σ τ) (h2 : AgN p τ ρ) : AgN p σ ρ := fun c hc => ⟨(h2 c hc).1.trans (h1 c hc).1, fun hp j => ⟨((h2 c hc).2.1 hp j).1.trans ((h1 c hc).2.1 hp j).1, ((h2 c hc).2.1 hp j).2.trans ((h1 c hc).2.1 hp j).2⟩, fun hp j => ((h2 c hc).2.2 hp j).trans ((h1 c hc).2.2 hp j)⟩
theorem AgN.mono (h : AgN p σ τ) (hp : ∀ c, c < 143 → p c → q c) : AgN q σ τ := fun c hc => ⟨(h c hc).1, fun hq => (h c hc).2.1 (fun hh => hq (hp c hc hh)), fun hq => (h c hc).2.2 (fun hh => hq ⟨hp c hc hh.1, hh.2⟩)⟩
theorem Ag3.toN (h : Ag3 σ τ) : AgN p σ τ := AgN.mono h (fun _ _ hf => hf.elim)
theorem AgN.K (h : AgN p σ τ) {c : Nat} (hc : c < 143) : sK τ c = sK σ c := (h c hc).1
theorem AgN.I (h : AgN p σ τ) {c : Nat} (hc : c < 143) (hp : ¬ p c) (j : Nat) : sI τ c j = sI σ c j := ((h c hc).2.1 hp j).1
theorem AgN.L (h : AgN p σ τ) {c : Nat} (hc : c < 143) (hp : ¬ p c) (j : Nat) : sL τ c j = sL σ c j := ((h c hc).2.1 hp j).2
theorem AgN.R (h : AgN p σ τ) {c : Nat} (hc : c < 143) (hp : ¬ (p c ∧ rX c)) (j : Nat) : sR τ c j = sR σ c j := (h c hc).2.2 hp j
/-- a state of the old size that is alike -/
theorem AgN.vir (h : AgN p σ τ) : ∃ ν, Ag p σ ν ∧ Ag3 ν τ ∧ Ag3 τ ν := by
  have e : ∀ c, c < 143 → sK (σ.1, (fun b j => if b < 143 then sI τ b j else sI σ b j), (fun b j => if b < 143 then sL τ b j else sL σ b j), (fun b j => if b < 143 then sR τ b j else sR σ b j)) c = sK τ c ∧ (∀ j, sI (σ.1, (fun b j => if b < 143 then sI τ b j else sI σ b j), (fun b j => if b < 143 then sL τ b j else sL σ b j), (fun b j => if b < 143 then sR τ b j else sR σ b j)) c j = sI τ c j) ∧ (∀ j, sL (σ.1, (fun b j => if b < 143 then sI τ b j else sI σ b j), (fun b j => if b < 143 then sL τ b j else sL σ b j), (fun b j => if b < 143 then sR τ b j else sR σ b j)) c j = sL τ c j) ∧ (∀ j, sR (σ.1, (fun b j => if b < 143 then sI τ b j else sI σ b j), (fun b j => if b < 143 then sL τ b j else sL σ b j), (fun b j => if b < 143 then sR τ b j else sR σ b j)) c j = sR τ c j) := fun c hc =>
    ⟨(h.K hc).symm, fun j => if_pos hc, fun j => if_pos hc, fun j => if_pos hc⟩
  refine ⟨(σ.1, (fun b j => if b < 143 then sI τ b j else sI σ b j), (fun b j => if b < 143 then sL τ b j else sL σ b j), (fun b j => if b < 143 then sR τ b j else sR σ b j)), ⟨rfl, fun b => ⟨fun hb => ⟨fun j => ?_, fun j => ?_⟩, fun hb j => ?_⟩⟩, fun c hc => ?_, fun c hc => ?_⟩
  · show (if b < 143 then sI τ b j else sI σ b j) = _
    by_cases hc : b < 143
    · rw [if_pos hc]; exact h.I hc hb j
    · rw [if_neg hc]
  · show (if b < 143 then sL τ b j else sL σ b j) = _
    by_cases hc : b < 143
    · rw [if_pos hc]; exact h.L hc hb j
    · rw [if_neg hc]
  · show (if b < 143 then sR τ b j else sR σ b j) = _
    by_cases hc : b < 143
    · rw [if_pos hc]; exact h.R hc hb j
    · rw [if_neg hc]
  · obtain ⟨e1, e2, e3, e4⟩ := e c hc
    exact ⟨e1.symm, fun _ j => ⟨(e2 j).symm, (e3 j).symm⟩, fun _ j => (e4 j).symm⟩
  · obtain ⟨e1, e2, e3, e4⟩ := e c hc
    exact ⟨e1, fun _ j => ⟨e2 j, e3 j⟩, fun _ j => e4 j⟩
theorem Ag3.K (h : Ag3 σ τ) {c : Nat} (hc : c < 143) : sK τ c = sK σ c := (h c hc).1
theorem Ag3.I (h : Ag3 σ τ) {c : Nat} (hc : c < 143) (j : Nat) : sI τ c j = sI σ c j := ((h c hc).2.1 id j).1
theorem Ag3.L (h : Ag3 σ τ) {c : Nat} (hc : c < 143) (j : Nat) : sL τ c j = sL σ c j := ((h c hc).2.1 id j).2
theorem Ag3.R (h : Ag3 σ τ) {c : Nat} (hc : c < 143) (j : Nat) : sR τ c j = sR σ c j := (h c hc).2.2 (fun hh => hh.1) j
theorem ROffK.far (X : ROffK σ a) (h : Ag3 σ τ) (ha : a + 11 < 143) : ROffK τ a := by
  have z : ∀ k, k ≤ 11 → sK τ (a + k) = sK σ (a + k) := fun k hk => h.K (by omega)
  have y : ∀ j, sR τ a j = sR σ a j := fun j => h.R (by omega) j
  obtain ⟨h1, h2, h3, h4, h5, h6, h7, h8, h9, h10, h11, h12, h13, h14, h15, h16, h17, h18, h19, h20, h21, h22, h23⟩ := X
  exact ⟨(z 0 (by omega)).trans h1, (y _).trans h2, (y _).trans h3, (y _).trans h4, (y _).trans h5, (y _).trans h6, (y _).trans h7, (y _).trans h8, (y _).trans h9, (y _).trans h10, (y _).trans h11, (y _).trans h12, (z 1 (by omega)).trans h13, (z 2 (by omega)).trans h14, (z 3 (by omega)).trans h15, (z 4 (by omega)).trans h16, (z 5 (by omega)).trans h17, (z 6 (by omega)).trans h18, (z 7 (by omega)).trans h19, (z 8 (by omega)).trans h20, (z 9 (by omega)).trans h21, (z 10 (by omega)).trans h22, (z 11 (by omega)).trans h23⟩
theorem RTx.far (X : RTx σ) (h : Ag3 σ τ) : RTx τ := RTx.mk ((h.K (by omega)).trans X.k) ((h.R (by omega) _).trans X.r0) ((h.R (by omega) _).trans X.r12) ((h.K (by omega)).trans X.k99) ((h.K (by omega)).trans X.k100)
theorem RTk.far (X : RTk σ B n T) (h : Ag3 σ τ) : RTk τ B n T :=
  RTk.mk (RTb.mk (X.t.x.far h) ((h.I (by omega) _).trans X.t.len) (fun j hj => by rw [h.I (by omega)]; exact X.t.b j hj) (fun k hk => (h.L (by omega) _).trans (X.t.w k hk))) ((h.I (by omega) _).trans X.k2) ((h.I (by omega) _).trans X.k3) ((h.I (by omega) _).trans X.k10) (fun e => (h.I (by omega) _).trans (X.k4 e)) (fun e => (h.I (by omega) _).trans (X.k5 e)) (fun e => (h.I (by omega) _).trans (X.k6 e)) (fun e => (h.L (by omega) _).trans (X.k7 e))
theorem RXk.far (X : RXk σ a) (h : Ag3 σ τ) : RXk τ a := by
  have y : ∀ j, sR τ 1 j = sR σ 1 j := fun j => h.R (by omega) j
  exact RXk.keep X (h.K (by omega)) y
theorem sK_zNew {c : Nat} {k : Nat × Nat} (h : c < σ.1.length) : sK (zNew σ k) c = sK σ c := by
  show (σ.1 ++ [k]).getD c (99, 0) = σ.1.getD c (99, 0)
  rw [List.getD_eq_getElem?_getD, List.getElem?_append_left h, ← List.getD_eq_getElem?_getD]
theorem sK_zNew0 {k : Nat × Nat} : sK (zNew σ k) σ.1.length = k := by
  show (σ.1 ++ [k]).getD σ.1.length (99, 0) = k
  rw [List.getD_eq_getElem?_getD, List.getElem?_append_right (Nat.le_refl _), Nat.sub_self]
  rfl
theorem sI_zNew {c j : Nat} {k : Nat × Nat} (h : c ≠ σ.1.length) : sI (zNew σ k) c j = sI σ c j := if_neg h
theorem sL_zNew {c j : Nat} {k : Nat × Nat} (h : c ≠ σ.1.length) : sL (zNew σ k) c j = sL σ c j := if_neg h
theorem sR_zNew {c j : Nat} {k : Nat × Nat} (h : c ≠ σ.1.length) : sR (zNew σ k) c j = sR σ c j := if_neg h
theorem sI_zNew0 {j : Nat} {k : Nat × Nat} : sI (zNew σ k) σ.1.length j = nI 0 := if_pos rfl
theorem zNew_3 {k : Nat × Nat} (h : 143 ≤ σ.1.length) : Ag3 σ (zNew σ k) := fun c hc => ⟨sK_zNew (by omega), fun _ j => ⟨sI_zNew (by omega), sL_zNew (by omega)⟩, fun _ j => sR_zNew (by omega)⟩
theorem setR_3 {r i v : Nat} (h : 143 ≤ r) : Ag3 σ (setR σ r i v) := fun c hc => ⟨rfl, fun _ j => ⟨rfl, rfl⟩, fun _ j => by rw [sR_setR, if_neg (by omega)]⟩
theorem setI_3 {r i : Nat} {v : Int32} (h : 143 ≤ r) : Ag3 σ (setI σ r i v) := fun c hc => ⟨rfl, fun _ j => ⟨by rw [sI_setI, if_neg (by omega)], rfl⟩, fun _ j => rfl⟩
end AGN
section REX
variable {d : Nat} {σ τ ρ : MS} {a b u r n : Nat} {A A' : Ofc} {B : Nat → Nat} {T U : Tk} {P : Tp} {K : Option Value → MS → Prop}
theorem qAll_ok : ∀ (m : Nat) (A : Ofc) (F : Fl) (T : Tk), Gd B n A T → match qAll B n m A F T with
    | .inl e => 1 ≤ e.1 ∧ e.1 ≤ 6
    | .inr A => OfcOk A ∧ NmOk A := by
  intro m
  induction m with
  | zero => intro A F T G; exact ⟨G.1, G.2.1⟩
  | succ m ih =>
    intro A F T G
    rw [qAll_s]
    by_cases h0 : T.1 = 0
    · rw [if_pos h0]; exact ⟨G.1, G.2.1⟩
    · rw [if_neg h0]
      have Q := qPart_ok (F := F) G
      cases hq : qPart B n A F T with
      | inl e => rw [hq] at Q; exact Q
      | inr x => rw [hq] at Q; exact ih _ _ _ Q.1
theorem qText_ok : match qText B n with
    | .inl e => 1 ≤ e.1 ∧ e.1 ≤ 6
    | .inr A => OfcOk A ∧ NmOk A := qAll_ok 901 Ofc.nil (false, false, false) (tk B n 0) ⟨nil_ok, NmOk.mk (fun t ht => by cases ht) (fun t ht => by cases ht) (fun t ht => by cases ht), (tk_ok (by omega)).1⟩
theorem x_keepFault (X : RXk σ a) (xk : sK σ 98 = (0, 7)) {c : Nat} (hc : c < 10) (h8 : sI σ 98 8 = nI c) : zC (d + 1) 217 [.ref 1] σ K = K (some (.int (nI (if c = 0 then 1 else 0)))) (setI (setI σ 1 3 (nI c)) 1 4 (if c = 0 then -nI 1 else sI σ 98 9)) := by
  have q : ∀ i v, sI (setI σ 1 i v) 98 8 = nI c := fun i v => by rw [sI_setI, if_neg (by omega)]; exact h8
  have q2 : ∀ i v, sI (setI σ 1 i v) 98 9 = sI σ 98 9 := fun i v => by rw [sI_setI, if_neg (by omega)]
  have q3 : ∀ i v k w, sI (setI (setI σ 1 i v) 1 k w) 98 8 = nI c := fun i v k w => by rw [sI_setI, if_neg (by omega)]; exact q i v
  rw [E_217]
  by_cases h : c = 0
  · rw [if_pos h, if_pos h]
    simp (disch := omega) only [L_217_0, zt_217_0, L_217_26, zt_217_26, L_217_33, zt_217_33, L_217_50, zt_217_50, L_217_51, zt_217_51, ↓e_iconst0, ↓e_iconst1, ↓e_bipush0, ↓e_bipush1, ↓e_sipush0, ↓e_sipush1, ↓e_ldc0, ↓e_ldc1, ↓e_ldc_w0, ↓e_ldc_w1, ↓e_ldc2, ↓e_lconst0, ↓e_lconst1, ↓e_ldc2_w0, ↓e_ldc2_w1, ↓e_iload, ↓e_iload_n, ↓e_istore, ↓e_istore_n, ↓e_lload, ↓e_lload_n, ↓e_lstore, ↓e_lstore_n, ↓e_aload, ↓e_aload_n, ↓e_astore, ↓e_astore_n, ↓e_iinc0, ↓e_iinc1, ↓e_iadd, ↓e_isub, ↓e_imul, ↓e_iand, ↓e_ior, ↓e_ixor, ↓e_ishl, ↓e_ishr, ↓e_iushr, ↓e_ladd, ↓e_lsub, ↓e_lmul, ↓e_land, ↓e_lor, ↓e_idiv, ↓e_irem, ↓e_ldiv, ↓e_lrem, ↓e_lshl, ↓e_lcmp, ↓e_i2l, ↓e_l2i, ↓e_i2b, ↓e_i2s, ↓e_dup_int, ↓e_pop_int, ↓e_dup_ref, ↓e_pop_ref, ↓e_dup2, ↓e_goto, ↓e_nop, ↓e_ifCond_eq, ↓e_if_icmp_eq, ↓e_ifCond_ne, ↓e_if_icmp_ne, ↓e_ifCond_lt, ↓e_if_icmp_lt, ↓e_ifCond_ge, ↓e_if_icmp_ge, ↓e_ifCond_gt, ↓e_if_icmp_gt, ↓e_ifCond_le, ↓e_if_icmp_le, ↓e_tab, ↓e_look, ↓e_get0, ↓e_get1, ↓e_get2, ↓e_get3, ↓e_put0, ↓e_put1, ↓e_put2, ↓e_put3, ↓e_iaload, ↓e_laload, ↓e_baload, ↓e_aaload, ↓e_iastore, ↓e_lastore, ↓e_bastore, ↓e_aastore, ↓e_alen, ↓e_new, ↓e_newarray, ↓e_anewarray, ↓e_objinit, ↓e_virt1, ↓e_virt2, ↓e_virt3, ↓e_virt4, ↓e_virt5, ↓e_virt6, ↓e_virt7, ↓e_stat0, ↓e_stat1, ↓e_stat2, ↓e_stat3, ↓e_stat4, ↓e_stat5, ↓e_stat6, ↓e_stat7, ↓e_spec1, ↓e_spec2, ↓e_spec3, ↓e_spec4, ↓e_spec5, ↓e_strlen, ↓e_charAt, ↓e_copy, ↓e_iret0, ↓e_iret1, ↓e_lret, ↓e_aret, ↓e_vret, zIsI_int, zIsL_long, zIsA_ref, zInt_int, true_and, and_true, ↓reduceIte, zGet, zSet, zSet2, zEnt, zWid, Value.category, List.map_cons, List.map_nil, List.sum_cons, List.sum_nil, List.replicate, Option.toList, Nat.reduceAdd, Nat.reduceSub, Nat.reduceMul, Nat.reduceLeDiff, Nat.reduceEqDiff, Nat.reduceLT, List.cons_append, List.nil_append, true_or, or_true, or_false, false_or, X.k, X.r6, X.r10, X.r11, X.r12, X.r13, X.r14, X.r15, X.r16, X.r17, X.r18, nI_ltI, nI_leI, nI_eq, nI_clamp, zIn_nI, bI_0, nI_add, nI_mul, nI_or, nI_and, nI_shl1, nI_bit, ↓pk_rem, pk_div, Nat.lt_irrefl, Nat.not_lt_zero, reduceCtorEq, xk, h8, sK_setI, sR_setI, sL_setI, q, q2, q3, h]
  · rw [if_neg h, if_neg h]
    simp (disch := omega) only [L_217_0, zt_217_0, L_217_26, zt_217_26, L_217_33, zt_217_33, L_217_50, zt_217_50, L_217_51, zt_217_51, ↓e_iconst0, ↓e_iconst1, ↓e_bipush0, ↓e_bipush1, ↓e_sipush0, ↓e_sipush1, ↓e_ldc0, ↓e_ldc1, ↓e_ldc_w0, ↓e_ldc_w1, ↓e_ldc2, ↓e_lconst0, ↓e_lconst1, ↓e_ldc2_w0, ↓e_ldc2_w1, ↓e_iload, ↓e_iload_n, ↓e_istore, ↓e_istore_n, ↓e_lload, ↓e_lload_n, ↓e_lstore, ↓e_lstore_n, ↓e_aload, ↓e_aload_n, ↓e_astore, ↓e_astore_n, ↓e_iinc0, ↓e_iinc1, ↓e_iadd, ↓e_isub, ↓e_imul, ↓e_iand, ↓e_ior, ↓e_ixor, ↓e_ishl, ↓e_ishr, ↓e_iushr, ↓e_ladd, ↓e_lsub, ↓e_lmul, ↓e_land, ↓e_lor, ↓e_idiv, ↓e_irem, ↓e_ldiv, ↓e_lrem, ↓e_lshl, ↓e_lcmp, ↓e_i2l, ↓e_l2i, ↓e_i2b, ↓e_i2s, ↓e_dup_int, ↓e_pop_int, ↓e_dup_ref, ↓e_pop_ref, ↓e_dup2, ↓e_goto, ↓e_nop, ↓e_ifCond_eq, ↓e_if_icmp_eq, ↓e_ifCond_ne, ↓e_if_icmp_ne, ↓e_ifCond_lt, ↓e_if_icmp_lt, ↓e_ifCond_ge, ↓e_if_icmp_ge, ↓e_ifCond_gt, ↓e_if_icmp_gt, ↓e_ifCond_le, ↓e_if_icmp_le, ↓e_tab, ↓e_look, ↓e_get0, ↓e_get1, ↓e_get2, ↓e_get3, ↓e_put0, ↓e_put1, ↓e_put2, ↓e_put3, ↓e_iaload, ↓e_laload, ↓e_baload, ↓e_aaload, ↓e_iastore, ↓e_lastore, ↓e_bastore, ↓e_aastore, ↓e_alen, ↓e_new, ↓e_newarray, ↓e_anewarray, ↓e_objinit, ↓e_virt1, ↓e_virt2, ↓e_virt3, ↓e_virt4, ↓e_virt5, ↓e_virt6, ↓e_virt7, ↓e_stat0, ↓e_stat1, ↓e_stat2, ↓e_stat3, ↓e_stat4, ↓e_stat5, ↓e_stat6, ↓e_stat7, ↓e_spec1, ↓e_spec2, ↓e_spec3, ↓e_spec4, ↓e_spec5, ↓e_strlen, ↓e_charAt, ↓e_copy, ↓e_iret0, ↓e_iret1, ↓e_lret, ↓e_aret, ↓e_vret, zIsI_int, zIsL_long, zIsA_ref, zInt_int, true_and, and_true, ↓reduceIte, zGet, zSet, zSet2, zEnt, zWid, Value.category, List.map_cons, List.map_nil, List.sum_cons, List.sum_nil, List.replicate, Option.toList, Nat.reduceAdd, Nat.reduceSub, Nat.reduceMul, Nat.reduceLeDiff, Nat.reduceEqDiff, Nat.reduceLT, List.cons_append, List.nil_append, true_or, or_true, or_false, false_or, X.k, X.r6, X.r10, X.r11, X.r12, X.r13, X.r14, X.r15, X.r16, X.r17, X.r18, nI_ltI, nI_leI, nI_eq, nI_clamp, zIn_nI, bI_0, nI_add, nI_mul, nI_or, nI_and, nI_shl1, nI_bit, ↓pk_rem, pk_div, Nat.lt_irrefl, Nat.not_lt_zero, reduceCtorEq, xk, h8, sK_setI, sR_setI, sL_setI, q, q2, q3, h]
theorem x_registryNo (X : RXk σ a) (H : RTp σ P) (h9 : P.1 ≤ 900) {v : Int32} (hv : ix v (P.1 + 1) = none) : zC (d + 2) 150 [.ref 1, .int v] σ K = K (some (.int (-nI 1))) (setI σ 1 0 (nI 1)) := by
  rw [E_150]
  rcases ix_cases v (n := P.1) (by omega) with ⟨h, _⟩ | ⟨h1, h2, _⟩ | ⟨k, hk, rfl⟩
  · simp (disch := omega) only [L_150_0, zt_150_0, L_150_15, zt_150_15, L_150_21, zt_150_21, L_150_61, zt_150_61, ↓e_iconst0, ↓e_iconst1, ↓e_bipush0, ↓e_bipush1, ↓e_sipush0, ↓e_sipush1, ↓e_ldc0, ↓e_ldc1, ↓e_ldc_w0, ↓e_ldc_w1, ↓e_ldc2, ↓e_lconst0, ↓e_lconst1, ↓e_ldc2_w0, ↓e_ldc2_w1, ↓e_iload, ↓e_iload_n, ↓e_istore, ↓e_istore_n, ↓e_lload, ↓e_lload_n, ↓e_lstore, ↓e_lstore_n, ↓e_aload, ↓e_aload_n, ↓e_astore, ↓e_astore_n, ↓e_iinc0, ↓e_iinc1, ↓e_iadd, ↓e_isub, ↓e_imul, ↓e_iand, ↓e_ior, ↓e_ixor, ↓e_ishl, ↓e_ishr, ↓e_iushr, ↓e_ladd, ↓e_lsub, ↓e_lmul, ↓e_land, ↓e_lor, ↓e_idiv, ↓e_irem, ↓e_ldiv, ↓e_lrem, ↓e_lshl, ↓e_lcmp, ↓e_i2l, ↓e_l2i, ↓e_i2b, ↓e_i2s, ↓e_dup_int, ↓e_pop_int, ↓e_dup_ref, ↓e_pop_ref, ↓e_dup2, ↓e_goto, ↓e_nop, ↓e_ifCond_eq, ↓e_if_icmp_eq, ↓e_ifCond_ne, ↓e_if_icmp_ne, ↓e_ifCond_lt, ↓e_if_icmp_lt, ↓e_ifCond_ge, ↓e_if_icmp_ge, ↓e_ifCond_gt, ↓e_if_icmp_gt, ↓e_ifCond_le, ↓e_if_icmp_le, ↓e_tab, ↓e_look, ↓e_get0, ↓e_get1, ↓e_get2, ↓e_get3, ↓e_put0, ↓e_put1, ↓e_put2, ↓e_put3, ↓e_iaload, ↓e_laload, ↓e_baload, ↓e_aaload, ↓e_iastore, ↓e_lastore, ↓e_bastore, ↓e_aastore, ↓e_alen, ↓e_new, ↓e_newarray, ↓e_anewarray, ↓e_objinit, ↓e_virt1, ↓e_virt2, ↓e_virt3, ↓e_virt4, ↓e_virt5, ↓e_virt6, ↓e_virt7, ↓e_stat0, ↓e_stat1, ↓e_stat2, ↓e_stat3, ↓e_stat4, ↓e_stat5, ↓e_stat6, ↓e_stat7, ↓e_spec1, ↓e_spec2, ↓e_spec3, ↓e_spec4, ↓e_spec5, ↓e_strlen, ↓e_charAt, ↓e_copy, ↓e_iret0, ↓e_iret1, ↓e_lret, ↓e_aret, ↓e_vret, zIsI_int, zIsL_long, zIsA_ref, zInt_int, true_and, and_true, ↓reduceIte, zGet, zSet, zSet2, zEnt, zWid, Value.category, List.map_cons, List.map_nil, List.sum_cons, List.sum_nil, List.replicate, Option.toList, Nat.reduceAdd, Nat.reduceSub, Nat.reduceMul, Nat.reduceLeDiff, Nat.reduceEqDiff, Nat.reduceLT, List.cons_append, List.nil_append, true_or, or_true, or_false, false_or, X.k, X.r6, X.r10, X.r11, X.r12, X.r13, X.r14, X.r15, X.r16, X.r17, X.r18, nI_ltI, nI_leI, nI_eq, nI_clamp, zIn_nI, bI_0, nI_add, nI_mul, nI_or, nI_and, nI_shl1, nI_bit, ↓pk_rem, pk_div, Nat.lt_irrefl, Nat.not_lt_zero, reduceCtorEq, h, ↓x_refuse X, qR]
  · simp (disch := omega) only [L_150_0, zt_150_0, L_150_15, zt_150_15, L_150_21, zt_150_21, L_150_61, zt_150_61, ↓e_iconst0, ↓e_iconst1, ↓e_bipush0, ↓e_bipush1, ↓e_sipush0, ↓e_sipush1, ↓e_ldc0, ↓e_ldc1, ↓e_ldc_w0, ↓e_ldc_w1, ↓e_ldc2, ↓e_lconst0, ↓e_lconst1, ↓e_ldc2_w0, ↓e_ldc2_w1, ↓e_iload, ↓e_iload_n, ↓e_istore, ↓e_istore_n, ↓e_lload, ↓e_lload_n, ↓e_lstore, ↓e_lstore_n, ↓e_aload, ↓e_aload_n, ↓e_astore, ↓e_astore_n, ↓e_iinc0, ↓e_iinc1, ↓e_iadd, ↓e_isub, ↓e_imul, ↓e_iand, ↓e_ior, ↓e_ixor, ↓e_ishl, ↓e_ishr, ↓e_iushr, ↓e_ladd, ↓e_lsub, ↓e_lmul, ↓e_land, ↓e_lor, ↓e_idiv, ↓e_irem, ↓e_ldiv, ↓e_lrem, ↓e_lshl, ↓e_lcmp, ↓e_i2l, ↓e_l2i, ↓e_i2b, ↓e_i2s, ↓e_dup_int, ↓e_pop_int, ↓e_dup_ref, ↓e_pop_ref, ↓e_dup2, ↓e_goto, ↓e_nop, ↓e_ifCond_eq, ↓e_if_icmp_eq, ↓e_ifCond_ne, ↓e_if_icmp_ne, ↓e_ifCond_lt, ↓e_if_icmp_lt, ↓e_ifCond_ge, ↓e_if_icmp_ge, ↓e_ifCond_gt, ↓e_if_icmp_gt, ↓e_ifCond_le, ↓e_if_icmp_le, ↓e_tab, ↓e_look, ↓e_get0, ↓e_get1, ↓e_get2, ↓e_get3, ↓e_put0, ↓e_put1, ↓e_put2, ↓e_put3, ↓e_iaload, ↓e_laload, ↓e_baload, ↓e_aaload, ↓e_iastore, ↓e_lastore, ↓e_bastore, ↓e_aastore, ↓e_alen, ↓e_new, ↓e_newarray, ↓e_anewarray, ↓e_objinit, ↓e_virt1, ↓e_virt2, ↓e_virt3, ↓e_virt4, ↓e_virt5, ↓e_virt6, ↓e_virt7, ↓e_stat0, ↓e_stat1, ↓e_stat2, ↓e_stat3, ↓e_stat4, ↓e_stat5, ↓e_stat6, ↓e_stat7, ↓e_spec1, ↓e_spec2, ↓e_spec3, ↓e_spec4, ↓e_spec5, ↓e_strlen, ↓e_charAt, ↓e_copy, ↓e_iret0, ↓e_iret1, ↓e_lret, ↓e_aret, ↓e_vret, zIsI_int, zIsL_long, zIsA_ref, zInt_int, true_and, and_true, ↓reduceIte, zGet, zSet, zSet2, zEnt, zWid, Value.category, List.map_cons, List.map_nil, List.sum_cons, List.sum_nil, List.replicate, Option.toList, Nat.reduceAdd, Nat.reduceSub, Nat.reduceMul, Nat.reduceLeDiff, Nat.reduceEqDiff, Nat.reduceLT, List.cons_append, List.nil_append, true_or, or_true, or_false, false_or, X.k, X.r6, X.r10, X.r11, X.r12, X.r13, X.r14, X.r15, X.r16, X.r17, X.r18, nI_ltI, nI_leI, nI_eq, nI_clamp, zIn_nI, bI_0, nI_add, nI_mul, nI_or, nI_and, nI_shl1, nI_bit, ↓pk_rem, pk_div, Nat.lt_irrefl, Nat.not_lt_zero, reduceCtorEq, h1, h2, H.n, H.x.k, ↓x_refuse X, qR]
  · rw [ix_t hk (by omega)] at hv; cases hv
/-- what the class's registry leaves -/
def RXP (σ : MS) (a b u : Nat) (x : Er ⊕ Ofc) (τ : MS) : Prop := AgN (fun c => c = 1 ∨ c = 98 ∨ (b ≤ c ∧ c ≤ b + 11) ∨ c = u) σ τ ∧ τ.1 = σ.1 ++ [(0, 6)] ∧ sI τ 98 1 = nI 0 ∧ (∀ j, sL τ 1 j = sL σ 1 j) ∧ (∀ j, j ≠ 3 → j ≠ 4 → sI τ 1 j = sI σ 1 j) ∧ (∀ j, j ≠ 6 → j ≠ 7 → sR τ 1 j = sR σ 1 j) ∧ (match x with
  | .inl e => sI τ 1 3 = nI e.1 ∧ sI τ 1 4 = nI e.2 ∧ sR τ 1 6 = a ∧ sR τ 1 7 = b ∧ (∀ j, sI τ u j = sI σ u j)
  | .inr A => sI τ 1 3 = nI 0 ∧ sI τ 1 4 = -nI 1 ∧ sR τ 1 6 = b ∧ sR τ 1 7 = a ∧ ROff τ b A ∧ sI τ u 0 = nI 0 ∧ sI τ u 1 = nI 0)
def qReg (x : Er ⊕ Ofc) : Int32 × Int32 := match x with
  | .inl _ => qR 9
  | .inr A => qA (nI A.np)
theorem x_registry (X : RXk σ a) (b7 : sR σ 1 7 = b) (G : ROffK σ b) (H : RTp σ P) (O : TpOk P) (w : ∀ k, k < 22 → sL σ 100 k = lN (nm27 (WL k))) (u8 : sR σ 1 8 = u) (D : RDk σ u) (hn : n ≤ P.1) (hl : 143 ≤ σ.1.length) (hl2 : σ.1.length < 10000) (hb : 1 < b ∧ b + 11 < 36) (hu : 1 < u ∧ u + 4 < 36) (hbu : b + 11 < u ∨ u + 4 < b) :
   ∃ τ, RXP σ a b u (qText (tB P) n) τ ∧ ∀ K, zC (d + 8) 150 [.ref 1, .int (nI n)] σ K = K (some (.int (qReg (qText (tB P) n)).1)) (setI τ 1 0 (qReg (qText (tB P) n)).2) := by
  have h9 := O.1
  obtain ⟨τ1, f1, Y1, i1, i8, i9, e1⟩ := c_open (d := d + 3) H O w hn
  have X1 : RXk τ1 a := X.ag f1 (by omega)
  have l1 : τ1.1.length = σ.1.length := by rw [f1.1]
  have hr : 143 ≤ τ1.1.length := by omega
  have hr2 : τ1.1.length < zNul := by show τ1.1.length < 1000000; omega
  have b71 : sR τ1 1 7 = b := (f1.R (by omega) _).trans b7
  -- the reader
  have a2 : Ag3 τ1 (setR (setR (zNew τ1 (0, 6)) τ1.1.length 0 98) τ1.1.length 1 b) := ((zNew_3 hr).tr (setR_3 hr)).tr (setR_3 hr)
  have kr : ∀ i v j w, sK (setR (setR (zNew τ1 (0, 6)) τ1.1.length i v) τ1.1.length j w) τ1.1.length = (0, 6) := fun i v j w => sK_zNew0
  have kr1 : ∀ i v, sK (setR (zNew τ1 (0, 6)) τ1.1.length i v) τ1.1.length = (0, 6) := fun i v => sK_zNew0
  have kr0 : sK (zNew τ1 (0, 6)) τ1.1.length = (0, 6) := sK_zNew0
  have q1 : sR (setR (setR (zNew τ1 (0, 6)) τ1.1.length 0 98) τ1.1.length 1 b) τ1.1.length 0 = 98 := by rw [sR_setR, if_neg (by omega), sR_setR, if_pos ⟨rfl, rfl⟩]
  have q2 : sR (setR (setR (zNew τ1 (0, 6)) τ1.1.length 0 98) τ1.1.length 1 b) τ1.1.length 1 = b := by rw [sR_setR, if_pos ⟨rfl, rfl⟩]
  have q3 : ∀ j, sI (setR (setR (zNew τ1 (0, 6)) τ1.1.length 0 98) τ1.1.length 1 b) τ1.1.length j = nI 0 := fun j => sI_zNew0 (k := (0, 6))
  have l2x : (setR (setR (zNew τ1 (0, 6)) τ1.1.length 0 98) τ1.1.length 1 b).1 = τ1.1 ++ [(0, 6)] := rfl
  have l2 : (setR (setR (zNew τ1 (0, 6)) τ1.1.length 0 98) τ1.1.length 1 b).1.length = τ1.1.length + 1 := zNew_len _ _
  have zk : sK (zNew τ1 (0, 6)) 1 = (0, 10) := (sK_zNew (by omega)).trans X1.k
  have z13 : sR (zNew τ1 (0, 6)) 1 13 = 98 := (sR_zNew (by omega)).trans X1.r13
  have z7 : sR (zNew τ1 (0, 6)) 1 7 = b := (sR_zNew (by omega)).trans b71
  have kr2 := kr 0 98 1 b
  have ent : ∀ K, zC (d + 8) 150 [.ref 1, .int (nI n)] σ K = zC (d + 7) 97 [.ref τ1.1.length] (setR (setR (zNew τ1 (0, 6)) τ1.1.length 0 98) τ1.1.length 1 b) (fun v ρ => zB (d + 7) 150 [(.aload_n 0, 0, 0, 0, 0, 1), (.invokevirtual 169, 217, 1, 0, 10, 3), (.ifCond .ne 10, 61, 0, 0, 0, 3), (.aload_n 0, 0, 0, 0, 0, 1), (.bipush 9, 9, 0, 0, 0, 2), (.invokevirtual 122, 207, 2, 0, 10, 3), (.ireturn, 0, 0, 0, 0, 1)] [.ref 1, .int (nI n), .null] (v.toList ++ []) ρ K) := fun K => by
    have hnn : ¬ P.1 < n := by omega
    rw [E_150]
    simp (disch := omega) only [L_150_0, zt_150_0, L_150_15, zt_150_15, L_150_21, zt_150_21, L_150_61, zt_150_61, ↓e_iconst0, ↓e_iconst1, ↓e_bipush0, ↓e_bipush1, ↓e_sipush0, ↓e_sipush1, ↓e_ldc0, ↓e_ldc1, ↓e_ldc_w0, ↓e_ldc_w1, ↓e_ldc2, ↓e_lconst0, ↓e_lconst1, ↓e_ldc2_w0, ↓e_ldc2_w1, ↓e_iload, ↓e_iload_n, ↓e_istore, ↓e_istore_n, ↓e_lload, ↓e_lload_n, ↓e_lstore, ↓e_lstore_n, ↓e_aload, ↓e_aload_n, ↓e_astore, ↓e_astore_n, ↓e_iinc0, ↓e_iinc1, ↓e_iadd, ↓e_isub, ↓e_imul, ↓e_iand, ↓e_ior, ↓e_ixor, ↓e_ishl, ↓e_ishr, ↓e_iushr, ↓e_ladd, ↓e_lsub, ↓e_lmul, ↓e_land, ↓e_lor, ↓e_idiv, ↓e_irem, ↓e_ldiv, ↓e_lrem, ↓e_lshl, ↓e_lcmp, ↓e_i2l, ↓e_l2i, ↓e_i2b, ↓e_i2s, ↓e_dup_int, ↓e_pop_int, ↓e_dup_ref, ↓e_pop_ref, ↓e_dup2, ↓e_goto, ↓e_nop, ↓e_ifCond_eq, ↓e_if_icmp_eq, ↓e_ifCond_ne, ↓e_if_icmp_ne, ↓e_ifCond_lt, ↓e_if_icmp_lt, ↓e_ifCond_ge, ↓e_if_icmp_ge, ↓e_ifCond_gt, ↓e_if_icmp_gt, ↓e_ifCond_le, ↓e_if_icmp_le, ↓e_tab, ↓e_look, ↓e_get0, ↓e_get1, ↓e_get2, ↓e_get3, ↓e_put0, ↓e_put1, ↓e_put2, ↓e_put3, ↓e_iaload, ↓e_laload, ↓e_baload, ↓e_aaload, ↓e_iastore, ↓e_lastore, ↓e_bastore, ↓e_aastore, ↓e_alen, ↓e_new, ↓e_newarray, ↓e_anewarray, ↓e_objinit, ↓e_virt1, ↓e_virt2, ↓e_virt3, ↓e_virt4, ↓e_virt5, ↓e_virt6, ↓e_virt7, ↓e_stat0, ↓e_stat1, ↓e_stat2, ↓e_stat3, ↓e_stat4, ↓e_stat5, ↓e_stat6, ↓e_stat7, ↓e_spec1, ↓e_spec2, ↓e_spec3, ↓e_spec4, ↓e_spec5, ↓e_strlen, ↓e_charAt, ↓e_copy, ↓e_iret0, ↓e_iret1, ↓e_lret, ↓e_aret, ↓e_vret, zIsI_int, zIsL_long, zIsA_ref, zInt_int, true_and, and_true, ↓reduceIte, zGet, zSet, zSet2, zEnt, zWid, Value.category, List.map_cons, List.map_nil, List.sum_cons, List.sum_nil, List.replicate, Option.toList, Nat.reduceAdd, Nat.reduceSub, Nat.reduceMul, Nat.reduceLeDiff, Nat.reduceEqDiff, Nat.reduceLT, List.cons_append, List.nil_append, true_or, or_true, or_false, false_or, X.k, X.r6, X.r10, X.r11, X.r12, X.r13, X.r14, X.r15, X.r16, X.r17, X.r18, nI_ltI, nI_leI, nI_eq, nI_clamp, zIn_nI, bI_0, nI_add, nI_mul, nI_or, nI_and, nI_shl1, nI_bit, ↓pk_rem, pk_div, Nat.lt_irrefl, Nat.not_lt_zero, reduceCtorEq, H.n, H.x.k, hnn, ↓e1, zk, z13, z7, E_96, L_96_0, zt_96_0, hr2, kr0, kr1, kr2]
  generalize setR (setR (zNew τ1 (0, 6)) τ1.1.length 0 98) τ1.1.length 1 b = σ2 at *
  have Y2 : RTk σ2 (tB P) n (tk (tB P) n 0) := Y1.far a2
  have G1 : ROffK τ1 b := G.keep f1.K (fun j => f1.R (by omega) j)
  have G2 : ROffK σ2 b := G1.far a2 (by omega)
  obtain ⟨τ2, P2, e2⟩ := c_readAll (d := d) (r := τ1.1.length) G2 Y2 kr2 q1 q2 ((a2.I (by omega) _).trans i8) ((a2.I (by omega) _).trans i9) ⟨q3 2, q3 3, q3 4⟩ (by omega) (by omega) (by omega)
  have g2 : AgN (fun c => c = 1 ∨ c = 98 ∨ (b ≤ c ∧ c ≤ b + 11) ∨ c = u) σ τ2 := (f1.toN.mono (fun c _ hc => by omega)).tr (a2.toN.tr (P2.1.1.toN.mono (fun c _ hc => by omega)))
  have X2 : RXk σ2 a := X1.far a2
  have X3 : RXk τ2 a := X2.keep (P2.1.1.K _) (fun j => P2.1.1.R (by omega) j)
  have t98 : sI τ2 98 1 = nI 0 := P2.1.2.trans ((a2.I (by omega) _).trans i1)
  have k98 : sK τ2 98 = (0, 7) := (P2.1.1.K _).trans Y2.t.x.k
  have l3 : τ2.1 = σ.1 ++ [(0, 6)] := by rw [P2.1.1.1, l2x, f1.1]
  have i1' : ∀ j, sI τ2 1 j = sI σ 1 j := fun j => (P2.1.1.I (by omega) j).trans ((a2.I (by omega) j).trans (f1.I (by omega) j))
  have l1' : ∀ j, sL τ2 1 j = sL σ 1 j := fun j => (P2.1.1.L (by omega) j).trans ((a2.L (by omega) j).trans (f1.L (by omega) j))
  have r1' : ∀ j, sR τ2 1 j = sR σ 1 j := fun j => (P2.1.1.R (by omega) j).trans ((a2.R (by omega) j).trans (f1.R (by omega) j))
  have iu : ∀ j, sI τ2 u j = sI σ u j := fun j => (P2.1.1.I (by omega) j).trans ((a2.I (by omega) j).trans (f1.I (by omega) j))
  have qk := qText_ok (B := tB P) (n := n)
  cases hq : qText (tB P) n with
  | inl e =>
    rw [hq] at P2 qk
    have kf := fun K => x_keepFault (d := d + 6) (K := K) X3 k98 (c := e.1) (by omega) P2.2.1.1
    have ne0 : ¬ e.1 = 0 := by omega
    rw [if_neg ne0, if_neg ne0] at kf
    have X4 : RXk (setI (setI τ2 1 3 (nI e.1)) 1 4 (sI τ2 98 9)) a := X3.keep rfl (fun _ => rfl)
    refine ⟨setI (setI τ2 1 3 (nI e.1)) 1 4 (sI τ2 98 9), ⟨g2.tr (Ag.toN ((Ag.rf.setI (.inl rfl)).setI (.inl rfl))), l3, ?_, fun j => l1' j, fun j h3 h4 => ?_, fun j _ _ => r1' j, ?_, ?_, (r1' 6).trans X.r6, (r1' 7).trans b7, fun j => ?_⟩, fun K => ?_⟩
    · rw [sI_setI, if_neg (by omega), sI_setI, if_neg (by omega)]; exact t98
    · rw [sI_setI, if_neg (by omega), sI_setI, if_neg (by omega)]; exact i1' j
    · rw [sI_setI, if_neg (by omega), sI_setI, if_pos ⟨rfl, rfl⟩]
    · rw [sI_setI, if_pos ⟨rfl, rfl⟩]; exact P2.2.1.2
    · rw [sI_setI, if_neg (by omega), sI_setI, if_neg (by omega)]; exact iu j
    · rw [ent K, e2]
      simp (disch := omega) only [↓e_iconst0, ↓e_iconst1, ↓e_bipush0, ↓e_bipush1, ↓e_sipush0, ↓e_sipush1, ↓e_ldc0, ↓e_ldc1, ↓e_ldc_w0, ↓e_ldc_w1, ↓e_ldc2, ↓e_lconst0, ↓e_lconst1, ↓e_ldc2_w0, ↓e_ldc2_w1, ↓e_iload, ↓e_iload_n, ↓e_istore, ↓e_istore_n, ↓e_lload, ↓e_lload_n, ↓e_lstore, ↓e_lstore_n, ↓e_aload, ↓e_aload_n, ↓e_astore, ↓e_astore_n, ↓e_iinc0, ↓e_iinc1, ↓e_iadd, ↓e_isub, ↓e_imul, ↓e_iand, ↓e_ior, ↓e_ixor, ↓e_ishl, ↓e_ishr, ↓e_iushr, ↓e_ladd, ↓e_lsub, ↓e_lmul, ↓e_land, ↓e_lor, ↓e_idiv, ↓e_irem, ↓e_ldiv, ↓e_lrem, ↓e_lshl, ↓e_lcmp, ↓e_i2l, ↓e_l2i, ↓e_i2b, ↓e_i2s, ↓e_dup_int, ↓e_pop_int, ↓e_dup_ref, ↓e_pop_ref, ↓e_dup2, ↓e_goto, ↓e_nop, ↓e_ifCond_eq, ↓e_if_icmp_eq, ↓e_ifCond_ne, ↓e_if_icmp_ne, ↓e_ifCond_lt, ↓e_if_icmp_lt, ↓e_ifCond_ge, ↓e_if_icmp_ge, ↓e_ifCond_gt, ↓e_if_icmp_gt, ↓e_ifCond_le, ↓e_if_icmp_le, ↓e_tab, ↓e_look, ↓e_get0, ↓e_get1, ↓e_get2, ↓e_get3, ↓e_put0, ↓e_put1, ↓e_put2, ↓e_put3, ↓e_iaload, ↓e_laload, ↓e_baload, ↓e_aaload, ↓e_iastore, ↓e_lastore, ↓e_bastore, ↓e_aastore, ↓e_alen, ↓e_new, ↓e_newarray, ↓e_anewarray, ↓e_objinit, ↓e_virt1, ↓e_virt2, ↓e_virt3, ↓e_virt4, ↓e_virt5, ↓e_virt6, ↓e_virt7, ↓e_stat0, ↓e_stat1, ↓e_stat2, ↓e_stat3, ↓e_stat4, ↓e_stat5, ↓e_stat6, ↓e_stat7, ↓e_spec1, ↓e_spec2, ↓e_spec3, ↓e_spec4, ↓e_spec5, ↓e_strlen, ↓e_charAt, ↓e_copy, ↓e_iret0, ↓e_iret1, ↓e_lret, ↓e_aret, ↓e_vret, zIsI_int, zIsL_long, zIsA_ref, zInt_int, true_and, and_true, ↓reduceIte, zGet, zSet, zSet2, zEnt, zWid, Value.category, List.map_cons, List.map_nil, List.sum_cons, List.sum_nil, List.replicate, Option.toList, Nat.reduceAdd, Nat.reduceSub, Nat.reduceMul, Nat.reduceLeDiff, Nat.reduceEqDiff, Nat.reduceLT, List.cons_append, List.nil_append, true_or, or_true, or_false, false_or, nI_ltI, nI_leI, nI_eq, nI_clamp, zIn_nI, bI_0, nI_add, nI_mul, nI_or, nI_and, nI_shl1, nI_bit, ↓pk_rem, pk_div, Nat.lt_irrefl, Nat.not_lt_zero, reduceCtorEq, X3.k, ↓kf, X4.k, ↓x_refuse X4, qReg, qR, Option.toList, List.append_nil]
  | inr A' =>
    rw [hq] at P2 qk
    have pf := P2.1.1
    obtain ⟨p1, ⟨z8, z9⟩, H2, O2, N2⟩ := P2
    have kf := fun K => x_keepFault (d := d + 6) (K := K) X3 k98 (c := 0) (by omega) z8
    rw [if_pos rfl, if_pos rfl] at kf
    have p8 := O2.p8
    have hf : Ag (fun c => c = 1) τ2 (setI (setI τ2 1 3 (nI 0)) 1 4 (-nI 1)) := (Ag.rf.setI (p := fun c => c = 1) rfl).setI rfl
    have X4 : RXk (setI (setI τ2 1 3 (nI 0)) 1 4 (-nI 1)) a := X3.keep rfl (fun _ => rfl)
    have D3 : RDk τ2 u := by
      have D0 : RDk σ u := D
      have kk : ∀ i, i ≤ 4 → sK τ2 (u + i) = sK σ (u + i) := fun i hi => (pf.K _).trans ((a2.K (by omega)).trans (f1.K _))
      have rr : ∀ j, sR τ2 u j = sR σ u j := fun j => (pf.R (by omega) j).trans ((a2.R (by omega) j).trans (f1.R (by omega) j))
      exact RDk.mk ((kk 0 (by omega)).trans D0.k) ((rr _).trans D0.r2) ((rr _).trans D0.r3) ((rr _).trans D0.r4) ((rr _).trans D0.r5) ((kk 1 (by omega)).trans D0.k1) ((kk 2 (by omega)).trans D0.k2) ((kk 3 (by omega)).trans D0.k3) ((kk 4 (by omega)).trans D0.k4)
    have H3 : ROff (setI (setI τ2 1 3 (nI 0)) 1 4 (-nI 1)) b A' := H2.ag hf (fun c h1 h2 => by omega)
    have t3_98 : sI (setI (setI τ2 1 3 (nI 0)) 1 4 (-nI 1)) 98 1 = nI 0 := (hf.I (by omega) _).trans t98
    have t3_1 : ∀ j, j ≠ 3 → j ≠ 4 → sI (setI (setI τ2 1 3 (nI 0)) 1 4 (-nI 1)) 1 j = sI σ 1 j := fun j h3 h4 => by
      rw [sI_setI, if_neg (by omega), sI_setI, if_neg (by omega)]; exact i1' j
    have t3_3 : sI (setI (setI τ2 1 3 (nI 0)) 1 4 (-nI 1)) 1 3 = nI 0 := by rw [sI_setI, if_neg (by omega), sI_setI, if_pos ⟨rfl, rfl⟩]
    have t3_4 : sI (setI (setI τ2 1 3 (nI 0)) 1 4 (-nI 1)) 1 4 = -nI 1 := by rw [sI_setI, if_pos ⟨rfl, rfl⟩]
    have g3 : AgN (fun c => c = 1 ∨ c = 98 ∨ (b ≤ c ∧ c ≤ b + 11) ∨ c = u) σ (setI (setI τ2 1 3 (nI 0)) 1 4 (-nI 1)) := g2.tr (hf.toN.mono (fun c _ hc => .inl hc))
    have r3 : ∀ j, sR (setI (setI τ2 1 3 (nI 0)) 1 4 (-nI 1)) 1 j = sR σ 1 j := r1'
    have l4 : ∀ j, sL (setI (setI τ2 1 3 (nI 0)) 1 4 (-nI 1)) 1 j = sL σ 1 j := l1'
    have len3 : (setI (setI τ2 1 3 (nI 0)) 1 4 (-nI 1)).1 = σ.1 ++ [(0, 6)] := l3
    have D4 : RDk (setI (setI τ2 1 3 (nI 0)) 1 4 (-nI 1)) u := D3.keep (fun _ => rfl) (fun _ => rfl)
    generalize setI (setI τ2 1 3 (nI 0)) 1 4 (-nI 1) = τ3 at *
    have s6 : sR τ3 1 6 = a := (r3 6).trans X.r6
    have s7 : sR τ3 1 7 = b := (r3 7).trans b7
    have s8 : sR τ3 1 8 = u := (r3 8).trans u8
    have q17 : ∀ v, sR (setR τ3 1 6 v) 1 7 = b := fun v => by rw [sR_setR, if_neg (by omega)]; exact s7
    have q18 : ∀ v w, sR (setR (setR τ3 1 6 v) 1 7 w) 1 8 = u := fun v w => by rw [sR_setR, if_neg (by omega), sR_setR, if_neg (by omega)]; exact s8
    have q6 : ∀ w, sR (setR (setR τ3 1 6 b) 1 7 w) 1 6 = b := fun w => by rw [sR_setR, if_neg (by omega), sR_setR, if_pos ⟨rfl, rfl⟩]
    have q7 : sR (setR (setR τ3 1 6 b) 1 7 a) 1 7 = a := by rw [sR_setR, if_pos ⟨rfl, rfl⟩]
    have fR : Ag (fun c => c = 1) τ3 (setR (setR τ3 1 6 b) 1 7 a) := (Ag.rf.setR (p := fun c => c = 1) rfl (.inl rfl)).setR rfl (.inl rfl)
    have D5 : RDk (setR (setR τ3 1 6 b) 1 7 a) u := D4.keep (fun _ => rfl) (fun j => fR.R (by omega) j)
    have k1 : sK τ3 1 = (0, 10) := X4.k
    have cl := fun K => c_daysClear (d := d + 6) (K := K) D5
    have H5 : ROff (setI (setI (setR (setR τ3 1 6 b) 1 7 a) u 0 (nI 0)) u 1 (nI 0)) b A' := H3.ag (p := fun c => c = 1 ∨ c = u) ((((Ag.rf.setR (.inl rfl) (.inl rfl)).setR (.inl rfl) (.inl rfl)).setI (.inr rfl)).setI (.inr rfl)) (fun c h1 h2 => by omega)
    have fE : Ag (fun c => c = 1 ∨ c = 98 ∨ (b ≤ c ∧ c ≤ b + 11) ∨ c = u) τ3 (setI (setI (setR (setR τ3 1 6 b) 1 7 a) u 0 (nI 0)) u 1 (nI 0)) := (((Ag.rf.setR (.inl rfl) (.inl rfl)).setR (.inl rfl) (.inl rfl)).setI (.inr (.inr (.inr rfl)))).setI (.inr (.inr (.inr rfl)))
    have e1i : ∀ j, sI (setI (setI (setR (setR τ3 1 6 b) 1 7 a) u 0 (nI 0)) u 1 (nI 0)) 1 j = sI τ3 1 j := fun j => by rw [sI_setI, if_neg (by omega), sI_setI, if_neg (by omega), sI_setR, sI_setR]
    refine ⟨setI (setI (setR (setR τ3 1 6 b) 1 7 a) u 0 (nI 0)) u 1 (nI 0), ⟨g3.tr fE.toN, len3, ?_, fun j => l4 j, fun j h3 h4 => (e1i j).trans (t3_1 j h3 h4), fun j h6 h7 => ?_, (e1i 3).trans t3_3, (e1i 4).trans t3_4, q6 a, q7, H5, ?_, ?_⟩, fun K => ?_⟩
    · rw [sI_setI, if_neg (by omega), sI_setI, if_neg (by omega), sI_setR, sI_setR]; exact t3_98
    · show sR (setR (setR τ3 1 6 b) 1 7 a) 1 j = _
      rw [sR_setR, if_neg (by omega), sR_setR, if_neg (by omega)]; exact r3 j
    · rw [sI_setI, if_neg (by omega), sI_setI, if_pos ⟨rfl, rfl⟩]
    · rw [sI_setI, if_pos ⟨rfl, rfl⟩]
    · have X6 : RXk (setI (setI (setR (setR τ3 1 6 b) 1 7 a) u 0 (nI 0)) u 1 (nI 0)) b := by
        have y : ∀ j, j ≠ 6 → j ≠ 7 → sR (setR (setR τ3 1 6 b) 1 7 a) 1 j = sR τ3 1 j := fun j h6 h7 => by rw [sR_setR, if_neg (by omega), sR_setR, if_neg (by omega)]
        exact RXk.mk X4.k (q6 a) ((y _ (by omega) (by omega)).trans X4.r10) ((y _ (by omega) (by omega)).trans X4.r11) ((y _ (by omega) (by omega)).trans X4.r12) ((y _ (by omega) (by omega)).trans X4.r13) ((y _ (by omega) (by omega)).trans X4.r14) ((y _ (by omega) (by omega)).trans X4.r15) ((y _ (by omega) (by omega)).trans X4.r16) ((y _ (by omega) (by omega)).trans X4.r17) ((y _ (by omega) (by omega)).trans X4.r18)
      rw [ent K, e2]
      simp (disch := omega) only [L_150_61, zt_150_61, ↓e_iconst0, ↓e_iconst1, ↓e_bipush0, ↓e_bipush1, ↓e_sipush0, ↓e_sipush1, ↓e_ldc0, ↓e_ldc1, ↓e_ldc_w0, ↓e_ldc_w1, ↓e_ldc2, ↓e_lconst0, ↓e_lconst1, ↓e_ldc2_w0, ↓e_ldc2_w1, ↓e_iload, ↓e_iload_n, ↓e_istore, ↓e_istore_n, ↓e_lload, ↓e_lload_n, ↓e_lstore, ↓e_lstore_n, ↓e_aload, ↓e_aload_n, ↓e_astore, ↓e_astore_n, ↓e_iinc0, ↓e_iinc1, ↓e_iadd, ↓e_isub, ↓e_imul, ↓e_iand, ↓e_ior, ↓e_ixor, ↓e_ishl, ↓e_ishr, ↓e_iushr, ↓e_ladd, ↓e_lsub, ↓e_lmul, ↓e_land, ↓e_lor, ↓e_idiv, ↓e_irem, ↓e_ldiv, ↓e_lrem, ↓e_lshl, ↓e_lcmp, ↓e_i2l, ↓e_l2i, ↓e_i2b, ↓e_i2s, ↓e_dup_int, ↓e_pop_int, ↓e_dup_ref, ↓e_pop_ref, ↓e_dup2, ↓e_goto, ↓e_nop, ↓e_ifCond_eq, ↓e_if_icmp_eq, ↓e_ifCond_ne, ↓e_if_icmp_ne, ↓e_ifCond_lt, ↓e_if_icmp_lt, ↓e_ifCond_ge, ↓e_if_icmp_ge, ↓e_ifCond_gt, ↓e_if_icmp_gt, ↓e_ifCond_le, ↓e_if_icmp_le, ↓e_tab, ↓e_look, ↓e_get0, ↓e_get1, ↓e_get2, ↓e_get3, ↓e_put0, ↓e_put1, ↓e_put2, ↓e_put3, ↓e_iaload, ↓e_laload, ↓e_baload, ↓e_aaload, ↓e_iastore, ↓e_lastore, ↓e_bastore, ↓e_aastore, ↓e_alen, ↓e_new, ↓e_newarray, ↓e_anewarray, ↓e_objinit, ↓e_virt1, ↓e_virt2, ↓e_virt3, ↓e_virt4, ↓e_virt5, ↓e_virt6, ↓e_virt7, ↓e_stat0, ↓e_stat1, ↓e_stat2, ↓e_stat3, ↓e_stat4, ↓e_stat5, ↓e_stat6, ↓e_stat7, ↓e_spec1, ↓e_spec2, ↓e_spec3, ↓e_spec4, ↓e_spec5, ↓e_strlen, ↓e_charAt, ↓e_copy, ↓e_iret0, ↓e_iret1, ↓e_lret, ↓e_aret, ↓e_vret, zIsI_int, zIsL_long, zIsA_ref, zInt_int, true_and, and_true, ↓reduceIte, zGet, zSet, zSet2, zEnt, zWid, Value.category, List.map_cons, List.map_nil, List.sum_cons, List.sum_nil, List.replicate, Option.toList, Nat.reduceAdd, Nat.reduceSub, Nat.reduceMul, Nat.reduceLeDiff, Nat.reduceEqDiff, Nat.reduceLT, List.cons_append, List.nil_append, true_or, or_true, or_false, false_or, nI_ltI, nI_leI, nI_eq, nI_clamp, zIn_nI, bI_0, nI_add, nI_mul, nI_or, nI_and, nI_shl1, nI_bit, ↓pk_rem, pk_div, Nat.lt_irrefl, Nat.not_lt_zero, reduceCtorEq, X3.k, ↓kf, k1, D4.k, sK_setR, s6, s7, q17, q18, ↓cl, sK_setI, sR_setI, sL_setI, q6, H5.k, H5.i6, X6.k, X6.r6, ↓x_answer X6, qReg, qA, Option.toList, List.append_nil]
end REX
