/-! THE MODEL READS A REGISTRY: a part -/
def Ofc.busy (A : Ofc) : Bool := decide (0 < A.nc) || decide (A.lying ≠ 0)
def TO (A : Ofc) (F : Fl) (t : Nat) : Prop := t < 2 ^ 7 ∧ t.testBit 0 = (F.1 || A.busy) ∧ t.testBit 1 = F.2.1 ∧ t.testBit 2 = F.2.2
def FMt (σ τ : MS) : Prop := Ag (fun b => b = 120 ∨ b = 121 ∨ b = 122) σ τ ∧ (∀ j, j < 1616 → sI τ 121 j = sI σ 121 j) ∧ (∀ j, j < 80 → sL τ 122 j = sL σ 122 j) ∧ (∀ j, (j < 12 ∨ 21 ≤ j) → sI τ 120 j = sI σ 120 j) ∧ (∀ j, sL τ 120 j = sL σ 120 j)
def QPM (σ : MS) (B : Nat → Nat) (n : Nat) (x : Er ⊕ ((Ofc × Fl) × Tk)) (τ : MS) : Prop := FMt σ τ ∧ match x with
  | .inl e => sI τ 120 18 = nI e.1 ∧ sI τ 120 17 = nI e.2
  | .inr y => RRm τ B n y.2 y.1.1 ∧ ∃ t, TO y.1.1 y.1.2 t ∧ sI τ 120 20 = nI t
section RPM
variable {d : Nat} {σ τ ρ : MS} {n : Nat} {A A' : Ofc} {B : Nat → Nat} {T U : Tk} {K : Option Value → MS → Prop}
theorem FM.t (h : FM σ τ) : FMt σ τ := ⟨h.1, h.2.1, h.2.2.1, h.2.2.2.1, h.2.2.2.2.1⟩
theorem FMt.rf : FMt σ σ := FM.rf.t
theorem FMt.tr (h1 : FMt σ τ) (h2 : FMt τ ρ) : FMt σ ρ := ⟨h1.1.tr h2.1, fun j hj => (h2.2.1 j hj).trans (h1.2.1 j hj), fun j hj => (h2.2.2.1 j hj).trans (h1.2.2.1 j hj), fun j hj => (h2.2.2.2.1 j hj).trans (h1.2.2.2.1 j hj), fun j => (h2.2.2.2.2 j).trans (h1.2.2.2.2 j)⟩
theorem FMt.s20 (v : Int32) : FMt σ (setI σ 120 20 v) := ⟨Ag.rf.setI (.inl rfl), fun j hj => by rw [sI_setI, if_neg (by omega)], fun j _ => rfl, fun j hj => by rw [sI_setI, if_neg (by omega)], fun j => rfl⟩
theorem rtn_s20 (X : RTn σ B n T) (v : Int32) : RTn (setI σ 120 20 v) B n T := by
  have y : ∀ j, j ≠ 20 → sI (setI σ 120 20 v) 120 j = sI σ 120 j := fun j hj => by rw [sI_setI, if_neg (fun h => hj h.2)]
  exact RTn.mk ((y _ (by omega)).trans X.len) (fun j hj => by rw [sI_setI, if_neg (by omega)]; exact X.b j hj) ((y _ (by omega)).trans X.k2) ((y _ (by omega)).trans X.k3) ((y _ (by omega)).trans X.k4) (fun h => (y _ (by omega)).trans (X.vn h)) (fun h => (y _ (by omega)).trans (X.vs h))
theorem RRm.s20 (X : RRm σ B n T A) (v : Int32) : RRm (setI σ 120 20 v) B n T A := by
  have i : ∀ j, sI (setI σ 120 20 v) 121 j = sI σ 121 j := fun j => by rw [sI_setI, if_neg (by omega)]
  exact RRm.mk (X.m.ag (Ag.rf.setI (p := fun b => b = 120) rfl)) (rtn_s20 X.x v) ((i _).trans X.n0) ((i _).trans X.n1) ((i _).trans X.n2) ((i _).trans X.n3) ((i _).trans X.n4) ((i _).trans X.n5) ((i _).trans X.n6) ((i _).trans X.n7) (fun t h => (i _).trans (X.a8 t h)) (fun t h => (i _).trans (X.a16 t h)) (fun t h => (i _).trans (X.a17 t h)) (fun t h => (i _).trans (X.a32 t h)) X.l0 X.l8 X.l16 (by rw [sI_setI, if_neg (by omega)]; exact X.z) (by rw [sI_setI, if_neg (by omega)]; exact X.z7)
theorem busy_addP (O : OfcOk A) (l : List Nat) (s : Nat) : (A.addP l s).busy = A.busy := by
  have e : (A.addP l s).lying = A.lying := by
    show zfor (fun p n => if (A.pl p).isSome = true then n ||| 2 ^ p else n) (A.np + 1) 0 = zfor (fun p n => if (A.pl p).isSome = true then n ||| 2 ^ p else n) A.np 0
    show (if (A.pl A.np).isSome = true then _ else _) = _
    rw [O.pln A.np (Nat.le_refl _)]
    rfl
  unfold Ofc.busy
  rw [e]
  rfl
theorem busy_marks {p : Nat} : ∀ (m : Nat) (A : Ofc) (T : Tk) y, qMarksM B n p m A T = .inr y → y.1.busy = A.busy := by
  intro m
  induction m with
  | zero => intro A T y h; cases h; rfl
  | succ m ih =>
    intro A T y h
    rw [qMarksM_s] at h
    split at h
    · split at h
      · cases h
      · split at h
        · cases h
        · exact (ih _ _ y h).trans rfl
    · cases h; rfl
theorem kW_r {α : Type} {w : Nat} {f : Tk → Er ⊕ α} {y : α} (h : kW B n w T f = .inr y) : ∃ T, f T = .inr y := by
  unfold kW at h
  split at h
  · exact ⟨_, h⟩
  · cases h
theorem kN_r {α : Type} {lo hi : Nat} {f : Nat → Tk → Er ⊕ α} {y : α} (h : kN B n lo hi T f = .inr y) : ∃ v T, f v T = .inr y := by
  unfold kN at h
  split at h
  · split at h
    · exact ⟨_, _, h⟩
    · cases h
  · cases h
theorem kA_r {α : Type} {f : List Nat → Tk → Er ⊕ α} {y : α} (h : kA B n A T f = .inr y) : ∃ l T, f l T = .inr y := by
  unfold kA at h
  split at h
  · split at h
    · cases h
    · exact ⟨_, _, h⟩
  · cases h
theorem busy_mark {y : Ofc × Tk} (h : qMark B n A T = .inr y) : y.1.busy = A.busy := by
  unfold qMark at h
  split at h
  · cases h
  · obtain ⟨l, T1, h⟩ := kA_r h
    obtain ⟨T2, h⟩ := kW_r h
    obtain ⟨v, T3, h⟩ := kN_r h
    cases h; rfl
theorem busy_paper (O : OfcOk A) {y : Ofc × Tk} (h : qPaperM B n A T = .inr y) : y.1.busy = A.busy := by
  unfold qPaperM at h
  split at h
  · cases h
  · obtain ⟨l, T1, h⟩ := kA_r h
    exact (busy_marks _ _ _ _ h).trans (busy_addP O _ _)
theorem busy_clerk {y : Ofc × Tk} (h : qClerk B n A T = .inr y) : y.1.busy = true := by
  unfold qClerk at h
  split at h
  · cases h
  · obtain ⟨l, T1, h⟩ := kA_r h
    obtain ⟨T2, h⟩ := kW_r h
    obtain ⟨v, T3, h⟩ := kN_r h
    cases h
    show (decide (0 < A.nc + 1) || _) = true
    rw [decide_eq_true (by omega)]
    rfl
theorem busy_put {p c : Nat} (hp : p < A.np) : (A.put p c).busy = true := by
  have h : (A.put p c).lying.testBit p = true := by
    rw [lying_bit, decide_eq_true (show p < (A.put p c).np from hp), Bool.true_and]
    show (if p = p then some c else A.pl p).isSome = true
    rw [if_pos rfl]
    rfl
  have h2 : (A.put p c).lying ≠ 0 := fun e => by rw [e, Nat.zero_testBit] at h; cases h
  unfold Ofc.busy
  rw [decide_eq_true h2, Bool.or_true]
theorem busy_lies {y : Ofc × Tk} (h : qLies B n A T = .inr y) : y.1.busy = true := by
  unfold qLies at h
  split at h
  · split at h
    · cases h
    · rename_i p hp
      have hpn := (ff_is hp).1
      split at h
      · cases h
      · obtain ⟨T2, h⟩ := kW_r h
        split at h
        · split at h
          · split at h
            · cases h
            · cases h; exact busy_put hpn
          · cases h
        · cases h
  · cases h
theorem busy_is : (A.busy = true) = (0 < A.nc ∨ A.lying ≠ 0) := by
  unfold Ofc.busy
  rw [Bool.or_eq_true, decide_eq_true_eq, decide_eq_true_eq]
/-- the end of a part -/
theorem m_end {x : Er ⊕ (Ofc × Tk)} {F : Fl} (P : MPost σ B n x τ) (M0 : RMk σ) (G : ∀ y, x = .inr y → TkOk B n y.2) (h9 : n ≤ 900) {t : Nat} (ht : sI σ 120 20 = nI t) (hT : ∀ y, x = .inr y → TO y.1 F t) :
   ∃ ρ, QPM σ B n (toE B n x F) ρ ∧ ∀ K k, zX (d + 5) 263 185 [.ref 120, k, .int (bI (okR x))] [] τ K = K (some (.int (bI (okR (toE B n x F))))) ρ := by
  cases x with
  | inl e =>
    refine ⟨τ, ⟨P.1.t, P.2⟩, fun K k => ?_⟩
    rw [L_263_185, zt_263_185]
    simp (disch := omega) only [L_263_202, zt_263_202, L_263_203, zt_263_203, ↓e_iconst0, ↓e_iconst1, ↓e_bipush0, ↓e_bipush1, ↓e_sipush0, ↓e_sipush1, ↓e_ldc0, ↓e_ldc1, ↓e_ldc_w0, ↓e_ldc_w1, ↓e_ldc2, ↓e_lconst0, ↓e_lconst1, ↓e_ldc2_w0, ↓e_ldc2_w1, ↓e_iload, ↓e_iload_n, ↓e_istore, ↓e_istore_n, ↓e_lload, ↓e_lload_n, ↓e_lstore, ↓e_lstore_n, ↓e_aload, ↓e_aload_n, ↓e_astore, ↓e_astore_n, ↓e_iinc0, ↓e_iinc1, ↓e_iadd, ↓e_isub, ↓e_imul, ↓e_iand, ↓e_ior, ↓e_ixor, ↓e_ishl, ↓e_ishr, ↓e_iushr, ↓e_ladd, ↓e_lsub, ↓e_lmul, ↓e_land, ↓e_lor, ↓e_idiv, ↓e_irem, ↓e_ldiv, ↓e_lrem, ↓e_lshl, ↓e_lcmp, ↓e_i2l, ↓e_l2i, ↓e_i2b, ↓e_i2s, ↓e_dup_int, ↓e_pop_int, ↓e_dup_ref, ↓e_pop_ref, ↓e_dup2, ↓e_goto, ↓e_nop, ↓e_ifCond_eq, ↓e_if_icmp_eq, ↓e_ifCond_ne, ↓e_if_icmp_ne, ↓e_ifCond_lt, ↓e_if_icmp_lt, ↓e_ifCond_ge, ↓e_if_icmp_ge, ↓e_ifCond_gt, ↓e_if_icmp_gt, ↓e_ifCond_le, ↓e_if_icmp_le, ↓e_tab, ↓e_look, ↓e_get0, ↓e_get1, ↓e_get2, ↓e_get3, ↓e_put0, ↓e_put1, ↓e_put2, ↓e_put3, ↓e_iaload, ↓e_laload, ↓e_baload, ↓e_aaload, ↓e_iastore, ↓e_lastore, ↓e_bastore, ↓e_aastore, ↓e_alen, ↓e_new, ↓e_newarray, ↓e_anewarray, ↓e_objinit, ↓e_virt1, ↓e_virt2, ↓e_virt3, ↓e_virt4, ↓e_virt5, ↓e_virt6, ↓e_virt7, ↓e_stat0, ↓e_stat1, ↓e_stat2, ↓e_stat3, ↓e_stat4, ↓e_stat5, ↓e_stat6, ↓e_stat7, ↓e_spec1, ↓e_spec2, ↓e_spec3, ↓e_spec4, ↓e_spec5, ↓e_strlen, ↓e_charAt, ↓e_copy, ↓e_iret0, ↓e_iret1, ↓e_lret, ↓e_aret, ↓e_vret, zIsI_int, zIsL_long, zIsA_ref, zInt_int, true_and, and_true, ↓reduceIte, zGet, zSet, zSet2, zEnt, zWid, Value.category, List.map_cons, List.map_nil, List.sum_cons, List.sum_nil, List.replicate, Option.toList, Nat.reduceAdd, Nat.reduceSub, Nat.reduceMul, Nat.reduceLeDiff, Nat.reduceEqDiff, Nat.reduceLT, List.cons_append, List.nil_append, true_or, or_true, or_false, false_or, nI_ltI, nI_leI, nI_eq, nI_clamp, zIn_nI, bI_0, nI_add, nI_mul, nI_or, nI_and, nI_shl1, nI_bit, ↓pk_rem, pk_div, Nat.lt_irrefl, Nat.not_lt_zero, reduceCtorEq, show bI (okR (Sum.inl e : Er ⊕ (Ofc × Tk))) = nI 0 from rfl]
    rfl
  | inr y =>
    obtain ⟨A, U⟩ := y
    obtain ⟨f, X⟩ := P
    have X : RRm τ B n U A := X
    have H : TkOk B n U := G _ rfl
    have M := X.m
    have hx : toE B n (.inr (A, U)) F = kE B n U (fun T => .inr ((A, F), T)) := rfl
    rw [hx]
    unfold kE
    dsimp only
    have o : bI (okR (Sum.inr (A, U) : Er ⊕ (Ofc × Tk))) = nI 1 := rfl
    cases hs : isS B U 59 with
    | true =>
      rw [if_pos rfl]
      obtain ⟨ρ, g, Y, e⟩ := m_wantSign (d := d + 2) M X.x H h9 hs
      refine ⟨ρ, ⟨(f.tr (FM.tm g)).t, X.tm g Y, t, hT _ rfl, ?_⟩, fun K k => ?_⟩
      · rw [g.2.1 20 (by omega), f.2.2.2.2.2]; exact ht
      · rw [L_263_185, zt_263_185]
        simp (disch := omega) only [L_263_202, zt_263_202, L_263_203, zt_263_203, ↓e_iconst0, ↓e_iconst1, ↓e_bipush0, ↓e_bipush1, ↓e_sipush0, ↓e_sipush1, ↓e_ldc0, ↓e_ldc1, ↓e_ldc_w0, ↓e_ldc_w1, ↓e_ldc2, ↓e_lconst0, ↓e_lconst1, ↓e_ldc2_w0, ↓e_ldc2_w1, ↓e_iload, ↓e_iload_n, ↓e_istore, ↓e_istore_n, ↓e_lload, ↓e_lload_n, ↓e_lstore, ↓e_lstore_n, ↓e_aload, ↓e_aload_n, ↓e_astore, ↓e_astore_n, ↓e_iinc0, ↓e_iinc1, ↓e_iadd, ↓e_isub, ↓e_imul, ↓e_iand, ↓e_ior, ↓e_ixor, ↓e_ishl, ↓e_ishr, ↓e_iushr, ↓e_ladd, ↓e_lsub, ↓e_lmul, ↓e_land, ↓e_lor, ↓e_idiv, ↓e_irem, ↓e_ldiv, ↓e_lrem, ↓e_lshl, ↓e_lcmp, ↓e_i2l, ↓e_l2i, ↓e_i2b, ↓e_i2s, ↓e_dup_int, ↓e_pop_int, ↓e_dup_ref, ↓e_pop_ref, ↓e_dup2, ↓e_goto, ↓e_nop, ↓e_ifCond_eq, ↓e_if_icmp_eq, ↓e_ifCond_ne, ↓e_if_icmp_ne, ↓e_ifCond_lt, ↓e_if_icmp_lt, ↓e_ifCond_ge, ↓e_if_icmp_ge, ↓e_ifCond_gt, ↓e_if_icmp_gt, ↓e_ifCond_le, ↓e_if_icmp_le, ↓e_tab, ↓e_look, ↓e_get0, ↓e_get1, ↓e_get2, ↓e_get3, ↓e_put0, ↓e_put1, ↓e_put2, ↓e_put3, ↓e_iaload, ↓e_laload, ↓e_baload, ↓e_aaload, ↓e_iastore, ↓e_lastore, ↓e_bastore, ↓e_aastore, ↓e_alen, ↓e_new, ↓e_newarray, ↓e_anewarray, ↓e_objinit, ↓e_virt1, ↓e_virt2, ↓e_virt3, ↓e_virt4, ↓e_virt5, ↓e_virt6, ↓e_virt7, ↓e_stat0, ↓e_stat1, ↓e_stat2, ↓e_stat3, ↓e_stat4, ↓e_stat5, ↓e_stat6, ↓e_stat7, ↓e_spec1, ↓e_spec2, ↓e_spec3, ↓e_spec4, ↓e_spec5, ↓e_strlen, ↓e_charAt, ↓e_copy, ↓e_iret0, ↓e_iret1, ↓e_lret, ↓e_aret, ↓e_vret, zIsI_int, zIsL_long, zIsA_ref, zInt_int, true_and, and_true, ↓reduceIte, zGet, zSet, zSet2, zEnt, zWid, Value.category, List.map_cons, List.map_nil, List.sum_cons, List.sum_nil, List.replicate, Option.toList, Nat.reduceAdd, Nat.reduceSub, Nat.reduceMul, Nat.reduceLeDiff, Nat.reduceEqDiff, Nat.reduceLT, List.cons_append, List.nil_append, true_or, or_true, or_false, false_or, nI_ltI, nI_leI, nI_eq, nI_clamp, zIn_nI, bI_0, nI_add, nI_mul, nI_or, nI_and, nI_shl1, nI_bit, ↓pk_rem, pk_div, Nat.lt_irrefl, Nat.not_lt_zero, reduceCtorEq, o, M.k, ↓e]
        rfl
    | false =>
      rw [if_neg Bool.false_ne_true]
      refine ⟨_, ⟨(f.flt _ _).t, fltM_18 _ _, fltM_17 _ _⟩, fun K k => ?_⟩
      rw [L_263_185, zt_263_185]
      simp (disch := omega) only [L_263_202, zt_263_202, L_263_203, zt_263_203, ↓e_iconst0, ↓e_iconst1, ↓e_bipush0, ↓e_bipush1, ↓e_sipush0, ↓e_sipush1, ↓e_ldc0, ↓e_ldc1, ↓e_ldc_w0, ↓e_ldc_w1, ↓e_ldc2, ↓e_lconst0, ↓e_lconst1, ↓e_ldc2_w0, ↓e_ldc2_w1, ↓e_iload, ↓e_iload_n, ↓e_istore, ↓e_istore_n, ↓e_lload, ↓e_lload_n, ↓e_lstore, ↓e_lstore_n, ↓e_aload, ↓e_aload_n, ↓e_astore, ↓e_astore_n, ↓e_iinc0, ↓e_iinc1, ↓e_iadd, ↓e_isub, ↓e_imul, ↓e_iand, ↓e_ior, ↓e_ixor, ↓e_ishl, ↓e_ishr, ↓e_iushr, ↓e_ladd, ↓e_lsub, ↓e_lmul, ↓e_land, ↓e_lor, ↓e_idiv, ↓e_irem, ↓e_ldiv, ↓e_lrem, ↓e_lshl, ↓e_lcmp, ↓e_i2l, ↓e_l2i, ↓e_i2b, ↓e_i2s, ↓e_dup_int, ↓e_pop_int, ↓e_dup_ref, ↓e_pop_ref, ↓e_dup2, ↓e_goto, ↓e_nop, ↓e_ifCond_eq, ↓e_if_icmp_eq, ↓e_ifCond_ne, ↓e_if_icmp_ne, ↓e_ifCond_lt, ↓e_if_icmp_lt, ↓e_ifCond_ge, ↓e_if_icmp_ge, ↓e_ifCond_gt, ↓e_if_icmp_gt, ↓e_ifCond_le, ↓e_if_icmp_le, ↓e_tab, ↓e_look, ↓e_get0, ↓e_get1, ↓e_get2, ↓e_get3, ↓e_put0, ↓e_put1, ↓e_put2, ↓e_put3, ↓e_iaload, ↓e_laload, ↓e_baload, ↓e_aaload, ↓e_iastore, ↓e_lastore, ↓e_bastore, ↓e_aastore, ↓e_alen, ↓e_new, ↓e_newarray, ↓e_anewarray, ↓e_objinit, ↓e_virt1, ↓e_virt2, ↓e_virt3, ↓e_virt4, ↓e_virt5, ↓e_virt6, ↓e_virt7, ↓e_stat0, ↓e_stat1, ↓e_stat2, ↓e_stat3, ↓e_stat4, ↓e_stat5, ↓e_stat6, ↓e_stat7, ↓e_spec1, ↓e_spec2, ↓e_spec3, ↓e_spec4, ↓e_spec5, ↓e_strlen, ↓e_charAt, ↓e_copy, ↓e_iret0, ↓e_iret1, ↓e_lret, ↓e_aret, ↓e_vret, zIsI_int, zIsL_long, zIsA_ref, zInt_int, true_and, and_true, ↓reduceIte, zGet, zSet, zSet2, zEnt, zWid, Value.category, List.map_cons, List.map_nil, List.sum_cons, List.sum_nil, List.replicate, Option.toList, Nat.reduceAdd, Nat.reduceSub, Nat.reduceMul, Nat.reduceLeDiff, Nat.reduceEqDiff, Nat.reduceLT, List.cons_append, List.nil_append, true_or, or_true, or_false, false_or, nI_ltI, nI_leI, nI_eq, nI_clamp, zIn_nI, bI_0, nI_add, nI_mul, nI_or, nI_and, nI_shl1, nI_bit, ↓pk_rem, pk_div, Nat.lt_irrefl, Nat.not_lt_zero, reduceCtorEq, o, M.k, ↓m_wantSignNo M X.x H X.z hs]
      rfl
theorem QM.tr {x : Er ⊕ ((Ofc × Fl) × Tk)} (h : FMt σ τ) (X : QPM τ B n x ρ) : QPM σ B n x ρ := ⟨h.tr X.1, X.2⟩
theorem QM.no {c s : Nat} : QPM σ B n (.inl (c, s)) (fltM σ c s) := ⟨((FM.rf (σ := σ)).flt c s).t, fltM_18 _ _, fltM_17 _ _⟩
theorem to_0 {t : Nat} (h : t < 2 ^ 7) : t ||| 2 ^ 0 < 2 ^ 7 ∧ (t ||| 2 ^ 0).testBit 0 = true ∧ (t ||| 2 ^ 0).testBit 1 = t.testBit 1 ∧ (t ||| 2 ^ 0).testBit 2 = t.testBit 2 := by
  refine ⟨Nat.or_lt_two_pow h (by decide), ?_, ?_, ?_⟩
  · rw [Nat.testBit_or, show (2 ^ 0 : Nat).testBit 0 = true by decide]; simp
  · rw [Nat.testBit_or, show (2 ^ 0 : Nat).testBit 1 = false by decide]; simp
  · rw [Nat.testBit_or, show (2 ^ 0 : Nat).testBit 2 = false by decide]; simp
theorem to_1 {t : Nat} (h : t < 2 ^ 7) : t ||| 2 ^ 1 < 2 ^ 7 ∧ (t ||| 2 ^ 1).testBit 0 = t.testBit 0 ∧ (t ||| 2 ^ 1).testBit 1 = true ∧ (t ||| 2 ^ 1).testBit 2 = t.testBit 2 := by
  refine ⟨Nat.or_lt_two_pow h (by decide), ?_, ?_, ?_⟩
  · rw [Nat.testBit_or, show (2 ^ 1 : Nat).testBit 0 = false by decide]; simp
  · rw [Nat.testBit_or, show (2 ^ 1 : Nat).testBit 1 = true by decide]; simp
  · rw [Nat.testBit_or, show (2 ^ 1 : Nat).testBit 2 = false by decide]; simp
theorem to_2 {t : Nat} (h : t < 2 ^ 7) : t ||| 2 ^ 2 < 2 ^ 7 ∧ (t ||| 2 ^ 2).testBit 0 = t.testBit 0 ∧ (t ||| 2 ^ 2).testBit 1 = t.testBit 1 ∧ (t ||| 2 ^ 2).testBit 2 = true := by
  refine ⟨Nat.or_lt_two_pow h (by decide), ?_, ?_, ?_⟩
  · rw [Nat.testBit_or, show (2 ^ 2 : Nat).testBit 0 = false by decide]; simp
  · rw [Nat.testBit_or, show (2 ^ 2 : Nat).testBit 1 = false by decide]; simp
  · rw [Nat.testBit_or, show (2 ^ 2 : Nat).testBit 2 = true by decide]; simp
theorem to_3 {t : Nat} (h : t < 2 ^ 7) : t ||| 2 ^ 3 < 2 ^ 7 ∧ (t ||| 2 ^ 3).testBit 0 = t.testBit 0 ∧ (t ||| 2 ^ 3).testBit 1 = t.testBit 1 ∧ (t ||| 2 ^ 3).testBit 2 = t.testBit 2 := by
  refine ⟨Nat.or_lt_two_pow h (by decide), ?_, ?_, ?_⟩
  · rw [Nat.testBit_or, show (2 ^ 3 : Nat).testBit 0 = false by decide]; simp
  · rw [Nat.testBit_or, show (2 ^ 3 : Nat).testBit 1 = false by decide]; simp
  · rw [Nat.testBit_or, show (2 ^ 3 : Nat).testBit 2 = false by decide]; simp
theorem to_4 {t : Nat} (h : t < 2 ^ 7) : t ||| 2 ^ 4 < 2 ^ 7 ∧ (t ||| 2 ^ 4).testBit 0 = t.testBit 0 ∧ (t ||| 2 ^ 4).testBit 1 = t.testBit 1 ∧ (t ||| 2 ^ 4).testBit 2 = t.testBit 2 := by
  refine ⟨Nat.or_lt_two_pow h (by decide), ?_, ?_, ?_⟩
  · rw [Nat.testBit_or, show (2 ^ 4 : Nat).testBit 0 = false by decide]; simp
  · rw [Nat.testBit_or, show (2 ^ 4 : Nat).testBit 1 = false by decide]; simp
  · rw [Nat.testBit_or, show (2 ^ 4 : Nat).testBit 2 = false by decide]; simp
theorem to_5 {t : Nat} (h : t < 2 ^ 7) : t ||| 2 ^ 5 ||| 1 < 2 ^ 7 ∧ (t ||| 2 ^ 5 ||| 1).testBit 0 = true ∧ (t ||| 2 ^ 5 ||| 1).testBit 1 = t.testBit 1 ∧ (t ||| 2 ^ 5 ||| 1).testBit 2 = t.testBit 2 := by
  refine ⟨Nat.or_lt_two_pow (Nat.or_lt_two_pow h (by decide)) (by decide), ?_, ?_, ?_⟩
  · rw [Nat.testBit_or, Nat.testBit_or, show (2 ^ 5 : Nat).testBit 0 = false by decide, show (1 : Nat).testBit 0 = true by decide]; simp
  · rw [Nat.testBit_or, Nat.testBit_or, show (2 ^ 5 : Nat).testBit 1 = false by decide, show (1 : Nat).testBit 1 = false by decide]; simp
  · rw [Nat.testBit_or, Nat.testBit_or, show (2 ^ 5 : Nat).testBit 2 = false by decide, show (1 : Nat).testBit 2 = false by decide]; simp
theorem to_6 {t : Nat} (h : t < 2 ^ 7) : t ||| 2 ^ 6 ||| 1 < 2 ^ 7 ∧ (t ||| 2 ^ 6 ||| 1).testBit 0 = true ∧ (t ||| 2 ^ 6 ||| 1).testBit 1 = t.testBit 1 ∧ (t ||| 2 ^ 6 ||| 1).testBit 2 = t.testBit 2 := by
  refine ⟨Nat.or_lt_two_pow (Nat.or_lt_two_pow h (by decide)) (by decide), ?_, ?_, ?_⟩
  · rw [Nat.testBit_or, Nat.testBit_or, show (2 ^ 6 : Nat).testBit 0 = false by decide, show (1 : Nat).testBit 0 = true by decide]; simp
  · rw [Nat.testBit_or, Nat.testBit_or, show (2 ^ 6 : Nat).testBit 1 = false by decide, show (1 : Nat).testBit 1 = false by decide]; simp
  · rw [Nat.testBit_or, Nat.testBit_or, show (2 ^ 6 : Nat).testBit 2 = false by decide, show (1 : Nat).testBit 2 = false by decide]; simp
theorem wM_w (h2 : T.1 = 2) {w : Nat} (hw : wno (tw B T) = some w) : wM B T = some (mno w) := by
  unfold wM
  rw [if_pos h2]
  show (wno (tw B T)).map mno = _
  rw [hw]
  rfl
theorem m_registryPart {F : Fl} {t : Nat} (X : RRm σ B n T A) (hF : sI σ 120 20 = nI t) (hT : TO A F t) (H : TkOk B n T) (h9 : n ≤ 900) (O : OfcOk A) (N : NmOk A) :
   ∃ τ, QPM σ B n (qPart B n A F T) τ ∧ ∀ K, zC (d + 6) 263 [.ref 120] σ K = K (some (.int (bI (okR (qPart B n A F T))))) τ := by
  have h4 := H.k
  have M := X.m
  have t7 : t < 128 := hT.1
  have iw := fun (K : Option Value → MS → Prop) => m_inWords (d := d + 3) (K := K) M X.x H h9
  have f2 := fun (K : Option Value → MS → Prop) => m_fails2 (d := d + 4) (K := K) M X.x H X.z
  have n01 : ¬ nI 0 = nI 1 := by decide
  have i20 : ∀ (σ : MS) v, sI (setI σ 120 20 v) 120 20 = v := fun σ v => by rw [sI_setI, if_pos ⟨rfl, rfl⟩]
  by_cases h2 : T.1 = 2
  · have T1n : T.1 ≠ 1 := by omega
    have f5 := fun (K : Option Value → MS → Prop) => m_failsW (d := d + 4) (K := K) M X.x H X.z T1n 5
    cases hw : wno (tw B T) with
    | none =>
      have qp : qPart B n A F T = .inl (cs T, T.2.1) := by unfold qPart; simp only [if_pos h2, hw]
      have ew : wM B T = none := by
        unfold wM
        rw [if_pos h2]
        show (wno (tw B T)).map mno = _
        rw [hw]; rfl
      rw [qp]
      refine ⟨_, QM.no, fun K => ?_⟩
      have neg : -nI 1 < nI 0 := by decide
      rw [E_263]
      simp (disch := omega) only [L_263_0, zt_263_0, L_263_17, zt_263_17, ↓e_iconst0, ↓e_iconst1, ↓e_bipush0, ↓e_bipush1, ↓e_sipush0, ↓e_sipush1, ↓e_ldc0, ↓e_ldc1, ↓e_ldc_w0, ↓e_ldc_w1, ↓e_ldc2, ↓e_lconst0, ↓e_lconst1, ↓e_ldc2_w0, ↓e_ldc2_w1, ↓e_iload, ↓e_iload_n, ↓e_istore, ↓e_istore_n, ↓e_lload, ↓e_lload_n, ↓e_lstore, ↓e_lstore_n, ↓e_aload, ↓e_aload_n, ↓e_astore, ↓e_astore_n, ↓e_iinc0, ↓e_iinc1, ↓e_iadd, ↓e_isub, ↓e_imul, ↓e_iand, ↓e_ior, ↓e_ixor, ↓e_ishl, ↓e_ishr, ↓e_iushr, ↓e_ladd, ↓e_lsub, ↓e_lmul, ↓e_land, ↓e_lor, ↓e_idiv, ↓e_irem, ↓e_ldiv, ↓e_lrem, ↓e_lshl, ↓e_lcmp, ↓e_i2l, ↓e_l2i, ↓e_i2b, ↓e_i2s, ↓e_dup_int, ↓e_pop_int, ↓e_dup_ref, ↓e_pop_ref, ↓e_dup2, ↓e_goto, ↓e_nop, ↓e_ifCond_eq, ↓e_if_icmp_eq, ↓e_ifCond_ne, ↓e_if_icmp_ne, ↓e_ifCond_lt, ↓e_if_icmp_lt, ↓e_ifCond_ge, ↓e_if_icmp_ge, ↓e_ifCond_gt, ↓e_if_icmp_gt, ↓e_ifCond_le, ↓e_if_icmp_le, ↓e_tab, ↓e_look, ↓e_get0, ↓e_get1, ↓e_get2, ↓e_get3, ↓e_put0, ↓e_put1, ↓e_put2, ↓e_put3, ↓e_iaload, ↓e_laload, ↓e_baload, ↓e_aaload, ↓e_iastore, ↓e_lastore, ↓e_bastore, ↓e_aastore, ↓e_alen, ↓e_new, ↓e_newarray, ↓e_anewarray, ↓e_objinit, ↓e_virt1, ↓e_virt2, ↓e_virt3, ↓e_virt4, ↓e_virt5, ↓e_virt6, ↓e_virt7, ↓e_stat0, ↓e_stat1, ↓e_stat2, ↓e_stat3, ↓e_stat4, ↓e_stat5, ↓e_stat6, ↓e_stat7, ↓e_spec1, ↓e_spec2, ↓e_spec3, ↓e_spec4, ↓e_spec5, ↓e_strlen, ↓e_charAt, ↓e_copy, ↓e_iret0, ↓e_iret1, ↓e_lret, ↓e_aret, ↓e_vret, zIsI_int, zIsL_long, zIsA_ref, zInt_int, true_and, and_true, ↓reduceIte, zGet, zSet, zSet2, zEnt, zWid, Value.category, List.map_cons, List.map_nil, List.sum_cons, List.sum_nil, List.replicate, Option.toList, Nat.reduceAdd, Nat.reduceSub, Nat.reduceMul, Nat.reduceLeDiff, Nat.reduceEqDiff, Nat.reduceLT, List.cons_append, List.nil_append, true_or, or_true, or_false, false_or, nI_ltI, nI_leI, nI_eq, nI_clamp, zIn_nI, bI_0, nI_add, nI_mul, nI_or, nI_and, nI_shl1, nI_bit, ↓pk_rem, pk_div, Nat.lt_irrefl, Nat.not_lt_zero, reduceCtorEq, M.k, M.r0, M.r1, M.r5, M.r6, M.r7, M.r8, M.r9, M.r21, M.r24, M.r25, M.r28, M.r29, M.r30, M.r31, M.r35, M.r36, M.r37, M.r38, M.r40, M.r43, M.r44, M.r45, M.k121, M.k122, M.k123, M.k124, M.k125, M.k126, M.k127, M.k128, M.k129, M.k130, M.k131, M.k132, M.k133, M.k134, M.k135, M.k136, M.k137, M.k138, M.k139, M.k140, M.k141, M.k142, ↓iw, ew, show oI none = -nI 1 from rfl, neg, ↓f2]
      rfl
    | some w =>
      have hk := wno_lt hw
      have ew := wM_w h2 hw
      have hk2 : w = 0 ∨ w = 2 ∨ w = 3 ∨ w = 4 ∨ w = 6 ∨ w = 7 ∨ w = 9 ∨ ((w = 1 ∨ w = 5 ∨ w = 8 ∨ w = 10 ∨ w = 11 ∨ w = 12 ∨ w = 13) ∨ w = 14 ∨ w = 15 ∨ w = 16 ∨ w = 17 ∨ w = 18 ∨ w = 19 ∨ w = 20 ∨ w = 21) := by omega
      rcases hk2 with rfl | rfl | rfl | rfl | rfl | rfl | rfl | hk2
      · have ew : wM B T = some 0 := ew
        have ok : oI (some 0) = nI 0 := rfl
        obtain ⟨o1, o2, o3, o4⟩ := to_0 hT.1
        cases hb : t.testBit 0 with
        | true =>
          have qp : qPart B n A F T = .inl (5, T.2.1) := by
            unfold qPart
            have h := hT.2.1
            rw [hb] at h
            have h : F.1 = true ∨ 0 < A.nc ∨ A.lying ≠ 0 := by
              have h := h.symm
              rw [Bool.or_eq_true, busy_is] at h
              exact h
            simp only [if_pos h2, hw, if_pos h]
          rw [qp]
          refine ⟨_, QM.no, fun K => ?_⟩
          rw [E_263]
          simp (disch := omega) only [L_263_0, zt_263_0, L_263_23, zt_263_23, ↓e_iconst0, ↓e_iconst1, ↓e_bipush0, ↓e_bipush1, ↓e_sipush0, ↓e_sipush1, ↓e_ldc0, ↓e_ldc1, ↓e_ldc_w0, ↓e_ldc_w1, ↓e_ldc2, ↓e_lconst0, ↓e_lconst1, ↓e_ldc2_w0, ↓e_ldc2_w1, ↓e_iload, ↓e_iload_n, ↓e_istore, ↓e_istore_n, ↓e_lload, ↓e_lload_n, ↓e_lstore, ↓e_lstore_n, ↓e_aload, ↓e_aload_n, ↓e_astore, ↓e_astore_n, ↓e_iinc0, ↓e_iinc1, ↓e_iadd, ↓e_isub, ↓e_imul, ↓e_iand, ↓e_ior, ↓e_ixor, ↓e_ishl, ↓e_ishr, ↓e_iushr, ↓e_ladd, ↓e_lsub, ↓e_lmul, ↓e_land, ↓e_lor, ↓e_idiv, ↓e_irem, ↓e_ldiv, ↓e_lrem, ↓e_lshl, ↓e_lcmp, ↓e_i2l, ↓e_l2i, ↓e_i2b, ↓e_i2s, ↓e_dup_int, ↓e_pop_int, ↓e_dup_ref, ↓e_pop_ref, ↓e_dup2, ↓e_goto, ↓e_nop, ↓e_ifCond_eq, ↓e_if_icmp_eq, ↓e_ifCond_ne, ↓e_if_icmp_ne, ↓e_ifCond_lt, ↓e_if_icmp_lt, ↓e_ifCond_ge, ↓e_if_icmp_ge, ↓e_ifCond_gt, ↓e_if_icmp_gt, ↓e_ifCond_le, ↓e_if_icmp_le, ↓e_tab, ↓e_look, ↓e_get0, ↓e_get1, ↓e_get2, ↓e_get3, ↓e_put0, ↓e_put1, ↓e_put2, ↓e_put3, ↓e_iaload, ↓e_laload, ↓e_baload, ↓e_aaload, ↓e_iastore, ↓e_lastore, ↓e_bastore, ↓e_aastore, ↓e_alen, ↓e_new, ↓e_newarray, ↓e_anewarray, ↓e_objinit, ↓e_virt1, ↓e_virt2, ↓e_virt3, ↓e_virt4, ↓e_virt5, ↓e_virt6, ↓e_virt7, ↓e_stat0, ↓e_stat1, ↓e_stat2, ↓e_stat3, ↓e_stat4, ↓e_stat5, ↓e_stat6, ↓e_stat7, ↓e_spec1, ↓e_spec2, ↓e_spec3, ↓e_spec4, ↓e_spec5, ↓e_strlen, ↓e_charAt, ↓e_copy, ↓e_iret0, ↓e_iret1, ↓e_lret, ↓e_aret, ↓e_vret, zIsI_int, zIsL_long, zIsA_ref, zInt_int, true_and, and_true, ↓reduceIte, zGet, zSet, zSet2, zEnt, zWid, Value.category, List.map_cons, List.map_nil, List.sum_cons, List.sum_nil, List.replicate, Option.toList, Nat.reduceAdd, Nat.reduceSub, Nat.reduceMul, Nat.reduceLeDiff, Nat.reduceEqDiff, Nat.reduceLT, List.cons_append, List.nil_append, true_or, or_true, or_false, false_or, nI_ltI, nI_leI, nI_eq, nI_clamp, zIn_nI, bI_0, nI_add, nI_mul, nI_or, nI_and, nI_shl1, nI_bit, ↓pk_rem, pk_div, Nat.lt_irrefl, Nat.not_lt_zero, reduceCtorEq, M.k, M.r0, M.r1, M.r5, M.r6, M.r7, M.r8, M.r9, M.r21, M.r24, M.r25, M.r28, M.r29, M.r30, M.r31, M.r35, M.r36, M.r37, M.r38, M.r40, M.r43, M.r44, M.r45, M.k121, M.k122, M.k123, M.k124, M.k125, M.k126, M.k127, M.k128, M.k129, M.k130, M.k131, M.k132, M.k133, M.k134, M.k135, M.k136, M.k137, M.k138, M.k139, M.k140, M.k141, M.k142, ↓iw, ew, ok, hF, n01, show bI true = nI 1 from rfl, show bI false = nI 0 from rfl, sK_setI, sR_setI, sL_setI, i20, hb, ↓f5]
          rfl
        | false =>
          have hy : ¬ (F.1 = true ∨ 0 < A.nc ∨ A.lying ≠ 0) := fun h => by
            have h3 := hT.2.1
            rw [hb] at h3
            have h3 := h3.symm
            rw [← busy_is, ← Bool.or_eq_true, h3] at h
            cases h
          have qp : qPart B n A F T = toE B n (qFloor B n A T) (true, F.2) := by unfold qPart; simp only [if_pos h2, hw, if_neg hy]
          have X0 := X.s20 (nI (t ||| 2 ^ 0))
          obtain ⟨τ1, f1, Y1, e1⟩ := m_adv (d := d + 3) X0.m X0.x H h9
          have X1 := X0.tm f1 Y1
          have H1 := nx_ok H
          have M1 := X1.m
          have z1 : sI τ1 120 20 = nI (t ||| 2 ^ 0) := (f1.2.1 20 (by omega)).trans (i20 _ _)
          have g1 : FMt σ τ1 := (FMt.s20 _).tr (FM.tm f1).t
          rw [qp]
          unfold qFloor
          obtain ⟨τ2, P1, e2⟩ := m_aFloor (d := d + 1) X1 H1 h9 O
          have hc : A.nc = 0 := by omega
          have hl : A.lying = 0 := by
            by_cases e : A.lying = 0
            · exact e
            · exact absurd (.inr (.inr e)) hy
          have ok2 := qFloor_ok ⟨O, N, H⟩ hc hl
          unfold qFloor at ok2
          have bz : ∀ y : Ofc × Tk, (kN B n 1 5 (nx B n T) fun w T => kW B n 1 T fun T => kN B n 1 4 T fun h T => .inr (A.flr w h, T)) = .inr y → TO y.1 (true, F.2) (t ||| 2 ^ 0) := fun y h => by
            obtain ⟨v, T1, h⟩ := kN_r h
            obtain ⟨T2, h⟩ := kW_r h
            obtain ⟨v, T3, h⟩ := kN_r h
            cases h
            exact ⟨o1, by rw [o2]; rfl, o3.trans hT.2.2.1, o4.trans hT.2.2.2⟩
          generalize (kN B n 1 5 (nx B n T) fun w T => kW B n 1 T fun T => kN B n 1 4 T fun h T => (.inr (A.flr w h, T) : Er ⊕ (Ofc × Tk))) = x at *
          obtain ⟨ρ, P2, e3⟩ := m_end (d := d) (F := (true, F.2)) P1 M1 (fun y h => by rw [h] at ok2; exact ok2.1.2.2) h9 z1 bz
          refine ⟨ρ, QM.tr g1 P2, fun K => ?_⟩
          rw [← e3 K (.int (nI 0)), E_263]
          simp (disch := omega) only [L_263_0, zt_263_0, L_263_23, zt_263_23, L_263_46, zt_263_46, L_263_73, zt_263_73, L_263_82, zt_263_82, L_263_120, zt_263_120, show zTab 83 (97) (0) (5) #[37, 45, 59, 73, 81, 89] (nI 0) = 120 from by decide, ↓e_iconst0, ↓e_iconst1, ↓e_bipush0, ↓e_bipush1, ↓e_sipush0, ↓e_sipush1, ↓e_ldc0, ↓e_ldc1, ↓e_ldc_w0, ↓e_ldc_w1, ↓e_ldc2, ↓e_lconst0, ↓e_lconst1, ↓e_ldc2_w0, ↓e_ldc2_w1, ↓e_iload, ↓e_iload_n, ↓e_istore, ↓e_istore_n, ↓e_lload, ↓e_lload_n, ↓e_lstore, ↓e_lstore_n, ↓e_aload, ↓e_aload_n, ↓e_astore, ↓e_astore_n, ↓e_iinc0, ↓e_iinc1, ↓e_iadd, ↓e_isub, ↓e_imul, ↓e_iand, ↓e_ior, ↓e_ixor, ↓e_ishl, ↓e_ishr, ↓e_iushr, ↓e_ladd, ↓e_lsub, ↓e_lmul, ↓e_land, ↓e_lor, ↓e_idiv, ↓e_irem, ↓e_ldiv, ↓e_lrem, ↓e_lshl, ↓e_lcmp, ↓e_i2l, ↓e_l2i, ↓e_i2b, ↓e_i2s, ↓e_dup_int, ↓e_pop_int, ↓e_dup_ref, ↓e_pop_ref, ↓e_dup2, ↓e_goto, ↓e_nop, ↓e_ifCond_eq, ↓e_if_icmp_eq, ↓e_ifCond_ne, ↓e_if_icmp_ne, ↓e_ifCond_lt, ↓e_if_icmp_lt, ↓e_ifCond_ge, ↓e_if_icmp_ge, ↓e_ifCond_gt, ↓e_if_icmp_gt, ↓e_ifCond_le, ↓e_if_icmp_le, ↓e_tab, ↓e_look, ↓e_get0, ↓e_get1, ↓e_get2, ↓e_get3, ↓e_put0, ↓e_put1, ↓e_put2, ↓e_put3, ↓e_iaload, ↓e_laload, ↓e_baload, ↓e_aaload, ↓e_iastore, ↓e_lastore, ↓e_bastore, ↓e_aastore, ↓e_alen, ↓e_new, ↓e_newarray, ↓e_anewarray, ↓e_objinit, ↓e_virt1, ↓e_virt2, ↓e_virt3, ↓e_virt4, ↓e_virt5, ↓e_virt6, ↓e_virt7, ↓e_stat0, ↓e_stat1, ↓e_stat2, ↓e_stat3, ↓e_stat4, ↓e_stat5, ↓e_stat6, ↓e_stat7, ↓e_spec1, ↓e_spec2, ↓e_spec3, ↓e_spec4, ↓e_spec5, ↓e_strlen, ↓e_charAt, ↓e_copy, ↓e_iret0, ↓e_iret1, ↓e_lret, ↓e_aret, ↓e_vret, zIsI_int, zIsL_long, zIsA_ref, zInt_int, true_and, and_true, ↓reduceIte, zGet, zSet, zSet2, zEnt, zWid, Value.category, List.map_cons, List.map_nil, List.sum_cons, List.sum_nil, List.replicate, Option.toList, Nat.reduceAdd, Nat.reduceSub, Nat.reduceMul, Nat.reduceLeDiff, Nat.reduceEqDiff, Nat.reduceLT, List.cons_append, List.nil_append, true_or, or_true, or_false, false_or, nI_ltI, nI_leI, nI_eq, nI_clamp, zIn_nI, bI_0, nI_add, nI_mul, nI_or, nI_and, nI_shl1, nI_bit, ↓pk_rem, pk_div, Nat.lt_irrefl, Nat.not_lt_zero, reduceCtorEq, M.k, M.r0, M.r1, M.r5, M.r6, M.r7, M.r8, M.r9, M.r21, M.r24, M.r25, M.r28, M.r29, M.r30, M.r31, M.r35, M.r36, M.r37, M.r38, M.r40, M.r43, M.r44, M.r45, M.k121, M.k122, M.k123, M.k124, M.k125, M.k126, M.k127, M.k128, M.k129, M.k130, M.k131, M.k132, M.k133, M.k134, M.k135, M.k136, M.k137, M.k138, M.k139, M.k140, M.k141, M.k142, ↓iw, ew, ok, hF, n01, show bI true = nI 1 from rfl, show bI false = nI 0 from rfl, sK_setI, sR_setI, sL_setI, i20, hb, X0.m.k, ↓e1, M1.k, ↓e2]
      · have ew : wM B T = some 1 := ew
        have ok : oI (some 1) = nI 1 := rfl
        obtain ⟨o1, o2, o3, o4⟩ := to_1 hT.1
        cases hb : t.testBit 1 with
        | true =>
          have qp : qPart B n A F T = .inl (5, T.2.1) := by
            unfold qPart
            have h : F.2.1 = true := by rw [← hT.2.2.1, hb]
            simp only [if_pos h2, hw, h, if_true]
          rw [qp]
          refine ⟨_, QM.no, fun K => ?_⟩
          rw [E_263]
          simp (disch := omega) only [L_263_0, zt_263_0, L_263_23, zt_263_23, ↓e_iconst0, ↓e_iconst1, ↓e_bipush0, ↓e_bipush1, ↓e_sipush0, ↓e_sipush1, ↓e_ldc0, ↓e_ldc1, ↓e_ldc_w0, ↓e_ldc_w1, ↓e_ldc2, ↓e_lconst0, ↓e_lconst1, ↓e_ldc2_w0, ↓e_ldc2_w1, ↓e_iload, ↓e_iload_n, ↓e_istore, ↓e_istore_n, ↓e_lload, ↓e_lload_n, ↓e_lstore, ↓e_lstore_n, ↓e_aload, ↓e_aload_n, ↓e_astore, ↓e_astore_n, ↓e_iinc0, ↓e_iinc1, ↓e_iadd, ↓e_isub, ↓e_imul, ↓e_iand, ↓e_ior, ↓e_ixor, ↓e_ishl, ↓e_ishr, ↓e_iushr, ↓e_ladd, ↓e_lsub, ↓e_lmul, ↓e_land, ↓e_lor, ↓e_idiv, ↓e_irem, ↓e_ldiv, ↓e_lrem, ↓e_lshl, ↓e_lcmp, ↓e_i2l, ↓e_l2i, ↓e_i2b, ↓e_i2s, ↓e_dup_int, ↓e_pop_int, ↓e_dup_ref, ↓e_pop_ref, ↓e_dup2, ↓e_goto, ↓e_nop, ↓e_ifCond_eq, ↓e_if_icmp_eq, ↓e_ifCond_ne, ↓e_if_icmp_ne, ↓e_ifCond_lt, ↓e_if_icmp_lt, ↓e_ifCond_ge, ↓e_if_icmp_ge, ↓e_ifCond_gt, ↓e_if_icmp_gt, ↓e_ifCond_le, ↓e_if_icmp_le, ↓e_tab, ↓e_look, ↓e_get0, ↓e_get1, ↓e_get2, ↓e_get3, ↓e_put0, ↓e_put1, ↓e_put2, ↓e_put3, ↓e_iaload, ↓e_laload, ↓e_baload, ↓e_aaload, ↓e_iastore, ↓e_lastore, ↓e_bastore, ↓e_aastore, ↓e_alen, ↓e_new, ↓e_newarray, ↓e_anewarray, ↓e_objinit, ↓e_virt1, ↓e_virt2, ↓e_virt3, ↓e_virt4, ↓e_virt5, ↓e_virt6, ↓e_virt7, ↓e_stat0, ↓e_stat1, ↓e_stat2, ↓e_stat3, ↓e_stat4, ↓e_stat5, ↓e_stat6, ↓e_stat7, ↓e_spec1, ↓e_spec2, ↓e_spec3, ↓e_spec4, ↓e_spec5, ↓e_strlen, ↓e_charAt, ↓e_copy, ↓e_iret0, ↓e_iret1, ↓e_lret, ↓e_aret, ↓e_vret, zIsI_int, zIsL_long, zIsA_ref, zInt_int, true_and, and_true, ↓reduceIte, zGet, zSet, zSet2, zEnt, zWid, Value.category, List.map_cons, List.map_nil, List.sum_cons, List.sum_nil, List.replicate, Option.toList, Nat.reduceAdd, Nat.reduceSub, Nat.reduceMul, Nat.reduceLeDiff, Nat.reduceEqDiff, Nat.reduceLT, List.cons_append, List.nil_append, true_or, or_true, or_false, false_or, nI_ltI, nI_leI, nI_eq, nI_clamp, zIn_nI, bI_0, nI_add, nI_mul, nI_or, nI_and, nI_shl1, nI_bit, ↓pk_rem, pk_div, Nat.lt_irrefl, Nat.not_lt_zero, reduceCtorEq, M.k, M.r0, M.r1, M.r5, M.r6, M.r7, M.r8, M.r9, M.r21, M.r24, M.r25, M.r28, M.r29, M.r30, M.r31, M.r35, M.r36, M.r37, M.r38, M.r40, M.r43, M.r44, M.r45, M.k121, M.k122, M.k123, M.k124, M.k125, M.k126, M.k127, M.k128, M.k129, M.k130, M.k131, M.k132, M.k133, M.k134, M.k135, M.k136, M.k137, M.k138, M.k139, M.k140, M.k141, M.k142, ↓iw, ew, ok, hF, n01, show bI true = nI 1 from rfl, show bI false = nI 0 from rfl, sK_setI, sR_setI, sL_setI, i20, hb, ↓f5]
          rfl
        | false =>
          have hy : F.2.1 = false := by rw [← hT.2.2.1, hb]
          have qp : qPart B n A F T = toE B n (qNear B n A T) (F.1, true, F.2.2) := by unfold qPart; simp only [if_pos h2, hw, hy, Bool.false_eq_true, if_false]
          have X0 := X.s20 (nI (t ||| 2 ^ 1))
          obtain ⟨τ1, f1, Y1, e1⟩ := m_adv (d := d + 3) X0.m X0.x H h9
          have X1 := X0.tm f1 Y1
          have H1 := nx_ok H
          have M1 := X1.m
          have z1 : sI τ1 120 20 = nI (t ||| 2 ^ 1) := (f1.2.1 20 (by omega)).trans (i20 _ _)
          have g1 : FMt σ τ1 := (FMt.s20 _).tr (FM.tm f1).t
          rw [qp]
          have nm : ∃ τ2, MPost τ1 B n (qNear B n A T) τ2 ∧ ∀ K, zC (d + 5) 248 [.ref 120, .int (nI 1621), .int (nI 1), .int (nI 99)] τ1 K = K (some (.int (bI (okR (qNear B n A T))))) τ2 := by
            unfold qNear kN
            dsimp only
            by_cases h3 : (nx B n T).1 = 3
            · rw [if_pos h3]
              cases hi : inN B (nx B n T) 1 99 with
              | false =>
                rw [if_neg Bool.false_ne_true]
                have nb := fun (K : Option Value → MS → Prop) => m_numberNo (d := d + 2) (K := K) (to := nI 1621) M1 X1.x H1 X1.z (lo := 1) (hi := 99) (by decide) (by decide) (fun _ => hi)
                rw [if_pos h3] at nb
                exact ⟨_, MP.no FM.rf, nb⟩
              | true =>
                rw [if_pos rfl]
                obtain ⟨τ2, f2, Y2, e2⟩ := m_number (d := d + 2) M1 X1.x H1 h9 (lo := 1) (hi := 99) (to := 1621) (by decide) (by decide) (by decide) h3 hi
                exact ⟨τ2, MP.yes ((FM.sI (by omega)).tr (FM.tm f2)) ((X1.setNr O (tv B (nx B n T))).tm f2 Y2), e2⟩
            · rw [if_neg h3]
              have nb := fun (K : Option Value → MS → Prop) => m_numberNo (d := d + 2) (K := K) (to := nI 1621) M1 X1.x H1 X1.z (lo := 1) (hi := 99) (by decide) (by decide) (fun h => absurd h h3)
              rw [if_neg h3] at nb
              exact ⟨_, MP.no FM.rf, nb⟩
          obtain ⟨τ2, P1, e2⟩ := nm
          have ok2 := qNear_ok ⟨O, N, H⟩
          have bz : ∀ y : Ofc × Tk, qNear B n A T = .inr y → TO y.1 (F.1, true, F.2.2) (t ||| 2 ^ 1) := fun y h => by
            obtain ⟨v, T1, h⟩ := kN_r h
            cases h
            exact ⟨o1, o2.trans hT.2.1, o3, o4.trans hT.2.2.2⟩
          generalize qNear B n A T = x at *
          obtain ⟨ρ, P2, e3⟩ := m_end (d := d) (F := (F.1, true, F.2.2)) P1 M1 (fun y h => by rw [h] at ok2; exact ok2.1.2.2) h9 z1 bz
          refine ⟨ρ, QM.tr g1 P2, fun K => ?_⟩
          rw [← e3 K (.int (nI 1)), E_263]
          simp (disch := omega) only [L_263_0, zt_263_0, L_263_23, zt_263_23, L_263_46, zt_263_46, L_263_73, zt_263_73, L_263_82, zt_263_82, L_263_128, zt_263_128, show zTab 83 (97) (0) (5) #[37, 45, 59, 73, 81, 89] (nI 1) = 128 from by decide, ↓e_iconst0, ↓e_iconst1, ↓e_bipush0, ↓e_bipush1, ↓e_sipush0, ↓e_sipush1, ↓e_ldc0, ↓e_ldc1, ↓e_ldc_w0, ↓e_ldc_w1, ↓e_ldc2, ↓e_lconst0, ↓e_lconst1, ↓e_ldc2_w0, ↓e_ldc2_w1, ↓e_iload, ↓e_iload_n, ↓e_istore, ↓e_istore_n, ↓e_lload, ↓e_lload_n, ↓e_lstore, ↓e_lstore_n, ↓e_aload, ↓e_aload_n, ↓e_astore, ↓e_astore_n, ↓e_iinc0, ↓e_iinc1, ↓e_iadd, ↓e_isub, ↓e_imul, ↓e_iand, ↓e_ior, ↓e_ixor, ↓e_ishl, ↓e_ishr, ↓e_iushr, ↓e_ladd, ↓e_lsub, ↓e_lmul, ↓e_land, ↓e_lor, ↓e_idiv, ↓e_irem, ↓e_ldiv, ↓e_lrem, ↓e_lshl, ↓e_lcmp, ↓e_i2l, ↓e_l2i, ↓e_i2b, ↓e_i2s, ↓e_dup_int, ↓e_pop_int, ↓e_dup_ref, ↓e_pop_ref, ↓e_dup2, ↓e_goto, ↓e_nop, ↓e_ifCond_eq, ↓e_if_icmp_eq, ↓e_ifCond_ne, ↓e_if_icmp_ne, ↓e_ifCond_lt, ↓e_if_icmp_lt, ↓e_ifCond_ge, ↓e_if_icmp_ge, ↓e_ifCond_gt, ↓e_if_icmp_gt, ↓e_ifCond_le, ↓e_if_icmp_le, ↓e_tab, ↓e_look, ↓e_get0, ↓e_get1, ↓e_get2, ↓e_get3, ↓e_put0, ↓e_put1, ↓e_put2, ↓e_put3, ↓e_iaload, ↓e_laload, ↓e_baload, ↓e_aaload, ↓e_iastore, ↓e_lastore, ↓e_bastore, ↓e_aastore, ↓e_alen, ↓e_new, ↓e_newarray, ↓e_anewarray, ↓e_objinit, ↓e_virt1, ↓e_virt2, ↓e_virt3, ↓e_virt4, ↓e_virt5, ↓e_virt6, ↓e_virt7, ↓e_stat0, ↓e_stat1, ↓e_stat2, ↓e_stat3, ↓e_stat4, ↓e_stat5, ↓e_stat6, ↓e_stat7, ↓e_spec1, ↓e_spec2, ↓e_spec3, ↓e_spec4, ↓e_spec5, ↓e_strlen, ↓e_charAt, ↓e_copy, ↓e_iret0, ↓e_iret1, ↓e_lret, ↓e_aret, ↓e_vret, zIsI_int, zIsL_long, zIsA_ref, zInt_int, true_and, and_true, ↓reduceIte, zGet, zSet, zSet2, zEnt, zWid, Value.category, List.map_cons, List.map_nil, List.sum_cons, List.sum_nil, List.replicate, Option.toList, Nat.reduceAdd, Nat.reduceSub, Nat.reduceMul, Nat.reduceLeDiff, Nat.reduceEqDiff, Nat.reduceLT, List.cons_append, List.nil_append, true_or, or_true, or_false, false_or, nI_ltI, nI_leI, nI_eq, nI_clamp, zIn_nI, bI_0, nI_add, nI_mul, nI_or, nI_and, nI_shl1, nI_bit, ↓pk_rem, pk_div, Nat.lt_irrefl, Nat.not_lt_zero, reduceCtorEq, M.k, M.r0, M.r1, M.r5, M.r6, M.r7, M.r8, M.r9, M.r21, M.r24, M.r25, M.r28, M.r29, M.r30, M.r31, M.r35, M.r36, M.r37, M.r38, M.r40, M.r43, M.r44, M.r45, M.k121, M.k122, M.k123, M.k124, M.k125, M.k126, M.k127, M.k128, M.k129, M.k130, M.k131, M.k132, M.k133, M.k134, M.k135, M.k136, M.k137, M.k138, M.k139, M.k140, M.k141, M.k142, ↓iw, ew, ok, hF, n01, show bI true = nI 1 from rfl, show bI false = nI 0 from rfl, sK_setI, sR_setI, sL_setI, i20, hb, X0.m.k, ↓e1, M1.k, ↓e2]
      · have ew : wM B T = some 2 := ew
        have ok : oI (some 2) = nI 2 := rfl
        obtain ⟨o1, o2, o3, o4⟩ := to_2 hT.1
        cases hb : t.testBit 2 with
        | true =>
          have qp : qPart B n A F T = .inl (5, T.2.1) := by
            unfold qPart
            have h : F.2.2 = true := by rw [← hT.2.2.2, hb]
            simp only [if_pos h2, hw, h, if_true]
          rw [qp]
          refine ⟨_, QM.no, fun K => ?_⟩
          rw [E_263]
          simp (disch := omega) only [L_263_0, zt_263_0, L_263_23, zt_263_23, ↓e_iconst0, ↓e_iconst1, ↓e_bipush0, ↓e_bipush1, ↓e_sipush0, ↓e_sipush1, ↓e_ldc0, ↓e_ldc1, ↓e_ldc_w0, ↓e_ldc_w1, ↓e_ldc2, ↓e_lconst0, ↓e_lconst1, ↓e_ldc2_w0, ↓e_ldc2_w1, ↓e_iload, ↓e_iload_n, ↓e_istore, ↓e_istore_n, ↓e_lload, ↓e_lload_n, ↓e_lstore, ↓e_lstore_n, ↓e_aload, ↓e_aload_n, ↓e_astore, ↓e_astore_n, ↓e_iinc0, ↓e_iinc1, ↓e_iadd, ↓e_isub, ↓e_imul, ↓e_iand, ↓e_ior, ↓e_ixor, ↓e_ishl, ↓e_ishr, ↓e_iushr, ↓e_ladd, ↓e_lsub, ↓e_lmul, ↓e_land, ↓e_lor, ↓e_idiv, ↓e_irem, ↓e_ldiv, ↓e_lrem, ↓e_lshl, ↓e_lcmp, ↓e_i2l, ↓e_l2i, ↓e_i2b, ↓e_i2s, ↓e_dup_int, ↓e_pop_int, ↓e_dup_ref, ↓e_pop_ref, ↓e_dup2, ↓e_goto, ↓e_nop, ↓e_ifCond_eq, ↓e_if_icmp_eq, ↓e_ifCond_ne, ↓e_if_icmp_ne, ↓e_ifCond_lt, ↓e_if_icmp_lt, ↓e_ifCond_ge, ↓e_if_icmp_ge, ↓e_ifCond_gt, ↓e_if_icmp_gt, ↓e_ifCond_le, ↓e_if_icmp_le, ↓e_tab, ↓e_look, ↓e_get0, ↓e_get1, ↓e_get2, ↓e_get3, ↓e_put0, ↓e_put1, ↓e_put2, ↓e_put3, ↓e_iaload, ↓e_laload, ↓e_baload, ↓e_aaload, ↓e_iastore, ↓e_lastore, ↓e_bastore, ↓e_aastore, ↓e_alen, ↓e_new, ↓e_newarray, ↓e_anewarray, ↓e_objinit, ↓e_virt1, ↓e_virt2, ↓e_virt3, ↓e_virt4, ↓e_virt5, ↓e_virt6, ↓e_virt7, ↓e_stat0, ↓e_stat1, ↓e_stat2, ↓e_stat3, ↓e_stat4, ↓e_stat5, ↓e_stat6, ↓e_stat7, ↓e_spec1, ↓e_spec2, ↓e_spec3, ↓e_spec4, ↓e_spec5, ↓e_strlen, ↓e_charAt, ↓e_copy, ↓e_iret0, ↓e_iret1, ↓e_lret, ↓e_aret, ↓e_vret, zIsI_int, zIsL_long, zIsA_ref, zInt_int, true_and, and_true, ↓reduceIte, zGet, zSet, zSet2, zEnt, zWid, Value.category, List.map_cons, List.map_nil, List.sum_cons, List.sum_nil, List.replicate, Option.toList, Nat.reduceAdd, Nat.reduceSub, Nat.reduceMul, Nat.reduceLeDiff, Nat.reduceEqDiff, Nat.reduceLT, List.cons_append, List.nil_append, true_or, or_true, or_false, false_or, nI_ltI, nI_leI, nI_eq, nI_clamp, zIn_nI, bI_0, nI_add, nI_mul, nI_or, nI_and, nI_shl1, nI_bit, ↓pk_rem, pk_div, Nat.lt_irrefl, Nat.not_lt_zero, reduceCtorEq, M.k, M.r0, M.r1, M.r5, M.r6, M.r7, M.r8, M.r9, M.r21, M.r24, M.r25, M.r28, M.r29, M.r30, M.r31, M.r35, M.r36, M.r37, M.r38, M.r40, M.r43, M.r44, M.r45, M.k121, M.k122, M.k123, M.k124, M.k125, M.k126, M.k127, M.k128, M.k129, M.k130, M.k131, M.k132, M.k133, M.k134, M.k135, M.k136, M.k137, M.k138, M.k139, M.k140, M.k141, M.k142, ↓iw, ew, ok, hF, n01, show bI true = nI 1 from rfl, show bI false = nI 0 from rfl, sK_setI, sR_setI, sL_setI, i20, hb, ↓f5]
          rfl
        | false =>
          have hy : F.2.2 = false := by rw [← hT.2.2.2, hb]
          have qp : qPart B n A F T = toE B n (qOdds B n A T) (F.1, F.2.1, true) := by unfold qPart; simp only [if_pos h2, hw, hy, Bool.false_eq_true, if_false]
          have X0 := X.s20 (nI (t ||| 2 ^ 2))
          obtain ⟨τ1, f1, Y1, e1⟩ := m_adv (d := d + 3) X0.m X0.x H h9
          have X1 := X0.tm f1 Y1
          have H1 := nx_ok H
          have M1 := X1.m
          have z1 : sI τ1 120 20 = nI (t ||| 2 ^ 2) := (f1.2.1 20 (by omega)).trans (i20 _ _)
          have g1 : FMt σ τ1 := (FMt.s20 _).tr (FM.tm f1).t
          rw [qp]
          have nm : ∃ τ2, MPost τ1 B n (qOdds B n A T) τ2 ∧ ∀ K, zC (d + 5) 248 [.ref 120, .int (nI 1622), .int (nI 0), .int (nI 16)] τ1 K = K (some (.int (bI (okR (qOdds B n A T))))) τ2 := by
            unfold qOdds kN
            dsimp only
            by_cases h3 : (nx B n T).1 = 3
            · rw [if_pos h3]
              cases hi : inN B (nx B n T) 0 16 with
              | false =>
                rw [if_neg Bool.false_ne_true]
                have nb := fun (K : Option Value → MS → Prop) => m_numberNo (d := d + 2) (K := K) (to := nI 1622) M1 X1.x H1 X1.z (lo := 0) (hi := 16) (by decide) (by decide) (fun _ => hi)
                rw [if_pos h3] at nb
                exact ⟨_, MP.no FM.rf, nb⟩
              | true =>
                rw [if_pos rfl]
                obtain ⟨τ2, f2, Y2, e2⟩ := m_number (d := d + 2) M1 X1.x H1 h9 (lo := 0) (hi := 16) (to := 1622) (by decide) (by decide) (by decide) h3 hi
                exact ⟨τ2, MP.yes ((FM.sI (by omega)).tr (FM.tm f2)) ((X1.setOd O (tv B (nx B n T))).tm f2 Y2), e2⟩
            · rw [if_neg h3]
              have nb := fun (K : Option Value → MS → Prop) => m_numberNo (d := d + 2) (K := K) (to := nI 1622) M1 X1.x H1 X1.z (lo := 0) (hi := 16) (by decide) (by decide) (fun h => absurd h h3)
              rw [if_neg h3] at nb
              exact ⟨_, MP.no FM.rf, nb⟩
          obtain ⟨τ2, P1, e2⟩ := nm
          have ok2 := qOdds_ok ⟨O, N, H⟩
          have bz : ∀ y : Ofc × Tk, qOdds B n A T = .inr y → TO y.1 (F.1, F.2.1, true) (t ||| 2 ^ 2) := fun y h => by
            obtain ⟨v, T1, h⟩ := kN_r h
            cases h
            exact ⟨o1, o2.trans hT.2.1, o3.trans hT.2.2.1, o4⟩
          generalize qOdds B n A T = x at *
          obtain ⟨ρ, P2, e3⟩ := m_end (d := d) (F := (F.1, F.2.1, true)) P1 M1 (fun y h => by rw [h] at ok2; exact ok2.1.2.2) h9 z1 bz
          refine ⟨ρ, QM.tr g1 P2, fun K => ?_⟩
          rw [← e3 K (.int (nI 2)), E_263]
          simp (disch := omega) only [L_263_0, zt_263_0, L_263_23, zt_263_23, L_263_46, zt_263_46, L_263_73, zt_263_73, L_263_82, zt_263_82, L_263_142, zt_263_142, show zTab 83 (97) (0) (5) #[37, 45, 59, 73, 81, 89] (nI 2) = 142 from by decide, ↓e_iconst0, ↓e_iconst1, ↓e_bipush0, ↓e_bipush1, ↓e_sipush0, ↓e_sipush1, ↓e_ldc0, ↓e_ldc1, ↓e_ldc_w0, ↓e_ldc_w1, ↓e_ldc2, ↓e_lconst0, ↓e_lconst1, ↓e_ldc2_w0, ↓e_ldc2_w1, ↓e_iload, ↓e_iload_n, ↓e_istore, ↓e_istore_n, ↓e_lload, ↓e_lload_n, ↓e_lstore, ↓e_lstore_n, ↓e_aload, ↓e_aload_n, ↓e_astore, ↓e_astore_n, ↓e_iinc0, ↓e_iinc1, ↓e_iadd, ↓e_isub, ↓e_imul, ↓e_iand, ↓e_ior, ↓e_ixor, ↓e_ishl, ↓e_ishr, ↓e_iushr, ↓e_ladd, ↓e_lsub, ↓e_lmul, ↓e_land, ↓e_lor, ↓e_idiv, ↓e_irem, ↓e_ldiv, ↓e_lrem, ↓e_lshl, ↓e_lcmp, ↓e_i2l, ↓e_l2i, ↓e_i2b, ↓e_i2s, ↓e_dup_int, ↓e_pop_int, ↓e_dup_ref, ↓e_pop_ref, ↓e_dup2, ↓e_goto, ↓e_nop, ↓e_ifCond_eq, ↓e_if_icmp_eq, ↓e_ifCond_ne, ↓e_if_icmp_ne, ↓e_ifCond_lt, ↓e_if_icmp_lt, ↓e_ifCond_ge, ↓e_if_icmp_ge, ↓e_ifCond_gt, ↓e_if_icmp_gt, ↓e_ifCond_le, ↓e_if_icmp_le, ↓e_tab, ↓e_look, ↓e_get0, ↓e_get1, ↓e_get2, ↓e_get3, ↓e_put0, ↓e_put1, ↓e_put2, ↓e_put3, ↓e_iaload, ↓e_laload, ↓e_baload, ↓e_aaload, ↓e_iastore, ↓e_lastore, ↓e_bastore, ↓e_aastore, ↓e_alen, ↓e_new, ↓e_newarray, ↓e_anewarray, ↓e_objinit, ↓e_virt1, ↓e_virt2, ↓e_virt3, ↓e_virt4, ↓e_virt5, ↓e_virt6, ↓e_virt7, ↓e_stat0, ↓e_stat1, ↓e_stat2, ↓e_stat3, ↓e_stat4, ↓e_stat5, ↓e_stat6, ↓e_stat7, ↓e_spec1, ↓e_spec2, ↓e_spec3, ↓e_spec4, ↓e_spec5, ↓e_strlen, ↓e_charAt, ↓e_copy, ↓e_iret0, ↓e_iret1, ↓e_lret, ↓e_aret, ↓e_vret, zIsI_int, zIsL_long, zIsA_ref, zInt_int, true_and, and_true, ↓reduceIte, zGet, zSet, zSet2, zEnt, zWid, Value.category, List.map_cons, List.map_nil, List.sum_cons, List.sum_nil, List.replicate, Option.toList, Nat.reduceAdd, Nat.reduceSub, Nat.reduceMul, Nat.reduceLeDiff, Nat.reduceEqDiff, Nat.reduceLT, List.cons_append, List.nil_append, true_or, or_true, or_false, false_or, nI_ltI, nI_leI, nI_eq, nI_clamp, zIn_nI, bI_0, nI_add, nI_mul, nI_or, nI_and, nI_shl1, nI_bit, ↓pk_rem, pk_div, Nat.lt_irrefl, Nat.not_lt_zero, reduceCtorEq, M.k, M.r0, M.r1, M.r5, M.r6, M.r7, M.r8, M.r9, M.r21, M.r24, M.r25, M.r28, M.r29, M.r30, M.r31, M.r35, M.r36, M.r37, M.r38, M.r40, M.r43, M.r44, M.r45, M.k121, M.k122, M.k123, M.k124, M.k125, M.k126, M.k127, M.k128, M.k129, M.k130, M.k131, M.k132, M.k133, M.k134, M.k135, M.k136, M.k137, M.k138, M.k139, M.k140, M.k141, M.k142, ↓iw, ew, ok, hF, n01, show bI true = nI 1 from rfl, show bI false = nI 0 from rfl, sK_setI, sR_setI, sL_setI, i20, hb, X0.m.k, ↓e1, M1.k, ↓e2]
      · have ew : wM B T = some 3 := ew
        have ok : oI (some 3) = nI 3 := rfl
        obtain ⟨o1, o2, o3, o4⟩ := to_3 hT.1
        have qp : qPart B n A F T = toE B n (qMark B n A T) F := by unfold qPart; simp only [if_pos h2, hw]
        have X0 := X.s20 (nI (t ||| 2 ^ 3))
        have z1 : sI (setI σ 120 20 (nI (t ||| 2 ^ 3))) 120 20 = nI (t ||| 2 ^ 3) := i20 _ _
        rw [qp]
        obtain ⟨τ2, P1, e2⟩ := m_aMark (d := d) X0 H h9 O N h2
        have okt : ∀ y, qMark B n A T = .inr y → TkOk B n y.2 := fun y h => by
          have ok2 := qMark_ok ⟨O, N, H⟩
          rw [h] at ok2
          exact ok2.1.2.2
        have bz : ∀ y : Ofc × Tk, qMark B n A T = .inr y → TO y.1 F (t ||| 2 ^ 3) := fun y h => ⟨o1, by rw [busy_mark h]; exact o2.trans hT.2.1, o3.trans hT.2.2.1, o4.trans hT.2.2.2⟩
        generalize qMark B n A T = x at *
        obtain ⟨ρ, P2, e3⟩ := m_end (d := d) (F := F) P1 X0.m okt h9 z1 bz
        refine ⟨ρ, QM.tr (FMt.s20 _) P2, fun K => ?_⟩
        have k0 : ∀ v, sK (setI σ 120 20 v) 120 = (0, 11) := fun v => M.k
        rw [← e3 K (.int (nI 3)), E_263]
        simp (disch := omega) only [L_263_0, zt_263_0, L_263_23, zt_263_23, L_263_46, zt_263_46, L_263_73, zt_263_73, L_263_82, zt_263_82, L_263_156, zt_263_156, show zTab 83 (97) (0) (5) #[37, 45, 59, 73, 81, 89] (nI 3) = 156 from by decide, ↓e_iconst0, ↓e_iconst1, ↓e_bipush0, ↓e_bipush1, ↓e_sipush0, ↓e_sipush1, ↓e_ldc0, ↓e_ldc1, ↓e_ldc_w0, ↓e_ldc_w1, ↓e_ldc2, ↓e_lconst0, ↓e_lconst1, ↓e_ldc2_w0, ↓e_ldc2_w1, ↓e_iload, ↓e_iload_n, ↓e_istore, ↓e_istore_n, ↓e_lload, ↓e_lload_n, ↓e_lstore, ↓e_lstore_n, ↓e_aload, ↓e_aload_n, ↓e_astore, ↓e_astore_n, ↓e_iinc0, ↓e_iinc1, ↓e_iadd, ↓e_isub, ↓e_imul, ↓e_iand, ↓e_ior, ↓e_ixor, ↓e_ishl, ↓e_ishr, ↓e_iushr, ↓e_ladd, ↓e_lsub, ↓e_lmul, ↓e_land, ↓e_lor, ↓e_idiv, ↓e_irem, ↓e_ldiv, ↓e_lrem, ↓e_lshl, ↓e_lcmp, ↓e_i2l, ↓e_l2i, ↓e_i2b, ↓e_i2s, ↓e_dup_int, ↓e_pop_int, ↓e_dup_ref, ↓e_pop_ref, ↓e_dup2, ↓e_goto, ↓e_nop, ↓e_ifCond_eq, ↓e_if_icmp_eq, ↓e_ifCond_ne, ↓e_if_icmp_ne, ↓e_ifCond_lt, ↓e_if_icmp_lt, ↓e_ifCond_ge, ↓e_if_icmp_ge, ↓e_ifCond_gt, ↓e_if_icmp_gt, ↓e_ifCond_le, ↓e_if_icmp_le, ↓e_tab, ↓e_look, ↓e_get0, ↓e_get1, ↓e_get2, ↓e_get3, ↓e_put0, ↓e_put1, ↓e_put2, ↓e_put3, ↓e_iaload, ↓e_laload, ↓e_baload, ↓e_aaload, ↓e_iastore, ↓e_lastore, ↓e_bastore, ↓e_aastore, ↓e_alen, ↓e_new, ↓e_newarray, ↓e_anewarray, ↓e_objinit, ↓e_virt1, ↓e_virt2, ↓e_virt3, ↓e_virt4, ↓e_virt5, ↓e_virt6, ↓e_virt7, ↓e_stat0, ↓e_stat1, ↓e_stat2, ↓e_stat3, ↓e_stat4, ↓e_stat5, ↓e_stat6, ↓e_stat7, ↓e_spec1, ↓e_spec2, ↓e_spec3, ↓e_spec4, ↓e_spec5, ↓e_strlen, ↓e_charAt, ↓e_copy, ↓e_iret0, ↓e_iret1, ↓e_lret, ↓e_aret, ↓e_vret, zIsI_int, zIsL_long, zIsA_ref, zInt_int, true_and, and_true, ↓reduceIte, zGet, zSet, zSet2, zEnt, zWid, Value.category, List.map_cons, List.map_nil, List.sum_cons, List.sum_nil, List.replicate, Option.toList, Nat.reduceAdd, Nat.reduceSub, Nat.reduceMul, Nat.reduceLeDiff, Nat.reduceEqDiff, Nat.reduceLT, List.cons_append, List.nil_append, true_or, or_true, or_false, false_or, nI_ltI, nI_leI, nI_eq, nI_clamp, zIn_nI, bI_0, nI_add, nI_mul, nI_or, nI_and, nI_shl1, nI_bit, ↓pk_rem, pk_div, Nat.lt_irrefl, Nat.not_lt_zero, reduceCtorEq, M.k, M.r0, M.r1, M.r5, M.r6, M.r7, M.r8, M.r9, M.r21, M.r24, M.r25, M.r28, M.r29, M.r30, M.r31, M.r35, M.r36, M.r37, M.r38, M.r40, M.r43, M.r44, M.r45, M.k121, M.k122, M.k123, M.k124, M.k125, M.k126, M.k127, M.k128, M.k129, M.k130, M.k131, M.k132, M.k133, M.k134, M.k135, M.k136, M.k137, M.k138, M.k139, M.k140, M.k141, M.k142, ↓iw, ew, ok, hF, n01, show bI true = nI 1 from rfl, show bI false = nI 0 from rfl, sK_setI, sR_setI, sL_setI, i20, X0.m.k, ↓e2]
      · have ew : wM B T = some 4 := ew
        have ok : oI (some 4) = nI 4 := rfl
        obtain ⟨o1, o2, o3, o4⟩ := to_4 hT.1
        have qp : qPart B n A F T = toE B n (qPaperM B n A T) F := by rw [qPaperM_toE]; unfold qPart; simp only [if_pos h2, hw]
        have X0 := X.s20 (nI (t ||| 2 ^ 4))
        have z1 : sI (setI σ 120 20 (nI (t ||| 2 ^ 4))) 120 20 = nI (t ||| 2 ^ 4) := i20 _ _
        rw [qp]
        obtain ⟨τ2, P1, okt, e2⟩ := m_aPaper (d := d) X0 H h9 O N h2
        have bz : ∀ y : Ofc × Tk, qPaperM B n A T = .inr y → TO y.1 F (t ||| 2 ^ 4) := fun y h => ⟨o1, by rw [busy_paper O h]; exact o2.trans hT.2.1, o3.trans hT.2.2.1, o4.trans hT.2.2.2⟩
        generalize qPaperM B n A T = x at *
        obtain ⟨ρ, P2, e3⟩ := m_end (d := d) (F := F) P1 X0.m okt h9 z1 bz
        refine ⟨ρ, QM.tr (FMt.s20 _) P2, fun K => ?_⟩
        have k0 : ∀ v, sK (setI σ 120 20 v) 120 = (0, 11) := fun v => M.k
        rw [← e3 K (.int (nI 4)), E_263]
        simp (disch := omega) only [L_263_0, zt_263_0, L_263_23, zt_263_23, L_263_46, zt_263_46, L_263_73, zt_263_73, L_263_82, zt_263_82, L_263_164, zt_263_164, show zTab 83 (97) (0) (5) #[37, 45, 59, 73, 81, 89] (nI 4) = 164 from by decide, ↓e_iconst0, ↓e_iconst1, ↓e_bipush0, ↓e_bipush1, ↓e_sipush0, ↓e_sipush1, ↓e_ldc0, ↓e_ldc1, ↓e_ldc_w0, ↓e_ldc_w1, ↓e_ldc2, ↓e_lconst0, ↓e_lconst1, ↓e_ldc2_w0, ↓e_ldc2_w1, ↓e_iload, ↓e_iload_n, ↓e_istore, ↓e_istore_n, ↓e_lload, ↓e_lload_n, ↓e_lstore, ↓e_lstore_n, ↓e_aload, ↓e_aload_n, ↓e_astore, ↓e_astore_n, ↓e_iinc0, ↓e_iinc1, ↓e_iadd, ↓e_isub, ↓e_imul, ↓e_iand, ↓e_ior, ↓e_ixor, ↓e_ishl, ↓e_ishr, ↓e_iushr, ↓e_ladd, ↓e_lsub, ↓e_lmul, ↓e_land, ↓e_lor, ↓e_idiv, ↓e_irem, ↓e_ldiv, ↓e_lrem, ↓e_lshl, ↓e_lcmp, ↓e_i2l, ↓e_l2i, ↓e_i2b, ↓e_i2s, ↓e_dup_int, ↓e_pop_int, ↓e_dup_ref, ↓e_pop_ref, ↓e_dup2, ↓e_goto, ↓e_nop, ↓e_ifCond_eq, ↓e_if_icmp_eq, ↓e_ifCond_ne, ↓e_if_icmp_ne, ↓e_ifCond_lt, ↓e_if_icmp_lt, ↓e_ifCond_ge, ↓e_if_icmp_ge, ↓e_ifCond_gt, ↓e_if_icmp_gt, ↓e_ifCond_le, ↓e_if_icmp_le, ↓e_tab, ↓e_look, ↓e_get0, ↓e_get1, ↓e_get2, ↓e_get3, ↓e_put0, ↓e_put1, ↓e_put2, ↓e_put3, ↓e_iaload, ↓e_laload, ↓e_baload, ↓e_aaload, ↓e_iastore, ↓e_lastore, ↓e_bastore, ↓e_aastore, ↓e_alen, ↓e_new, ↓e_newarray, ↓e_anewarray, ↓e_objinit, ↓e_virt1, ↓e_virt2, ↓e_virt3, ↓e_virt4, ↓e_virt5, ↓e_virt6, ↓e_virt7, ↓e_stat0, ↓e_stat1, ↓e_stat2, ↓e_stat3, ↓e_stat4, ↓e_stat5, ↓e_stat6, ↓e_stat7, ↓e_spec1, ↓e_spec2, ↓e_spec3, ↓e_spec4, ↓e_spec5, ↓e_strlen, ↓e_charAt, ↓e_copy, ↓e_iret0, ↓e_iret1, ↓e_lret, ↓e_aret, ↓e_vret, zIsI_int, zIsL_long, zIsA_ref, zInt_int, true_and, and_true, ↓reduceIte, zGet, zSet, zSet2, zEnt, zWid, Value.category, List.map_cons, List.map_nil, List.sum_cons, List.sum_nil, List.replicate, Option.toList, Nat.reduceAdd, Nat.reduceSub, Nat.reduceMul, Nat.reduceLeDiff, Nat.reduceEqDiff, Nat.reduceLT, List.cons_append, List.nil_append, true_or, or_true, or_false, false_or, nI_ltI, nI_leI, nI_eq, nI_clamp, zIn_nI, bI_0, nI_add, nI_mul, nI_or, nI_and, nI_shl1, nI_bit, ↓pk_rem, pk_div, Nat.lt_irrefl, Nat.not_lt_zero, reduceCtorEq, M.k, M.r0, M.r1, M.r5, M.r6, M.r7, M.r8, M.r9, M.r21, M.r24, M.r25, M.r28, M.r29, M.r30, M.r31, M.r35, M.r36, M.r37, M.r38, M.r40, M.r43, M.r44, M.r45, M.k121, M.k122, M.k123, M.k124, M.k125, M.k126, M.k127, M.k128, M.k129, M.k130, M.k131, M.k132, M.k133, M.k134, M.k135, M.k136, M.k137, M.k138, M.k139, M.k140, M.k141, M.k142, ↓iw, ew, ok, hF, n01, show bI true = nI 1 from rfl, show bI false = nI 0 from rfl, sK_setI, sR_setI, sL_setI, i20, X0.m.k, ↓e2]
      · have ew : wM B T = some 5 := ew
        have ok : oI (some 5) = nI 5 := rfl
        obtain ⟨o1, o2, o3, o4⟩ := to_5 hT.1
        have qp : qPart B n A F T = toE B n (qClerk B n A T) F := by unfold qPart; simp only [if_pos h2, hw]
        have X0 := (X.s20 (nI (t ||| 2 ^ 5))).s20 (nI (t ||| 2 ^ 5 ||| 1))
        have z1 : sI (setI (setI σ 120 20 (nI (t ||| 2 ^ 5))) 120 20 (nI (t ||| 2 ^ 5 ||| 1))) 120 20 = nI (t ||| 2 ^ 5 ||| 1) := i20 _ _
        rw [qp]
        obtain ⟨τ2, P1, e2⟩ := m_aClerk (d := d) X0 H h9 O N h2
        have okt : ∀ y, qClerk B n A T = .inr y → TkOk B n y.2 := fun y h => by
          have ok2 := qClerk_ok ⟨O, N, H⟩
          rw [h] at ok2
          exact ok2.1.2.2
        have bz : ∀ y : Ofc × Tk, qClerk B n A T = .inr y → TO y.1 F (t ||| 2 ^ 5 ||| 1) := fun y h => ⟨o1, by rw [busy_clerk h, Bool.or_true]; exact o2, o3.trans hT.2.2.1, o4.trans hT.2.2.2⟩
        generalize qClerk B n A T = x at *
        obtain ⟨ρ, P2, e3⟩ := m_end (d := d) (F := F) P1 X0.m okt h9 z1 bz
        refine ⟨ρ, QM.tr ((FMt.s20 _).tr (FMt.s20 _)) P2, fun K => ?_⟩
        have k0 : ∀ v, sK (setI σ 120 20 v) 120 = (0, 11) := fun v => M.k
        rw [← e3 K (.int (nI 5)), E_263]
        simp (disch := omega) only [L_263_0, zt_263_0, L_263_23, zt_263_23, L_263_46, zt_263_46, L_263_73, zt_263_73, L_263_82, zt_263_82, L_263_172, zt_263_172, show zTab 83 (97) (0) (5) #[37, 45, 59, 73, 81, 89] (nI 5) = 172 from by decide, ↓e_iconst0, ↓e_iconst1, ↓e_bipush0, ↓e_bipush1, ↓e_sipush0, ↓e_sipush1, ↓e_ldc0, ↓e_ldc1, ↓e_ldc_w0, ↓e_ldc_w1, ↓e_ldc2, ↓e_lconst0, ↓e_lconst1, ↓e_ldc2_w0, ↓e_ldc2_w1, ↓e_iload, ↓e_iload_n, ↓e_istore, ↓e_istore_n, ↓e_lload, ↓e_lload_n, ↓e_lstore, ↓e_lstore_n, ↓e_aload, ↓e_aload_n, ↓e_astore, ↓e_astore_n, ↓e_iinc0, ↓e_iinc1, ↓e_iadd, ↓e_isub, ↓e_imul, ↓e_iand, ↓e_ior, ↓e_ixor, ↓e_ishl, ↓e_ishr, ↓e_iushr, ↓e_ladd, ↓e_lsub, ↓e_lmul, ↓e_land, ↓e_lor, ↓e_idiv, ↓e_irem, ↓e_ldiv, ↓e_lrem, ↓e_lshl, ↓e_lcmp, ↓e_i2l, ↓e_l2i, ↓e_i2b, ↓e_i2s, ↓e_dup_int, ↓e_pop_int, ↓e_dup_ref, ↓e_pop_ref, ↓e_dup2, ↓e_goto, ↓e_nop, ↓e_ifCond_eq, ↓e_if_icmp_eq, ↓e_ifCond_ne, ↓e_if_icmp_ne, ↓e_ifCond_lt, ↓e_if_icmp_lt, ↓e_ifCond_ge, ↓e_if_icmp_ge, ↓e_ifCond_gt, ↓e_if_icmp_gt, ↓e_ifCond_le, ↓e_if_icmp_le, ↓e_tab, ↓e_look, ↓e_get0, ↓e_get1, ↓e_get2, ↓e_get3, ↓e_put0, ↓e_put1, ↓e_put2, ↓e_put3, ↓e_iaload, ↓e_laload, ↓e_baload, ↓e_aaload, ↓e_iastore, ↓e_lastore, ↓e_bastore, ↓e_aastore, ↓e_alen, ↓e_new, ↓e_newarray, ↓e_anewarray, ↓e_objinit, ↓e_virt1, ↓e_virt2, ↓e_virt3, ↓e_virt4, ↓e_virt5, ↓e_virt6, ↓e_virt7, ↓e_stat0, ↓e_stat1, ↓e_stat2, ↓e_stat3, ↓e_stat4, ↓e_stat5, ↓e_stat6, ↓e_stat7, ↓e_spec1, ↓e_spec2, ↓e_spec3, ↓e_spec4, ↓e_spec5, ↓e_strlen, ↓e_charAt, ↓e_copy, ↓e_iret0, ↓e_iret1, ↓e_lret, ↓e_aret, ↓e_vret, zIsI_int, zIsL_long, zIsA_ref, zInt_int, true_and, and_true, ↓reduceIte, zGet, zSet, zSet2, zEnt, zWid, Value.category, List.map_cons, List.map_nil, List.sum_cons, List.sum_nil, List.replicate, Option.toList, Nat.reduceAdd, Nat.reduceSub, Nat.reduceMul, Nat.reduceLeDiff, Nat.reduceEqDiff, Nat.reduceLT, List.cons_append, List.nil_append, true_or, or_true, or_false, false_or, nI_ltI, nI_leI, nI_eq, nI_clamp, zIn_nI, bI_0, nI_add, nI_mul, nI_or, nI_and, nI_shl1, nI_bit, ↓pk_rem, pk_div, Nat.lt_irrefl, Nat.not_lt_zero, reduceCtorEq, M.k, M.r0, M.r1, M.r5, M.r6, M.r7, M.r8, M.r9, M.r21, M.r24, M.r25, M.r28, M.r29, M.r30, M.r31, M.r35, M.r36, M.r37, M.r38, M.r40, M.r43, M.r44, M.r45, M.k121, M.k122, M.k123, M.k124, M.k125, M.k126, M.k127, M.k128, M.k129, M.k130, M.k131, M.k132, M.k133, M.k134, M.k135, M.k136, M.k137, M.k138, M.k139, M.k140, M.k141, M.k142, ↓iw, ew, ok, hF, n01, show bI true = nI 1 from rfl, show bI false = nI 0 from rfl, sK_setI, sR_setI, sL_setI, i20, X0.m.k, ↓e2]
      · have ew : wM B T = some 6 := ew
        have ok : oI (some 6) = nI 6 := rfl
        obtain ⟨o1, o2, o3, o4⟩ := to_6 hT.1
        have qp : qPart B n A F T = toE B n (qLies B n A T) F := by unfold qPart; simp only [if_pos h2, hw]
        have X0 := (X.s20 (nI (t ||| 2 ^ 6))).s20 (nI (t ||| 2 ^ 6 ||| 1))
        have z1 : sI (setI (setI σ 120 20 (nI (t ||| 2 ^ 6))) 120 20 (nI (t ||| 2 ^ 6 ||| 1))) 120 20 = nI (t ||| 2 ^ 6 ||| 1) := i20 _ _
        rw [qp]
        obtain ⟨τ2, P1, e2⟩ := m_aLying (d := d) X0 H h9 O N
        have okt : ∀ y, qLies B n A T = .inr y → TkOk B n y.2 := fun y h => by
          have ok2 := qLies_ok ⟨O, N, H⟩
          rw [h] at ok2
          exact ok2.1.2.2
        have bz : ∀ y : Ofc × Tk, qLies B n A T = .inr y → TO y.1 F (t ||| 2 ^ 6 ||| 1) := fun y h => ⟨o1, by rw [busy_lies h, Bool.or_true]; exact o2, o3.trans hT.2.2.1, o4.trans hT.2.2.2⟩
        generalize qLies B n A T = x at *
        obtain ⟨ρ, P2, e3⟩ := m_end (d := d) (F := F) P1 X0.m okt h9 z1 bz
        refine ⟨ρ, QM.tr ((FMt.s20 _).tr (FMt.s20 _)) P2, fun K => ?_⟩
        have k0 : ∀ v, sK (setI σ 120 20 v) 120 = (0, 11) := fun v => M.k
        rw [← e3 K (.int (nI 6)), E_263]
        simp (disch := omega) only [L_263_0, zt_263_0, L_263_23, zt_263_23, L_263_46, zt_263_46, L_263_73, zt_263_73, L_263_82, zt_263_82, L_263_180, zt_263_180, show zTab 83 (97) (0) (5) #[37, 45, 59, 73, 81, 89] (nI 6) = 180 from by decide, ↓e_iconst0, ↓e_iconst1, ↓e_bipush0, ↓e_bipush1, ↓e_sipush0, ↓e_sipush1, ↓e_ldc0, ↓e_ldc1, ↓e_ldc_w0, ↓e_ldc_w1, ↓e_ldc2, ↓e_lconst0, ↓e_lconst1, ↓e_ldc2_w0, ↓e_ldc2_w1, ↓e_iload, ↓e_iload_n, ↓e_istore, ↓e_istore_n, ↓e_lload, ↓e_lload_n, ↓e_lstore, ↓e_lstore_n, ↓e_aload, ↓e_aload_n, ↓e_astore, ↓e_astore_n, ↓e_iinc0, ↓e_iinc1, ↓e_iadd, ↓e_isub, ↓e_imul, ↓e_iand, ↓e_ior, ↓e_ixor, ↓e_ishl, ↓e_ishr, ↓e_iushr, ↓e_ladd, ↓e_lsub, ↓e_lmul, ↓e_land, ↓e_lor, ↓e_idiv, ↓e_irem, ↓e_ldiv, ↓e_lrem, ↓e_lshl, ↓e_lcmp, ↓e_i2l, ↓e_l2i, ↓e_i2b, ↓e_i2s, ↓e_dup_int, ↓e_pop_int, ↓e_dup_ref, ↓e_pop_ref, ↓e_dup2, ↓e_goto, ↓e_nop, ↓e_ifCond_eq, ↓e_if_icmp_eq, ↓e_ifCond_ne, ↓e_if_icmp_ne, ↓e_ifCond_lt, ↓e_if_icmp_lt, ↓e_ifCond_ge, ↓e_if_icmp_ge, ↓e_ifCond_gt, ↓e_if_icmp_gt, ↓e_ifCond_le, ↓e_if_icmp_le, ↓e_tab, ↓e_look, ↓e_get0, ↓e_get1, ↓e_get2, ↓e_get3, ↓e_put0, ↓e_put1, ↓e_put2, ↓e_put3, ↓e_iaload, ↓e_laload, ↓e_baload, ↓e_aaload, ↓e_iastore, ↓e_lastore, ↓e_bastore, ↓e_aastore, ↓e_alen, ↓e_new, ↓e_newarray, ↓e_anewarray, ↓e_objinit, ↓e_virt1, ↓e_virt2, ↓e_virt3, ↓e_virt4, ↓e_virt5, ↓e_virt6, ↓e_virt7, ↓e_stat0, ↓e_stat1, ↓e_stat2, ↓e_stat3, ↓e_stat4, ↓e_stat5, ↓e_stat6, ↓e_stat7, ↓e_spec1, ↓e_spec2, ↓e_spec3, ↓e_spec4, ↓e_spec5, ↓e_strlen, ↓e_charAt, ↓e_copy, ↓e_iret0, ↓e_iret1, ↓e_lret, ↓e_aret, ↓e_vret, zIsI_int, zIsL_long, zIsA_ref, zInt_int, true_and, and_true, ↓reduceIte, zGet, zSet, zSet2, zEnt, zWid, Value.category, List.map_cons, List.map_nil, List.sum_cons, List.sum_nil, List.replicate, Option.toList, Nat.reduceAdd, Nat.reduceSub, Nat.reduceMul, Nat.reduceLeDiff, Nat.reduceEqDiff, Nat.reduceLT, List.cons_append, List.nil_append, true_or, or_true, or_false, false_or, nI_ltI, nI_leI, nI_eq, nI_clamp, zIn_nI, bI_0, nI_add, nI_mul, nI_or, nI_and, nI_shl1, nI_bit, ↓pk_rem, pk_div, Nat.lt_irrefl, Nat.not_lt_zero, reduceCtorEq, M.k, M.r0, M.r1, M.r5, M.r6, M.r7, M.r8, M.r9, M.r21, M.r24, M.r25, M.r28, M.r29, M.r30, M.r31, M.r35, M.r36, M.r37, M.r38, M.r40, M.r43, M.r44, M.r45, M.k121, M.k122, M.k123, M.k124, M.k125, M.k126, M.k127, M.k128, M.k129, M.k130, M.k131, M.k132, M.k133, M.k134, M.k135, M.k136, M.k137, M.k138, M.k139, M.k140, M.k141, M.k142, ↓iw, ew, ok, hF, n01, show bI true = nI 1 from rfl, show bI false = nI 0 from rfl, sK_setI, sR_setI, sL_setI, i20, X0.m.k, ↓e2]
      · have hd : qPart B n A F T = .inl (cs T, T.2.1) ∧ ∃ k, 6 < k ∧ k < 22 ∧ mno w = k := by
          rcases hk2 with (rfl | rfl | rfl | rfl | rfl | rfl | rfl) | rfl | rfl | rfl | rfl | rfl | rfl | rfl | rfl
          · exact ⟨by unfold qPart; simp only [if_pos h2, hw], mno 1, by decide, by decide, rfl⟩
          · exact ⟨by unfold qPart; simp only [if_pos h2, hw], mno 5, by decide, by decide, rfl⟩
          · exact ⟨by unfold qPart; simp only [if_pos h2, hw], mno 8, by decide, by decide, rfl⟩
          · exact ⟨by unfold qPart; simp only [if_pos h2, hw], mno 10, by decide, by decide, rfl⟩
          · exact ⟨by unfold qPart; simp only [if_pos h2, hw], mno 11, by decide, by decide, rfl⟩
          · exact ⟨by unfold qPart; simp only [if_pos h2, hw], mno 12, by decide, by decide, rfl⟩
          · exact ⟨by unfold qPart; simp only [if_pos h2, hw], mno 13, by decide, by decide, rfl⟩
          · exact ⟨by unfold qPart; simp only [if_pos h2, hw], mno 14, by decide, by decide, rfl⟩
          · exact ⟨by unfold qPart; simp only [if_pos h2, hw], mno 15, by decide, by decide, rfl⟩
          · exact ⟨by unfold qPart; simp only [if_pos h2, hw], mno 16, by decide, by decide, rfl⟩
          · exact ⟨by unfold qPart; simp only [if_pos h2, hw], mno 17, by decide, by decide, rfl⟩
          · exact ⟨by unfold qPart; simp only [if_pos h2, hw], mno 18, by decide, by decide, rfl⟩
          · exact ⟨by unfold qPart; simp only [if_pos h2, hw], mno 19, by decide, by decide, rfl⟩
          · exact ⟨by unfold qPart; simp only [if_pos h2, hw], mno 20, by decide, by decide, rfl⟩
          · exact ⟨by unfold qPart; simp only [if_pos h2, hw], mno 21, by decide, by decide, rfl⟩
        obtain ⟨qp, k, hk6, hk22, ek⟩ := hd
        rw [ek] at ew
        rw [qp]
        refine ⟨_, QM.no, fun K => ?_⟩
        rw [E_263]
        simp (disch := omega) only [L_263_0, zt_263_0, L_263_17, zt_263_17, ↓e_iconst0, ↓e_iconst1, ↓e_bipush0, ↓e_bipush1, ↓e_sipush0, ↓e_sipush1, ↓e_ldc0, ↓e_ldc1, ↓e_ldc_w0, ↓e_ldc_w1, ↓e_ldc2, ↓e_lconst0, ↓e_lconst1, ↓e_ldc2_w0, ↓e_ldc2_w1, ↓e_iload, ↓e_iload_n, ↓e_istore, ↓e_istore_n, ↓e_lload, ↓e_lload_n, ↓e_lstore, ↓e_lstore_n, ↓e_aload, ↓e_aload_n, ↓e_astore, ↓e_astore_n, ↓e_iinc0, ↓e_iinc1, ↓e_iadd, ↓e_isub, ↓e_imul, ↓e_iand, ↓e_ior, ↓e_ixor, ↓e_ishl, ↓e_ishr, ↓e_iushr, ↓e_ladd, ↓e_lsub, ↓e_lmul, ↓e_land, ↓e_lor, ↓e_idiv, ↓e_irem, ↓e_ldiv, ↓e_lrem, ↓e_lshl, ↓e_lcmp, ↓e_i2l, ↓e_l2i, ↓e_i2b, ↓e_i2s, ↓e_dup_int, ↓e_pop_int, ↓e_dup_ref, ↓e_pop_ref, ↓e_dup2, ↓e_goto, ↓e_nop, ↓e_ifCond_eq, ↓e_if_icmp_eq, ↓e_ifCond_ne, ↓e_if_icmp_ne, ↓e_ifCond_lt, ↓e_if_icmp_lt, ↓e_ifCond_ge, ↓e_if_icmp_ge, ↓e_ifCond_gt, ↓e_if_icmp_gt, ↓e_ifCond_le, ↓e_if_icmp_le, ↓e_tab, ↓e_look, ↓e_get0, ↓e_get1, ↓e_get2, ↓e_get3, ↓e_put0, ↓e_put1, ↓e_put2, ↓e_put3, ↓e_iaload, ↓e_laload, ↓e_baload, ↓e_aaload, ↓e_iastore, ↓e_lastore, ↓e_bastore, ↓e_aastore, ↓e_alen, ↓e_new, ↓e_newarray, ↓e_anewarray, ↓e_objinit, ↓e_virt1, ↓e_virt2, ↓e_virt3, ↓e_virt4, ↓e_virt5, ↓e_virt6, ↓e_virt7, ↓e_stat0, ↓e_stat1, ↓e_stat2, ↓e_stat3, ↓e_stat4, ↓e_stat5, ↓e_stat6, ↓e_stat7, ↓e_spec1, ↓e_spec2, ↓e_spec3, ↓e_spec4, ↓e_spec5, ↓e_strlen, ↓e_charAt, ↓e_copy, ↓e_iret0, ↓e_iret1, ↓e_lret, ↓e_aret, ↓e_vret, zIsI_int, zIsL_long, zIsA_ref, zInt_int, true_and, and_true, ↓reduceIte, zGet, zSet, zSet2, zEnt, zWid, Value.category, List.map_cons, List.map_nil, List.sum_cons, List.sum_nil, List.replicate, Option.toList, Nat.reduceAdd, Nat.reduceSub, Nat.reduceMul, Nat.reduceLeDiff, Nat.reduceEqDiff, Nat.reduceLT, List.cons_append, List.nil_append, true_or, or_true, or_false, false_or, nI_ltI, nI_leI, nI_eq, nI_clamp, zIn_nI, bI_0, nI_add, nI_mul, nI_or, nI_and, nI_shl1, nI_bit, ↓pk_rem, pk_div, Nat.lt_irrefl, Nat.not_lt_zero, reduceCtorEq, M.k, M.r0, M.r1, M.r5, M.r6, M.r7, M.r8, M.r9, M.r21, M.r24, M.r25, M.r28, M.r29, M.r30, M.r31, M.r35, M.r36, M.r37, M.r38, M.r40, M.r43, M.r44, M.r45, M.k121, M.k122, M.k123, M.k124, M.k125, M.k126, M.k127, M.k128, M.k129, M.k130, M.k131, M.k132, M.k133, M.k134, M.k135, M.k136, M.k137, M.k138, M.k139, M.k140, M.k141, M.k142, ↓iw, ew, show oI (some k) = nI k from rfl, hk6, ↓f2]
        rfl
  · have qp : qPart B n A F T = .inl (cs T, T.2.1) := by unfold qPart; rw [if_neg h2]
    have ew : wM B T = none := by unfold wM; rw [if_neg h2]
    rw [qp]
    refine ⟨_, QM.no, fun K => ?_⟩
    have neg : -nI 1 < nI 0 := by decide
    rw [E_263]
    simp (disch := omega) only [L_263_0, zt_263_0, L_263_17, zt_263_17, ↓e_iconst0, ↓e_iconst1, ↓e_bipush0, ↓e_bipush1, ↓e_sipush0, ↓e_sipush1, ↓e_ldc0, ↓e_ldc1, ↓e_ldc_w0, ↓e_ldc_w1, ↓e_ldc2, ↓e_lconst0, ↓e_lconst1, ↓e_ldc2_w0, ↓e_ldc2_w1, ↓e_iload, ↓e_iload_n, ↓e_istore, ↓e_istore_n, ↓e_lload, ↓e_lload_n, ↓e_lstore, ↓e_lstore_n, ↓e_aload, ↓e_aload_n, ↓e_astore, ↓e_astore_n, ↓e_iinc0, ↓e_iinc1, ↓e_iadd, ↓e_isub, ↓e_imul, ↓e_iand, ↓e_ior, ↓e_ixor, ↓e_ishl, ↓e_ishr, ↓e_iushr, ↓e_ladd, ↓e_lsub, ↓e_lmul, ↓e_land, ↓e_lor, ↓e_idiv, ↓e_irem, ↓e_ldiv, ↓e_lrem, ↓e_lshl, ↓e_lcmp, ↓e_i2l, ↓e_l2i, ↓e_i2b, ↓e_i2s, ↓e_dup_int, ↓e_pop_int, ↓e_dup_ref, ↓e_pop_ref, ↓e_dup2, ↓e_goto, ↓e_nop, ↓e_ifCond_eq, ↓e_if_icmp_eq, ↓e_ifCond_ne, ↓e_if_icmp_ne, ↓e_ifCond_lt, ↓e_if_icmp_lt, ↓e_ifCond_ge, ↓e_if_icmp_ge, ↓e_ifCond_gt, ↓e_if_icmp_gt, ↓e_ifCond_le, ↓e_if_icmp_le, ↓e_tab, ↓e_look, ↓e_get0, ↓e_get1, ↓e_get2, ↓e_get3, ↓e_put0, ↓e_put1, ↓e_put2, ↓e_put3, ↓e_iaload, ↓e_laload, ↓e_baload, ↓e_aaload, ↓e_iastore, ↓e_lastore, ↓e_bastore, ↓e_aastore, ↓e_alen, ↓e_new, ↓e_newarray, ↓e_anewarray, ↓e_objinit, ↓e_virt1, ↓e_virt2, ↓e_virt3, ↓e_virt4, ↓e_virt5, ↓e_virt6, ↓e_virt7, ↓e_stat0, ↓e_stat1, ↓e_stat2, ↓e_stat3, ↓e_stat4, ↓e_stat5, ↓e_stat6, ↓e_stat7, ↓e_spec1, ↓e_spec2, ↓e_spec3, ↓e_spec4, ↓e_spec5, ↓e_strlen, ↓e_charAt, ↓e_copy, ↓e_iret0, ↓e_iret1, ↓e_lret, ↓e_aret, ↓e_vret, zIsI_int, zIsL_long, zIsA_ref, zInt_int, true_and, and_true, ↓reduceIte, zGet, zSet, zSet2, zEnt, zWid, Value.category, List.map_cons, List.map_nil, List.sum_cons, List.sum_nil, List.replicate, Option.toList, Nat.reduceAdd, Nat.reduceSub, Nat.reduceMul, Nat.reduceLeDiff, Nat.reduceEqDiff, Nat.reduceLT, List.cons_append, List.nil_append, true_or, or_true, or_false, false_or, nI_ltI, nI_leI, nI_eq, nI_clamp, zIn_nI, bI_0, nI_add, nI_mul, nI_or, nI_and, nI_shl1, nI_bit, ↓pk_rem, pk_div, Nat.lt_irrefl, Nat.not_lt_zero, reduceCtorEq, M.k, M.r0, M.r1, M.r5, M.r6, M.r7, M.r8, M.r9, M.r21, M.r24, M.r25, M.r28, M.r29, M.r30, M.r31, M.r35, M.r36, M.r37, M.r38, M.r40, M.r43, M.r44, M.r45, M.k121, M.k122, M.k123, M.k124, M.k125, M.k126, M.k127, M.k128, M.k129, M.k130, M.k131, M.k132, M.k133, M.k134, M.k135, M.k136, M.k137, M.k138, M.k139, M.k140, M.k141, M.k142, ↓iw, ew, show oI none = -nI 1 from rfl, neg, ↓f2]
    rfl
end RPM
