/-! HIDING -/
section HID
variable {d : Nat} {σ τ : MS} {a : Nat} {A : Ofc} {K : Option Value → MS → Prop}
theorem bopt_bit (F : Nat → Option Nat) (a j : Nat) : ∀ m, ((zfor (fun k n => match F k with | none => n | some q => n ||| 2 ^ q) m a).testBit j = true ↔ (a.testBit j = true ∨ ∃ k, k < m ∧ F k = some j)) := by
  intro m
  induction m with
  | zero => simp [zfor]
  | succ m ih =>
    show ((match F m with | none => zfor _ m a | some q => zfor _ m a ||| 2 ^ q).testBit j = true ↔ _)
    cases hF : F m with
    | none =>
      dsimp only
      rw [ih]
      refine ⟨fun h => ?_, fun h => ?_⟩
      · rcases h with h | ⟨k, hk, h⟩
        · exact .inl h
        · exact .inr ⟨k, by omega, h⟩
      · rcases h with h | ⟨k, hk, h⟩
        · exact .inl h
        · by_cases hkm : k = m
          · subst hkm; rw [hF] at h; cases h
          · exact .inr ⟨k, by omega, h⟩
    | some q =>
      dsimp only
      rw [Nat.testBit_or, Bool.or_eq_true, ih, Nat.testBit_two_pow, decide_eq_true_eq]
      refine ⟨fun h => ?_, fun h => ?_⟩
      · rcases h with (h | ⟨k, hk, h⟩) | h
        · exact .inl h
        · exact .inr ⟨k, by omega, h⟩
        · exact .inr ⟨m, by omega, by rw [hF, h]⟩
      · rcases h with h | ⟨k, hk, h⟩
        · exact .inl (.inl h)
        · by_cases hkm : k = m
          · subst hkm; rw [hF] at h; cases h; exact .inr rfl
          · exact .inl (.inr ⟨k, by omega, h⟩)
theorem besideS_bit (O : OfcOk A) {c q : Nat} (hc : c < A.wide * A.high) : (A.besideS c).testBit q = true ↔ ∃ e, A.bes c e = true ∧ A.pl q = some e := by
  unfold Ofc.besideS
  refine Iff.trans (bopt_bit (fun k => (A.side c k).bind A.who) 0 q 4) ?_
  refine ⟨fun h => ?_, fun h => ?_⟩
  · rcases h with h | ⟨k, hk, h⟩
    · rw [Nat.zero_testBit] at h; cases h
    · cases hs : A.side c k with
      | none => rw [hs] at h; cases h
      | some e =>
        rw [hs] at h
        have hm : e ∈ (List.range 4).filterMap (A.side c) := List.mem_filterMap.mpr ⟨k, List.mem_range.mpr hk, hs⟩
        rw [sides O hc] at hm
        exact ⟨e, (List.mem_filter.mp hm).2, who_pl h⟩
  · obtain ⟨e, h1, h2⟩ := h
    have hm : e ∈ (List.range (A.wide * A.high)).filter (fun e => A.bes c e) := List.mem_filter.mpr ⟨List.mem_range.mpr (O.plc q e h2), h1⟩
    rw [← sides O hc] at hm
    obtain ⟨k, hk, hs⟩ := List.mem_filterMap.mp hm
    refine .inr ⟨k, List.mem_range.mp hk, ?_⟩
    show (A.side c k).bind A.who = some q
    rw [hs]
    exact (who_iff O).mpr h2
def Ofc.besP (A : Ofc) (p q : Nat) : Bool := match A.pl p with
  | none => false
  | some c => match A.pl q with
    | none => false
    | some e => A.bes c e
theorem besP_comm (p q : Nat) : A.besP p q = A.besP q p := by
  unfold Ofc.besP
  cases A.pl p <;> cases A.pl q
  · rfl
  · rfl
  · rfl
  · exact bes_comm _ _
theorem besP_self (p : Nat) : A.besP p p = false := by
  unfold Ofc.besP
  cases A.pl p
  · rfl
  · exact bes_self _
theorem beside_bit (O : OfcOk A) (p q : Nat) : (A.beside p).testBit q = A.besP p q := by
  unfold Ofc.beside Ofc.besP
  cases hp : A.pl p with
  | none => exact Nat.zero_testBit q
  | some c =>
    dsimp only
    have h := besideS_bit (q := q) O (O.plc p c hp)
    cases hq : A.pl q with
    | none =>
      dsimp only
      cases hb : (A.besideS c).testBit q with
      | false => rfl
      | true =>
        obtain ⟨e, _, h2⟩ := h.mp hb
        rw [hq] at h2
        cases h2
    | some e =>
      dsimp only
      cases hb : (A.besideS c).testBit q with
      | false =>
        cases hbe : A.bes c e with
        | false => rfl
        | true => rw [h.mpr ⟨e, hbe, hq⟩] at hb; cases hb
      | true =>
        obtain ⟨e', h1, h2⟩ := h.mp hb
        rw [hq] at h2
        cases h2
        exact h1.symm
theorem besP_np (O : OfcOk A) {p q : Nat} (h : A.besP p q = true) : p < A.np ∧ q < A.np := by
  unfold Ofc.besP at h
  cases hp : A.pl p with
  | none => rw [hp] at h; cases h
  | some c =>
    cases hq : A.pl q with
    | none => rw [hp, hq] at h; cases h
    | some e => exact ⟨pl_np O hp, pl_np O hq⟩
theorem aloneG_iff (set : Nat) : ∀ (m i : Nat), A.aloneG set m i = true ↔ ∀ j, i ≤ j → j < i + m → set.testBit j = true → A.beside j &&& set = 0 := by
  intro m
  induction m with
  | zero => intro i; exact ⟨fun _ j h1 h2 => by omega, fun _ => rfl⟩
  | succ m ih =>
    intro i
    unfold Ofc.aloneG
    split
    · rename_i h
      refine ⟨fun hh => (by cases hh), fun hh => absurd (hh i (Nat.le_refl _) (by omega) h.1) h.2⟩
    · rename_i h
      rw [ih]
      refine ⟨fun hh j h1 h2 h3 => ?_, fun hh j h1 h2 h3 => hh j (by omega) (by omega) h3⟩
      by_cases hji : j = i
      · subst hji
        exact Classical.byContradiction (fun hn => h ⟨h3, hn⟩)
      · exact hh j (by omega) (by omega) h3
theorem alone_iff (O : OfcOk A) (set : Nat) : A.alone set = true ↔ ∀ i j, set.testBit i = true → set.testBit j = true → A.besP i j = false := by
  unfold Ofc.alone
  rw [aloneG_iff]
  refine ⟨fun h i j hi hj => ?_, fun h i _ hi hs => ?_⟩
  · cases hb : A.besP i j with
    | false => rfl
    | true =>
      have h0 := h i (Nat.zero_le _) (by have := (besP_np O hb).1; omega) hi
      have h1 : (A.beside i &&& set).testBit j = true := by
        rw [Nat.testBit_and, beside_bit O, hb, hj]
        rfl
      rw [h0, Nat.zero_testBit] at h1
      cases h1
  · refine Nat.eq_of_testBit_eq (fun j => ?_)
    rw [Nat.testBit_and, beside_bit O, Nat.zero_testBit]
    cases hj : set.testBit j with
    | false => simp
    | true => rw [h i j hs hj]; rfl
def Ofc.al2 (A : Ofc) (set a : Nat) : Nat → Nat → Bool
  | 0, _ => true
  | m + 1, b => if set.testBit a = true ∧ set.testBit b = true ∧ A.besP a b = true then false else A.al2 set a m (b + 1)
def Ofc.al1 (A : Ofc) (set : Nat) : Nat → Nat → Bool
  | 0, _ => true
  | m + 1, a => if A.al2 set a m (a + 1) = true then A.al1 set m (a + 1) else false
theorem al2_iff (set a : Nat) : ∀ (m b : Nat), A.al2 set a m b = true ↔ ∀ j, b ≤ j → j < b + m → set.testBit a = true → set.testBit j = true → A.besP a j = false := by
  intro m
  induction m with
  | zero => intro b; exact ⟨fun _ j h1 h2 => by omega, fun _ => rfl⟩
  | succ m ih =>
    intro b
    unfold Ofc.al2
    split
    · rename_i h
      refine ⟨fun hh => (by cases hh), fun hh => ?_⟩
      have := hh b (Nat.le_refl _) (by omega) h.1 h.2.1
      rw [this] at h
      cases h.2.2
    · rename_i h
      rw [ih]
      refine ⟨fun hh j h1 h2 h3 h4 => ?_, fun hh j h1 h2 h3 h4 => hh j (by omega) (by omega) h3 h4⟩
      by_cases hjb : j = b
      · subst hjb
        cases hb : A.besP a j with
        | false => rfl
        | true => exact absurd ⟨h3, h4, hb⟩ h
      · exact hh j (by omega) (by omega) h3 h4
theorem al1_iff (set : Nat) : ∀ (m a : Nat), A.al1 set m a = true ↔ ∀ i j, a ≤ i → i < j → j < a + m → set.testBit i = true → set.testBit j = true → A.besP i j = false := by
  intro m
  induction m with
  | zero => intro a; exact ⟨fun _ i j h1 h2 h3 => by omega, fun _ => rfl⟩
  | succ m ih =>
    intro a
    unfold Ofc.al1
    split
    · rename_i h
      rw [al2_iff] at h
      rw [ih]
      refine ⟨fun hh i j h1 h2 h3 h4 h5 => ?_, fun hh i j h1 h2 h3 h4 h5 => hh i j (by omega) h2 (by omega) h4 h5⟩
      by_cases hia : i = a
      · subst hia; exact h j (by omega) (by omega) h4 h5
      · exact hh i j (by omega) h2 (by omega) h4 h5
    · rename_i h
      refine ⟨fun hh => (by cases hh), fun hh => absurd ((al2_iff set a m (a + 1)).mpr (fun j h1 h2 h3 h4 => hh a j (Nat.le_refl _) (by omega) (by omega) h3 h4)) h⟩
theorem al1_alone (O : OfcOk A) (set : Nat) : A.al1 set A.np 0 = A.alone set := by
  have key : A.al1 set A.np 0 = true ↔ A.alone set = true := by
    rw [al1_iff, alone_iff O]
    refine ⟨fun h i j hi hj => ?_, fun h i j _ _ _ hi hj => h i j hi hj⟩
    cases hb : A.besP i j with
    | false => rfl
    | true =>
      have hn := besP_np O hb
      rcases Nat.lt_trichotomy i j with h1 | h1 | h1
      · rw [h i j (Nat.zero_le _) h1 (by omega) hi hj] at hb; exact hb.symm
      · subst h1; rw [besP_self] at hb; exact hb.symm
      · rw [besP_comm, h j i (Nat.zero_le _) h1 (by omega) hj hi] at hb; exact hb.symm
  cases h1 : A.al1 set A.np 0 <;> cases h2 : A.alone set
  · rfl
  · rw [key.mpr h2] at h1; cases h1
  · rw [key.mp h1] at h2; cases h2
  · rfl
theorem m_al2 (M : RMod σ A) (O : OfcOk A) {set i : Nat} (hs : set < 2 ^ 31) (hi : i < A.np) : ∀ (m b : Nat), m + b = A.np →
   zX (d + 3) 349 16 [.ref 120, .int (nI set), .int (nI i), .int (nI b)] [] σ K = if A.al2 set i m b = true then zX (d + 3) 349 85 [.ref 120, .int (nI set), .int (nI i), .int (nI A.np)] [] σ K else K (some (.int (nI 0))) σ := by
  have h8 := O.p8
  intro m
  induction m with
  | zero =>
    intro b hb
    have hb : b = A.np := by omega
    subst hb
    rw [L_349_16, zt_349_16]
    simp (disch := omega) only [↓e_iconst0, ↓e_iconst1, ↓e_bipush0, ↓e_bipush1, ↓e_sipush0, ↓e_sipush1, ↓e_ldc0, ↓e_ldc1, ↓e_ldc_w0, ↓e_ldc_w1, ↓e_ldc2, ↓e_lconst0, ↓e_lconst1, ↓e_ldc2_w0, ↓e_ldc2_w1, ↓e_iload, ↓e_iload_n, ↓e_istore, ↓e_istore_n, ↓e_lload, ↓e_lload_n, ↓e_lstore, ↓e_lstore_n, ↓e_aload, ↓e_aload_n, ↓e_astore, ↓e_astore_n, ↓e_iinc0, ↓e_iinc1, ↓e_iadd, ↓e_isub, ↓e_imul, ↓e_iand, ↓e_ior, ↓e_ixor, ↓e_ishl, ↓e_ishr, ↓e_iushr, ↓e_ladd, ↓e_lsub, ↓e_lmul, ↓e_land, ↓e_lor, ↓e_idiv, ↓e_irem, ↓e_ldiv, ↓e_lrem, ↓e_lshl, ↓e_lcmp, ↓e_i2l, ↓e_l2i, ↓e_i2b, ↓e_i2s, ↓e_dup_int, ↓e_pop_int, ↓e_dup_ref, ↓e_pop_ref, ↓e_dup2, ↓e_goto, ↓e_nop, ↓e_ifCond_eq, ↓e_if_icmp_eq, ↓e_ifCond_ne, ↓e_if_icmp_ne, ↓e_ifCond_lt, ↓e_if_icmp_lt, ↓e_ifCond_ge, ↓e_if_icmp_ge, ↓e_ifCond_gt, ↓e_if_icmp_gt, ↓e_ifCond_le, ↓e_if_icmp_le, ↓e_tab, ↓e_look, ↓e_get0, ↓e_get1, ↓e_get2, ↓e_get3, ↓e_put0, ↓e_put1, ↓e_put2, ↓e_put3, ↓e_iaload, ↓e_laload, ↓e_baload, ↓e_aaload, ↓e_iastore, ↓e_lastore, ↓e_bastore, ↓e_aastore, ↓e_alen, ↓e_new, ↓e_newarray, ↓e_anewarray, ↓e_objinit, ↓e_virt1, ↓e_virt2, ↓e_virt3, ↓e_virt4, ↓e_virt5, ↓e_virt6, ↓e_virt7, ↓e_stat0, ↓e_stat1, ↓e_stat2, ↓e_stat3, ↓e_stat4, ↓e_stat5, ↓e_stat6, ↓e_stat7, ↓e_spec1, ↓e_spec2, ↓e_spec3, ↓e_spec4, ↓e_spec5, ↓e_strlen, ↓e_charAt, ↓e_copy, ↓e_iret0, ↓e_iret1, ↓e_lret, ↓e_aret, ↓e_vret, zIsI_int, zIsL_long, zIsA_ref, zInt_int, true_and, and_true, ↓reduceIte, zGet, zSet, zSet2, zEnt, zWid, Value.category, List.map_cons, List.map_nil, List.sum_cons, List.sum_nil, List.replicate, Option.toList, Nat.reduceAdd, Nat.reduceSub, Nat.reduceMul, Nat.reduceLeDiff, Nat.reduceEqDiff, Nat.reduceLT, List.cons_append, List.nil_append, true_or, or_true, or_false, false_or, M.m.k, M.m.r0, M.m.r1, M.m.r5, M.m.r6, M.m.r7, M.m.r8, M.m.r9, M.m.r21, M.m.r24, M.m.r25, M.m.r28, M.m.r29, M.m.r30, M.m.r31, M.m.r35, M.m.r36, M.m.r37, M.m.r38, M.m.r40, M.m.r43, M.m.r44, M.m.r45, M.m.k121, M.m.k122, M.m.k123, M.m.k124, M.m.k125, M.m.k126, M.m.k127, M.m.k128, M.m.k129, M.m.k130, M.m.k131, M.m.k132, M.m.k133, M.m.k134, M.m.k135, M.m.k136, M.m.k137, M.m.k138, M.m.k139, M.m.k140, M.m.k141, M.m.k142, M.a0, M.a1, M.a2, M.a3, M.a4, M.a5, M.a6, nI_ltI, nI_leI, nI_eq, nI_clamp, zIn_nI, bI_0, nI_add, nI_mul, nI_or, nI_and, nI_shl1, nI_bit, ↓pk_rem, pk_div, Nat.lt_irrefl, Nat.not_lt_zero, reduceCtorEq, Ofc.al2]
  | succ m ih =>
    intro b hb
    have hbn : b < A.np := by omega
    have ih := ih (b + 1) (by omega)
    rw [L_349_16, zt_349_16]
    unfold Ofc.al2
    cases h1 : set.testBit i with
    | false => simp (disch := omega) only [L_349_79, zt_349_79, ↓e_iconst0, ↓e_iconst1, ↓e_bipush0, ↓e_bipush1, ↓e_sipush0, ↓e_sipush1, ↓e_ldc0, ↓e_ldc1, ↓e_ldc_w0, ↓e_ldc_w1, ↓e_ldc2, ↓e_lconst0, ↓e_lconst1, ↓e_ldc2_w0, ↓e_ldc2_w1, ↓e_iload, ↓e_iload_n, ↓e_istore, ↓e_istore_n, ↓e_lload, ↓e_lload_n, ↓e_lstore, ↓e_lstore_n, ↓e_aload, ↓e_aload_n, ↓e_astore, ↓e_astore_n, ↓e_iinc0, ↓e_iinc1, ↓e_iadd, ↓e_isub, ↓e_imul, ↓e_iand, ↓e_ior, ↓e_ixor, ↓e_ishl, ↓e_ishr, ↓e_iushr, ↓e_ladd, ↓e_lsub, ↓e_lmul, ↓e_land, ↓e_lor, ↓e_idiv, ↓e_irem, ↓e_ldiv, ↓e_lrem, ↓e_lshl, ↓e_lcmp, ↓e_i2l, ↓e_l2i, ↓e_i2b, ↓e_i2s, ↓e_dup_int, ↓e_pop_int, ↓e_dup_ref, ↓e_pop_ref, ↓e_dup2, ↓e_goto, ↓e_nop, ↓e_ifCond_eq, ↓e_if_icmp_eq, ↓e_ifCond_ne, ↓e_if_icmp_ne, ↓e_ifCond_lt, ↓e_if_icmp_lt, ↓e_ifCond_ge, ↓e_if_icmp_ge, ↓e_ifCond_gt, ↓e_if_icmp_gt, ↓e_ifCond_le, ↓e_if_icmp_le, ↓e_tab, ↓e_look, ↓e_get0, ↓e_get1, ↓e_get2, ↓e_get3, ↓e_put0, ↓e_put1, ↓e_put2, ↓e_put3, ↓e_iaload, ↓e_laload, ↓e_baload, ↓e_aaload, ↓e_iastore, ↓e_lastore, ↓e_bastore, ↓e_aastore, ↓e_alen, ↓e_new, ↓e_newarray, ↓e_anewarray, ↓e_objinit, ↓e_virt1, ↓e_virt2, ↓e_virt3, ↓e_virt4, ↓e_virt5, ↓e_virt6, ↓e_virt7, ↓e_stat0, ↓e_stat1, ↓e_stat2, ↓e_stat3, ↓e_stat4, ↓e_stat5, ↓e_stat6, ↓e_stat7, ↓e_spec1, ↓e_spec2, ↓e_spec3, ↓e_spec4, ↓e_spec5, ↓e_strlen, ↓e_charAt, ↓e_copy, ↓e_iret0, ↓e_iret1, ↓e_lret, ↓e_aret, ↓e_vret, zIsI_int, zIsL_long, zIsA_ref, zInt_int, true_and, and_true, ↓reduceIte, zGet, zSet, zSet2, zEnt, zWid, Value.category, List.map_cons, List.map_nil, List.sum_cons, List.sum_nil, List.replicate, Option.toList, Nat.reduceAdd, Nat.reduceSub, Nat.reduceMul, Nat.reduceLeDiff, Nat.reduceEqDiff, Nat.reduceLT, List.cons_append, List.nil_append, true_or, or_true, or_false, false_or, M.m.k, M.m.r0, M.m.r1, M.m.r5, M.m.r6, M.m.r7, M.m.r8, M.m.r9, M.m.r21, M.m.r24, M.m.r25, M.m.r28, M.m.r29, M.m.r30, M.m.r31, M.m.r35, M.m.r36, M.m.r37, M.m.r38, M.m.r40, M.m.r43, M.m.r44, M.m.r45, M.m.k121, M.m.k122, M.m.k123, M.m.k124, M.m.k125, M.m.k126, M.m.k127, M.m.k128, M.m.k129, M.m.k130, M.m.k131, M.m.k132, M.m.k133, M.m.k134, M.m.k135, M.m.k136, M.m.k137, M.m.k138, M.m.k139, M.m.k140, M.m.k141, M.m.k142, M.a0, M.a1, M.a2, M.a3, M.a4, M.a5, M.a6, nI_ltI, nI_leI, nI_eq, nI_clamp, zIn_nI, bI_0, nI_add, nI_mul, nI_or, nI_and, nI_shl1, nI_bit, ↓pk_rem, pk_div, Nat.lt_irrefl, Nat.not_lt_zero, reduceCtorEq, hbn, ↓m_isIn, h1, ih, Bool.false_eq_true, false_and]
    | true =>
      cases h2 : set.testBit b with
      | false => simp (disch := omega) only [L_349_79, zt_349_79, ↓e_iconst0, ↓e_iconst1, ↓e_bipush0, ↓e_bipush1, ↓e_sipush0, ↓e_sipush1, ↓e_ldc0, ↓e_ldc1, ↓e_ldc_w0, ↓e_ldc_w1, ↓e_ldc2, ↓e_lconst0, ↓e_lconst1, ↓e_ldc2_w0, ↓e_ldc2_w1, ↓e_iload, ↓e_iload_n, ↓e_istore, ↓e_istore_n, ↓e_lload, ↓e_lload_n, ↓e_lstore, ↓e_lstore_n, ↓e_aload, ↓e_aload_n, ↓e_astore, ↓e_astore_n, ↓e_iinc0, ↓e_iinc1, ↓e_iadd, ↓e_isub, ↓e_imul, ↓e_iand, ↓e_ior, ↓e_ixor, ↓e_ishl, ↓e_ishr, ↓e_iushr, ↓e_ladd, ↓e_lsub, ↓e_lmul, ↓e_land, ↓e_lor, ↓e_idiv, ↓e_irem, ↓e_ldiv, ↓e_lrem, ↓e_lshl, ↓e_lcmp, ↓e_i2l, ↓e_l2i, ↓e_i2b, ↓e_i2s, ↓e_dup_int, ↓e_pop_int, ↓e_dup_ref, ↓e_pop_ref, ↓e_dup2, ↓e_goto, ↓e_nop, ↓e_ifCond_eq, ↓e_if_icmp_eq, ↓e_ifCond_ne, ↓e_if_icmp_ne, ↓e_ifCond_lt, ↓e_if_icmp_lt, ↓e_ifCond_ge, ↓e_if_icmp_ge, ↓e_ifCond_gt, ↓e_if_icmp_gt, ↓e_ifCond_le, ↓e_if_icmp_le, ↓e_tab, ↓e_look, ↓e_get0, ↓e_get1, ↓e_get2, ↓e_get3, ↓e_put0, ↓e_put1, ↓e_put2, ↓e_put3, ↓e_iaload, ↓e_laload, ↓e_baload, ↓e_aaload, ↓e_iastore, ↓e_lastore, ↓e_bastore, ↓e_aastore, ↓e_alen, ↓e_new, ↓e_newarray, ↓e_anewarray, ↓e_objinit, ↓e_virt1, ↓e_virt2, ↓e_virt3, ↓e_virt4, ↓e_virt5, ↓e_virt6, ↓e_virt7, ↓e_stat0, ↓e_stat1, ↓e_stat2, ↓e_stat3, ↓e_stat4, ↓e_stat5, ↓e_stat6, ↓e_stat7, ↓e_spec1, ↓e_spec2, ↓e_spec3, ↓e_spec4, ↓e_spec5, ↓e_strlen, ↓e_charAt, ↓e_copy, ↓e_iret0, ↓e_iret1, ↓e_lret, ↓e_aret, ↓e_vret, zIsI_int, zIsL_long, zIsA_ref, zInt_int, true_and, and_true, ↓reduceIte, zGet, zSet, zSet2, zEnt, zWid, Value.category, List.map_cons, List.map_nil, List.sum_cons, List.sum_nil, List.replicate, Option.toList, Nat.reduceAdd, Nat.reduceSub, Nat.reduceMul, Nat.reduceLeDiff, Nat.reduceEqDiff, Nat.reduceLT, List.cons_append, List.nil_append, true_or, or_true, or_false, false_or, M.m.k, M.m.r0, M.m.r1, M.m.r5, M.m.r6, M.m.r7, M.m.r8, M.m.r9, M.m.r21, M.m.r24, M.m.r25, M.m.r28, M.m.r29, M.m.r30, M.m.r31, M.m.r35, M.m.r36, M.m.r37, M.m.r38, M.m.r40, M.m.r43, M.m.r44, M.m.r45, M.m.k121, M.m.k122, M.m.k123, M.m.k124, M.m.k125, M.m.k126, M.m.k127, M.m.k128, M.m.k129, M.m.k130, M.m.k131, M.m.k132, M.m.k133, M.m.k134, M.m.k135, M.m.k136, M.m.k137, M.m.k138, M.m.k139, M.m.k140, M.m.k141, M.m.k142, M.a0, M.a1, M.a2, M.a3, M.a4, M.a5, M.a6, nI_ltI, nI_leI, nI_eq, nI_clamp, zIn_nI, bI_0, nI_add, nI_mul, nI_or, nI_and, nI_shl1, nI_bit, ↓pk_rem, pk_div, Nat.lt_irrefl, Nat.not_lt_zero, reduceCtorEq, hbn, ↓m_isIn, h1, h2, ih, Bool.false_eq_true, false_and, and_false]
      | true =>
        unfold Ofc.besP
        cases h3 : A.pl i with
        | none => simp (disch := omega) only [L_349_79, zt_349_79, ↓e_iconst0, ↓e_iconst1, ↓e_bipush0, ↓e_bipush1, ↓e_sipush0, ↓e_sipush1, ↓e_ldc0, ↓e_ldc1, ↓e_ldc_w0, ↓e_ldc_w1, ↓e_ldc2, ↓e_lconst0, ↓e_lconst1, ↓e_ldc2_w0, ↓e_ldc2_w1, ↓e_iload, ↓e_iload_n, ↓e_istore, ↓e_istore_n, ↓e_lload, ↓e_lload_n, ↓e_lstore, ↓e_lstore_n, ↓e_aload, ↓e_aload_n, ↓e_astore, ↓e_astore_n, ↓e_iinc0, ↓e_iinc1, ↓e_iadd, ↓e_isub, ↓e_imul, ↓e_iand, ↓e_ior, ↓e_ixor, ↓e_ishl, ↓e_ishr, ↓e_iushr, ↓e_ladd, ↓e_lsub, ↓e_lmul, ↓e_land, ↓e_lor, ↓e_idiv, ↓e_irem, ↓e_ldiv, ↓e_lrem, ↓e_lshl, ↓e_lcmp, ↓e_i2l, ↓e_l2i, ↓e_i2b, ↓e_i2s, ↓e_dup_int, ↓e_pop_int, ↓e_dup_ref, ↓e_pop_ref, ↓e_dup2, ↓e_goto, ↓e_nop, ↓e_ifCond_eq, ↓e_if_icmp_eq, ↓e_ifCond_ne, ↓e_if_icmp_ne, ↓e_ifCond_lt, ↓e_if_icmp_lt, ↓e_ifCond_ge, ↓e_if_icmp_ge, ↓e_ifCond_gt, ↓e_if_icmp_gt, ↓e_ifCond_le, ↓e_if_icmp_le, ↓e_tab, ↓e_look, ↓e_get0, ↓e_get1, ↓e_get2, ↓e_get3, ↓e_put0, ↓e_put1, ↓e_put2, ↓e_put3, ↓e_iaload, ↓e_laload, ↓e_baload, ↓e_aaload, ↓e_iastore, ↓e_lastore, ↓e_bastore, ↓e_aastore, ↓e_alen, ↓e_new, ↓e_newarray, ↓e_anewarray, ↓e_objinit, ↓e_virt1, ↓e_virt2, ↓e_virt3, ↓e_virt4, ↓e_virt5, ↓e_virt6, ↓e_virt7, ↓e_stat0, ↓e_stat1, ↓e_stat2, ↓e_stat3, ↓e_stat4, ↓e_stat5, ↓e_stat6, ↓e_stat7, ↓e_spec1, ↓e_spec2, ↓e_spec3, ↓e_spec4, ↓e_spec5, ↓e_strlen, ↓e_charAt, ↓e_copy, ↓e_iret0, ↓e_iret1, ↓e_lret, ↓e_aret, ↓e_vret, zIsI_int, zIsL_long, zIsA_ref, zInt_int, true_and, and_true, ↓reduceIte, zGet, zSet, zSet2, zEnt, zWid, Value.category, List.map_cons, List.map_nil, List.sum_cons, List.sum_nil, List.replicate, Option.toList, Nat.reduceAdd, Nat.reduceSub, Nat.reduceMul, Nat.reduceLeDiff, Nat.reduceEqDiff, Nat.reduceLT, List.cons_append, List.nil_append, true_or, or_true, or_false, false_or, M.m.k, M.m.r0, M.m.r1, M.m.r5, M.m.r6, M.m.r7, M.m.r8, M.m.r9, M.m.r21, M.m.r24, M.m.r25, M.m.r28, M.m.r29, M.m.r30, M.m.r31, M.m.r35, M.m.r36, M.m.r37, M.m.r38, M.m.r40, M.m.r43, M.m.r44, M.m.r45, M.m.k121, M.m.k122, M.m.k123, M.m.k124, M.m.k125, M.m.k126, M.m.k127, M.m.k128, M.m.k129, M.m.k130, M.m.k131, M.m.k132, M.m.k133, M.m.k134, M.m.k135, M.m.k136, M.m.k137, M.m.k138, M.m.k139, M.m.k140, M.m.k141, M.m.k142, M.a0, M.a1, M.a2, M.a3, M.a4, M.a5, M.a6, nI_ltI, nI_leI, nI_eq, nI_clamp, zIn_nI, bI_0, nI_add, nI_mul, nI_or, nI_and, nI_shl1, nI_bit, ↓pk_rem, pk_div, Nat.lt_irrefl, Nat.not_lt_zero, reduceCtorEq, hbn, ↓m_isIn, h1, h2, ↓m_doesLie M O hi, h3, Option.isSome, ih, Bool.false_eq_true, and_false]
        | some c =>
          cases h4 : A.pl b with
          | none => simp (disch := omega) only [L_349_79, zt_349_79, ↓e_iconst0, ↓e_iconst1, ↓e_bipush0, ↓e_bipush1, ↓e_sipush0, ↓e_sipush1, ↓e_ldc0, ↓e_ldc1, ↓e_ldc_w0, ↓e_ldc_w1, ↓e_ldc2, ↓e_lconst0, ↓e_lconst1, ↓e_ldc2_w0, ↓e_ldc2_w1, ↓e_iload, ↓e_iload_n, ↓e_istore, ↓e_istore_n, ↓e_lload, ↓e_lload_n, ↓e_lstore, ↓e_lstore_n, ↓e_aload, ↓e_aload_n, ↓e_astore, ↓e_astore_n, ↓e_iinc0, ↓e_iinc1, ↓e_iadd, ↓e_isub, ↓e_imul, ↓e_iand, ↓e_ior, ↓e_ixor, ↓e_ishl, ↓e_ishr, ↓e_iushr, ↓e_ladd, ↓e_lsub, ↓e_lmul, ↓e_land, ↓e_lor, ↓e_idiv, ↓e_irem, ↓e_ldiv, ↓e_lrem, ↓e_lshl, ↓e_lcmp, ↓e_i2l, ↓e_l2i, ↓e_i2b, ↓e_i2s, ↓e_dup_int, ↓e_pop_int, ↓e_dup_ref, ↓e_pop_ref, ↓e_dup2, ↓e_goto, ↓e_nop, ↓e_ifCond_eq, ↓e_if_icmp_eq, ↓e_ifCond_ne, ↓e_if_icmp_ne, ↓e_ifCond_lt, ↓e_if_icmp_lt, ↓e_ifCond_ge, ↓e_if_icmp_ge, ↓e_ifCond_gt, ↓e_if_icmp_gt, ↓e_ifCond_le, ↓e_if_icmp_le, ↓e_tab, ↓e_look, ↓e_get0, ↓e_get1, ↓e_get2, ↓e_get3, ↓e_put0, ↓e_put1, ↓e_put2, ↓e_put3, ↓e_iaload, ↓e_laload, ↓e_baload, ↓e_aaload, ↓e_iastore, ↓e_lastore, ↓e_bastore, ↓e_aastore, ↓e_alen, ↓e_new, ↓e_newarray, ↓e_anewarray, ↓e_objinit, ↓e_virt1, ↓e_virt2, ↓e_virt3, ↓e_virt4, ↓e_virt5, ↓e_virt6, ↓e_virt7, ↓e_stat0, ↓e_stat1, ↓e_stat2, ↓e_stat3, ↓e_stat4, ↓e_stat5, ↓e_stat6, ↓e_stat7, ↓e_spec1, ↓e_spec2, ↓e_spec3, ↓e_spec4, ↓e_spec5, ↓e_strlen, ↓e_charAt, ↓e_copy, ↓e_iret0, ↓e_iret1, ↓e_lret, ↓e_aret, ↓e_vret, zIsI_int, zIsL_long, zIsA_ref, zInt_int, true_and, and_true, ↓reduceIte, zGet, zSet, zSet2, zEnt, zWid, Value.category, List.map_cons, List.map_nil, List.sum_cons, List.sum_nil, List.replicate, Option.toList, Nat.reduceAdd, Nat.reduceSub, Nat.reduceMul, Nat.reduceLeDiff, Nat.reduceEqDiff, Nat.reduceLT, List.cons_append, List.nil_append, true_or, or_true, or_false, false_or, M.m.k, M.m.r0, M.m.r1, M.m.r5, M.m.r6, M.m.r7, M.m.r8, M.m.r9, M.m.r21, M.m.r24, M.m.r25, M.m.r28, M.m.r29, M.m.r30, M.m.r31, M.m.r35, M.m.r36, M.m.r37, M.m.r38, M.m.r40, M.m.r43, M.m.r44, M.m.r45, M.m.k121, M.m.k122, M.m.k123, M.m.k124, M.m.k125, M.m.k126, M.m.k127, M.m.k128, M.m.k129, M.m.k130, M.m.k131, M.m.k132, M.m.k133, M.m.k134, M.m.k135, M.m.k136, M.m.k137, M.m.k138, M.m.k139, M.m.k140, M.m.k141, M.m.k142, M.a0, M.a1, M.a2, M.a3, M.a4, M.a5, M.a6, nI_ltI, nI_leI, nI_eq, nI_clamp, zIn_nI, bI_0, nI_add, nI_mul, nI_or, nI_and, nI_shl1, nI_bit, ↓pk_rem, pk_div, Nat.lt_irrefl, Nat.not_lt_zero, reduceCtorEq, hbn, ↓m_isIn, h1, h2, ↓m_doesLie M O hi, ↓m_doesLie M O hbn, h3, h4, Option.isSome, ih, Bool.false_eq_true, and_false]
          | some e =>
            cases h5 : A.bes c e with
            | false => simp (disch := omega) only [L_349_79, zt_349_79, ↓e_iconst0, ↓e_iconst1, ↓e_bipush0, ↓e_bipush1, ↓e_sipush0, ↓e_sipush1, ↓e_ldc0, ↓e_ldc1, ↓e_ldc_w0, ↓e_ldc_w1, ↓e_ldc2, ↓e_lconst0, ↓e_lconst1, ↓e_ldc2_w0, ↓e_ldc2_w1, ↓e_iload, ↓e_iload_n, ↓e_istore, ↓e_istore_n, ↓e_lload, ↓e_lload_n, ↓e_lstore, ↓e_lstore_n, ↓e_aload, ↓e_aload_n, ↓e_astore, ↓e_astore_n, ↓e_iinc0, ↓e_iinc1, ↓e_iadd, ↓e_isub, ↓e_imul, ↓e_iand, ↓e_ior, ↓e_ixor, ↓e_ishl, ↓e_ishr, ↓e_iushr, ↓e_ladd, ↓e_lsub, ↓e_lmul, ↓e_land, ↓e_lor, ↓e_idiv, ↓e_irem, ↓e_ldiv, ↓e_lrem, ↓e_lshl, ↓e_lcmp, ↓e_i2l, ↓e_l2i, ↓e_i2b, ↓e_i2s, ↓e_dup_int, ↓e_pop_int, ↓e_dup_ref, ↓e_pop_ref, ↓e_dup2, ↓e_goto, ↓e_nop, ↓e_ifCond_eq, ↓e_if_icmp_eq, ↓e_ifCond_ne, ↓e_if_icmp_ne, ↓e_ifCond_lt, ↓e_if_icmp_lt, ↓e_ifCond_ge, ↓e_if_icmp_ge, ↓e_ifCond_gt, ↓e_if_icmp_gt, ↓e_ifCond_le, ↓e_if_icmp_le, ↓e_tab, ↓e_look, ↓e_get0, ↓e_get1, ↓e_get2, ↓e_get3, ↓e_put0, ↓e_put1, ↓e_put2, ↓e_put3, ↓e_iaload, ↓e_laload, ↓e_baload, ↓e_aaload, ↓e_iastore, ↓e_lastore, ↓e_bastore, ↓e_aastore, ↓e_alen, ↓e_new, ↓e_newarray, ↓e_anewarray, ↓e_objinit, ↓e_virt1, ↓e_virt2, ↓e_virt3, ↓e_virt4, ↓e_virt5, ↓e_virt6, ↓e_virt7, ↓e_stat0, ↓e_stat1, ↓e_stat2, ↓e_stat3, ↓e_stat4, ↓e_stat5, ↓e_stat6, ↓e_stat7, ↓e_spec1, ↓e_spec2, ↓e_spec3, ↓e_spec4, ↓e_spec5, ↓e_strlen, ↓e_charAt, ↓e_copy, ↓e_iret0, ↓e_iret1, ↓e_lret, ↓e_aret, ↓e_vret, zIsI_int, zIsL_long, zIsA_ref, zInt_int, true_and, and_true, ↓reduceIte, zGet, zSet, zSet2, zEnt, zWid, Value.category, List.map_cons, List.map_nil, List.sum_cons, List.sum_nil, List.replicate, Option.toList, Nat.reduceAdd, Nat.reduceSub, Nat.reduceMul, Nat.reduceLeDiff, Nat.reduceEqDiff, Nat.reduceLT, List.cons_append, List.nil_append, true_or, or_true, or_false, false_or, M.m.k, M.m.r0, M.m.r1, M.m.r5, M.m.r6, M.m.r7, M.m.r8, M.m.r9, M.m.r21, M.m.r24, M.m.r25, M.m.r28, M.m.r29, M.m.r30, M.m.r31, M.m.r35, M.m.r36, M.m.r37, M.m.r38, M.m.r40, M.m.r43, M.m.r44, M.m.r45, M.m.k121, M.m.k122, M.m.k123, M.m.k124, M.m.k125, M.m.k126, M.m.k127, M.m.k128, M.m.k129, M.m.k130, M.m.k131, M.m.k132, M.m.k133, M.m.k134, M.m.k135, M.m.k136, M.m.k137, M.m.k138, M.m.k139, M.m.k140, M.m.k141, M.m.k142, M.a0, M.a1, M.a2, M.a3, M.a4, M.a5, M.a6, nI_ltI, nI_leI, nI_eq, nI_clamp, zIn_nI, bI_0, nI_add, nI_mul, nI_or, nI_and, nI_shl1, nI_bit, ↓pk_rem, pk_div, Nat.lt_irrefl, Nat.not_lt_zero, reduceCtorEq, hbn, ↓m_isIn, h1, h2, ↓m_doesLie M O hi, ↓m_doesLie M O hbn, h3, h4, Option.isSome, ↓m_whereOf M O hi, ↓m_whereOf M O hbn, show ∀ k, oI (some k) = nI k from fun _ => rfl, ↓m_areBeside M O (O.plc i c h3) (O.plc b e h4), h5, ih, Bool.false_eq_true, and_false]
            | true => simp (disch := omega) only [L_349_79, zt_349_79, ↓e_iconst0, ↓e_iconst1, ↓e_bipush0, ↓e_bipush1, ↓e_sipush0, ↓e_sipush1, ↓e_ldc0, ↓e_ldc1, ↓e_ldc_w0, ↓e_ldc_w1, ↓e_ldc2, ↓e_lconst0, ↓e_lconst1, ↓e_ldc2_w0, ↓e_ldc2_w1, ↓e_iload, ↓e_iload_n, ↓e_istore, ↓e_istore_n, ↓e_lload, ↓e_lload_n, ↓e_lstore, ↓e_lstore_n, ↓e_aload, ↓e_aload_n, ↓e_astore, ↓e_astore_n, ↓e_iinc0, ↓e_iinc1, ↓e_iadd, ↓e_isub, ↓e_imul, ↓e_iand, ↓e_ior, ↓e_ixor, ↓e_ishl, ↓e_ishr, ↓e_iushr, ↓e_ladd, ↓e_lsub, ↓e_lmul, ↓e_land, ↓e_lor, ↓e_idiv, ↓e_irem, ↓e_ldiv, ↓e_lrem, ↓e_lshl, ↓e_lcmp, ↓e_i2l, ↓e_l2i, ↓e_i2b, ↓e_i2s, ↓e_dup_int, ↓e_pop_int, ↓e_dup_ref, ↓e_pop_ref, ↓e_dup2, ↓e_goto, ↓e_nop, ↓e_ifCond_eq, ↓e_if_icmp_eq, ↓e_ifCond_ne, ↓e_if_icmp_ne, ↓e_ifCond_lt, ↓e_if_icmp_lt, ↓e_ifCond_ge, ↓e_if_icmp_ge, ↓e_ifCond_gt, ↓e_if_icmp_gt, ↓e_ifCond_le, ↓e_if_icmp_le, ↓e_tab, ↓e_look, ↓e_get0, ↓e_get1, ↓e_get2, ↓e_get3, ↓e_put0, ↓e_put1, ↓e_put2, ↓e_put3, ↓e_iaload, ↓e_laload, ↓e_baload, ↓e_aaload, ↓e_iastore, ↓e_lastore, ↓e_bastore, ↓e_aastore, ↓e_alen, ↓e_new, ↓e_newarray, ↓e_anewarray, ↓e_objinit, ↓e_virt1, ↓e_virt2, ↓e_virt3, ↓e_virt4, ↓e_virt5, ↓e_virt6, ↓e_virt7, ↓e_stat0, ↓e_stat1, ↓e_stat2, ↓e_stat3, ↓e_stat4, ↓e_stat5, ↓e_stat6, ↓e_stat7, ↓e_spec1, ↓e_spec2, ↓e_spec3, ↓e_spec4, ↓e_spec5, ↓e_strlen, ↓e_charAt, ↓e_copy, ↓e_iret0, ↓e_iret1, ↓e_lret, ↓e_aret, ↓e_vret, zIsI_int, zIsL_long, zIsA_ref, zInt_int, true_and, and_true, ↓reduceIte, zGet, zSet, zSet2, zEnt, zWid, Value.category, List.map_cons, List.map_nil, List.sum_cons, List.sum_nil, List.replicate, Option.toList, Nat.reduceAdd, Nat.reduceSub, Nat.reduceMul, Nat.reduceLeDiff, Nat.reduceEqDiff, Nat.reduceLT, List.cons_append, List.nil_append, true_or, or_true, or_false, false_or, M.m.k, M.m.r0, M.m.r1, M.m.r5, M.m.r6, M.m.r7, M.m.r8, M.m.r9, M.m.r21, M.m.r24, M.m.r25, M.m.r28, M.m.r29, M.m.r30, M.m.r31, M.m.r35, M.m.r36, M.m.r37, M.m.r38, M.m.r40, M.m.r43, M.m.r44, M.m.r45, M.m.k121, M.m.k122, M.m.k123, M.m.k124, M.m.k125, M.m.k126, M.m.k127, M.m.k128, M.m.k129, M.m.k130, M.m.k131, M.m.k132, M.m.k133, M.m.k134, M.m.k135, M.m.k136, M.m.k137, M.m.k138, M.m.k139, M.m.k140, M.m.k141, M.m.k142, M.a0, M.a1, M.a2, M.a3, M.a4, M.a5, M.a6, nI_ltI, nI_leI, nI_eq, nI_clamp, zIn_nI, bI_0, nI_add, nI_mul, nI_or, nI_and, nI_shl1, nI_bit, ↓pk_rem, pk_div, Nat.lt_irrefl, Nat.not_lt_zero, reduceCtorEq, hbn, ↓m_isIn, h1, h2, ↓m_doesLie M O hi, ↓m_doesLie M O hbn, h3, h4, Option.isSome, ↓m_whereOf M O hi, ↓m_whereOf M O hbn, show ∀ k, oI (some k) = nI k from fun _ => rfl, ↓m_areBeside M O (O.plc i c h3) (O.plc b e h4), h5, and_self, Bool.false_eq_true]
theorem m_al1 (M : RMod σ A) (O : OfcOk A) {set : Nat} (hs : set < 2 ^ 31) : ∀ (m i : Nat) (j : Value), m + i = A.np →
   zX (d + 3) 349 2 [.ref 120, .int (nI set), .int (nI i), j] [] σ K = K (some (.int (bI (A.al1 set m i)))) σ := by
  have h8 := O.p8
  intro m
  induction m with
  | zero =>
    intro i j hi
    have hi : i = A.np := by omega
    subst hi
    rw [L_349_2, zt_349_2]
    simp (disch := omega) only [L_349_91, zt_349_91, ↓e_iconst0, ↓e_iconst1, ↓e_bipush0, ↓e_bipush1, ↓e_sipush0, ↓e_sipush1, ↓e_ldc0, ↓e_ldc1, ↓e_ldc_w0, ↓e_ldc_w1, ↓e_ldc2, ↓e_lconst0, ↓e_lconst1, ↓e_ldc2_w0, ↓e_ldc2_w1, ↓e_iload, ↓e_iload_n, ↓e_istore, ↓e_istore_n, ↓e_lload, ↓e_lload_n, ↓e_lstore, ↓e_lstore_n, ↓e_aload, ↓e_aload_n, ↓e_astore, ↓e_astore_n, ↓e_iinc0, ↓e_iinc1, ↓e_iadd, ↓e_isub, ↓e_imul, ↓e_iand, ↓e_ior, ↓e_ixor, ↓e_ishl, ↓e_ishr, ↓e_iushr, ↓e_ladd, ↓e_lsub, ↓e_lmul, ↓e_land, ↓e_lor, ↓e_idiv, ↓e_irem, ↓e_ldiv, ↓e_lrem, ↓e_lshl, ↓e_lcmp, ↓e_i2l, ↓e_l2i, ↓e_i2b, ↓e_i2s, ↓e_dup_int, ↓e_pop_int, ↓e_dup_ref, ↓e_pop_ref, ↓e_dup2, ↓e_goto, ↓e_nop, ↓e_ifCond_eq, ↓e_if_icmp_eq, ↓e_ifCond_ne, ↓e_if_icmp_ne, ↓e_ifCond_lt, ↓e_if_icmp_lt, ↓e_ifCond_ge, ↓e_if_icmp_ge, ↓e_ifCond_gt, ↓e_if_icmp_gt, ↓e_ifCond_le, ↓e_if_icmp_le, ↓e_tab, ↓e_look, ↓e_get0, ↓e_get1, ↓e_get2, ↓e_get3, ↓e_put0, ↓e_put1, ↓e_put2, ↓e_put3, ↓e_iaload, ↓e_laload, ↓e_baload, ↓e_aaload, ↓e_iastore, ↓e_lastore, ↓e_bastore, ↓e_aastore, ↓e_alen, ↓e_new, ↓e_newarray, ↓e_anewarray, ↓e_objinit, ↓e_virt1, ↓e_virt2, ↓e_virt3, ↓e_virt4, ↓e_virt5, ↓e_virt6, ↓e_virt7, ↓e_stat0, ↓e_stat1, ↓e_stat2, ↓e_stat3, ↓e_stat4, ↓e_stat5, ↓e_stat6, ↓e_stat7, ↓e_spec1, ↓e_spec2, ↓e_spec3, ↓e_spec4, ↓e_spec5, ↓e_strlen, ↓e_charAt, ↓e_copy, ↓e_iret0, ↓e_iret1, ↓e_lret, ↓e_aret, ↓e_vret, zIsI_int, zIsL_long, zIsA_ref, zInt_int, true_and, and_true, ↓reduceIte, zGet, zSet, zSet2, zEnt, zWid, Value.category, List.map_cons, List.map_nil, List.sum_cons, List.sum_nil, List.replicate, Option.toList, Nat.reduceAdd, Nat.reduceSub, Nat.reduceMul, Nat.reduceLeDiff, Nat.reduceEqDiff, Nat.reduceLT, List.cons_append, List.nil_append, true_or, or_true, or_false, false_or, M.m.k, M.m.r0, M.m.r1, M.m.r5, M.m.r6, M.m.r7, M.m.r8, M.m.r9, M.m.r21, M.m.r24, M.m.r25, M.m.r28, M.m.r29, M.m.r30, M.m.r31, M.m.r35, M.m.r36, M.m.r37, M.m.r38, M.m.r40, M.m.r43, M.m.r44, M.m.r45, M.m.k121, M.m.k122, M.m.k123, M.m.k124, M.m.k125, M.m.k126, M.m.k127, M.m.k128, M.m.k129, M.m.k130, M.m.k131, M.m.k132, M.m.k133, M.m.k134, M.m.k135, M.m.k136, M.m.k137, M.m.k138, M.m.k139, M.m.k140, M.m.k141, M.m.k142, M.a0, M.a1, M.a2, M.a3, M.a4, M.a5, M.a6, nI_ltI, nI_leI, nI_eq, nI_clamp, zIn_nI, bI_0, nI_add, nI_mul, nI_or, nI_and, nI_shl1, nI_bit, ↓pk_rem, pk_div, Nat.lt_irrefl, Nat.not_lt_zero, reduceCtorEq]
    rfl
  | succ m ih =>
    intro i j hi
    have hin : i < A.np := by omega
    have ih := ih (i + 1) (.int (nI A.np)) (by omega)
    rw [L_349_2, zt_349_2]
    simp (disch := omega) only [↓e_iconst0, ↓e_iconst1, ↓e_bipush0, ↓e_bipush1, ↓e_sipush0, ↓e_sipush1, ↓e_ldc0, ↓e_ldc1, ↓e_ldc_w0, ↓e_ldc_w1, ↓e_ldc2, ↓e_lconst0, ↓e_lconst1, ↓e_ldc2_w0, ↓e_ldc2_w1, ↓e_iload, ↓e_iload_n, ↓e_istore, ↓e_istore_n, ↓e_lload, ↓e_lload_n, ↓e_lstore, ↓e_lstore_n, ↓e_aload, ↓e_aload_n, ↓e_astore, ↓e_astore_n, ↓e_iinc0, ↓e_iinc1, ↓e_iadd, ↓e_isub, ↓e_imul, ↓e_iand, ↓e_ior, ↓e_ixor, ↓e_ishl, ↓e_ishr, ↓e_iushr, ↓e_ladd, ↓e_lsub, ↓e_lmul, ↓e_land, ↓e_lor, ↓e_idiv, ↓e_irem, ↓e_ldiv, ↓e_lrem, ↓e_lshl, ↓e_lcmp, ↓e_i2l, ↓e_l2i, ↓e_i2b, ↓e_i2s, ↓e_dup_int, ↓e_pop_int, ↓e_dup_ref, ↓e_pop_ref, ↓e_dup2, ↓e_goto, ↓e_nop, ↓e_ifCond_eq, ↓e_if_icmp_eq, ↓e_ifCond_ne, ↓e_if_icmp_ne, ↓e_ifCond_lt, ↓e_if_icmp_lt, ↓e_ifCond_ge, ↓e_if_icmp_ge, ↓e_ifCond_gt, ↓e_if_icmp_gt, ↓e_ifCond_le, ↓e_if_icmp_le, ↓e_tab, ↓e_look, ↓e_get0, ↓e_get1, ↓e_get2, ↓e_get3, ↓e_put0, ↓e_put1, ↓e_put2, ↓e_put3, ↓e_iaload, ↓e_laload, ↓e_baload, ↓e_aaload, ↓e_iastore, ↓e_lastore, ↓e_bastore, ↓e_aastore, ↓e_alen, ↓e_new, ↓e_newarray, ↓e_anewarray, ↓e_objinit, ↓e_virt1, ↓e_virt2, ↓e_virt3, ↓e_virt4, ↓e_virt5, ↓e_virt6, ↓e_virt7, ↓e_stat0, ↓e_stat1, ↓e_stat2, ↓e_stat3, ↓e_stat4, ↓e_stat5, ↓e_stat6, ↓e_stat7, ↓e_spec1, ↓e_spec2, ↓e_spec3, ↓e_spec4, ↓e_spec5, ↓e_strlen, ↓e_charAt, ↓e_copy, ↓e_iret0, ↓e_iret1, ↓e_lret, ↓e_aret, ↓e_vret, zIsI_int, zIsL_long, zIsA_ref, zInt_int, true_and, and_true, ↓reduceIte, zGet, zSet, zSet2, zEnt, zWid, Value.category, List.map_cons, List.map_nil, List.sum_cons, List.sum_nil, List.replicate, Option.toList, Nat.reduceAdd, Nat.reduceSub, Nat.reduceMul, Nat.reduceLeDiff, Nat.reduceEqDiff, Nat.reduceLT, List.cons_append, List.nil_append, true_or, or_true, or_false, false_or, M.m.k, M.m.r0, M.m.r1, M.m.r5, M.m.r6, M.m.r7, M.m.r8, M.m.r9, M.m.r21, M.m.r24, M.m.r25, M.m.r28, M.m.r29, M.m.r30, M.m.r31, M.m.r35, M.m.r36, M.m.r37, M.m.r38, M.m.r40, M.m.r43, M.m.r44, M.m.r45, M.m.k121, M.m.k122, M.m.k123, M.m.k124, M.m.k125, M.m.k126, M.m.k127, M.m.k128, M.m.k129, M.m.k130, M.m.k131, M.m.k132, M.m.k133, M.m.k134, M.m.k135, M.m.k136, M.m.k137, M.m.k138, M.m.k139, M.m.k140, M.m.k141, M.m.k142, M.a0, M.a1, M.a2, M.a3, M.a4, M.a5, M.a6, nI_ltI, nI_leI, nI_eq, nI_clamp, zIn_nI, bI_0, nI_add, nI_mul, nI_or, nI_and, nI_shl1, nI_bit, ↓pk_rem, pk_div, Nat.lt_irrefl, Nat.not_lt_zero, reduceCtorEq, hin]
    rw [m_al2 M O hs hin m (i + 1) (by omega)]
    unfold Ofc.al1
    cases A.al2 set i m (i + 1) with
    | false => rfl
    | true =>
      simp (disch := omega) only [L_349_85, zt_349_85, ↓e_iconst0, ↓e_iconst1, ↓e_bipush0, ↓e_bipush1, ↓e_sipush0, ↓e_sipush1, ↓e_ldc0, ↓e_ldc1, ↓e_ldc_w0, ↓e_ldc_w1, ↓e_ldc2, ↓e_lconst0, ↓e_lconst1, ↓e_ldc2_w0, ↓e_ldc2_w1, ↓e_iload, ↓e_iload_n, ↓e_istore, ↓e_istore_n, ↓e_lload, ↓e_lload_n, ↓e_lstore, ↓e_lstore_n, ↓e_aload, ↓e_aload_n, ↓e_astore, ↓e_astore_n, ↓e_iinc0, ↓e_iinc1, ↓e_iadd, ↓e_isub, ↓e_imul, ↓e_iand, ↓e_ior, ↓e_ixor, ↓e_ishl, ↓e_ishr, ↓e_iushr, ↓e_ladd, ↓e_lsub, ↓e_lmul, ↓e_land, ↓e_lor, ↓e_idiv, ↓e_irem, ↓e_ldiv, ↓e_lrem, ↓e_lshl, ↓e_lcmp, ↓e_i2l, ↓e_l2i, ↓e_i2b, ↓e_i2s, ↓e_dup_int, ↓e_pop_int, ↓e_dup_ref, ↓e_pop_ref, ↓e_dup2, ↓e_goto, ↓e_nop, ↓e_ifCond_eq, ↓e_if_icmp_eq, ↓e_ifCond_ne, ↓e_if_icmp_ne, ↓e_ifCond_lt, ↓e_if_icmp_lt, ↓e_ifCond_ge, ↓e_if_icmp_ge, ↓e_ifCond_gt, ↓e_if_icmp_gt, ↓e_ifCond_le, ↓e_if_icmp_le, ↓e_tab, ↓e_look, ↓e_get0, ↓e_get1, ↓e_get2, ↓e_get3, ↓e_put0, ↓e_put1, ↓e_put2, ↓e_put3, ↓e_iaload, ↓e_laload, ↓e_baload, ↓e_aaload, ↓e_iastore, ↓e_lastore, ↓e_bastore, ↓e_aastore, ↓e_alen, ↓e_new, ↓e_newarray, ↓e_anewarray, ↓e_objinit, ↓e_virt1, ↓e_virt2, ↓e_virt3, ↓e_virt4, ↓e_virt5, ↓e_virt6, ↓e_virt7, ↓e_stat0, ↓e_stat1, ↓e_stat2, ↓e_stat3, ↓e_stat4, ↓e_stat5, ↓e_stat6, ↓e_stat7, ↓e_spec1, ↓e_spec2, ↓e_spec3, ↓e_spec4, ↓e_spec5, ↓e_strlen, ↓e_charAt, ↓e_copy, ↓e_iret0, ↓e_iret1, ↓e_lret, ↓e_aret, ↓e_vret, zIsI_int, zIsL_long, zIsA_ref, zInt_int, true_and, and_true, ↓reduceIte, zGet, zSet, zSet2, zEnt, zWid, Value.category, List.map_cons, List.map_nil, List.sum_cons, List.sum_nil, List.replicate, Option.toList, Nat.reduceAdd, Nat.reduceSub, Nat.reduceMul, Nat.reduceLeDiff, Nat.reduceEqDiff, Nat.reduceLT, List.cons_append, List.nil_append, true_or, or_true, or_false, false_or, M.m.k, M.m.r0, M.m.r1, M.m.r5, M.m.r6, M.m.r7, M.m.r8, M.m.r9, M.m.r21, M.m.r24, M.m.r25, M.m.r28, M.m.r29, M.m.r30, M.m.r31, M.m.r35, M.m.r36, M.m.r37, M.m.r38, M.m.r40, M.m.r43, M.m.r44, M.m.r45, M.m.k121, M.m.k122, M.m.k123, M.m.k124, M.m.k125, M.m.k126, M.m.k127, M.m.k128, M.m.k129, M.m.k130, M.m.k131, M.m.k132, M.m.k133, M.m.k134, M.m.k135, M.m.k136, M.m.k137, M.m.k138, M.m.k139, M.m.k140, M.m.k141, M.m.k142, M.a0, M.a1, M.a2, M.a3, M.a4, M.a5, M.a6, nI_ltI, nI_leI, nI_eq, nI_clamp, zIn_nI, bI_0, nI_add, nI_mul, nI_or, nI_and, nI_shl1, nI_bit, ↓pk_rem, pk_div, Nat.lt_irrefl, Nat.not_lt_zero, reduceCtorEq, ih]
theorem m_liesAlone (M : RMod σ A) (O : OfcOk A) {set : Nat} (hs : set < 2 ^ 31) :
   zC (d + 4) 349 [.ref 120, .int (nI set)] σ K = K (some (.int (bI (A.alone set)))) σ := by
  rw [← al1_alone O]
  rw [E_349]
  simp (disch := omega) only [L_349_0, zt_349_0, ↓e_iconst0, ↓e_iconst1, ↓e_bipush0, ↓e_bipush1, ↓e_sipush0, ↓e_sipush1, ↓e_ldc0, ↓e_ldc1, ↓e_ldc_w0, ↓e_ldc_w1, ↓e_ldc2, ↓e_lconst0, ↓e_lconst1, ↓e_ldc2_w0, ↓e_ldc2_w1, ↓e_iload, ↓e_iload_n, ↓e_istore, ↓e_istore_n, ↓e_lload, ↓e_lload_n, ↓e_lstore, ↓e_lstore_n, ↓e_aload, ↓e_aload_n, ↓e_astore, ↓e_astore_n, ↓e_iinc0, ↓e_iinc1, ↓e_iadd, ↓e_isub, ↓e_imul, ↓e_iand, ↓e_ior, ↓e_ixor, ↓e_ishl, ↓e_ishr, ↓e_iushr, ↓e_ladd, ↓e_lsub, ↓e_lmul, ↓e_land, ↓e_lor, ↓e_idiv, ↓e_irem, ↓e_ldiv, ↓e_lrem, ↓e_lshl, ↓e_lcmp, ↓e_i2l, ↓e_l2i, ↓e_i2b, ↓e_i2s, ↓e_dup_int, ↓e_pop_int, ↓e_dup_ref, ↓e_pop_ref, ↓e_dup2, ↓e_goto, ↓e_nop, ↓e_ifCond_eq, ↓e_if_icmp_eq, ↓e_ifCond_ne, ↓e_if_icmp_ne, ↓e_ifCond_lt, ↓e_if_icmp_lt, ↓e_ifCond_ge, ↓e_if_icmp_ge, ↓e_ifCond_gt, ↓e_if_icmp_gt, ↓e_ifCond_le, ↓e_if_icmp_le, ↓e_tab, ↓e_look, ↓e_get0, ↓e_get1, ↓e_get2, ↓e_get3, ↓e_put0, ↓e_put1, ↓e_put2, ↓e_put3, ↓e_iaload, ↓e_laload, ↓e_baload, ↓e_aaload, ↓e_iastore, ↓e_lastore, ↓e_bastore, ↓e_aastore, ↓e_alen, ↓e_new, ↓e_newarray, ↓e_anewarray, ↓e_objinit, ↓e_virt1, ↓e_virt2, ↓e_virt3, ↓e_virt4, ↓e_virt5, ↓e_virt6, ↓e_virt7, ↓e_stat0, ↓e_stat1, ↓e_stat2, ↓e_stat3, ↓e_stat4, ↓e_stat5, ↓e_stat6, ↓e_stat7, ↓e_spec1, ↓e_spec2, ↓e_spec3, ↓e_spec4, ↓e_spec5, ↓e_strlen, ↓e_charAt, ↓e_copy, ↓e_iret0, ↓e_iret1, ↓e_lret, ↓e_aret, ↓e_vret, zIsI_int, zIsL_long, zIsA_ref, zInt_int, true_and, and_true, ↓reduceIte, zGet, zSet, zSet2, zEnt, zWid, Value.category, List.map_cons, List.map_nil, List.sum_cons, List.sum_nil, List.replicate, Option.toList, Nat.reduceAdd, Nat.reduceSub, Nat.reduceMul, Nat.reduceLeDiff, Nat.reduceEqDiff, Nat.reduceLT, List.cons_append, List.nil_append, true_or, or_true, or_false, false_or, M.m.k, M.m.r0, M.m.r1, M.m.r5, M.m.r6, M.m.r7, M.m.r8, M.m.r9, M.m.r21, M.m.r24, M.m.r25, M.m.r28, M.m.r29, M.m.r30, M.m.r31, M.m.r35, M.m.r36, M.m.r37, M.m.r38, M.m.r40, M.m.r43, M.m.r44, M.m.r45, M.m.k121, M.m.k122, M.m.k123, M.m.k124, M.m.k125, M.m.k126, M.m.k127, M.m.k128, M.m.k129, M.m.k130, M.m.k131, M.m.k132, M.m.k133, M.m.k134, M.m.k135, M.m.k136, M.m.k137, M.m.k138, M.m.k139, M.m.k140, M.m.k141, M.m.k142, M.a0, M.a1, M.a2, M.a3, M.a4, M.a5, M.a6, nI_ltI, nI_leI, nI_eq, nI_clamp, zIn_nI, bI_0, nI_add, nI_mul, nI_or, nI_and, nI_shl1, nI_bit, ↓pk_rem, pk_div, Nat.lt_irrefl, Nat.not_lt_zero, reduceCtorEq]
  exact m_al1 M O hs A.np 0 .null rfl
def cmpB (x i : Nat) : Bool := (255 - x).testBit i == !(x.testBit i)
theorem cmpB_t : ∀ x, x < 256 → ∀ i, i < 8 → cmpB x i = true := by decide +kernel
theorem cmp_bit {x i : Nat} (hx : x < 256) (hi : i < 8) : (255 - x).testBit i = !(x.testBit i) := by
  have := cmpB_t x hx i hi
  unfold cmpB at this
  rw [beq_iff_eq] at this
  exact this
theorem bit8 {x i : Nat} (hx : x < 256) (h : x.testBit i = true) : i < 8 := by
  refine Classical.byContradiction (fun hn => ?_)
  rw [Nat.testBit_lt_two_pow (Nat.lt_of_lt_of_le hx (show 256 ≤ 2 ^ i from Nat.pow_le_pow_right (n := 2) (by decide) (show 8 ≤ i by omega)))] at h
  cases h
/-- a set within another -/
theorem within_bit {s p : Nat} (hs : s < 256) (hp : p < 256) (h : s &&& (255 - p) = 0) (i : Nat) (hi : s.testBit i = true) : p.testBit i = true := by
  have h8 := bit8 hs hi
  have h1 : (s &&& (255 - p)).testBit i = true → False := fun h2 => by rw [h, Nat.zero_testBit] at h2; cases h2
  cases hpi : p.testBit i with
  | true => rfl
  | false =>
    refine (h1 ?_).elim
    rw [Nat.testBit_and, hi, cmp_bit hp h8, hpi]
    rfl
theorem within_pop {s p : Nat} (hs : s < 256) (hp : p < 256) (h : s &&& (255 - p) = 0) (hne : s ≠ p) : pop s < pop p ∧ s < p := by
  have hsub := within_bit hs hp h
  have hex : ∃ i, p.testBit i = true ∧ s.testBit i = false := by
    refine Classical.byContradiction (fun hn => hne (Nat.eq_of_testBit_eq (fun i => ?_)))
    cases hi : s.testBit i with
    | true => exact (hsub i hi).symm
    | false =>
      cases hpi : p.testBit i with
      | false => rfl
      | true => exact absurd ⟨i, hpi, hi⟩ hn
  obtain ⟨i, h1, h2⟩ := hex
  refine ⟨?_, ?_⟩
  · rw [pop_ct, pop_ct]
    refine sm_lt (k := i) (fun j _ => ?_) (bit8 hp h1) ?_
    · show (if s.testBit j = true then 1 else 0) ≤ (if p.testBit j = true then 1 else 0)
      by_cases hj : s.testBit j = true
      · rw [if_pos hj, if_pos (hsub j hj)]; exact Nat.le_refl _
      · rw [if_neg hj]; exact Nat.zero_le _
    · show (if s.testBit i = true then 1 else 0) < (if p.testBit i = true then 1 else 0)
      rw [h1, h2]
      decide
  · have e : s ||| p = p := by
      refine Nat.eq_of_testBit_eq (fun j => ?_)
      rw [Nat.testBit_or]
      cases hj : s.testBit j with
      | true => rw [hsub j hj]; rfl
      | false => rfl
    have : s ≤ s ||| p := Nat.left_le_or
    omega
theorem alone_0 (O : OfcOk A) : A.alone 0 = true := (alone_iff O 0).mpr (fun i j h => by rw [Nat.zero_testBit] at h; cases h)
theorem and_cmp {p : Nat} (hp : p < 256) : p &&& (255 - p) = 0 := by
  refine Nat.eq_of_testBit_eq (fun i => ?_)
  rw [Nat.testBit_and, Nat.zero_testBit]
  cases h : p.testBit i with
  | false => rfl
  | true => rw [cmp_bit hp (bit8 hp h), h]; rfl
def Ofc.hideM (A : Ofc) (papers set : Nat) (o : Option Nat) : Option Nat := if set &&& (255 - papers) = 0 ∧ (∀ b, o = some b → pop set < pop b) ∧ A.alone (papers &&& (255 - set)) = true then some set else o
theorem hide_to (O : OfcOk A) {papers : Nat} (hp : papers < 256) : ∀ n, n ≤ papers → zfor (A.hideG papers) n papers = (zfor (A.hideM papers) n none).getD papers ∧ (∀ b, zfor (A.hideM papers) n none = some b → b < 256 ∧ b &&& (255 - papers) = 0) := by
  intro n
  induction n with
  | zero => intro _; exact ⟨rfl, fun b h => by cases h⟩
  | succ n ih =>
    intro hn
    obtain ⟨h1, h2⟩ := ih (by omega)
    have e1 : zfor (A.hideG papers) (n + 1) papers = A.hideG papers n (zfor (A.hideG papers) n papers) := rfl
    have e2 : zfor (A.hideM papers) (n + 1) none = A.hideM papers n (zfor (A.hideM papers) n none) := rfl
    rw [e1, e2, h1]
    generalize zfor (A.hideM papers) n none = o at h1 h2
    unfold Ofc.hideG Ofc.hideM
    by_cases hw : n &&& (255 - papers) = 0
    · have hlt := (within_pop (by omega) hp hw (by omega)).1
      have hc : pop n < pop (o.getD papers) ↔ ∀ b, o = some b → pop n < pop b := by
        cases o with
        | none => exact ⟨fun _ b h => (by cases h), fun _ => hlt⟩
        | some b => exact ⟨fun h b' hb => (by cases hb; exact h), fun h => h b rfl⟩
      by_cases ha : A.alone (papers &&& (255 - n)) = true
      · by_cases hq : pop n < pop (o.getD papers)
        · rw [if_pos ⟨hw, hq, ha⟩, if_pos ⟨hw, hc.mp hq, ha⟩]
          exact ⟨rfl, fun b hb => by cases hb; exact ⟨by omega, hw⟩⟩
        · rw [if_neg (fun h => hq h.2.1), if_neg (fun h => hq (hc.mpr h.2.1))]
          exact ⟨rfl, h2⟩
      · rw [if_neg (fun h => ha h.2.2), if_neg (fun h => ha h.2.2)]
        exact ⟨rfl, h2⟩
    · rw [if_neg (fun h => hw h.1), if_neg (fun h => hw h.1)]
      exact ⟨rfl, h2⟩
theorem hide_eq (O : OfcOk A) {papers : Nat} (hp : papers < 256) : zfor (A.hideM papers) (papers + 1) none = some (A.hide papers) := by
  obtain ⟨h1, h2⟩ := hide_to O hp papers (Nat.le_refl _)
  have e2 : zfor (A.hideM papers) (papers + 1) none = A.hideM papers papers (zfor (A.hideM papers) papers none) := rfl
  have e3 : ∀ k, papers ≤ k → k ≤ 256 → zfor (A.hideG papers) k papers = zfor (A.hideG papers) papers papers := by
    intro k hk hk2
    obtain ⟨m, rfl⟩ := Nat.le.dest hk
    clear hk
    induction m with
    | zero => rfl
    | succ m ih =>
      have e : zfor (A.hideG papers) (papers + (m + 1)) papers = A.hideG papers (papers + m) (zfor (A.hideG papers) (papers + m) papers) := rfl
      rw [e, ih (by omega), h1]
      unfold Ofc.hideG
      refine if_neg (fun h => ?_)
      by_cases hm : papers + m = papers
      · have hq := h.2.1
        rw [hm] at hq
        cases ho : zfor (A.hideM papers) papers none with
        | none => rw [ho] at hq; exact Nat.lt_irrefl _ hq
        | some b =>
          rw [ho] at hq
          obtain ⟨b1, b2⟩ := h2 b ho
          by_cases hbp : b = papers
          · rw [hbp] at hq; exact Nat.lt_irrefl _ hq
          · have := (within_pop b1 hp b2 hbp).1
            have hq : pop papers < pop b := hq
            omega
      · have := (within_pop (by omega) hp h.1 hm).2
        omega
  have e4 : A.hide papers = zfor (A.hideG papers) papers papers := e3 256 (by omega) (Nat.le_refl _)
  rw [e2, e4, h1]
  cases ho : zfor (A.hideM papers) papers none with
  | none =>
    unfold Ofc.hideM
    rw [if_pos ⟨and_cmp hp, fun b h => (by cases h), by rw [and_cmp hp]; exact alone_0 O⟩]
    rfl
  | some b =>
    unfold Ofc.hideM
    obtain ⟨b1, b2⟩ := h2 b ho
    rw [if_neg (fun h => ?_)]
    · rfl
    · have hq := h.2.1 b rfl
      by_cases hbp : b = papers
      · rw [hbp] at hq; exact Nat.lt_irrefl _ hq
      · have := (within_pop b1 hp b2 hbp).1
        omega
theorem m_hiding (M : RMod σ A) (O : OfcOk A) {papers : Nat} (hp : papers < 256) :
   zC (d + 5) 350 [.ref 120, .int (nI papers)] σ K = K (some (.int (nI (A.hide papers)))) σ := by
  have hh := hide_eq O hp
  rw [E_350]
  simp (disch := omega) only [L_350_0, zt_350_0, ↓e_iconst0, ↓e_iconst1, ↓e_bipush0, ↓e_bipush1, ↓e_sipush0, ↓e_sipush1, ↓e_ldc0, ↓e_ldc1, ↓e_ldc_w0, ↓e_ldc_w1, ↓e_ldc2, ↓e_lconst0, ↓e_lconst1, ↓e_ldc2_w0, ↓e_ldc2_w1, ↓e_iload, ↓e_iload_n, ↓e_istore, ↓e_istore_n, ↓e_lload, ↓e_lload_n, ↓e_lstore, ↓e_lstore_n, ↓e_aload, ↓e_aload_n, ↓e_astore, ↓e_astore_n, ↓e_iinc0, ↓e_iinc1, ↓e_iadd, ↓e_isub, ↓e_imul, ↓e_iand, ↓e_ior, ↓e_ixor, ↓e_ishl, ↓e_ishr, ↓e_iushr, ↓e_ladd, ↓e_lsub, ↓e_lmul, ↓e_land, ↓e_lor, ↓e_idiv, ↓e_irem, ↓e_ldiv, ↓e_lrem, ↓e_lshl, ↓e_lcmp, ↓e_i2l, ↓e_l2i, ↓e_i2b, ↓e_i2s, ↓e_dup_int, ↓e_pop_int, ↓e_dup_ref, ↓e_pop_ref, ↓e_dup2, ↓e_goto, ↓e_nop, ↓e_ifCond_eq, ↓e_if_icmp_eq, ↓e_ifCond_ne, ↓e_if_icmp_ne, ↓e_ifCond_lt, ↓e_if_icmp_lt, ↓e_ifCond_ge, ↓e_if_icmp_ge, ↓e_ifCond_gt, ↓e_if_icmp_gt, ↓e_ifCond_le, ↓e_if_icmp_le, ↓e_tab, ↓e_look, ↓e_get0, ↓e_get1, ↓e_get2, ↓e_get3, ↓e_put0, ↓e_put1, ↓e_put2, ↓e_put3, ↓e_iaload, ↓e_laload, ↓e_baload, ↓e_aaload, ↓e_iastore, ↓e_lastore, ↓e_bastore, ↓e_aastore, ↓e_alen, ↓e_new, ↓e_newarray, ↓e_anewarray, ↓e_objinit, ↓e_virt1, ↓e_virt2, ↓e_virt3, ↓e_virt4, ↓e_virt5, ↓e_virt6, ↓e_virt7, ↓e_stat0, ↓e_stat1, ↓e_stat2, ↓e_stat3, ↓e_stat4, ↓e_stat5, ↓e_stat6, ↓e_stat7, ↓e_spec1, ↓e_spec2, ↓e_spec3, ↓e_spec4, ↓e_spec5, ↓e_strlen, ↓e_charAt, ↓e_copy, ↓e_iret0, ↓e_iret1, ↓e_lret, ↓e_aret, ↓e_vret, zIsI_int, zIsL_long, zIsA_ref, zInt_int, true_and, and_true, ↓reduceIte, zGet, zSet, zSet2, zEnt, zWid, Value.category, List.map_cons, List.map_nil, List.sum_cons, List.sum_nil, List.replicate, Option.toList, Nat.reduceAdd, Nat.reduceSub, Nat.reduceMul, Nat.reduceLeDiff, Nat.reduceEqDiff, Nat.reduceLT, List.cons_append, List.nil_append, true_or, or_true, or_false, false_or, M.m.k, M.m.r0, M.m.r1, M.m.r5, M.m.r6, M.m.r7, M.m.r8, M.m.r9, M.m.r21, M.m.r24, M.m.r25, M.m.r28, M.m.r29, M.m.r30, M.m.r31, M.m.r35, M.m.r36, M.m.r37, M.m.r38, M.m.r40, M.m.r43, M.m.r44, M.m.r45, M.m.k121, M.m.k122, M.m.k123, M.m.k124, M.m.k125, M.m.k126, M.m.k127, M.m.k128, M.m.k129, M.m.k130, M.m.k131, M.m.k132, M.m.k133, M.m.k134, M.m.k135, M.m.k136, M.m.k137, M.m.k138, M.m.k139, M.m.k140, M.m.k141, M.m.k142, M.a0, M.a1, M.a2, M.a3, M.a4, M.a5, M.a6, nI_ltI, nI_leI, nI_eq, nI_clamp, zIn_nI, bI_0, nI_add, nI_mul, nI_or, nI_and, nI_shl1, nI_bit, ↓pk_rem, pk_div, Nat.lt_irrefl, Nat.not_lt_zero, reduceCtorEq]
  have st : ∀ (i : Nat) (o : Option Nat) (j : Unit), i < papers + 1 → (∀ b, o = some b → b < 256) → ∃ j' : Unit, zX (d + 4) 350 4 [.ref 120, .int (nI papers), .int (oI o), .int (nI i)] [] σ K = zX (d + 4) 350 4 [.ref 120, .int (nI papers), .int (oI (A.hideM papers i o)), .int (nI (i + 1))] [] σ K := by
    intro i o j hi ho
    refine ⟨(), ?_⟩
    have hi6 : i < 256 := by omega
    have p1 := pop8 i
    have hz : i &&& (255 - papers) < 256 := and256 hi6
    have hni : ¬ papers < i := by omega
    have hz2 : papers &&& (255 - i) < 2 ^ 31 := Nat.lt_trans (and256 hp) (by decide)
    rw [L_350_4, zt_350_4]
    unfold Ofc.hideM
    by_cases h1 : i &&& (255 - papers) = 0
    · cases o with
      | none =>
        have t : (∀ b, (none : Option Nat) = some b → pop i < pop b) = True := eq_true (fun b h => by cases h)
        cases h3 : A.alone (papers &&& (255 - i)) <;>
        simp (disch := omega) only [L_350_36, zt_350_36, L_350_50, zt_350_50, ↓e_iconst0, ↓e_iconst1, ↓e_bipush0, ↓e_bipush1, ↓e_sipush0, ↓e_sipush1, ↓e_ldc0, ↓e_ldc1, ↓e_ldc_w0, ↓e_ldc_w1, ↓e_ldc2, ↓e_lconst0, ↓e_lconst1, ↓e_ldc2_w0, ↓e_ldc2_w1, ↓e_iload, ↓e_iload_n, ↓e_istore, ↓e_istore_n, ↓e_lload, ↓e_lload_n, ↓e_lstore, ↓e_lstore_n, ↓e_aload, ↓e_aload_n, ↓e_astore, ↓e_astore_n, ↓e_iinc0, ↓e_iinc1, ↓e_iadd, ↓e_isub, ↓e_imul, ↓e_iand, ↓e_ior, ↓e_ixor, ↓e_ishl, ↓e_ishr, ↓e_iushr, ↓e_ladd, ↓e_lsub, ↓e_lmul, ↓e_land, ↓e_lor, ↓e_idiv, ↓e_irem, ↓e_ldiv, ↓e_lrem, ↓e_lshl, ↓e_lcmp, ↓e_i2l, ↓e_l2i, ↓e_i2b, ↓e_i2s, ↓e_dup_int, ↓e_pop_int, ↓e_dup_ref, ↓e_pop_ref, ↓e_dup2, ↓e_goto, ↓e_nop, ↓e_ifCond_eq, ↓e_if_icmp_eq, ↓e_ifCond_ne, ↓e_if_icmp_ne, ↓e_ifCond_lt, ↓e_if_icmp_lt, ↓e_ifCond_ge, ↓e_if_icmp_ge, ↓e_ifCond_gt, ↓e_if_icmp_gt, ↓e_ifCond_le, ↓e_if_icmp_le, ↓e_tab, ↓e_look, ↓e_get0, ↓e_get1, ↓e_get2, ↓e_get3, ↓e_put0, ↓e_put1, ↓e_put2, ↓e_put3, ↓e_iaload, ↓e_laload, ↓e_baload, ↓e_aaload, ↓e_iastore, ↓e_lastore, ↓e_bastore, ↓e_aastore, ↓e_alen, ↓e_new, ↓e_newarray, ↓e_anewarray, ↓e_objinit, ↓e_virt1, ↓e_virt2, ↓e_virt3, ↓e_virt4, ↓e_virt5, ↓e_virt6, ↓e_virt7, ↓e_stat0, ↓e_stat1, ↓e_stat2, ↓e_stat3, ↓e_stat4, ↓e_stat5, ↓e_stat6, ↓e_stat7, ↓e_spec1, ↓e_spec2, ↓e_spec3, ↓e_spec4, ↓e_spec5, ↓e_strlen, ↓e_charAt, ↓e_copy, ↓e_iret0, ↓e_iret1, ↓e_lret, ↓e_aret, ↓e_vret, zIsI_int, zIsL_long, zIsA_ref, zInt_int, true_and, and_true, ↓reduceIte, zGet, zSet, zSet2, zEnt, zWid, Value.category, List.map_cons, List.map_nil, List.sum_cons, List.sum_nil, List.replicate, Option.toList, Nat.reduceAdd, Nat.reduceSub, Nat.reduceMul, Nat.reduceLeDiff, Nat.reduceEqDiff, Nat.reduceLT, List.cons_append, List.nil_append, true_or, or_true, or_false, false_or, M.m.k, M.m.r0, M.m.r1, M.m.r5, M.m.r6, M.m.r7, M.m.r8, M.m.r9, M.m.r21, M.m.r24, M.m.r25, M.m.r28, M.m.r29, M.m.r30, M.m.r31, M.m.r35, M.m.r36, M.m.r37, M.m.r38, M.m.r40, M.m.r43, M.m.r44, M.m.r45, M.m.k121, M.m.k122, M.m.k123, M.m.k124, M.m.k125, M.m.k126, M.m.k127, M.m.k128, M.m.k129, M.m.k130, M.m.k131, M.m.k132, M.m.k133, M.m.k134, M.m.k135, M.m.k136, M.m.k137, M.m.k138, M.m.k139, M.m.k140, M.m.k141, M.m.k142, M.a0, M.a1, M.a2, M.a3, M.a4, M.a5, M.a6, nI_ltI, nI_leI, nI_eq, nI_clamp, zIn_nI, bI_0, nI_add, nI_mul, nI_or, nI_and, nI_shl1, nI_bit, ↓pk_rem, pk_div, Nat.lt_irrefl, Nat.not_lt_zero, reduceCtorEq, hni, nI_not i hp hi6, nI_not papers hi6 hp, h1, show oI none = -nI 1 from rfl, false_implies, implies_true, ↓m_liesAlone M O hz2, h3, show ∀ k, oI (some k) = nI k from fun _ => rfl, and_self, and_false, Bool.false_eq_true]
      | some b =>
        have hb := ho b rfl
        have p2 := pop8 b
        have nm : ¬ nI b = -nI 1 := fun hh => nI_pos (n := b) (by omega) (by rw [hh]; decide)
        by_cases h2 : pop i < pop b
        · have t : (∀ b', some b = some b' → pop i < pop b') = True := eq_true (fun b' h => by cases h; exact h2)
          cases h3 : A.alone (papers &&& (255 - i)) <;>
          simp (disch := omega) only [L_350_36, zt_350_36, L_350_50, zt_350_50, ↓e_iconst0, ↓e_iconst1, ↓e_bipush0, ↓e_bipush1, ↓e_sipush0, ↓e_sipush1, ↓e_ldc0, ↓e_ldc1, ↓e_ldc_w0, ↓e_ldc_w1, ↓e_ldc2, ↓e_lconst0, ↓e_lconst1, ↓e_ldc2_w0, ↓e_ldc2_w1, ↓e_iload, ↓e_iload_n, ↓e_istore, ↓e_istore_n, ↓e_lload, ↓e_lload_n, ↓e_lstore, ↓e_lstore_n, ↓e_aload, ↓e_aload_n, ↓e_astore, ↓e_astore_n, ↓e_iinc0, ↓e_iinc1, ↓e_iadd, ↓e_isub, ↓e_imul, ↓e_iand, ↓e_ior, ↓e_ixor, ↓e_ishl, ↓e_ishr, ↓e_iushr, ↓e_ladd, ↓e_lsub, ↓e_lmul, ↓e_land, ↓e_lor, ↓e_idiv, ↓e_irem, ↓e_ldiv, ↓e_lrem, ↓e_lshl, ↓e_lcmp, ↓e_i2l, ↓e_l2i, ↓e_i2b, ↓e_i2s, ↓e_dup_int, ↓e_pop_int, ↓e_dup_ref, ↓e_pop_ref, ↓e_dup2, ↓e_goto, ↓e_nop, ↓e_ifCond_eq, ↓e_if_icmp_eq, ↓e_ifCond_ne, ↓e_if_icmp_ne, ↓e_ifCond_lt, ↓e_if_icmp_lt, ↓e_ifCond_ge, ↓e_if_icmp_ge, ↓e_ifCond_gt, ↓e_if_icmp_gt, ↓e_ifCond_le, ↓e_if_icmp_le, ↓e_tab, ↓e_look, ↓e_get0, ↓e_get1, ↓e_get2, ↓e_get3, ↓e_put0, ↓e_put1, ↓e_put2, ↓e_put3, ↓e_iaload, ↓e_laload, ↓e_baload, ↓e_aaload, ↓e_iastore, ↓e_lastore, ↓e_bastore, ↓e_aastore, ↓e_alen, ↓e_new, ↓e_newarray, ↓e_anewarray, ↓e_objinit, ↓e_virt1, ↓e_virt2, ↓e_virt3, ↓e_virt4, ↓e_virt5, ↓e_virt6, ↓e_virt7, ↓e_stat0, ↓e_stat1, ↓e_stat2, ↓e_stat3, ↓e_stat4, ↓e_stat5, ↓e_stat6, ↓e_stat7, ↓e_spec1, ↓e_spec2, ↓e_spec3, ↓e_spec4, ↓e_spec5, ↓e_strlen, ↓e_charAt, ↓e_copy, ↓e_iret0, ↓e_iret1, ↓e_lret, ↓e_aret, ↓e_vret, zIsI_int, zIsL_long, zIsA_ref, zInt_int, true_and, and_true, ↓reduceIte, zGet, zSet, zSet2, zEnt, zWid, Value.category, List.map_cons, List.map_nil, List.sum_cons, List.sum_nil, List.replicate, Option.toList, Nat.reduceAdd, Nat.reduceSub, Nat.reduceMul, Nat.reduceLeDiff, Nat.reduceEqDiff, Nat.reduceLT, List.cons_append, List.nil_append, true_or, or_true, or_false, false_or, M.m.k, M.m.r0, M.m.r1, M.m.r5, M.m.r6, M.m.r7, M.m.r8, M.m.r9, M.m.r21, M.m.r24, M.m.r25, M.m.r28, M.m.r29, M.m.r30, M.m.r31, M.m.r35, M.m.r36, M.m.r37, M.m.r38, M.m.r40, M.m.r43, M.m.r44, M.m.r45, M.m.k121, M.m.k122, M.m.k123, M.m.k124, M.m.k125, M.m.k126, M.m.k127, M.m.k128, M.m.k129, M.m.k130, M.m.k131, M.m.k132, M.m.k133, M.m.k134, M.m.k135, M.m.k136, M.m.k137, M.m.k138, M.m.k139, M.m.k140, M.m.k141, M.m.k142, M.a0, M.a1, M.a2, M.a3, M.a4, M.a5, M.a6, nI_ltI, nI_leI, nI_eq, nI_clamp, zIn_nI, bI_0, nI_add, nI_mul, nI_or, nI_and, nI_shl1, nI_bit, ↓pk_rem, pk_div, Nat.lt_irrefl, Nat.not_lt_zero, reduceCtorEq, hni, nI_not i hp hi6, nI_not papers hi6 hp, h1, show ∀ k, oI (some k) = nI k from fun _ => rfl, nm, ↓m_bits hi6, ↓m_bits hb, h2, t, ↓m_liesAlone M O hz2, h3, and_self, and_false, Bool.false_eq_true]
        · have t : (∀ b', some b = some b' → pop i < pop b') = False := eq_false (fun h => h2 (h b rfl))
          simp (disch := omega) only [L_350_36, zt_350_36, L_350_50, zt_350_50, ↓e_iconst0, ↓e_iconst1, ↓e_bipush0, ↓e_bipush1, ↓e_sipush0, ↓e_sipush1, ↓e_ldc0, ↓e_ldc1, ↓e_ldc_w0, ↓e_ldc_w1, ↓e_ldc2, ↓e_lconst0, ↓e_lconst1, ↓e_ldc2_w0, ↓e_ldc2_w1, ↓e_iload, ↓e_iload_n, ↓e_istore, ↓e_istore_n, ↓e_lload, ↓e_lload_n, ↓e_lstore, ↓e_lstore_n, ↓e_aload, ↓e_aload_n, ↓e_astore, ↓e_astore_n, ↓e_iinc0, ↓e_iinc1, ↓e_iadd, ↓e_isub, ↓e_imul, ↓e_iand, ↓e_ior, ↓e_ixor, ↓e_ishl, ↓e_ishr, ↓e_iushr, ↓e_ladd, ↓e_lsub, ↓e_lmul, ↓e_land, ↓e_lor, ↓e_idiv, ↓e_irem, ↓e_ldiv, ↓e_lrem, ↓e_lshl, ↓e_lcmp, ↓e_i2l, ↓e_l2i, ↓e_i2b, ↓e_i2s, ↓e_dup_int, ↓e_pop_int, ↓e_dup_ref, ↓e_pop_ref, ↓e_dup2, ↓e_goto, ↓e_nop, ↓e_ifCond_eq, ↓e_if_icmp_eq, ↓e_ifCond_ne, ↓e_if_icmp_ne, ↓e_ifCond_lt, ↓e_if_icmp_lt, ↓e_ifCond_ge, ↓e_if_icmp_ge, ↓e_ifCond_gt, ↓e_if_icmp_gt, ↓e_ifCond_le, ↓e_if_icmp_le, ↓e_tab, ↓e_look, ↓e_get0, ↓e_get1, ↓e_get2, ↓e_get3, ↓e_put0, ↓e_put1, ↓e_put2, ↓e_put3, ↓e_iaload, ↓e_laload, ↓e_baload, ↓e_aaload, ↓e_iastore, ↓e_lastore, ↓e_bastore, ↓e_aastore, ↓e_alen, ↓e_new, ↓e_newarray, ↓e_anewarray, ↓e_objinit, ↓e_virt1, ↓e_virt2, ↓e_virt3, ↓e_virt4, ↓e_virt5, ↓e_virt6, ↓e_virt7, ↓e_stat0, ↓e_stat1, ↓e_stat2, ↓e_stat3, ↓e_stat4, ↓e_stat5, ↓e_stat6, ↓e_stat7, ↓e_spec1, ↓e_spec2, ↓e_spec3, ↓e_spec4, ↓e_spec5, ↓e_strlen, ↓e_charAt, ↓e_copy, ↓e_iret0, ↓e_iret1, ↓e_lret, ↓e_aret, ↓e_vret, zIsI_int, zIsL_long, zIsA_ref, zInt_int, true_and, and_true, ↓reduceIte, zGet, zSet, zSet2, zEnt, zWid, Value.category, List.map_cons, List.map_nil, List.sum_cons, List.sum_nil, List.replicate, Option.toList, Nat.reduceAdd, Nat.reduceSub, Nat.reduceMul, Nat.reduceLeDiff, Nat.reduceEqDiff, Nat.reduceLT, List.cons_append, List.nil_append, true_or, or_true, or_false, false_or, M.m.k, M.m.r0, M.m.r1, M.m.r5, M.m.r6, M.m.r7, M.m.r8, M.m.r9, M.m.r21, M.m.r24, M.m.r25, M.m.r28, M.m.r29, M.m.r30, M.m.r31, M.m.r35, M.m.r36, M.m.r37, M.m.r38, M.m.r40, M.m.r43, M.m.r44, M.m.r45, M.m.k121, M.m.k122, M.m.k123, M.m.k124, M.m.k125, M.m.k126, M.m.k127, M.m.k128, M.m.k129, M.m.k130, M.m.k131, M.m.k132, M.m.k133, M.m.k134, M.m.k135, M.m.k136, M.m.k137, M.m.k138, M.m.k139, M.m.k140, M.m.k141, M.m.k142, M.a0, M.a1, M.a2, M.a3, M.a4, M.a5, M.a6, nI_ltI, nI_leI, nI_eq, nI_clamp, zIn_nI, bI_0, nI_add, nI_mul, nI_or, nI_and, nI_shl1, nI_bit, ↓pk_rem, pk_div, Nat.lt_irrefl, Nat.not_lt_zero, reduceCtorEq, hni, nI_not i hp hi6, nI_not papers hi6 hp, h1, show ∀ k, oI (some k) = nI k from fun _ => rfl, nm, ↓m_bits hi6, ↓m_bits hb, h2, t, false_and, and_false]
    · simp (disch := omega) only [L_350_36, zt_350_36, L_350_50, zt_350_50, ↓e_iconst0, ↓e_iconst1, ↓e_bipush0, ↓e_bipush1, ↓e_sipush0, ↓e_sipush1, ↓e_ldc0, ↓e_ldc1, ↓e_ldc_w0, ↓e_ldc_w1, ↓e_ldc2, ↓e_lconst0, ↓e_lconst1, ↓e_ldc2_w0, ↓e_ldc2_w1, ↓e_iload, ↓e_iload_n, ↓e_istore, ↓e_istore_n, ↓e_lload, ↓e_lload_n, ↓e_lstore, ↓e_lstore_n, ↓e_aload, ↓e_aload_n, ↓e_astore, ↓e_astore_n, ↓e_iinc0, ↓e_iinc1, ↓e_iadd, ↓e_isub, ↓e_imul, ↓e_iand, ↓e_ior, ↓e_ixor, ↓e_ishl, ↓e_ishr, ↓e_iushr, ↓e_ladd, ↓e_lsub, ↓e_lmul, ↓e_land, ↓e_lor, ↓e_idiv, ↓e_irem, ↓e_ldiv, ↓e_lrem, ↓e_lshl, ↓e_lcmp, ↓e_i2l, ↓e_l2i, ↓e_i2b, ↓e_i2s, ↓e_dup_int, ↓e_pop_int, ↓e_dup_ref, ↓e_pop_ref, ↓e_dup2, ↓e_goto, ↓e_nop, ↓e_ifCond_eq, ↓e_if_icmp_eq, ↓e_ifCond_ne, ↓e_if_icmp_ne, ↓e_ifCond_lt, ↓e_if_icmp_lt, ↓e_ifCond_ge, ↓e_if_icmp_ge, ↓e_ifCond_gt, ↓e_if_icmp_gt, ↓e_ifCond_le, ↓e_if_icmp_le, ↓e_tab, ↓e_look, ↓e_get0, ↓e_get1, ↓e_get2, ↓e_get3, ↓e_put0, ↓e_put1, ↓e_put2, ↓e_put3, ↓e_iaload, ↓e_laload, ↓e_baload, ↓e_aaload, ↓e_iastore, ↓e_lastore, ↓e_bastore, ↓e_aastore, ↓e_alen, ↓e_new, ↓e_newarray, ↓e_anewarray, ↓e_objinit, ↓e_virt1, ↓e_virt2, ↓e_virt3, ↓e_virt4, ↓e_virt5, ↓e_virt6, ↓e_virt7, ↓e_stat0, ↓e_stat1, ↓e_stat2, ↓e_stat3, ↓e_stat4, ↓e_stat5, ↓e_stat6, ↓e_stat7, ↓e_spec1, ↓e_spec2, ↓e_spec3, ↓e_spec4, ↓e_spec5, ↓e_strlen, ↓e_charAt, ↓e_copy, ↓e_iret0, ↓e_iret1, ↓e_lret, ↓e_aret, ↓e_vret, zIsI_int, zIsL_long, zIsA_ref, zInt_int, true_and, and_true, ↓reduceIte, zGet, zSet, zSet2, zEnt, zWid, Value.category, List.map_cons, List.map_nil, List.sum_cons, List.sum_nil, List.replicate, Option.toList, Nat.reduceAdd, Nat.reduceSub, Nat.reduceMul, Nat.reduceLeDiff, Nat.reduceEqDiff, Nat.reduceLT, List.cons_append, List.nil_append, true_or, or_true, or_false, false_or, M.m.k, M.m.r0, M.m.r1, M.m.r5, M.m.r6, M.m.r7, M.m.r8, M.m.r9, M.m.r21, M.m.r24, M.m.r25, M.m.r28, M.m.r29, M.m.r30, M.m.r31, M.m.r35, M.m.r36, M.m.r37, M.m.r38, M.m.r40, M.m.r43, M.m.r44, M.m.r45, M.m.k121, M.m.k122, M.m.k123, M.m.k124, M.m.k125, M.m.k126, M.m.k127, M.m.k128, M.m.k129, M.m.k130, M.m.k131, M.m.k132, M.m.k133, M.m.k134, M.m.k135, M.m.k136, M.m.k137, M.m.k138, M.m.k139, M.m.k140, M.m.k141, M.m.k142, M.a0, M.a1, M.a2, M.a3, M.a4, M.a5, M.a6, nI_ltI, nI_leI, nI_eq, nI_clamp, zIn_nI, bI_0, nI_add, nI_mul, nI_or, nI_and, nI_shl1, nI_bit, ↓pk_rem, pk_div, Nat.lt_irrefl, Nat.not_lt_zero, reduceCtorEq, hni, nI_not i hp hi6, h1, false_and]
  obtain ⟨j', h'⟩ := zfor_upIJ (fun (o : Option Nat) => ∀ b, o = some b → b < 256) (P := fun i (o : Option Nat) (_ : Unit) => zX (d + 4) 350 4 [.ref 120, .int (nI papers), .int (oI o), .int (nI i)] [] σ K) (n := papers + 1) (a := none) (fun _ h => by cases h) (fun i o hi h b hb => by
    unfold Ofc.hideM at hb
    split at hb
    · cases hb; omega
    · exact h b hb) st ()
  refine Eq.trans h' ?_
  rw [hh, L_350_4, zt_350_4]
  simp (disch := omega) only [L_350_56, zt_350_56, ↓e_iconst0, ↓e_iconst1, ↓e_bipush0, ↓e_bipush1, ↓e_sipush0, ↓e_sipush1, ↓e_ldc0, ↓e_ldc1, ↓e_ldc_w0, ↓e_ldc_w1, ↓e_ldc2, ↓e_lconst0, ↓e_lconst1, ↓e_ldc2_w0, ↓e_ldc2_w1, ↓e_iload, ↓e_iload_n, ↓e_istore, ↓e_istore_n, ↓e_lload, ↓e_lload_n, ↓e_lstore, ↓e_lstore_n, ↓e_aload, ↓e_aload_n, ↓e_astore, ↓e_astore_n, ↓e_iinc0, ↓e_iinc1, ↓e_iadd, ↓e_isub, ↓e_imul, ↓e_iand, ↓e_ior, ↓e_ixor, ↓e_ishl, ↓e_ishr, ↓e_iushr, ↓e_ladd, ↓e_lsub, ↓e_lmul, ↓e_land, ↓e_lor, ↓e_idiv, ↓e_irem, ↓e_ldiv, ↓e_lrem, ↓e_lshl, ↓e_lcmp, ↓e_i2l, ↓e_l2i, ↓e_i2b, ↓e_i2s, ↓e_dup_int, ↓e_pop_int, ↓e_dup_ref, ↓e_pop_ref, ↓e_dup2, ↓e_goto, ↓e_nop, ↓e_ifCond_eq, ↓e_if_icmp_eq, ↓e_ifCond_ne, ↓e_if_icmp_ne, ↓e_ifCond_lt, ↓e_if_icmp_lt, ↓e_ifCond_ge, ↓e_if_icmp_ge, ↓e_ifCond_gt, ↓e_if_icmp_gt, ↓e_ifCond_le, ↓e_if_icmp_le, ↓e_tab, ↓e_look, ↓e_get0, ↓e_get1, ↓e_get2, ↓e_get3, ↓e_put0, ↓e_put1, ↓e_put2, ↓e_put3, ↓e_iaload, ↓e_laload, ↓e_baload, ↓e_aaload, ↓e_iastore, ↓e_lastore, ↓e_bastore, ↓e_aastore, ↓e_alen, ↓e_new, ↓e_newarray, ↓e_anewarray, ↓e_objinit, ↓e_virt1, ↓e_virt2, ↓e_virt3, ↓e_virt4, ↓e_virt5, ↓e_virt6, ↓e_virt7, ↓e_stat0, ↓e_stat1, ↓e_stat2, ↓e_stat3, ↓e_stat4, ↓e_stat5, ↓e_stat6, ↓e_stat7, ↓e_spec1, ↓e_spec2, ↓e_spec3, ↓e_spec4, ↓e_spec5, ↓e_strlen, ↓e_charAt, ↓e_copy, ↓e_iret0, ↓e_iret1, ↓e_lret, ↓e_aret, ↓e_vret, zIsI_int, zIsL_long, zIsA_ref, zInt_int, true_and, and_true, ↓reduceIte, zGet, zSet, zSet2, zEnt, zWid, Value.category, List.map_cons, List.map_nil, List.sum_cons, List.sum_nil, List.replicate, Option.toList, Nat.reduceAdd, Nat.reduceSub, Nat.reduceMul, Nat.reduceLeDiff, Nat.reduceEqDiff, Nat.reduceLT, List.cons_append, List.nil_append, true_or, or_true, or_false, false_or, M.m.k, M.m.r0, M.m.r1, M.m.r5, M.m.r6, M.m.r7, M.m.r8, M.m.r9, M.m.r21, M.m.r24, M.m.r25, M.m.r28, M.m.r29, M.m.r30, M.m.r31, M.m.r35, M.m.r36, M.m.r37, M.m.r38, M.m.r40, M.m.r43, M.m.r44, M.m.r45, M.m.k121, M.m.k122, M.m.k123, M.m.k124, M.m.k125, M.m.k126, M.m.k127, M.m.k128, M.m.k129, M.m.k130, M.m.k131, M.m.k132, M.m.k133, M.m.k134, M.m.k135, M.m.k136, M.m.k137, M.m.k138, M.m.k139, M.m.k140, M.m.k141, M.m.k142, M.a0, M.a1, M.a2, M.a3, M.a4, M.a5, M.a6, nI_ltI, nI_leI, nI_eq, nI_clamp, zIn_nI, bI_0, nI_add, nI_mul, nI_or, nI_and, nI_shl1, nI_bit, ↓pk_rem, pk_div, Nat.lt_irrefl, Nat.not_lt_zero, reduceCtorEq, show papers < papers + 1 by omega]
  rfl
end HID
