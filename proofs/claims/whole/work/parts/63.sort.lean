/-! SORTED: laid by number into the cells that are taken -/
section SRT
variable {d : Nat} {σ τ : MS} {a : Nat} {A : Ofc} {K : Option Value → MS → Prop}
theorem nth_s {P : Nat → Bool} {n k : Nat} (h : k < ct P n) : nth P (n + 1) k = nth P n k := by
  obtain ⟨i, hi⟩ := nth_ex h
  obtain ⟨h1, h2, h3⟩ := nth_is hi
  rw [hi, ← h3]
  exact nth_of (by omega) h2
theorem nth_sum {P : Nat → Bool} (g : Nat → Nat) : ∀ n, sm (ct P n) (fun k => om (nth P n k) g) = sm n (fun q => if P q = true then g q else 0) := by
  intro n
  induction n with
  | zero => rfl
  | succ n ih =>
    rw [sm_s (f := fun q => if P q = true then g q else 0)]
    cases hp : P n with
    | true =>
      rw [ct_t hp, sm_s, nth_of (by omega) hp, om_some, if_pos rfl, ← ih]
      congr 1
      exact sm_congr (fun k hk => by rw [nth_s hk])
    | false =>
      rw [ct_f hp, if_neg (by decide), Nat.add_zero, ← ih]
      exact sm_congr (fun k hk => by rw [nth_s hk])
def Ofc.srF (A : Ofc) (q : Nat) : Option Nat := if A.lie q = true then nth A.occ (A.wide * A.high) (ct A.lie q) else none
def Ofc.gr (A : Ofc) (c : Nat) : Option Nat := if A.occ c = true then nth A.lie A.np (ct A.occ c) else none
def Ofc.srt (A : Ofc) : Ofc := A.setPl A.srF
def Ofc.mv (A : Ofc) : Nat := sm A.np (fun q => if A.lie q = true then (if A.pl q = A.srF q then 0 else 1) else 0)
theorem occ_c (O : OfcOk A) {c : Nat} (h : A.occ c = true) : c < A.wide * A.high := by
  unfold Ofc.occ at h
  cases hw : A.who c with
  | none => rw [hw] at h; cases h
  | some p => exact O.plc p c (who_pl hw)
theorem lie_N (O : OfcOk A) {q : Nat} (h : A.lie q = true) : ct A.lie q < A.N := ct_lt (lie_np O h) h
theorem occ_N (O : OfcOk A) {c : Nat} (h : A.occ c = true) : ct A.occ c < A.N := by
  rw [← N_occ O]
  exact ct_lt (occ_c O h) h
theorem srF_iff (O : OfcOk A) {q c : Nat} : A.srF q = some c ↔ (A.lie q = true ∧ A.occ c = true ∧ ct A.lie q = ct A.occ c) := by
  unfold Ofc.srF
  refine ⟨fun h => ?_, fun h => ?_⟩
  · split at h
    · rename_i hl
      obtain ⟨h1, h2, h3⟩ := nth_is h
      exact ⟨hl, h2, h3.symm⟩
    · cases h
  · rw [if_pos h.1, h.2.2]
    exact nth_of (occ_c O h.2.1) h.2.1
theorem gr_iff (O : OfcOk A) {q c : Nat} : A.gr c = some q ↔ (A.lie q = true ∧ A.occ c = true ∧ ct A.lie q = ct A.occ c) := by
  unfold Ofc.gr
  refine ⟨fun h => ?_, fun h => ?_⟩
  · split at h
    · rename_i hl
      obtain ⟨h1, h2, h3⟩ := nth_is h
      exact ⟨h2, hl, h3⟩
    · cases h
  · rw [if_pos h.2.1, ← h.2.2]
    exact nth_of (lie_np O h.1) h.1
theorem srF_ex (O : OfcOk A) {q : Nat} (h : A.lie q = true) : ∃ c, A.srF q = some c := by
  unfold Ofc.srF
  rw [if_pos h]
  exact nth_ex (by rw [N_occ O]; exact lie_N O h)
theorem gr_ex (O : OfcOk A) {c : Nat} (h : A.occ c = true) : ∃ q, A.gr c = some q := by
  unfold Ofc.gr
  rw [if_pos h]
  exact nth_ex (occ_N O h)
theorem srt_ok (O : OfcOk A) : OfcOk A.srt := by
  refine O.setPl _ (fun p hp => ?_) (fun p c h => ?_) (fun p q c h1 h2 => ?_)
  · cases h : A.srF p with
    | none => rfl
    | some c =>
      have := ((srF_iff O).mp h).1
      have := lie_np O this
      omega
  · exact occ_c O ((srF_iff O).mp h).2.1
  · obtain ⟨a1, a2, a3⟩ := (srF_iff O).mp h1
    obtain ⟨b1, b2, b3⟩ := (srF_iff O).mp h2
    exact ct_inj a1 b1 (a3.trans b3.symm)
theorem srt_who (O : OfcOk A) (c : Nat) : A.srt.who c = A.gr c := by
  refine who_is (srt_ok O) (fun p h => ?_) (fun h p hp => ?_)
  · exact (srF_iff O).mpr ((gr_iff O).mp h)
  · have := (gr_iff O).mpr ((srF_iff O).mp hp)
    rw [this] at h
    cases h
theorem m_laysLying (M : RMod σ A) (O : OfcOk A) :
   ∃ τ, Ag (fun b => b = 129 ∨ b = 130) σ τ ∧ (∀ k, k < A.N → sI τ 129 k = oI (nth A.occ (A.wide * A.high) k) ∧ sI τ 130 k = oI (nth A.lie A.np k)) ∧ ∀ K, zC (d + 4) 305 [.ref 120] σ K = K (some (.int (nI A.N))) τ := by
  have h8 := O.p8
  have h20 := cells20 O
  have hN := N8 O
  have hNo := N_occ O
  have M0 := M
  obtain ⟨g1, i1, e1⟩ := zloop (fun i (g : Nat → Int32) => ∀ k, k < ct A.occ i → g k = oI (nth A.occ (A.wide * A.high) k)) (P := fun i g K => zX (d + 3) 305 4 [.ref 120, .int (nI (ct A.occ i)), .int (nI i)] [] (upA σ 129 g) K) (n := A.wide * A.high) (fun i g hi hg => by
    have M : RMod (upA σ 129 g) A := M0.ag (Ag.rf.upA (p := fun b => b = 129) rfl) (by decide) (by decide)
    cases ho : A.occ i with
    | false =>
      refine ⟨g, by rw [ct_f ho]; exact hg, ?_⟩
      have hw : A.who i = none := by
        unfold Ofc.occ at ho
        cases hw : A.who i with
        | none => rfl
        | some q => rw [hw] at ho; cases ho
      funext K
      rw [ct_f ho, L_305_4, zt_305_4]
      simp (disch := omega) only [L_305_24, zt_305_24, L_305_34, zt_305_34, ↓e_iconst0, ↓e_iconst1, ↓e_bipush0, ↓e_bipush1, ↓e_sipush0, ↓e_sipush1, ↓e_ldc0, ↓e_ldc1, ↓e_ldc_w0, ↓e_ldc_w1, ↓e_ldc2, ↓e_lconst0, ↓e_lconst1, ↓e_ldc2_w0, ↓e_ldc2_w1, ↓e_iload, ↓e_iload_n, ↓e_istore, ↓e_istore_n, ↓e_lload, ↓e_lload_n, ↓e_lstore, ↓e_lstore_n, ↓e_aload, ↓e_aload_n, ↓e_astore, ↓e_astore_n, ↓e_iinc0, ↓e_iinc1, ↓e_iadd, ↓e_isub, ↓e_imul, ↓e_iand, ↓e_ior, ↓e_ixor, ↓e_ishl, ↓e_ishr, ↓e_iushr, ↓e_ladd, ↓e_lsub, ↓e_lmul, ↓e_land, ↓e_lor, ↓e_idiv, ↓e_irem, ↓e_ldiv, ↓e_lrem, ↓e_lshl, ↓e_lcmp, ↓e_i2l, ↓e_l2i, ↓e_i2b, ↓e_i2s, ↓e_dup_int, ↓e_pop_int, ↓e_dup_ref, ↓e_pop_ref, ↓e_dup2, ↓e_goto, ↓e_nop, ↓e_ifCond_eq, ↓e_if_icmp_eq, ↓e_ifCond_ne, ↓e_if_icmp_ne, ↓e_ifCond_lt, ↓e_if_icmp_lt, ↓e_ifCond_ge, ↓e_if_icmp_ge, ↓e_ifCond_gt, ↓e_if_icmp_gt, ↓e_ifCond_le, ↓e_if_icmp_le, ↓e_tab, ↓e_look, ↓e_get0, ↓e_get1, ↓e_get2, ↓e_get3, ↓e_put0, ↓e_put1, ↓e_put2, ↓e_put3, ↓e_iaload, ↓e_laload, ↓e_baload, ↓e_aaload, ↓e_iastore, ↓e_lastore, ↓e_bastore, ↓e_aastore, ↓e_alen, ↓e_new, ↓e_newarray, ↓e_anewarray, ↓e_objinit, ↓e_virt1, ↓e_virt2, ↓e_virt3, ↓e_virt4, ↓e_virt5, ↓e_virt6, ↓e_virt7, ↓e_stat0, ↓e_stat1, ↓e_stat2, ↓e_stat3, ↓e_stat4, ↓e_stat5, ↓e_stat6, ↓e_stat7, ↓e_spec1, ↓e_spec2, ↓e_spec3, ↓e_spec4, ↓e_spec5, ↓e_strlen, ↓e_charAt, ↓e_copy, ↓e_iret0, ↓e_iret1, ↓e_lret, ↓e_aret, ↓e_vret, zIsI_int, zIsL_long, zIsA_ref, zInt_int, true_and, and_true, ↓reduceIte, zGet, zSet, zSet2, zEnt, zWid, Value.category, List.map_cons, List.map_nil, List.sum_cons, List.sum_nil, List.replicate, Option.toList, Nat.reduceAdd, Nat.reduceSub, Nat.reduceMul, Nat.reduceLeDiff, Nat.reduceEqDiff, Nat.reduceLT, List.cons_append, List.nil_append, true_or, or_true, or_false, false_or, M.m.k, M.m.r0, M.m.r1, M.m.r5, M.m.r6, M.m.r7, M.m.r8, M.m.r9, M.m.r21, M.m.r24, M.m.r25, M.m.r28, M.m.r29, M.m.r30, M.m.r31, M.m.r35, M.m.r36, M.m.r37, M.m.r38, M.m.r40, M.m.r43, M.m.r44, M.m.r45, M.m.k121, M.m.k122, M.m.k123, M.m.k124, M.m.k125, M.m.k126, M.m.k127, M.m.k128, M.m.k129, M.m.k130, M.m.k131, M.m.k132, M.m.k133, M.m.k134, M.m.k135, M.m.k136, M.m.k137, M.m.k138, M.m.k139, M.m.k140, M.m.k141, M.m.k142, M.a0, M.a1, M.a2, M.a3, M.a4, M.a5, M.a6, nI_ltI, nI_leI, nI_eq, nI_clamp, zIn_nI, bI_0, nI_add, nI_mul, nI_or, nI_and, nI_shl1, nI_bit, ↓pk_rem, pk_div, Nat.lt_irrefl, Nat.not_lt_zero, reduceCtorEq, hi, ↓m_cells M O, ↓m_lyingIn M O (show i < 2 ^ 31 by omega), hw, show oI none = -nI 1 from rfl]
    | true =>
      have hc := occ_N O ho
      have hc8 : ct A.occ i < 8 := by omega
      refine ⟨fun j => if j = ct A.occ i then nI i else g j, fun k hk => ?_, ?_⟩
      · rw [ct_t ho] at hk
        by_cases h : k = ct A.occ i
        · subst h
          rw [nth_of hi ho]
          simp
          rfl
        · simp only [h, if_false]
          exact hg k (by omega)
      · obtain ⟨q, hw⟩ : ∃ q, A.who i = some q := by
          unfold Ofc.occ at ho
          cases hw : A.who i with
          | none => rw [hw] at ho; cases ho
          | some q => exact ⟨q, rfl⟩
        have nm : ¬ nI q = -nI 1 := fun hh => nI_pos (n := q) (by have := who_np O hw; omega) (by rw [hh]; decide)
        funext K
        rw [ct_t ho, L_305_4, zt_305_4, ← setI_upA]
        simp (disch := omega) only [L_305_24, zt_305_24, L_305_34, zt_305_34, ↓e_iconst0, ↓e_iconst1, ↓e_bipush0, ↓e_bipush1, ↓e_sipush0, ↓e_sipush1, ↓e_ldc0, ↓e_ldc1, ↓e_ldc_w0, ↓e_ldc_w1, ↓e_ldc2, ↓e_lconst0, ↓e_lconst1, ↓e_ldc2_w0, ↓e_ldc2_w1, ↓e_iload, ↓e_iload_n, ↓e_istore, ↓e_istore_n, ↓e_lload, ↓e_lload_n, ↓e_lstore, ↓e_lstore_n, ↓e_aload, ↓e_aload_n, ↓e_astore, ↓e_astore_n, ↓e_iinc0, ↓e_iinc1, ↓e_iadd, ↓e_isub, ↓e_imul, ↓e_iand, ↓e_ior, ↓e_ixor, ↓e_ishl, ↓e_ishr, ↓e_iushr, ↓e_ladd, ↓e_lsub, ↓e_lmul, ↓e_land, ↓e_lor, ↓e_idiv, ↓e_irem, ↓e_ldiv, ↓e_lrem, ↓e_lshl, ↓e_lcmp, ↓e_i2l, ↓e_l2i, ↓e_i2b, ↓e_i2s, ↓e_dup_int, ↓e_pop_int, ↓e_dup_ref, ↓e_pop_ref, ↓e_dup2, ↓e_goto, ↓e_nop, ↓e_ifCond_eq, ↓e_if_icmp_eq, ↓e_ifCond_ne, ↓e_if_icmp_ne, ↓e_ifCond_lt, ↓e_if_icmp_lt, ↓e_ifCond_ge, ↓e_if_icmp_ge, ↓e_ifCond_gt, ↓e_if_icmp_gt, ↓e_ifCond_le, ↓e_if_icmp_le, ↓e_tab, ↓e_look, ↓e_get0, ↓e_get1, ↓e_get2, ↓e_get3, ↓e_put0, ↓e_put1, ↓e_put2, ↓e_put3, ↓e_iaload, ↓e_laload, ↓e_baload, ↓e_aaload, ↓e_iastore, ↓e_lastore, ↓e_bastore, ↓e_aastore, ↓e_alen, ↓e_new, ↓e_newarray, ↓e_anewarray, ↓e_objinit, ↓e_virt1, ↓e_virt2, ↓e_virt3, ↓e_virt4, ↓e_virt5, ↓e_virt6, ↓e_virt7, ↓e_stat0, ↓e_stat1, ↓e_stat2, ↓e_stat3, ↓e_stat4, ↓e_stat5, ↓e_stat6, ↓e_stat7, ↓e_spec1, ↓e_spec2, ↓e_spec3, ↓e_spec4, ↓e_spec5, ↓e_strlen, ↓e_charAt, ↓e_copy, ↓e_iret0, ↓e_iret1, ↓e_lret, ↓e_aret, ↓e_vret, zIsI_int, zIsL_long, zIsA_ref, zInt_int, true_and, and_true, ↓reduceIte, zGet, zSet, zSet2, zEnt, zWid, Value.category, List.map_cons, List.map_nil, List.sum_cons, List.sum_nil, List.replicate, Option.toList, Nat.reduceAdd, Nat.reduceSub, Nat.reduceMul, Nat.reduceLeDiff, Nat.reduceEqDiff, Nat.reduceLT, List.cons_append, List.nil_append, true_or, or_true, or_false, false_or, M.m.k, M.m.r0, M.m.r1, M.m.r5, M.m.r6, M.m.r7, M.m.r8, M.m.r9, M.m.r21, M.m.r24, M.m.r25, M.m.r28, M.m.r29, M.m.r30, M.m.r31, M.m.r35, M.m.r36, M.m.r37, M.m.r38, M.m.r40, M.m.r43, M.m.r44, M.m.r45, M.m.k121, M.m.k122, M.m.k123, M.m.k124, M.m.k125, M.m.k126, M.m.k127, M.m.k128, M.m.k129, M.m.k130, M.m.k131, M.m.k132, M.m.k133, M.m.k134, M.m.k135, M.m.k136, M.m.k137, M.m.k138, M.m.k139, M.m.k140, M.m.k141, M.m.k142, M.a0, M.a1, M.a2, M.a3, M.a4, M.a5, M.a6, nI_ltI, nI_leI, nI_eq, nI_clamp, zIn_nI, bI_0, nI_add, nI_mul, nI_or, nI_and, nI_shl1, nI_bit, ↓pk_rem, pk_div, Nat.lt_irrefl, Nat.not_lt_zero, reduceCtorEq, hi, ↓m_cells M O, ↓m_lyingIn M O (show i < 2 ^ 31 by omega), hw, show ∀ k, oI (some k) = nI k from fun _ => rfl, nm, hc8]) (fun j => sI σ 129 j) (fun k hk => by rw [ct_0] at hk; omega)
  have M1 : RMod (upA σ 129 g1) A := M0.ag (Ag.rf.upA (p := fun b => b = 129) rfl) (by decide) (by decide)
  obtain ⟨g2, i2, e2⟩ := zloop (fun i (g : Nat → Int32) => ∀ k, k < ct A.lie i → g k = oI (nth A.lie A.np k)) (P := fun i g K => zX (d + 3) 305 44 [.ref 120, .int (nI (ct A.lie i)), .int (nI i)] [] (upA (upA σ 129 g1) 130 g) K) (n := A.np) (fun i g hi hg => by
    have M : RMod (upA (upA σ 129 g1) 130 g) A := M1.ag (Ag.rf.upA (p := fun b => b = 130) rfl) (by decide) (by decide)
    cases ho : A.lie i with
    | false =>
      refine ⟨g, by rw [ct_f ho]; exact hg, ?_⟩
      funext K
      rw [ct_f ho, L_305_44, zt_305_44]
      simp (disch := omega) only [L_305_65, zt_305_65, L_305_75, zt_305_75, ↓e_iconst0, ↓e_iconst1, ↓e_bipush0, ↓e_bipush1, ↓e_sipush0, ↓e_sipush1, ↓e_ldc0, ↓e_ldc1, ↓e_ldc_w0, ↓e_ldc_w1, ↓e_ldc2, ↓e_lconst0, ↓e_lconst1, ↓e_ldc2_w0, ↓e_ldc2_w1, ↓e_iload, ↓e_iload_n, ↓e_istore, ↓e_istore_n, ↓e_lload, ↓e_lload_n, ↓e_lstore, ↓e_lstore_n, ↓e_aload, ↓e_aload_n, ↓e_astore, ↓e_astore_n, ↓e_iinc0, ↓e_iinc1, ↓e_iadd, ↓e_isub, ↓e_imul, ↓e_iand, ↓e_ior, ↓e_ixor, ↓e_ishl, ↓e_ishr, ↓e_iushr, ↓e_ladd, ↓e_lsub, ↓e_lmul, ↓e_land, ↓e_lor, ↓e_idiv, ↓e_irem, ↓e_ldiv, ↓e_lrem, ↓e_lshl, ↓e_lcmp, ↓e_i2l, ↓e_l2i, ↓e_i2b, ↓e_i2s, ↓e_dup_int, ↓e_pop_int, ↓e_dup_ref, ↓e_pop_ref, ↓e_dup2, ↓e_goto, ↓e_nop, ↓e_ifCond_eq, ↓e_if_icmp_eq, ↓e_ifCond_ne, ↓e_if_icmp_ne, ↓e_ifCond_lt, ↓e_if_icmp_lt, ↓e_ifCond_ge, ↓e_if_icmp_ge, ↓e_ifCond_gt, ↓e_if_icmp_gt, ↓e_ifCond_le, ↓e_if_icmp_le, ↓e_tab, ↓e_look, ↓e_get0, ↓e_get1, ↓e_get2, ↓e_get3, ↓e_put0, ↓e_put1, ↓e_put2, ↓e_put3, ↓e_iaload, ↓e_laload, ↓e_baload, ↓e_aaload, ↓e_iastore, ↓e_lastore, ↓e_bastore, ↓e_aastore, ↓e_alen, ↓e_new, ↓e_newarray, ↓e_anewarray, ↓e_objinit, ↓e_virt1, ↓e_virt2, ↓e_virt3, ↓e_virt4, ↓e_virt5, ↓e_virt6, ↓e_virt7, ↓e_stat0, ↓e_stat1, ↓e_stat2, ↓e_stat3, ↓e_stat4, ↓e_stat5, ↓e_stat6, ↓e_stat7, ↓e_spec1, ↓e_spec2, ↓e_spec3, ↓e_spec4, ↓e_spec5, ↓e_strlen, ↓e_charAt, ↓e_copy, ↓e_iret0, ↓e_iret1, ↓e_lret, ↓e_aret, ↓e_vret, zIsI_int, zIsL_long, zIsA_ref, zInt_int, true_and, and_true, ↓reduceIte, zGet, zSet, zSet2, zEnt, zWid, Value.category, List.map_cons, List.map_nil, List.sum_cons, List.sum_nil, List.replicate, Option.toList, Nat.reduceAdd, Nat.reduceSub, Nat.reduceMul, Nat.reduceLeDiff, Nat.reduceEqDiff, Nat.reduceLT, List.cons_append, List.nil_append, true_or, or_true, or_false, false_or, M.m.k, M.m.r0, M.m.r1, M.m.r5, M.m.r6, M.m.r7, M.m.r8, M.m.r9, M.m.r21, M.m.r24, M.m.r25, M.m.r28, M.m.r29, M.m.r30, M.m.r31, M.m.r35, M.m.r36, M.m.r37, M.m.r38, M.m.r40, M.m.r43, M.m.r44, M.m.r45, M.m.k121, M.m.k122, M.m.k123, M.m.k124, M.m.k125, M.m.k126, M.m.k127, M.m.k128, M.m.k129, M.m.k130, M.m.k131, M.m.k132, M.m.k133, M.m.k134, M.m.k135, M.m.k136, M.m.k137, M.m.k138, M.m.k139, M.m.k140, M.m.k141, M.m.k142, M.a0, M.a1, M.a2, M.a3, M.a4, M.a5, M.a6, nI_ltI, nI_leI, nI_eq, nI_clamp, zIn_nI, bI_0, nI_add, nI_mul, nI_or, nI_and, nI_shl1, nI_bit, ↓pk_rem, pk_div, Nat.lt_irrefl, Nat.not_lt_zero, reduceCtorEq, hi, ↓m_doesLie M O hi, show (A.pl i).isSome = false from ho]
    | true =>
      have hc := lie_N O ho
      have hc8 : ct A.lie i < 8 := by omega
      refine ⟨fun j => if j = ct A.lie i then nI i else g j, fun k hk => ?_, ?_⟩
      · rw [ct_t ho] at hk
        by_cases h : k = ct A.lie i
        · subst h
          rw [nth_of hi ho]
          simp
          rfl
        · simp only [h, if_false]
          exact hg k (by omega)
      · funext K
        rw [ct_t ho, L_305_44, zt_305_44, ← setI_upA]
        simp (disch := omega) only [L_305_65, zt_305_65, L_305_75, zt_305_75, ↓e_iconst0, ↓e_iconst1, ↓e_bipush0, ↓e_bipush1, ↓e_sipush0, ↓e_sipush1, ↓e_ldc0, ↓e_ldc1, ↓e_ldc_w0, ↓e_ldc_w1, ↓e_ldc2, ↓e_lconst0, ↓e_lconst1, ↓e_ldc2_w0, ↓e_ldc2_w1, ↓e_iload, ↓e_iload_n, ↓e_istore, ↓e_istore_n, ↓e_lload, ↓e_lload_n, ↓e_lstore, ↓e_lstore_n, ↓e_aload, ↓e_aload_n, ↓e_astore, ↓e_astore_n, ↓e_iinc0, ↓e_iinc1, ↓e_iadd, ↓e_isub, ↓e_imul, ↓e_iand, ↓e_ior, ↓e_ixor, ↓e_ishl, ↓e_ishr, ↓e_iushr, ↓e_ladd, ↓e_lsub, ↓e_lmul, ↓e_land, ↓e_lor, ↓e_idiv, ↓e_irem, ↓e_ldiv, ↓e_lrem, ↓e_lshl, ↓e_lcmp, ↓e_i2l, ↓e_l2i, ↓e_i2b, ↓e_i2s, ↓e_dup_int, ↓e_pop_int, ↓e_dup_ref, ↓e_pop_ref, ↓e_dup2, ↓e_goto, ↓e_nop, ↓e_ifCond_eq, ↓e_if_icmp_eq, ↓e_ifCond_ne, ↓e_if_icmp_ne, ↓e_ifCond_lt, ↓e_if_icmp_lt, ↓e_ifCond_ge, ↓e_if_icmp_ge, ↓e_ifCond_gt, ↓e_if_icmp_gt, ↓e_ifCond_le, ↓e_if_icmp_le, ↓e_tab, ↓e_look, ↓e_get0, ↓e_get1, ↓e_get2, ↓e_get3, ↓e_put0, ↓e_put1, ↓e_put2, ↓e_put3, ↓e_iaload, ↓e_laload, ↓e_baload, ↓e_aaload, ↓e_iastore, ↓e_lastore, ↓e_bastore, ↓e_aastore, ↓e_alen, ↓e_new, ↓e_newarray, ↓e_anewarray, ↓e_objinit, ↓e_virt1, ↓e_virt2, ↓e_virt3, ↓e_virt4, ↓e_virt5, ↓e_virt6, ↓e_virt7, ↓e_stat0, ↓e_stat1, ↓e_stat2, ↓e_stat3, ↓e_stat4, ↓e_stat5, ↓e_stat6, ↓e_stat7, ↓e_spec1, ↓e_spec2, ↓e_spec3, ↓e_spec4, ↓e_spec5, ↓e_strlen, ↓e_charAt, ↓e_copy, ↓e_iret0, ↓e_iret1, ↓e_lret, ↓e_aret, ↓e_vret, zIsI_int, zIsL_long, zIsA_ref, zInt_int, true_and, and_true, ↓reduceIte, zGet, zSet, zSet2, zEnt, zWid, Value.category, List.map_cons, List.map_nil, List.sum_cons, List.sum_nil, List.replicate, Option.toList, Nat.reduceAdd, Nat.reduceSub, Nat.reduceMul, Nat.reduceLeDiff, Nat.reduceEqDiff, Nat.reduceLT, List.cons_append, List.nil_append, true_or, or_true, or_false, false_or, M.m.k, M.m.r0, M.m.r1, M.m.r5, M.m.r6, M.m.r7, M.m.r8, M.m.r9, M.m.r21, M.m.r24, M.m.r25, M.m.r28, M.m.r29, M.m.r30, M.m.r31, M.m.r35, M.m.r36, M.m.r37, M.m.r38, M.m.r40, M.m.r43, M.m.r44, M.m.r45, M.m.k121, M.m.k122, M.m.k123, M.m.k124, M.m.k125, M.m.k126, M.m.k127, M.m.k128, M.m.k129, M.m.k130, M.m.k131, M.m.k132, M.m.k133, M.m.k134, M.m.k135, M.m.k136, M.m.k137, M.m.k138, M.m.k139, M.m.k140, M.m.k141, M.m.k142, M.a0, M.a1, M.a2, M.a3, M.a4, M.a5, M.a6, nI_ltI, nI_leI, nI_eq, nI_clamp, zIn_nI, bI_0, nI_add, nI_mul, nI_or, nI_and, nI_shl1, nI_bit, ↓pk_rem, pk_div, Nat.lt_irrefl, Nat.not_lt_zero, reduceCtorEq, hi, ↓m_doesLie M O hi, show (A.pl i).isSome = true from ho, hc8]) (fun j => sI (upA σ 129 g1) 130 j) (fun k hk => by rw [ct_0] at hk; omega)
  refine ⟨upA (upA σ 129 g1) 130 g2, (Ag.rf.upA (.inl rfl)).upA (.inr rfl), fun k hk => ⟨?_, ?_⟩, fun K => ?_⟩
  · rw [sI_upA, if_neg (by decide), sI_upA, if_pos rfl]
    exact i1 k (by omega)
  · rw [sI_upA, if_pos rfl]
    exact i2 k hk
  · have M := M0
    rw [E_305]
    simp (disch := omega) only [L_305_0, zt_305_0, ↓e_iconst0, ↓e_iconst1, ↓e_bipush0, ↓e_bipush1, ↓e_sipush0, ↓e_sipush1, ↓e_ldc0, ↓e_ldc1, ↓e_ldc_w0, ↓e_ldc_w1, ↓e_ldc2, ↓e_lconst0, ↓e_lconst1, ↓e_ldc2_w0, ↓e_ldc2_w1, ↓e_iload, ↓e_iload_n, ↓e_istore, ↓e_istore_n, ↓e_lload, ↓e_lload_n, ↓e_lstore, ↓e_lstore_n, ↓e_aload, ↓e_aload_n, ↓e_astore, ↓e_astore_n, ↓e_iinc0, ↓e_iinc1, ↓e_iadd, ↓e_isub, ↓e_imul, ↓e_iand, ↓e_ior, ↓e_ixor, ↓e_ishl, ↓e_ishr, ↓e_iushr, ↓e_ladd, ↓e_lsub, ↓e_lmul, ↓e_land, ↓e_lor, ↓e_idiv, ↓e_irem, ↓e_ldiv, ↓e_lrem, ↓e_lshl, ↓e_lcmp, ↓e_i2l, ↓e_l2i, ↓e_i2b, ↓e_i2s, ↓e_dup_int, ↓e_pop_int, ↓e_dup_ref, ↓e_pop_ref, ↓e_dup2, ↓e_goto, ↓e_nop, ↓e_ifCond_eq, ↓e_if_icmp_eq, ↓e_ifCond_ne, ↓e_if_icmp_ne, ↓e_ifCond_lt, ↓e_if_icmp_lt, ↓e_ifCond_ge, ↓e_if_icmp_ge, ↓e_ifCond_gt, ↓e_if_icmp_gt, ↓e_ifCond_le, ↓e_if_icmp_le, ↓e_tab, ↓e_look, ↓e_get0, ↓e_get1, ↓e_get2, ↓e_get3, ↓e_put0, ↓e_put1, ↓e_put2, ↓e_put3, ↓e_iaload, ↓e_laload, ↓e_baload, ↓e_aaload, ↓e_iastore, ↓e_lastore, ↓e_bastore, ↓e_aastore, ↓e_alen, ↓e_new, ↓e_newarray, ↓e_anewarray, ↓e_objinit, ↓e_virt1, ↓e_virt2, ↓e_virt3, ↓e_virt4, ↓e_virt5, ↓e_virt6, ↓e_virt7, ↓e_stat0, ↓e_stat1, ↓e_stat2, ↓e_stat3, ↓e_stat4, ↓e_stat5, ↓e_stat6, ↓e_stat7, ↓e_spec1, ↓e_spec2, ↓e_spec3, ↓e_spec4, ↓e_spec5, ↓e_strlen, ↓e_charAt, ↓e_copy, ↓e_iret0, ↓e_iret1, ↓e_lret, ↓e_aret, ↓e_vret, zIsI_int, zIsL_long, zIsA_ref, zInt_int, true_and, and_true, ↓reduceIte, zGet, zSet, zSet2, zEnt, zWid, Value.category, List.map_cons, List.map_nil, List.sum_cons, List.sum_nil, List.replicate, Option.toList, Nat.reduceAdd, Nat.reduceSub, Nat.reduceMul, Nat.reduceLeDiff, Nat.reduceEqDiff, Nat.reduceLT, List.cons_append, List.nil_append, true_or, or_true, or_false, false_or, M.m.k, M.m.r0, M.m.r1, M.m.r5, M.m.r6, M.m.r7, M.m.r8, M.m.r9, M.m.r21, M.m.r24, M.m.r25, M.m.r28, M.m.r29, M.m.r30, M.m.r31, M.m.r35, M.m.r36, M.m.r37, M.m.r38, M.m.r40, M.m.r43, M.m.r44, M.m.r45, M.m.k121, M.m.k122, M.m.k123, M.m.k124, M.m.k125, M.m.k126, M.m.k127, M.m.k128, M.m.k129, M.m.k130, M.m.k131, M.m.k132, M.m.k133, M.m.k134, M.m.k135, M.m.k136, M.m.k137, M.m.k138, M.m.k139, M.m.k140, M.m.k141, M.m.k142, M.a0, M.a1, M.a2, M.a3, M.a4, M.a5, M.a6, nI_ltI, nI_leI, nI_eq, nI_clamp, zIn_nI, bI_0, nI_add, nI_mul, nI_or, nI_and, nI_shl1, nI_bit, ↓pk_rem, pk_div, Nat.lt_irrefl, Nat.not_lt_zero, reduceCtorEq]
    have e1 := congrFun e1 K
    rw [upA_self, ct_0] at e1
    refine Eq.trans e1 ?_
    have M := M1
    rw [L_305_4, zt_305_4]
    simp (disch := omega) only [L_305_40, zt_305_40, ↓e_iconst0, ↓e_iconst1, ↓e_bipush0, ↓e_bipush1, ↓e_sipush0, ↓e_sipush1, ↓e_ldc0, ↓e_ldc1, ↓e_ldc_w0, ↓e_ldc_w1, ↓e_ldc2, ↓e_lconst0, ↓e_lconst1, ↓e_ldc2_w0, ↓e_ldc2_w1, ↓e_iload, ↓e_iload_n, ↓e_istore, ↓e_istore_n, ↓e_lload, ↓e_lload_n, ↓e_lstore, ↓e_lstore_n, ↓e_aload, ↓e_aload_n, ↓e_astore, ↓e_astore_n, ↓e_iinc0, ↓e_iinc1, ↓e_iadd, ↓e_isub, ↓e_imul, ↓e_iand, ↓e_ior, ↓e_ixor, ↓e_ishl, ↓e_ishr, ↓e_iushr, ↓e_ladd, ↓e_lsub, ↓e_lmul, ↓e_land, ↓e_lor, ↓e_idiv, ↓e_irem, ↓e_ldiv, ↓e_lrem, ↓e_lshl, ↓e_lcmp, ↓e_i2l, ↓e_l2i, ↓e_i2b, ↓e_i2s, ↓e_dup_int, ↓e_pop_int, ↓e_dup_ref, ↓e_pop_ref, ↓e_dup2, ↓e_goto, ↓e_nop, ↓e_ifCond_eq, ↓e_if_icmp_eq, ↓e_ifCond_ne, ↓e_if_icmp_ne, ↓e_ifCond_lt, ↓e_if_icmp_lt, ↓e_ifCond_ge, ↓e_if_icmp_ge, ↓e_ifCond_gt, ↓e_if_icmp_gt, ↓e_ifCond_le, ↓e_if_icmp_le, ↓e_tab, ↓e_look, ↓e_get0, ↓e_get1, ↓e_get2, ↓e_get3, ↓e_put0, ↓e_put1, ↓e_put2, ↓e_put3, ↓e_iaload, ↓e_laload, ↓e_baload, ↓e_aaload, ↓e_iastore, ↓e_lastore, ↓e_bastore, ↓e_aastore, ↓e_alen, ↓e_new, ↓e_newarray, ↓e_anewarray, ↓e_objinit, ↓e_virt1, ↓e_virt2, ↓e_virt3, ↓e_virt4, ↓e_virt5, ↓e_virt6, ↓e_virt7, ↓e_stat0, ↓e_stat1, ↓e_stat2, ↓e_stat3, ↓e_stat4, ↓e_stat5, ↓e_stat6, ↓e_stat7, ↓e_spec1, ↓e_spec2, ↓e_spec3, ↓e_spec4, ↓e_spec5, ↓e_strlen, ↓e_charAt, ↓e_copy, ↓e_iret0, ↓e_iret1, ↓e_lret, ↓e_aret, ↓e_vret, zIsI_int, zIsL_long, zIsA_ref, zInt_int, true_and, and_true, ↓reduceIte, zGet, zSet, zSet2, zEnt, zWid, Value.category, List.map_cons, List.map_nil, List.sum_cons, List.sum_nil, List.replicate, Option.toList, Nat.reduceAdd, Nat.reduceSub, Nat.reduceMul, Nat.reduceLeDiff, Nat.reduceEqDiff, Nat.reduceLT, List.cons_append, List.nil_append, true_or, or_true, or_false, false_or, M.m.k, M.m.r0, M.m.r1, M.m.r5, M.m.r6, M.m.r7, M.m.r8, M.m.r9, M.m.r21, M.m.r24, M.m.r25, M.m.r28, M.m.r29, M.m.r30, M.m.r31, M.m.r35, M.m.r36, M.m.r37, M.m.r38, M.m.r40, M.m.r43, M.m.r44, M.m.r45, M.m.k121, M.m.k122, M.m.k123, M.m.k124, M.m.k125, M.m.k126, M.m.k127, M.m.k128, M.m.k129, M.m.k130, M.m.k131, M.m.k132, M.m.k133, M.m.k134, M.m.k135, M.m.k136, M.m.k137, M.m.k138, M.m.k139, M.m.k140, M.m.k141, M.m.k142, M.a0, M.a1, M.a2, M.a3, M.a4, M.a5, M.a6, nI_ltI, nI_leI, nI_eq, nI_clamp, zIn_nI, bI_0, nI_add, nI_mul, nI_or, nI_and, nI_shl1, nI_bit, ↓pk_rem, pk_div, Nat.lt_irrefl, Nat.not_lt_zero, reduceCtorEq, ↓m_cells M O]
    have e2 := congrFun e2 K
    rw [upA_self, ct_0] at e2
    refine Eq.trans e2 ?_
    have M : RMod (upA (upA σ 129 g1) 130 g2) A := M1.ag (Ag.rf.upA (p := fun b => b = 130) rfl) (by decide) (by decide)
    rw [L_305_44, zt_305_44]
    simp (disch := omega) only [L_305_81, zt_305_81, ↓e_iconst0, ↓e_iconst1, ↓e_bipush0, ↓e_bipush1, ↓e_sipush0, ↓e_sipush1, ↓e_ldc0, ↓e_ldc1, ↓e_ldc_w0, ↓e_ldc_w1, ↓e_ldc2, ↓e_lconst0, ↓e_lconst1, ↓e_ldc2_w0, ↓e_ldc2_w1, ↓e_iload, ↓e_iload_n, ↓e_istore, ↓e_istore_n, ↓e_lload, ↓e_lload_n, ↓e_lstore, ↓e_lstore_n, ↓e_aload, ↓e_aload_n, ↓e_astore, ↓e_astore_n, ↓e_iinc0, ↓e_iinc1, ↓e_iadd, ↓e_isub, ↓e_imul, ↓e_iand, ↓e_ior, ↓e_ixor, ↓e_ishl, ↓e_ishr, ↓e_iushr, ↓e_ladd, ↓e_lsub, ↓e_lmul, ↓e_land, ↓e_lor, ↓e_idiv, ↓e_irem, ↓e_ldiv, ↓e_lrem, ↓e_lshl, ↓e_lcmp, ↓e_i2l, ↓e_l2i, ↓e_i2b, ↓e_i2s, ↓e_dup_int, ↓e_pop_int, ↓e_dup_ref, ↓e_pop_ref, ↓e_dup2, ↓e_goto, ↓e_nop, ↓e_ifCond_eq, ↓e_if_icmp_eq, ↓e_ifCond_ne, ↓e_if_icmp_ne, ↓e_ifCond_lt, ↓e_if_icmp_lt, ↓e_ifCond_ge, ↓e_if_icmp_ge, ↓e_ifCond_gt, ↓e_if_icmp_gt, ↓e_ifCond_le, ↓e_if_icmp_le, ↓e_tab, ↓e_look, ↓e_get0, ↓e_get1, ↓e_get2, ↓e_get3, ↓e_put0, ↓e_put1, ↓e_put2, ↓e_put3, ↓e_iaload, ↓e_laload, ↓e_baload, ↓e_aaload, ↓e_iastore, ↓e_lastore, ↓e_bastore, ↓e_aastore, ↓e_alen, ↓e_new, ↓e_newarray, ↓e_anewarray, ↓e_objinit, ↓e_virt1, ↓e_virt2, ↓e_virt3, ↓e_virt4, ↓e_virt5, ↓e_virt6, ↓e_virt7, ↓e_stat0, ↓e_stat1, ↓e_stat2, ↓e_stat3, ↓e_stat4, ↓e_stat5, ↓e_stat6, ↓e_stat7, ↓e_spec1, ↓e_spec2, ↓e_spec3, ↓e_spec4, ↓e_spec5, ↓e_strlen, ↓e_charAt, ↓e_copy, ↓e_iret0, ↓e_iret1, ↓e_lret, ↓e_aret, ↓e_vret, zIsI_int, zIsL_long, zIsA_ref, zInt_int, true_and, and_true, ↓reduceIte, zGet, zSet, zSet2, zEnt, zWid, Value.category, List.map_cons, List.map_nil, List.sum_cons, List.sum_nil, List.replicate, Option.toList, Nat.reduceAdd, Nat.reduceSub, Nat.reduceMul, Nat.reduceLeDiff, Nat.reduceEqDiff, Nat.reduceLT, List.cons_append, List.nil_append, true_or, or_true, or_false, false_or, M.m.k, M.m.r0, M.m.r1, M.m.r5, M.m.r6, M.m.r7, M.m.r8, M.m.r9, M.m.r21, M.m.r24, M.m.r25, M.m.r28, M.m.r29, M.m.r30, M.m.r31, M.m.r35, M.m.r36, M.m.r37, M.m.r38, M.m.r40, M.m.r43, M.m.r44, M.m.r45, M.m.k121, M.m.k122, M.m.k123, M.m.k124, M.m.k125, M.m.k126, M.m.k127, M.m.k128, M.m.k129, M.m.k130, M.m.k131, M.m.k132, M.m.k133, M.m.k134, M.m.k135, M.m.k136, M.m.k137, M.m.k138, M.m.k139, M.m.k140, M.m.k141, M.m.k142, M.a0, M.a1, M.a2, M.a3, M.a4, M.a5, M.a6, nI_ltI, nI_leI, nI_eq, nI_clamp, zIn_nI, bI_0, nI_add, nI_mul, nI_or, nI_and, nI_shl1, nI_bit, ↓pk_rem, pk_div, Nat.lt_irrefl, Nat.not_lt_zero, reduceCtorEq]
    rfl
theorem m_whereOfR (M : RMk σ) {p : Nat} (hp : p < 8) :
   zC (d + 2) 281 [.ref 120, .int (nI p)] σ K = K (some (.int (sI σ 121 (16 + 2 * p + 1)))) σ := by
  have hb : 16 + 2 * p + 1 < 2640 := by omega
  rw [E_281]
  simp (disch := omega) only [L_281_0, zt_281_0, ↓e_iconst0, ↓e_iconst1, ↓e_bipush0, ↓e_bipush1, ↓e_sipush0, ↓e_sipush1, ↓e_ldc0, ↓e_ldc1, ↓e_ldc_w0, ↓e_ldc_w1, ↓e_ldc2, ↓e_lconst0, ↓e_lconst1, ↓e_ldc2_w0, ↓e_ldc2_w1, ↓e_iload, ↓e_iload_n, ↓e_istore, ↓e_istore_n, ↓e_lload, ↓e_lload_n, ↓e_lstore, ↓e_lstore_n, ↓e_aload, ↓e_aload_n, ↓e_astore, ↓e_astore_n, ↓e_iinc0, ↓e_iinc1, ↓e_iadd, ↓e_isub, ↓e_imul, ↓e_iand, ↓e_ior, ↓e_ixor, ↓e_ishl, ↓e_ishr, ↓e_iushr, ↓e_ladd, ↓e_lsub, ↓e_lmul, ↓e_land, ↓e_lor, ↓e_idiv, ↓e_irem, ↓e_ldiv, ↓e_lrem, ↓e_lshl, ↓e_lcmp, ↓e_i2l, ↓e_l2i, ↓e_i2b, ↓e_i2s, ↓e_dup_int, ↓e_pop_int, ↓e_dup_ref, ↓e_pop_ref, ↓e_dup2, ↓e_goto, ↓e_nop, ↓e_ifCond_eq, ↓e_if_icmp_eq, ↓e_ifCond_ne, ↓e_if_icmp_ne, ↓e_ifCond_lt, ↓e_if_icmp_lt, ↓e_ifCond_ge, ↓e_if_icmp_ge, ↓e_ifCond_gt, ↓e_if_icmp_gt, ↓e_ifCond_le, ↓e_if_icmp_le, ↓e_tab, ↓e_look, ↓e_get0, ↓e_get1, ↓e_get2, ↓e_get3, ↓e_put0, ↓e_put1, ↓e_put2, ↓e_put3, ↓e_iaload, ↓e_laload, ↓e_baload, ↓e_aaload, ↓e_iastore, ↓e_lastore, ↓e_bastore, ↓e_aastore, ↓e_alen, ↓e_new, ↓e_newarray, ↓e_anewarray, ↓e_objinit, ↓e_virt1, ↓e_virt2, ↓e_virt3, ↓e_virt4, ↓e_virt5, ↓e_virt6, ↓e_virt7, ↓e_stat0, ↓e_stat1, ↓e_stat2, ↓e_stat3, ↓e_stat4, ↓e_stat5, ↓e_stat6, ↓e_stat7, ↓e_spec1, ↓e_spec2, ↓e_spec3, ↓e_spec4, ↓e_spec5, ↓e_strlen, ↓e_charAt, ↓e_copy, ↓e_iret0, ↓e_iret1, ↓e_lret, ↓e_aret, ↓e_vret, zIsI_int, zIsL_long, zIsA_ref, zInt_int, true_and, and_true, ↓reduceIte, zGet, zSet, zSet2, zEnt, zWid, Value.category, List.map_cons, List.map_nil, List.sum_cons, List.sum_nil, List.replicate, Option.toList, Nat.reduceAdd, Nat.reduceSub, Nat.reduceMul, Nat.reduceLeDiff, Nat.reduceEqDiff, Nat.reduceLT, List.cons_append, List.nil_append, true_or, or_true, or_false, false_or, M.k, M.r0, M.r1, M.r5, M.r6, M.r7, M.r8, M.r9, M.r21, M.r24, M.r25, M.r28, M.r29, M.r30, M.r31, M.r35, M.r36, M.r37, M.r38, M.r40, M.r43, M.r44, M.r45, M.k121, M.k122, M.k123, M.k124, M.k125, M.k126, M.k127, M.k128, M.k129, M.k130, M.k131, M.k132, M.k133, M.k134, M.k135, M.k136, M.k137, M.k138, M.k139, M.k140, M.k141, M.k142, nI_ltI, nI_leI, nI_eq, nI_clamp, zIn_nI, bI_0, nI_add, nI_mul, nI_or, nI_and, nI_shl1, nI_bit, ↓pk_rem, pk_div, Nat.lt_irrefl, Nat.not_lt_zero, reduceCtorEq, ↓m_paperRow, hb]
end SRT
