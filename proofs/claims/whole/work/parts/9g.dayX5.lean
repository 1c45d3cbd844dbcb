/-! THE CLASS'S days -/
/-- DAYS are there, at u -/
def RDc (σ : MS) (u : Nat) (D : Dy) : Prop := (sI σ u 0 = nI 1) ∧ (sI σ u 1 = nI D.1) ∧ (∀ i, i < D.1 → sI σ (u + 1) i = nI (D.2.2.1 i).1) ∧ (∀ i, i < D.1 → sI σ (u + 2) i = oI (D.2.2.1 i).2.1) ∧ (∀ i, i < D.1 → sI σ (u + 3) i = oI (D.2.2.1 i).2.2.1) ∧ (∀ i, i < D.1 → sI σ (u + 4) i = nI (D.2.2.1 i).2.2.2)
theorem RDc.u0 {σ : MS} {u : Nat} {D : Dy} (H : RDc σ u D) : sI σ u 0 = nI 1 := H.1
theorem RDc.u1 {σ : MS} {u : Nat} {D : Dy} (H : RDc σ u D) : sI σ u 1 = nI D.1 := H.2.1
theorem RDc.c1 {σ : MS} {u : Nat} {D : Dy} (H : RDc σ u D) : ∀ i, i < D.1 → sI σ (u + 1) i = nI (D.2.2.1 i).1 := H.2.2.1
theorem RDc.c2 {σ : MS} {u : Nat} {D : Dy} (H : RDc σ u D) : ∀ i, i < D.1 → sI σ (u + 2) i = oI (D.2.2.1 i).2.1 := H.2.2.2.1
theorem RDc.c3 {σ : MS} {u : Nat} {D : Dy} (H : RDc σ u D) : ∀ i, i < D.1 → sI σ (u + 3) i = oI (D.2.2.1 i).2.2.1 := H.2.2.2.2.1
theorem RDc.c4 {σ : MS} {u : Nat} {D : Dy} (H : RDc σ u D) : ∀ i, i < D.1 → sI σ (u + 4) i = nI (D.2.2.1 i).2.2.2 := H.2.2.2.2.2
theorem RDc.mk {σ : MS} {u : Nat} {D : Dy} (u0 : sI σ u 0 = nI 1) (u1 : sI σ u 1 = nI D.1) (c1 : ∀ i, i < D.1 → sI σ (u + 1) i = nI (D.2.2.1 i).1) (c2 : ∀ i, i < D.1 → sI σ (u + 2) i = oI (D.2.2.1 i).2.1) (c3 : ∀ i, i < D.1 → sI σ (u + 3) i = oI (D.2.2.1 i).2.2.1) (c4 : ∀ i, i < D.1 → sI σ (u + 4) i = nI (D.2.2.1 i).2.2.2) : RDc σ u D := ⟨u0, u1, c1, c2, c3, c4⟩
def DLPost (σ : MS) (u r : Nat) (x : Er ⊕ Dy) (τ : MS) : Prop := FD u r σ τ ∧ match x with
  | .inl e => sI τ 98 8 = nI e.1 ∧ sI τ 98 9 = nI e.2
  | .inr D => (sI τ 98 8 = nI 0 ∧ sI τ 98 9 = -nI 1) ∧ RDc τ u D
section DX5
variable {d : Nat} {σ τ ρ : MS} {a u w r n : Nat} {A : Ofc} {B : Nat → Nat} {T U : Tk} {S : Ps} {P : Tp} {K : Option Value → MS → Prop}
theorem add_ok (P : PsOk S) {w k : Nat} {a b : Option Nat} (h30 : S.1.1 < 30) (h3 : (w = 16 ∨ w = 19) → S.2.1 < 3) : PsOk (S.add w k a b) := by
  obtain ⟨p1, p2, p3, p4⟩ := P
  by_cases ho : w = 16 ∨ w = 19
  · have e : (S.add w k a b).2 = (S.2.1 + 1, upF S.2.2.1 S.2.1 S.1.1, upF S.2.2.2 S.2.1 S.1.2.1) := if_pos ho
    unfold PsOk
    rw [e]
    have h3 := h3 ho
    refine ⟨show S.1.1 + 1 ≤ 30 by omega, show S.2.1 + 1 ≤ 3 by omega, show S.1.2.1 + 1 + (S.2.1 + 1) ≤ 2 * (S.1.1 + 1) by omega, fun k hk => ?_⟩
    have hk : k < S.2.1 + 1 := hk
    show upF S.2.2.1 S.2.1 S.1.1 k < S.1.1 + 1 ∧ upF S.2.2.2 S.2.1 S.1.2.1 k < S.1.2.1 + 1
    by_cases hh : k = S.2.1
    · rw [hh, upF_s, upF_s]; omega
    · rw [upF_n _ _ hh, upF_n _ _ hh]
      have := p4 k (by omega)
      omega
  · have e : (S.add w k a b).2 = S.2 := if_neg ho
    unfold PsOk
    rw [e]
    refine ⟨show S.1.1 + 1 ≤ 30 by omega, p2, show S.1.2.1 + 1 + S.2.1 ≤ 2 * (S.1.1 + 1) by omega, fun k hk => ?_⟩
    have := p4 k hk
    show S.2.2.1 k < S.1.1 + 1 ∧ S.2.2.2 k < S.1.2.1 + 1
    omega
theorem fin_ok (P : PsOk S) (h0 : S.2.1 ≠ 0) : PsOk S.fin := by
  obtain ⟨p1, p2, p3, p4⟩ := P
  refine ⟨p1, show S.2.1 - 1 ≤ 3 by omega, show S.1.2.1 + 1 + (S.2.1 - 1) ≤ 2 * S.1.1 by omega, fun k hk => ?_⟩
  have hk : k < S.2.1 - 1 := hk
  have := p4 k (by omega)
  show S.2.2.1 k < S.1.1 ∧ S.2.2.2 k < S.1.2.1 + 1
  omega
def DyQ (B : Nat → Nat) (n s : Nat) (x : Er ⊕ (Ps × Tk)) : Prop := match x with
  | .inl e => 1 ≤ e.1 ∧ e.1 ≤ 7
  | .inr y => PsOk y.1 ∧ TkOk B n y.2 ∧ s < y.2.2.1
theorem kE_dy {s : Nat} {S : Ps} (P : PsOk S) (H : TkOk B n T) (hs : s ≤ T.2.1) : DyQ B n s (kE B n T fun T => .inr (S, T)) := by
  unfold kE
  dsimp only
  by_cases h : isS B T 59 = true
  · rw [if_pos h]
    have h4 : T.1 ≠ 0 := fun h0 => by
      unfold isS at h
      rw [h0] at h
      cases h
    have := nx_lt H h4
    exact ⟨P, nx_ok H, by show s < (nx B n T).2.1; omega⟩
  · rw [if_neg h]; exact cs7 T
theorem qDay_ok (P : PsOk S) (H : TkOk B n T) : DyQ B n T.2.1 (qDay B n A S T) := by
  have l := nx_le H
  have l2 := H.se
  unfold qDay
  split
  · split
    · exact cs7 T
    · split
      · split
        · exact cs7 T
        · rename_i h0
          exact kE_dy (fin_ok P h0) (nx_ok H) (by omega)
      · unfold qStep
        split
        · split
          · exact er7 (by decide) (by decide)
          · split
            · exact er7 (by decide) (by decide)
            · rename_i w _ _ _ h30 h3
              have k1 := kindOf_ok (w := w) (nx_ok H) (Nat.le_refl _)
              cases hq : kindOf B n w (nx B n T) with
              | inl e => rw [hq] at k1; exact k1
              | inr x =>
                rw [hq] at k1
                dsimp only
                have k2 := pieces_ok (A := A) (l := pcs x.1) k1.1 k1.2
                cases hq2 : pieces B n A (pcs x.1) x.2 with
                | inl e => rw [hq2] at k2; exact k2
                | inr y =>
                  rw [hq2] at k2
                  have := P.1
                  have := P.2.1
                  exact kE_dy (add_ok P (by omega) (fun ho => by
                    have : ¬ S.2.1 = 3 := fun h => h3 ⟨ho, h⟩
                    omega)) k2.1 (by have := k2.2; omega)
        · exact cs7 T
  · exact cs7 T
theorem qDaysL_s (B : Nat → Nat) (n : Nat) (A : Ofc) (m : Nat) (S : Ps) (T : Tk) : qDaysL B n A (m + 1) S T = if T.1 = 0 then (if S.2.1 = 0 then .inr S.1 else .inl (cs T, T.2.1)) else (match qDay B n A S T with
    | .inl e => .inl e
    | .inr x => qDaysL B n A m x.1 x.2) := rfl
theorem qDaysL_ok : ∀ (m : Nat) (S : Ps) (T : Tk), PsOk S → TkOk B n T → match qDaysL B n A m S T with
    | .inl e => 1 ≤ e.1 ∧ e.1 ≤ 7
    | .inr D => D.1 ≤ 30 ∧ D.2.1 ≤ 60 := by
  intro m
  induction m with
  | zero =>
    intro S T P H
    obtain ⟨p1, p2, p3, p4⟩ := P
    exact ⟨p1, by show S.1.2.1 ≤ 60; omega⟩
  | succ m ih =>
    intro S T P H
    rw [qDaysL_s]
    by_cases h0 : T.1 = 0
    · rw [if_pos h0]
      by_cases hd : S.2.1 = 0
      · rw [if_pos hd]
        obtain ⟨p1, p2, p3, p4⟩ := P
        exact ⟨p1, by show S.1.2.1 ≤ 60; omega⟩
      · rw [if_neg hd]; exact cs7 T
    · rw [if_neg h0]
      have Q := qDay_ok (A := A) P H
      cases hq : qDay B n A S T with
      | inl e => rw [hq] at Q; exact Q
      | inr x => rw [hq] at Q; exact ih _ _ Q.1 Q.2.1
theorem psOk_0 : PsOk (Dy.nil, 0, fun _ => 0, fun _ => 0) := ⟨by decide, by decide, by decide, fun k hk => absurd hk (Nat.not_lt_zero k)⟩
theorem qDays_ok : match qDays B n A with
    | .inl e => 1 ≤ e.1 ∧ e.1 ≤ 7
    | .inr D => D.1 ≤ 30 ∧ D.2.1 ≤ 60 := qDaysL_ok 901 _ _ psOk_0 (tk_ok (by omega)).1
theorem c_readDay (X : RDg σ a u r B n T A S) (H : TkOk B n T) (h9 : n ≤ 900) (O : OfcOk A) (N : NmOk A) (P : PsOk S) (hau : a + 11 < u ∨ u + 4 < a) (ha : a + 11 < 98) (hu : u + 4 < 98) (hr : 142 < r) :
   ∃ τ, DPost σ a u r B n A (qDay B n A S T) τ ∧ ∀ K, (if isW B T 20 = true then zC (d + 6) 14 [.ref r] σ K else zC (d + 6) 17 [.ref r] σ K) = K (some (.int (bI (okR (qDay B n A S T))))) τ := by
  unfold qDay isW
  by_cases h2 : T.1 = 2
  · rw [if_pos h2, show (T.1 == 2) = true by rw [h2]; rfl, Bool.true_and]
    cases hw : wno (tw B T) with
    | none =>
      have st : stW B T = false := by unfold stW; rw [hw]; simp
      have is := fun (K : Option Value → MS → Prop) => c_isStep (d := d + 4) (K := K) X H
      rw [show (wno (wl B T.2.1 T.2.2) == some 20) = false by show (wno (tw B T) == some 20) = false; rw [hw]; rfl]
      refine ⟨_, DP.no FD.rf, fun K => ?_⟩
      rw [if_neg Bool.false_ne_true, E_17]
      simp (disch := omega) only [L_17_0, zt_17_0, L_17_15, zt_17_15, L_17_37, zt_17_37, L_17_57, zt_17_57, L_17_66, zt_17_66, L_17_94, zt_17_94, L_17_109, zt_17_109, L_17_135, zt_17_135, L_17_136, zt_17_136, ↓e_iconst0, ↓e_iconst1, ↓e_bipush0, ↓e_bipush1, ↓e_sipush0, ↓e_sipush1, ↓e_ldc0, ↓e_ldc1, ↓e_ldc_w0, ↓e_ldc_w1, ↓e_ldc2, ↓e_lconst0, ↓e_lconst1, ↓e_ldc2_w0, ↓e_ldc2_w1, ↓e_iload, ↓e_iload_n, ↓e_istore, ↓e_istore_n, ↓e_lload, ↓e_lload_n, ↓e_lstore, ↓e_lstore_n, ↓e_aload, ↓e_aload_n, ↓e_astore, ↓e_astore_n, ↓e_iinc0, ↓e_iinc1, ↓e_iadd, ↓e_isub, ↓e_imul, ↓e_iand, ↓e_ior, ↓e_ixor, ↓e_ishl, ↓e_ishr, ↓e_iushr, ↓e_ladd, ↓e_lsub, ↓e_lmul, ↓e_land, ↓e_lor, ↓e_idiv, ↓e_irem, ↓e_ldiv, ↓e_lrem, ↓e_lshl, ↓e_lcmp, ↓e_i2l, ↓e_l2i, ↓e_i2b, ↓e_i2s, ↓e_dup_int, ↓e_pop_int, ↓e_dup_ref, ↓e_pop_ref, ↓e_dup2, ↓e_goto, ↓e_nop, ↓e_ifCond_eq, ↓e_if_icmp_eq, ↓e_ifCond_ne, ↓e_if_icmp_ne, ↓e_ifCond_lt, ↓e_if_icmp_lt, ↓e_ifCond_ge, ↓e_if_icmp_ge, ↓e_ifCond_gt, ↓e_if_icmp_gt, ↓e_ifCond_le, ↓e_if_icmp_le, ↓e_tab, ↓e_look, ↓e_get0, ↓e_get1, ↓e_get2, ↓e_get3, ↓e_put0, ↓e_put1, ↓e_put2, ↓e_put3, ↓e_iaload, ↓e_laload, ↓e_baload, ↓e_aaload, ↓e_iastore, ↓e_lastore, ↓e_bastore, ↓e_aastore, ↓e_alen, ↓e_new, ↓e_newarray, ↓e_anewarray, ↓e_objinit, ↓e_virt1, ↓e_virt2, ↓e_virt3, ↓e_virt4, ↓e_virt5, ↓e_virt6, ↓e_virt7, ↓e_stat0, ↓e_stat1, ↓e_stat2, ↓e_stat3, ↓e_stat4, ↓e_stat5, ↓e_stat6, ↓e_stat7, ↓e_spec1, ↓e_spec2, ↓e_spec3, ↓e_spec4, ↓e_spec5, ↓e_strlen, ↓e_charAt, ↓e_copy, ↓e_iret0, ↓e_iret1, ↓e_lret, ↓e_aret, ↓e_vret, zIsI_int, zIsL_long, zIsA_ref, zInt_int, true_and, and_true, ↓reduceIte, zGet, zSet, zSet2, zEnt, zWid, Value.category, List.map_cons, List.map_nil, List.sum_cons, List.sum_nil, List.replicate, Option.toList, Nat.reduceAdd, Nat.reduceSub, Nat.reduceMul, Nat.reduceLeDiff, Nat.reduceEqDiff, Nat.reduceLT, List.cons_append, List.nil_append, true_or, or_true, or_false, false_or, nI_ltI, nI_leI, nI_eq, nI_clamp, zIn_nI, bI_0, nI_add, nI_mul, nI_or, nI_and, nI_shl1, nI_bit, ↓pk_rem, pk_div, Nat.lt_irrefl, Nat.not_lt_zero, reduceCtorEq, X.k, X.r0, ↓is, st, show bI false = nI 0 from rfl, X.x.t.x.k, ↓c_cannotStand X.x H]
      rfl
    | some w =>
      dsimp only
      by_cases h20 : w = 20
      · subst h20
        rw [if_pos rfl, show (wno (wl B T.2.1 T.2.2) == some 20) = true by show (wno (tw B T) == some 20) = true; rw [hw]; rfl]
        obtain ⟨τ, Q, e⟩ := c_readEnd (d := d + 1) X H h9 P hau ha hu hr
        refine ⟨τ, Q, fun K => ?_⟩
        rw [if_pos rfl]
        exact e K
      · rw [if_neg h20, show (wno (wl B T.2.1 T.2.2) == some 20) = false by show (wno (tw B T) == some 20) = false; rw [hw]; exact beq_eq_false_iff_ne.mpr (fun h => h20 (Option.some.inj h))]
        obtain ⟨τ, Q, e⟩ := c_readStep (d := d) X H h9 O N P h2 hw hau ha hu hr
        refine ⟨τ, Q, fun K => ?_⟩
        rw [if_neg Bool.false_ne_true]
        exact e K
  · rw [if_neg h2, show (T.1 == 2) = false from beq_eq_false_iff_ne.mpr h2, Bool.false_and]
    have st : stW B T = false := by unfold stW; rw [beq_eq_false_iff_ne.mpr h2]; rfl
    have is := fun (K : Option Value → MS → Prop) => c_isStep (d := d + 4) (K := K) X H
    refine ⟨_, DP.no FD.rf, fun K => ?_⟩
    rw [if_neg Bool.false_ne_true, E_17]
    simp (disch := omega) only [L_17_0, zt_17_0, L_17_15, zt_17_15, L_17_37, zt_17_37, L_17_57, zt_17_57, L_17_66, zt_17_66, L_17_94, zt_17_94, L_17_109, zt_17_109, L_17_135, zt_17_135, L_17_136, zt_17_136, ↓e_iconst0, ↓e_iconst1, ↓e_bipush0, ↓e_bipush1, ↓e_sipush0, ↓e_sipush1, ↓e_ldc0, ↓e_ldc1, ↓e_ldc_w0, ↓e_ldc_w1, ↓e_ldc2, ↓e_lconst0, ↓e_lconst1, ↓e_ldc2_w0, ↓e_ldc2_w1, ↓e_iload, ↓e_iload_n, ↓e_istore, ↓e_istore_n, ↓e_lload, ↓e_lload_n, ↓e_lstore, ↓e_lstore_n, ↓e_aload, ↓e_aload_n, ↓e_astore, ↓e_astore_n, ↓e_iinc0, ↓e_iinc1, ↓e_iadd, ↓e_isub, ↓e_imul, ↓e_iand, ↓e_ior, ↓e_ixor, ↓e_ishl, ↓e_ishr, ↓e_iushr, ↓e_ladd, ↓e_lsub, ↓e_lmul, ↓e_land, ↓e_lor, ↓e_idiv, ↓e_irem, ↓e_ldiv, ↓e_lrem, ↓e_lshl, ↓e_lcmp, ↓e_i2l, ↓e_l2i, ↓e_i2b, ↓e_i2s, ↓e_dup_int, ↓e_pop_int, ↓e_dup_ref, ↓e_pop_ref, ↓e_dup2, ↓e_goto, ↓e_nop, ↓e_ifCond_eq, ↓e_if_icmp_eq, ↓e_ifCond_ne, ↓e_if_icmp_ne, ↓e_ifCond_lt, ↓e_if_icmp_lt, ↓e_ifCond_ge, ↓e_if_icmp_ge, ↓e_ifCond_gt, ↓e_if_icmp_gt, ↓e_ifCond_le, ↓e_if_icmp_le, ↓e_tab, ↓e_look, ↓e_get0, ↓e_get1, ↓e_get2, ↓e_get3, ↓e_put0, ↓e_put1, ↓e_put2, ↓e_put3, ↓e_iaload, ↓e_laload, ↓e_baload, ↓e_aaload, ↓e_iastore, ↓e_lastore, ↓e_bastore, ↓e_aastore, ↓e_alen, ↓e_new, ↓e_newarray, ↓e_anewarray, ↓e_objinit, ↓e_virt1, ↓e_virt2, ↓e_virt3, ↓e_virt4, ↓e_virt5, ↓e_virt6, ↓e_virt7, ↓e_stat0, ↓e_stat1, ↓e_stat2, ↓e_stat3, ↓e_stat4, ↓e_stat5, ↓e_stat6, ↓e_stat7, ↓e_spec1, ↓e_spec2, ↓e_spec3, ↓e_spec4, ↓e_spec5, ↓e_strlen, ↓e_charAt, ↓e_copy, ↓e_iret0, ↓e_iret1, ↓e_lret, ↓e_aret, ↓e_vret, zIsI_int, zIsL_long, zIsA_ref, zInt_int, true_and, and_true, ↓reduceIte, zGet, zSet, zSet2, zEnt, zWid, Value.category, List.map_cons, List.map_nil, List.sum_cons, List.sum_nil, List.replicate, Option.toList, Nat.reduceAdd, Nat.reduceSub, Nat.reduceMul, Nat.reduceLeDiff, Nat.reduceEqDiff, Nat.reduceLT, List.cons_append, List.nil_append, true_or, or_true, or_false, false_or, nI_ltI, nI_leI, nI_eq, nI_clamp, zIn_nI, bI_0, nI_add, nI_mul, nI_or, nI_and, nI_shl1, nI_bit, ↓pk_rem, pk_div, Nat.lt_irrefl, Nat.not_lt_zero, reduceCtorEq, X.k, X.r0, ↓is, st, show bI false = nI 0 from rfl, X.x.t.x.k, ↓c_cannotStand X.x H]
    rfl
theorem RDg.c (X : RDg σ a u r B n T A S) : RDc σ u S.1 := RDc.mk X.u0 X.u1 X.c1 X.c2 X.c3 X.c4
theorem c_dayLoop (h9 : n ≤ 900) (O : OfcOk A) (N : NmOk A) (hau : a + 11 < u ∨ u + 4 < a) (ha : a + 11 < 98) (hu : u + 4 < 98) (hr : 142 < r) : ∀ (m k : Nat) (σ : MS) (S : Ps) (T : Tk), k + m = 901 → RDg σ a u r B n T A S → PsOk S → TkOk B n T → k ≤ T.2.1 →
   ∃ τ, DLPost σ u r (qDaysL B n A m S T) τ ∧ ∀ K, zX (d + 6) 13 19 [.ref r, .int (nI 1), .int (nI k)] [] σ K = K none τ := by
  intro m
  induction m with
  | zero =>
    intro k σ S T hk X P H hT
    have := H.e
    have := H.se
    omega
  | succ m ih =>
    intro k σ S T hk X P H hT
    have hk9 : ¬ 900 < k := by omega
    have h4 := H.k
    have xk := X.x.t.x.k
    have x2 := X.x.k2
    have pd := P.2.1
    rw [qDaysL_s]
    by_cases h0 : T.1 = 0
    · rw [if_pos h0]
      by_cases hd : S.2.1 = 0
      · rw [if_pos hd]
        refine ⟨σ, ⟨FD.rf, ⟨X.z8, X.z9⟩, X.c⟩, fun K => ?_⟩
        rw [L_13_19, zt_13_19]
        simp (disch := omega) only [L_13_70, zt_13_70, L_13_89, zt_13_89, ↓e_iconst0, ↓e_iconst1, ↓e_bipush0, ↓e_bipush1, ↓e_sipush0, ↓e_sipush1, ↓e_ldc0, ↓e_ldc1, ↓e_ldc_w0, ↓e_ldc_w1, ↓e_ldc2, ↓e_lconst0, ↓e_lconst1, ↓e_ldc2_w0, ↓e_ldc2_w1, ↓e_iload, ↓e_iload_n, ↓e_istore, ↓e_istore_n, ↓e_lload, ↓e_lload_n, ↓e_lstore, ↓e_lstore_n, ↓e_aload, ↓e_aload_n, ↓e_astore, ↓e_astore_n, ↓e_iinc0, ↓e_iinc1, ↓e_iadd, ↓e_isub, ↓e_imul, ↓e_iand, ↓e_ior, ↓e_ixor, ↓e_ishl, ↓e_ishr, ↓e_iushr, ↓e_ladd, ↓e_lsub, ↓e_lmul, ↓e_land, ↓e_lor, ↓e_idiv, ↓e_irem, ↓e_ldiv, ↓e_lrem, ↓e_lshl, ↓e_lcmp, ↓e_i2l, ↓e_l2i, ↓e_i2b, ↓e_i2s, ↓e_dup_int, ↓e_pop_int, ↓e_dup_ref, ↓e_pop_ref, ↓e_dup2, ↓e_goto, ↓e_nop, ↓e_ifCond_eq, ↓e_if_icmp_eq, ↓e_ifCond_ne, ↓e_if_icmp_ne, ↓e_ifCond_lt, ↓e_if_icmp_lt, ↓e_ifCond_ge, ↓e_if_icmp_ge, ↓e_ifCond_gt, ↓e_if_icmp_gt, ↓e_ifCond_le, ↓e_if_icmp_le, ↓e_tab, ↓e_look, ↓e_get0, ↓e_get1, ↓e_get2, ↓e_get3, ↓e_put0, ↓e_put1, ↓e_put2, ↓e_put3, ↓e_iaload, ↓e_laload, ↓e_baload, ↓e_aaload, ↓e_iastore, ↓e_lastore, ↓e_bastore, ↓e_aastore, ↓e_alen, ↓e_new, ↓e_newarray, ↓e_anewarray, ↓e_objinit, ↓e_virt1, ↓e_virt2, ↓e_virt3, ↓e_virt4, ↓e_virt5, ↓e_virt6, ↓e_virt7, ↓e_stat0, ↓e_stat1, ↓e_stat2, ↓e_stat3, ↓e_stat4, ↓e_stat5, ↓e_stat6, ↓e_stat7, ↓e_spec1, ↓e_spec2, ↓e_spec3, ↓e_spec4, ↓e_spec5, ↓e_strlen, ↓e_charAt, ↓e_copy, ↓e_iret0, ↓e_iret1, ↓e_lret, ↓e_aret, ↓e_vret, zIsI_int, zIsL_long, zIsA_ref, zInt_int, true_and, and_true, ↓reduceIte, zGet, zSet, zSet2, zEnt, zWid, Value.category, List.map_cons, List.map_nil, List.sum_cons, List.sum_nil, List.replicate, Option.toList, Nat.reduceAdd, Nat.reduceSub, Nat.reduceMul, Nat.reduceLeDiff, Nat.reduceEqDiff, Nat.reduceLT, List.cons_append, List.nil_append, true_or, or_true, or_false, false_or, nI_ltI, nI_leI, nI_eq, nI_clamp, zIn_nI, bI_0, nI_add, nI_mul, nI_or, nI_and, nI_shl1, nI_bit, ↓pk_rem, pk_div, Nat.lt_irrefl, Nat.not_lt_zero, reduceCtorEq, hk9, X.k, X.r0, xk, x2, h0, X.w, hd]
      · rw [if_neg hd]
        have hd2 : 0 < S.2.1 := by omega
        refine ⟨flt σ (cs T) T.2.1, ⟨FD.rf.flt _ _, flt_8 _ _, flt_9 _ _⟩, fun K => ?_⟩
        rw [L_13_19, zt_13_19]
        simp (disch := omega) only [L_13_70, zt_13_70, L_13_89, zt_13_89, ↓e_iconst0, ↓e_iconst1, ↓e_bipush0, ↓e_bipush1, ↓e_sipush0, ↓e_sipush1, ↓e_ldc0, ↓e_ldc1, ↓e_ldc_w0, ↓e_ldc_w1, ↓e_ldc2, ↓e_lconst0, ↓e_lconst1, ↓e_ldc2_w0, ↓e_ldc2_w1, ↓e_iload, ↓e_iload_n, ↓e_istore, ↓e_istore_n, ↓e_lload, ↓e_lload_n, ↓e_lstore, ↓e_lstore_n, ↓e_aload, ↓e_aload_n, ↓e_astore, ↓e_astore_n, ↓e_iinc0, ↓e_iinc1, ↓e_iadd, ↓e_isub, ↓e_imul, ↓e_iand, ↓e_ior, ↓e_ixor, ↓e_ishl, ↓e_ishr, ↓e_iushr, ↓e_ladd, ↓e_lsub, ↓e_lmul, ↓e_land, ↓e_lor, ↓e_idiv, ↓e_irem, ↓e_ldiv, ↓e_lrem, ↓e_lshl, ↓e_lcmp, ↓e_i2l, ↓e_l2i, ↓e_i2b, ↓e_i2s, ↓e_dup_int, ↓e_pop_int, ↓e_dup_ref, ↓e_pop_ref, ↓e_dup2, ↓e_goto, ↓e_nop, ↓e_ifCond_eq, ↓e_if_icmp_eq, ↓e_ifCond_ne, ↓e_if_icmp_ne, ↓e_ifCond_lt, ↓e_if_icmp_lt, ↓e_ifCond_ge, ↓e_if_icmp_ge, ↓e_ifCond_gt, ↓e_if_icmp_gt, ↓e_ifCond_le, ↓e_if_icmp_le, ↓e_tab, ↓e_look, ↓e_get0, ↓e_get1, ↓e_get2, ↓e_get3, ↓e_put0, ↓e_put1, ↓e_put2, ↓e_put3, ↓e_iaload, ↓e_laload, ↓e_baload, ↓e_aaload, ↓e_iastore, ↓e_lastore, ↓e_bastore, ↓e_aastore, ↓e_alen, ↓e_new, ↓e_newarray, ↓e_anewarray, ↓e_objinit, ↓e_virt1, ↓e_virt2, ↓e_virt3, ↓e_virt4, ↓e_virt5, ↓e_virt6, ↓e_virt7, ↓e_stat0, ↓e_stat1, ↓e_stat2, ↓e_stat3, ↓e_stat4, ↓e_stat5, ↓e_stat6, ↓e_stat7, ↓e_spec1, ↓e_spec2, ↓e_spec3, ↓e_spec4, ↓e_spec5, ↓e_strlen, ↓e_charAt, ↓e_copy, ↓e_iret0, ↓e_iret1, ↓e_lret, ↓e_aret, ↓e_vret, zIsI_int, zIsL_long, zIsA_ref, zInt_int, true_and, and_true, ↓reduceIte, zGet, zSet, zSet2, zEnt, zWid, Value.category, List.map_cons, List.map_nil, List.sum_cons, List.sum_nil, List.replicate, Option.toList, Nat.reduceAdd, Nat.reduceSub, Nat.reduceMul, Nat.reduceLeDiff, Nat.reduceEqDiff, Nat.reduceLT, List.cons_append, List.nil_append, true_or, or_true, or_false, false_or, nI_ltI, nI_leI, nI_eq, nI_clamp, zIn_nI, bI_0, nI_add, nI_mul, nI_or, nI_and, nI_shl1, nI_bit, ↓pk_rem, pk_div, Nat.lt_irrefl, Nat.not_lt_zero, reduceCtorEq, hk9, X.k, X.r0, xk, x2, h0, X.w, hd2, ↓c_cannotStand X.x H]
    · rw [if_neg h0]
      obtain ⟨τ1, P1, e1⟩ := c_readDay (d := d) (A := A) X H h9 O N P hau ha hu hr
      have Q := qDay_ok (A := A) P H
      have aw := fun (K : Option Value → MS → Prop) => c_atWord (d := d + 5) (K := K) X.x H (by decide : 20 < 22)
      have stp : ∀ K, zX (d + 6) 13 19 [.ref r, .int (nI 1), .int (nI k)] [] σ K = zX (d + 6) 13 19 [.ref r, .int (bI (okR (qDay B n A S T))), .int (nI (k + 1))] [] τ1 K := fun K => by
        rw [L_13_19, zt_13_19]
        cases hw : isW B T 20 with
        | true =>
          rw [hw] at e1
          simp only [if_true] at e1
          simp (disch := omega) only [L_13_59, zt_13_59, L_13_63, zt_13_63, ↓e_iconst0, ↓e_iconst1, ↓e_bipush0, ↓e_bipush1, ↓e_sipush0, ↓e_sipush1, ↓e_ldc0, ↓e_ldc1, ↓e_ldc_w0, ↓e_ldc_w1, ↓e_ldc2, ↓e_lconst0, ↓e_lconst1, ↓e_ldc2_w0, ↓e_ldc2_w1, ↓e_iload, ↓e_iload_n, ↓e_istore, ↓e_istore_n, ↓e_lload, ↓e_lload_n, ↓e_lstore, ↓e_lstore_n, ↓e_aload, ↓e_aload_n, ↓e_astore, ↓e_astore_n, ↓e_iinc0, ↓e_iinc1, ↓e_iadd, ↓e_isub, ↓e_imul, ↓e_iand, ↓e_ior, ↓e_ixor, ↓e_ishl, ↓e_ishr, ↓e_iushr, ↓e_ladd, ↓e_lsub, ↓e_lmul, ↓e_land, ↓e_lor, ↓e_idiv, ↓e_irem, ↓e_ldiv, ↓e_lrem, ↓e_lshl, ↓e_lcmp, ↓e_i2l, ↓e_l2i, ↓e_i2b, ↓e_i2s, ↓e_dup_int, ↓e_pop_int, ↓e_dup_ref, ↓e_pop_ref, ↓e_dup2, ↓e_goto, ↓e_nop, ↓e_ifCond_eq, ↓e_if_icmp_eq, ↓e_ifCond_ne, ↓e_if_icmp_ne, ↓e_ifCond_lt, ↓e_if_icmp_lt, ↓e_ifCond_ge, ↓e_if_icmp_ge, ↓e_ifCond_gt, ↓e_if_icmp_gt, ↓e_ifCond_le, ↓e_if_icmp_le, ↓e_tab, ↓e_look, ↓e_get0, ↓e_get1, ↓e_get2, ↓e_get3, ↓e_put0, ↓e_put1, ↓e_put2, ↓e_put3, ↓e_iaload, ↓e_laload, ↓e_baload, ↓e_aaload, ↓e_iastore, ↓e_lastore, ↓e_bastore, ↓e_aastore, ↓e_alen, ↓e_new, ↓e_newarray, ↓e_anewarray, ↓e_objinit, ↓e_virt1, ↓e_virt2, ↓e_virt3, ↓e_virt4, ↓e_virt5, ↓e_virt6, ↓e_virt7, ↓e_stat0, ↓e_stat1, ↓e_stat2, ↓e_stat3, ↓e_stat4, ↓e_stat5, ↓e_stat6, ↓e_stat7, ↓e_spec1, ↓e_spec2, ↓e_spec3, ↓e_spec4, ↓e_spec5, ↓e_strlen, ↓e_charAt, ↓e_copy, ↓e_iret0, ↓e_iret1, ↓e_lret, ↓e_aret, ↓e_vret, zIsI_int, zIsL_long, zIsA_ref, zInt_int, true_and, and_true, ↓reduceIte, zGet, zSet, zSet2, zEnt, zWid, Value.category, List.map_cons, List.map_nil, List.sum_cons, List.sum_nil, List.replicate, Option.toList, Nat.reduceAdd, Nat.reduceSub, Nat.reduceMul, Nat.reduceLeDiff, Nat.reduceEqDiff, Nat.reduceLT, List.cons_append, List.nil_append, true_or, or_true, or_false, false_or, nI_ltI, nI_leI, nI_eq, nI_clamp, zIn_nI, bI_0, nI_add, nI_mul, nI_or, nI_and, nI_shl1, nI_bit, ↓pk_rem, pk_div, Nat.lt_irrefl, Nat.not_lt_zero, reduceCtorEq, hk9, X.k, X.r0, xk, x2, h0, ↓aw, hw, show bI true = nI 1 from rfl, ↓e1]
        | false =>
          rw [hw] at e1
          simp only [Bool.false_eq_true, if_false] at e1
          simp (disch := omega) only [L_13_59, zt_13_59, L_13_63, zt_13_63, ↓e_iconst0, ↓e_iconst1, ↓e_bipush0, ↓e_bipush1, ↓e_sipush0, ↓e_sipush1, ↓e_ldc0, ↓e_ldc1, ↓e_ldc_w0, ↓e_ldc_w1, ↓e_ldc2, ↓e_lconst0, ↓e_lconst1, ↓e_ldc2_w0, ↓e_ldc2_w1, ↓e_iload, ↓e_iload_n, ↓e_istore, ↓e_istore_n, ↓e_lload, ↓e_lload_n, ↓e_lstore, ↓e_lstore_n, ↓e_aload, ↓e_aload_n, ↓e_astore, ↓e_astore_n, ↓e_iinc0, ↓e_iinc1, ↓e_iadd, ↓e_isub, ↓e_imul, ↓e_iand, ↓e_ior, ↓e_ixor, ↓e_ishl, ↓e_ishr, ↓e_iushr, ↓e_ladd, ↓e_lsub, ↓e_lmul, ↓e_land, ↓e_lor, ↓e_idiv, ↓e_irem, ↓e_ldiv, ↓e_lrem, ↓e_lshl, ↓e_lcmp, ↓e_i2l, ↓e_l2i, ↓e_i2b, ↓e_i2s, ↓e_dup_int, ↓e_pop_int, ↓e_dup_ref, ↓e_pop_ref, ↓e_dup2, ↓e_goto, ↓e_nop, ↓e_ifCond_eq, ↓e_if_icmp_eq, ↓e_ifCond_ne, ↓e_if_icmp_ne, ↓e_ifCond_lt, ↓e_if_icmp_lt, ↓e_ifCond_ge, ↓e_if_icmp_ge, ↓e_ifCond_gt, ↓e_if_icmp_gt, ↓e_ifCond_le, ↓e_if_icmp_le, ↓e_tab, ↓e_look, ↓e_get0, ↓e_get1, ↓e_get2, ↓e_get3, ↓e_put0, ↓e_put1, ↓e_put2, ↓e_put3, ↓e_iaload, ↓e_laload, ↓e_baload, ↓e_aaload, ↓e_iastore, ↓e_lastore, ↓e_bastore, ↓e_aastore, ↓e_alen, ↓e_new, ↓e_newarray, ↓e_anewarray, ↓e_objinit, ↓e_virt1, ↓e_virt2, ↓e_virt3, ↓e_virt4, ↓e_virt5, ↓e_virt6, ↓e_virt7, ↓e_stat0, ↓e_stat1, ↓e_stat2, ↓e_stat3, ↓e_stat4, ↓e_stat5, ↓e_stat6, ↓e_stat7, ↓e_spec1, ↓e_spec2, ↓e_spec3, ↓e_spec4, ↓e_spec5, ↓e_strlen, ↓e_charAt, ↓e_copy, ↓e_iret0, ↓e_iret1, ↓e_lret, ↓e_aret, ↓e_vret, zIsI_int, zIsL_long, zIsA_ref, zInt_int, true_and, and_true, ↓reduceIte, zGet, zSet, zSet2, zEnt, zWid, Value.category, List.map_cons, List.map_nil, List.sum_cons, List.sum_nil, List.replicate, Option.toList, Nat.reduceAdd, Nat.reduceSub, Nat.reduceMul, Nat.reduceLeDiff, Nat.reduceEqDiff, Nat.reduceLT, List.cons_append, List.nil_append, true_or, or_true, or_false, false_or, nI_ltI, nI_leI, nI_eq, nI_clamp, zIn_nI, bI_0, nI_add, nI_mul, nI_or, nI_and, nI_shl1, nI_bit, ↓pk_rem, pk_div, Nat.lt_irrefl, Nat.not_lt_zero, reduceCtorEq, hk9, X.k, X.r0, xk, x2, h0, ↓aw, hw, show bI false = nI 0 from rfl, ↓e1]
      cases hq : qDay B n A S T with
      | inl e =>
        rw [hq] at P1 stp
        have stp : ∀ K, zX (d + 6) 13 19 [.ref r, .int (nI 1), .int (nI k)] [] σ K = zX (d + 6) 13 19 [.ref r, .int (nI 0), .int (nI (k + 1))] [] τ1 K := stp
        refine ⟨τ1, P1, fun K => ?_⟩
        rw [stp K, L_13_19, zt_13_19]
        by_cases h : 900 < k + 1
        · simp (disch := omega) only [L_13_70, zt_13_70, L_13_89, zt_13_89, ↓e_iconst0, ↓e_iconst1, ↓e_bipush0, ↓e_bipush1, ↓e_sipush0, ↓e_sipush1, ↓e_ldc0, ↓e_ldc1, ↓e_ldc_w0, ↓e_ldc_w1, ↓e_ldc2, ↓e_lconst0, ↓e_lconst1, ↓e_ldc2_w0, ↓e_ldc2_w1, ↓e_iload, ↓e_iload_n, ↓e_istore, ↓e_istore_n, ↓e_lload, ↓e_lload_n, ↓e_lstore, ↓e_lstore_n, ↓e_aload, ↓e_aload_n, ↓e_astore, ↓e_astore_n, ↓e_iinc0, ↓e_iinc1, ↓e_iadd, ↓e_isub, ↓e_imul, ↓e_iand, ↓e_ior, ↓e_ixor, ↓e_ishl, ↓e_ishr, ↓e_iushr, ↓e_ladd, ↓e_lsub, ↓e_lmul, ↓e_land, ↓e_lor, ↓e_idiv, ↓e_irem, ↓e_ldiv, ↓e_lrem, ↓e_lshl, ↓e_lcmp, ↓e_i2l, ↓e_l2i, ↓e_i2b, ↓e_i2s, ↓e_dup_int, ↓e_pop_int, ↓e_dup_ref, ↓e_pop_ref, ↓e_dup2, ↓e_goto, ↓e_nop, ↓e_ifCond_eq, ↓e_if_icmp_eq, ↓e_ifCond_ne, ↓e_if_icmp_ne, ↓e_ifCond_lt, ↓e_if_icmp_lt, ↓e_ifCond_ge, ↓e_if_icmp_ge, ↓e_ifCond_gt, ↓e_if_icmp_gt, ↓e_ifCond_le, ↓e_if_icmp_le, ↓e_tab, ↓e_look, ↓e_get0, ↓e_get1, ↓e_get2, ↓e_get3, ↓e_put0, ↓e_put1, ↓e_put2, ↓e_put3, ↓e_iaload, ↓e_laload, ↓e_baload, ↓e_aaload, ↓e_iastore, ↓e_lastore, ↓e_bastore, ↓e_aastore, ↓e_alen, ↓e_new, ↓e_newarray, ↓e_anewarray, ↓e_objinit, ↓e_virt1, ↓e_virt2, ↓e_virt3, ↓e_virt4, ↓e_virt5, ↓e_virt6, ↓e_virt7, ↓e_stat0, ↓e_stat1, ↓e_stat2, ↓e_stat3, ↓e_stat4, ↓e_stat5, ↓e_stat6, ↓e_stat7, ↓e_spec1, ↓e_spec2, ↓e_spec3, ↓e_spec4, ↓e_spec5, ↓e_strlen, ↓e_charAt, ↓e_copy, ↓e_iret0, ↓e_iret1, ↓e_lret, ↓e_aret, ↓e_vret, zIsI_int, zIsL_long, zIsA_ref, zInt_int, true_and, and_true, ↓reduceIte, zGet, zSet, zSet2, zEnt, zWid, Value.category, List.map_cons, List.map_nil, List.sum_cons, List.sum_nil, List.replicate, Option.toList, Nat.reduceAdd, Nat.reduceSub, Nat.reduceMul, Nat.reduceLeDiff, Nat.reduceEqDiff, Nat.reduceLT, List.cons_append, List.nil_append, true_or, or_true, or_false, false_or, nI_ltI, nI_leI, nI_eq, nI_clamp, zIn_nI, bI_0, nI_add, nI_mul, nI_or, nI_and, nI_shl1, nI_bit, ↓pk_rem, pk_div, Nat.lt_irrefl, Nat.not_lt_zero, reduceCtorEq, h]
        · simp (disch := omega) only [L_13_70, zt_13_70, L_13_89, zt_13_89, ↓e_iconst0, ↓e_iconst1, ↓e_bipush0, ↓e_bipush1, ↓e_sipush0, ↓e_sipush1, ↓e_ldc0, ↓e_ldc1, ↓e_ldc_w0, ↓e_ldc_w1, ↓e_ldc2, ↓e_lconst0, ↓e_lconst1, ↓e_ldc2_w0, ↓e_ldc2_w1, ↓e_iload, ↓e_iload_n, ↓e_istore, ↓e_istore_n, ↓e_lload, ↓e_lload_n, ↓e_lstore, ↓e_lstore_n, ↓e_aload, ↓e_aload_n, ↓e_astore, ↓e_astore_n, ↓e_iinc0, ↓e_iinc1, ↓e_iadd, ↓e_isub, ↓e_imul, ↓e_iand, ↓e_ior, ↓e_ixor, ↓e_ishl, ↓e_ishr, ↓e_iushr, ↓e_ladd, ↓e_lsub, ↓e_lmul, ↓e_land, ↓e_lor, ↓e_idiv, ↓e_irem, ↓e_ldiv, ↓e_lrem, ↓e_lshl, ↓e_lcmp, ↓e_i2l, ↓e_l2i, ↓e_i2b, ↓e_i2s, ↓e_dup_int, ↓e_pop_int, ↓e_dup_ref, ↓e_pop_ref, ↓e_dup2, ↓e_goto, ↓e_nop, ↓e_ifCond_eq, ↓e_if_icmp_eq, ↓e_ifCond_ne, ↓e_if_icmp_ne, ↓e_ifCond_lt, ↓e_if_icmp_lt, ↓e_ifCond_ge, ↓e_if_icmp_ge, ↓e_ifCond_gt, ↓e_if_icmp_gt, ↓e_ifCond_le, ↓e_if_icmp_le, ↓e_tab, ↓e_look, ↓e_get0, ↓e_get1, ↓e_get2, ↓e_get3, ↓e_put0, ↓e_put1, ↓e_put2, ↓e_put3, ↓e_iaload, ↓e_laload, ↓e_baload, ↓e_aaload, ↓e_iastore, ↓e_lastore, ↓e_bastore, ↓e_aastore, ↓e_alen, ↓e_new, ↓e_newarray, ↓e_anewarray, ↓e_objinit, ↓e_virt1, ↓e_virt2, ↓e_virt3, ↓e_virt4, ↓e_virt5, ↓e_virt6, ↓e_virt7, ↓e_stat0, ↓e_stat1, ↓e_stat2, ↓e_stat3, ↓e_stat4, ↓e_stat5, ↓e_stat6, ↓e_stat7, ↓e_spec1, ↓e_spec2, ↓e_spec3, ↓e_spec4, ↓e_spec5, ↓e_strlen, ↓e_charAt, ↓e_copy, ↓e_iret0, ↓e_iret1, ↓e_lret, ↓e_aret, ↓e_vret, zIsI_int, zIsL_long, zIsA_ref, zInt_int, true_and, and_true, ↓reduceIte, zGet, zSet, zSet2, zEnt, zWid, Value.category, List.map_cons, List.map_nil, List.sum_cons, List.sum_nil, List.replicate, Option.toList, Nat.reduceAdd, Nat.reduceSub, Nat.reduceMul, Nat.reduceLeDiff, Nat.reduceEqDiff, Nat.reduceLT, List.cons_append, List.nil_append, true_or, or_true, or_false, false_or, nI_ltI, nI_leI, nI_eq, nI_clamp, zIn_nI, bI_0, nI_add, nI_mul, nI_or, nI_and, nI_shl1, nI_bit, ↓pk_rem, pk_div, Nat.lt_irrefl, Nat.not_lt_zero, reduceCtorEq, h]
      | inr x =>
        rw [hq] at P1 stp Q
        have stp : ∀ K, zX (d + 6) 13 19 [.ref r, .int (nI 1), .int (nI k)] [] σ K = zX (d + 6) 13 19 [.ref r, .int (nI 1), .int (nI (k + 1))] [] τ1 K := stp
        obtain ⟨τ2, P2, e2⟩ := ih (k + 1) τ1 x.1 x.2 (by omega) P1.2 Q.1 Q.2.1 (by have := Q.2.2; omega)
        refine ⟨τ2, ⟨P1.1.tr P2.1, P2.2⟩, fun K => ?_⟩
        rw [stp K, e2 K]
end DX5
