/-! THE MODEL READS DAYS: what stands behind a step's word -/
def Ps.row (S : Ps) (m : Nat) (q : Nat × Nat × Nat × Nat × Nat) : Ps := ((S.1.1, S.1.2.1, S.1.2.2.1, upF S.1.2.2.2 m q), S.2)
def drow (w k : Nat) (a b : Option Nat) : Nat × Nat × Nat × Nat × Nat := (kindM w k, if k = 18 then 0 else a.getD 0, b.getD 0, 0, if k = 18 then a.getD 0 else 0)
def bodyQ (B : Nat → Nat) (n : Nat) (A : Ofc) (w : Nat) (T : Tk) : Er ⊕ (Nat × Option Nat × Option Nat × Tk) := match kindOf B n w T with
  | .inl e => .inl e
  | .inr x => match pieces B n A (pcs x.1) x.2 with
    | .inl e => .inl e
    | .inr y => .inr (x.1, y.1, y.2.1, y.2.2)
def OPost (σ : MS) (B : Nat → Nat) (n : Nat) (A : Ofc) (S : Ps) (m w : Nat) (x : Er ⊕ (Nat × Option Nat × Option Nat × Tk)) (τ : MS) : Prop := FN σ τ ∧ match x with
  | .inl e => sI τ 120 18 = nI e.1 ∧ sI τ 120 17 = nI e.2
  | .inr y => RDn τ B n y.2.2.2 A (S.row m (drow w y.1 y.2.1 y.2.2.1))
theorem upF_two {α : Type} (f : Nat → α) (a : Nat) (v w : α) : upF (upF f a v) a w = upF f a w := by
  funext i
  by_cases h : i = a
  · rw [h, upF_s, upF_s]
  · rw [upF_n _ _ h, upF_n _ _ h, upF_n _ _ h]
theorem row_two (S : Ps) (m : Nat) (q p : Nat × Nat × Nat × Nat × Nat) : (S.row m q).row m p = S.row m p := by
  show ((S.1.1, S.1.2.1, S.1.2.2.1, upF (upF S.1.2.2.2 m q) m p), S.2) = _
  rw [upF_two]
  rfl
theorem row_at (S : Ps) (m : Nat) (q : Nat × Nat × Nat × Nat × Nat) : (S.row m q).1.2.2.2 m = q := upF_s _ _ _
section DM2
variable {d : Nat} {σ τ ρ : MS} {n m : Nat} {A : Ofc} {B : Nat → Nat} {T U : Tk} {S : Ps} {q : Nat × Nat × Nat × Nat × Nat} {K : Option Value → MS → Prop}
theorem ite_nI {c : Prop} [Decidable c] {v k : Nat} {x : Int32} (h : x = nI k) : (if c then nI v else x) = nI (if c then v else k) := by
  by_cases hc : c
  · rw [if_pos hc, if_pos hc]
  · rw [if_neg hc, if_neg hc]; exact h
theorem RDn.pi (X : RDn σ B n T A (S.row m q)) (O : OfcOk A) (hm : m < S.1.2.1) {i : Nat} {v : Nat} {p : Nat × Nat × Nat × Nat × Nat} (hi : i < 6) (h0 : p.1 = if i = 0 then v else q.1) (h1 : p.2.1 = if i = 1 then v else q.2.1) (h2 : p.2.2.1 = if i = 2 then v else q.2.2.1) (h4 : p.2.2.2.1 = if i = 4 then v else q.2.2.2.1) (h5 : p.2.2.2.2 = if i = 5 then v else q.2.2.2.2) : RDn (setI σ 121 (1652 + 6 * m + i) (nI v)) B n T A (S.row m p) := by
  have f : Ag (fun b => b = 121) σ (setI σ 121 (1652 + 6 * m + i) (nI v)) := Ag.rf.setI rfl
  have g : ∀ k, sI (setI σ 121 (1652 + 6 * m + i) (nI v)) 121 (1652 + 6 * m + k) = if i = k then nI v else sI σ 121 (1652 + 6 * m + k) := fun k => by
    rw [sI_setI]
    by_cases h : i = k
    · rw [if_pos ⟨rfl, by omega⟩, if_pos h]
    · rw [if_neg (by omega), if_neg h]
  have hm2 : m < (S.row m q).1.2.1 := hm
  have e0 := X.q0 m hm2
  have e1 := X.q1 m hm2
  have e2 := X.q2 m hm2
  have e4 := X.q4 m hm2
  have e5 := X.q5 m hm2
  rw [row_at] at e0 e1 e2 e4 e5
  have g0 := g 0
  rw [Nat.add_zero] at g0
  have r := X.row O hm2 (q := p) f (fun j hj => by rw [sI_setI, if_neg (by omega)]) (by rw [g0, h0]; exact ite_nI e0) (by rw [g 1, h1]; exact ite_nI e1) (by rw [g 2, h2]; exact ite_nI e2) (by rw [g 4, h4]; exact ite_nI e4) (by rw [g 5, h5]; exact ite_nI e5)
  have e : (S.row m q).row m p = S.row m p := row_two S m q p
  rw [← e]
  exact r
/-- a piece put at a place of the row -/
theorem RDn.pc {x : Nat × Tk} (X : RDn σ B n T A (S.row m q)) (O : OfcOk A) (hm : m < S.1.2.1) {i : Nat} {p : Nat × Nat × Nat × Nat × Nat} (P : MPc σ B n (1652 + 6 * m + i) (.inr x) τ) (hi : i < 6) (h0 : p.1 = if i = 0 then x.1 else q.1) (h1 : p.2.1 = if i = 1 then x.1 else q.2.1) (h2 : p.2.2.1 = if i = 2 then x.1 else q.2.2.1) (h4 : p.2.2.2.1 = if i = 4 then x.1 else q.2.2.2.1) (h5 : p.2.2.2.2 = if i = 5 then x.1 else q.2.2.2.2) : RDn τ B n x.2 A (S.row m p) ∧ FN σ τ :=
  ⟨(X.pi O hm hi h0 h1 h2 h4 h5).tm O P.1 P.2, (FN.st (by omega)).tr (FN.tm P.1)⟩
theorem OP.no {w : Nat} {e : Er} (h : FN σ τ) : OPost σ B n A S m w (.inl e) (fltM τ e.1 e.2) := ⟨h.flt _ _, fltM_18 _ _, fltM_17 _ _⟩
theorem kindOf_n {w : Nat} (h : w ≠ 16) : kindOf B n w T = .inr (w, T) := by unfold kindOf; rw [if_neg h]
theorem bodyQ_1 {w c : Nat} (h : w ≠ 16) (hp : pcs w = [c]) : bodyQ B n A w T = (match piece B n A c T with
    | .inl e => .inl e
    | .inr x => .inr (w, some x.1, none, x.2)) := by
  unfold bodyQ
  rw [kindOf_n h]
  dsimp only
  rw [hp, pieces_1]
  cases piece B n A c T <;> rfl
theorem bodyQ_2 {w c e : Nat} (h : w ≠ 16) (hp : pcs w = [c, e]) : bodyQ B n A w T = (match piece B n A c T with
    | .inl e => .inl e
    | .inr x => match piece B n A e x.2 with
      | .inl e => .inl e
      | .inr y => .inr (w, some x.1, some y.1, y.2)) := by
  unfold bodyQ
  rw [kindOf_n h]
  dsimp only
  rw [hp, pieces_2]
  cases piece B n A c T with
  | inl e => rfl
  | inr x =>
    dsimp only
    cases piece B n A e x.2 <;> rfl
theorem bodyQ_0 {w : Nat} (h : w ≠ 16) (hp : pcs w = []) : bodyQ B n A w T = .inr (w, none, none, T) := by
  unfold bodyQ
  rw [kindOf_n h]
  dsimp only
  rw [hp, pieces_0]
theorem m_order {w : Nat} (X : RDn σ B n T A (S.row m (mno w, 0, 0, 0, 0))) (H : TkOk B n T) (h9 : n ≤ 900) (O : OfcOk A) (N : NmOk A) (hm : m < S.1.2.1) (hm2 : m < 60) (hw : isStW w = true) (h16 : w ≠ 16) :
   ∃ τ, OPost σ B n A S m w (bodyQ B n A w T) τ ∧ ∀ K, zC (d + 7) 268 [.ref 120, .int (nI (mno w)), .int (nI (1652 + 6 * m))] σ K = K (some (.int (bI (okR (bodyQ B n A w T))))) τ := by
  have M := X.m.m
  have mn10 : mno 10 = 10 := rfl
  have mn11 : mno 11 = 11 := rfl
  have mn12 : mno 12 = 12 := rfl
  have mn13 : mno 13 = 13 := rfl
  have mn14 : mno 14 = 14 := rfl
  have mn15 : mno 15 = 15 := rfl
  have mn19 : mno 19 = 17 := rfl
  have mn21 : mno 21 = 19 := rfl
  have hk : w = 10 ∨ w = 11 ∨ w = 12 ∨ w = 13 ∨ w = 14 ∨ w = 15 ∨ w = 19 ∨ w = 21 := by
    unfold isStW at hw
    simp only [Bool.or_eq_true, Bool.and_eq_true, decide_eq_true_eq] at hw
    omega
  rcases hk with rfl | rfl | rfl | rfl | rfl | rfl | rfl | rfl
  · -- 10
    have X : RDn σ B n T A (S.row m (10, 0, 0, 0, 0)) := X
    rw [bodyQ_1 (w := 10) (c := 112) (by decide) rfl]
    obtain ⟨τ1, P1, e1⟩ := m_paperTo (d := d + 1) X H h9 O N (to := 1652 + 6 * m + 1) (by omega) (by omega)
    have e1 : ∀ K, zC (d + 6) 265 [.ref 120, .int (nI (1652 + 6 * m + 1))] σ K = K (some (.int (bI (okR (piece B n A 112 T))))) τ1 := e1
    cases hp : piece B n A 112 T with
    | inl e =>
      rw [hp] at P1 e1
      refine ⟨τ1, P1, fun K => ?_⟩
      rw [E_268]
      simp (disch := omega) only [L_268_0, zt_268_0, L_268_48, zt_268_48, L_268_56, zt_268_56, L_268_80, zt_268_80, L_268_81, zt_268_81, L_268_82, zt_268_82, L_268_114, zt_268_114, L_268_115, zt_268_115, L_268_116, zt_268_116, L_268_127, zt_268_127, L_268_133, zt_268_133, show zTab 1 (132) (10) (17) #[47, 47, 55, 132, 81, 132, 126, 115] (nI 10) = 48 from by decide, ↓e_iconst0, ↓e_iconst1, ↓e_bipush0, ↓e_bipush1, ↓e_sipush0, ↓e_sipush1, ↓e_ldc0, ↓e_ldc1, ↓e_ldc_w0, ↓e_ldc_w1, ↓e_ldc2, ↓e_lconst0, ↓e_lconst1, ↓e_ldc2_w0, ↓e_ldc2_w1, ↓e_iload, ↓e_iload_n, ↓e_istore, ↓e_istore_n, ↓e_lload, ↓e_lload_n, ↓e_lstore, ↓e_lstore_n, ↓e_aload, ↓e_aload_n, ↓e_astore, ↓e_astore_n, ↓e_iinc0, ↓e_iinc1, ↓e_iadd, ↓e_isub, ↓e_imul, ↓e_iand, ↓e_ior, ↓e_ixor, ↓e_ishl, ↓e_ishr, ↓e_iushr, ↓e_ladd, ↓e_lsub, ↓e_lmul, ↓e_land, ↓e_lor, ↓e_idiv, ↓e_irem, ↓e_ldiv, ↓e_lrem, ↓e_lshl, ↓e_lcmp, ↓e_i2l, ↓e_l2i, ↓e_i2b, ↓e_i2s, ↓e_dup_int, ↓e_pop_int, ↓e_dup_ref, ↓e_pop_ref, ↓e_dup2, ↓e_goto, ↓e_nop, ↓e_ifCond_eq, ↓e_if_icmp_eq, ↓e_ifCond_ne, ↓e_if_icmp_ne, ↓e_ifCond_lt, ↓e_if_icmp_lt, ↓e_ifCond_ge, ↓e_if_icmp_ge, ↓e_ifCond_gt, ↓e_if_icmp_gt, ↓e_ifCond_le, ↓e_if_icmp_le, ↓e_tab, ↓e_look, ↓e_get0, ↓e_get1, ↓e_get2, ↓e_get3, ↓e_put0, ↓e_put1, ↓e_put2, ↓e_put3, ↓e_iaload, ↓e_laload, ↓e_baload, ↓e_aaload, ↓e_iastore, ↓e_lastore, ↓e_bastore, ↓e_aastore, ↓e_alen, ↓e_new, ↓e_newarray, ↓e_anewarray, ↓e_objinit, ↓e_virt1, ↓e_virt2, ↓e_virt3, ↓e_virt4, ↓e_virt5, ↓e_virt6, ↓e_virt7, ↓e_stat0, ↓e_stat1, ↓e_stat2, ↓e_stat3, ↓e_stat4, ↓e_stat5, ↓e_stat6, ↓e_stat7, ↓e_spec1, ↓e_spec2, ↓e_spec3, ↓e_spec4, ↓e_spec5, ↓e_strlen, ↓e_charAt, ↓e_copy, ↓e_iret0, ↓e_iret1, ↓e_lret, ↓e_aret, ↓e_vret, zIsI_int, zIsL_long, zIsA_ref, zInt_int, true_and, and_true, ↓reduceIte, zGet, zSet, zSet2, zEnt, zWid, Value.category, List.map_cons, List.map_nil, List.sum_cons, List.sum_nil, List.replicate, Option.toList, Nat.reduceAdd, Nat.reduceSub, Nat.reduceMul, Nat.reduceLeDiff, Nat.reduceEqDiff, Nat.reduceLT, List.cons_append, List.nil_append, true_or, or_true, or_false, false_or, nI_ltI, nI_leI, nI_eq, nI_clamp, zIn_nI, bI_0, nI_add, nI_mul, nI_or, nI_and, nI_shl1, nI_bit, ↓pk_rem, pk_div, Nat.lt_irrefl, Nat.not_lt_zero, reduceCtorEq, mn10, ↓e1, M.k, bI_1, bI_tf]
      rfl
    | inr x =>
      rw [hp] at P1 e1
      obtain ⟨X2, g2⟩ := X.pc O hm (p := drow 10 10 (some x.1) none) P1 (by decide) rfl rfl rfl rfl rfl
      refine ⟨τ1, ⟨g2, X2⟩, fun K => ?_⟩
      rw [E_268]
      simp (disch := omega) only [L_268_0, zt_268_0, L_268_48, zt_268_48, L_268_56, zt_268_56, L_268_80, zt_268_80, L_268_81, zt_268_81, L_268_82, zt_268_82, L_268_114, zt_268_114, L_268_115, zt_268_115, L_268_116, zt_268_116, L_268_127, zt_268_127, L_268_133, zt_268_133, show zTab 1 (132) (10) (17) #[47, 47, 55, 132, 81, 132, 126, 115] (nI 10) = 48 from by decide, ↓e_iconst0, ↓e_iconst1, ↓e_bipush0, ↓e_bipush1, ↓e_sipush0, ↓e_sipush1, ↓e_ldc0, ↓e_ldc1, ↓e_ldc_w0, ↓e_ldc_w1, ↓e_ldc2, ↓e_lconst0, ↓e_lconst1, ↓e_ldc2_w0, ↓e_ldc2_w1, ↓e_iload, ↓e_iload_n, ↓e_istore, ↓e_istore_n, ↓e_lload, ↓e_lload_n, ↓e_lstore, ↓e_lstore_n, ↓e_aload, ↓e_aload_n, ↓e_astore, ↓e_astore_n, ↓e_iinc0, ↓e_iinc1, ↓e_iadd, ↓e_isub, ↓e_imul, ↓e_iand, ↓e_ior, ↓e_ixor, ↓e_ishl, ↓e_ishr, ↓e_iushr, ↓e_ladd, ↓e_lsub, ↓e_lmul, ↓e_land, ↓e_lor, ↓e_idiv, ↓e_irem, ↓e_ldiv, ↓e_lrem, ↓e_lshl, ↓e_lcmp, ↓e_i2l, ↓e_l2i, ↓e_i2b, ↓e_i2s, ↓e_dup_int, ↓e_pop_int, ↓e_dup_ref, ↓e_pop_ref, ↓e_dup2, ↓e_goto, ↓e_nop, ↓e_ifCond_eq, ↓e_if_icmp_eq, ↓e_ifCond_ne, ↓e_if_icmp_ne, ↓e_ifCond_lt, ↓e_if_icmp_lt, ↓e_ifCond_ge, ↓e_if_icmp_ge, ↓e_ifCond_gt, ↓e_if_icmp_gt, ↓e_ifCond_le, ↓e_if_icmp_le, ↓e_tab, ↓e_look, ↓e_get0, ↓e_get1, ↓e_get2, ↓e_get3, ↓e_put0, ↓e_put1, ↓e_put2, ↓e_put3, ↓e_iaload, ↓e_laload, ↓e_baload, ↓e_aaload, ↓e_iastore, ↓e_lastore, ↓e_bastore, ↓e_aastore, ↓e_alen, ↓e_new, ↓e_newarray, ↓e_anewarray, ↓e_objinit, ↓e_virt1, ↓e_virt2, ↓e_virt3, ↓e_virt4, ↓e_virt5, ↓e_virt6, ↓e_virt7, ↓e_stat0, ↓e_stat1, ↓e_stat2, ↓e_stat3, ↓e_stat4, ↓e_stat5, ↓e_stat6, ↓e_stat7, ↓e_spec1, ↓e_spec2, ↓e_spec3, ↓e_spec4, ↓e_spec5, ↓e_strlen, ↓e_charAt, ↓e_copy, ↓e_iret0, ↓e_iret1, ↓e_lret, ↓e_aret, ↓e_vret, zIsI_int, zIsL_long, zIsA_ref, zInt_int, true_and, and_true, ↓reduceIte, zGet, zSet, zSet2, zEnt, zWid, Value.category, List.map_cons, List.map_nil, List.sum_cons, List.sum_nil, List.replicate, Option.toList, Nat.reduceAdd, Nat.reduceSub, Nat.reduceMul, Nat.reduceLeDiff, Nat.reduceEqDiff, Nat.reduceLT, List.cons_append, List.nil_append, true_or, or_true, or_false, false_or, nI_ltI, nI_leI, nI_eq, nI_clamp, zIn_nI, bI_0, nI_add, nI_mul, nI_or, nI_and, nI_shl1, nI_bit, ↓pk_rem, pk_div, Nat.lt_irrefl, Nat.not_lt_zero, reduceCtorEq, mn10, ↓e1, M.k, bI_1, bI_tf]
      rfl
  · -- 11
    have X : RDn σ B n T A (S.row m (11, 0, 0, 0, 0)) := X
    rw [bodyQ_1 (w := 11) (c := 112) (by decide) rfl]
    obtain ⟨τ1, P1, e1⟩ := m_paperTo (d := d + 1) X H h9 O N (to := 1652 + 6 * m + 1) (by omega) (by omega)
    have e1 : ∀ K, zC (d + 6) 265 [.ref 120, .int (nI (1652 + 6 * m + 1))] σ K = K (some (.int (bI (okR (piece B n A 112 T))))) τ1 := e1
    cases hp : piece B n A 112 T with
    | inl e =>
      rw [hp] at P1 e1
      refine ⟨τ1, P1, fun K => ?_⟩
      rw [E_268]
      simp (disch := omega) only [L_268_0, zt_268_0, L_268_48, zt_268_48, L_268_56, zt_268_56, L_268_80, zt_268_80, L_268_81, zt_268_81, L_268_82, zt_268_82, L_268_114, zt_268_114, L_268_115, zt_268_115, L_268_116, zt_268_116, L_268_127, zt_268_127, L_268_133, zt_268_133, show zTab 1 (132) (10) (17) #[47, 47, 55, 132, 81, 132, 126, 115] (nI 11) = 48 from by decide, ↓e_iconst0, ↓e_iconst1, ↓e_bipush0, ↓e_bipush1, ↓e_sipush0, ↓e_sipush1, ↓e_ldc0, ↓e_ldc1, ↓e_ldc_w0, ↓e_ldc_w1, ↓e_ldc2, ↓e_lconst0, ↓e_lconst1, ↓e_ldc2_w0, ↓e_ldc2_w1, ↓e_iload, ↓e_iload_n, ↓e_istore, ↓e_istore_n, ↓e_lload, ↓e_lload_n, ↓e_lstore, ↓e_lstore_n, ↓e_aload, ↓e_aload_n, ↓e_astore, ↓e_astore_n, ↓e_iinc0, ↓e_iinc1, ↓e_iadd, ↓e_isub, ↓e_imul, ↓e_iand, ↓e_ior, ↓e_ixor, ↓e_ishl, ↓e_ishr, ↓e_iushr, ↓e_ladd, ↓e_lsub, ↓e_lmul, ↓e_land, ↓e_lor, ↓e_idiv, ↓e_irem, ↓e_ldiv, ↓e_lrem, ↓e_lshl, ↓e_lcmp, ↓e_i2l, ↓e_l2i, ↓e_i2b, ↓e_i2s, ↓e_dup_int, ↓e_pop_int, ↓e_dup_ref, ↓e_pop_ref, ↓e_dup2, ↓e_goto, ↓e_nop, ↓e_ifCond_eq, ↓e_if_icmp_eq, ↓e_ifCond_ne, ↓e_if_icmp_ne, ↓e_ifCond_lt, ↓e_if_icmp_lt, ↓e_ifCond_ge, ↓e_if_icmp_ge, ↓e_ifCond_gt, ↓e_if_icmp_gt, ↓e_ifCond_le, ↓e_if_icmp_le, ↓e_tab, ↓e_look, ↓e_get0, ↓e_get1, ↓e_get2, ↓e_get3, ↓e_put0, ↓e_put1, ↓e_put2, ↓e_put3, ↓e_iaload, ↓e_laload, ↓e_baload, ↓e_aaload, ↓e_iastore, ↓e_lastore, ↓e_bastore, ↓e_aastore, ↓e_alen, ↓e_new, ↓e_newarray, ↓e_anewarray, ↓e_objinit, ↓e_virt1, ↓e_virt2, ↓e_virt3, ↓e_virt4, ↓e_virt5, ↓e_virt6, ↓e_virt7, ↓e_stat0, ↓e_stat1, ↓e_stat2, ↓e_stat3, ↓e_stat4, ↓e_stat5, ↓e_stat6, ↓e_stat7, ↓e_spec1, ↓e_spec2, ↓e_spec3, ↓e_spec4, ↓e_spec5, ↓e_strlen, ↓e_charAt, ↓e_copy, ↓e_iret0, ↓e_iret1, ↓e_lret, ↓e_aret, ↓e_vret, zIsI_int, zIsL_long, zIsA_ref, zInt_int, true_and, and_true, ↓reduceIte, zGet, zSet, zSet2, zEnt, zWid, Value.category, List.map_cons, List.map_nil, List.sum_cons, List.sum_nil, List.replicate, Option.toList, Nat.reduceAdd, Nat.reduceSub, Nat.reduceMul, Nat.reduceLeDiff, Nat.reduceEqDiff, Nat.reduceLT, List.cons_append, List.nil_append, true_or, or_true, or_false, false_or, nI_ltI, nI_leI, nI_eq, nI_clamp, zIn_nI, bI_0, nI_add, nI_mul, nI_or, nI_and, nI_shl1, nI_bit, ↓pk_rem, pk_div, Nat.lt_irrefl, Nat.not_lt_zero, reduceCtorEq, mn11, ↓e1, M.k, bI_1, bI_tf]
      rfl
    | inr x =>
      rw [hp] at P1 e1
      obtain ⟨X2, g2⟩ := X.pc O hm (p := drow 11 11 (some x.1) none) P1 (by decide) rfl rfl rfl rfl rfl
      refine ⟨τ1, ⟨g2, X2⟩, fun K => ?_⟩
      rw [E_268]
      simp (disch := omega) only [L_268_0, zt_268_0, L_268_48, zt_268_48, L_268_56, zt_268_56, L_268_80, zt_268_80, L_268_81, zt_268_81, L_268_82, zt_268_82, L_268_114, zt_268_114, L_268_115, zt_268_115, L_268_116, zt_268_116, L_268_127, zt_268_127, L_268_133, zt_268_133, show zTab 1 (132) (10) (17) #[47, 47, 55, 132, 81, 132, 126, 115] (nI 11) = 48 from by decide, ↓e_iconst0, ↓e_iconst1, ↓e_bipush0, ↓e_bipush1, ↓e_sipush0, ↓e_sipush1, ↓e_ldc0, ↓e_ldc1, ↓e_ldc_w0, ↓e_ldc_w1, ↓e_ldc2, ↓e_lconst0, ↓e_lconst1, ↓e_ldc2_w0, ↓e_ldc2_w1, ↓e_iload, ↓e_iload_n, ↓e_istore, ↓e_istore_n, ↓e_lload, ↓e_lload_n, ↓e_lstore, ↓e_lstore_n, ↓e_aload, ↓e_aload_n, ↓e_astore, ↓e_astore_n, ↓e_iinc0, ↓e_iinc1, ↓e_iadd, ↓e_isub, ↓e_imul, ↓e_iand, ↓e_ior, ↓e_ixor, ↓e_ishl, ↓e_ishr, ↓e_iushr, ↓e_ladd, ↓e_lsub, ↓e_lmul, ↓e_land, ↓e_lor, ↓e_idiv, ↓e_irem, ↓e_ldiv, ↓e_lrem, ↓e_lshl, ↓e_lcmp, ↓e_i2l, ↓e_l2i, ↓e_i2b, ↓e_i2s, ↓e_dup_int, ↓e_pop_int, ↓e_dup_ref, ↓e_pop_ref, ↓e_dup2, ↓e_goto, ↓e_nop, ↓e_ifCond_eq, ↓e_if_icmp_eq, ↓e_ifCond_ne, ↓e_if_icmp_ne, ↓e_ifCond_lt, ↓e_if_icmp_lt, ↓e_ifCond_ge, ↓e_if_icmp_ge, ↓e_ifCond_gt, ↓e_if_icmp_gt, ↓e_ifCond_le, ↓e_if_icmp_le, ↓e_tab, ↓e_look, ↓e_get0, ↓e_get1, ↓e_get2, ↓e_get3, ↓e_put0, ↓e_put1, ↓e_put2, ↓e_put3, ↓e_iaload, ↓e_laload, ↓e_baload, ↓e_aaload, ↓e_iastore, ↓e_lastore, ↓e_bastore, ↓e_aastore, ↓e_alen, ↓e_new, ↓e_newarray, ↓e_anewarray, ↓e_objinit, ↓e_virt1, ↓e_virt2, ↓e_virt3, ↓e_virt4, ↓e_virt5, ↓e_virt6, ↓e_virt7, ↓e_stat0, ↓e_stat1, ↓e_stat2, ↓e_stat3, ↓e_stat4, ↓e_stat5, ↓e_stat6, ↓e_stat7, ↓e_spec1, ↓e_spec2, ↓e_spec3, ↓e_spec4, ↓e_spec5, ↓e_strlen, ↓e_charAt, ↓e_copy, ↓e_iret0, ↓e_iret1, ↓e_lret, ↓e_aret, ↓e_vret, zIsI_int, zIsL_long, zIsA_ref, zInt_int, true_and, and_true, ↓reduceIte, zGet, zSet, zSet2, zEnt, zWid, Value.category, List.map_cons, List.map_nil, List.sum_cons, List.sum_nil, List.replicate, Option.toList, Nat.reduceAdd, Nat.reduceSub, Nat.reduceMul, Nat.reduceLeDiff, Nat.reduceEqDiff, Nat.reduceLT, List.cons_append, List.nil_append, true_or, or_true, or_false, false_or, nI_ltI, nI_leI, nI_eq, nI_clamp, zIn_nI, bI_0, nI_add, nI_mul, nI_or, nI_and, nI_shl1, nI_bit, ↓pk_rem, pk_div, Nat.lt_irrefl, Nat.not_lt_zero, reduceCtorEq, mn11, ↓e1, M.k, bI_1, bI_tf]
      rfl
  · -- 12
    have X : RDn σ B n T A (S.row m (12, 0, 0, 0, 0)) := X
    rw [bodyQ_2 (w := 12) (c := 102) (e := 102) (by decide) rfl]
    obtain ⟨τ1, P1, e1⟩ := m_cellTo (d := d + 2) X H h9 O (to := 1652 + 6 * m + 1) (by omega) (by omega)
    have e1 : ∀ K, zC (d + 6) 266 [.ref 120, .int (nI (1652 + 6 * m + 1))] σ K = K (some (.int (bI (okR (piece B n A 102 T))))) τ1 := e1
    cases hp : piece B n A 102 T with
    | inl e =>
      rw [hp] at P1 e1
      have e1 : ∀ K, zC (d + 6) 266 [.ref 120, .int (nI (1652 + 6 * m + 1))] σ K = K (some (.int (nI 0))) τ1 := e1
      refine ⟨τ1, P1, fun K => ?_⟩
      rw [E_268]
      simp (disch := omega) only [L_268_0, zt_268_0, L_268_48, zt_268_48, L_268_56, zt_268_56, L_268_80, zt_268_80, L_268_81, zt_268_81, L_268_82, zt_268_82, L_268_114, zt_268_114, L_268_115, zt_268_115, L_268_116, zt_268_116, L_268_127, zt_268_127, L_268_133, zt_268_133, show zTab 1 (132) (10) (17) #[47, 47, 55, 132, 81, 132, 126, 115] (nI 12) = 56 from by decide, ↓e_iconst0, ↓e_iconst1, ↓e_bipush0, ↓e_bipush1, ↓e_sipush0, ↓e_sipush1, ↓e_ldc0, ↓e_ldc1, ↓e_ldc_w0, ↓e_ldc_w1, ↓e_ldc2, ↓e_lconst0, ↓e_lconst1, ↓e_ldc2_w0, ↓e_ldc2_w1, ↓e_iload, ↓e_iload_n, ↓e_istore, ↓e_istore_n, ↓e_lload, ↓e_lload_n, ↓e_lstore, ↓e_lstore_n, ↓e_aload, ↓e_aload_n, ↓e_astore, ↓e_astore_n, ↓e_iinc0, ↓e_iinc1, ↓e_iadd, ↓e_isub, ↓e_imul, ↓e_iand, ↓e_ior, ↓e_ixor, ↓e_ishl, ↓e_ishr, ↓e_iushr, ↓e_ladd, ↓e_lsub, ↓e_lmul, ↓e_land, ↓e_lor, ↓e_idiv, ↓e_irem, ↓e_ldiv, ↓e_lrem, ↓e_lshl, ↓e_lcmp, ↓e_i2l, ↓e_l2i, ↓e_i2b, ↓e_i2s, ↓e_dup_int, ↓e_pop_int, ↓e_dup_ref, ↓e_pop_ref, ↓e_dup2, ↓e_goto, ↓e_nop, ↓e_ifCond_eq, ↓e_if_icmp_eq, ↓e_ifCond_ne, ↓e_if_icmp_ne, ↓e_ifCond_lt, ↓e_if_icmp_lt, ↓e_ifCond_ge, ↓e_if_icmp_ge, ↓e_ifCond_gt, ↓e_if_icmp_gt, ↓e_ifCond_le, ↓e_if_icmp_le, ↓e_tab, ↓e_look, ↓e_get0, ↓e_get1, ↓e_get2, ↓e_get3, ↓e_put0, ↓e_put1, ↓e_put2, ↓e_put3, ↓e_iaload, ↓e_laload, ↓e_baload, ↓e_aaload, ↓e_iastore, ↓e_lastore, ↓e_bastore, ↓e_aastore, ↓e_alen, ↓e_new, ↓e_newarray, ↓e_anewarray, ↓e_objinit, ↓e_virt1, ↓e_virt2, ↓e_virt3, ↓e_virt4, ↓e_virt5, ↓e_virt6, ↓e_virt7, ↓e_stat0, ↓e_stat1, ↓e_stat2, ↓e_stat3, ↓e_stat4, ↓e_stat5, ↓e_stat6, ↓e_stat7, ↓e_spec1, ↓e_spec2, ↓e_spec3, ↓e_spec4, ↓e_spec5, ↓e_strlen, ↓e_charAt, ↓e_copy, ↓e_iret0, ↓e_iret1, ↓e_lret, ↓e_aret, ↓e_vret, zIsI_int, zIsL_long, zIsA_ref, zInt_int, true_and, and_true, ↓reduceIte, zGet, zSet, zSet2, zEnt, zWid, Value.category, List.map_cons, List.map_nil, List.sum_cons, List.sum_nil, List.replicate, Option.toList, Nat.reduceAdd, Nat.reduceSub, Nat.reduceMul, Nat.reduceLeDiff, Nat.reduceEqDiff, Nat.reduceLT, List.cons_append, List.nil_append, true_or, or_true, or_false, false_or, nI_ltI, nI_leI, nI_eq, nI_clamp, zIn_nI, bI_0, nI_add, nI_mul, nI_or, nI_and, nI_shl1, nI_bit, ↓pk_rem, pk_div, Nat.lt_irrefl, Nat.not_lt_zero, reduceCtorEq, mn12, M.k, M.r0, M.r1, M.r5, M.r6, M.r7, M.r8, M.r9, M.r21, M.r24, M.r25, M.r28, M.r29, M.r30, M.r31, M.r35, M.r36, M.r37, M.r38, M.r40, M.r43, M.r44, M.r45, M.k121, M.k122, M.k123, M.k124, M.k125, M.k126, M.k127, M.k128, M.k129, M.k130, M.k131, M.k132, M.k133, M.k134, M.k135, M.k136, M.k137, M.k138, M.k139, M.k140, M.k141, M.k142, X.m.a2, ↓e1]
      rfl
    | inr x =>
      have px : TkOk B n x.2 := by rw [piece_n hp]; exact nx_ok H
      rw [hp] at P1 e1
      have e1 : ∀ K, zC (d + 6) 266 [.ref 120, .int (nI (1652 + 6 * m + 1))] σ K = K (some (.int (nI 1))) τ1 := e1
      obtain ⟨X2, g2⟩ := X.pc O hm (p := (12, x.1, 0, 0, 0)) P1 (by decide) rfl rfl rfl rfl rfl
      dsimp only
      have M2 := X2.m.m
      obtain ⟨τ2, P2, e2⟩ := m_cellTo (d := d + 2) X2 px h9 O (to := 1652 + 6 * m + 2) (by omega) (by omega)
      have e2 : ∀ K, zC (d + 6) 266 [.ref 120, .int (nI (1652 + 6 * m + 2))] τ1 K = K (some (.int (bI (okR (piece B n A 102 x.2))))) τ2 := e2
      cases hp2 : piece B n A 102 x.2 with
      | inl e =>
        rw [hp2] at P2 e2
        have e2 : ∀ K, zC (d + 6) 266 [.ref 120, .int (nI (1652 + 6 * m + 2))] τ1 K = K (some (.int (nI 0))) τ2 := e2
        refine ⟨τ2, ⟨g2.tr P2.1, P2.2⟩, fun K => ?_⟩
        rw [E_268]
        simp (disch := omega) only [L_268_0, zt_268_0, L_268_48, zt_268_48, L_268_56, zt_268_56, L_268_80, zt_268_80, L_268_81, zt_268_81, L_268_82, zt_268_82, L_268_114, zt_268_114, L_268_115, zt_268_115, L_268_116, zt_268_116, L_268_127, zt_268_127, L_268_133, zt_268_133, show zTab 1 (132) (10) (17) #[47, 47, 55, 132, 81, 132, 126, 115] (nI 12) = 56 from by decide, ↓e_iconst0, ↓e_iconst1, ↓e_bipush0, ↓e_bipush1, ↓e_sipush0, ↓e_sipush1, ↓e_ldc0, ↓e_ldc1, ↓e_ldc_w0, ↓e_ldc_w1, ↓e_ldc2, ↓e_lconst0, ↓e_lconst1, ↓e_ldc2_w0, ↓e_ldc2_w1, ↓e_iload, ↓e_iload_n, ↓e_istore, ↓e_istore_n, ↓e_lload, ↓e_lload_n, ↓e_lstore, ↓e_lstore_n, ↓e_aload, ↓e_aload_n, ↓e_astore, ↓e_astore_n, ↓e_iinc0, ↓e_iinc1, ↓e_iadd, ↓e_isub, ↓e_imul, ↓e_iand, ↓e_ior, ↓e_ixor, ↓e_ishl, ↓e_ishr, ↓e_iushr, ↓e_ladd, ↓e_lsub, ↓e_lmul, ↓e_land, ↓e_lor, ↓e_idiv, ↓e_irem, ↓e_ldiv, ↓e_lrem, ↓e_lshl, ↓e_lcmp, ↓e_i2l, ↓e_l2i, ↓e_i2b, ↓e_i2s, ↓e_dup_int, ↓e_pop_int, ↓e_dup_ref, ↓e_pop_ref, ↓e_dup2, ↓e_goto, ↓e_nop, ↓e_ifCond_eq, ↓e_if_icmp_eq, ↓e_ifCond_ne, ↓e_if_icmp_ne, ↓e_ifCond_lt, ↓e_if_icmp_lt, ↓e_ifCond_ge, ↓e_if_icmp_ge, ↓e_ifCond_gt, ↓e_if_icmp_gt, ↓e_ifCond_le, ↓e_if_icmp_le, ↓e_tab, ↓e_look, ↓e_get0, ↓e_get1, ↓e_get2, ↓e_get3, ↓e_put0, ↓e_put1, ↓e_put2, ↓e_put3, ↓e_iaload, ↓e_laload, ↓e_baload, ↓e_aaload, ↓e_iastore, ↓e_lastore, ↓e_bastore, ↓e_aastore, ↓e_alen, ↓e_new, ↓e_newarray, ↓e_anewarray, ↓e_objinit, ↓e_virt1, ↓e_virt2, ↓e_virt3, ↓e_virt4, ↓e_virt5, ↓e_virt6, ↓e_virt7, ↓e_stat0, ↓e_stat1, ↓e_stat2, ↓e_stat3, ↓e_stat4, ↓e_stat5, ↓e_stat6, ↓e_stat7, ↓e_spec1, ↓e_spec2, ↓e_spec3, ↓e_spec4, ↓e_spec5, ↓e_strlen, ↓e_charAt, ↓e_copy, ↓e_iret0, ↓e_iret1, ↓e_lret, ↓e_aret, ↓e_vret, zIsI_int, zIsL_long, zIsA_ref, zInt_int, true_and, and_true, ↓reduceIte, zGet, zSet, zSet2, zEnt, zWid, Value.category, List.map_cons, List.map_nil, List.sum_cons, List.sum_nil, List.replicate, Option.toList, Nat.reduceAdd, Nat.reduceSub, Nat.reduceMul, Nat.reduceLeDiff, Nat.reduceEqDiff, Nat.reduceLT, List.cons_append, List.nil_append, true_or, or_true, or_false, false_or, nI_ltI, nI_leI, nI_eq, nI_clamp, zIn_nI, bI_0, nI_add, nI_mul, nI_or, nI_and, nI_shl1, nI_bit, ↓pk_rem, pk_div, Nat.lt_irrefl, Nat.not_lt_zero, reduceCtorEq, mn12, M.k, M.r0, M.r1, M.r5, M.r6, M.r7, M.r8, M.r9, M.r21, M.r24, M.r25, M.r28, M.r29, M.r30, M.r31, M.r35, M.r36, M.r37, M.r38, M.r40, M.r43, M.r44, M.r45, M.k121, M.k122, M.k123, M.k124, M.k125, M.k126, M.k127, M.k128, M.k129, M.k130, M.k131, M.k132, M.k133, M.k134, M.k135, M.k136, M.k137, M.k138, M.k139, M.k140, M.k141, M.k142, X.m.a2, ↓e1, M2.k, ↓e2]
        rfl
      | inr y =>
        rw [hp2] at P2 e2
        have e2 : ∀ K, zC (d + 6) 266 [.ref 120, .int (nI (1652 + 6 * m + 2))] τ1 K = K (some (.int (nI 1))) τ2 := e2
        obtain ⟨X3, g3⟩ := X2.pc O hm (p := drow 12 12 (some x.1) (some y.1)) P2 (by decide) rfl rfl rfl rfl rfl
        refine ⟨τ2, ⟨g2.tr g3, X3⟩, fun K => ?_⟩
        rw [E_268]
        simp (disch := omega) only [L_268_0, zt_268_0, L_268_48, zt_268_48, L_268_56, zt_268_56, L_268_80, zt_268_80, L_268_81, zt_268_81, L_268_82, zt_268_82, L_268_114, zt_268_114, L_268_115, zt_268_115, L_268_116, zt_268_116, L_268_127, zt_268_127, L_268_133, zt_268_133, show zTab 1 (132) (10) (17) #[47, 47, 55, 132, 81, 132, 126, 115] (nI 12) = 56 from by decide, ↓e_iconst0, ↓e_iconst1, ↓e_bipush0, ↓e_bipush1, ↓e_sipush0, ↓e_sipush1, ↓e_ldc0, ↓e_ldc1, ↓e_ldc_w0, ↓e_ldc_w1, ↓e_ldc2, ↓e_lconst0, ↓e_lconst1, ↓e_ldc2_w0, ↓e_ldc2_w1, ↓e_iload, ↓e_iload_n, ↓e_istore, ↓e_istore_n, ↓e_lload, ↓e_lload_n, ↓e_lstore, ↓e_lstore_n, ↓e_aload, ↓e_aload_n, ↓e_astore, ↓e_astore_n, ↓e_iinc0, ↓e_iinc1, ↓e_iadd, ↓e_isub, ↓e_imul, ↓e_iand, ↓e_ior, ↓e_ixor, ↓e_ishl, ↓e_ishr, ↓e_iushr, ↓e_ladd, ↓e_lsub, ↓e_lmul, ↓e_land, ↓e_lor, ↓e_idiv, ↓e_irem, ↓e_ldiv, ↓e_lrem, ↓e_lshl, ↓e_lcmp, ↓e_i2l, ↓e_l2i, ↓e_i2b, ↓e_i2s, ↓e_dup_int, ↓e_pop_int, ↓e_dup_ref, ↓e_pop_ref, ↓e_dup2, ↓e_goto, ↓e_nop, ↓e_ifCond_eq, ↓e_if_icmp_eq, ↓e_ifCond_ne, ↓e_if_icmp_ne, ↓e_ifCond_lt, ↓e_if_icmp_lt, ↓e_ifCond_ge, ↓e_if_icmp_ge, ↓e_ifCond_gt, ↓e_if_icmp_gt, ↓e_ifCond_le, ↓e_if_icmp_le, ↓e_tab, ↓e_look, ↓e_get0, ↓e_get1, ↓e_get2, ↓e_get3, ↓e_put0, ↓e_put1, ↓e_put2, ↓e_put3, ↓e_iaload, ↓e_laload, ↓e_baload, ↓e_aaload, ↓e_iastore, ↓e_lastore, ↓e_bastore, ↓e_aastore, ↓e_alen, ↓e_new, ↓e_newarray, ↓e_anewarray, ↓e_objinit, ↓e_virt1, ↓e_virt2, ↓e_virt3, ↓e_virt4, ↓e_virt5, ↓e_virt6, ↓e_virt7, ↓e_stat0, ↓e_stat1, ↓e_stat2, ↓e_stat3, ↓e_stat4, ↓e_stat5, ↓e_stat6, ↓e_stat7, ↓e_spec1, ↓e_spec2, ↓e_spec3, ↓e_spec4, ↓e_spec5, ↓e_strlen, ↓e_charAt, ↓e_copy, ↓e_iret0, ↓e_iret1, ↓e_lret, ↓e_aret, ↓e_vret, zIsI_int, zIsL_long, zIsA_ref, zInt_int, true_and, and_true, ↓reduceIte, zGet, zSet, zSet2, zEnt, zWid, Value.category, List.map_cons, List.map_nil, List.sum_cons, List.sum_nil, List.replicate, Option.toList, Nat.reduceAdd, Nat.reduceSub, Nat.reduceMul, Nat.reduceLeDiff, Nat.reduceEqDiff, Nat.reduceLT, List.cons_append, List.nil_append, true_or, or_true, or_false, false_or, nI_ltI, nI_leI, nI_eq, nI_clamp, zIn_nI, bI_0, nI_add, nI_mul, nI_or, nI_and, nI_shl1, nI_bit, ↓pk_rem, pk_div, Nat.lt_irrefl, Nat.not_lt_zero, reduceCtorEq, mn12, M.k, M.r0, M.r1, M.r5, M.r6, M.r7, M.r8, M.r9, M.r21, M.r24, M.r25, M.r28, M.r29, M.r30, M.r31, M.r35, M.r36, M.r37, M.r38, M.r40, M.r43, M.r44, M.r45, M.k121, M.k122, M.k123, M.k124, M.k125, M.k126, M.k127, M.k128, M.k129, M.k130, M.k131, M.k132, M.k133, M.k134, M.k135, M.k136, M.k137, M.k138, M.k139, M.k140, M.k141, M.k142, X.m.a2, ↓e1, M2.k, ↓e2]
        rfl
  · -- 13
    have X : RDn σ B n T A (S.row m (13, 0, 0, 0, 0)) := X
    rw [bodyQ_0 (w := 13) (by decide) rfl]
    refine ⟨σ, ⟨FN.rf, X⟩, fun K => ?_⟩
    rw [E_268]
    simp (disch := omega) only [L_268_0, zt_268_0, L_268_48, zt_268_48, L_268_56, zt_268_56, L_268_80, zt_268_80, L_268_81, zt_268_81, L_268_82, zt_268_82, L_268_114, zt_268_114, L_268_115, zt_268_115, L_268_116, zt_268_116, L_268_127, zt_268_127, L_268_133, zt_268_133, show zTab 1 (132) (10) (17) #[47, 47, 55, 132, 81, 132, 126, 115] (nI 13) = 133 from by decide, ↓e_iconst0, ↓e_iconst1, ↓e_bipush0, ↓e_bipush1, ↓e_sipush0, ↓e_sipush1, ↓e_ldc0, ↓e_ldc1, ↓e_ldc_w0, ↓e_ldc_w1, ↓e_ldc2, ↓e_lconst0, ↓e_lconst1, ↓e_ldc2_w0, ↓e_ldc2_w1, ↓e_iload, ↓e_iload_n, ↓e_istore, ↓e_istore_n, ↓e_lload, ↓e_lload_n, ↓e_lstore, ↓e_lstore_n, ↓e_aload, ↓e_aload_n, ↓e_astore, ↓e_astore_n, ↓e_iinc0, ↓e_iinc1, ↓e_iadd, ↓e_isub, ↓e_imul, ↓e_iand, ↓e_ior, ↓e_ixor, ↓e_ishl, ↓e_ishr, ↓e_iushr, ↓e_ladd, ↓e_lsub, ↓e_lmul, ↓e_land, ↓e_lor, ↓e_idiv, ↓e_irem, ↓e_ldiv, ↓e_lrem, ↓e_lshl, ↓e_lcmp, ↓e_i2l, ↓e_l2i, ↓e_i2b, ↓e_i2s, ↓e_dup_int, ↓e_pop_int, ↓e_dup_ref, ↓e_pop_ref, ↓e_dup2, ↓e_goto, ↓e_nop, ↓e_ifCond_eq, ↓e_if_icmp_eq, ↓e_ifCond_ne, ↓e_if_icmp_ne, ↓e_ifCond_lt, ↓e_if_icmp_lt, ↓e_ifCond_ge, ↓e_if_icmp_ge, ↓e_ifCond_gt, ↓e_if_icmp_gt, ↓e_ifCond_le, ↓e_if_icmp_le, ↓e_tab, ↓e_look, ↓e_get0, ↓e_get1, ↓e_get2, ↓e_get3, ↓e_put0, ↓e_put1, ↓e_put2, ↓e_put3, ↓e_iaload, ↓e_laload, ↓e_baload, ↓e_aaload, ↓e_iastore, ↓e_lastore, ↓e_bastore, ↓e_aastore, ↓e_alen, ↓e_new, ↓e_newarray, ↓e_anewarray, ↓e_objinit, ↓e_virt1, ↓e_virt2, ↓e_virt3, ↓e_virt4, ↓e_virt5, ↓e_virt6, ↓e_virt7, ↓e_stat0, ↓e_stat1, ↓e_stat2, ↓e_stat3, ↓e_stat4, ↓e_stat5, ↓e_stat6, ↓e_stat7, ↓e_spec1, ↓e_spec2, ↓e_spec3, ↓e_spec4, ↓e_spec5, ↓e_strlen, ↓e_charAt, ↓e_copy, ↓e_iret0, ↓e_iret1, ↓e_lret, ↓e_aret, ↓e_vret, zIsI_int, zIsL_long, zIsA_ref, zInt_int, true_and, and_true, ↓reduceIte, zGet, zSet, zSet2, zEnt, zWid, Value.category, List.map_cons, List.map_nil, List.sum_cons, List.sum_nil, List.replicate, Option.toList, Nat.reduceAdd, Nat.reduceSub, Nat.reduceMul, Nat.reduceLeDiff, Nat.reduceEqDiff, Nat.reduceLT, List.cons_append, List.nil_append, true_or, or_true, or_false, false_or, nI_ltI, nI_leI, nI_eq, nI_clamp, zIn_nI, bI_0, nI_add, nI_mul, nI_or, nI_and, nI_shl1, nI_bit, ↓pk_rem, pk_div, Nat.lt_irrefl, Nat.not_lt_zero, reduceCtorEq, mn13]
    rfl
  · -- 14
    have X : RDn σ B n T A (S.row m (14, 0, 0, 0, 0)) := X
    rw [bodyQ_2 (w := 14) (c := 99) (e := 112) (by decide) rfl]
    obtain ⟨τ1, P1, e1⟩ := m_clerkTo (d := d + 2) X H h9 O N (to := 1652 + 6 * m + 1) (by omega) (by omega)
    have e1 : ∀ K, zC (d + 6) 256 [.ref 120, .int (nI 16), .int (nI A.nc), .int (nI (1652 + 6 * m + 1))] σ K = K (some (.int (bI (okR (piece B n A 99 T))))) τ1 := e1
    cases hp : piece B n A 99 T with
    | inl e =>
      rw [hp] at P1 e1
      have e1 : ∀ K, zC (d + 6) 256 [.ref 120, .int (nI 16), .int (nI A.nc), .int (nI (1652 + 6 * m + 1))] σ K = K (some (.int (nI 0))) τ1 := e1
      refine ⟨τ1, P1, fun K => ?_⟩
      rw [E_268]
      simp (disch := omega) only [L_268_0, zt_268_0, L_268_48, zt_268_48, L_268_56, zt_268_56, L_268_80, zt_268_80, L_268_81, zt_268_81, L_268_82, zt_268_82, L_268_114, zt_268_114, L_268_115, zt_268_115, L_268_116, zt_268_116, L_268_127, zt_268_127, L_268_133, zt_268_133, show zTab 1 (132) (10) (17) #[47, 47, 55, 132, 81, 132, 126, 115] (nI 14) = 82 from by decide, ↓e_iconst0, ↓e_iconst1, ↓e_bipush0, ↓e_bipush1, ↓e_sipush0, ↓e_sipush1, ↓e_ldc0, ↓e_ldc1, ↓e_ldc_w0, ↓e_ldc_w1, ↓e_ldc2, ↓e_lconst0, ↓e_lconst1, ↓e_ldc2_w0, ↓e_ldc2_w1, ↓e_iload, ↓e_iload_n, ↓e_istore, ↓e_istore_n, ↓e_lload, ↓e_lload_n, ↓e_lstore, ↓e_lstore_n, ↓e_aload, ↓e_aload_n, ↓e_astore, ↓e_astore_n, ↓e_iinc0, ↓e_iinc1, ↓e_iadd, ↓e_isub, ↓e_imul, ↓e_iand, ↓e_ior, ↓e_ixor, ↓e_ishl, ↓e_ishr, ↓e_iushr, ↓e_ladd, ↓e_lsub, ↓e_lmul, ↓e_land, ↓e_lor, ↓e_idiv, ↓e_irem, ↓e_ldiv, ↓e_lrem, ↓e_lshl, ↓e_lcmp, ↓e_i2l, ↓e_l2i, ↓e_i2b, ↓e_i2s, ↓e_dup_int, ↓e_pop_int, ↓e_dup_ref, ↓e_pop_ref, ↓e_dup2, ↓e_goto, ↓e_nop, ↓e_ifCond_eq, ↓e_if_icmp_eq, ↓e_ifCond_ne, ↓e_if_icmp_ne, ↓e_ifCond_lt, ↓e_if_icmp_lt, ↓e_ifCond_ge, ↓e_if_icmp_ge, ↓e_ifCond_gt, ↓e_if_icmp_gt, ↓e_ifCond_le, ↓e_if_icmp_le, ↓e_tab, ↓e_look, ↓e_get0, ↓e_get1, ↓e_get2, ↓e_get3, ↓e_put0, ↓e_put1, ↓e_put2, ↓e_put3, ↓e_iaload, ↓e_laload, ↓e_baload, ↓e_aaload, ↓e_iastore, ↓e_lastore, ↓e_bastore, ↓e_aastore, ↓e_alen, ↓e_new, ↓e_newarray, ↓e_anewarray, ↓e_objinit, ↓e_virt1, ↓e_virt2, ↓e_virt3, ↓e_virt4, ↓e_virt5, ↓e_virt6, ↓e_virt7, ↓e_stat0, ↓e_stat1, ↓e_stat2, ↓e_stat3, ↓e_stat4, ↓e_stat5, ↓e_stat6, ↓e_stat7, ↓e_spec1, ↓e_spec2, ↓e_spec3, ↓e_spec4, ↓e_spec5, ↓e_strlen, ↓e_charAt, ↓e_copy, ↓e_iret0, ↓e_iret1, ↓e_lret, ↓e_aret, ↓e_vret, zIsI_int, zIsL_long, zIsA_ref, zInt_int, true_and, and_true, ↓reduceIte, zGet, zSet, zSet2, zEnt, zWid, Value.category, List.map_cons, List.map_nil, List.sum_cons, List.sum_nil, List.replicate, Option.toList, Nat.reduceAdd, Nat.reduceSub, Nat.reduceMul, Nat.reduceLeDiff, Nat.reduceEqDiff, Nat.reduceLT, List.cons_append, List.nil_append, true_or, or_true, or_false, false_or, nI_ltI, nI_leI, nI_eq, nI_clamp, zIn_nI, bI_0, nI_add, nI_mul, nI_or, nI_and, nI_shl1, nI_bit, ↓pk_rem, pk_div, Nat.lt_irrefl, Nat.not_lt_zero, reduceCtorEq, mn14, M.k, M.r0, M.r1, M.r5, M.r6, M.r7, M.r8, M.r9, M.r21, M.r24, M.r25, M.r28, M.r29, M.r30, M.r31, M.r35, M.r36, M.r37, M.r38, M.r40, M.r43, M.r44, M.r45, M.k121, M.k122, M.k123, M.k124, M.k125, M.k126, M.k127, M.k128, M.k129, M.k130, M.k131, M.k132, M.k133, M.k134, M.k135, M.k136, M.k137, M.k138, M.k139, M.k140, M.k141, M.k142, X.m.a2, ↓e1]
      rfl
    | inr x =>
      have px : TkOk B n x.2 := by rw [piece_n hp]; exact nx_ok H
      rw [hp] at P1 e1
      have e1 : ∀ K, zC (d + 6) 256 [.ref 120, .int (nI 16), .int (nI A.nc), .int (nI (1652 + 6 * m + 1))] σ K = K (some (.int (nI 1))) τ1 := e1
      obtain ⟨X2, g2⟩ := X.pc O hm (p := (14, x.1, 0, 0, 0)) P1 (by decide) rfl rfl rfl rfl rfl
      dsimp only
      have M2 := X2.m.m
      obtain ⟨τ2, P2, e2⟩ := m_paperTo (d := d + 1) X2 px h9 O N (to := 1652 + 6 * m + 2) (by omega) (by omega)
      have e2 : ∀ K, zC (d + 6) 265 [.ref 120, .int (nI (1652 + 6 * m + 2))] τ1 K = K (some (.int (bI (okR (piece B n A 112 x.2))))) τ2 := e2
      cases hp2 : piece B n A 112 x.2 with
      | inl e =>
        rw [hp2] at P2 e2
        have e2 : ∀ K, zC (d + 6) 265 [.ref 120, .int (nI (1652 + 6 * m + 2))] τ1 K = K (some (.int (nI 0))) τ2 := e2
        refine ⟨τ2, ⟨g2.tr P2.1, P2.2⟩, fun K => ?_⟩
        rw [E_268]
        simp (disch := omega) only [L_268_0, zt_268_0, L_268_48, zt_268_48, L_268_56, zt_268_56, L_268_80, zt_268_80, L_268_81, zt_268_81, L_268_82, zt_268_82, L_268_114, zt_268_114, L_268_115, zt_268_115, L_268_116, zt_268_116, L_268_127, zt_268_127, L_268_133, zt_268_133, show zTab 1 (132) (10) (17) #[47, 47, 55, 132, 81, 132, 126, 115] (nI 14) = 82 from by decide, ↓e_iconst0, ↓e_iconst1, ↓e_bipush0, ↓e_bipush1, ↓e_sipush0, ↓e_sipush1, ↓e_ldc0, ↓e_ldc1, ↓e_ldc_w0, ↓e_ldc_w1, ↓e_ldc2, ↓e_lconst0, ↓e_lconst1, ↓e_ldc2_w0, ↓e_ldc2_w1, ↓e_iload, ↓e_iload_n, ↓e_istore, ↓e_istore_n, ↓e_lload, ↓e_lload_n, ↓e_lstore, ↓e_lstore_n, ↓e_aload, ↓e_aload_n, ↓e_astore, ↓e_astore_n, ↓e_iinc0, ↓e_iinc1, ↓e_iadd, ↓e_isub, ↓e_imul, ↓e_iand, ↓e_ior, ↓e_ixor, ↓e_ishl, ↓e_ishr, ↓e_iushr, ↓e_ladd, ↓e_lsub, ↓e_lmul, ↓e_land, ↓e_lor, ↓e_idiv, ↓e_irem, ↓e_ldiv, ↓e_lrem, ↓e_lshl, ↓e_lcmp, ↓e_i2l, ↓e_l2i, ↓e_i2b, ↓e_i2s, ↓e_dup_int, ↓e_pop_int, ↓e_dup_ref, ↓e_pop_ref, ↓e_dup2, ↓e_goto, ↓e_nop, ↓e_ifCond_eq, ↓e_if_icmp_eq, ↓e_ifCond_ne, ↓e_if_icmp_ne, ↓e_ifCond_lt, ↓e_if_icmp_lt, ↓e_ifCond_ge, ↓e_if_icmp_ge, ↓e_ifCond_gt, ↓e_if_icmp_gt, ↓e_ifCond_le, ↓e_if_icmp_le, ↓e_tab, ↓e_look, ↓e_get0, ↓e_get1, ↓e_get2, ↓e_get3, ↓e_put0, ↓e_put1, ↓e_put2, ↓e_put3, ↓e_iaload, ↓e_laload, ↓e_baload, ↓e_aaload, ↓e_iastore, ↓e_lastore, ↓e_bastore, ↓e_aastore, ↓e_alen, ↓e_new, ↓e_newarray, ↓e_anewarray, ↓e_objinit, ↓e_virt1, ↓e_virt2, ↓e_virt3, ↓e_virt4, ↓e_virt5, ↓e_virt6, ↓e_virt7, ↓e_stat0, ↓e_stat1, ↓e_stat2, ↓e_stat3, ↓e_stat4, ↓e_stat5, ↓e_stat6, ↓e_stat7, ↓e_spec1, ↓e_spec2, ↓e_spec3, ↓e_spec4, ↓e_spec5, ↓e_strlen, ↓e_charAt, ↓e_copy, ↓e_iret0, ↓e_iret1, ↓e_lret, ↓e_aret, ↓e_vret, zIsI_int, zIsL_long, zIsA_ref, zInt_int, true_and, and_true, ↓reduceIte, zGet, zSet, zSet2, zEnt, zWid, Value.category, List.map_cons, List.map_nil, List.sum_cons, List.sum_nil, List.replicate, Option.toList, Nat.reduceAdd, Nat.reduceSub, Nat.reduceMul, Nat.reduceLeDiff, Nat.reduceEqDiff, Nat.reduceLT, List.cons_append, List.nil_append, true_or, or_true, or_false, false_or, nI_ltI, nI_leI, nI_eq, nI_clamp, zIn_nI, bI_0, nI_add, nI_mul, nI_or, nI_and, nI_shl1, nI_bit, ↓pk_rem, pk_div, Nat.lt_irrefl, Nat.not_lt_zero, reduceCtorEq, mn14, M.k, M.r0, M.r1, M.r5, M.r6, M.r7, M.r8, M.r9, M.r21, M.r24, M.r25, M.r28, M.r29, M.r30, M.r31, M.r35, M.r36, M.r37, M.r38, M.r40, M.r43, M.r44, M.r45, M.k121, M.k122, M.k123, M.k124, M.k125, M.k126, M.k127, M.k128, M.k129, M.k130, M.k131, M.k132, M.k133, M.k134, M.k135, M.k136, M.k137, M.k138, M.k139, M.k140, M.k141, M.k142, X.m.a2, ↓e1, M2.k, ↓e2]
        rfl
      | inr y =>
        rw [hp2] at P2 e2
        have e2 : ∀ K, zC (d + 6) 265 [.ref 120, .int (nI (1652 + 6 * m + 2))] τ1 K = K (some (.int (nI 1))) τ2 := e2
        obtain ⟨X3, g3⟩ := X2.pc O hm (p := drow 14 14 (some x.1) (some y.1)) P2 (by decide) rfl rfl rfl rfl rfl
        refine ⟨τ2, ⟨g2.tr g3, X3⟩, fun K => ?_⟩
        rw [E_268]
        simp (disch := omega) only [L_268_0, zt_268_0, L_268_48, zt_268_48, L_268_56, zt_268_56, L_268_80, zt_268_80, L_268_81, zt_268_81, L_268_82, zt_268_82, L_268_114, zt_268_114, L_268_115, zt_268_115, L_268_116, zt_268_116, L_268_127, zt_268_127, L_268_133, zt_268_133, show zTab 1 (132) (10) (17) #[47, 47, 55, 132, 81, 132, 126, 115] (nI 14) = 82 from by decide, ↓e_iconst0, ↓e_iconst1, ↓e_bipush0, ↓e_bipush1, ↓e_sipush0, ↓e_sipush1, ↓e_ldc0, ↓e_ldc1, ↓e_ldc_w0, ↓e_ldc_w1, ↓e_ldc2, ↓e_lconst0, ↓e_lconst1, ↓e_ldc2_w0, ↓e_ldc2_w1, ↓e_iload, ↓e_iload_n, ↓e_istore, ↓e_istore_n, ↓e_lload, ↓e_lload_n, ↓e_lstore, ↓e_lstore_n, ↓e_aload, ↓e_aload_n, ↓e_astore, ↓e_astore_n, ↓e_iinc0, ↓e_iinc1, ↓e_iadd, ↓e_isub, ↓e_imul, ↓e_iand, ↓e_ior, ↓e_ixor, ↓e_ishl, ↓e_ishr, ↓e_iushr, ↓e_ladd, ↓e_lsub, ↓e_lmul, ↓e_land, ↓e_lor, ↓e_idiv, ↓e_irem, ↓e_ldiv, ↓e_lrem, ↓e_lshl, ↓e_lcmp, ↓e_i2l, ↓e_l2i, ↓e_i2b, ↓e_i2s, ↓e_dup_int, ↓e_pop_int, ↓e_dup_ref, ↓e_pop_ref, ↓e_dup2, ↓e_goto, ↓e_nop, ↓e_ifCond_eq, ↓e_if_icmp_eq, ↓e_ifCond_ne, ↓e_if_icmp_ne, ↓e_ifCond_lt, ↓e_if_icmp_lt, ↓e_ifCond_ge, ↓e_if_icmp_ge, ↓e_ifCond_gt, ↓e_if_icmp_gt, ↓e_ifCond_le, ↓e_if_icmp_le, ↓e_tab, ↓e_look, ↓e_get0, ↓e_get1, ↓e_get2, ↓e_get3, ↓e_put0, ↓e_put1, ↓e_put2, ↓e_put3, ↓e_iaload, ↓e_laload, ↓e_baload, ↓e_aaload, ↓e_iastore, ↓e_lastore, ↓e_bastore, ↓e_aastore, ↓e_alen, ↓e_new, ↓e_newarray, ↓e_anewarray, ↓e_objinit, ↓e_virt1, ↓e_virt2, ↓e_virt3, ↓e_virt4, ↓e_virt5, ↓e_virt6, ↓e_virt7, ↓e_stat0, ↓e_stat1, ↓e_stat2, ↓e_stat3, ↓e_stat4, ↓e_stat5, ↓e_stat6, ↓e_stat7, ↓e_spec1, ↓e_spec2, ↓e_spec3, ↓e_spec4, ↓e_spec5, ↓e_strlen, ↓e_charAt, ↓e_copy, ↓e_iret0, ↓e_iret1, ↓e_lret, ↓e_aret, ↓e_vret, zIsI_int, zIsL_long, zIsA_ref, zInt_int, true_and, and_true, ↓reduceIte, zGet, zSet, zSet2, zEnt, zWid, Value.category, List.map_cons, List.map_nil, List.sum_cons, List.sum_nil, List.replicate, Option.toList, Nat.reduceAdd, Nat.reduceSub, Nat.reduceMul, Nat.reduceLeDiff, Nat.reduceEqDiff, Nat.reduceLT, List.cons_append, List.nil_append, true_or, or_true, or_false, false_or, nI_ltI, nI_leI, nI_eq, nI_clamp, zIn_nI, bI_0, nI_add, nI_mul, nI_or, nI_and, nI_shl1, nI_bit, ↓pk_rem, pk_div, Nat.lt_irrefl, Nat.not_lt_zero, reduceCtorEq, mn14, M.k, M.r0, M.r1, M.r5, M.r6, M.r7, M.r8, M.r9, M.r21, M.r24, M.r25, M.r28, M.r29, M.r30, M.r31, M.r35, M.r36, M.r37, M.r38, M.r40, M.r43, M.r44, M.r45, M.k121, M.k122, M.k123, M.k124, M.k125, M.k126, M.k127, M.k128, M.k129, M.k130, M.k131, M.k132, M.k133, M.k134, M.k135, M.k136, M.k137, M.k138, M.k139, M.k140, M.k141, M.k142, X.m.a2, ↓e1, M2.k, ↓e2]
        rfl
  · -- 15
    have X : RDn σ B n T A (S.row m (15, 0, 0, 0, 0)) := X
    rw [bodyQ_0 (w := 15) (by decide) rfl]
    refine ⟨σ, ⟨FN.rf, X⟩, fun K => ?_⟩
    rw [E_268]
    simp (disch := omega) only [L_268_0, zt_268_0, L_268_48, zt_268_48, L_268_56, zt_268_56, L_268_80, zt_268_80, L_268_81, zt_268_81, L_268_82, zt_268_82, L_268_114, zt_268_114, L_268_115, zt_268_115, L_268_116, zt_268_116, L_268_127, zt_268_127, L_268_133, zt_268_133, show zTab 1 (132) (10) (17) #[47, 47, 55, 132, 81, 132, 126, 115] (nI 15) = 133 from by decide, ↓e_iconst0, ↓e_iconst1, ↓e_bipush0, ↓e_bipush1, ↓e_sipush0, ↓e_sipush1, ↓e_ldc0, ↓e_ldc1, ↓e_ldc_w0, ↓e_ldc_w1, ↓e_ldc2, ↓e_lconst0, ↓e_lconst1, ↓e_ldc2_w0, ↓e_ldc2_w1, ↓e_iload, ↓e_iload_n, ↓e_istore, ↓e_istore_n, ↓e_lload, ↓e_lload_n, ↓e_lstore, ↓e_lstore_n, ↓e_aload, ↓e_aload_n, ↓e_astore, ↓e_astore_n, ↓e_iinc0, ↓e_iinc1, ↓e_iadd, ↓e_isub, ↓e_imul, ↓e_iand, ↓e_ior, ↓e_ixor, ↓e_ishl, ↓e_ishr, ↓e_iushr, ↓e_ladd, ↓e_lsub, ↓e_lmul, ↓e_land, ↓e_lor, ↓e_idiv, ↓e_irem, ↓e_ldiv, ↓e_lrem, ↓e_lshl, ↓e_lcmp, ↓e_i2l, ↓e_l2i, ↓e_i2b, ↓e_i2s, ↓e_dup_int, ↓e_pop_int, ↓e_dup_ref, ↓e_pop_ref, ↓e_dup2, ↓e_goto, ↓e_nop, ↓e_ifCond_eq, ↓e_if_icmp_eq, ↓e_ifCond_ne, ↓e_if_icmp_ne, ↓e_ifCond_lt, ↓e_if_icmp_lt, ↓e_ifCond_ge, ↓e_if_icmp_ge, ↓e_ifCond_gt, ↓e_if_icmp_gt, ↓e_ifCond_le, ↓e_if_icmp_le, ↓e_tab, ↓e_look, ↓e_get0, ↓e_get1, ↓e_get2, ↓e_get3, ↓e_put0, ↓e_put1, ↓e_put2, ↓e_put3, ↓e_iaload, ↓e_laload, ↓e_baload, ↓e_aaload, ↓e_iastore, ↓e_lastore, ↓e_bastore, ↓e_aastore, ↓e_alen, ↓e_new, ↓e_newarray, ↓e_anewarray, ↓e_objinit, ↓e_virt1, ↓e_virt2, ↓e_virt3, ↓e_virt4, ↓e_virt5, ↓e_virt6, ↓e_virt7, ↓e_stat0, ↓e_stat1, ↓e_stat2, ↓e_stat3, ↓e_stat4, ↓e_stat5, ↓e_stat6, ↓e_stat7, ↓e_spec1, ↓e_spec2, ↓e_spec3, ↓e_spec4, ↓e_spec5, ↓e_strlen, ↓e_charAt, ↓e_copy, ↓e_iret0, ↓e_iret1, ↓e_lret, ↓e_aret, ↓e_vret, zIsI_int, zIsL_long, zIsA_ref, zInt_int, true_and, and_true, ↓reduceIte, zGet, zSet, zSet2, zEnt, zWid, Value.category, List.map_cons, List.map_nil, List.sum_cons, List.sum_nil, List.replicate, Option.toList, Nat.reduceAdd, Nat.reduceSub, Nat.reduceMul, Nat.reduceLeDiff, Nat.reduceEqDiff, Nat.reduceLT, List.cons_append, List.nil_append, true_or, or_true, or_false, false_or, nI_ltI, nI_leI, nI_eq, nI_clamp, zIn_nI, bI_0, nI_add, nI_mul, nI_or, nI_and, nI_shl1, nI_bit, ↓pk_rem, pk_div, Nat.lt_irrefl, Nat.not_lt_zero, reduceCtorEq, mn15]
    rfl
  · -- 19
    have X : RDn σ B n T A (S.row m (17, 0, 0, 0, 0)) := X
    rw [bodyQ_1 (w := 19) (c := 108) (by decide) rfl]
    obtain ⟨τ1, P1, e1⟩ := m_num (d := d + 3) M X.x X.z H h9 (lo := 1) (hi := 99) (to := 1652 + 6 * m + 1) (by decide) (by decide) (by omega) (by omega)
    have ep : piece B n A 108 T = kN B n 1 99 T fun v T => .inr (v, T) := by unfold piece; rw [if_neg (by decide), if_neg (by decide), if_neg (by decide), if_pos rfl]
    rw [← ep] at P1 e1
    have e1 : ∀ K, zC (d + 6) 248 [.ref 120, .int (nI (1652 + 6 * m + 1)), .int (nI 1), .int (nI 99)] σ K = K (some (.int (bI (okR (piece B n A 108 T))))) τ1 := e1
    cases hp : piece B n A 108 T with
    | inl e =>
      rw [hp] at P1 e1
      refine ⟨τ1, P1, fun K => ?_⟩
      rw [E_268]
      simp (disch := omega) only [L_268_0, zt_268_0, L_268_48, zt_268_48, L_268_56, zt_268_56, L_268_80, zt_268_80, L_268_81, zt_268_81, L_268_82, zt_268_82, L_268_114, zt_268_114, L_268_115, zt_268_115, L_268_116, zt_268_116, L_268_127, zt_268_127, L_268_133, zt_268_133, show zTab 1 (132) (10) (17) #[47, 47, 55, 132, 81, 132, 126, 115] (nI 17) = 116 from by decide, ↓e_iconst0, ↓e_iconst1, ↓e_bipush0, ↓e_bipush1, ↓e_sipush0, ↓e_sipush1, ↓e_ldc0, ↓e_ldc1, ↓e_ldc_w0, ↓e_ldc_w1, ↓e_ldc2, ↓e_lconst0, ↓e_lconst1, ↓e_ldc2_w0, ↓e_ldc2_w1, ↓e_iload, ↓e_iload_n, ↓e_istore, ↓e_istore_n, ↓e_lload, ↓e_lload_n, ↓e_lstore, ↓e_lstore_n, ↓e_aload, ↓e_aload_n, ↓e_astore, ↓e_astore_n, ↓e_iinc0, ↓e_iinc1, ↓e_iadd, ↓e_isub, ↓e_imul, ↓e_iand, ↓e_ior, ↓e_ixor, ↓e_ishl, ↓e_ishr, ↓e_iushr, ↓e_ladd, ↓e_lsub, ↓e_lmul, ↓e_land, ↓e_lor, ↓e_idiv, ↓e_irem, ↓e_ldiv, ↓e_lrem, ↓e_lshl, ↓e_lcmp, ↓e_i2l, ↓e_l2i, ↓e_i2b, ↓e_i2s, ↓e_dup_int, ↓e_pop_int, ↓e_dup_ref, ↓e_pop_ref, ↓e_dup2, ↓e_goto, ↓e_nop, ↓e_ifCond_eq, ↓e_if_icmp_eq, ↓e_ifCond_ne, ↓e_if_icmp_ne, ↓e_ifCond_lt, ↓e_if_icmp_lt, ↓e_ifCond_ge, ↓e_if_icmp_ge, ↓e_ifCond_gt, ↓e_if_icmp_gt, ↓e_ifCond_le, ↓e_if_icmp_le, ↓e_tab, ↓e_look, ↓e_get0, ↓e_get1, ↓e_get2, ↓e_get3, ↓e_put0, ↓e_put1, ↓e_put2, ↓e_put3, ↓e_iaload, ↓e_laload, ↓e_baload, ↓e_aaload, ↓e_iastore, ↓e_lastore, ↓e_bastore, ↓e_aastore, ↓e_alen, ↓e_new, ↓e_newarray, ↓e_anewarray, ↓e_objinit, ↓e_virt1, ↓e_virt2, ↓e_virt3, ↓e_virt4, ↓e_virt5, ↓e_virt6, ↓e_virt7, ↓e_stat0, ↓e_stat1, ↓e_stat2, ↓e_stat3, ↓e_stat4, ↓e_stat5, ↓e_stat6, ↓e_stat7, ↓e_spec1, ↓e_spec2, ↓e_spec3, ↓e_spec4, ↓e_spec5, ↓e_strlen, ↓e_charAt, ↓e_copy, ↓e_iret0, ↓e_iret1, ↓e_lret, ↓e_aret, ↓e_vret, zIsI_int, zIsL_long, zIsA_ref, zInt_int, true_and, and_true, ↓reduceIte, zGet, zSet, zSet2, zEnt, zWid, Value.category, List.map_cons, List.map_nil, List.sum_cons, List.sum_nil, List.replicate, Option.toList, Nat.reduceAdd, Nat.reduceSub, Nat.reduceMul, Nat.reduceLeDiff, Nat.reduceEqDiff, Nat.reduceLT, List.cons_append, List.nil_append, true_or, or_true, or_false, false_or, nI_ltI, nI_leI, nI_eq, nI_clamp, zIn_nI, bI_0, nI_add, nI_mul, nI_or, nI_and, nI_shl1, nI_bit, ↓pk_rem, pk_div, Nat.lt_irrefl, Nat.not_lt_zero, reduceCtorEq, mn19, ↓e1, M.k, bI_1, bI_tf]
      rfl
    | inr x =>
      rw [hp] at P1 e1
      obtain ⟨X2, g2⟩ := X.pc O hm (p := drow 19 19 (some x.1) none) P1 (by decide) rfl rfl rfl rfl rfl
      refine ⟨τ1, ⟨g2, X2⟩, fun K => ?_⟩
      rw [E_268]
      simp (disch := omega) only [L_268_0, zt_268_0, L_268_48, zt_268_48, L_268_56, zt_268_56, L_268_80, zt_268_80, L_268_81, zt_268_81, L_268_82, zt_268_82, L_268_114, zt_268_114, L_268_115, zt_268_115, L_268_116, zt_268_116, L_268_127, zt_268_127, L_268_133, zt_268_133, show zTab 1 (132) (10) (17) #[47, 47, 55, 132, 81, 132, 126, 115] (nI 17) = 116 from by decide, ↓e_iconst0, ↓e_iconst1, ↓e_bipush0, ↓e_bipush1, ↓e_sipush0, ↓e_sipush1, ↓e_ldc0, ↓e_ldc1, ↓e_ldc_w0, ↓e_ldc_w1, ↓e_ldc2, ↓e_lconst0, ↓e_lconst1, ↓e_ldc2_w0, ↓e_ldc2_w1, ↓e_iload, ↓e_iload_n, ↓e_istore, ↓e_istore_n, ↓e_lload, ↓e_lload_n, ↓e_lstore, ↓e_lstore_n, ↓e_aload, ↓e_aload_n, ↓e_astore, ↓e_astore_n, ↓e_iinc0, ↓e_iinc1, ↓e_iadd, ↓e_isub, ↓e_imul, ↓e_iand, ↓e_ior, ↓e_ixor, ↓e_ishl, ↓e_ishr, ↓e_iushr, ↓e_ladd, ↓e_lsub, ↓e_lmul, ↓e_land, ↓e_lor, ↓e_idiv, ↓e_irem, ↓e_ldiv, ↓e_lrem, ↓e_lshl, ↓e_lcmp, ↓e_i2l, ↓e_l2i, ↓e_i2b, ↓e_i2s, ↓e_dup_int, ↓e_pop_int, ↓e_dup_ref, ↓e_pop_ref, ↓e_dup2, ↓e_goto, ↓e_nop, ↓e_ifCond_eq, ↓e_if_icmp_eq, ↓e_ifCond_ne, ↓e_if_icmp_ne, ↓e_ifCond_lt, ↓e_if_icmp_lt, ↓e_ifCond_ge, ↓e_if_icmp_ge, ↓e_ifCond_gt, ↓e_if_icmp_gt, ↓e_ifCond_le, ↓e_if_icmp_le, ↓e_tab, ↓e_look, ↓e_get0, ↓e_get1, ↓e_get2, ↓e_get3, ↓e_put0, ↓e_put1, ↓e_put2, ↓e_put3, ↓e_iaload, ↓e_laload, ↓e_baload, ↓e_aaload, ↓e_iastore, ↓e_lastore, ↓e_bastore, ↓e_aastore, ↓e_alen, ↓e_new, ↓e_newarray, ↓e_anewarray, ↓e_objinit, ↓e_virt1, ↓e_virt2, ↓e_virt3, ↓e_virt4, ↓e_virt5, ↓e_virt6, ↓e_virt7, ↓e_stat0, ↓e_stat1, ↓e_stat2, ↓e_stat3, ↓e_stat4, ↓e_stat5, ↓e_stat6, ↓e_stat7, ↓e_spec1, ↓e_spec2, ↓e_spec3, ↓e_spec4, ↓e_spec5, ↓e_strlen, ↓e_charAt, ↓e_copy, ↓e_iret0, ↓e_iret1, ↓e_lret, ↓e_aret, ↓e_vret, zIsI_int, zIsL_long, zIsA_ref, zInt_int, true_and, and_true, ↓reduceIte, zGet, zSet, zSet2, zEnt, zWid, Value.category, List.map_cons, List.map_nil, List.sum_cons, List.sum_nil, List.replicate, Option.toList, Nat.reduceAdd, Nat.reduceSub, Nat.reduceMul, Nat.reduceLeDiff, Nat.reduceEqDiff, Nat.reduceLT, List.cons_append, List.nil_append, true_or, or_true, or_false, false_or, nI_ltI, nI_leI, nI_eq, nI_clamp, zIn_nI, bI_0, nI_add, nI_mul, nI_or, nI_and, nI_shl1, nI_bit, ↓pk_rem, pk_div, Nat.lt_irrefl, Nat.not_lt_zero, reduceCtorEq, mn19, ↓e1, M.k, bI_1, bI_tf]
      rfl
  · -- 21
    have X : RDn σ B n T A (S.row m (19, 0, 0, 0, 0)) := X
    rw [bodyQ_0 (w := 21) (by decide) rfl]
    refine ⟨σ, ⟨FN.rf, X⟩, fun K => ?_⟩
    rw [E_268]
    simp (disch := omega) only [L_268_0, zt_268_0, L_268_48, zt_268_48, L_268_56, zt_268_56, L_268_80, zt_268_80, L_268_81, zt_268_81, L_268_82, zt_268_82, L_268_114, zt_268_114, L_268_115, zt_268_115, L_268_116, zt_268_116, L_268_127, zt_268_127, L_268_133, zt_268_133, show zTab 1 (132) (10) (17) #[47, 47, 55, 132, 81, 132, 126, 115] (nI 19) = 133 from by decide, ↓e_iconst0, ↓e_iconst1, ↓e_bipush0, ↓e_bipush1, ↓e_sipush0, ↓e_sipush1, ↓e_ldc0, ↓e_ldc1, ↓e_ldc_w0, ↓e_ldc_w1, ↓e_ldc2, ↓e_lconst0, ↓e_lconst1, ↓e_ldc2_w0, ↓e_ldc2_w1, ↓e_iload, ↓e_iload_n, ↓e_istore, ↓e_istore_n, ↓e_lload, ↓e_lload_n, ↓e_lstore, ↓e_lstore_n, ↓e_aload, ↓e_aload_n, ↓e_astore, ↓e_astore_n, ↓e_iinc0, ↓e_iinc1, ↓e_iadd, ↓e_isub, ↓e_imul, ↓e_iand, ↓e_ior, ↓e_ixor, ↓e_ishl, ↓e_ishr, ↓e_iushr, ↓e_ladd, ↓e_lsub, ↓e_lmul, ↓e_land, ↓e_lor, ↓e_idiv, ↓e_irem, ↓e_ldiv, ↓e_lrem, ↓e_lshl, ↓e_lcmp, ↓e_i2l, ↓e_l2i, ↓e_i2b, ↓e_i2s, ↓e_dup_int, ↓e_pop_int, ↓e_dup_ref, ↓e_pop_ref, ↓e_dup2, ↓e_goto, ↓e_nop, ↓e_ifCond_eq, ↓e_if_icmp_eq, ↓e_ifCond_ne, ↓e_if_icmp_ne, ↓e_ifCond_lt, ↓e_if_icmp_lt, ↓e_ifCond_ge, ↓e_if_icmp_ge, ↓e_ifCond_gt, ↓e_if_icmp_gt, ↓e_ifCond_le, ↓e_if_icmp_le, ↓e_tab, ↓e_look, ↓e_get0, ↓e_get1, ↓e_get2, ↓e_get3, ↓e_put0, ↓e_put1, ↓e_put2, ↓e_put3, ↓e_iaload, ↓e_laload, ↓e_baload, ↓e_aaload, ↓e_iastore, ↓e_lastore, ↓e_bastore, ↓e_aastore, ↓e_alen, ↓e_new, ↓e_newarray, ↓e_anewarray, ↓e_objinit, ↓e_virt1, ↓e_virt2, ↓e_virt3, ↓e_virt4, ↓e_virt5, ↓e_virt6, ↓e_virt7, ↓e_stat0, ↓e_stat1, ↓e_stat2, ↓e_stat3, ↓e_stat4, ↓e_stat5, ↓e_stat6, ↓e_stat7, ↓e_spec1, ↓e_spec2, ↓e_spec3, ↓e_spec4, ↓e_spec5, ↓e_strlen, ↓e_charAt, ↓e_copy, ↓e_iret0, ↓e_iret1, ↓e_lret, ↓e_aret, ↓e_vret, zIsI_int, zIsL_long, zIsA_ref, zInt_int, true_and, and_true, ↓reduceIte, zGet, zSet, zSet2, zEnt, zWid, Value.category, List.map_cons, List.map_nil, List.sum_cons, List.sum_nil, List.replicate, Option.toList, Nat.reduceAdd, Nat.reduceSub, Nat.reduceMul, Nat.reduceLeDiff, Nat.reduceEqDiff, Nat.reduceLT, List.cons_append, List.nil_append, true_or, or_true, or_false, false_or, nI_ltI, nI_leI, nI_eq, nI_clamp, zIn_nI, bI_0, nI_add, nI_mul, nI_or, nI_and, nI_shl1, nI_bit, ↓pk_rem, pk_div, Nat.lt_irrefl, Nat.not_lt_zero, reduceCtorEq, mn21]
    rfl
end DM2
